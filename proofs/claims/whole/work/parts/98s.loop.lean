/-! clause behind clause, both sides -/
section CL
variable {T : Nat → Int} {n : Nat} {s M : Hp}
noncomputable def rd_b (K : Int) (C : Hp → Int → Option Hp) (s : Hp) (x2 : Int) : Option ((Int × Hp) ⊕ ((Int × Hp) ⊕ (Int × Hp))) :=
  if w32 K < w32 x2 then some (.inr (.inl (x2, s))) else (xt_failed s).bind fun o2 => if w32 o2 = 0 then (C s x2).bind fun o7 => (xt_ended o7).bind fun o11 => if w32 o11 = 0 then (xt_needSign o7 59).bind fun o16 => some (.inl (x2 + 1, o16)) else (xt_fault o7).bind fun o20 => some (.inr (.inr (o20, o7))) else some (.inr (.inl (x2, s)))
noncomputable def rd_c (K : Int) (C : Hp → Int → Option Hp) (s : Hp) (k : Int) : Option (Int × Hp) :=
  (lp (fun (q : Int × Hp) => rd_b K C q.2 q.1) (k, s)).bind fun q5 => q5.elim (fun q9 => (xt_fault q9.2).bind fun o11 => some (o11, q9.2)) (fun r => some r)
noncomputable def rd_m (M : Hp) : Option (Int × Hp) :=
  (xm_clauseHere M).bind fun o23 => (lp (fun (q : Int × Hp) => xm_readsAll_b35 q.2 q.1) (o23.1, o23.2)).bind fun q27 => xm_readsAll_j66 q27.2 q27.1
theorem ite_sm {α : Type} {c : Prop} [Decidable c] {x : α} : (if c then x else x) = x := by split <;> rfl
theorem ce_ok {p : Nat} (hb : TB T n) (h : TC T n s) (hp : s 1 2 = (p : Int)) (hpn : p ≤ n) : xt_ended s = some (if p < n then 0 else 1) := by
  have hb1 := hb.1
  unfold xt_ended
  rw [hp, h.1, w32_eq (x := (p : Int)) (by omega) (by omega), w32_eq (x := (n : Int)) (by omega) (by omega)]
  by_cases hq : p < n
  · rw [if_pos (by omega), if_pos hq]
  · rw [if_neg (by omega), if_neg hq]
/-- behind a fault a sign that is wanted changes the place alone -/
theorem cn_fault {p : Nat} {c : Int} (hb : TB T n) (h : TC T n s) (hp : s 1 2 = (p : Int)) (hpn : p ≤ n) (c0 : 0 ≤ c) (c1 : c ≤ 255) (f0 : 0 < s 1 3) (f1 : s 1 3 < 10000) : ∃ s1, xt_needSign s c = some s1 ∧ (s1 = s ∨ ∃ v : Nat, v ≤ n ∧ s1 = uh s 1 2 (v : Int)) := by
  unfold xt_needSign
  rw [ct_sign hb h hp hpn c0 c1]
  simp only [obs]
  by_cases hq : p < n ∧ T p = c
  · rw [if_pos hq, if_neg (c := w32 1 = 0) (by decide)]
    exact ⟨_, rfl, Or.inr ⟨_, skp_le (by omega), rfl⟩⟩
  · rw [if_neg hq, if_pos (c := w32 0 = 0) (by decide)]
    unfold xt_failHere xt_fail
    rw [w32_eq (x := s 1 3) (by omega) (by omega), if_neg (by omega)]
    exact ⟨_, rfl, Or.inl rfl⟩
theorem RF_c {v : Nat} (h : RF T n s M) (hv : v ≤ n) : RF T n (uh s 1 2 (v : Int)) M := by
  obtain ⟨tc, tm, f1, f2, f3, hp⟩ := h
  refine ⟨TC_u tc (by decide), tm, by rw [uh_ro _ _ _ _ (by decide)]; exact f1, by rw [uh_ro _ _ _ _ (by decide)]; exact f2, by rw [uh_ro _ _ _ _ (by decide)]; exact f3, v, uh_rc _ _ _ _, hv⟩
theorem rj_88 {f : Int} (h : M 146 9 = f) (f0 : 0 < f) (f1 : f < 10000) : xm_readsAll_j88 M = some (0, uh M 146 1 0) := by
  unfold xm_readsAll_j88
  simp only [obs]
  rw [if_neg (c := w32 (uh M 146 1 0 146 9) = 0) (by rw [uh_ro _ _ _ _ (by decide), h, w32_eq (by omega) (by omega)]; omega)]
/-- a clause with a fault ends it on both sides -/
theorem rd_fault {K k : Nat} {C : Hp → Int → Option Hp} {W : Hp → Hp → Prop} {J : Nat → Hp → Hp → Prop} {s1 M1 : Hp} (hb : TB T n) (hK : K < 1000) (hk : k ≤ K) (rp : RP T n s M) (e1 : C s (k : Int) = some s1) (e2 : xm_clauseHere M = some (0, M1)) (w1 : W s1 M1) (rf : RF T n s1 M1) (hWc : ∀ s M q v, (q = 2 ∨ q = 3) → W s M → W (uh s 1 q v) M) : ∃ f s1 b M1, rd_c (K : Int) C s (k : Int) = some (f, s1) ∧ rd_m M = some (b, uh M1 146 1 0) ∧ W s1 M1 ∧ TC T n s1 ∧ TM T n M1 ∧ M1 146 9 = f ∧ ((b = 1 ∧ f = 0 ∧ ∃ k1, k1 ≤ K ∧ 0 < k1 ∧ J k1 s1 M1) ∨ (b = 0 ∧ 0 < f ∧ f < 10000)) := by
  have hb1 := hb.1
  obtain ⟨tc, tm, f1, f2, f3, p, hp, hpn⟩ := id rf
  have bd : rd_b (K : Int) C s (k : Int) = (xt_ended s1).bind fun o11 => if w32 o11 = 0 then (xt_needSign s1 59).bind fun o16 => some (.inl ((k : Int) + 1, o16)) else (xt_fault s1).bind fun o20 => some (.inr (.inr (o20, s1))) := by
    unfold rd_b
    rw [w32_eq (x := (K : Int)) (by omega) (by omega), w32_eq (x := (k : Int)) (by omega) (by omega), if_neg (by omega), cf_ok rp.2.2.1]
    simp only [obs]
    rw [if_pos (by decide), e1]
    rfl
  rw [ce_ok hb tc hp hpn] at bd
  simp only [obs] at bd
  have hm : rd_m M = some (0, uh M1 146 1 0) := by
    unfold rd_m
    rw [e2]
    simp only [obs]
    have b35 : xm_readsAll_b35 M1 0 = some (.inr (0, M1)) := by
      unfold xm_readsAll_b35
      rw [if_pos (by decide)]
    rw [lp_en (B := fun (q : Int × Hp) => xm_readsAll_b35 q.2 q.1) (s := (0, M1)) b35]
    simp only [obs]
    unfold xm_readsAll_j66
    rw [if_pos (by decide)]
    exact rj_88 f1.symm f2 f3
  by_cases hq : p < n
  · rw [if_pos hq] at bd
    rw [if_pos (by decide)] at bd
    obtain ⟨s2, g1, g2⟩ := cn_fault (c := 59) hb tc hp hpn (by decide) (by decide) f2 f3
    rw [g1] at bd
    simp only [obs] at bd
    have hs2 : W s2 M1 ∧ RF T n s2 M1 ∧ s2 1 3 = s1 1 3 := by
      rcases g2 with rfl | ⟨v, hv, rfl⟩
      · exact ⟨w1, rf, rfl⟩
      · exact ⟨hWc _ _ 2 _ (Or.inl rfl) w1, RF_c rf hv, uh_ro _ _ _ _ (by decide)⟩
    obtain ⟨w2, rf2, h13⟩ := hs2
    have bd2 : rd_b (K : Int) C s2 ((k : Int) + 1) = some (.inr (.inl ((k : Int) + 1, s2))) := by
      unfold rd_b
      rw [cf_no rf2.2.2.2.1 rf2.2.2.2.2.1]
      simp only [obs]
      rw [if_neg (c := w32 1 = 0) (by decide), ite_sm]
    refine ⟨s1 1 3, s2, 0, M1, ?_, hm, w2, rf2.1, tm, f1.symm, Or.inr ⟨rfl, f2, f3⟩⟩
    unfold rd_c
    rw [lp_in (B := fun (q : Int × Hp) => rd_b (K : Int) C q.2 q.1) (s := ((k : Int), s)) bd]
    rw [lp_en (B := fun (q : Int × Hp) => rd_b (K : Int) C q.2 q.1) (s := ((k : Int) + 1, s2)) bd2]
    show some (s2 1 3, s2) = _
    rw [h13]
  · rw [if_neg hq] at bd
    rw [if_neg (by decide)] at bd
    refine ⟨s1 1 3, s1, 0, M1, ?_, hm, w1, tc, tm, f1.symm, Or.inr ⟨rfl, f2, f3⟩⟩
    unfold rd_c
    rw [lp_en (B := fun (q : Int × Hp) => rd_b (K : Int) C q.2 q.1) (s := ((k : Int), s)) bd]
    rfl
/-- the whole of a text, both sides: W stands always, J k behind k clauses -/
theorem rd_both {K : Nat} {C : Hp → Int → Option Hp} {W : Hp → Hp → Prop} {J : Nat → Hp → Hp → Prop} (hb : TB T n) (hK : K < 1000)
    (hC : ∀ (k : Nat) (s M : Hp), k ≤ K → RP T n s M → W s M → J k s M → ∃ s1 b M1, C s (k : Int) = some s1 ∧ xm_clauseHere M = some (b, M1) ∧ W s1 M1 ∧ ((b = 1 ∧ RP T n s1 M1 ∧ J (k + 1) s1 M1 ∧ k < K) ∨ (b = 0 ∧ RF T n s1 M1)))
    (hWc : ∀ s M q v, (q = 2 ∨ q = 3) → W s M → W (uh s 1 q v) M) (hWm : ∀ s M q v, (q = 8 ∨ q = 9) → W s M → W s (uh M 146 q v))
    (hJc : ∀ k s M v, J k s M → J k (uh s 1 2 v) M) (hJm : ∀ k s M v, J k s M → J k s (uh M 146 8 v)) :
    ∀ (g k : Nat) (s M : Hp), g = K - k → k ≤ K → RP T n s M → W s M → J k s M → ∃ f s1 b M1, rd_c (K : Int) C s (k : Int) = some (f, s1) ∧ rd_m M = some (b, uh M1 146 1 0) ∧ W s1 M1 ∧ TC T n s1 ∧ TM T n M1 ∧ M1 146 9 = f ∧ ((b = 1 ∧ f = 0 ∧ ∃ k1, k1 ≤ K ∧ 0 < k1 ∧ J k1 s1 M1) ∨ (b = 0 ∧ 0 < f ∧ f < 10000)) := by
  intro g
  induction g with
  | zero =>
    intro k s M hg hk rp hw hj
    have hb1 := hb.1
    obtain ⟨s1, b, M1, e1, e2, w1, hr⟩ := hC k s M hk rp hw hj
    rcases hr with ⟨-, -, -, hlt⟩ | ⟨rfl, rf⟩
    · omega
    exact rd_fault hb hK hk rp e1 e2 w1 rf hWc
  | succ g ih =>
    intro k s M hg hk rp hw hj
    have hb1 := hb.1
    obtain ⟨s1, b, M1, e1, e2, w1, hr⟩ := hC k s M hk rp hw hj
    rcases hr with ⟨rfl, rp1, j1, hlt⟩ | ⟨rfl, rf⟩
    · obtain ⟨tc, tm, s3, m9, i, hi, hin, hs2⟩ := id rp1
      have hle := skp_le (p := isB T) hin
      have hid := skp_id (p := isB T) (n := n) (i := i)
      have see1 := rt_blanks hb tm hi hin
      generalize skp (isB T) n i = p at hle hid hs2 see1
      have bd : rd_b (K : Int) C s (k : Int) = (xt_ended s1).bind fun o11 => if w32 o11 = 0 then (xt_needSign s1 59).bind fun o16 => some (.inl ((k : Int) + 1, o16)) else (xt_fault s1).bind fun o20 => some (.inr (.inr (o20, s1))) := by
        unfold rd_b
        rw [w32_eq (x := (K : Int)) (by omega) (by omega), w32_eq (x := (k : Int)) (by omega) (by omega), if_neg (by omega), cf_ok rp.2.2.1]
        simp only [obs]
        rw [if_pos (by decide), e1]
        rfl
      rw [ce_ok hb tc hs2 hle] at bd
      simp only [obs] at bd
      unfold rd_m
      rw [e2]
      simp only [obs]
      have tmp := TM_u (q := 8) (v := (p : Int)) tm (by decide)
      have m9p : uh M1 146 8 (p : Int) 146 9 = 0 := by rw [uh_ro _ _ _ _ (by decide)]; exact m9
      have m8p : uh M1 146 8 (p : Int) 146 8 = (p : Int) := uh_rc _ _ _ _
      have see2 := rt_blanks hb tmp m8p hle
      rw [hid, uh_uh] at see2
      have b35 : xm_readsAll_b35 M1 1 = if (if p < n then T p else -1) = 59 then (xm_clauseHere (uh M1 146 8 ((p + 1 : Nat) : Int))).bind fun o11 => some (.inl (o11.1, o11.2)) else some (.inr (1, uh M1 146 8 (p : Int))) := by
        unfold xm_readsAll_b35
        rw [if_neg (by decide), see1]
        simp only [obs]
        rw [m8p, uh_uh, show w32 59 = 59 by decide, w32_eq (x := if p < n then T p else -1) (by split <;> first | omega | (have := hb.2 p (by assumption); omega)) (by split <;> first | omega | (have := hb.2 p (by assumption); omega))]
        rfl
      by_cases hpn : p < n
      · have tbp := hb.2 p hpn
        rw [if_pos hpn] at bd
        rw [if_pos (by decide)] at bd
        rw [if_pos hpn] at b35 see2
        unfold xt_needSign at bd
        rw [ct_sign hb tc hs2 hle (by decide) (by decide)] at bd
        simp only [obs] at bd
        by_cases h59 : T p = 59
        · rw [if_pos (c := p < n ∧ T p = 59) ⟨hpn, h59⟩] at bd
          rw [if_neg (c := w32 1 = 0) (by decide)] at bd
          rw [if_pos h59] at b35
          have rp2 : RP T n (uh s1 1 2 ((skp (isB T) n (p + 1) : Nat) : Int)) (uh M1 146 8 ((p + 1 : Nat) : Int)) := ⟨TC_u tc (by decide), TM_u tm (by decide), by rw [uh_ro _ _ _ _ (by decide)]; exact s3, by rw [uh_ro _ _ _ _ (by decide)]; exact m9, p + 1, uh_rc _ _ _ _, by omega, uh_rc _ _ _ _⟩
          obtain ⟨f, s2, b2, M2, r1, r2, r3⟩ := ih (k + 1) _ _ (by omega) (by omega) rp2 (hWm _ _ 8 _ (Or.inl rfl) (hWc _ _ 2 _ (Or.inl rfl) w1)) (hJm _ _ _ _ (hJc _ _ _ _ j1))
          refine ⟨f, s2, b2, M2, ?_, ?_, r3⟩
          · unfold rd_c at r1 ⊢
            rw [lp_in (B := fun (q : Int × Hp) => rd_b (K : Int) C q.2 q.1) (s := ((k : Int), s)) bd]
            rw [show ((k + 1 : Nat) : Int) = (k : Int) + 1 by omega] at r1
            exact r1
          · unfold rd_m at r2
            cases hx : xm_clauseHere (uh M1 146 8 ((p + 1 : Nat) : Int)) with
            | none => rw [hx] at r2; cases r2
            | some o =>
              rw [hx] at r2 b35
              simp only [obs] at r2 b35
              rw [lp_in (B := fun (q : Int × Hp) => xm_readsAll_b35 q.2 q.1) (s := (1, M1)) b35]
              exact r2
        · rw [if_neg (c := p < n ∧ T p = 59) (fun q => h59 q.2)] at bd
          rw [if_pos (c := w32 0 = 0) (by decide)] at bd
          rw [if_neg h59] at b35
          unfold xt_failHere at bd
          rw [ct_fail s3] at bd
          simp only [obs] at bd
          rw [hs2] at bd
          have rf2 := RF_mk (i := p) (p := p) (c := 0) tc tmp hb1 hs2 hle hle (by decide) (by decide)
          obtain ⟨tc2, tm2, g1, g2, g3, -⟩ := id rf2
          refine ⟨_, _, 0, uh (uh M1 146 8 (p : Int)) 146 9 (1 + 8 * (p : Int) + 0), ?_, ?_, hWm _ _ 9 _ (Or.inr rfl) (hWm _ _ 8 _ (Or.inl rfl) (hWc _ _ 3 (1 + 8 * (p : Int) + 0) (Or.inr rfl) w1)), tc2, tm2, rfl, Or.inr ⟨rfl, by rw [uh_rc]; omega, by rw [uh_rc]; omega⟩⟩
          · unfold rd_c
            rw [lp_in (B := fun (q : Int × Hp) => rd_b (K : Int) C q.2 q.1) (s := ((k : Int), s)) bd]
            have bd2 : rd_b (K : Int) C (uh s1 1 3 (1 + 8 * (p : Int) + 0)) ((k : Int) + 1) = some (.inr (.inl ((k : Int) + 1, uh s1 1 3 (1 + 8 * (p : Int) + 0)))) := by
              unfold rd_b
              rw [cf_no g2 g3]
              simp only [obs]
              rw [if_neg (c := w32 1 = 0) (by decide), ite_sm]
            rw [lp_en (B := fun (q : Int × Hp) => rd_b (K : Int) C q.2 q.1) (s := ((k : Int) + 1, uh s1 1 3 (1 + 8 * (p : Int) + 0))) bd2]
            simp only [obs]
            unfold xt_fault
            simp only [Sum.elim_inl, obs]
            rw [uh_rc, uh_rc]
          · rw [lp_en (B := fun (q : Int × Hp) => xm_readsAll_b35 q.2 q.1) (s := (1, M1)) b35]
            simp only [obs]
            unfold xm_readsAll_j66
            rw [if_neg (by decide), see2]
            simp only [obs]
            rw [if_neg (by rw [w32_eq (x := T p) (by omega) (by omega), show w32 (-1) = -1 by decide]; omega), m8p, rm_fails m9p]
            simp only [obs]
            exact rj_88 (uh_rc _ _ _ _) (by omega) (by omega)
      · rw [if_neg hpn] at bd
        rw [if_neg (by decide)] at bd
        rw [if_neg hpn] at b35 see2
        rw [if_neg (by decide)] at b35
        refine ⟨0, s1, 1, uh M1 146 8 (p : Int), ?_, ?_, hWm _ _ 8 _ (Or.inl rfl) w1, tc, tmp, m9p, Or.inl ⟨rfl, rfl, k + 1, by omega, by omega, hJm _ _ _ _ j1⟩⟩
        · unfold rd_c
          unfold xt_fault at bd
          rw [s3] at bd
          rw [lp_en (B := fun (q : Int × Hp) => rd_b (K : Int) C q.2 q.1) (s := ((k : Int), s)) bd]
          rfl
        · rw [lp_en (B := fun (q : Int × Hp) => xm_readsAll_b35 q.2 q.1) (s := (1, M1)) b35]
          simp only [obs]
          unfold xm_readsAll_j66
          rw [if_neg (by decide), see2]
          simp only [obs]
          rw [if_pos (by decide)]
          unfold xm_readsAll_j88
          simp only [obs]
          rw [if_pos (c := w32 (uh (uh M1 146 8 (p : Int)) 146 1 0 146 9) = 0) (by rw [uh_ro _ _ _ _ (by decide), m9p]; decide)]
    · exact rd_fault hb hK hk rp e1 e2 w1 rf hWc
end CL
