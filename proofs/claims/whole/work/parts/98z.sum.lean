/-! sums, both sides -/
noncomputable def lpcr (F : Int × Int × Int × Hp → Option Hp) (r : (Int × Int × Int × Hp) ⊕ ((Int × Int × Int × Hp) ⊕ Hp)) : Option Hp := r.elim F (fun q => q.elim (fun q5 => some q5.2.2.2) (fun r => some r))
noncomputable def lpc (q : Int × Int × Int × Hp) : Option Hp := (lp (fun (q : Int × Int × Int × Hp) => xr_readSum_b7 q.2.2.2 q.1 q.2.1 q.2.2.1) q).bind fun q1 => q1.elim (fun q5 => some q5.2.2.2) (fun r => some r)
theorem lpc_un (x2 x3 x4 : Int) (s : Hp) : lpc (x2, x3, x4, s) = (xr_readSum_b7 s x2 x3 x4).bind (lpcr lpc) := by
  unfold lpc
  cases hx : xr_readSum_b7 s x2 x3 x4 with
  | none =>
    rw [lp_un]
    simp only [hx]
    rfl
  | some r =>
    cases r with
    | inl q => rw [lp_in (B := fun (q : Int × Int × Int × Hp) => xr_readSum_b7 q.2.2.2 q.1 q.2.1 q.2.2.1) (s := (x2, x3, x4, s)) hx]; rfl
    | inr q => rw [lp_en (B := fun (q : Int × Int × Int × Hp) => xr_readSum_b7 q.2.2.2 q.1 q.2.1 q.2.2.1) (s := (x2, x3, x4, s)) hx]; rfl
section SU
variable {T : Nat → Int} {n t k : Nat} {E F : List Tok} {s M : Hp}
theorem CX_2 {v : Nat} (h : CF T n s) (hv : v ≤ n) : CX T n s (uh s 1 2 (v : Int)) := by
  obtain ⟨h1, h2, h3, h4, h5, h6⟩ := h
  refine ⟨⟨TC_u h1 (by decide), ?_, ?_, ⟨v, uh_rc _ _ _ _, hv⟩, ?_, ?_⟩, ?_, HE_1⟩
  · rw [uh_ro _ _ _ _ (by decide)]; exact h2
  · rw [uh_ro _ _ _ _ (by decide)]; exact h3
  · rw [uh_row (by decide)]; exact h5
  · rw [uh_row (by decide)]; exact h6
  · rw [uh_ro _ _ _ _ (by decide)]
theorem CX_sign {c : Int} (hb : TB T n) (h : CF T n s) (c0 : 0 ≤ c) (c1 : c ≤ 255) : ∃ b s1, xt_takeSign s c = some (b, s1) ∧ CX T n s s1 := by
  obtain ⟨h1, h2, h3, ⟨i, hi, hin⟩, h5, h6⟩ := id h
  rw [ct_sign hb h1 hi hin c0 c1]
  by_cases hq : i < n ∧ T i = c
  · rw [if_pos hq]
    exact ⟨_, _, rfl, CX_2 h (skp_le (by omega))⟩
  · rw [if_neg hq]
    exact ⟨_, _, rfl, CX_rf h⟩
theorem CX_fs (hb : TB T n) (h : CF T n s) : ∃ b s1, xr_takeFactorSign s = some (b, s1) ∧ CX T n s s1 := by
  obtain ⟨b1, s1, a1, a2⟩ := CX_sign (c := 42) hb h (by decide) (by decide)
  obtain ⟨b2, s2, a3, a4⟩ := CX_sign (c := 47) hb a2.1 (by decide) (by decide)
  obtain ⟨b3, s3, a5, a6⟩ := CX_sign (c := 37) hb a4.1 (by decide) (by decide)
  unfold xr_takeFactorSign
  rw [a1]
  simp only [obs]
  rw [a3]
  simp only [obs]
  rw [a5]
  simp only [obs]
  split
  · split
    · split
      · exact ⟨_, _, rfl, CX_tr a2 (CX_tr a4 a6)⟩
      · exact ⟨_, _, rfl, CX_tr a2 (CX_tr a4 a6)⟩
    · exact ⟨_, _, rfl, CX_tr a2 a4⟩
  · exact ⟨_, _, rfl, a2⟩
theorem CX_ts (hb : TB T n) (h : CF T n s) : ∃ b s1, xr_takeTermSign s = some (b, s1) ∧ CX T n s s1 := by
  obtain ⟨b1, s1, a1, a2⟩ := CX_sign (c := 43) hb h (by decide) (by decide)
  obtain ⟨b2, s2, a3, a4⟩ := CX_sign (c := 45) hb a2.1 (by decide) (by decide)
  unfold xr_takeTermSign
  rw [a1]
  simp only [obs]
  rw [a3]
  simp only [obs]
  split
  · split
    · exact ⟨_, _, rfl, CX_tr a2 a4⟩
    · exact ⟨_, _, rfl, CX_tr a2 a4⟩
  · exact ⟨_, _, rfl, a2⟩
theorem CX_lpc {x2 x3 x4 : Int} (h : CF T n s) : lpc (x2, x3, x4, s) = some s := by
  rw [lpc_un]
  unfold xr_readSum_b7
  rw [cf_no h.2.1 h.2.2.1]
  simp only [obs]
  rw [if_neg (c := w32 1 = 0) (by decide), ite_sm]
  rfl
theorem CX_j59 {x3 x4 : Int} (hb : TB T n) (h : CF T n s) : ∃ s1, (xr_readSum_b7_j59 s x3 x4).bind (lpcr lpc) = some s1 ∧ CX T n s s1 := by
  obtain ⟨b, s1, a1, a2⟩ := CX_ts hb h
  unfold xr_readSum_b7_j59
  rw [a1]
  simp only [obs]
  split
  · exact ⟨s1, rfl, a2⟩
  · refine ⟨s1, ?_, a2⟩
    show lpc (b, x3, x4 + 1, s1) = _
    exact CX_lpc a2.1
theorem CX_j36 {x2 x4 : Int} (hb : TB T n) (h : CF T n s) : ∃ s1, (xr_readSum_b7_j36 s x2 x4).bind (lpcr lpc) = some s1 ∧ CX T n s s1 := by
  obtain ⟨b, s1, a1, a2⟩ := CX_fs hb h
  unfold xr_readSum_b7_j36
  rw [a1]
  simp only [obs]
  split
  · split
    · obtain ⟨s2, b1, b2⟩ := CX_j59 (x3 := b) (x4 := x4) hb a2.1
      exact ⟨s2, b1, CX_tr a2 b2⟩
    · obtain ⟨s3, d1, d2⟩ := CX_add (c := x2) a2.1
      rw [d1]
      simp only [obs]
      obtain ⟨s2, b1, b2⟩ := CX_j59 (x3 := b) (x4 := x4) hb d2.1
      exact ⟨s2, b1, CX_tr a2 (CX_tr d2 b2)⟩
  · refine ⟨s1, ?_, a2⟩
    show lpc (x2, b, x4 + 1, s1) = _
    exact CX_lpc a2.1
theorem CX_sum (h : CF T n s) : xr_readSum s = some s := CX_lpc h
/-- the sign of a factor, both sides -/
theorem fs_both (hb : TB T n) (h : RP T n s M) : ∃ p : Nat, p ≤ n ∧ RP T n s (uh M 146 8 (p : Int)) ∧ ((∃ op : Nat, (op = 7 ∨ op = 8 ∨ op = 9) ∧ p + 1 ≤ n ∧ xr_takeFactorSign s = some ((op : Int), uh s 1 2 ((skp (isB T) n (p + 1) : Nat) : Int)) ∧ xm_term_b9 M = xm_term_b9_j74 (uh M 146 8 (p : Int)) ((rop op : Nat) : Int)) ∨ (xr_takeFactorSign s = some (-1, s) ∧ xm_term_b9 M = some (.inr (.inl (uh M 146 8 (p : Int)))))) := by
  have hb1 := hb.1
  obtain ⟨p, p1, p2, p3, p4, p5⟩ := RP_see hb h
  obtain ⟨q, q1, q2, q3, q4, -⟩ := RP_see hb p5
  have hpq : q = p := by omega
  subst hpq
  rw [uh_uh] at q4
  have e8 : uh M 146 8 (q : Int) 146 8 = (q : Int) := uh_rc _ _ _ _
  have tmp := p5.2.1
  refine ⟨q, p1, p5, ?_⟩
  unfold xr_takeFactorSign xm_term_b9
  rw [ct_sign hb h.1 p2 p1 (by decide) (by decide), p4]
  simp only [obs]
  rw [q4]
  simp only [obs]
  rw [q4]
  simp only [obs]
  by_cases hq : q < n
  · have tbq := hb.2 q hq
    have j36 : T q ≤ 100 → xm_term_b9_j36 (uh M 146 8 (q : Int)) = if T q = 42 then xm_term_b9_j74 (uh M 146 8 (q : Int)) 4 else if T q = 47 then xm_term_b9_j74 (uh M 146 8 (q : Int)) 5 else xm_term_b9_j74 (uh M 146 8 (q : Int)) 14 := by
      intro hc1
      unfold xm_term_b9_j36
      rw [e8, ixt (n := 400) (j := (q : Int)) q rfl (by omega) (by decide)]
      simp only [obs]
      rw [tmp.2 q hq, w32_w8 tbq.1 tbq.2, if_pos (c := T q < 128) (by omega), show w32 42 = 42 by decide, show w32 47 = 47 by decide]
    rw [if_pos hq, w32_eq (x := T q) (by omega) (by omega), show w32 42 = 42 by decide, show w32 47 = 47 by decide, show w32 37 = 37 by decide]
    by_cases c1 : T q = 42
    · rw [if_pos (c := q < n ∧ T q = 42) ⟨hq, c1⟩, if_pos (c := T q = 42) c1, j36 (by omega), if_pos (c := T q = 42) c1]
      simp only [obs]
      rw [if_neg (c := w32 1 = 0) (by decide)]
      exact Or.inl ⟨7, by omega, by omega, rfl, rfl⟩
    · rw [if_neg (c := q < n ∧ T q = 42) (fun x => c1 x.2), if_neg (c := T q = 42) c1]
      simp only [obs]
      rw [if_pos (c := w32 0 = 0) (by decide), ct_sign hb h.1 p2 p1 (by decide) (by decide)]
      simp only [obs]
      by_cases c2 : T q = 47
      · rw [if_pos (c := q < n ∧ T q = 47) ⟨hq, c2⟩, if_pos (c := T q = 47) c2, j36 (by omega), if_neg (c := T q = 42) c1, if_pos (c := T q = 47) c2]
        simp only [obs]
        rw [if_neg (c := w32 1 = 0) (by decide)]
        exact Or.inl ⟨8, by omega, by omega, rfl, rfl⟩
      · rw [if_neg (c := q < n ∧ T q = 47) (fun x => c2 x.2), if_neg (c := T q = 47) c2]
        simp only [obs]
        rw [if_pos (c := w32 0 = 0) (by decide), ct_sign hb h.1 p2 p1 (by decide) (by decide)]
        simp only [obs]
        by_cases c3 : T q = 37
        · rw [if_pos (c := q < n ∧ T q = 37) ⟨hq, c3⟩, if_pos (c := T q = 37) c3, j36 (by omega), if_neg (c := T q = 42) c1, if_neg (c := T q = 47) c2]
          simp only [obs]
          rw [if_neg (c := w32 1 = 0) (by decide)]
          exact Or.inl ⟨9, by omega, by omega, rfl, rfl⟩
        · rw [if_neg (c := q < n ∧ T q = 37) (fun x => c3 x.2), if_neg (c := T q = 37) c3]
          simp only [obs]
          rw [if_pos (c := w32 0 = 0) (by decide)]
          exact Or.inr ⟨rfl, trivial⟩
  · rw [if_neg hq, if_neg (c := q < n ∧ T q = 42) (fun x => hq x.1)]
    simp only [obs]
    rw [if_pos (c := w32 0 = 0) (by decide), ct_sign hb h.1 p2 p1 (by decide) (by decide), if_neg (c := q < n ∧ T q = 47) (fun x => hq x.1)]
    simp only [obs]
    rw [if_pos (c := w32 0 = 0) (by decide), ct_sign hb h.1 p2 p1 (by decide) (by decide), if_neg (c := q < n ∧ T q = 37) (fun x => hq x.1)]
    simp only [obs]
    rw [if_pos (c := w32 0 = 0) (by decide), if_neg (c := w32 (-1) = w32 42) (by decide), if_neg (c := w32 (-1) = w32 47) (by decide), if_neg (c := w32 (-1) = w32 37) (by decide)]
    exact Or.inr ⟨rfl, rfl⟩
/-- the sign of a term, both sides -/
theorem ts_both (hb : TB T n) (h : RP T n s M) : ∃ p : Nat, p ≤ n ∧ RP T n s (uh M 146 8 (p : Int)) ∧ ((∃ op : Nat, (op = 5 ∨ op = 6) ∧ p + 1 ≤ n ∧ xr_takeTermSign s = some ((op : Int), uh s 1 2 ((skp (isB T) n (p + 1) : Nat) : Int)) ∧ xm_sum_b9 M = xm_sum_b9_j46 (uh M 146 8 (p : Int)) ((rop op : Nat) : Int)) ∨ (xr_takeTermSign s = some (-1, s) ∧ xm_sum_b9 M = some (.inr (.inl (uh M 146 8 (p : Int)))))) := by
  have hb1 := hb.1
  obtain ⟨p, p1, p2, p3, p4, p5⟩ := RP_see hb h
  obtain ⟨q, q1, q2, q3, q4, -⟩ := RP_see hb p5
  have hpq : q = p := by omega
  subst hpq
  rw [uh_uh] at q4
  have e8 : uh M 146 8 (q : Int) 146 8 = (q : Int) := uh_rc _ _ _ _
  have tmp := p5.2.1
  refine ⟨q, p1, p5, ?_⟩
  unfold xr_takeTermSign xm_sum_b9
  rw [ct_sign hb h.1 p2 p1 (by decide) (by decide), p4]
  simp only [obs]
  rw [q4]
  simp only [obs]
  by_cases hq : q < n
  · have tbq := hb.2 q hq
    have j36 : T q ≤ 100 → xm_sum_b9_j27 (uh M 146 8 (q : Int)) = if T q = 43 then xm_sum_b9_j46 (uh M 146 8 (q : Int)) 2 else xm_sum_b9_j46 (uh M 146 8 (q : Int)) 3 := by
      intro hc1
      unfold xm_sum_b9_j27
      rw [e8, ixt (n := 400) (j := (q : Int)) q rfl (by omega) (by decide)]
      simp only [obs]
      rw [tmp.2 q hq, w32_w8 tbq.1 tbq.2, if_pos (c := T q < 128) (by omega), show w32 43 = 43 by decide]
    rw [if_pos hq, w32_eq (x := T q) (by omega) (by omega), show w32 43 = 43 by decide, show w32 45 = 45 by decide]
    by_cases c1 : T q = 43
    · rw [if_pos (c := q < n ∧ T q = 43) ⟨hq, c1⟩, if_pos (c := T q = 43) c1, j36 (by omega), if_pos (c := T q = 43) c1]
      simp only [obs]
      rw [if_neg (c := w32 1 = 0) (by decide)]
      exact Or.inl ⟨5, by omega, by omega, rfl, rfl⟩
    · rw [if_neg (c := q < n ∧ T q = 43) (fun x => c1 x.2), if_neg (c := T q = 43) c1]
      simp only [obs]
      rw [if_pos (c := w32 0 = 0) (by decide), ct_sign hb h.1 p2 p1 (by decide) (by decide)]
      simp only [obs]
      by_cases c2 : T q = 45
      · rw [if_pos (c := q < n ∧ T q = 45) ⟨hq, c2⟩, if_pos (c := T q = 45) c2, j36 (by omega), if_neg (c := T q = 43) c1]
        simp only [obs]
        rw [if_neg (c := w32 1 = 0) (by decide)]
        exact Or.inl ⟨6, by omega, by omega, rfl, rfl⟩
      · rw [if_neg (c := q < n ∧ T q = 45) (fun x => c2 x.2), if_neg (c := T q = 45) c2]
        simp only [obs]
        rw [if_pos (c := w32 0 = 0) (by decide)]
        exact Or.inr ⟨rfl, trivial⟩
  · rw [if_neg hq, if_neg (c := q < n ∧ T q = 43) (fun x => hq x.1)]
    simp only [obs]
    rw [if_pos (c := w32 0 = 0) (by decide), ct_sign hb h.1 p2 p1 (by decide) (by decide), if_neg (c := q < n ∧ T q = 45) (fun x => hq x.1)]
    simp only [obs]
    rw [if_pos (c := w32 0 = 0) (by decide), if_neg (c := w32 (-1) = w32 43) (by decide), if_neg (c := w32 (-1) = w32 45) (by decide)]
    exact Or.inr ⟨rfl, rfl⟩
end SU
