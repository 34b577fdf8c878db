/-! a fact that is a comparison, both sides -/
section LF
variable {T : Nat → Int} {n t k : Nat} {E F : List Tok} {s M : Hp}
noncomputable def leafC (s : Hp) : Option Hp := (xr_readSum s).bind fun o3 => (xr_takeComparison o3).bind fun o7 => (xr_readSum o7.2).bind fun o11 => (xr_addStep o11 o7.1).bind fun o15 => some o15
theorem xm_compare_R (M : Hp) : xm_compare M = (xm_sum M).bind fun o1 => if w32 o1.1 = 0 then some (0, o1.2) else cmpR o1.2 := rfl
/-- an item counted, both sides -/
theorem ci_both {p : Nat} (tc : TC T n s) (tm : TM T n M) (s3 : s 1 3 = 0) (m9 : M 146 9 = 0) (hpos : ∃ i : Nat, s 1 2 = (i : Int) ∧ i ≤ n) (kc : KC E k s) (km : KM t F k M) (hE : E.length < 399) (hk : k ≤ 60) (hp : p ≤ n) (hn : n ≤ 400) : (k = 60 ∧ ∃ s1 M1, xr_countItem s (p : Int) = some s1 ∧ xm_makes M (p : Int) = some (0, M1) ∧ HE s s1 ∧ HU t M M1 ∧ KF T n s1 M1) ∨ (k < 60 ∧ ∃ s1 M1, xr_countItem s (p : Int) = some s1 ∧ xm_makes M (p : Int) = some (1, M1) ∧ HE s s1 ∧ HU t M M1 ∧ KC E (k + 1) s1 ∧ KM t F (k + 1) M1 ∧ s1 1 = s 1 ∧ s1 2 = s 2 ∧ (∀ q, q ≠ 12 → M1 146 q = M 146 q) ∧ ∀ P, P ≠ 146 → M1 P = M P) := by
  obtain ⟨i, hs2, hin⟩ := hpos
  unfold xr_countItem xm_makes
  simp only [obs]
  have e13 : uh s 13 2 ((k : Int) + 1) 13 2 = (k : Int) + 1 := uh_rc _ _ _ _
  rw [kc.2.2, e13, km.2.2.2, w32_eq (x := (k : Int)) (by omega) (by omega), w32_eq (x := (k : Int) + 1) (by omega) (by omega), show w32 60 = 60 by decide]
  have he : HE s (uh s 13 2 ((k : Int) + 1)) := fun P b c d => uh_row c
  by_cases h60 : k = 60
  · refine Or.inl ⟨h60, ?_⟩
    have s3b : uh s 13 2 ((k : Int) + 1) 1 3 = 0 := by rw [uh_row (by decide)]; exact s3
    rw [if_pos (by omega), if_pos (by omega), ct_fail s3b, rm_fails m9]
    simp only [obs]
    rw [if_pos (Or.inl (by decide))]
    have tcb : TC T n (uh s 13 2 ((k : Int) + 1)) := ⟨by rw [uh_row (by decide)]; exact tc.1, by rw [uh_row (by decide)]; exact tc.2⟩
    refine ⟨_, _, rfl, rfl, HE_tr he HE_1, HU_1 (by omega), ⟨RF_mk tcb tm hn (p := i) (by rw [uh_row (by decide)]; exact hs2) hin hp (by decide) (by decide), ?_, ?_⟩⟩
    · rw [uh_row (by decide), uh_ro _ _ _ _ (by decide), kc.1]; omega
    · rw [uh_row (by decide), uh_ro _ _ _ _ (by decide), kc.1]; omega
  · refine Or.inr ⟨by omega, ?_⟩
    rw [if_neg (by omega), if_neg (by omega)]
    refine ⟨_, _, rfl, rfl, he, HU_1 (by omega), ⟨?_, ?_, ?_⟩, ⟨?_, ?_, ?_, ?_⟩, ?_, ?_, fun q hq => uh_ro _ _ _ _ hq, fun P hP => uh_row hP⟩
    · rw [uh_ro _ _ _ _ (by decide)]; exact kc.1
    · rw [uh_row (by decide)]; exact kc.2.1
    · rw [e13]; omega
    · rw [uh_ro _ _ _ _ (by decide)]; exact km.1
    · rw [uh_row (by decide)]; exact km.2.1
    · rw [uh_row (by decide)]; exact km.2.2.1
    · rw [uh_rc]; omega
    · rw [uh_row (by decide)]
    · rw [uh_row (by decide)]
theorem ty_c {op : Nat} {b : List Bool} (h : 10 ≤ op ∧ op ≤ 14) : ty1 (op, 0) (false :: false :: b) = some (true :: b) := by
  unfold ty1
  rw [if_neg (by show ¬ (op = 0); omega), if_neg (by show ¬ (op = 1); omega)]
  show (if op = 2 then _ else if 5 ≤ op ∧ op ≤ 9 then _ else if 10 ≤ op ∧ op ≤ 14 then (if false = false ∧ false = false then some (true :: b) else none) else _) = _
  rw [if_neg (by omega), if_neg (by omega), if_pos h, if_pos ⟨rfl, rfl⟩]
/-- a class that has a fault goes through the rest of a comparison -/
theorem CX_leaf2 {c : Int} (h : CF T n s) : ∃ s1, ((xr_readSum s).bind fun o11 => (xr_addStep o11 c).bind fun o15 => some o15) = some s1 ∧ CX T n s s1 := by
  rw [CX_sum h]
  simp only [obs]
  obtain ⟨s1, a1, a2⟩ := CX_add (c := c) h
  rw [a1]
  exact ⟨s1, rfl, a2⟩
/-- a comparison, both sides -/
theorem lf_both (hb : TB T n) (kr : KR T n t k E F s M) : ∃ (s1 : Hp) (b : Int) (M1 : Hp), leafC s = some s1 ∧ xm_compare M = some (b, M1) ∧ HE s s1 ∧ HU t M M1 ∧ ((b = 1 ∧ ∃ te k1, KR T n t k1 (E ++ te) (F ++ te) s1 M1 ∧ k + 3 ≤ k1 ∧ te.length + 3 ≤ 2 * (k1 - k) ∧ ∀ b : List Bool, b.length + 3 < 31 → tyT te b = some (true :: b)) ∨ (b = 0 ∧ KF T n s1 M1)) := by
  have hb1 := hb.1
  unfold leafC
  rw [xm_compare_R]
  obtain ⟨s1, b, M1, a1, a2, a3, a4, a5⟩ := su_both hb kr
  rw [a1, a2]
  simp only [obs]
  rcases a5 with ⟨rfl, te, k1, kr1, hk1, hl1, tyA⟩ | ⟨rfl, kf⟩
  · rw [if_neg (c := w32 1 = 0) (by decide)]
    obtain ⟨rp, kc, km, ht, hk, hpo, hf⟩ := id kr1
    obtain ⟨p, p1, p2, p3, p4, p5⟩ := RP_see hb rp
    rw [rm_cmp hb rp p2 p1]
    unfold xr_takeComparison xt_where
    simp only [obs]
    rw [ct_cmp hb rp.1 p2 p1]
    simp only [obs]
    cases hc : cmpE T n p with
    | none =>
      simp only
      rw [if_pos trivial]
      unfold xt_failHere
      rw [ct_fail rp.2.2.1, p2]
      simp only [obs]
      have kf : KF T n (uh s1 1 3 (1 + 8 * (p : Int) + 0)) (uh (uh M1 146 8 (p : Int)) 146 9 (1 + 8 * (p : Int) + 0)) := ⟨RF_mk rp.1 p5.2.1 hb1 p2 p1 p1 (by decide) (by decide), by rw [uh_row (by decide), kc.1]; omega, by rw [uh_row (by decide), kc.1]; omega⟩
      obtain ⟨s2, d1, d2⟩ := CX_leaf2 (c := -1) (KF_c kf)
      rw [d1]
      exact ⟨s2, 0, _, rfl, rfl, HE_tr a3 (HE_tr HE_1 d2.2.2), HU_tr a4 (HU_tr (HU_1 (by omega)) (HU_1 (by omega))), Or.inr ⟨rfl, KF_x kf d2⟩⟩
    | some q =>
      obtain ⟨op, e⟩ := q
      obtain ⟨b1, b2, b3, b4⟩ := cmpE_b hc
      simp only
      rw [if_neg (by rw [w32_eq (x := (op : Int)) (by omega) (by omega), show w32 (-1) = -1 by decide]; omega), p2]
      have tcs : TC T n (uh s1 1 2 ((skp (isB T) n e : Nat) : Int)) := TC_u rp.1 (by decide)
      have tme : TM T n (uh M1 146 8 ((e : Nat) : Int)) := TM_u rp.2.1 (by decide)
      rcases ci_both (p := p) tcs tme (by rw [uh_ro _ _ _ _ (by decide)]; exact rp.2.2.1) (by rw [uh_ro _ _ _ _ (by decide)]; exact rp.2.2.2.1) ⟨_, uh_rc _ _ _ _, skp_le b3⟩ (KC_1 kc) (KM_8 km (by decide)) (by omega) hk p1 hb1 with ⟨h60, s2, M2, c1, c2, c3, c4, c5⟩ | ⟨h60, s2, M2, c1, c2, c3, c4, c5, c6, c7, c8, c9, c10⟩
      · rw [c1, c2]
        simp only [obs]
        rw [if_pos (c := w32 0 = 0) (by decide)]
        obtain ⟨s3, d1, d2⟩ := CX_leaf2 (c := (op : Int)) (KF_c c5)
        rw [d1]
        exact ⟨s3, 0, M2, rfl, rfl, HE_tr a3 (HE_tr HE_1 (HE_tr c3 d2.2.2)), HU_tr a4 (HU_tr (HU_1 (by omega)) c4), Or.inr ⟨rfl, KF_x c5 d2⟩⟩
      · rw [c1, c2]
        simp only [obs]
        rw [if_neg (c := w32 1 = 0) (by decide)]
        have kr2 : KR T n t (k1 + 1) (E ++ te) (F ++ te) s2 M2 := ⟨RP_rows (RP_go (p := skp (isB T) n e) (e := e) rp b3 rfl) c7 c8 (fun q hq => c9 q (by omega)) (c10 147 (by decide)), c5, c6, ht, by omega, by omega, hf⟩
        obtain ⟨s3, b', M3, d1, d2, d3, d4, d5⟩ := su_both hb kr2
        unfold xm_compare_j152
        rw [d1, d2]
        simp only [obs]
        have hE3 : HE s s3 := HE_tr a3 (HE_tr HE_1 (HE_tr c3 d3))
        have hU3 : HU t M M3 := HU_tr a4 (HU_tr (HU_1 (by omega)) (HU_tr c4 d4))
        rcases d5 with ⟨rfl, tf, k2, kr3, hk2, hl2, tyB⟩ | ⟨rfl, kf⟩
        · rw [if_neg (c := w32 1 = 0) (by decide)]
          have hp0 := kr.2.2.2.2.2.1
          have hp : 3 * ((E ++ te ++ tf).length + 1) ≤ 16 * k2 + 100 := by
            rw [List.length_append, List.length_append]
            omega
          have hrop : (6 : Int) + ((rop op : Nat) - 6 : Int) = ((rop op : Nat) : Int) := by omega
          rw [hrop]
          obtain ⟨s4, M4, e1, e2, e3, e4, e5⟩ := KR_op (op := op) (c := (op : Int)) (d := ((rop op : Nat) : Int)) kr3 hp rfl rfl
          rw [e1, e2]
          simp only [obs]
          refine ⟨s4, 1, M4, rfl, rfl, HE_tr hE3 e4, HU_tr hU3 e5, Or.inl ⟨rfl, te ++ (tf ++ [(op, 0)]), k2, ?_, by omega, ?_, fun b hb3 => ?_⟩⟩
          · rw [List.append_assoc, List.append_assoc, List.append_assoc, List.append_assoc] at e3; exact e3
          · rw [List.length_append, List.length_append]
            show te.length + (tf.length + 1) + 3 ≤ _
            omega
          · have t1 : tyT te b = some (false :: b) := tyA b (by omega)
            have t2 : tyT tf (false :: b) = some (false :: false :: b) := tyB (false :: b) (by rw [List.length_cons]; omega)
            rw [tyT_app t1, tyT_app t2]
            show (ty1 (op, 0) (false :: false :: b)).bind (tyT []) = _
            rw [ty_c ⟨b1, b2⟩]; rfl
        · rw [if_pos (c := w32 0 = 0) (by decide)]
          obtain ⟨s4, e1, e2⟩ := CX_add (c := (op : Int)) (KF_c kf)
          rw [e1]
          exact ⟨s4, 0, M3, rfl, rfl, HE_tr hE3 e2.2.2, hU3, Or.inr ⟨rfl, KF_x kf e2⟩⟩
  · rw [if_pos (c := w32 0 = 0) (by decide)]
    obtain ⟨v, s2, c1, c2⟩ := CX_cmp hb (KF_c kf)
    rw [c1]
    simp only [obs]
    obtain ⟨s3, d1, d2⟩ := CX_leaf2 (c := v) c2.1
    rw [d1]
    exact ⟨s3, 0, M1, rfl, rfl, HE_tr a3 (HE_tr c2.2.2 d2.2.2), a4, Or.inr ⟨rfl, KF_x kf (CX_tr c2 d2)⟩⟩
end LF
