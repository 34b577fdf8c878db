/-! one clause of a cloth's text, both sides -/
section CC
variable {T : Nat → Int} {n : Nat} {s M : Hp}
theorem cf_ok (h : s 1 3 = 0) : xt_failed s = some 0 := by
  unfold xt_failed
  rw [h, if_pos (by decide)]
theorem cf_no (h0 : 0 < s 1 3) (h1 : s 1 3 < 10000) : xt_failed s = some 1 := by
  unfold xt_failed
  rw [w32_eq (x := s 1 3) (by omega) (by omega), if_neg (by omega)]
theorem RF_mk {i p : Nat} {c : Int} (tc : TC T n s) (tm : TM T n M) (hn : n ≤ 400) (hp : s 1 2 = (p : Int)) (hpn : p ≤ n) (hi : i ≤ n) (c0 : 0 ≤ c) (c7 : c ≤ 7) : RF T n (uh s 1 3 (1 + 8 * (i : Int) + c)) (uh M 146 9 (1 + 8 * (i : Int) + c)) := by
  refine ⟨TC_u tc (by decide), TM_u tm (by decide), by rw [uh_rc, uh_rc], by rw [uh_rc]; omega, by rw [uh_rc]; omega, p, by rw [uh_ro _ _ _ _ (by decide)]; exact hp, hpn⟩
/-- the draft beside what was read -/
def CD (s M : Hp) (c m : Nat) : Prop := 2 ≤ c ∧ c ≤ 8 ∧ m ≤ 4 ∧ s 4 0 = (c : Int) ∧ s 4 1 = (m : Int) ∧ s 4 2 = (c : Int) ∧ s 4 3 = 0 ∧ M 152 0 = (c : Int) ∧ M 152 1 = (m : Int) ∧ (∀ q, q < 8 → s 5 q = (q : Int) ∧ s 6 q = 0 ∧ s 7 q = 1 ∧ s 11 q = if q < c then 1 else 0) ∧ (∀ q, q < 8 → s 8 q = M 152 (63 + q) ∧ -1 ≤ s 8 q ∧ s 8 q < (m : Int) ∧ s 9 q = M 152 (55 + q) ∧ 0 ≤ s 9 q ∧ s 9 q ≤ 99) ∧ (∀ q, q < 7 → s 10 q = M 152 (71 + q) ∧ 0 ≤ s 10 q ∧ s 10 q ≤ 2) ∧ ∀ p, p < m → s 12 p = M 152 (78 + p) ∧ 0 ≤ s 12 p ∧ s 12 p ≤ 999
def GE (s s1 : Hp) : Prop := ∀ P, P ≠ 1 → ¬ (4 ≤ P ∧ P ≤ 12) → s1 P = s P
def GM (M M1 : Hp) : Prop := (∀ P, P ≠ 146 → P ≠ 152 → M1 P = M P) ∧ ∀ q, q ≠ 8 → q ≠ 9 → q ≠ 10 → q ≠ 14 → M1 146 q = M 146 q
/-- the first clause: how many cells -/
theorem cc_cells (hb : TB T n) (h : RP T n s M) (hz : ∀ q, q < 82 → M 152 q = 0) : ∃ (s1 : Hp) (b : Int) (M1 : Hp), xc_readCells s = some s1 ∧ ((xm_cellHere M 0 2 8).bind fun o8 => if w32 o8.1 = 0 then some (0, o8.2) else (lp (fun (q : Int × Hp) => xm_isClothHere_b35 q.2 q.1) (0, o8.2)).bind fun q13 => some (1, q13.2)) = some (b, M1) ∧ GE s s1 ∧ GM M M1 ∧ M1 146 14 = M 146 14 ∧ ((b = 1 ∧ RP T n s1 M1 ∧ ∃ c, CD s1 M1 c 0) ∨ (b = 0 ∧ RF T n s1 M1)) := by
  obtain ⟨v, s1, b, M1, e1, e2, fe, fm, hr⟩ := nm_both (lo := 2) (hi := 8) hb h (by decide) (by decide) (by decide) (by decide)
  unfold xc_readCells xm_cellHere
  rw [e1, e2]
  simp only [obs]
  rcases hr with ⟨rfl, rp, hv, v2, v8⟩ | ⟨rfl, rf⟩
  · obtain ⟨tc, tm, s3, m9, i, hi, hin, hs2⟩ := id rp
    obtain ⟨c, rfl⟩ : ∃ c : Nat, v = (c : Int) := ⟨v.toNat, by omega⟩
    rw [cf_ok s3, if_neg (by decide), ix0 (by decide) (by decide)]
    simp only [obs]
    rw [if_pos (by decide), if_neg (by decide), hv]
    obtain ⟨s2, b1, b2, b3, b4, b5, b6, b7⟩ := cl_beginFlat (s := s1) (a := 4) (n := c) (by omega)
    rw [b1]
    simp only [obs]
    obtain ⟨r, l1, l2, l3⟩ := lp_forR (B := fun (q : Int × Hp) => xm_isClothHere_b35 q.2 q.1) (fun i (q : Int × Hp) => q.1 = (i : Int) ∧ (∀ P, P ≠ 152 → q.2 P = M1 P) ∧ ∀ j, j < 82 → q.2 152 j = if 55 ≤ j ∧ j < 55 + i then 1 else if 63 ≤ j ∧ j < 63 + i then -1 else if j = 0 then (c : Int) else 0) 8 (fun q : Int × Hp => (∀ P, P ≠ 152 → q.2 P = M1 P) ∧ ∀ j, j < 82 → q.2 152 j = if 55 ≤ j ∧ j < 63 then 1 else if 63 ≤ j ∧ j < 71 then -1 else if j = 0 then (c : Int) else 0) (by
      rintro i ⟨x, t⟩ hi8 ⟨j1, j2, j3⟩
      replace j1 : x = (i : Int) := j1
      replace j2 : ∀ P, P ≠ 152 → t P = M1 P := j2
      replace j3 : ∀ j, j < 82 → t 152 j = if 55 ≤ j ∧ j < 55 + i then 1 else if 63 ≤ j ∧ j < 63 + i then -1 else if j = 0 then (c : Int) else 0 := j3
      subst j1
      show ∃ q1, xm_isClothHere_b35 t (i : Int) = some (Sum.inl q1) ∧ _
      unfold xm_isClothHere_b35
      rw [w32_eq (x := (i : Int)) (by omega) (by omega), if_pos (by rw [show w32 8 = 8 by decide]; omega), ixt (n := 82) (j := 55 + (i : Int)) (55 + i) (by omega) (by omega) (by decide), ixt (n := 82) (j := 63 + (i : Int)) (63 + i) (by omega) (by omega) (by decide)]
      simp only [obs]
      refine ⟨_, rfl, by show (i : Int) + 1 = _; omega, fun P hP => ?_, fun j hj => ?_⟩
      · show uh (uh t 152 (55 + i) 1) 152 (63 + i) (-1) P = _
        rw [uh_row hP, uh_row hP]; exact j2 P hP
      · show uh (uh t 152 (55 + i) 1) 152 (63 + i) (-1) 152 j = _
        by_cases q1 : j = 63 + i
        · subst q1
          rw [uh_rc, if_neg (by omega), if_pos (by omega)]
        · rw [uh_ro _ _ _ _ q1]
          by_cases q2 : j = 55 + i
          · subst q2
            rw [uh_rc, if_pos (by omega)]
          · rw [uh_ro _ _ _ _ q2, j3 j hj]
            by_cases q3 : 55 ≤ j ∧ j < 55 + i
            · rw [if_pos q3, if_pos (by omega)]
            · rw [if_neg q3, if_neg (c := 55 ≤ j ∧ j < 55 + (i + 1)) (by omega)]
              by_cases q4 : 63 ≤ j ∧ j < 63 + i
              · rw [if_pos q4, if_pos (by omega)]
              · rw [if_neg q4, if_neg (c := 63 ≤ j ∧ j < 63 + (i + 1)) (by omega)]) (by
      rintro ⟨x, t⟩ ⟨j1, j2, j3⟩
      replace j1 : x = ((8 : Nat) : Int) := j1
      subst j1
      refine ⟨_, ?_, j2, j3⟩
      show xm_isClothHere_b35 t ((8 : Nat) : Int) = _
      unfold xm_isClothHere_b35
      rw [if_neg (by decide)]) (s := (0, uh M1 152 0 (c : Int))) ⟨rfl, fun P hP => uh_row hP, fun j hj => by
        show uh M1 152 0 (c : Int) 152 j = _
        rw [if_neg (by omega), if_neg (by omega)]
        by_cases q : j = 0
        · subst q; rw [uh_rc, if_pos rfl]
        · rw [uh_ro _ _ _ _ q, if_neg q, fm.1 152 (by decide)]; exact hz j hj⟩
    obtain ⟨x, t⟩ := r
    replace l2 : ∀ P, P ≠ 152 → t P = M1 P := l2
    replace l3 : ∀ j, j < 82 → t 152 j = if 55 ≤ j ∧ j < 63 then 1 else if 63 ≤ j ∧ j < 71 then -1 else if j = 0 then (c : Int) else 0 := l3
    rw [l1]
    simp only [obs]
    have r1 : s2 1 = s1 1 := b2 1 (by omega)
    have r2 : s2 2 = s1 2 := b2 2 (by omega)
    refine ⟨s2, 1, t, rfl, rfl, fun P h1 h2 => ?_, ⟨fun P h1 h2 => ?_, fun q q1 q2 q3 q4 => ?_⟩, ?_, Or.inl ⟨rfl, ⟨⟨by rw [r1]; exact tc.1, by rw [r2]; exact tc.2⟩, ⟨by rw [l2 146 (by decide)]; exact tm.1, fun j hj => by rw [l2 147 (by decide)]; exact tm.2 j hj⟩, by rw [r1]; exact s3, by rw [l2 146 (by decide)]; exact m9, i, by rw [l2 146 (by decide)]; exact hi, hin, by rw [r1]; exact hs2⟩, c, ?_⟩⟩
    · rw [b2 P (by omega)]; exact fe P h1
    · rw [l2 P h2]; exact fm.1 P h1
    · rw [l2 146 (by decide)]; exact fm.2 q q1 q2 q3
    · rw [l2 146 (by decide)]; exact fm.2 14 (by decide) (by decide) (by decide)
    · refine ⟨by omega, by omega, by decide, b3, b4, b5, b6, ?_, ?_, fun q hq => ?_, fun q hq => ?_, fun q hq => ?_, fun p hp => by omega⟩
      · rw [l3 0 (by decide)]; rfl
      · rw [l3 1 (by decide)]; rfl
      · obtain ⟨k1, k2, k3, k4, k5, k6, k7⟩ := b7 q hq
        exact ⟨k1, k2, k3, k7⟩
      · obtain ⟨k1, k2, k3, k4, k5, k6, k7⟩ := b7 q hq
        replace k4 : s2 8 q = -1 := k4
        replace k5 : s2 9 q = 1 := k5
        rw [k4, k5, l3 (63 + q) (by omega), l3 (55 + q) (by omega), if_neg (by omega), if_pos (by omega), if_pos (by omega)]
        decide
      · obtain ⟨k1, k2, k3, k4, k5, k6, k7⟩ := b7 q (by omega)
        replace k6 : s2 10 q = 0 := k6
        rw [k6, l3 (71 + q) (by omega), if_neg (by omega), if_neg (by omega), if_neg (by omega)]
        decide
  · obtain ⟨tc, tm, f1, f2, f3, hp⟩ := id rf
    rw [cf_no f2 f3, if_pos (by decide)]
    simp only [obs]
    rw [if_neg (by decide), if_pos (by decide)]
    refine ⟨s1, 0, M1, rfl, rfl, fun P h1 _ => fe P h1, ⟨fun P h1 _ => fm.1 P h1, fun q q1 q2 q3 _ => fm.2 q q1 q2 q3⟩, fm.2 14 (by decide) (by decide) (by decide), Or.inr ⟨rfl, rf⟩⟩
end CC
