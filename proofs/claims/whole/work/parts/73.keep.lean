/-! an act is kept: the reference's row, the class's ring -/
theorem rm_keepsTail {M : Hp} {z : Nat} (hz : M 146 26 = (z : Int)) (h2 : z < 20) : ∃ M1, xm_keepsAct_j50 M = some M1 ∧ (∀ P, P ≠ 146 → P ≠ 159 → M1 P = M P) ∧ (∀ q, q ≠ 26 → M1 146 q = M 146 q) ∧ M1 146 26 = ((z + 1 : Nat) : Int) ∧ (∀ i, i < 45 → M1 159 (45 * z + i) = M 156 (10 + i)) ∧ ∀ q, q < 45 * z → M1 159 q = M 159 q := by
  unfold xm_keepsAct_j50
  obtain ⟨r, e1, e2⟩ : ∃ r, lp (fun (q : Int × Hp) => xm_keepsAct_b52 q.2 q.1) (0, M) = some r ∧ (fun (r : Int × Hp) => (∀ P, P ≠ 159 → r.2 P = M P) ∧ (∀ i, i < 45 → r.2 159 (45 * z + i) = M 156 (10 + i)) ∧ ∀ q, q < 45 * z → r.2 159 q = M 159 q) r := by
    refine lp_forR (fun j (q : Int × Hp) => q.1 = (j : Int) ∧ (∀ P, P ≠ 159 → q.2 P = M P) ∧ (∀ i, i < j → q.2 159 (45 * z + i) = M 156 (10 + i)) ∧ ∀ i, i < 45 * z → q.2 159 i = M 159 i) 45 _ ?_ ?_ ⟨rfl, fun _ _ => rfl, fun i hi => by omega, fun _ _ => rfl⟩
    · rintro j ⟨x, M1⟩ hj ⟨j1, j2, j3, j4⟩
      have j1 : x = (j : Int) := j1
      have j2 : ∀ P, P ≠ 159 → M1 P = M P := j2
      have j3 : ∀ i, i < j → M1 159 (45 * z + i) = M 156 (10 + i) := j3
      have j4 : ∀ i, i < 45 * z → M1 159 i = M 159 i := j4
      show ∃ q1, xm_keepsAct_b52 M1 x = some (Sum.inl q1) ∧ _
      unfold xm_keepsAct_b52
      rw [j1, j2 146 (by decide), hz, w32_eq (x := (j : Int)) (by omega) (by omega), if_pos (by rw [show w32 45 = 45 by decide]; omega), ixt (10 + j) (by omega) (by omega) (by decide), ixt (45 * z + j) (by omega) (by omega) (by decide)]
      simp only [obs]
      refine ⟨_, rfl, show (j : Int) + 1 = ((j + 1 : Nat) : Int) by omega, fun P hP => ?_, fun i hi => ?_, fun i hi => ?_⟩
      · show uh M1 159 (45 * z + j) _ P = _
        rw [uh_row hP]; exact j2 P hP
      · show uh M1 159 (45 * z + j) _ 159 _ = _
        rw [uh_at]
        by_cases hij : i = j
        · rw [if_pos ⟨rfl, by omega⟩, j2 156 (by decide), hij]
        · rw [if_neg (by omega)]; exact j3 i (by omega)
      · show uh M1 159 (45 * z + j) _ 159 _ = _
        rw [uh_at, if_neg (by omega)]; exact j4 i hi
    · rintro ⟨x, M1⟩ ⟨j1, j2, j3, j4⟩
      have j1 : x = ((45 : Nat) : Int) := j1
      show ∃ q1, xm_keepsAct_b52 M1 x = some (Sum.inr q1) ∧ _
      unfold xm_keepsAct_b52
      rw [j1, if_neg (by decide)]
      exact ⟨_, rfl, j2, j3, j4⟩
  obtain ⟨r1, r2⟩ := r
  obtain ⟨g1, g2, g3⟩ := e2
  have g1 : ∀ P, P ≠ 159 → r2 P = M P := g1
  have g2 : ∀ i, i < 45 → r2 159 (45 * z + i) = M 156 (10 + i) := g2
  have g3 : ∀ q, q < 45 * z → r2 159 q = M 159 q := g3
  rw [e1]
  simp only [obs]
  refine ⟨_, rfl, fun P h1 h2 => ?_, fun q hq => ?_, ?_, fun i hi => ?_, fun q hq => ?_⟩
  · rw [uh_row h1]; exact g1 P h2
  · rw [uh_at, if_neg (fun k => hq k.2), g1 146 (by decide)]
  · rw [uh_at, if_pos ⟨rfl, rfl⟩, g1 146 (by decide), hz]; omega
  · rw [uh_row (by decide)]; exact g2 i hi
  · rw [uh_row (by decide)]; exact g3 q hq
theorem rm_keepsAct {M : Hp} {z : Nat} (hz : M 146 26 = (z : Int)) (h2 : z ≤ 20) : ∃ M1, xm_keepsAct M = some M1 ∧ (∀ P, P ≠ 146 → P ≠ 159 → M1 P = M P) ∧ (∀ q, q ≠ 26 → M1 146 q = M 146 q) ∧ ((z < 20 ∧ M1 146 26 = ((z + 1 : Nat) : Int) ∧ (∀ i, i < 45 → M1 159 (45 * z + i) = M 156 (10 + i)) ∧ ∀ q, q < 45 * z → M1 159 q = M 159 q) ∨ (z = 20 ∧ M1 146 26 = 20 ∧ (∀ i, i < 45 → M1 159 (45 * 19 + i) = M 156 (10 + i)) ∧ ∀ q, q < 45 * 19 → M1 159 q = M 159 (q + 45))) := by
  unfold xm_keepsAct
  rw [hz, w32_eq (x := (z : Int)) (by omega) (by omega), show w32 20 = 20 by decide]
  by_cases h : z = 20
  · rw [if_pos (by omega)]
    obtain ⟨r, e1, e2⟩ : ∃ r, lp (fun (q : Int × Hp) => xm_keepsAct_b12 q.2 q.1) (45, M) = some r ∧ (fun (r : Int × Hp) => (∀ P, P ≠ 159 → r.2 P = M P) ∧ ∀ i, i < 855 → r.2 159 i = M 159 (i + 45)) r := by
      refine lp_forR (fun j (q : Int × Hp) => q.1 = ((45 + j : Nat) : Int) ∧ (∀ P, P ≠ 159 → q.2 P = M P) ∧ (∀ i, i < j → q.2 159 i = M 159 (i + 45)) ∧ ∀ i, j ≤ i → q.2 159 i = M 159 i) 855 _ ?_ ?_ ⟨rfl, fun _ _ => rfl, fun i hi => by omega, fun _ _ => rfl⟩
      · rintro j ⟨x, M1⟩ hj ⟨j1, j2, j3, j4⟩
        have j1 : x = ((45 + j : Nat) : Int) := j1
        have j2 : ∀ P, P ≠ 159 → M1 P = M P := j2
        have j3 : ∀ i, i < j → M1 159 i = M 159 (i + 45) := j3
        have j4 : ∀ i, j ≤ i → M1 159 i = M 159 i := j4
        show ∃ q1, xm_keepsAct_b12 M1 x = some (Sum.inl q1) ∧ _
        unfold xm_keepsAct_b12
        rw [j1, w32_eq (x := ((45 + j : Nat) : Int)) (by omega) (by omega), if_pos (by rw [show w32 900 = 900 by decide]; omega), ixt (45 + j) (by omega) (by omega) (by decide), ixt j (by omega) (by omega) (by decide)]
        simp only [obs]
        refine ⟨_, rfl, show ((45 + j : Nat) : Int) + 1 = ((45 + (j + 1) : Nat) : Int) by omega, fun P hP => ?_, fun i hi => ?_, fun i hi => ?_⟩
        · show uh M1 159 j _ P = _
          rw [uh_row hP]; exact j2 P hP
        · show uh M1 159 j _ 159 _ = _
          rw [uh_at]
          by_cases hij : i = j
          · rw [if_pos ⟨rfl, hij⟩, j4 (45 + j) (by omega), hij, Nat.add_comm]
          · rw [if_neg (by omega)]; exact j3 i (by omega)
        · show uh M1 159 j _ 159 _ = _
          rw [uh_at, if_neg (by omega)]; exact j4 i (by omega)
      · rintro ⟨x, M1⟩ ⟨j1, j2, j3, j4⟩
        have j1 : x = ((45 + 855 : Nat) : Int) := j1
        show ∃ q1, xm_keepsAct_b12 M1 x = some (Sum.inr q1) ∧ _
        unfold xm_keepsAct_b12
        rw [j1, if_neg (by decide)]
        exact ⟨_, rfl, j2, j3⟩
    obtain ⟨r1, r2⟩ := r
    obtain ⟨g1, g2⟩ := e2
    have g1 : ∀ P, P ≠ 159 → r2 P = M P := g1
    have g2 : ∀ i, i < 855 → r2 159 i = M 159 (i + 45) := g2
    rw [e1]
    simp only [obs]
    obtain ⟨M1, k1, k2, k3, k4, k5, k6⟩ := rm_keepsTail (M := uh r2 146 26 (r2 146 26 - 1)) (z := 19) (by rw [uh_at, if_pos ⟨rfl, rfl⟩, g1 146 (by decide), hz]; omega) (by decide)
    refine ⟨M1, k1, fun P h1 h2 => ?_, fun q hq => ?_, Or.inr ⟨h, k4, fun i hi => ?_, fun q hq => ?_⟩⟩
    · rw [k2 P h1 h2, uh_row h1]; exact g1 P h2
    · rw [k3 q hq, uh_at, if_neg (fun k => hq k.2), g1 146 (by decide)]
    · rw [k5 i hi, uh_row (by decide), g1 156 (by decide)]
    · rw [k6 q hq, uh_row (by decide)]; exact g2 q (by omega)
  · rw [if_neg (by omega)]
    obtain ⟨M1, k1, k2, k3, k4, k5, k6⟩ := rm_keepsTail hz (by omega)
    exact ⟨M1, k1, k2, k3, Or.inl ⟨by omega, k4, k5, k6⟩⟩
/-- the class's ring -/
theorem cl_keep {ks : Nat → Int} {L : Nat} {sh : Shp} {s : Hp} {K : Nat → Nat → Int} {n m x z : Nat} (h : Cl s 17 K n m) (w : WF K n m) (hks : ∀ i, i < 20 → ks i = s 40 i) (hx : s 39 1 = (x : Int)) (x20 : x < 20) (hz : s 39 2 = (z : Int)) (z20 : z ≤ 20) (hy : ¬ s 40 x < 0 → 175 ≤ (s 40 x).toNat) (hL : 175 ≤ L) : ∃ s1 sh1 y, xp_keep ks L sh s 17 = some (s1, sh1) ∧ s1 39 1 = (((x + 1) % 20 : Nat) : Int) ∧ s1 39 2 = ((min (z + 1) 20 : Nat) : Int) ∧ s1 40 x = ((y : Nat) : Int) ∧ (∀ i, i ≠ x → s1 40 i = s 40 i) ∧ 175 ≤ y ∧ Cl s1 y K n m ∧ (∀ P, P ≠ 39 → P ≠ 40 → ¬ (y ≤ P ∧ P ≤ y + 8) → P < L → s1 P = s P) ∧ ((sh1 = sh ∧ s 40 x = ((y : Nat) : Int)) ∨ (sh1 = shCn sh L ∧ y = L ∧ s 40 x < 0)) := by
  have e20 : ∀ x : Nat, x < 20 → iRem ((x : Int) + 1) 20 = (((x + 1) % 20 : Nat) : Int) := by decide +kernel
  have m20 : ∀ z : Nat, z ≤ 20 → mnI ((z : Int) + 1) 20 = ((min (z + 1) 20 : Nat) : Int) := by
    intro z hz
    rw [mn_eq (by omega) (by omega) (by omega) (by omega)]
    split <;> omega
  unfold xp_keep
  rw [hx, ixt x rfl x20 (by decide)]
  simp only [obs]
  rw [hks x x20]
  unfold rsA
  rw [if_pos rfl]
  simp only [obs]
  by_cases hn : s 40 x < 0
  · rw [if_pos hn]
    have a1 : ∀ P, P ≠ 40 → P < L → uh (zr s L) 40 x ((L : Nat) : Int) P = s P := fun P h1 h2 => by
      rw [uh_row h1]
      funext q
      exact if_pos h2
    rw [a1 39 (by decide) (by omega), hx, ixt x rfl x20 (by decide)]
    simp only [obs]
    unfold eqA
    rw [if_pos rfl]
    simp only [obs]
    obtain ⟨s1, c1, c2, c3⟩ := cl_copy (s := uh (zr s L) 40 x ((L : Nat) : Int)) (a0 := L) (a1 := 17) (by omega)
    rw [c1]
    simp only [obs]
    refine ⟨_, _, L, rfl, ?_, ?_, ?_, fun i hi => ?_, hL, ?_, fun P h1 h2 h3 h4 => ?_, Or.inr ⟨rfl, rfl, hn⟩⟩
    · rw [uh_at, if_neg (by decide), uh_at, if_pos ⟨rfl, rfl⟩, c2 39 (by omega), a1 39 (by decide) (by omega), hx, e20 x x20]
    · rw [uh_at, if_pos ⟨rfl, rfl⟩, uh_at, if_neg (by decide), c2 39 (by omega), a1 39 (by decide) (by omega), hz, m20 z z20]
    · rw [uh_row (by decide), uh_row (by decide), c2 40 (by omega), uh_at, if_pos ⟨rfl, rfl⟩]
    · rw [uh_row (by decide), uh_row (by decide), c2 40 (by omega), uh_at, if_neg (fun k => hi k.2)]
      exact if_pos (by omega)
    · refine Cl_cp (s := uh (zr s L) 40 x ((L : Nat) : Int)) (a1 := 17) (Cl_row h (fun i hi => a1 _ (by omega) (by omega))) w (fun i hi q hq => ?_)
      rw [uh_row (by omega), uh_row (by omega)]
      exact c3 i hi q hq
    · rw [uh_row h1, uh_row h1, c2 P h3]; exact a1 P h2 h4
  · rw [if_neg hn]
    have hy := hy hn
    obtain ⟨s1, c1, c2, c3⟩ := cl_copy (s := s) (a0 := (s 40 x).toNat) (a1 := 17) (by omega)
    rw [c1]
    simp only [obs]
    refine ⟨_, _, (s 40 x).toNat, rfl, ?_, ?_, ?_, fun i hi => ?_, hy, ?_, fun P h1 h2 h3 h4 => ?_, Or.inl ⟨rfl, by omega⟩⟩
    · rw [uh_at, if_neg (by decide), uh_at, if_pos ⟨rfl, rfl⟩, c2 39 (by omega), hx, e20 x x20]
    · rw [uh_at, if_pos ⟨rfl, rfl⟩, uh_at, if_neg (by decide), c2 39 (by omega), hz, m20 z z20]
    · rw [uh_row (by decide), uh_row (by decide), c2 40 (by omega)]; omega
    · rw [uh_row (by decide), uh_row (by decide), c2 40 (by omega)]
    · refine Cl_cp (s := s) (a1 := 17) h w (fun i hi q hq => ?_)
      rw [uh_row (by omega), uh_row (by omega)]
      exact c3 i hi q hq
    · rw [uh_row h1, uh_row h1, c2 P h3]
