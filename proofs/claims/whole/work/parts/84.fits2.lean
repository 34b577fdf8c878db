/-! fillsFits as a whole -/
section FF
variable {K : Nat → Nat → Int} {n m LC k : Nat} {rof : Nat → Option (List Cls)} {fN : Nat → Nat} {cN : Nat → Int} {M : Hp}
theorem rf_fits (h : Rf (M 156) K n m) (wt : WF (tdK (M 156)) n m) (h2 : 2 ≤ n) (hk : M 146 2 = (k : Int)) (k6 : k ≤ 6) (hu : ∀ r : Nat, r ≤ k → ∀ M1 : Hp, M1 146 21 = (r : Int) - 1 → M1 148 = M 148 → M1 150 = M 150 → M1 151 = M 151 → RR M1 (rof r)) (hlc : M 156 129 = (LC : Int)) (h10 : LC ≤ 10) (hm : 0 < LC → 0 < m) (hl : ∀ i, i < LC → ∃ p sd wy : Nat, M 156 (89 + 4 * i) = (p : Int) ∧ M 156 (89 + 4 * i + 1) = (sd : Int) ∧ M 156 (89 + 4 * i + 2) = (wy : Int) ∧ p < 8 ∧ sd < 2 ∧ wy < 2 ∧ fN i = 4 * p + 2 * sd + wy ∧ M 156 (89 + 4 * i + 3) = cN i ∧ 0 ≤ cN i ∧ cN i ≤ 9999) : ∃ M1, xm_fillsFits M = some M1 ∧ SameM M M1 ∧ (∀ r, r ≤ k → M1 169 r = if bP (fitP (rof r) (tdK (M 156)) n LC fN cN) = true then 1 else 0) ∧ (0 < m → ∀ r, r ≤ k → ∀ p, p + 1 < n → M1 170 (8 * r + p) = cqV (rof r) (tdK (M 156)) n (4 * p) (-1)) := by
  have w8 := wt.1
  unfold xm_fillsFits
  obtain ⟨A, a1, a2, a3⟩ := rm_keeps (M := M)
  have a156 : A 156 = M 156 := a2 156 (by decide)
  obtain ⟨B, b1, b2, b3⟩ := rm_begins (M := A) (n := n) (m := m) (by rw [a156]; exact h.1) (by rw [a156]; exact h.2.1) (by rw [a156]; exact wt)
  rw [a156] at b2
  rw [a1]
  simp only [obs]
  rw [b1]
  simp only [obs]
  -- what stays of B
  have BM : ∀ P, P ≠ 156 → P ≠ 157 → P ≠ 160 → B P = M P := fun P p1 p2 p3 => by rw [b3.1 P p1 p2, a2 P p3]
  have Bfar : ∀ q, q < 10 ∨ 55 ≤ q → B 156 q = M 156 q := fun q hq => by rw [b3.2 q hq, a156]
  obtain ⟨q, e1, e2, e3, e4, e5⟩ := lp_forR (B := fun (q : Int × Hp) => xm_fillsFits_b15 q.2 (M 146 21) q.1) (fun i (q : Int × Hp) => q.1 = (i : Int) ∧ (∀ P, P ≠ 146 → P ≠ 154 → P ≠ 155 → P ≠ 158 → P ≠ 169 → P ≠ 170 → q.2 P = B P) ∧ (∀ j, j ≠ 18 → j ≠ 21 → q.2 146 j = B 146 j) ∧ (∀ r, r < i → q.2 169 r = if bP (fitP (rof r) (tdK (M 156)) n LC fN cN) = true then 1 else 0) ∧ (0 < m → ∀ r, r < i → ∀ p, p + 1 < n → q.2 170 (8 * r + p) = cqV (rof r) (tdK (M 156)) n (4 * p) (-1))) (k + 1) (fun q : Int × Hp => (∀ P, P ≠ 146 → P ≠ 154 → P ≠ 155 → P ≠ 158 → P ≠ 169 → P ≠ 170 → q.2 P = B P) ∧ (∀ j, j ≠ 18 → j ≠ 21 → q.2 146 j = B 146 j) ∧ (∀ r, r < k + 1 → q.2 169 r = if bP (fitP (rof r) (tdK (M 156)) n LC fN cN) = true then 1 else 0) ∧ (0 < m → ∀ r, r < k + 1 → ∀ p, p + 1 < n → q.2 170 (8 * r + p) = cqV (rof r) (tdK (M 156)) n (4 * p) (-1))) (by
    rintro i ⟨x, t⟩ hi ⟨j1, j2, j3, j4, j5⟩
    replace j1 : x = (i : Int) := j1
    replace j2 : ∀ P, P ≠ 146 → P ≠ 154 → P ≠ 155 → P ≠ 158 → P ≠ 169 → P ≠ 170 → t P = B P := j2
    replace j3 : ∀ j, j ≠ 18 → j ≠ 21 → t 146 j = B 146 j := j3
    replace j4 : ∀ r, r < i → t 169 r = if bP (fitP (rof r) (tdK (M 156)) n LC fN cN) = true then 1 else 0 := j4
    replace j5 : 0 < m → ∀ r, r < i → ∀ p, p + 1 < n → t 170 (8 * r + p) = cqV (rof r) (tdK (M 156)) n (4 * p) (-1) := j5
    subst j1
    -- the rule is laid in force
    have g156 : uh t 146 21 ((i : Int) - 1) 156 = B 156 := by rw [uh_row (by decide)]; exact j2 156 (by decide) (by decide) (by decide) (by decide) (by decide) (by decide)
    have grow : ∀ P, P = 148 ∨ P = 150 ∨ P = 151 → uh t 146 21 ((i : Int) - 1) P = M P := fun P hP => by rw [uh_row (by omega), j2 P (by omega) (by omega) (by omega) (by omega) (by omega) (by omega), BM P (by omega) (by omega) (by omega)]
    have hR : RR (uh t 146 21 ((i : Int) - 1)) (rof i) := hu i (by omega) _ (uh_rc _ _ _ _) (grow 148 (by omega)) (grow 150 (by omega)) (grow 151 (by omega))
    have hf1 : Rf (uh t 146 21 ((i : Int) - 1) 156) (tdK (M 156)) n m := by rw [g156]; exact b2
    obtain ⟨z, M1, l1, l2⟩ := rf_logs (M := uh t 146 21 ((i : Int) - 1)) (ro := rof i) (fN := fN) (cN := cN) (x1 := M 146 21) (x2 := (i : Int)) hf1 wt hR (by rw [g156, Bfar 129 (by omega)]; exact hlc) h10 hm (fun j hj => by
      rw [g156, Bfar (89 + 4 * j) (by omega), Bfar (89 + 4 * j + 1) (by omega), Bfar (89 + 4 * j + 2) (by omega), Bfar (89 + 4 * j + 3) (by omega)]
      exact hl j hj)
    generalize hv : (if bP (fitP (rof i) (tdK (M 156)) n LC fN cN) = true then (1 : Int) else 0) = v at l1
    have M156 : uh M1 169 i (nz v) 156 = B 156 := by rw [uh_row (by decide), l2.1 156 (by decide) (by decide) (by decide) (by decide)]; exact g156
    have hR2 : RR (uh M1 169 i (nz v)) (rof i) := hu i (by omega) _ (by rw [uh_row (by decide), l2.2 21 (by decide), uh_rc]) (by rw [uh_row (by decide), l2.1 148 (by decide) (by decide) (by decide) (by decide)]; exact grow 148 (by omega)) (by rw [uh_row (by decide), l2.1 150 (by decide) (by decide) (by decide) (by decide)]; exact grow 150 (by omega)) (by rw [uh_row (by decide), l2.1 151 (by decide) (by decide) (by decide) (by decide)]; exact grow 151 (by omega))
    obtain ⟨z2, M2, r1, r2, r3, r4⟩ := rf_row (M := uh M1 169 i (nz v)) (ro := rof i) (r := i) (x1 := M 146 21) (by rw [M156]; exact b2) wt h2 hR2 (by omega)
    show ∃ s1, xm_fillsFits_b15 t (M 146 21) (i : Int) = some (Sum.inl s1) ∧ _
    unfold xm_fillsFits_b15
    rw [j3 2 (by decide) (by decide), BM 146 (by decide) (by decide) (by decide), hk, w32_eq (x := (k : Int)) (by omega) (by omega), w32_eq (x := (i : Int)) (by omega) (by omega), if_neg (by omega)]
    simp only [obs]
    rw [l1, ixt (n := 7) (j := (i : Int)) i rfl (by omega) (by decide)]
    simp only [obs]
    rw [r1]
    simp only [obs]
    refine ⟨_, rfl, by show (i : Int) + 1 = _; omega, fun P p1 p2 p3 p4 p5 p6 => ?_, fun j p1 p2 => ?_, fun r hr => ?_, fun hm r hr p hp => ?_⟩
    · show M2 P = _
      rw [r2.1 P p1 p2 p3 p4 p6, uh_row p5, l2.1 P p1 p2 p3 p4, uh_row p1]; exact j2 P p1 p2 p3 p4 p5 p6
    · show M2 146 j = _
      rw [r2.2 j p1, uh_row (by decide), l2.2 j p1, uh_ro _ _ _ _ p2]; exact (j3 j p1 p2).trans (by rw [BM 146 (by decide) (by decide) (by decide)])
    · show M2 169 r = _
      rw [r2.1 169 (by decide) (by decide) (by decide) (by decide) (by decide)]
      by_cases hri : r = i
      · subst hri
        rw [uh_rc, ← hv]
        split <;> decide
      · rw [uh_ro _ _ _ _ hri, l2.1 169 (by decide) (by decide) (by decide) (by decide), uh_row (by decide)]; exact j4 r (by omega)
    · show M2 170 (8 * r + p) = _
      by_cases hri : r = i
      · subst hri; exact r3 hm p hp
      · rw [r4 _ (by omega), uh_row (by decide), l2.1 170 (by decide) (by decide) (by decide) (by decide), uh_row (by decide)]; exact j5 hm r (by omega) p hp) (by
    rintro ⟨x, t⟩ ⟨j1, j2, j3, j4, j5⟩
    replace j1 : x = ((k + 1 : Nat) : Int) := j1
    replace j3 : ∀ j, j ≠ 18 → j ≠ 21 → t 146 j = B 146 j := j3
    subst j1
    refine ⟨(((k + 1 : Nat) : Int), t), ?_, j2, j3, j4, j5⟩
    show xm_fillsFits_b15 t (M 146 21) ((k + 1 : Nat) : Int) = _
    unfold xm_fillsFits_b15
    rw [j3 2 (by decide) (by decide), BM 146 (by decide) (by decide) (by decide), hk, w32_eq (x := (k : Int)) (by omega) (by omega), w32_eq (x := ((k + 1 : Nat) : Int)) (by omega) (by omega), if_pos (by omega)]) (s := (0, B)) ⟨rfl, fun _ _ _ _ _ _ _ => rfl, fun _ _ _ => rfl, fun r hr => by omega, fun _ r hr => by omega⟩
  obtain ⟨x, t⟩ := q
  replace e2 : ∀ P, P ≠ 146 → P ≠ 154 → P ≠ 155 → P ≠ 158 → P ≠ 169 → P ≠ 170 → t P = B P := e2
  replace e3 : ∀ j, j ≠ 18 → j ≠ 21 → t 146 j = B 146 j := e3
  replace e4 : ∀ r, r < k + 1 → t 169 r = if bP (fitP (rof r) (tdK (M 156)) n LC fN cN) = true then 1 else 0 := e4
  replace e5 : 0 < m → ∀ r, r < k + 1 → ∀ p, p + 1 < n → t 170 (8 * r + p) = cqV (rof r) (tdK (M 156)) n (4 * p) (-1) := e5
  rw [e1]
  simp only [obs]
  obtain ⟨v, v1, v2, v3, v4⟩ := rm_laysBack (M := uh t 146 21 (M 146 21))
  rw [v1]
  simp only [obs]
  have v146 : ∀ j, j ≠ 18 → v 146 j = M 146 j := fun j hj => by
    rw [v2 146 (by decide)]
    by_cases h21 : j = 21
    · subst h21; rw [uh_rc]
    · rw [uh_ro _ _ _ _ h21, e3 j hj h21, BM 146 (by decide) (by decide) (by decide)]
  refine ⟨v, rfl, ⟨fun P hP => ?_, v146 1 (by decide), v146 2 (by decide), v146 21 (by decide), v146 22 (by decide), v146 26 (by decide)⟩, fun r hr => ?_, fun hm r hr p hp => ?_⟩
  · by_cases h6 : P = 156
    · subst h6
      funext q
      by_cases hq : 10 ≤ q ∧ q < 55
      · have := v3 (q - 10) (by omega)
        rw [show 10 + (q - 10) = q by omega] at this
        rw [this, uh_row (by decide), e2 160 (by decide) (by decide) (by decide) (by decide) (by decide) (by decide), b3.1 160 (by decide) (by decide), a3 _ (by omega), show 10 + (q - 10) = q by omega]
      · rw [v4 q (by omega), uh_row (by decide), e2 156 (by decide) (by decide) (by decide) (by decide) (by decide) (by decide), Bfar q (by omega)]
    · unfold VM at hP
      rw [v2 P h6, uh_row (by omega), e2 P (by omega) (by omega) (by omega) (by omega) (by omega) (by omega), BM P (by omega) (by omega) (by omega)]
  · rw [v2 169 (by decide), uh_row (by decide)]; exact e4 r (by omega)
  · rw [v2 170 (by decide), uh_row (by decide)]; exact e5 hm r (by omega) p hp
end FF
/-! counts and the first -/
def firD (P : Nat → Bool) (k : Nat) : Nat → Int
  | 0 => -2
  | i + 1 => if P (k - i) = true then ((k - i : Nat) : Int) - 1 else firD P k i
def cntD (P : Nat → Bool) (k : Nat) : Nat → Nat
  | 0 => 0
  | i + 1 => if P (k - i) = true then cntD P k i + 1 else cntD P k i
theorem cntD_e (P : Nat → Bool) (k : Nat) : ∀ i, i ≤ k + 1 → cntD P k i + cnt P (k + 1 - i) = cnt P (k + 1)
  | 0, _ => Nat.zero_add _
  | i + 1, h => by
    have ih := cntD_e P k i (by omega)
    have e : k + 1 - i = (k + 1 - (i + 1)) + 1 := by omega
    rw [e] at ih
    have e2 : cnt P (k + 1 - (i + 1) + 1) = cnt P (k + 1 - (i + 1)) + if P (k + 1 - (i + 1)) then 1 else 0 := rfl
    rw [e2, show k + 1 - (i + 1) = k - i by omega] at ih
    rw [show k + 1 - (i + 1) = k - i by omega]
    show (if P (k - i) = true then cntD P k i + 1 else cntD P k i) + cnt P (k - i) = _
    by_cases hp : P (k - i) = true
    · rw [if_pos hp] at ih ⊢; omega
    · rw [if_neg hp] at ih ⊢; omega
theorem firD_no {P : Nat → Bool} {k : Nat} (h : ∀ r, r ≤ k → P r ≠ true) : ∀ i, firD P k i = -2
  | 0 => rfl
  | i + 1 => by
    show (if P (k - i) = true then _ else firD P k i) = _
    rw [if_neg (h _ (by omega))]
    exact firD_no h i
theorem firD_at {P : Nat → Bool} {k f : Nat} (hf : f ≤ k) (hp : P f = true) (h : ∀ r, r < f → P r ≠ true) : ∀ i, k - f + 1 ≤ i → i ≤ k + 1 → firD P k i = (f : Int) - 1
  | 0, h1, _ => by omega
  | i + 1, h1, h2 => by
    show (if P (k - i) = true then _ else firD P k i) = _
    by_cases he : k - i = f
    · rw [he, if_pos hp]
    · rw [if_neg (h _ (by omega))]
      exact firD_at hf hp h i (by omega) (by omega)
/-- the loop of the class for the first -/
theorem cr_first {ln : Nat → Nat} {rs : Nat → Int} {s : Hp} {k : Nat} {P : Nat → Bool} (hk : s 0 4 = (k : Int)) (k6 : k ≤ 6) (hs : ∀ r, r ≤ k → s 144 r = if P r = true then 1 else 0) : (lp (fun (q : Int) => xf_ruled_b38 ln rs s q) 0).bind (fun q9 => q9.elim (fun q13 => some ((-2), s)) (fun r => some r)) = some (firD P k (k + 1), s) := by
  have step : ∀ i, i ≤ k → xf_ruled_b38 ln rs s (i : Int) = if P i = true then some (.inr (.inr ((i : Int) - 1, s))) else some (.inl ((i : Int) + 1)) := fun i hi => by
    unfold xf_ruled_b38
    rw [hk, w32_eq (x := (k : Int)) (by omega) (by omega), w32_eq (x := (i : Int)) (by omega) (by omega), if_neg (by omega), if_pos (by rw [show w32 7 = 7 by decide]; omega), ixt i rfl (by omega) (by decide)]
    simp only [obs]
    rw [hs i hi]
    by_cases hp : P i = true
    · rw [if_pos hp, if_neg (by decide), if_pos hp]
    · rw [if_neg hp, if_pos (by decide), if_neg hp]
  by_cases ha : ∀ r, r < k + 1 → P r ≠ true
  · rw [firD_no (fun r hr => ha r (by omega))]
    rw [lp_for (B := fun (q : Int) => xf_ruled_b38 ln rs s q) (fun i => (i : Int)) (k + 1) (s0 := (0 : Int)) (r := .inl ((k + 1 : Nat) : Int)) rfl (fun i hi => by
      show xf_ruled_b38 ln rs s (i : Int) = _
      rw [step i (by omega), if_neg (ha i hi)]; rfl) (by
      show xf_ruled_b38 ln rs s ((k + 1 : Nat) : Int) = _
      unfold xf_ruled_b38
      rw [hk, w32_eq (x := (k : Int)) (by omega) (by omega), w32_eq (x := ((k + 1 : Nat) : Int)) (by omega) (by omega), if_pos (by omega)])]
    rfl
  · obtain ⟨f, f1, f2, f3⟩ := first_nc ha
    have f2 : P f = true := by
      cases hp : P f with
      | true => rfl
      | false => exact absurd (fun q => by rw [hp] at q; cases q) f2
    rw [firD_at (by omega) f2 f3 (k + 1) (by omega) (Nat.le_refl _)]
    rw [lp_for (B := fun (q : Int) => xf_ruled_b38 ln rs s q) (fun i => (i : Int)) f (s0 := (0 : Int)) (r := .inr ((f : Int) - 1, s)) rfl (fun i hi => by
      show xf_ruled_b38 ln rs s (i : Int) = _
      rw [step i (by omega), if_neg (f3 i hi)]; rfl) (by
      show xf_ruled_b38 ln rs s (f : Int) = _
      rw [step f (by omega), if_pos f2])]
    rfl
theorem rr_loop {M : Hp} {k : Nat} {x1 : Int} {P : Nat → Bool} (hk : M 146 2 = (k : Int)) (k6 : k ≤ 6) (hs : ∀ r, r ≤ k → M 169 r = if P r = true then 1 else 0) : lp (fun (q : Int × Int × Int) => xm_ruled_b35 M x1 q.1 q.2.1 q.2.2) (0, (-2), M 146 2) = some (((cnt P (k + 1) : Nat) : Int), firD P k (k + 1), -1) := by
  have e := cntD_e P k (k + 1) (Nat.le_refl _)
  rw [show k + 1 - (k + 1) = 0 by omega] at e
  replace e : cntD P k (k + 1) = cnt P (k + 1) := e
  rw [← e]
  refine lp_for (fun i => (((cntD P k i : Nat) : Int), firD P k i, (k : Int) - (i : Int))) (k + 1) ?_ (fun i hi => ?_) ?_
  · show (((0 : Nat) : Int), (-2 : Int), (k : Int) - ((0 : Nat) : Int)) = _
    rw [hk]
    simp
  · show xm_ruled_b35 M x1 ((cntD P k i : Nat) : Int) (firD P k i) ((k : Int) - (i : Int)) = _
    unfold xm_ruled_b35
    rw [w32_eq (x := (k : Int) - (i : Int)) (by omega) (by omega), if_neg (by omega), ixt (k - i) (by omega) (by omega) (by decide)]
    simp only [obs]
    rw [hs (k - i) (by omega)]
    have e1 : cntD P k (i + 1) = if P (k - i) = true then cntD P k i + 1 else cntD P k i := rfl
    have e2 : firD P k (i + 1) = if P (k - i) = true then ((k - i : Nat) : Int) - 1 else firD P k i := rfl
    rw [e1, e2]
    by_cases hp : P (k - i) = true
    · simp only [eq_true hp, if_true]
      rw [if_neg (by decide), show (k : Int) - ((i + 1 : Nat) : Int) = (k : Int) - (i : Int) + -1 by omega, show ((cntD P k i + 1 : Nat) : Int) = (cntD P k i : Int) + 1 by omega, show ((k - i : Nat) : Int) = (k : Int) - (i : Int) by omega]
    · simp only [eq_false hp, if_false]
      rw [if_pos (by decide), show (k : Int) - ((i + 1 : Nat) : Int) = (k : Int) - (i : Int) + -1 by omega]
  · show xm_ruled_b35 M x1 ((cntD P k (k + 1) : Nat) : Int) (firD P k (k + 1)) ((k : Int) - ((k + 1 : Nat) : Int)) = _
    unfold xm_ruled_b35
    rw [show (k : Int) - ((k + 1 : Nat) : Int) = -1 by omega, if_pos (by decide)]
/-- logs as both hold them -/
theorem logs_f {rc : Int} {s : Hp} {f : Nat → Int} {fo xx : Int} {K : Nat → Nat → Int} {n m : Nat} (h : SheetR rc s 16 f fo xx K n m) : ∃ (LC : Nat) (fN : Nat → Nat) (cN : Nat → Int), s 16 5 = (LC : Int) ∧ f 129 = (LC : Int) ∧ LC ≤ 10 ∧ (0 < LC → 0 < m) ∧ (∀ i, i < LC → s 36 i = ((fN i : Nat) : Int) ∧ fN i < 64 ∧ s 37 i = cN i ∧ 0 ≤ cN i ∧ cN i ≤ 9999) ∧ ∀ i, i < LC → ∃ p sd wy : Nat, f (89 + 4 * i) = (p : Int) ∧ f (89 + 4 * i + 1) = (sd : Int) ∧ f (89 + 4 * i + 2) = (wy : Int) ∧ p < 8 ∧ sd < 2 ∧ wy < 2 ∧ fN i = 4 * p + 2 * sd + wy ∧ f (89 + 4 * i + 3) = cN i ∧ 0 ≤ cN i ∧ cN i ≤ 9999 := by
  obtain ⟨b1, -, -, -, -, -, ⟨l1, l2, l3, l4, l5⟩, -⟩ := h
  have w8 := b1.1
  refine ⟨(f 129).toNat, fun i => 4 * (f (89 + 4 * i)).toNat + 2 * (f (89 + 4 * i + 1)).toNat + (f (89 + 4 * i + 2)).toNat, fun i => f (89 + 4 * i + 3), by omega, by omega, by omega, fun q => l4 (by omega), fun i hi => ?_, fun i hi => ?_⟩
  · obtain ⟨g1, g2, g3, g4, g5, g6, g7, g8, g9, g10⟩ := l5 i (by omega)
    refine ⟨?_, ?_, g2, g9, g10⟩
    · show s 36 i = ((4 * (f (89 + 4 * i)).toNat + 2 * (f (89 + 4 * i + 1)).toNat + (f (89 + 4 * i + 2)).toNat : Nat) : Int)
      rw [show s 36 i = _ from g1]; omega
    · show 4 * (f (89 + 4 * i)).toNat + 2 * (f (89 + 4 * i + 1)).toNat + (f (89 + 4 * i + 2)).toNat < 64
      omega
  · obtain ⟨g1, g2, g3, g4, g5, g6, g7, g8, g9, g10⟩ := l5 i (by omega)
    exact ⟨(f (89 + 4 * i)).toNat, (f (89 + 4 * i + 1)).toNat, (f (89 + 4 * i + 2)).toNat, by omega, by omega, by omega, by omega, by omega, by omega, rfl, rfl, g9, g10⟩
section RU
variable {n : Nat} {w : pm_H}
theorem call_24 (hn : n < 512) (h : Inv n w) (a1 a2 a3 a4 a5 : Int32) : ob_ok 24 [a1, a2, a3, a4, a5] w (Inv (n + 1)) := by
  obtain ⟨sh, ln, s, M, ib, ds, rel⟩ := h
  obtain ⟨tp, ru, ⟨K, c, m, sr, pa⟩, -⟩ := id rel
  have bp := bi a1
  have key : ∃ r s1 M1, xf_ruled ln (rsF s) s a1.toInt = some (r, s1) ∧ xm_ruled M a1.toInt = some (r, M1) ∧ SameC s s1 ∧ SameM M M1 := by
    generalize a1.toInt = p at bp
    have W := sr.1
    obtain ⟨w8, w4, w0, w2, wl, wz, -⟩ := id W
    have smr : SameM M M := ⟨fun _ _ => rfl, rfl, rfl, rfl, rfl, rfl⟩
    unfold xf_ruled xm_ruled
    rw [rm_isCloth sr.2.2.1 W, w32_eq (x := p) bp.1 bp.2, rm_in (v := p) (by omega) (by omega) (by omega) (by omega) (by omega) (by omega), show s 17 0 = (c : Int) from sr.2.1.1, w32_eq (x := (c : Int)) (by omega) (by omega), show w32 1 = 1 by decide]
    simp only [obs, tb0]
    by_cases c1 : (0 ≤ p ∧ p ≤ 1) ∧ 0 < c
    · obtain ⟨d3, d4⟩ := c1
      rw [if_neg (c := p < 0) (by omega), if_neg (c := 1 < p) (by omega), if_neg (c := (c : Int) = 0) (by omega), if_neg (c := ¬ 0 < c) (fun k => k d4), if_neg (c := ¬ (0 ≤ p ∧ p ≤ 1)) (fun k => k d3)]
      obtain ⟨LC, fN, cN, l1, l2, l3, l4, l5, l6⟩ := logs_f sr
      obtain ⟨uof, rof, hr⟩ := rules_f (rs := rsF s) ru (fun i hi => rsF_at hi)
      obtain ⟨k, hk⟩ : ∃ k : Nat, s 0 4 = (k : Int) := ⟨(s 0 4).toNat, by have := ru.2.1; omega⟩
      have k6 : k ≤ 6 := by have := ru.2.2.1; omega
      have hkM : M 146 2 = (k : Int) := by rw [← ru.1]; exact hk
      obtain ⟨s1, e1, e2, e3⟩ := cf_findSo (rs := rsF s) (rof := rof) (uof := uof) sr.2.2.2.2.1 sr.2.2.2.1 hk k6 (fun r hr' => ⟨(hr r (by omega)).1, (hr r (by omega)).2.1⟩) l1 l3 l4 l5
      obtain ⟨M1, f1, f2, f3, -⟩ := rf_fits (M := M) (rof := rof) sr.2.2.1 sr.2.2.2.1 (w2 d4).1 hkM k6 (fun r hr' M1 x1 x2 x3 x4 => (hr r (by omega)).2.2 M1 x1 x2 x3 x4) l2 l3 l4 l6
      rw [e1, f1]
      simp only [obs]
      have sc : SameC s s1 := ⟨fun P hP => e2 P (by unfold VC at hP; omega) (by unfold VC at hP; omega) (by unfold VC at hP; omega) (by unfold VC at hP; omega), by rw [e2 130 (by decide) (by decide) (by decide) (by decide)], by rw [e2 130 (by decide) (by decide) (by decide) (by decide)]⟩
      rw [rr_loop (M := M1) (k := k) (x1 := p) (by rw [f2.2.2.1]; exact hkM) k6 f3]
      simp only [obs]
      by_cases hp : p = 0
      · rw [if_pos hp, if_pos hp]
        exact ⟨_, s1, M1, rfl, rfl, sc, f2⟩
      · rw [if_neg hp, if_neg hp, cr_first (ln := ln) (rs := rsF s) (s := s1) (k := k) (by rw [e2 0 (by decide) (by decide) (by decide) (by decide)]; exact hk) k6 e3]
        exact ⟨_, s1, M1, rfl, rfl, sc, f2⟩
    · refine ⟨-3, s, M, ?_, ?_, sameC_rf, smr⟩
      · by_cases h5 : p < 0
        · rw [if_pos h5]
        rw [if_neg h5]
        by_cases h6 : 1 < p
        · rw [if_pos h6]
        rw [if_neg h6, if_pos (by omega)]
      · by_cases h1 : 0 < c
        · rw [if_neg (c := ¬ 0 < c) (fun k => k h1), if_pos (c := ¬ (0 ≤ p ∧ p ≤ 1)) (fun h4 => c1 ⟨h4, h1⟩)]
        · rw [if_pos (c := ¬ 0 < c) h1]
  obtain ⟨r, s1, M1, e1, e2, e3, e4⟩ := key
  exact ob_na (args := [.int (Int32.ofInt a1.toInt)]) hn rfl (by rw [← vi]; rfl) ib (fun P kr => xf_ruled_ok (w0 := w) ib.2.2.1 (rsF_ok ds) ⟨ib.1, Fr_rf⟩ e1 (fun w1 h1 => kr w1 h1)) (fun w1 h1 P kr => xm_ruled_ok (w0 := w1) StM_M ⟨h1, Fr_rf⟩ e2 (fun w2 h2 => kr w2 h2)) (DS_cg ds (e3.1 15 (by unfold VC; omega)) (e3.1 38 (by unfold VC; omega)) (e3.1 40 (by unfold VC; omega))) (REL_cg rel e3 e4)
end RU
