/-! the class's cloth copied, turned -/
def rowLen (i : Nat) : Nat := if i = 0 ∨ i = 8 then 4 else 8
theorem cl_copy {s : Hp} {a0 a1 : Nat} (hd : a0 + 8 < a1 ∨ a1 + 8 < a0) : ∃ s1, xl_copyFrom s a0 a1 = some s1 ∧ (∀ P, ¬ (a0 ≤ P ∧ P ≤ a0 + 8) → s1 P = s P) ∧ ∀ i, i ≤ 8 → ∀ q, q < rowLen i → s1 (a0 + i) q = s (a1 + i) q := by
  have ne : ∀ i j, i ≤ 8 → j ≤ 8 → a1 + i ≠ a0 + j := fun i j h1 h2 => by omega
  have n0 : ∀ j, j ≤ 8 → a1 ≠ a0 + j := fun j h2 => by omega
  have n1 : ∀ i, i ≤ 8 → a1 + i ≠ a0 := fun i h2 => by omega
  have n2 : a1 ≠ a0 := by omega
  unfold xl_copyFrom
  simp only [obs]
  rw [if_pos (ne 1 1 (by decide) (by decide)), if_pos (ne 2 2 (by decide) (by decide)), if_pos (ne 3 3 (by decide) (by decide)), if_pos (ne 4 4 (by decide) (by decide)), if_pos (ne 5 5 (by decide) (by decide)), if_pos (ne 6 6 (by decide) (by decide)), if_pos (ne 7 7 (by decide) (by decide)), if_pos (ne 8 8 (by decide) (by decide))]
  simp only [uh_row (p := a1) (a := a0) n2]
  generalize hS : uh (uh (uh (uh s a0 0 (s a1 0)) a0 1 (s a1 1)) a0 2 (s a1 2)) a0 3 (s a1 3) = S
  have hr : ∀ P, P ≠ a0 → S P = s P := fun P hP => by rw [← hS, uh_row hP, uh_row hP, uh_row hP, uh_row hP]
  have h0 : ∀ q, q < 4 → S a0 q = s a1 q := fun q hq => by
    rw [← hS]
    have h4 : q = 0 ∨ q = 1 ∨ q = 2 ∨ q = 3 := by omega
    rcases h4 with rfl | rfl | rfl | rfl <;> simp [uh_at]
  refine ⟨_, rfl, fun P hP => ?_, fun i hi q hq => ?_⟩
  · rw [uc_row (by omega), uc_row (by omega), uc_row (by omega), uc_row (by omega), uc_row (by omega), uc_row (by omega), uc_row (by omega), uc_row (by omega), hr P (by omega)]
  · have h9 : i = 0 ∨ i = 1 ∨ i = 2 ∨ i = 3 ∨ i = 4 ∨ i = 5 ∨ i = 6 ∨ i = 7 ∨ i = 8 := by omega
    rcases h9 with rfl | rfl | rfl | rfl | rfl | rfl | rfl | rfl | rfl
    · have hq : q < 4 := hq
      rw [Nat.add_zero, Nat.add_zero, uc_row (by omega), uc_row (by omega), uc_row (by omega), uc_row (by omega), uc_row (by omega), uc_row (by omega), uc_row (by omega), uc_row (by omega)]
      exact h0 q hq
    · have hq : q < 8 := hq
      rw [uc_row (by omega), uc_row (by omega), uc_row (by omega), uc_row (by omega), uc_row (by omega), uc_row (by omega), uc_row (by omega), uc_at, if_pos ⟨rfl, hq⟩, hr _ (by omega)]
    · have hq : q < 8 := hq
      rw [uc_row (by omega), uc_row (by omega), uc_row (by omega), uc_row (by omega), uc_row (by omega), uc_row (by omega), uc_at, if_pos ⟨rfl, hq⟩, uc_row (by omega), hr _ (by omega)]
    · have hq : q < 8 := hq
      rw [uc_row (by omega), uc_row (by omega), uc_row (by omega), uc_row (by omega), uc_row (by omega), uc_at, if_pos ⟨rfl, hq⟩, uc_row (by omega), uc_row (by omega), hr _ (by omega)]
    · have hq : q < 8 := hq
      rw [uc_row (by omega), uc_row (by omega), uc_row (by omega), uc_row (by omega), uc_at, if_pos ⟨rfl, hq⟩, uc_row (by omega), uc_row (by omega), uc_row (by omega), hr _ (by omega)]
    · have hq : q < 8 := hq
      rw [uc_row (by omega), uc_row (by omega), uc_row (by omega), uc_at, if_pos ⟨rfl, hq⟩, uc_row (by omega), uc_row (by omega), uc_row (by omega), uc_row (by omega), hr _ (by omega)]
    · have hq : q < 8 := hq
      rw [uc_row (by omega), uc_row (by omega), uc_at, if_pos ⟨rfl, hq⟩, uc_row (by omega), uc_row (by omega), uc_row (by omega), uc_row (by omega), uc_row (by omega), hr _ (by omega)]
    · have hq : q < 8 := hq
      rw [uc_row (by omega), uc_at, if_pos ⟨rfl, hq⟩, uc_row (by omega), uc_row (by omega), uc_row (by omega), uc_row (by omega), uc_row (by omega), uc_row (by omega), hr _ (by omega)]
    · have hq : q < 4 := hq
      rw [uc_at, if_pos ⟨rfl, hq⟩, uc_row (by omega), uc_row (by omega), uc_row (by omega), uc_row (by omega), uc_row (by omega), uc_row (by omega), uc_row (by omega), hr _ (by omega)]
theorem Cl_cp {s s1 : Hp} {a0 a1 : Nat} {K : Nat → Nat → Int} {n m : Nat} (h : Cl s a1 K n m) (w : WF K n m) (hc : ∀ i, i ≤ 8 → ∀ q, q < rowLen i → s1 (a0 + i) q = s (a1 + i) q) : Cl s1 a0 K n m := by
  obtain ⟨h0, h1, h2, h3, h4, h5, h6, h7⟩ := h
  obtain ⟨w8, w4, w0, w2, wl, wz, -⟩ := w
  refine ⟨(hc 0 (by decide) 0 (by decide)).trans h0, (hc 0 (by decide) 1 (by decide)).trans h1, (hc 0 (by decide) 2 (by decide)).trans h2, (hc 0 (by decide) 3 (by decide)).trans h3, fun c hcc => ?_, fun j hj => ?_, fun p hp => ?_, fun p hp => ?_⟩
  · have hl : c < 8 := by omega
    rw [hc 1 (by decide) c hl, hc 2 (by decide) c hl, hc 3 (by decide) c hl, hc 4 (by decide) c hl, hc 5 (by decide) c hl]
    exact h4 c hcc
  · rw [hc 6 (by decide) j (show j < 8 by omega)]; exact h5 j hj
  · rw [hc 8 (by decide) p (show p < 4 by omega)]; exact h6 p hp
  · rw [hc 7 (by decide) p (show p < 8 by omega)]; exact h7 p hp
section LI
variable {s : Hp} {a0 a1 : Nat} {K : Nat → Nat → Int} {n m : Nat}
theorem cl_turnCell (h : Cl s a1 K n m) (w : WF K n m) (hd : a0 + 8 < a1 ∨ a1 + 8 < a0) {f c : Nat} (hf : f < 64) (hc : c < n) : xl_turnCell s a0 a1 (c : Int) (f : Int) = some (uh (uh (uh s (a0 + 1) c (if mvB (K 1) c (f / 4) (f / 2 % 2) = true then 2 * ((f / 4 : Nat) : Int) + 1 - K 1 c else K 1 c)) (a0 + 2) c (nLy K n (f / 4) (f / 2 % 2) (f % 2) c)) (a0 + 3) c (nUp K (f / 4) (f / 2 % 2) c)) := by
  obtain ⟨h0, h1, h2, h3, h4, h5, h6, h7⟩ := id h
  obtain ⟨w8, w4, w0, w2, wl, wz, wd0, wd9, wc, wj, wq⟩ := id w
  have hw := wc c hc
  have hcx := h4 c hc
  have ic : ix 8 (c : Int) = some c := ixt c rfl (by omega) (by decide)
  have ej : ∀ k0 : Int, (w32 k0 = 0 ↔ f % 2 = 0) → xl_turnCell_j31 s a0 a1 (c : Int) (f : Int) (K 1 c) (2 * ((f / 4 : Nat) : Int) + 1 - K 1 c) k0 = some (uh (uh (uh s (a0 + 1) c (if mvB (K 1) c (f / 4) (f / 2 % 2) = true then 2 * ((f / 4 : Nat) : Int) + 1 - K 1 c else K 1 c)) (a0 + 2) c (nLy K n (f / 4) (f / 2 % 2) (f % 2) c)) (a0 + 3) c (nUp K (f / 4) (f / 2 % 2) c)) := by
    intro k0 hk0
    unfold xl_turnCell_j31 xl_turnCell_j149 xl_turnCell_j95
    rw [cl_layersOn h w (by omega) (by omega), cl_moves h w hc hf, cl_layersOn h w (by omega) (by omega), ic]
    simp only [obs]
    have r2 : ∀ v, uh s (a0 + 1) c v (a1 + 2) = s (a1 + 2) := fun v => uh_row (by omega)
    have r3 : ∀ v v2, uh (uh s (a0 + 1) c v) (a0 + 2) c v2 (a1 + 3) = s (a1 + 3) := fun v v2 => by rw [uh_row (by omega), uh_row (by omega)]
    simp only [r2, r3]
    rw [hcx.2.1, hcx.2.2.1]
    unfold nLy nUp
    by_cases hm : mvB (K 1) c (f / 4) (f / 2 % 2) = true
    · rw [if_pos hm, if_neg (by decide), if_pos hm, if_pos hm, if_pos hm]
      by_cases hy : f % 2 = 0
      · rw [if_pos (hk0.mpr hy), if_pos hy, Int.add_comm (((thk (K 1) n (2 * ((f / 4 : Nat) : Int) + 1 - K 1 c) : Nat) : Int)) (((thk (K 1) n (K 1 c) : Nat) : Int) - 1 - K 2 c)]
      · rw [if_neg (fun q => hy (hk0.mp q)), if_neg hy, Int.add_zero]
    · rw [if_neg hm, if_pos (by decide), if_neg hm, if_neg hm, if_neg hm]
      by_cases hy : f % 2 = 0
      · rw [if_pos (hk0.mpr hy), if_pos hy, Int.add_zero]
      · rw [if_neg (fun q => hy (hk0.mp q)), if_neg hy, Int.add_comm]
  unfold xl_turnCell
  rw [ic]
  simp only [obs]
  rw [hcx.1, cd_p f hf, cd_w f hf, w32_eq (x := ((f % 2 : Nat) : Int)) (by omega) (by omega)]
  by_cases hy : f % 2 = 0
  · rw [if_pos (by omega)]
    exact ej 0 ⟨fun _ => hy, fun _ => by decide⟩
  · rw [if_neg (by omega)]
    exact ej 1 ⟨fun q => absurd q (by decide), fun q => absurd q hy⟩
theorem thk_st {pl : Nat → Int} {n : Nat} {p : Int} : thk pl (n + 1) p = thk pl n p + if pl n = p then 1 else 0 := rfl
theorem cl_count {pl : Nat → Int} (hn : s a0 0 = (n : Int)) (hn8 : n ≤ 8) (hpl : ∀ c, c < n → s (a0 + 1) c = pl c) (hb : ∀ c, c < n → 0 ≤ pl c ∧ pl c < 8) : ∃ s1, xl_countThickness s a0 = some s1 ∧ (∀ P, P ≠ a0 + 7 → s1 P = s P) ∧ ∀ q, q < 8 → s1 (a0 + 7) q = ((thk pl n q : Nat) : Int) := by
  unfold xl_countThickness
  obtain ⟨r, e1, e2⟩ : ∃ r, lp (fun (q : Int × Hp) => xl_countThickness_b2 q.2 a0 q.1) (0, s) = some r ∧ (fun (r : Int × Hp) => (∀ P, P ≠ a0 + 7 → r.2 P = s P) ∧ ∀ q, q < 8 → r.2 (a0 + 7) q = 0) r := by
    refine lp_forR (fun i (q : Int × Hp) => q.1 = (i : Int) ∧ (∀ P, P ≠ a0 + 7 → q.2 P = s P) ∧ ∀ j, j < i → q.2 (a0 + 7) j = 0) 8 _ ?_ ?_ ⟨rfl, fun _ _ => rfl, fun j hj => by omega⟩
    · rintro i ⟨c, s1⟩ hi ⟨j1, j2, j3⟩
      simp only at j1 j2 j3
      subst j1
      show ∃ q, xl_countThickness_b2 s1 a0 (i : Int) = some (.inl q) ∧ _
      unfold xl_countThickness_b2
      rw [w32_eq (x := (i : Int)) (by omega) (by omega), show w32 8 = 8 by decide, if_pos (by omega), ixt i rfl hi (by decide)]
      simp only [obs]
      refine ⟨_, rfl, rfl, fun P hP => (uh_row hP).trans (j2 P hP), fun j hj => ?_⟩
      show uh s1 (a0 + 7) i 0 (a0 + 7) j = 0
      by_cases hji : j = i
      · subst hji; exact uh_rc _ _ _ _
      · rw [uh_ro _ _ _ _ hji]; exact j3 j (by omega)
    · rintro ⟨c, s1⟩ ⟨j1, j2, j3⟩
      simp only at j1 j2 j3
      subst j1
      refine ⟨((8 : Nat), s1), ?_, j2, j3⟩
      show xl_countThickness_b2 s1 a0 ((8 : Nat) : Int) = _
      unfold xl_countThickness_b2
      rw [if_neg (by decide)]
  rw [e1]
  simp only [obs]
  obtain ⟨t, s2⟩ := r
  obtain ⟨g1, g2⟩ := e2
  simp only at g1 g2
  obtain ⟨r, e3, e4⟩ : ∃ r, lp (fun (q : Int × Hp) => xl_countThickness_b23 q.2 a0 q.1) (0, s2) = some r ∧ (fun (r : Int × Hp) => (∀ P, P ≠ a0 + 7 → r.2 P = s P) ∧ ∀ q, q < 8 → r.2 (a0 + 7) q = ((thk pl n q : Nat) : Int)) r := by
    refine lp_forR (fun i (q : Int × Hp) => q.1 = (i : Int) ∧ (∀ P, P ≠ a0 + 7 → q.2 P = s P) ∧ ∀ j, j < 8 → q.2 (a0 + 7) j = ((thk pl i j : Nat) : Int)) n _ ?_ ?_ ⟨rfl, g1, fun j hj => g2 j hj⟩
    · rintro i ⟨c, s1⟩ hi ⟨j1, j2, j3⟩
      simp only at j1 j2 j3
      subst j1
      have hbi := hb i hi
      show ∃ q, xl_countThickness_b23 s1 a0 (i : Int) = some (.inl q) ∧ _
      unfold xl_countThickness_b23
      rw [ixt (j := (i : Int)) i rfl (by omega) (by decide)]
      simp only [obs]
      rw [j2 a0 (by omega), j2 (a0 + 1) (by omega), hn, hpl i hi, w32_eq (x := (i : Int)) (by omega) (by omega), w32_eq (x := (n : Int)) (by omega) (by omega), if_pos (by omega), w32_eq (x := pl i) (by omega) (by omega), if_neg (by omega), show w32 8 = 8 by decide, if_pos (by omega), ixt (j := pl i) (pl i).toNat (by omega) (by omega) (by decide)]
      simp only [obs]
      refine ⟨_, rfl, rfl, fun P hP => (uh_row hP).trans (j2 P hP), fun j hj => ?_⟩
      show uh s1 (a0 + 7) (pl i).toNat (s1 (a0 + 7) (pl i).toNat + 1) (a0 + 7) j = ((thk pl (i + 1) j : Nat) : Int)
      rw [thk_st]
      by_cases hji : j = (pl i).toNat
      · rw [hji, uh_rc, j3 _ (by omega), if_pos (by omega)]
        rfl
      · rw [uh_ro _ _ _ _ hji, j3 j hj, if_neg (by omega)]
        rfl
    · rintro ⟨c, s1⟩ ⟨j1, j2, j3⟩
      simp only at j1 j2 j3
      subst j1
      refine ⟨((n : Int), s1), ?_, j2, j3⟩
      show xl_countThickness_b23 s1 a0 (n : Int) = _
      unfold xl_countThickness_b23
      rw [j2 a0 (by omega), hn, if_neg (by omega)]
  rw [e3]
  exact ⟨r.2, rfl, e4.1, e4.2⟩
theorem cl_lie (h : Cl s a1 K n m) (w : WF K n m) (hd : a0 + 8 < a1 ∨ a1 + 8 < a0) {f : Nat} (hf : f < 64) (hp : ((f / 4 : Nat) : Int) + 1 < K 0 2) : ∃ s1, xl_lieFolded s a0 a1 (f : Int) = some s1 ∧ (∀ P, ¬ (P = a0 ∨ P = a0 + 1 ∨ P = a0 + 2 ∨ P = a0 + 3 ∨ P = a0 + 6 ∨ P = a0 + 7) → s1 P = s P) ∧ s1 a0 0 = (n : Int) ∧ s1 a0 2 = nWd (K 0 2) (f / 4) ∧ (∀ q, q ≠ 0 → q ≠ 2 → s1 a0 q = s a0 q) ∧ (∀ c, c < n → s1 (a0 + 1) c = nPl K (f / 4) (f / 2 % 2) c ∧ s1 (a0 + 2) c = nLy K n (f / 4) (f / 2 % 2) (f % 2) c ∧ s1 (a0 + 3) c = nUp K (f / 4) (f / 2 % 2) c) ∧ (∀ j, j + 1 < n → s1 (a0 + 6) j = nCr K (f / 4) (f % 2) j) ∧ ∀ q, q < 8 → s1 (a0 + 7) q = ((thk (nPl K (f / 4) (f / 2 % 2)) n q : Nat) : Int) := by
  obtain ⟨h0, h1, h2, h3, h4, h5, h6, h7⟩ := id h
  obtain ⟨w8, w4, w0, w2, wl, wz, wd0, wd9, wc, wj, wq⟩ := id w
  have ej : ∀ z : Int, z = shf (K 0 2) (f / 4) (f / 2 % 2) → ∃ s1, xl_lieFolded_j43 s a0 a1 (f : Int) ((f / 4 : Nat) : Int) z = some s1 ∧ (∀ P, ¬ (P = a0 ∨ P = a0 + 1 ∨ P = a0 + 2 ∨ P = a0 + 3 ∨ P = a0 + 6 ∨ P = a0 + 7) → s1 P = s P) ∧ s1 a0 0 = (n : Int) ∧ s1 a0 2 = nWd (K 0 2) (f / 4) ∧ (∀ q, q ≠ 0 → q ≠ 2 → s1 a0 q = s a0 q) ∧ (∀ c, c < n → s1 (a0 + 1) c = nPl K (f / 4) (f / 2 % 2) c ∧ s1 (a0 + 2) c = nLy K n (f / 4) (f / 2 % 2) (f % 2) c ∧ s1 (a0 + 3) c = nUp K (f / 4) (f / 2 % 2) c) ∧ (∀ j, j + 1 < n → s1 (a0 + 6) j = nCr K (f / 4) (f % 2) j) ∧ ∀ q, q < 8 → s1 (a0 + 7) q = ((thk (nPl K (f / 4) (f / 2 % 2)) n q : Nat) : Int) := by
    intro z hz
    unfold xl_lieFolded_j43 xf_widthAfter
    simp only [obs]
    rw [uh_row (p := a1) (a := a0) (by omega), h0, h2, mx_eq (by omega) (by omega) (by omega) (by omega)]
    have hWd : (if ((f / 4 : Nat) : Int) + 1 < K 0 2 - 1 - ((f / 4 : Nat) : Int) then K 0 2 - 1 - ((f / 4 : Nat) : Int) else ((f / 4 : Nat) : Int) + 1) = nWd (K 0 2) (f / 4) := by
      unfold nWd
      split <;> split <;> omega
    rw [hWd]
    generalize hS : uh (uh s a0 0 (n : Int)) a0 2 (nWd (K 0 2) (f / 4)) = S
    have sr : ∀ P, P ≠ a0 → S P = s P := fun P hP => by rw [← hS, uh_row hP, uh_row hP]
    have s0 : S a0 0 = (n : Int) := by rw [← hS]; simp [uh_at]
    have s2 : S a0 2 = nWd (K 0 2) (f / 4) := by rw [← hS]; simp [uh_at]
    have sq : ∀ q, q ≠ 0 → q ≠ 2 → S a0 q = s a0 q := fun q q0 q2 => by rw [← hS, uh_ro _ _ _ _ q2, uh_ro _ _ _ _ q0]
    obtain ⟨r, e1, e2⟩ : ∃ r, lp (fun (q : Int × Hp) => xl_lieFolded_b68 q.2 a0 a1 (f : Int) z q.1) (0, S) = some r ∧ (fun (r : Int × Hp) => (∀ P, ¬ (P = a0 + 1 ∨ P = a0 + 2 ∨ P = a0 + 3) → r.2 P = S P) ∧ (∀ c, c < n → r.2 (a0 + 1) c = nPl K (f / 4) (f / 2 % 2) c ∧ r.2 (a0 + 2) c = nLy K n (f / 4) (f / 2 % 2) (f % 2) c ∧ r.2 (a0 + 3) c = nUp K (f / 4) (f / 2 % 2) c)) r := by
      refine lp_forR (fun i (q : Int × Hp) => q.1 = (i : Int) ∧ (∀ P, ¬ (P = a0 + 1 ∨ P = a0 + 2 ∨ P = a0 + 3) → q.2 P = S P) ∧ (∀ c, c < i → q.2 (a0 + 1) c = nPl K (f / 4) (f / 2 % 2) c ∧ q.2 (a0 + 2) c = nLy K n (f / 4) (f / 2 % 2) (f % 2) c ∧ q.2 (a0 + 3) c = nUp K (f / 4) (f / 2 % 2) c)) n _ ?_ ?_ ⟨rfl, fun _ _ => rfl, fun c hc => by omega⟩
      · rintro i ⟨c, t⟩ hi ⟨j1, j2, j3⟩
        simp only at j1 j2 j3
        subst j1
        have hcl : Cl t a1 K n m := Cl_row h (fun j hj => by rw [j2 _ (by omega), sr _ (by omega)])
        show ∃ q, xl_lieFolded_b68 t a0 a1 (f : Int) z (i : Int) = some (.inl q) ∧ _
        unfold xl_lieFolded_b68
        rw [cl_turnCell (a0 := a0) hcl w hd hf hi, j2 a0 (by omega), s0, ixt (j := (i : Int)) i rfl (by omega) (by decide)]
        simp only [obs]
        rw [w32_eq (x := (i : Int)) (by omega) (by omega), w32_eq (x := (n : Int)) (by omega) (by omega), if_pos (by omega)]
        rw [uh_row (p := a0 + 1) (a := a0 + 3) (by omega), uh_row (p := a0 + 1) (a := a0 + 2) (by omega), uh_rc]
        refine ⟨_, rfl, rfl, fun P hP => ?_, fun c hc => ?_⟩
        · exact ((uh_row (by omega)).trans ((uh_row (by omega)).trans ((uh_row (by omega)).trans (uh_row (by omega))))).trans (j2 P hP)
        · show uh (uh (uh (uh t (a0 + 1) i _) (a0 + 2) i _) (a0 + 3) i _) (a0 + 1) i _ (a0 + 1) c = _ ∧ uh (uh (uh (uh t (a0 + 1) i _) (a0 + 2) i _) (a0 + 3) i _) (a0 + 1) i _ (a0 + 2) c = _ ∧ uh (uh (uh (uh t (a0 + 1) i _) (a0 + 2) i _) (a0 + 3) i _) (a0 + 1) i _ (a0 + 3) c = _
          rw [uh_row (p := a0 + 2) (a := a0 + 1) (by omega), uh_row (p := a0 + 2) (a := a0 + 3) (by omega), uh_row (p := a0 + 3) (a := a0 + 1) (by omega)]
          by_cases hci : c = i
          · subst hci
            rw [uh_rc, uh_rc, uh_rc]
            refine ⟨?_, rfl, rfl⟩
            unfold nPl
            rw [hz]
          · rw [uh_ro _ _ _ _ hci, uh_ro _ _ _ _ hci, uh_ro _ _ _ _ hci, uh_row (p := a0 + 1) (a := a0 + 3) (by omega), uh_row (p := a0 + 1) (a := a0 + 2) (by omega), uh_ro _ _ _ _ hci, uh_row (p := a0 + 2) (a := a0 + 1) (by omega), uh_row (p := a0 + 3) (a := a0 + 2) (by omega), uh_row (p := a0 + 3) (a := a0 + 1) (by omega)]
            exact j3 c (by omega)
      · rintro ⟨c, t⟩ ⟨j1, j2, j3⟩
        simp only at j1 j2 j3
        subst j1
        refine ⟨((n : Int), t), ?_, j2, j3⟩
        show xl_lieFolded_b68 t a0 a1 (f : Int) z (n : Int) = _
        unfold xl_lieFolded_b68
        rw [j2 a0 (by omega), s0, if_neg (by omega)]
    rw [e1]
    simp only [obs]
    obtain ⟨x, t⟩ := r
    obtain ⟨g1, g2⟩ := e2
    simp only at g1 g2
    obtain ⟨r, e3, e4⟩ : ∃ r, lp (fun (q : Int × Hp) => xl_lieFolded_b106 q.2 a0 a1 (f : Int) q.1) (0, t) = some r ∧ (fun (r : Int × Hp) => (∀ P, P ≠ a0 + 6 → r.2 P = t P) ∧ (∀ j, j + 1 < n → r.2 (a0 + 6) j = nCr K (f / 4) (f % 2) j)) r := by
      refine lp_forR (fun i (q : Int × Hp) => q.1 = (i : Int) ∧ (∀ P, P ≠ a0 + 6 → q.2 P = t P) ∧ (∀ j, j < i → q.2 (a0 + 6) j = nCr K (f / 4) (f % 2) j)) (n - 1) _ ?_ ?_ ⟨rfl, fun _ _ => rfl, fun c hc => by omega⟩
      · rintro i ⟨c, t1⟩ hi ⟨j1, j2, j3⟩
        simp only at j1 j2 j3
        subst j1
        have hcl : Cl t1 a1 K n m := Cl_row h (fun j hj => by rw [j2 _ (by omega), g1 _ (by omega), sr _ (by omega)])
        have hk := knd_3 (K 1) (K 3) i (f / 4) (f % 2)
        show ∃ q, xl_lieFolded_b106 t1 a0 a1 (f : Int) (i : Int) = some (.inl q) ∧ _
        unfold xl_lieFolded_b106
        rw [cl_kindMade hcl w (show i + 1 < n by omega) hf, j2 a0 (by omega), g1 a0 (by omega), s0, ixt (j := (i : Int)) i rfl (by omega) (by decide)]
        simp only [obs]
        rw [w32_eq (x := (i : Int)) (by omega) (by omega), w32_eq (x := (n : Int) - 1) (by omega) (by omega), if_pos (by omega), hcl.2.2.2.2.2.1 i (by omega), w32_eq (x := knd (K 1) (K 3) i (f / 4) (f % 2)) (by omega) (by omega)]
        have fin : ∀ v : Int, v = nCr K (f / 4) (f % 2) i → ∃ q, (some (.inl ((i : Int) + 1, uh t1 (a0 + 6) i v)) : Option ((Int × Hp) ⊕ (Int × Hp))) = some (.inl q) ∧ q.1 = ((i + 1 : Nat) : Int) ∧ (∀ P, P ≠ a0 + 6 → q.2 P = t P) ∧ (∀ j, j < i + 1 → q.2 (a0 + 6) j = nCr K (f / 4) (f % 2) j) := by
          intro v hv
          refine ⟨_, rfl, rfl, fun P hP => (uh_row hP).trans (j2 P hP), fun j hj => ?_⟩
          show uh t1 (a0 + 6) i v (a0 + 6) j = _
          by_cases hji : j = i
          · subst hji; rw [uh_rc]; exact hv
          · rw [uh_ro _ _ _ _ hji]; exact j3 j (by omega)
        by_cases hk0 : knd (K 1) (K 3) i (f / 4) (f % 2) = 0
        · rw [if_pos hk0]
          exact fin _ (if_pos hk0).symm
        · rw [if_neg hk0]
          exact fin _ (if_neg hk0).symm
      · rintro ⟨c, t1⟩ ⟨j1, j2, j3⟩
        simp only at j1 j2 j3
        subst j1
        refine ⟨(((n - 1 : Nat) : Int), t1), ?_, j2, fun j hj => j3 j (by omega)⟩
        show xl_lieFolded_b106 t1 a0 a1 (f : Int) ((n - 1 : Nat) : Int) = _
        unfold xl_lieFolded_b106
        rw [j2 a0 (by omega), g1 a0 (by omega), s0, w32_eq (x := ((n - 1 : Nat) : Int)) (by omega) (by omega), w32_eq (x := (n : Int) - 1) (by omega) (by omega), if_neg (by omega)]
    rw [e3]
    simp only [obs]
    obtain ⟨x2, t2⟩ := r
    obtain ⟨g3, g4⟩ := e4
    simp only at g3 g4
    obtain ⟨s5, c1, c2, c3⟩ := cl_count (s := t2) (a0 := a0) (n := n) (pl := nPl K (f / 4) (f / 2 % 2)) (by rw [g3 _ (by omega), g1 _ (by omega)]; exact s0) w8 (fun c hc => by rw [g3 _ (by omega)]; exact (g2 c hc).1) (fun c hc => by
      have := nPl_bd (p := f / 4) (sd := f / 2 % 2) w hp (by omega) hc
      have hW : nWd (K 0 2) (f / 4) ≤ 8 := by unfold nWd; split <;> omega
      omega)
    rw [c1]
    refine ⟨s5, rfl, fun P hP => ?_, ?_, ?_, fun q q0 q2 => ?_, fun c hc => ?_, fun j hj => ?_, c3⟩
    · rw [c2 P (by omega), g3 P (by omega), g1 P (by omega), sr P (by omega)]
    · rw [c2 _ (by omega), g3 _ (by omega), g1 _ (by omega)]; exact s0
    · rw [c2 _ (by omega), g3 _ (by omega), g1 _ (by omega)]; exact s2
    · rw [c2 _ (by omega), g3 _ (by omega), g1 _ (by omega)]; exact sq q q0 q2
    · rw [c2 _ (by omega), c2 _ (by omega), c2 _ (by omega), g3 _ (by omega), g3 _ (by omega), g3 _ (by omega)]
      exact g2 c hc
    · rw [c2 _ (by omega)]; exact g4 j hj
  have e15 : ∀ k0 : Int, (w32 k0 = 0 ↔ f / 2 % 2 = 0) → ∃ z, z = shf (K 0 2) (f / 4) (f / 2 % 2) ∧ xl_lieFolded_j15 s a0 a1 (f : Int) ((f / 4 : Nat) : Int) k0 = xl_lieFolded_j43 s a0 a1 (f : Int) ((f / 4 : Nat) : Int) z := by
    intro k0 hk0
    unfold xl_lieFolded_j15 shf
    by_cases q : f / 2 % 2 = 0
    · rw [if_pos q, if_pos (hk0.mpr q), h2, mx_eq (by omega) (by omega) (by omega) (by omega)]
      exact ⟨_, rfl, rfl⟩
    · rw [if_neg q, if_neg (fun e => q (hk0.mp e))]
      exact ⟨_, rfl, rfl⟩
  unfold xl_lieFolded
  rw [cd_s f hf, cd_p f hf, w32_eq (x := ((2 * (f / 2 % 2) : Nat) : Int)) (by omega) (by omega)]
  by_cases q : f / 2 % 2 = 0
  · rw [if_pos (by omega)]
    obtain ⟨z, z1, z2⟩ := e15 0 ⟨fun _ => q, fun _ => by decide⟩
    rw [z2]
    exact ej z z1
  · rw [if_neg (by omega)]
    obtain ⟨z, z1, z2⟩ := e15 1 ⟨fun e => absurd e (by decide), fun e => absurd e q⟩
    rw [z2]
    exact ej z z1
end LI
