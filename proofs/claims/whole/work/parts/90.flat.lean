/-! a cloth of which creases and places alone are looked at (parts 52, 57, 59 once more, with less) -/
def ClF (s : Hp) (a : Nat) (K : Nat → Nat → Int) (n m : Nat) : Prop :=
  s a 0 = n ∧ True ∧ s a 2 = K 0 2 ∧ True ∧ (∀ c, c < n → s (a + 1) c = K 1 c ∧ s (a + 2) c = K 2 c ∧ s (a + 3) c = K 3 c ∧ True) ∧ (∀ j, j + 1 < n → s (a + 6) j = K 6 j) ∧ True ∧ (∀ p : Nat, (p : Int) < K 0 2 → s (a + 7) p = (thk (K 1) n p : Nat))
def WFF (K : Nat → Nat → Int) (n m : Nat) : Prop :=
  n ≤ 8 ∧ m ≤ 4 ∧ (n = 0 → m = 0 ∧ K 0 2 = 0) ∧ (0 < n → 2 ≤ n ∧ 1 ≤ K 0 2) ∧ K 0 2 ≤ n ∧ 0 ≤ K 0 2 ∧ True ∧ True ∧ (∀ c, c < n → 0 ≤ K 1 c ∧ K 1 c < K 0 2 ∧ (K 3 c = 0 ∨ K 3 c = 1) ∧ True) ∧ (∀ j, j + 1 < n → K 1 (j + 1) ≤ K 1 j + 1 ∧ K 1 j ≤ K 1 (j + 1) + 1 ∧ 0 ≤ K 6 j ∧ K 6 j ≤ 2) ∧ True
theorem ClF_row {s s1 : Hp} {a : Nat} {K : Nat → Nat → Int} {n m : Nat} (h : ClF s a K n m) (hs : ∀ i, i ≤ 8 → s1 (a + i) = s (a + i)) : ClF s1 a K n m := by
  obtain ⟨h0, h1, h2, h3, h4, h5, h6, h7⟩ := h
  have e0 : s1 a = s a := hs 0 (by decide)
  refine ⟨by rw [e0]; exact h0, h1, by rw [e0]; exact h2, h3, fun c hc => ?_, fun j hj => ?_, h6, fun p hp => ?_⟩
  · rw [hs 1 (by decide), hs 2 (by decide), hs 3 (by decide)]
    exact h4 c hc
  · rw [hs 6 (by decide)]; exact h5 j hj
  · rw [hs 7 (by decide)]; exact h7 p hp
theorem WFF_of {K : Nat → Nat → Int} {n m : Nat} (w : WF K n m) : WFF K n 0 := by
  obtain ⟨w8, w4, w0, w2, wl, wz, wd0, wd9, wc, wj, wq⟩ := w
  exact ⟨w8, by decide, fun h => ⟨rfl, (w0 h).2⟩, w2, wl, wz, trivial, trivial, fun c hc => ⟨(wc c hc).1, (wc c hc).2.1, (wc c hc).2.2.1, trivial⟩, wj, trivial⟩
section FL
variable {s : Hp} {a a0 a1 : Nat} {K : Nat → Nat → Int} {n m : Nat}
theorem nPl_bf {K : Nat → Nat → Int} {n m p sd c : Nat} (w : WFF K n m) (hp : (p : Int) + 1 < K 0 2) (hs : sd < 2) (hc : c < n) : 0 ≤ nPl K p sd c ∧ nPl K p sd c < nWd (K 0 2) p := by
  obtain ⟨w8, w4, -, -, wl, wz, wd0, wd9, wc, -, wq⟩ := id w
  have hw := wc c hc
  unfold nPl shf nWd
  by_cases hm : mvB (K 1) c p sd = true
  · have h1 := mvB_t.mp hm
    rw [if_pos hm]
    by_cases q : sd = 0
    · rw [if_pos q]; split <;> split <;> omega
    · rw [if_neg q]; split <;> omega
  · have h1 : ¬ ((sd = 0 ∧ (p : Int) < K 1 c) ∨ (sd ≠ 0 ∧ K 1 c ≤ (p : Int))) := fun q => hm (mvB_t.mpr q)
    rw [if_neg hm]
    by_cases q : sd = 0
    · rw [if_pos q]; split <;> split <;> omega
    · rw [if_neg q]; split <;> omega
theorem nPl_af {K : Nat → Nat → Int} {n m p sd j : Nat} (w : WFF K n m) (hs : sd < 2) (hj : j + 1 < n) : nPl K p sd (j + 1) ≤ nPl K p sd j + 1 ∧ nPl K p sd j ≤ nPl K p sd (j + 1) + 1 := by
  obtain ⟨w8, w4, -, -, wl, wz, wd0, wd9, wc, wj, wq⟩ := id w
  have hw := wj j hj
  unfold nPl
  generalize shf (K 0 2) p sd = z
  by_cases h1 : mvB (K 1) j p sd = true <;> by_cases h2 : mvB (K 1) (j + 1) p sd = true
  · rw [if_pos h1, if_pos h2]; omega
  · have g1 := mvB_t.mp h1
    have g2 : ¬ ((sd = 0 ∧ (p : Int) < K 1 (j + 1)) ∨ (sd ≠ 0 ∧ K 1 (j + 1) ≤ (p : Int))) := fun q => h2 (mvB_t.mpr q)
    rw [if_pos h1, if_neg h2]; omega
  · have g1 := mvB_t.mp h2
    have g2 : ¬ ((sd = 0 ∧ (p : Int) < K 1 j) ∨ (sd ≠ 0 ∧ K 1 j ≤ (p : Int))) := fun q => h1 (mvB_t.mpr q)
    rw [if_neg h1, if_pos h2]; omega
  · rw [if_neg h1, if_neg h2]; omega
theorem WFF_tr {K : Nat → Nat → Int} {n m p sd wy : Nat} (w : WFF K n m) (hp : (p : Int) + 1 < K 0 2) (hs : sd < 2) : WFF (trK K n p sd wy) n m := by
  obtain ⟨w8, w4, w0, w2, wl, wz, wd0, wd9, wc, wj, wq⟩ := id w
  have hn : 0 < n := by omega
  have hW : 1 ≤ nWd (K 0 2) p ∧ nWd (K 0 2) p ≤ n := by unfold nWd; split <;> omega
  refine ⟨w8, w4, fun h => by omega, fun _ => ⟨(w2 hn).1, hW.1⟩, hW.2, by show 0 ≤ nWd (K 0 2) p; omega, wd0, wd9, fun c hc => ?_, fun j hj => ?_, wq⟩
  · have hw := wc c hc
    have hb := nPl_bf w hp hs hc
    refine ⟨hb.1, hb.2, ?_, hw.2.2.2⟩
    show nUp K p sd c = 0 ∨ nUp K p sd c = 1
    unfold nUp
    split <;> omega
  · have hw := wj j hj
    have ha := nPl_af (p := p) w hs hj
    refine ⟨ha.1, ha.2, ?_⟩
    show 0 ≤ nCr K p wy j ∧ nCr K p wy j ≤ 2
    have hk := knd_3 (K 1) (K 3) j p wy
    unfold nCr
    split <;> omega
theorem cf_foldCount (h : ClF s a K n m) (w : WFF K n m) : xl_foldCount s a = some (if 0 < 4 * (K 0 2 - 1) then 4 * (K 0 2 - 1) else 0) := by
  obtain ⟨-, -, h2, -⟩ := id h
  obtain ⟨w8, -, -, -, wl, wz, -⟩ := id w
  unfold xl_foldCount
  rw [h2, mx_eq (by omega) (by omega) (by omega) (by omega)]
theorem cf_moves (h : ClF s a K n m) (w : WFF K n m) {c f : Nat} (hc : c < n) (hf : f < 64) : xl_moves s a c f = some (if mvB (K 1) c (f / 4) (f / 2 % 2) then 1 else 0) := by
  obtain ⟨-, -, -, -, hcc, -⟩ := id h
  obtain ⟨w8, w4, -, -, wl, wz, -, -, wc, -⟩ := id w
  have hw := wc c hc
  have ej : ∀ k0 : Int, xl_moves_j17 s a f k0 = if f / 2 % 2 = 0 then (if w32 k0 = 1 then some 1 else some 0) else if w32 k0 = 0 then some 1 else some 0 := fun k0 => by
    unfold xl_moves_j17
    rw [cd_s f hf, w32_eq (x := ((2 * (f / 2 % 2) : Nat) : Int)) (by omega) (by omega), show w32 1 = 1 by decide, show w32 0 = 0 by decide]
    by_cases q : f / 2 % 2 = 0
    · rw [if_pos (by omega), if_pos q]
    · rw [if_neg (by omega), if_neg q]
  unfold xl_moves mvB
  rw [ixt c rfl (by omega) (by decide)]
  simp only [obs]
  rw [cd_p f hf, (hcc c hc).1, ej, ej, w32_eq (x := K 1 c) (by omega) (by omega), w32_eq (x := ((f / 4 : Nat) : Int)) (by omega) (by omega), show w32 1 = 1 by decide, show w32 0 = 0 by decide]
  by_cases q : f / 2 % 2 = 0
  · rw [if_pos q, if_pos q]
    by_cases q2 : ((f / 4 : Nat) : Int) < K 1 c
    · rw [if_pos q2, if_pos rfl, if_pos (decide_eq_true (Or.inl ⟨q, q2⟩))]
    · rw [if_neg q2, if_neg (by decide), if_neg (by simp only [decide_eq_true_eq]; omega)]
  · rw [if_neg q, if_neg q]
    by_cases q2 : ((f / 4 : Nat) : Int) < K 1 c
    · rw [if_pos q2, if_neg (by decide), if_neg (by simp only [decide_eq_true_eq]; omega)]
    · rw [if_neg q2, if_pos rfl, if_pos (by simp only [decide_eq_true_eq]; omega)]
theorem cf_kindMade (h : ClF s a K n m) (w : WFF K n m) {j f : Nat} (hj : j + 1 < n) (hf : f < 64) : xl_kindMade s a j f = some (knd (K 1) (K 3) j (f / 4) (f % 2)) := by
  obtain ⟨-, -, -, -, hcc, -⟩ := id h
  obtain ⟨w8, w4, -, -, wl, wz, -, -, wc, -⟩ := id w
  have hw := wc j (by omega)
  have hw1 := wc (j + 1) hj
  have e1 : w32 1 = 1 := by decide
  have e0 : w32 0 = 0 := by decide
  have ix1 : ix 8 (j : Int) = some j := ixt j rfl (by omega) (by decide)
  have ix2 : ix 8 ((j : Int) + 1) = some (j + 1) := ixt (j + 1) rfl (by omega) (by decide)
  have e52 : ∀ k0 : Int, xl_kindMade_j52 s a j k0 = if K 3 j = 1 then (if 1 = w32 k0 then some 1 else some 2) else if 0 = w32 k0 then some 1 else some 2 := fun k0 => by
    unfold xl_kindMade_j52
    rw [ix1]
    simp only [obs]
    rw [(hcc j (by omega)).2.2.1, e1, e0, w32_eq (x := K 3 j) (by omega) (by omega)]
  have e36 : ∀ k0 k1 : Int, xl_kindMade_j36 s a j f k0 k1 = if w32 k0 = w32 k1 then some 0 else some (if (f % 2 = 0) ↔ (K 3 j = 1) then 1 else 2) := fun k0 k1 => by
    unfold xl_kindMade_j36
    rw [e52, e52, cd_w f hf, e1, e0, w32_eq (x := ((f % 2 : Nat) : Int)) (by omega) (by omega)]
    by_cases q : w32 k0 = w32 k1
    · rw [if_pos q, if_pos q]
    · rw [if_neg q, if_neg q]
      by_cases q5 : K 3 j = 1 <;> by_cases q6 : f % 2 = 0
      · rw [if_pos (by omega), if_pos q5, if_pos rfl, if_pos (by omega)]
      · rw [if_neg (by omega), if_pos q5, if_neg (by decide), if_neg (by omega)]
      · rw [if_pos (by omega), if_neg q5, if_neg (by decide), if_neg (by omega)]
      · rw [if_neg (by omega), if_neg q5, if_pos rfl, if_pos (by omega)]
  have e19 : ∀ k0 : Int, xl_kindMade_j19 s a j f ((f / 4 : Nat) : Int) k0 = if ((f / 4 : Nat) : Int) < K 1 (j + 1) then (if w32 k0 = 0 then some 0 else some (if (f % 2 = 0) ↔ (K 3 j = 1) then 1 else 2)) else if w32 k0 = 1 then some 0 else some (if (f % 2 = 0) ↔ (K 3 j = 1) then 1 else 2) := fun k0 => by
    unfold xl_kindMade_j19
    rw [ix2]
    simp only [obs]
    rw [(hcc (j + 1) hj).1, e36, e36, e1, e0, w32_eq (x := K 1 (j + 1)) (by omega) (by omega), w32_eq (x := ((f / 4 : Nat) : Int)) (by omega) (by omega)]
  unfold xl_kindMade knd
  rw [ix1]
  simp only [obs]
  rw [cd_p f hf, e19, e19, (hcc j (by omega)).1, e1, e0, w32_eq (x := K 1 j) (by omega) (by omega), w32_eq (x := ((f / 4 : Nat) : Int)) (by omega) (by omega)]
  by_cases q1 : ((f / 4 : Nat) : Int) < K 1 j <;> by_cases q2 : ((f / 4 : Nat) : Int) < K 1 (j + 1)
  · rw [if_pos q1, if_pos q2, if_pos rfl, if_pos (by omega)]
  · rw [if_pos q1, if_neg q2, if_neg (by decide), if_neg (c := (K 1 j ≤ ((f / 4 : Nat) : Int) ↔ K 1 (j + 1) ≤ ((f / 4 : Nat) : Int))) (by omega)]
  · rw [if_neg q1, if_pos q2, if_neg (by decide), if_neg (c := (K 1 j ≤ ((f / 4 : Nat) : Int) ↔ K 1 (j + 1) ≤ ((f / 4 : Nat) : Int))) (by omega)]
  · rw [if_neg q1, if_neg q2, if_pos rfl, if_pos (by omega)]
theorem cf_layersOn (h : ClF s a K n m) (w : WFF K n m) {q : Int} (b1 : -100 ≤ q) (b2 : q ≤ 100) : xl_layersOn s a q = some ((thk (K 1) n q : Nat) : Int) := by
  obtain ⟨-, -, h2, -, -, -, -, ht⟩ := id h
  obtain ⟨w8, w4, -, -, wl, wz, -, -, wc, -⟩ := id w
  unfold xl_layersOn
  rw [h2, w32_eq (x := q) (by omega) (by omega), w32_eq (x := K 0 2) (by omega) (by omega)]
  by_cases q1 : q < 0
  · rw [if_pos q1, thk_0 (fun c hc => by have := wc c hc; omega)]; rfl
  · rw [if_neg q1]
    by_cases q2 : q < K 0 2
    · rw [if_pos q2, ixt q.toNat (by omega) (by omega) (by decide)]
      simp only [obs]
      rw [ht q.toNat (by omega), show ((q.toNat : Nat) : Int) = q by omega]
    · rw [if_neg q2, thk_0 (fun c hc => by have := wc c hc; omega)]; rfl
theorem cf_turnCell (h : ClF s a1 K n m) (w : WFF K n m) (hd : a0 + 8 < a1 ∨ a1 + 8 < a0) {f c : Nat} (hf : f < 64) (hc : c < n) : xl_turnCell s a0 a1 (c : Int) (f : Int) = some (uh (uh (uh s (a0 + 1) c (if mvB (K 1) c (f / 4) (f / 2 % 2) = true then 2 * ((f / 4 : Nat) : Int) + 1 - K 1 c else K 1 c)) (a0 + 2) c (nLy K n (f / 4) (f / 2 % 2) (f % 2) c)) (a0 + 3) c (nUp K (f / 4) (f / 2 % 2) c)) := by
  obtain ⟨h0, h1, h2, h3, h4, h5, h6, h7⟩ := id h
  obtain ⟨w8, w4, w0, w2, wl, wz, wd0, wd9, wc, wj, wq⟩ := id w
  have hw := wc c hc
  have hcx := h4 c hc
  have ic : ix 8 (c : Int) = some c := ixt c rfl (by omega) (by decide)
  have ej : ∀ k0 : Int, (w32 k0 = 0 ↔ f % 2 = 0) → xl_turnCell_j31 s a0 a1 (c : Int) (f : Int) (K 1 c) (2 * ((f / 4 : Nat) : Int) + 1 - K 1 c) k0 = some (uh (uh (uh s (a0 + 1) c (if mvB (K 1) c (f / 4) (f / 2 % 2) = true then 2 * ((f / 4 : Nat) : Int) + 1 - K 1 c else K 1 c)) (a0 + 2) c (nLy K n (f / 4) (f / 2 % 2) (f % 2) c)) (a0 + 3) c (nUp K (f / 4) (f / 2 % 2) c)) := by
    intro k0 hk0
    unfold xl_turnCell_j31 xl_turnCell_j149 xl_turnCell_j95
    rw [cf_layersOn h w (by omega) (by omega), cf_moves h w hc hf, cf_layersOn h w (by omega) (by omega), ic]
    simp only [obs]
    have r2 : ∀ v, uh s (a0 + 1) c v (a1 + 2) = s (a1 + 2) := fun v => uh_row (by omega)
    have r3 : ∀ v v2, uh (uh s (a0 + 1) c v) (a0 + 2) c v2 (a1 + 3) = s (a1 + 3) := fun v v2 => by rw [uh_row (by omega), uh_row (by omega)]
    simp only [r2, r3]
    rw [hcx.2.1, hcx.2.2.1]
    unfold nLy nUp
    by_cases hm : mvB (K 1) c (f / 4) (f / 2 % 2) = true
    · rw [if_pos hm, if_neg (by decide), if_pos hm, if_pos hm, if_pos hm]
      by_cases hy : f % 2 = 0
      · rw [if_pos (hk0.mpr hy), if_pos hy, Int.add_comm (((thk (K 1) n (2 * ((f / 4 : Nat) : Int) + 1 - K 1 c) : Nat) : Int)) (((thk (K 1) n (K 1 c) : Nat) : Int) - 1 - K 2 c)]
      · rw [if_neg (fun q => hy (hk0.mp q)), if_neg hy, Int.add_zero]
    · rw [if_neg hm, if_pos (by decide), if_neg hm, if_neg hm, if_neg hm]
      by_cases hy : f % 2 = 0
      · rw [if_pos (hk0.mpr hy), if_pos hy, Int.add_zero]
      · rw [if_neg (fun q => hy (hk0.mp q)), if_neg hy, Int.add_comm]
  unfold xl_turnCell
  rw [ic]
  simp only [obs]
  rw [hcx.1, cd_p f hf, cd_w f hf, w32_eq (x := ((f % 2 : Nat) : Int)) (by omega) (by omega)]
  by_cases hy : f % 2 = 0
  · rw [if_pos (by omega)]
    exact ej 0 ⟨fun _ => hy, fun _ => by decide⟩
  · rw [if_neg (by omega)]
    exact ej 1 ⟨fun q => absurd q (by decide), fun q => absurd q hy⟩
theorem cf_lie (h : ClF s a1 K n m) (w : WFF K n m) (hd : a0 + 8 < a1 ∨ a1 + 8 < a0) {f : Nat} (hf : f < 64) (hp : ((f / 4 : Nat) : Int) + 1 < K 0 2) : ∃ s1, xl_lieFolded s a0 a1 (f : Int) = some s1 ∧ (∀ P, ¬ (P = a0 ∨ P = a0 + 1 ∨ P = a0 + 2 ∨ P = a0 + 3 ∨ P = a0 + 6 ∨ P = a0 + 7) → s1 P = s P) ∧ s1 a0 0 = (n : Int) ∧ s1 a0 2 = nWd (K 0 2) (f / 4) ∧ (∀ q, q ≠ 0 → q ≠ 2 → s1 a0 q = s a0 q) ∧ (∀ c, c < n → s1 (a0 + 1) c = nPl K (f / 4) (f / 2 % 2) c ∧ s1 (a0 + 2) c = nLy K n (f / 4) (f / 2 % 2) (f % 2) c ∧ s1 (a0 + 3) c = nUp K (f / 4) (f / 2 % 2) c) ∧ (∀ j, j + 1 < n → s1 (a0 + 6) j = nCr K (f / 4) (f % 2) j) ∧ ∀ q, q < 8 → s1 (a0 + 7) q = ((thk (nPl K (f / 4) (f / 2 % 2)) n q : Nat) : Int) := by
  obtain ⟨h0, h1, h2, h3, h4, h5, h6, h7⟩ := id h
  obtain ⟨w8, w4, w0, w2, wl, wz, wd0, wd9, wc, wj, wq⟩ := id w
  have ej : ∀ z : Int, z = shf (K 0 2) (f / 4) (f / 2 % 2) → ∃ s1, xl_lieFolded_j43 s a0 a1 (f : Int) ((f / 4 : Nat) : Int) z = some s1 ∧ (∀ P, ¬ (P = a0 ∨ P = a0 + 1 ∨ P = a0 + 2 ∨ P = a0 + 3 ∨ P = a0 + 6 ∨ P = a0 + 7) → s1 P = s P) ∧ s1 a0 0 = (n : Int) ∧ s1 a0 2 = nWd (K 0 2) (f / 4) ∧ (∀ q, q ≠ 0 → q ≠ 2 → s1 a0 q = s a0 q) ∧ (∀ c, c < n → s1 (a0 + 1) c = nPl K (f / 4) (f / 2 % 2) c ∧ s1 (a0 + 2) c = nLy K n (f / 4) (f / 2 % 2) (f % 2) c ∧ s1 (a0 + 3) c = nUp K (f / 4) (f / 2 % 2) c) ∧ (∀ j, j + 1 < n → s1 (a0 + 6) j = nCr K (f / 4) (f % 2) j) ∧ ∀ q, q < 8 → s1 (a0 + 7) q = ((thk (nPl K (f / 4) (f / 2 % 2)) n q : Nat) : Int) := by
    intro z hz
    unfold xl_lieFolded_j43 xf_widthAfter
    simp only [obs]
    rw [uh_row (p := a1) (a := a0) (by omega), h0, h2, mx_eq (by omega) (by omega) (by omega) (by omega)]
    have hWd : (if ((f / 4 : Nat) : Int) + 1 < K 0 2 - 1 - ((f / 4 : Nat) : Int) then K 0 2 - 1 - ((f / 4 : Nat) : Int) else ((f / 4 : Nat) : Int) + 1) = nWd (K 0 2) (f / 4) := by
      unfold nWd
      split <;> split <;> omega
    rw [hWd]
    generalize hS : uh (uh s a0 0 (n : Int)) a0 2 (nWd (K 0 2) (f / 4)) = S
    have sr : ∀ P, P ≠ a0 → S P = s P := fun P hP => by rw [← hS, uh_row hP, uh_row hP]
    have s0 : S a0 0 = (n : Int) := by rw [← hS]; simp [uh_at]
    have s2 : S a0 2 = nWd (K 0 2) (f / 4) := by rw [← hS]; simp [uh_at]
    have sq : ∀ q, q ≠ 0 → q ≠ 2 → S a0 q = s a0 q := fun q q0 q2 => by rw [← hS, uh_ro _ _ _ _ q2, uh_ro _ _ _ _ q0]
    obtain ⟨r, e1, e2⟩ : ∃ r, lp (fun (q : Int × Hp) => xl_lieFolded_b68 q.2 a0 a1 (f : Int) z q.1) (0, S) = some r ∧ (fun (r : Int × Hp) => (∀ P, ¬ (P = a0 + 1 ∨ P = a0 + 2 ∨ P = a0 + 3) → r.2 P = S P) ∧ (∀ c, c < n → r.2 (a0 + 1) c = nPl K (f / 4) (f / 2 % 2) c ∧ r.2 (a0 + 2) c = nLy K n (f / 4) (f / 2 % 2) (f % 2) c ∧ r.2 (a0 + 3) c = nUp K (f / 4) (f / 2 % 2) c)) r := by
      refine lp_forR (fun i (q : Int × Hp) => q.1 = (i : Int) ∧ (∀ P, ¬ (P = a0 + 1 ∨ P = a0 + 2 ∨ P = a0 + 3) → q.2 P = S P) ∧ (∀ c, c < i → q.2 (a0 + 1) c = nPl K (f / 4) (f / 2 % 2) c ∧ q.2 (a0 + 2) c = nLy K n (f / 4) (f / 2 % 2) (f % 2) c ∧ q.2 (a0 + 3) c = nUp K (f / 4) (f / 2 % 2) c)) n _ ?_ ?_ ⟨rfl, fun _ _ => rfl, fun c hc => by omega⟩
      · rintro i ⟨c, t⟩ hi ⟨j1, j2, j3⟩
        simp only at j1 j2 j3
        subst j1
        have hcl : ClF t a1 K n m := ClF_row h (fun j hj => by rw [j2 _ (by omega), sr _ (by omega)])
        show ∃ q, xl_lieFolded_b68 t a0 a1 (f : Int) z (i : Int) = some (.inl q) ∧ _
        unfold xl_lieFolded_b68
        rw [cf_turnCell (a0 := a0) hcl w hd hf hi, j2 a0 (by omega), s0, ixt (j := (i : Int)) i rfl (by omega) (by decide)]
        simp only [obs]
        rw [w32_eq (x := (i : Int)) (by omega) (by omega), w32_eq (x := (n : Int)) (by omega) (by omega), if_pos (by omega)]
        rw [uh_row (p := a0 + 1) (a := a0 + 3) (by omega), uh_row (p := a0 + 1) (a := a0 + 2) (by omega), uh_rc]
        refine ⟨_, rfl, rfl, fun P hP => ?_, fun c hc => ?_⟩
        · exact ((uh_row (by omega)).trans ((uh_row (by omega)).trans ((uh_row (by omega)).trans (uh_row (by omega))))).trans (j2 P hP)
        · show uh (uh (uh (uh t (a0 + 1) i _) (a0 + 2) i _) (a0 + 3) i _) (a0 + 1) i _ (a0 + 1) c = _ ∧ uh (uh (uh (uh t (a0 + 1) i _) (a0 + 2) i _) (a0 + 3) i _) (a0 + 1) i _ (a0 + 2) c = _ ∧ uh (uh (uh (uh t (a0 + 1) i _) (a0 + 2) i _) (a0 + 3) i _) (a0 + 1) i _ (a0 + 3) c = _
          rw [uh_row (p := a0 + 2) (a := a0 + 1) (by omega), uh_row (p := a0 + 2) (a := a0 + 3) (by omega), uh_row (p := a0 + 3) (a := a0 + 1) (by omega)]
          by_cases hci : c = i
          · subst hci
            rw [uh_rc, uh_rc, uh_rc]
            refine ⟨?_, rfl, rfl⟩
            unfold nPl
            rw [hz]
          · rw [uh_ro _ _ _ _ hci, uh_ro _ _ _ _ hci, uh_ro _ _ _ _ hci, uh_row (p := a0 + 1) (a := a0 + 3) (by omega), uh_row (p := a0 + 1) (a := a0 + 2) (by omega), uh_ro _ _ _ _ hci, uh_row (p := a0 + 2) (a := a0 + 1) (by omega), uh_row (p := a0 + 3) (a := a0 + 2) (by omega), uh_row (p := a0 + 3) (a := a0 + 1) (by omega)]
            exact j3 c (by omega)
      · rintro ⟨c, t⟩ ⟨j1, j2, j3⟩
        simp only at j1 j2 j3
        subst j1
        refine ⟨((n : Int), t), ?_, j2, j3⟩
        show xl_lieFolded_b68 t a0 a1 (f : Int) z (n : Int) = _
        unfold xl_lieFolded_b68
        rw [j2 a0 (by omega), s0, if_neg (by omega)]
    rw [e1]
    simp only [obs]
    obtain ⟨x, t⟩ := r
    obtain ⟨g1, g2⟩ := e2
    simp only at g1 g2
    obtain ⟨r, e3, e4⟩ : ∃ r, lp (fun (q : Int × Hp) => xl_lieFolded_b106 q.2 a0 a1 (f : Int) q.1) (0, t) = some r ∧ (fun (r : Int × Hp) => (∀ P, P ≠ a0 + 6 → r.2 P = t P) ∧ (∀ j, j + 1 < n → r.2 (a0 + 6) j = nCr K (f / 4) (f % 2) j)) r := by
      refine lp_forR (fun i (q : Int × Hp) => q.1 = (i : Int) ∧ (∀ P, P ≠ a0 + 6 → q.2 P = t P) ∧ (∀ j, j < i → q.2 (a0 + 6) j = nCr K (f / 4) (f % 2) j)) (n - 1) _ ?_ ?_ ⟨rfl, fun _ _ => rfl, fun c hc => by omega⟩
      · rintro i ⟨c, t1⟩ hi ⟨j1, j2, j3⟩
        simp only at j1 j2 j3
        subst j1
        have hcl : ClF t1 a1 K n m := ClF_row h (fun j hj => by rw [j2 _ (by omega), g1 _ (by omega), sr _ (by omega)])
        have hk := knd_3 (K 1) (K 3) i (f / 4) (f % 2)
        show ∃ q, xl_lieFolded_b106 t1 a0 a1 (f : Int) (i : Int) = some (.inl q) ∧ _
        unfold xl_lieFolded_b106
        rw [cf_kindMade hcl w (show i + 1 < n by omega) hf, j2 a0 (by omega), g1 a0 (by omega), s0, ixt (j := (i : Int)) i rfl (by omega) (by decide)]
        simp only [obs]
        rw [w32_eq (x := (i : Int)) (by omega) (by omega), w32_eq (x := (n : Int) - 1) (by omega) (by omega), if_pos (by omega), hcl.2.2.2.2.2.1 i (by omega), w32_eq (x := knd (K 1) (K 3) i (f / 4) (f % 2)) (by omega) (by omega)]
        have fin : ∀ v : Int, v = nCr K (f / 4) (f % 2) i → ∃ q, (some (.inl ((i : Int) + 1, uh t1 (a0 + 6) i v)) : Option ((Int × Hp) ⊕ (Int × Hp))) = some (.inl q) ∧ q.1 = ((i + 1 : Nat) : Int) ∧ (∀ P, P ≠ a0 + 6 → q.2 P = t P) ∧ (∀ j, j < i + 1 → q.2 (a0 + 6) j = nCr K (f / 4) (f % 2) j) := by
          intro v hv
          refine ⟨_, rfl, rfl, fun P hP => (uh_row hP).trans (j2 P hP), fun j hj => ?_⟩
          show uh t1 (a0 + 6) i v (a0 + 6) j = _
          by_cases hji : j = i
          · subst hji; rw [uh_rc]; exact hv
          · rw [uh_ro _ _ _ _ hji]; exact j3 j (by omega)
        by_cases hk0 : knd (K 1) (K 3) i (f / 4) (f % 2) = 0
        · rw [if_pos hk0]
          exact fin _ (if_pos hk0).symm
        · rw [if_neg hk0]
          exact fin _ (if_neg hk0).symm
      · rintro ⟨c, t1⟩ ⟨j1, j2, j3⟩
        simp only at j1 j2 j3
        subst j1
        refine ⟨(((n - 1 : Nat) : Int), t1), ?_, j2, fun j hj => j3 j (by omega)⟩
        show xl_lieFolded_b106 t1 a0 a1 (f : Int) ((n - 1 : Nat) : Int) = _
        unfold xl_lieFolded_b106
        rw [j2 a0 (by omega), g1 a0 (by omega), s0, w32_eq (x := ((n - 1 : Nat) : Int)) (by omega) (by omega), w32_eq (x := (n : Int) - 1) (by omega) (by omega), if_neg (by omega)]
    rw [e3]
    simp only [obs]
    obtain ⟨x2, t2⟩ := r
    obtain ⟨g3, g4⟩ := e4
    simp only at g3 g4
    obtain ⟨s5, c1, c2, c3⟩ := cl_count (s := t2) (a0 := a0) (n := n) (pl := nPl K (f / 4) (f / 2 % 2)) (by rw [g3 _ (by omega), g1 _ (by omega)]; exact s0) w8 (fun c hc => by rw [g3 _ (by omega)]; exact (g2 c hc).1) (fun c hc => by
      have := nPl_bf (p := f / 4) (sd := f / 2 % 2) w hp (by omega) hc
      have hW : nWd (K 0 2) (f / 4) ≤ 8 := by unfold nWd; split <;> omega
      omega)
    rw [c1]
    refine ⟨s5, rfl, fun P hP => ?_, ?_, ?_, fun q q0 q2 => ?_, fun c hc => ?_, fun j hj => ?_, c3⟩
    · rw [c2 P (by omega), g3 P (by omega), g1 P (by omega), sr P (by omega)]
    · rw [c2 _ (by omega), g3 _ (by omega), g1 _ (by omega)]; exact s0
    · rw [c2 _ (by omega), g3 _ (by omega), g1 _ (by omega)]; exact s2
    · rw [c2 _ (by omega), g3 _ (by omega), g1 _ (by omega)]; exact sq q q0 q2
    · rw [c2 _ (by omega), c2 _ (by omega), c2 _ (by omega), g3 _ (by omega), g3 _ (by omega), g3 _ (by omega)]
      exact g2 c hc
    · rw [c2 _ (by omega)]; exact g4 j hj
  have e15 : ∀ k0 : Int, (w32 k0 = 0 ↔ f / 2 % 2 = 0) → ∃ z, z = shf (K 0 2) (f / 4) (f / 2 % 2) ∧ xl_lieFolded_j15 s a0 a1 (f : Int) ((f / 4 : Nat) : Int) k0 = xl_lieFolded_j43 s a0 a1 (f : Int) ((f / 4 : Nat) : Int) z := by
    intro k0 hk0
    unfold xl_lieFolded_j15 shf
    by_cases q : f / 2 % 2 = 0
    · rw [if_pos q, if_pos (hk0.mpr q), h2, mx_eq (by omega) (by omega) (by omega) (by omega)]
      exact ⟨_, rfl, rfl⟩
    · rw [if_neg q, if_neg (fun e => q (hk0.mp e))]
      exact ⟨_, rfl, rfl⟩
  unfold xl_lieFolded
  rw [cd_s f hf, cd_p f hf, w32_eq (x := ((2 * (f / 2 % 2) : Nat) : Int)) (by omega) (by omega)]
  by_cases q : f / 2 % 2 = 0
  · rw [if_pos (by omega)]
    obtain ⟨z, z1, z2⟩ := e15 0 ⟨fun _ => q, fun _ => by decide⟩
    rw [z2]
    exact ej z z1
  · rw [if_neg (by omega)]
    obtain ⟨z, z1, z2⟩ := e15 1 ⟨fun e => absurd e (by decide), fun e => absurd e q⟩
    rw [z2]
    exact ej z z1
end FL
