/-! what the class answers of a cloth -/
theorem cd_p : ∀ f : Nat, f < 64 → bShr (f : Int) 2 = ((f / 4 : Nat) : Int) := by decide +kernel
theorem cd_s : ∀ f : Nat, f < 64 → bAnd (f : Int) 2 = ((2 * (f / 2 % 2) : Nat) : Int) := by decide +kernel
theorem cd_w : ∀ f : Nat, f < 64 → bAnd (f : Int) 1 = ((f % 2 : Nat) : Int) := by decide +kernel
section CL
variable {s : Hp} {a : Nat} {K : Nat → Nat → Int} {n m : Nat}
theorem cl_hasCell (h : Cl s a K n m) (w : WF K n m) {p : Int} (b1 : -2147483648 ≤ p) (b2 : p < 2147483648) : xl_hasCell s a p = some (tb (0 ≤ p ∧ p < n)) := by
  obtain ⟨h0, -⟩ := id h
  have w8 := w.1
  unfold xl_hasCell
  rw [h0, w32_eq b1 b2, w32_eq (x := (n : Int)) (by omega) (by omega)]
  by_cases q : p < 0
  · rw [if_pos q, tb_f (by omega)]
  · rw [if_neg q]
    by_cases q2 : p < n
    · rw [if_pos q2, tb_t (by omega)]
    · rw [if_neg q2, tb_f (by omega)]
theorem cl_hasPerson (h : Cl s a K n m) (w : WF K n m) {p : Int} (b1 : -2147483648 ≤ p) (b2 : p < 2147483648) : xl_hasPerson s a p = some (tb (0 ≤ p ∧ p < m)) := by
  obtain ⟨-, h0, -⟩ := id h
  have w8 := w.2.1
  unfold xl_hasPerson
  rw [h0, w32_eq b1 b2, w32_eq (x := (m : Int)) (by omega) (by omega)]
  by_cases q : p < 0
  · rw [if_pos q, tb_f (by omega)]
  · rw [if_neg q]
    by_cases q2 : p < m
    · rw [if_pos q2, tb_t (by omega)]
    · rw [if_neg q2, tb_f (by omega)]
theorem cl_hasJoint (h : Cl s a K n m) (w : WF K n m) {p : Int} (b1 : -2147483648 ≤ p) (b2 : p < 2147483648) : xl_hasJoint s a p = some (tb (0 ≤ p ∧ p + 1 < n)) := by
  obtain ⟨h0, -⟩ := id h
  have w8 := w.1
  unfold xl_hasJoint
  rw [h0, w32_eq b1 b2, w32_eq (x := (n : Int) - 1) (by omega) (by omega)]
  by_cases q : p < 0
  · rw [if_pos q, tb_f (by omega)]
  · rw [if_neg q]
    by_cases q2 : p < (n : Int) - 1
    · rw [if_pos q2, tb_t (by omega)]
    · rw [if_neg q2, tb_f (by omega)]
theorem cl_hasFold (h : Cl s a K n m) (w : WF K n m) {p q r : Int} (b1 : -2147483648 ≤ p) (b2 : p < 2147483648) (b3 : -2147483648 ≤ q) (b4 : q < 2147483648) (b5 : -2147483648 ≤ r) (b6 : r < 2147483648) : xl_hasFold s a p q r = some (tb (0 ≤ p ∧ p + 1 < K 0 2 ∧ 0 ≤ q ∧ q ≤ 1 ∧ 0 ≤ r ∧ r ≤ 1)) := by
  obtain ⟨-, -, h2, -⟩ := id h
  obtain ⟨w8, -, -, -, wl, wz, -⟩ := id w
  unfold xl_hasFold
  rw [h2, w32_eq b1 b2, w32_eq b3 b4, w32_eq b5 b6, w32_eq (x := K 0 2 - 1) (by omega) (by omega), show w32 1 = 1 by decide]
  by_cases q1 : p < 0
  · rw [if_pos q1, tb_f (by omega)]
  rw [if_neg q1]
  by_cases q2 : p < K 0 2 - 1
  · rw [if_pos q2]
    by_cases q3 : q < 0
    · rw [if_pos q3, tb_f (by omega)]
    rw [if_neg q3]
    by_cases q4 : 1 < q
    · rw [if_pos q4, tb_f (by omega)]
    rw [if_neg q4]
    by_cases q5 : r < 0
    · rw [if_pos q5, tb_f (by omega)]
    rw [if_neg q5]
    by_cases q6 : 1 < r
    · rw [if_pos q6, tb_f (by omega)]
    rw [if_neg q6, tb_t (by omega)]
  · rw [if_neg q2, tb_f (by omega)]
theorem cl_foldCount (h : Cl s a K n m) (w : WF K n m) : xl_foldCount s a = some (if 0 < 4 * (K 0 2 - 1) then 4 * (K 0 2 - 1) else 0) := by
  obtain ⟨-, -, h2, -⟩ := id h
  obtain ⟨w8, -, -, -, wl, wz, -⟩ := id w
  unfold xl_foldCount
  rw [h2, mx_eq (by omega) (by omega) (by omega) (by omega)]
theorem cl_liesOpen (h : Cl s a K n m) (w : WF K n m) : xl_liesOpen s a = some (tb (K 0 2 = n)) := by
  obtain ⟨h0, -, h2, -⟩ := id h
  obtain ⟨w8, -, -, -, wl, wz, -⟩ := id w
  unfold xl_liesOpen
  rw [h2, h0, w32_eq (x := (n : Int)) (by omega) (by omega), w32_eq (x := K 0 2) (by omega) (by omega)]
  unfold tb
  by_cases q : K 0 2 = n
  · rw [if_pos q, if_pos q]
  · rw [if_neg q, if_neg q]
theorem cl_cellsOf (h : Cl s a K n m) (w : WF K n m) {p : Int} (b1 : -2147483648 ≤ p) (b2 : p < 2147483648) : xl_cellsOf s a p = some ((bts (fun c => K 4 c = p) n : Nat) : Int) := by
  unfold xl_cellsOf
  obtain ⟨h0, -, -, -, hc, -⟩ := id h
  obtain ⟨w8, w4, -, -, wl, wz, -, -, wc, -⟩ := id w
  refine Eq.trans (lpb_for (fun i => (((bts (fun c => K 4 c = p) i : Nat) : Int), (i : Int))) n (r := (((bts (fun c => K 4 c = p) n : Nat) : Int), (n : Int))) rfl (fun i hi => ?_) ?_) rfl
  · have hw := wc i hi
    have hb := bts_lt (fun c => K 4 c = p) i
    have h2 : 2 ^ i ≤ 2 ^ 8 := Nat.pow_le_pow_right (by decide) (by omega)
    unfold xl_cellsOf_b4
    rw [ixt i rfl (by omega) (by decide)]
    simp (disch := omega) only [w32_eq, h0, obs, (hc i hi).2.2.2.1]
    rw [if_pos (by omega), bor_bit (by omega) hb]
    show (if K 4 i = p then _ else _) = some (Sum.inl (((bts (fun c => K 4 c = p) i + if K 4 i = p then 2 ^ i else 0 : Nat) : Int), ((i + 1 : Nat) : Int)))
    by_cases hp : K 4 i = p
    · rw [if_pos hp, if_pos hp]; rfl
    · rw [if_neg hp, if_neg hp]; rfl
  · unfold xl_cellsOf_b4
    simp (disch := omega) only [w32_eq, h0]
    rw [if_neg (by omega)]
theorem cl_creased (h : Cl s a K n m) (w : WF K n m) : xl_creasedJoints s a = some ((bts (fun c => K 6 c ≠ 0) (n - 1) : Nat) : Int) := by
  unfold xl_creasedJoints
  obtain ⟨h0, -, -, -, -, hc, -⟩ := id h
  obtain ⟨w8, w4, -, -, wl, wz, -, -, -, wc, -⟩ := id w
  refine Eq.trans (lpb_for (fun i => (((bts (fun c => K 6 c ≠ 0) i : Nat) : Int), (i : Int))) (n - 1) (r := (((bts (fun c => K 6 c ≠ 0) (n - 1) : Nat) : Int), ((n - 1 : Nat) : Int))) rfl (fun i hi => ?_) ?_) rfl
  · have hw := wc i (by omega)
    have hb := bts_lt (fun c => K 6 c ≠ 0) i
    have h2 : 2 ^ i ≤ 2 ^ 8 := Nat.pow_le_pow_right (by decide) (by omega)
    unfold xl_creasedJoints_b4
    rw [ixt i rfl (by omega) (by decide)]
    simp (disch := omega) only [w32_eq, h0, obs, hc i (by omega)]
    rw [if_pos (by omega), bor_bit (by omega) hb]
    show (if K 6 i = 0 then _ else _) = some (Sum.inl (((bts (fun c => K 6 c ≠ 0) i + if K 6 i ≠ 0 then 2 ^ i else 0 : Nat) : Int), ((i + 1 : Nat) : Int)))
    by_cases hp : K 6 i = 0
    · rw [if_pos hp, if_neg (fun q => q hp)]; rfl
    · rw [if_neg hp, if_pos hp]; rfl
  · unfold xl_creasedJoints_b4
    simp (disch := omega) only [w32_eq, h0]
    rw [if_neg (by omega)]
theorem cl_moves (h : Cl s a K n m) (w : WF K n m) {c f : Nat} (hc : c < n) (hf : f < 64) : xl_moves s a c f = some (if mvB (K 1) c (f / 4) (f / 2 % 2) then 1 else 0) := by
  obtain ⟨-, -, -, -, hcc, -⟩ := id h
  obtain ⟨w8, w4, -, -, wl, wz, -, -, wc, -⟩ := id w
  have hw := wc c hc
  have ej : ∀ k0 : Int, xl_moves_j17 s a f k0 = if f / 2 % 2 = 0 then (if w32 k0 = 1 then some 1 else some 0) else if w32 k0 = 0 then some 1 else some 0 := fun k0 => by
    unfold xl_moves_j17
    rw [cd_s f hf, w32_eq (x := ((2 * (f / 2 % 2) : Nat) : Int)) (by omega) (by omega), show w32 1 = 1 by decide, show w32 0 = 0 by decide]
    by_cases q : f / 2 % 2 = 0
    · rw [if_pos (by omega), if_pos q]
    · rw [if_neg (by omega), if_neg q]
  unfold xl_moves mvB
  rw [ixt c rfl (by omega) (by decide)]
  simp only [obs]
  rw [cd_p f hf, (hcc c hc).1, ej, ej, w32_eq (x := K 1 c) (by omega) (by omega), w32_eq (x := ((f / 4 : Nat) : Int)) (by omega) (by omega), show w32 1 = 1 by decide, show w32 0 = 0 by decide]
  by_cases q : f / 2 % 2 = 0
  · rw [if_pos q, if_pos q]
    by_cases q2 : ((f / 4 : Nat) : Int) < K 1 c
    · rw [if_pos q2, if_pos rfl, if_pos (decide_eq_true (Or.inl ⟨q, q2⟩))]
    · rw [if_neg q2, if_neg (by decide), if_neg (by simp only [decide_eq_true_eq]; omega)]
  · rw [if_neg q, if_neg q]
    by_cases q2 : ((f / 4 : Nat) : Int) < K 1 c
    · rw [if_pos q2, if_neg (by decide), if_neg (by simp only [decide_eq_true_eq]; omega)]
    · rw [if_neg q2, if_pos rfl, if_pos (by simp only [decide_eq_true_eq]; omega)]
theorem cl_movedCells (h : Cl s a K n m) (w : WF K n m) {f : Nat} (hf : f < 64) : xl_movedCells s a f = some ((bts (fun c => mvB (K 1) c (f / 4) (f / 2 % 2) = true) n : Nat) : Int) := by
  unfold xl_movedCells
  obtain ⟨h0, -⟩ := id h
  have w8 := w.1
  refine Eq.trans (lpb_for (fun i => (((bts (fun c => mvB (K 1) c (f / 4) (f / 2 % 2) = true) i : Nat) : Int), (i : Int))) n (r := (((bts (fun c => mvB (K 1) c (f / 4) (f / 2 % 2) = true) n : Nat) : Int), (n : Int))) rfl (fun i hi => ?_) ?_) rfl
  · have hb := bts_lt (fun c => mvB (K 1) c (f / 4) (f / 2 % 2) = true) i
    have h2 : 2 ^ i ≤ 2 ^ 8 := Nat.pow_le_pow_right (by decide) (by omega)
    unfold xl_movedCells_b4
    rw [cl_moves h w hi hf, h0]
    simp only [obs]
    rw [w32_eq (x := (i : Int)) (by omega) (by omega), w32_eq (x := (n : Int)) (by omega) (by omega), if_pos (by omega), bor_bit (by omega) hb]
    show _ = some (Sum.inl (((bts (fun c => mvB (K 1) c (f / 4) (f / 2 % 2) = true) i + if mvB (K 1) i (f / 4) (f / 2 % 2) = true then 2 ^ i else 0 : Nat) : Int), ((i + 1 : Nat) : Int)))
    by_cases hp : mvB (K 1) i (f / 4) (f / 2 % 2) = true
    · rw [if_pos hp, if_neg (by decide), if_pos hp]; rfl
    · rw [if_neg hp, if_pos (by decide), if_neg hp]; rfl
  · unfold xl_movedCells_b4
    rw [h0, w32_eq (x := (n : Int)) (by omega) (by omega), if_neg (by omega)]
theorem cl_kindMade (h : Cl s a K n m) (w : WF K n m) {j f : Nat} (hj : j + 1 < n) (hf : f < 64) : xl_kindMade s a j f = some (knd (K 1) (K 3) j (f / 4) (f % 2)) := by
  obtain ⟨-, -, -, -, hcc, -⟩ := id h
  obtain ⟨w8, w4, -, -, wl, wz, -, -, wc, -⟩ := id w
  have hw := wc j (by omega)
  have hw1 := wc (j + 1) hj
  have e1 : w32 1 = 1 := by decide
  have e0 : w32 0 = 0 := by decide
  have ix1 : ix 8 (j : Int) = some j := ixt j rfl (by omega) (by decide)
  have ix2 : ix 8 ((j : Int) + 1) = some (j + 1) := ixt (j + 1) rfl (by omega) (by decide)
  have e52 : ∀ k0 : Int, xl_kindMade_j52 s a j k0 = if K 3 j = 1 then (if 1 = w32 k0 then some 1 else some 2) else if 0 = w32 k0 then some 1 else some 2 := fun k0 => by
    unfold xl_kindMade_j52
    rw [ix1]
    simp only [obs]
    rw [(hcc j (by omega)).2.2.1, e1, e0, w32_eq (x := K 3 j) (by omega) (by omega)]
  have e36 : ∀ k0 k1 : Int, xl_kindMade_j36 s a j f k0 k1 = if w32 k0 = w32 k1 then some 0 else some (if (f % 2 = 0) ↔ (K 3 j = 1) then 1 else 2) := fun k0 k1 => by
    unfold xl_kindMade_j36
    rw [e52, e52, cd_w f hf, e1, e0, w32_eq (x := ((f % 2 : Nat) : Int)) (by omega) (by omega)]
    by_cases q : w32 k0 = w32 k1
    · rw [if_pos q, if_pos q]
    · rw [if_neg q, if_neg q]
      by_cases q5 : K 3 j = 1 <;> by_cases q6 : f % 2 = 0
      · rw [if_pos (by omega), if_pos q5, if_pos rfl, if_pos (by omega)]
      · rw [if_neg (by omega), if_pos q5, if_neg (by decide), if_neg (by omega)]
      · rw [if_pos (by omega), if_neg q5, if_neg (by decide), if_neg (by omega)]
      · rw [if_neg (by omega), if_neg q5, if_pos rfl, if_pos (by omega)]
  have e19 : ∀ k0 : Int, xl_kindMade_j19 s a j f ((f / 4 : Nat) : Int) k0 = if ((f / 4 : Nat) : Int) < K 1 (j + 1) then (if w32 k0 = 0 then some 0 else some (if (f % 2 = 0) ↔ (K 3 j = 1) then 1 else 2)) else if w32 k0 = 1 then some 0 else some (if (f % 2 = 0) ↔ (K 3 j = 1) then 1 else 2) := fun k0 => by
    unfold xl_kindMade_j19
    rw [ix2]
    simp only [obs]
    rw [(hcc (j + 1) hj).1, e36, e36, e1, e0, w32_eq (x := K 1 (j + 1)) (by omega) (by omega), w32_eq (x := ((f / 4 : Nat) : Int)) (by omega) (by omega)]
  unfold xl_kindMade knd
  rw [ix1]
  simp only [obs]
  rw [cd_p f hf, e19, e19, (hcc j (by omega)).1, e1, e0, w32_eq (x := K 1 j) (by omega) (by omega), w32_eq (x := ((f / 4 : Nat) : Int)) (by omega) (by omega)]
  by_cases q1 : ((f / 4 : Nat) : Int) < K 1 j <;> by_cases q2 : ((f / 4 : Nat) : Int) < K 1 (j + 1)
  · rw [if_pos q1, if_pos q2, if_pos rfl, if_pos (by omega)]
  · rw [if_pos q1, if_neg q2, if_neg (by decide), if_neg (c := (K 1 j ≤ ((f / 4 : Nat) : Int) ↔ K 1 (j + 1) ≤ ((f / 4 : Nat) : Int))) (by omega)]
  · rw [if_neg q1, if_pos q2, if_neg (by decide), if_neg (c := (K 1 j ≤ ((f / 4 : Nat) : Int) ↔ K 1 (j + 1) ≤ ((f / 4 : Nat) : Int))) (by omega)]
  · rw [if_neg q1, if_neg q2, if_pos rfl, if_pos (by omega)]
theorem cl_can (h : Cl s a K n m) (w : WF K n m) {f : Nat} (hf : f < 64) : (canF (K 1) (K 3) (K 6) n (f / 4) (f % 2) → xl_creasesAllow s a f = some 1) ∧ (¬ canF (K 1) (K 3) (K 6) n (f / 4) (f % 2) → xl_creasesAllow s a f = some 0) := by
  obtain ⟨h0, -, -, -, -, hj, -⟩ := id h
  obtain ⟨w8, -, -, -, wl, wz, -, -, wc, wj, -⟩ := id w
  have key : xl_creasesAllow s a f = if ∀ j, j < n - 1 → (knd (K 1) (K 3) j (f / 4) (f % 2) = 0 ∨ K 6 j = 0 ∨ K 6 j = knd (K 1) (K 3) j (f / 4) (f % 2)) then some 1 else some 0 := by
    unfold xl_creasesAllow
    refine Eq.trans (lpb_all (fun i => (i : Int)) (n - 1) (fun j => knd (K 1) (K 3) j (f / 4) (f % 2) = 0 ∨ K 6 j = 0 ∨ K 6 j = knd (K 1) (K 3) j (f / 4) (f % 2)) (r := .inl ((n - 1 : Nat) : Int)) (v := .inr 0) rfl (fun i hi => ?_) ?_) rfl
    · have hwj := wj i (by omega)
      have hk := knd_3 (K 1) (K 3) i (f / 4) (f % 2)
      unfold xl_creasesAllow_b2
      rw [ixt i rfl (by omega) (by decide), cl_kindMade h w (show i + 1 < n by omega) hf]
      simp only [obs]
      rw [h0, hj i (by omega)]
      generalize knd (K 1) (K 3) i (f / 4) (f % 2) = kd at hk
      simp (disch := omega) only [w32_eq]
      rw [if_pos (by omega)]
      by_cases q1 : kd = 0
      · rw [if_pos q1, if_pos (Or.inl q1)]; rfl
      · rw [if_neg q1]
        by_cases q2 : K 6 i = 0
        · rw [if_pos q2, if_pos (Or.inr (Or.inl q2))]; rfl
        · rw [if_neg q2]
          by_cases q3 : K 6 i = kd
          · rw [if_pos q3, if_pos (Or.inr (Or.inr q3))]; rfl
          · rw [if_neg q3, if_neg (by omega)]
    · unfold xl_creasesAllow_b2
      rw [h0]
      simp (disch := omega) only [w32_eq]
      rw [if_neg (by omega)]
  rw [key]
  exact ⟨fun q => if_pos q, fun q => if_neg q⟩
theorem thk_0 {pl : Nat → Int} {q : Int} : ∀ {n : Nat}, (∀ c, c < n → pl c ≠ q) → thk pl n q = 0
  | 0, _ => rfl
  | n + 1, h => by
    show thk pl n q + (if pl n = q then 1 else 0) = 0
    rw [thk_0 (fun c hc => h c (by omega)), if_neg (h n (by omega))]
theorem cl_layersOn (h : Cl s a K n m) (w : WF K n m) {q : Int} (b1 : -100 ≤ q) (b2 : q ≤ 100) : xl_layersOn s a q = some ((thk (K 1) n q : Nat) : Int) := by
  obtain ⟨-, -, h2, -, -, -, -, ht⟩ := id h
  obtain ⟨w8, w4, -, -, wl, wz, -, -, wc, -⟩ := id w
  unfold xl_layersOn
  rw [h2, w32_eq (x := q) (by omega) (by omega), w32_eq (x := K 0 2) (by omega) (by omega)]
  by_cases q1 : q < 0
  · rw [if_pos q1, thk_0 (fun c hc => by have := wc c hc; omega)]; rfl
  · rw [if_neg q1]
    by_cases q2 : q < K 0 2
    · rw [if_pos q2, ixt q.toNat (by omega) (by omega) (by decide)]
      simp only [obs]
      rw [ht q.toNat (by omega), show ((q.toNat : Nat) : Int) = q by omega]
    · rw [if_neg q2, thk_0 (fun c hc => by have := wc c hc; omega)]; rfl
end CL
