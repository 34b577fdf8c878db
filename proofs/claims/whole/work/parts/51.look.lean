/-! what both sides answer of a cloth: K 0 2 width, K 0 3 day, K 1 place, K 2 layer, K 3 face, K 4 owner, K 5 worth, K 6 crease, K 8 purse -/
def tb (P : Prop) [Decidable P] : Int := if P then 1 else 0
theorem tb0 (P : Prop) [Decidable P] : (w32 (tb P) = 0) = ¬ P := by
  unfold tb
  by_cases h : P
  · rw [if_pos h]; exact propext ⟨fun q => absurd q (by decide), fun q => absurd h q⟩
  · rw [if_neg h]; exact propext ⟨fun _ => h, fun _ => by decide⟩
theorem tb_t {P : Prop} [Decidable P] (h : P) : tb P = 1 := if_pos h
theorem tb_f {P : Prop} [Decidable P] (h : ¬ P) : tb P = 0 := if_neg h
theorem tb_cg {P Q : Prop} [Decidable P] [Decidable Q] (h : P ↔ Q) : tb P = tb Q := by
  by_cases hp : P
  · rw [tb_t hp, tb_t (h.mp hp)]
  · rw [tb_f hp, tb_f (fun q => hp (h.mpr q))]
def thk (pl : Nat → Int) : Nat → Int → Nat
  | 0, _ => 0
  | n + 1, p => thk pl n p + if pl n = p then 1 else 0
theorem thk_le (pl : Nat → Int) : ∀ (n : Nat) (p : Int), thk pl n p ≤ n
  | 0, _ => Nat.le_refl 0
  | n + 1, p => by
    have := thk_le pl n p
    show thk pl n p + (if pl n = p then 1 else 0) ≤ n + 1
    split <;> omega
theorem thk_cg {pl pl1 : Nat → Int} {p : Int} : ∀ {n : Nat}, (∀ c, c < n → pl c = pl1 c) → thk pl n p = thk pl1 n p
  | 0, _ => rfl
  | n + 1, h => by
    show thk pl n p + (if pl n = p then 1 else 0) = thk pl1 n p + (if pl1 n = p then 1 else 0)
    rw [thk_cg (fun c hc => h c (by omega)), h n (by omega)]
/-- a cell moves -/
def mv (pl : Nat → Int) (c p sd : Nat) : Prop := (sd = 0 ∧ (p : Int) < pl c) ∨ (sd ≠ 0 ∧ pl c ≤ (p : Int))
theorem mv_dec (pl : Nat → Int) (c p sd : Nat) : mv pl c p sd ∨ ¬ mv pl c p sd := Classical.em _
def mvB (pl : Nat → Int) (c p sd : Nat) : Bool := decide ((sd = 0 ∧ (p : Int) < pl c) ∨ (sd ≠ 0 ∧ pl c ≤ (p : Int)))
/-- the kind that a joint is creased -/
def knd (pl up : Nat → Int) (j p wy : Nat) : Int := if (pl j ≤ (p : Int)) ↔ (pl (j + 1) ≤ (p : Int)) then 0 else if (wy = 0) ↔ (up j = 1) then 1 else 2
def canF (pl up cr : Nat → Int) (n p wy : Nat) : Prop := ∀ j, j < n - 1 → knd pl up j p wy = 0 ∨ cr j = 0 ∨ cr j = knd pl up j p wy
theorem knd_3 (pl up : Nat → Int) (j p wy : Nat) : knd pl up j p wy = 0 ∨ knd pl up j p wy = 1 ∨ knd pl up j p wy = 2 := by
  unfold knd
  split
  · exact Or.inl rfl
  · split
    · exact Or.inr (Or.inl rfl)
    · exact Or.inr (Or.inr rfl)
def Rf (f : Nat → Int) (K : Nat → Nat → Int) (n m : Nat) : Prop :=
  f 0 = n ∧ f 1 = m ∧ f 10 = K 0 2 ∧ f 11 = K 0 3 ∧ (∀ c, c < n → f (12 + 4 * c) = K 1 c ∧ f (12 + 4 * c + 1) = K 2 c ∧ f (12 + 4 * c + 2) = K 3 c ∧ f (12 + 4 * c + 3) = K 4 c ∧ f (55 + c) = K 5 c) ∧ (∀ j, j + 1 < n → f (44 + j) = K 6 j) ∧ (∀ p, p < m → f (51 + p) = K 8 p)
def Cl (s : Hp) (a : Nat) (K : Nat → Nat → Int) (n m : Nat) : Prop :=
  s a 0 = n ∧ s a 1 = m ∧ s a 2 = K 0 2 ∧ s a 3 = K 0 3 ∧ (∀ c, c < n → s (a + 1) c = K 1 c ∧ s (a + 2) c = K 2 c ∧ s (a + 3) c = K 3 c ∧ s (a + 4) c = K 4 c ∧ s (a + 5) c = K 5 c) ∧ (∀ j, j + 1 < n → s (a + 6) j = K 6 j) ∧ (∀ p, p < m → s (a + 8) p = K 8 p) ∧ (∀ p : Nat, (p : Int) < K 0 2 → s (a + 7) p = (thk (K 1) n p : Nat))
def WF (K : Nat → Nat → Int) (n m : Nat) : Prop :=
  n ≤ 8 ∧ m ≤ 4 ∧ (n = 0 → m = 0 ∧ K 0 2 = 0) ∧ (0 < n → 2 ≤ n ∧ 1 ≤ K 0 2) ∧ K 0 2 ≤ n ∧ 0 ≤ K 0 2 ∧ 0 ≤ K 0 3 ∧ K 0 3 ≤ 9999 ∧ (∀ c, c < n → 0 ≤ K 1 c ∧ K 1 c < K 0 2 ∧ (K 3 c = 0 ∨ K 3 c = 1) ∧ -1 ≤ K 4 c ∧ K 4 c < m ∧ 0 ≤ K 5 c ∧ K 5 c ≤ 99) ∧ (∀ j, j + 1 < n → K 1 (j + 1) ≤ K 1 j + 1 ∧ K 1 j ≤ K 1 (j + 1) + 1 ∧ 0 ≤ K 6 j ∧ K 6 j ≤ 2) ∧ (∀ p, p < m → 0 ≤ K 8 p ∧ K 8 p ≤ 9999)
theorem rm_in {v lo hi : Int} (h1 : -9223372036854775808 ≤ v) (h2 : v < 9223372036854775808) (h3 : -9223372036854775808 ≤ lo) (h4 : lo < 9223372036854775808) (h5 : -9223372036854775808 ≤ hi) (h6 : hi < 9223372036854775808) : xm_in v lo hi = some (tb (lo ≤ v ∧ v ≤ hi)) := by
  unfold xm_in
  rw [w64_eq h1 h2, w64_eq h3 h4, w64_eq h5 h6]
  by_cases q1 : v < lo
  · rw [if_pos q1, tb_f (by omega)]
  · rw [if_neg q1]
    by_cases q2 : hi < v
    · rw [if_pos q2, tb_f (by omega)]
    · rw [if_neg q2, tb_t (by omega)]
section RF
variable {s : Hp} {K : Nat → Nat → Int} {n m : Nat} (h : Rf (s 156) K n m) (w : WF K n m)
theorem ix0 {n : Nat} (h : 0 < n) (h2 : n ≤ 65536) : ix n 0 = some 0 := ixt 0 rfl h h2
theorem ix1 {n : Nat} (h : 1 < n) (h2 : n ≤ 65536) : ix n 1 = some 1 := ixt 1 rfl h h2
theorem ix10 {n : Nat} (h : 10 < n) (h2 : n ≤ 65536) : ix n 10 = some 10 := ixt 10 rfl h h2
theorem ix11 {n : Nat} (h : 11 < n) (h2 : n ≤ 65536) : ix n 11 = some 11 := ixt 11 rfl h h2
theorem rm_isCloth (h : Rf (s 156) K n m) (w : WF K n m) : xm_isCloth s = some (tb (0 < n)) := by
  obtain ⟨h0, -⟩ := id h
  have w8 := w.1
  unfold xm_isCloth
  rw [ix0 (by decide) (by decide)]
  show (if 0 < w32 (s 156 0) then _ else _) = _
  rw [h0, w32_eq (by omega) (by omega)]
  by_cases q : 0 < n
  · rw [if_pos (by omega), tb_t q]
  · rw [if_neg (by omega), tb_f q]
theorem rm_isCell (h : Rf (s 156) K n m) (w : WF K n m) {p : Int} (b1 : -2147483648 ≤ p) (b2 : p < 2147483648) : xm_isCell s p = some (tb (0 ≤ p ∧ p < n)) := by
  obtain ⟨h0, -⟩ := id h
  have w8 := w.1
  unfold xm_isCell
  rw [ix0 (by decide) (by decide), w32_eq b1 b2]
  by_cases q : p < 0
  · rw [if_pos q, tb_f (by omega)]
  · rw [if_neg q]
    show (if p < w32 (s 156 0) then _ else _) = _
    rw [h0, w32_eq (by omega) (by omega)]
    by_cases q2 : p < n
    · rw [if_pos q2, tb_t (by omega)]
    · rw [if_neg q2, tb_f (by omega)]
theorem rm_isPerson (h : Rf (s 156) K n m) (w : WF K n m) {p : Int} (b1 : -2147483648 ≤ p) (b2 : p < 2147483648) : xm_isPerson s p = some (tb (0 ≤ p ∧ p < m)) := by
  obtain ⟨-, h0, -⟩ := id h
  have w8 := w.2.1
  unfold xm_isPerson
  rw [ix1 (by decide) (by decide), w32_eq b1 b2]
  by_cases q : p < 0
  · rw [if_pos q, tb_f (by omega)]
  · rw [if_neg q]
    show (if p < w32 (s 156 1) then _ else _) = _
    rw [h0, w32_eq (by omega) (by omega)]
    by_cases q2 : p < m
    · rw [if_pos q2, tb_t (by omega)]
    · rw [if_neg q2, tb_f (by omega)]
theorem rm_isJoint (h : Rf (s 156) K n m) (w : WF K n m) {p : Int} (b1 : -2147483648 ≤ p) (b2 : p < 2147483648) : xm_isJoint s p = some (tb (0 ≤ p ∧ p + 1 < n)) := by
  obtain ⟨h0, -⟩ := id h
  have w8 := w.1
  unfold xm_isJoint
  rw [rm_isCloth h w, ix0 (by decide) (by decide), w32_eq b1 b2]
  show (if w32 (tb (0 < n)) = 0 then _ else if p < 0 then _ else if p < w32 (s 156 0 - 1) then _ else _) = _
  rw [h0, w32_eq (x := (n : Int) - 1) (by omega) (by omega)]
  simp only [tb0]
  by_cases q0 : 0 < n
  · rw [if_neg (by omega)]
    by_cases q : p < 0
    · rw [if_pos q, tb_f (by omega)]
    · rw [if_neg q]
      by_cases q2 : p < (n : Int) - 1
      · rw [if_pos q2, tb_t (by omega)]
      · rw [if_neg q2, tb_f (by omega)]
  · rw [if_pos q0, tb_f (by omega)]
theorem rm_isLine (h : Rf (s 156) K n m) (w : WF K n m) {p : Int} (b1 : -2147483648 ≤ p) (b2 : p < 2147483648) : xm_isLine s p = some (tb (0 ≤ p ∧ p + 1 < K 0 2)) := by
  obtain ⟨h0, -, h2, -⟩ := id h
  obtain ⟨w8, -, w0, -, wl, wz, -⟩ := id w
  unfold xm_isLine
  rw [rm_isCloth h w, ix10 (by decide) (by decide), w32_eq b1 b2]
  show (if w32 (tb (0 < n)) = 0 then _ else if p < 0 then _ else if p < w32 (s 156 10 - 1) then _ else _) = _
  rw [h2, w32_eq (x := K 0 2 - 1) (by omega) (by omega)]
  simp only [tb0]
  by_cases q0 : 0 < n
  · rw [if_neg (by omega)]
    by_cases q : p < 0
    · rw [if_pos q, tb_f (by omega)]
    · rw [if_neg q]
      by_cases q2 : p < K 0 2 - 1
      · rw [if_pos q2, tb_t (by omega)]
      · rw [if_neg q2, tb_f (by omega)]
  · rw [if_pos q0, tb_f (by have := w0 (by omega); omega)]
theorem rm_cell0 (h : Rf (s 156) K n m) (w : WF K n m) {c : Nat} (hc : c < n) : xm_cellOf s c 0 = some (K 1 c) := by
  have h8 := w.1
  unfold xm_cellOf
  rw [ixt (12 + 4 * c) (by omega) (by omega) (by omega)]
  exact congrArg some (h.2.2.2.2.1 c hc).1
theorem rm_cell1 (h : Rf (s 156) K n m) (w : WF K n m) {c : Nat} (hc : c < n) : xm_cellOf s c 1 = some (K 2 c) := by
  have h8 := w.1
  unfold xm_cellOf
  rw [ixt (12 + 4 * c + 1) (by omega) (by omega) (by omega)]
  exact congrArg some (h.2.2.2.2.1 c hc).2.1
theorem rm_cell2 (h : Rf (s 156) K n m) (w : WF K n m) {c : Nat} (hc : c < n) : xm_cellOf s c 2 = some (K 3 c) := by
  have h8 := w.1
  unfold xm_cellOf
  rw [ixt (12 + 4 * c + 2) (by omega) (by omega) (by omega)]
  exact congrArg some (h.2.2.2.2.1 c hc).2.2.1
theorem rm_cell3 (h : Rf (s 156) K n m) (w : WF K n m) {c : Nat} (hc : c < n) : xm_cellOf s c 3 = some (K 4 c) := by
  have h8 := w.1
  unfold xm_cellOf
  rw [ixt (12 + 4 * c + 3) (by omega) (by omega) (by omega)]
  exact congrArg some (h.2.2.2.2.1 c hc).2.2.2.1
theorem rm_thick (h : Rf (s 156) K n m) (w : WF K n m) {p : Int} (b1 : -100 ≤ p) (b2 : p ≤ 100) : xm_thickAt s p = some ((thk (K 1) n p : Nat) : Int) := by
  unfold xm_thickAt
  obtain ⟨h0, -⟩ := id h
  obtain ⟨w8, -, -, -, wl, wz, -, -, wc, -⟩ := id w
  refine Eq.trans (lpb_for (fun i => (((thk (K 1) i p : Nat) : Int), (i : Int))) n (r := (((thk (K 1) n p : Nat) : Int), (n : Int))) rfl (fun i hi => ?_) ?_) rfl
  · have hw := wc i hi
    unfold xm_thickAt_b4
    simp (disch := omega) only [ix0, w32_eq, h0, obs, rm_cell0 h w hi]
    rw [if_pos (by omega)]
    show (if K 1 i = p then _ else _) = some (Sum.inl (((thk (K 1) i p + if K 1 i = p then 1 else 0 : Nat) : Int), ((i + 1 : Nat) : Int)))
    by_cases hp : K 1 i = p
    · rw [if_pos hp, if_pos hp]; rfl
    · rw [if_neg hp, if_neg hp]; rfl
  · unfold xm_thickAt_b4
    simp (disch := omega) only [ix0, w32_eq, h0, obs]
    rw [if_neg (by omega)]
theorem rm_cellsOf (h : Rf (s 156) K n m) (w : WF K n m) {p : Int} (b1 : -2147483648 ≤ p) (b2 : p < 2147483648) : xm_cellsOf s p = some ((bts (fun c => K 4 c = p) n : Nat) : Int) := by
  unfold xm_cellsOf
  obtain ⟨h0, -⟩ := id h
  obtain ⟨w8, w4, -, -, wl, wz, -, -, wc, -⟩ := id w
  refine Eq.trans (lpb_for (fun i => (((bts (fun c => K 4 c = p) i : Nat) : Int), (i : Int))) n (r := (((bts (fun c => K 4 c = p) n : Nat) : Int), (n : Int))) rfl (fun i hi => ?_) ?_) rfl
  · have hw := wc i hi
    have hb := bts_lt (fun c => K 4 c = p) i
    have h2 : 2 ^ i ≤ 2 ^ 8 := Nat.pow_le_pow_right (by decide) (by omega)
    unfold xm_cellsOf_b4
    simp (disch := omega) only [ix0, w32_eq, h0, obs, rm_cell3 h w hi]
    rw [if_pos (by omega), bor_bit (by omega) hb, bor_0 (by omega)]
    show (if K 4 i = p then _ else _) = some (Sum.inl (((bts (fun c => K 4 c = p) i + if K 4 i = p then 2 ^ i else 0 : Nat) : Int), ((i + 1 : Nat) : Int)))
    by_cases hp : K 4 i = p
    · rw [if_pos hp, if_pos hp]; rfl
    · rw [if_neg hp, if_neg hp]; rfl
  · unfold xm_cellsOf_b4
    simp (disch := omega) only [ix0, w32_eq, h0, obs]
    rw [if_neg (by omega)]
theorem rm_isMoved (h : Rf (s 156) K n m) (w : WF K n m) {c p sd : Nat} (hc : c < n) (hp : p < 100) (hs : sd < 2) : xm_isMoved s c p sd = some (if mvB (K 1) c p sd then 1 else 0) := by
  obtain ⟨w8, w4, -, -, wl, wz, -, -, wc, -⟩ := id w
  have hw := wc c hc
  unfold xm_isMoved mvB
  simp (disch := omega) only [w32_eq, obs, rm_cell0 h w hc]
  by_cases q : sd = 0
  · rw [if_pos (by omega)]
    by_cases q2 : (p : Int) < K 1 c
    · rw [if_pos q2, if_pos (by simp; omega)]
    · rw [if_neg q2, if_neg (by simp; omega)]
  · rw [if_neg (by omega)]
    by_cases q2 : (p : Int) < K 1 c
    · rw [if_pos q2, if_neg (by simp; omega)]
    · rw [if_neg q2, if_pos (by simp; omega)]
theorem rm_kindBy (h : Rf (s 156) K n m) (w : WF K n m) {j p wy : Nat} (hj : j + 1 < n) (hp : p < 100) (hs : wy < 2) : xm_kindBy s j p wy = some (knd (K 1) (K 3) j p wy) := by
  obtain ⟨w8, w4, -, -, wl, wz, -, -, wc, wj, -⟩ := id w
  have hw := wc j (by omega)
  have hw1 := wc (j + 1) (by omega)
  have hwj := wj j hj
  have e5 : xm_cellOf s ((j : Int) + 1) 0 = some (K 1 (j + 1)) := rm_cell0 h w hj
  have ek : ∀ k0 : Int, xm_kindBy_j64 s j k0 = if K 3 j = 1 then (if w32 k0 = 1 then some 1 else some 2) else if w32 k0 = 0 then some 1 else some 2 := fun k0 => by
    unfold xm_kindBy_j64
    simp (disch := omega) only [w32_eq, obs, rm_cell2 h w (show j < n by omega)]
  have ej : ∀ x5 : Int, 0 ≤ x5 → x5 < 100 → xm_kindBy_j39 s j p wy x5 = if x5 = (p : Int) ∨ x5 = (p : Int) + 1 then some (if (wy = 0) ↔ (K 3 j = 1) then 1 else 2) else some 0 := fun x5 a1 a2 => by
    have e1 : (if w32 (wy : Int) = 0 then xm_kindBy_j64 s j 1 else xm_kindBy_j64 s j 0) = some (if (wy = 0) ↔ (K 3 j = 1) then 1 else 2) := by
      rw [ek, ek, w32_eq (x := (wy : Int)) (by omega) (by omega), show w32 1 = 1 by decide, show w32 0 = 0 by decide]
      by_cases q5 : K 3 j = 1 <;> by_cases q6 : wy = 0
      · rw [if_pos (by omega), if_pos q5, if_pos rfl, if_pos (by omega)]
      · rw [if_neg (by omega), if_pos q5, if_neg (by decide), if_neg (by omega)]
      · rw [if_pos (by omega), if_neg q5, if_neg (by decide), if_neg (by omega)]
      · rw [if_neg (by omega), if_neg q5, if_pos rfl, if_pos (by omega)]
    unfold xm_kindBy_j39
    rw [e1, w32_eq (x := x5) (by omega) (by omega), w32_eq (x := (p : Int)) (by omega) (by omega), w32_eq (x := (p : Int) + 1) (by omega) (by omega)]
    by_cases q1 : x5 = (p : Int)
    · rw [if_pos q1, if_pos (Or.inl q1)]
    · rw [if_neg q1]
      by_cases q2 : x5 = (p : Int) + 1
      · rw [if_pos q2, if_pos (Or.inr q2)]
      · rw [if_neg q2, if_neg (by omega)]
  unfold xm_kindBy knd
  rw [rm_cell0 h w (show j < n by omega), e5]
  simp only [obs]
  rw [ej _ (by omega) (by omega), w32_eq (x := K 1 j) (by omega) (by omega), w32_eq (x := K 1 (j + 1)) (by omega) (by omega), w32_eq (x := (p : Int)) (by omega) (by omega), w32_eq (x := (p : Int) + 1) (by omega) (by omega)]
  by_cases q : (K 1 j ≤ (p : Int) ↔ K 1 (j + 1) ≤ (p : Int))
  · rw [if_pos q]
    by_cases q1 : K 1 j = K 1 (j + 1)
    · rw [if_pos q1]
    · rw [if_neg q1]
      by_cases q2 : K 1 j = (p : Int)
      · rw [if_pos q2, if_neg (by omega)]
      · rw [if_neg q2]
        by_cases q3 : K 1 j = (p : Int) + 1
        · rw [if_pos q3, if_neg (by omega)]
        · rw [if_neg q3]
  · rw [if_neg q, if_neg (by omega)]
    by_cases q2 : K 1 j = (p : Int)
    · rw [if_pos q2, if_pos (by omega)]
    · rw [if_neg q2, if_pos (by omega), if_pos (by omega)]
theorem rm_can (h : Rf (s 156) K n m) (w : WF K n m) {p wy : Nat} (hp : p < 100) (hs : wy < 2) : (canF (K 1) (K 3) (K 6) n p wy → xm_canCrease s p wy = some 1) ∧ (¬ canF (K 1) (K 3) (K 6) n p wy → xm_canCrease s p wy = some 0) := by
  obtain ⟨h0, -, -, -, -, hj, -⟩ := id h
  obtain ⟨w8, -, -, -, wl, wz, -, -, wc, wj, -⟩ := id w
  have key : xm_canCrease s p wy = if ∀ j, j < n - 1 → (knd (K 1) (K 3) j p wy = 0 ∨ K 6 j = 0 ∨ K 6 j = knd (K 1) (K 3) j p wy) then some 1 else some 0 := by
    unfold xm_canCrease
    refine Eq.trans (lpb_all (fun i => (i : Int)) (n - 1) (fun j => knd (K 1) (K 3) j p wy = 0 ∨ K 6 j = 0 ∨ K 6 j = knd (K 1) (K 3) j p wy) (r := .inl ((n - 1 : Nat) : Int)) (v := .inr 0) rfl (fun i hi => ?_) ?_) rfl
    · have hwj := wj i (by omega)
      have hk := knd_3 (K 1) (K 3) i p wy
      unfold xm_canCrease_b2
      rw [ix0 (by decide) (by decide), ixt (44 + i) (by omega) (by omega) (by decide), rm_kindBy h w (show i + 1 < n by omega) hp hs]
      simp only [obs]
      rw [h0, hj i (by omega)]
      generalize knd (K 1) (K 3) i p wy = kd at hk
      simp (disch := omega) only [w32_eq]
      rw [if_pos (by omega)]
      by_cases q1 : kd = 0
      · rw [if_pos q1, if_pos (Or.inl q1)]; rfl
      · rw [if_neg q1]
        by_cases q2 : K 6 i = 0
        · rw [if_pos q2, if_pos (Or.inr (Or.inl q2))]; rfl
        · rw [if_neg q2]
          by_cases q3 : K 6 i = kd
          · rw [if_pos q3, if_pos (Or.inr (Or.inr q3))]; rfl
          · rw [if_neg q3, if_neg (by omega)]
    · unfold xm_canCrease_b2
      rw [ix0 (by decide) (by decide)]
      simp only [obs]
      rw [h0]
      simp (disch := omega) only [w32_eq]
      rw [if_neg (by omega)]
  rw [key]
  exact ⟨fun q => if_pos q, fun q => if_neg q⟩
end RF
