/-! what is counted of the rows: the reference -/
def dgN (x k : Nat) : Nat := x / 2 ^ shN k % 8
def mkJ (mk : Nat → Int) (c : Nat) : Nat := bts (fun j => mk j ≠ 0) (c - 1)
def mkH (mk : Nat → Int) (c : Nat) : Nat := bts (fun j => mk j = 2) (c - 1)
def chB (J H x : Nat) : Bool := Nat.beq (x &&& J) H
theorem ch_iff {mk : Nat → Int} {c x : Nat} : chB (mkJ mk c) (mkH mk c) x = true ↔ ∀ j, j < c - 1 → mk j = 0 ∨ (mk j = 2 ∧ x.testBit j = true) ∨ (mk j ≠ 2 ∧ x.testBit j = false) := by
  unfold chB mkJ mkH
  have hb : Nat.beq (x &&& bts (fun j => mk j ≠ 0) (c - 1)) (bts (fun j => mk j = 2) (c - 1)) = true ↔ x &&& bts (fun j => mk j ≠ 0) (c - 1) = bts (fun j => mk j = 2) (c - 1) := ⟨bq_t, fun h => by rw [h]; exact Nat.beq_refl _⟩
  rw [hb]
  constructor
  · intro h j hj
    have := congrArg (fun z => z.testBit j) h
    simp only [Nat.testBit_and, bts_bit] at this
    by_cases h0 : mk j = 0
    · exact Or.inl h0
    · by_cases h2 : mk j = 2
      · rw [decide_eq_true (show j < c - 1 ∧ mk j ≠ 0 from ⟨hj, h0⟩), decide_eq_true (show j < c - 1 ∧ mk j = 2 from ⟨hj, h2⟩), Bool.and_true] at this
        exact Or.inr (Or.inl ⟨h2, this⟩)
      · rw [decide_eq_true (show j < c - 1 ∧ mk j ≠ 0 from ⟨hj, h0⟩), decide_eq_false (show ¬ (j < c - 1 ∧ mk j = 2) from fun q => h2 q.2), Bool.and_true] at this
        exact Or.inr (Or.inr ⟨h2, this⟩)
  · intro h
    apply Nat.eq_of_testBit_eq
    intro j
    rw [Nat.testBit_and, bts_bit, bts_bit]
    by_cases hj : j < c - 1
    · rcases h j hj with h0 | ⟨h2, hx⟩ | ⟨h2, hx⟩
      · rw [decide_eq_false (show ¬ (j < c - 1 ∧ mk j ≠ 0) from fun q => q.2 h0), decide_eq_false (show ¬ (j < c - 1 ∧ mk j = 2) from fun q => by have := q.2; omega), Bool.and_false]
      · rw [decide_eq_true (show j < c - 1 ∧ mk j ≠ 0 from ⟨hj, by omega⟩), decide_eq_true (show j < c - 1 ∧ mk j = 2 from ⟨hj, h2⟩), hx]
        rfl
      · rw [hx, decide_eq_false (show ¬ (j < c - 1 ∧ mk j = 2) from fun q => h2 q.2), Bool.false_and]
    · rw [decide_eq_false (show ¬ (j < c - 1 ∧ mk j ≠ 0) from fun q => hj q.1), decide_eq_false (show ¬ (j < c - 1 ∧ mk j = 2) from fun q => hj q.1), Bool.and_false]
theorem dig_put {a v k : Nat} (h : a / 2 ^ k % 8 = 0) (hv : v < 8) : (a + v * 2 ^ k) / 2 ^ k % 8 = v := by
  rw [Nat.add_mul_div_right _ _ (Nat.two_pow_pos k)]
  omega
theorem row_dig {row : List Nat} {h : Nat} (hh : h < 128) : ∀ k, k ≤ 8 → (∀ i, i < k → row.getD i 0 < 8) → ∀ l, l ≤ 7 → (h + rowR row k) / 2 ^ shN l % 8 = if l < k then row.getD l 0 else 0
  | 0, _, _, l, hl => by
    show (h + 0) / 2 ^ shN l % 8 = _
    rw [if_neg (by omega)]
    exact dig_0 hh hl
  | k + 1, hk, hr, l, hl => by
    have ih := row_dig (row := row) hh k (by omega) (fun i hi => hr i (by omega))
    have er : rowR row (k + 1) = rowR row k + row.getD k 0 * 2 ^ shN k := rfl
    have hz : (h + rowR row k) / 2 ^ shN k % 8 = 0 := by rw [ih k (by omega), if_neg (by omega)]
    rw [er, ← Nat.add_assoc]
    by_cases hlk : l = k
    · subst hlk
      rw [dig_put hz (hr l (by omega)), if_pos (by omega)]
    · rw [dig_keep hl (by omega) hlk (hr k (by omega)) hz, ih l hl]
      by_cases h1 : l < k
      · rw [if_pos h1, if_pos (by omega)]
      · rw [if_neg h1, if_neg (by omega)]
theorem row_128 {row : List Nat} : ∀ k, ∃ q, rowR row k = 128 * q
  | 0 => ⟨0, rfl⟩
  | k + 1 => by
    obtain ⟨q, hq⟩ := row_128 (row := row) k
    refine ⟨q + row.getD k 0 * 2 ^ (3 * (7 - k)), ?_⟩
    show rowR row k + row.getD k 0 * 2 ^ (7 + 3 * (7 - k)) = _
    rw [hq, Nat.pow_add, Nat.mul_add, ← Nat.mul_assoc, Nat.mul_comm (row.getD k 0), Nat.mul_assoc]
def codeR (c : Nat) (row : List Nat) : Nat := hilR (lyN row) (c - 1) + rowR row c
theorem code_mod {c : Nat} {row : List Nat} (c8 : c ≤ 8) : codeR c row % 128 = hilR (lyN row) (c - 1) := by
  obtain ⟨q, hq⟩ := row_128 (row := row) c
  have h1 := hil_lt (lay := lyN row) (c - 1)
  have h2 : 2 ^ (c - 1) ≤ 2 ^ 7 := Nat.pow_le_pow_right (by decide) (by omega)
  unfold codeR
  omega
theorem code_bit {c j : Nat} {row : List Nat} (c8 : c ≤ 8) (hj : j < 7) : (codeR c row).testBit j = (hilR (lyN row) (c - 1)).testBit j := by
  rw [← code_mod (row := row) c8, show (128 : Nat) = 2 ^ 7 from rfl, Nat.testBit_mod_two_pow, decide_eq_true hj, Bool.true_and]
theorem code_dig {c k : Nat} {row : List Nat} (c8 : c ≤ 8) (h : RW c row) (hk : k < c) : dgN (codeR c row) k = row.getD k 0 := by
  have h1 := hil_lt (lay := lyN row) (c - 1)
  have h2 : 2 ^ (c - 1) ≤ 2 ^ 7 := Nat.pow_le_pow_right (by decide) (by omega)
  unfold dgN codeR
  rw [row_dig (row := row) (by omega) c c8 (fun i hi => by have := rw_at h hi; omega) k (by omega), if_pos hk]
/-- what was counted so far, of the codes L -/
def RS (c J H : Nat) (u : Hp) (L : List Nat) : Prop :=
  u 146 33 = ((L.countP (chB J H) : Nat) : Int) ∧ (∀ h, h < 128 → u 167 h = ((L.countP (fun x => Nat.beq (x % 128) h) : Nat) : Int)) ∧ (∀ x k, x < 8 → k < c → u 166 (8 * x + k) = ((L.countP (fun y => chB J H y && Nat.beq (dgN y k) x) : Nat) : Int)) ∧ ∀ f, L.find? (chB J H) = some f → ∀ k, k < c → u 165 k = ((dgN f k : Nat) : Int)
def FS (M u : Hp) : Prop := (∀ P, P ≠ 146 → P ≠ 163 → P ≠ 164 → P ≠ 165 → P ≠ 166 → P ≠ 167 → u P = M P) ∧ ∀ q, q ≠ 33 → u 146 q = M 146 q
theorem FS_rf {M : Hp} : FS M M := ⟨fun _ _ _ _ _ _ _ => rfl, fun _ _ => rfl⟩
theorem cnt1 {p : Nat → Bool} {L : List Nat} {x : Nat} : (L ++ [x]).countP p = L.countP p + if p x = true then 1 else 0 := by
  rw [List.countP_append, List.countP_singleton]
section LF
variable {M u : Hp} {c : Nat} {row : List Nat} {mk : Nat → Int}
theorem rm_asM (hc : u 156 0 = (c : Int)) (c8 : c ≤ 8) (hm : ∀ j, j + 1 < c → u 156 (82 + j) = mk j ∧ 0 ≤ mk j ∧ mk j ≤ 2) {x : Nat} (hx : x < 128) {y : Nat} (hy : ∀ j, j < 7 → y.testBit j = x.testBit j) : xm_isAsMarked u (x : Int) = some (if chB (mkJ mk c) (mkH mk c) y = true then 1 else 0) := by
  have key : xm_isAsMarked u (x : Int) = if ∀ j, j < c - 1 → (mk j = 0 ∨ (mk j = 2 ∧ x.testBit j = true) ∨ (mk j ≠ 2 ∧ x.testBit j = false)) then some 1 else some 0 := by
    unfold xm_isAsMarked
    refine Eq.trans (lpb_all (fun i => (i : Int)) (c - 1) (fun j => mk j = 0 ∨ (mk j = 2 ∧ x.testBit j = true) ∨ (mk j ≠ 2 ∧ x.testBit j = false)) (r := .inl ((c - 1 : Nat) : Int)) (v := .inr 0) rfl (fun i hi => ?_) ?_) rfl
    · have hmi := hm i (by omega)
      show xm_isAsMarked_b2 u (x : Int) (i : Int) = _
      unfold xm_isAsMarked_b2 xm_isOf
      rw [ix0 (by decide) (by decide), ixt (n := 130) (82 + i) (by omega) (by omega) (by decide), bit_c (by omega) (by omega)]
      simp only [obs]
      rw [hc, w32_eq (x := (i : Int)) (by omega) (by omega), w32_eq (x := (c : Int) - 1) (by omega) (by omega), if_pos (by omega), hmi.1, w32_eq (x := mk i) (by omega) (by omega), show w32 1 = 1 by decide, show w32 2 = 2 by decide]
      by_cases q0 : mk i = 0
      · rw [if_pos q0, if_pos (Or.inl q0)]; rfl
      · rw [if_neg q0]
        by_cases qb : x.testBit i = true
        · rw [if_pos qb, if_pos (by decide)]
          simp only [obs]
          rw [if_neg (by decide)]
          by_cases q2 : mk i = 2
          · rw [if_pos q2, if_pos (Or.inr (Or.inl ⟨q2, qb⟩))]; rfl
          · rw [if_neg q2, if_neg (fun q => q.elim q0 (fun q => q.elim (fun q => q2 q.1) (fun q => (by rw [qb] at q; cases q.2))))]
        · have qb2 : x.testBit i = false := Bool.eq_false_iff.mpr qb
          rw [if_neg qb, if_neg (by decide)]
          simp only [obs]
          rw [if_pos (by decide)]
          by_cases q2 : mk i = 2
          · rw [if_neg (by omega), if_neg (fun q => q.elim q0 (fun q => q.elim (fun q => qb q.2) (fun q => q.1 q2)))]
          · rw [if_pos (by omega), if_pos (Or.inr (Or.inr ⟨q2, qb2⟩))]; rfl
    · show xm_isAsMarked_b2 u (x : Int) ((c - 1 : Nat) : Int) = _
      unfold xm_isAsMarked_b2
      rw [ix0 (by decide) (by decide)]
      simp only [obs]
      rw [hc, w32_eq (x := ((c - 1 : Nat) : Int)) (by omega) (by omega), w32_eq (x := (c : Int) - 1) (by omega) (by omega), if_neg (by omega)]
  rw [key]
  have e : chB (mkJ mk c) (mkH mk c) y = true ↔ ∀ j, j < c - 1 → (mk j = 0 ∨ (mk j = 2 ∧ x.testBit j = true) ∨ (mk j ≠ 2 ∧ x.testBit j = false)) := by
    rw [ch_iff]
    constructor
    · intro h j hj
      have := h j hj
      rw [hy j (by omega)] at this
      exact this
    · intro h j hj
      rw [hy j (by omega)]
      exact h j hj
  by_cases hq : ∀ j, j < c - 1 → (mk j = 0 ∨ (mk j = 2 ∧ x.testBit j = true) ∨ (mk j ≠ 2 ∧ x.testBit j = false))
  · rw [if_pos hq, if_pos (e.mpr hq)]
  · rw [if_neg hq, if_neg (fun k => hq (e.mp k))]
/-- a whole row is looked at -/
theorem rm_leaf (hc : u 156 0 = (c : Int)) (h1 : 1 ≤ c) (c8 : c ≤ 8) (hm : ∀ j, j + 1 < c → u 156 (82 + j) = mk j ∧ 0 ≤ mk j ∧ mk j ≤ 2) (hrow : RW c row) (hu : ∀ k, k < c → u 163 k = ((row.getD k 0 : Nat) : Int)) {L : List Nat} (rs : RS c (mkJ mk c) (mkH mk c) u L) (hL : L.length ≤ 2000) : ∃ v, xm_keepsStack u = some v ∧ RS c (mkJ mk c) (mkH mk c) v (L ++ leafR c row) ∧ FS u v ∧ v 163 = u 163 := by
  unfold xm_keepsStack
  -- layers
  obtain ⟨r, e1, e2, e3⟩ := lp_forR (B := fun (q : Int × Hp) => xm_keepsStack_b2 q.2 q.1) (fun i (q : Int × Hp) => q.1 = (i : Int) ∧ (∀ P, P ≠ 164 → q.2 P = u P) ∧ ∀ k, k < i → q.2 164 (row.getD k 0) = (k : Int)) c (fun q : Int × Hp => (∀ P, P ≠ 164 → q.2 P = u P) ∧ ∀ k, k < c → q.2 164 (row.getD k 0) = (k : Int)) (by
    rintro i ⟨x, t⟩ hi ⟨j1, j2, j3⟩
    replace j1 : x = (i : Int) := j1
    replace j2 : ∀ P, P ≠ 164 → t P = u P := j2
    replace j3 : ∀ k, k < i → t 164 (row.getD k 0) = (k : Int) := j3
    subst j1
    have hr := rw_at hrow hi
    show ∃ q1, xm_keepsStack_b2 t (i : Int) = some (Sum.inl q1) ∧ _
    unfold xm_keepsStack_b2
    rw [ix0 (by decide) (by decide), ixt (n := 8) (j := (i : Int)) i rfl (by omega) (by decide)]
    simp only [obs]
    rw [j2 156 (by decide), hc, w32_eq (x := (i : Int)) (by omega) (by omega), w32_eq (x := (c : Int)) (by omega) (by omega), if_pos (by omega), j2 163 (by decide), hu i hi, ixt (n := 8) (j := ((row.getD i 0 : Nat) : Int)) (row.getD i 0) rfl (by omega) (by decide)]
    simp only [obs]
    refine ⟨_, rfl, by show (i : Int) + 1 = _; omega, fun P hP => ?_, fun k hk => ?_⟩
    · show uh t 164 (row.getD i 0) (i : Int) P = _
      rw [uh_row hP]; exact j2 P hP
    · show uh t 164 (row.getD i 0) (i : Int) 164 (row.getD k 0) = _
      by_cases hki : k = i
      · subst hki; rw [uh_rc]
      · rw [uh_ro _ _ _ _ (fun e => hki (by
          have a1 := ix_get hrow.2.1 (k := k) (by rw [hrow.1]; omega)
          have a2 := ix_get hrow.2.1 (k := i) (by rw [hrow.1]; omega)
          rw [e, a2] at a1
          exact a1.symm))]
        exact j3 k (by omega)) (by
    rintro ⟨x, t⟩ ⟨j1, j2, j3⟩
    replace j1 : x = (c : Int) := j1
    replace j2 : ∀ P, P ≠ 164 → t P = u P := j2
    subst j1
    refine ⟨((c : Int), t), ?_, j2, j3⟩
    show xm_keepsStack_b2 t (c : Int) = _
    unfold xm_keepsStack_b2
    rw [ix0 (by decide) (by decide)]
    simp only [obs]
    rw [j2 156 (by decide), hc, if_neg (by omega)]) (s := (0, u)) ⟨rfl, fun _ _ => rfl, fun k hk => by omega⟩
  obtain ⟨x0, t⟩ := r
  replace e2 : ∀ P, P ≠ 164 → t P = u P := e2
  replace e3 : ∀ k, k < c → t 164 (row.getD k 0) = (k : Int) := e3
  rw [e1]
  simp only [obs]
  have hly : ∀ x, x < c → t 164 x = ((lyN row x : Nat) : Int) ∧ lyN row x < c := fun x hx => by
    have hlt := rw_ly hrow hx
    refine ⟨?_, hlt⟩
    have hmem := ph_mem hrow.2.1 hrow.2.2 hrow.1 hx
    obtain ⟨k, hk, hkx⟩ := List.getElem_of_mem hmem
    have hkc : k < c := by rw [← hrow.1]; exact hk
    have hg : row.getD k 0 = x := by rw [List.getD_eq_getElem?_getD, List.getElem?_eq_getElem hk]; exact hkx
    have := e3 k hkc
    rw [hg] at this
    rw [this]
    have a1 := ix_get hrow.2.1 (k := k) hk
    rw [hg] at a1
    show (k : Int) = ((ixN x row : Nat) : Int)
    rw [a1]
  have hct : t 156 0 = (c : Int) := by rw [e2 156 (by decide)]; exact hc
  rw [rm_unc hct c8 hly]
  simp only [obs]
  have rst : RS c (mkJ mk c) (mkH mk c) t L := by
    obtain ⟨a1, a2, a3, a4⟩ := rs
    exact ⟨by rw [e2 146 (by decide)]; exact a1, fun h hh => by rw [e2 167 (by decide)]; exact a2 h hh, fun x k hx hk => by rw [e2 166 (by decide)]; exact a3 x k hx hk, fun f hf k hk => by rw [e2 165 (by decide)]; exact a4 f hf k hk⟩
  by_cases hun : uncR c (lyN row) = true
  · rw [if_pos hun, if_neg (by decide), rm_hills hct h1 c8 hly]
    simp only [obs]
    have hle : leafR c row = [codeR c row] := by
      unfold leafR
      rw [if_pos hun]
      rfl
    have h7 := hil_lt (lay := lyN row) (c - 1)
    have h2 : 2 ^ (c - 1) ≤ 2 ^ 7 := Nat.pow_le_pow_right (by decide) (by omega)
    have hmod := code_mod (row := row) c8
    have hbit := fun j (hj : j < 7) => code_bit (row := row) (j := j) c8 hj
    have hdig := fun k (hk : k < c) => code_dig (k := k) c8 hrow hk
    rw [hle]
    generalize hilR (lyN row) (c - 1) = hl at h7 hmod hbit
    generalize codeR c row = cd at hmod hbit hdig
    rw [ixt (n := 128) (j := ((hl : Nat) : Int)) hl rfl (by omega) (by decide)]
    simp only [obs]
    obtain ⟨a1, a2, a3, a4⟩ := rst
    have hcl : L.countP (chB (mkJ mk c) (mkH mk c)) ≤ 2000 := Nat.le_trans List.countP_le_length hL
    -- by hills
    have b167 : ∀ h, h < 128 → uh t 167 hl (t 167 hl + 1) 167 h = (((L ++ [cd]).countP (fun x => Nat.beq (x % 128) h) : Nat) : Int) := fun h hh => by
      rw [cnt1]
      by_cases hhl : h = hl
      · subst hhl
        rw [uh_rc, a2 h hh, if_pos (by rw [hmod]; exact Nat.beq_refl h)]
        omega
      · rw [uh_ro _ _ _ _ hhl, a2 h hh, if_neg (by rw [hmod, bq_f (fun e => hhl e.symm)]; decide)]
        rfl
    rw [rm_asM (mk := mk) (u := uh t 167 hl (t 167 hl + 1)) (by rw [uh_row (by decide)]; exact hct) c8 (fun j hj => by rw [uh_row (by decide), e2 156 (by decide)]; exact hm j hj) (show hl < 128 by omega) hbit]
    simp only [obs]
    by_cases hch : chB (mkJ mk c) (mkH mk c) cd = true
    · rw [if_pos hch, if_neg (by decide)]
      obtain ⟨r2, f1, f2, f3, f4, f5⟩ := lp_forR (B := fun (q : Int × Hp) => xm_keepsStack_b64 q.2 q.1) (fun i (q : Int × Hp) => q.1 = (i : Int) ∧ (∀ P, P ≠ 165 → P ≠ 166 → q.2 P = uh t 167 hl (t 167 hl + 1) P) ∧ (∀ x k, x < 8 → k < c → q.2 166 (8 * x + k) = t 166 (8 * x + k) + if k < i ∧ row.getD k 0 = x then 1 else 0) ∧ (t 146 33 = 0 → ∀ k, k < i → q.2 165 k = ((row.getD k 0 : Nat) : Int)) ∧ (t 146 33 ≠ 0 → q.2 165 = t 165)) c (fun q : Int × Hp => (∀ P, P ≠ 165 → P ≠ 166 → q.2 P = uh t 167 hl (t 167 hl + 1) P) ∧ (∀ x k, x < 8 → k < c → q.2 166 (8 * x + k) = t 166 (8 * x + k) + if row.getD k 0 = x then 1 else 0) ∧ (t 146 33 = 0 → ∀ k, k < c → q.2 165 k = ((row.getD k 0 : Nat) : Int)) ∧ (t 146 33 ≠ 0 → q.2 165 = t 165)) (by
        rintro i ⟨x, v⟩ hi ⟨j1, j2, j3, j4, j5⟩
        replace j1 : x = (i : Int) := j1
        replace j2 : ∀ P, P ≠ 165 → P ≠ 166 → v P = uh t 167 hl (t 167 hl + 1) P := j2
        replace j3 : ∀ x k, x < 8 → k < c → v 166 (8 * x + k) = t 166 (8 * x + k) + if k < i ∧ row.getD k 0 = x then 1 else 0 := j3
        replace j4 : t 146 33 = 0 → ∀ k, k < i → v 165 k = ((row.getD k 0 : Nat) : Int) := j4
        replace j5 : t 146 33 ≠ 0 → v 165 = t 165 := j5
        subst j1
        have hr := rw_at hrow hi
        have v146 : v 146 33 = t 146 33 := by rw [j2 146 (by decide) (by decide), uh_row (by decide)]
        have v163 : v 163 i = ((row.getD i 0 : Nat) : Int) := by rw [j2 163 (by decide) (by decide), uh_row (by decide), e2 163 (by decide)]; exact hu i hi
        -- the count
        have e93 : ∀ w : Hp, (∀ P, P ≠ 165 → w P = v P) → (t 146 33 = 0 → ∀ k, k < i + 1 → w 165 k = ((row.getD k 0 : Nat) : Int)) → (t 146 33 ≠ 0 → w 165 = t 165) → ∃ q1, xm_keepsStack_b64_j93 w (i : Int) = some (Sum.inl q1) ∧ q1.1 = ((i + 1 : Nat) : Int) ∧ (∀ P, P ≠ 165 → P ≠ 166 → q1.2 P = uh t 167 hl (t 167 hl + 1) P) ∧ (∀ x k, x < 8 → k < c → q1.2 166 (8 * x + k) = t 166 (8 * x + k) + if k < i + 1 ∧ row.getD k 0 = x then 1 else 0) ∧ (t 146 33 = 0 → ∀ k, k < i + 1 → q1.2 165 k = ((row.getD k 0 : Nat) : Int)) ∧ (t 146 33 ≠ 0 → q1.2 165 = t 165) := by
          intro w w1 w2 w3
          unfold xm_keepsStack_b64_j93
          rw [ixt (n := 8) (j := (i : Int)) i rfl (by omega) (by decide)]
          simp only [obs]
          rw [w1 163 (by decide), v163, ixt (n := 64) (j := 8 * ((row.getD i 0 : Nat) : Int) + (i : Int)) (8 * row.getD i 0 + i) (by omega) (by omega) (by decide)]
          simp only [obs]
          refine ⟨_, rfl, by show (i : Int) + 1 = _; omega, fun P p1 p2 => ?_, fun x k hx hk => ?_, fun h0 k hk => ?_, fun h0 => ?_⟩
          · show uh w 166 (8 * row.getD i 0 + i) (w 166 (8 * row.getD i 0 + i) + 1) P = _
            rw [uh_row p2, w1 P p1]; exact j2 P p1 p2
          · show uh w 166 (8 * row.getD i 0 + i) (w 166 (8 * row.getD i 0 + i) + 1) 166 (8 * x + k) = _
            by_cases hxk : k = i ∧ row.getD i 0 = x
            · obtain ⟨rfl, hxe⟩ := hxk
              rw [← hxe, uh_rc, w1 166 (by decide), j3 (row.getD k 0) k (by omega) hk, if_neg (by omega), if_pos ⟨by omega, rfl⟩]
              omega
            · rw [uh_ro _ _ _ _ (by omega), w1 166 (by decide), j3 x k hx hk]
              by_cases hki : k < i ∧ row.getD k 0 = x
              · rw [if_pos hki, if_pos ⟨by omega, hki.2⟩]
              · rw [if_neg hki, if_neg (fun q => hki ⟨by
                  by_cases hkk : k = i
                  · subst hkk; exact absurd ⟨rfl, q.2⟩ hxk
                  · omega, q.2⟩)]
          · show uh w 166 (8 * row.getD i 0 + i) (w 166 (8 * row.getD i 0 + i) + 1) 165 k = _
            rw [uh_row (by decide)]; exact w2 h0 k hk
          · show uh w 166 (8 * row.getD i 0 + i) (w 166 (8 * row.getD i 0 + i) + 1) 165 = _
            rw [uh_row (by decide)]; exact w3 h0
        show ∃ q1, xm_keepsStack_b64 v (i : Int) = some (Sum.inl q1) ∧ _
        unfold xm_keepsStack_b64
        rw [ix0 (by decide) (by decide), ixt (n := 8) (j := (i : Int)) i rfl (by omega) (by decide)]
        simp only [obs]
        rw [j2 156 (by decide) (by decide), uh_row (by decide), hct, w32_eq (x := (i : Int)) (by omega) (by omega), w32_eq (x := (c : Int)) (by omega) (by omega), if_pos (by omega), v146, w32_eq (x := t 146 33) (by rw [a1]; omega) (by rw [a1]; omega)]
        by_cases h0 : t 146 33 = 0
        · rw [if_pos h0]
          refine e93 _ (fun P hP => uh_row hP) (fun _ k hk => ?_) (fun q => absurd h0 q)
          by_cases hki : k = i
          · subst hki; rw [uh_rc]; exact v163
          · rw [uh_ro _ _ _ _ hki]; exact j4 h0 k (by omega)
        · rw [if_neg h0]
          exact e93 v (fun _ _ => rfl) (fun q => absurd q h0) j5) (by
        rintro ⟨x, v⟩ ⟨j1, j2, j3, j4, j5⟩
        replace j1 : x = (c : Int) := j1
        replace j2 : ∀ P, P ≠ 165 → P ≠ 166 → v P = uh t 167 hl (t 167 hl + 1) P := j2
        replace j3 : ∀ x k, x < 8 → k < c → v 166 (8 * x + k) = t 166 (8 * x + k) + if k < c ∧ row.getD k 0 = x then 1 else 0 := j3
        subst j1
        refine ⟨((c : Int), v), ?_, j2, fun x k hx hk => ?_, j4, j5⟩
        · show xm_keepsStack_b64 v (c : Int) = _
          unfold xm_keepsStack_b64
          rw [ix0 (by decide) (by decide)]
          simp only [obs]
          rw [j2 156 (by decide) (by decide), uh_row (by decide), hct, if_neg (by omega)]
        · show v 166 (8 * x + k) = _
          rw [j3 x k hx hk]
          by_cases hq : row.getD k 0 = x
          · rw [if_pos ⟨hk, hq⟩, if_pos hq]
          · rw [if_neg (fun q => hq q.2), if_neg hq]) (s := (0, uh t 167 hl (t 167 hl + 1))) ⟨rfl, fun _ _ _ => rfl, fun x k _ _ => (by show uh t 167 hl (t 167 hl + 1) 166 (8 * x + k) = _; rw [uh_row (by decide), if_neg (by omega), Int.add_zero]), fun _ k hk => by omega, fun _ => (by show uh t 167 hl (t 167 hl + 1) 165 = _; exact uh_row (by decide))⟩
      obtain ⟨x1, v⟩ := r2
      replace f2 : ∀ P, P ≠ 165 → P ≠ 166 → v P = uh t 167 hl (t 167 hl + 1) P := f2
      replace f3 : ∀ x k, x < 8 → k < c → v 166 (8 * x + k) = t 166 (8 * x + k) + if row.getD k 0 = x then 1 else 0 := f3
      replace f4 : t 146 33 = 0 → ∀ k, k < c → v 165 k = ((row.getD k 0 : Nat) : Int) := f4
      replace f5 : t 146 33 ≠ 0 → v 165 = t 165 := f5
      rw [f1]
      simp only [obs]
      refine ⟨_, rfl, ⟨?_, fun h hh => ?_, fun x k hx hk => ?_, fun f hf k hk => ?_⟩, ⟨fun P p1 p2 p3 p4 p5 p6 => ?_, fun q hq => ?_⟩, ?_⟩
      · rw [uh_rc, f2 146 (by decide) (by decide), uh_row (by decide), a1, cnt1, if_pos hch]
        omega
      · rw [uh_row (by decide), f2 167 (by decide) (by decide)]; exact b167 h hh
      · rw [uh_row (by decide), f3 x k hx hk, a3 x k hx hk, cnt1, hch, Bool.true_and, hdig k hk]
        by_cases hq : row.getD k 0 = x
        · rw [if_pos hq, hq, if_pos (Nat.beq_refl x)]
          omega
        · rw [if_neg hq, if_neg (by rw [bq_f hq]; decide)]
          omega
      · rw [uh_row (by decide)]
        rw [List.find?_append] at hf
        by_cases h0 : t 146 33 = 0
        · have hnone : L.find? (chB (mkJ mk c) (mkH mk c)) = none := by
            rw [List.find?_eq_none]
            rw [a1] at h0
            have h0 : L.countP (chB (mkJ mk c) (mkH mk c)) = 0 := by omega
            exact List.countP_eq_zero.mp h0
          rw [hnone, Option.none_or, List.find?_cons_of_pos hch] at hf
          cases hf
          rw [f4 h0 k hk, hdig k hk]
        · rw [f5 h0]
          cases hfl : L.find? (chB (mkJ mk c) (mkH mk c)) with
          | none =>
            refine absurd ?_ h0
            rw [a1]
            rw [List.find?_eq_none] at hfl
            rw [List.countP_eq_zero.mpr hfl]
            rfl
          | some g =>
            rw [hfl, Option.some_or] at hf
            cases hf
            exact a4 f hfl k hk
      · rw [uh_row p1, f2 P p4 p5, uh_row p6, e2 P p3]
      · rw [uh_ro _ _ _ _ hq, f2 146 (by decide) (by decide), uh_row (by decide), e2 146 (by decide)]
      · rw [uh_row (by decide), f2 163 (by decide) (by decide), uh_row (by decide), e2 163 (by decide)]
    · rw [if_neg hch, if_pos (by decide)]
      refine ⟨_, rfl, ⟨?_, b167, fun x k hx hk => ?_, fun f hf k hk => ?_⟩, ⟨fun P p1 p2 p3 p4 p5 p6 => by rw [uh_row p6, e2 P p3], fun q hq => by rw [uh_row (by decide), e2 146 (by decide)]⟩, by rw [uh_row (by decide), e2 163 (by decide)]⟩
      · rw [uh_row (by decide), a1, cnt1, if_neg hch]
        rfl
      · rw [uh_row (by decide), a3 x k hx hk, cnt1, if_neg (by rw [Bool.and_eq_true]; exact fun q => hch q.1)]
        rfl
      · rw [uh_row (by decide)]
        rw [List.find?_append, List.find?_cons_of_neg hch, List.find?_nil, Option.or_none] at hf
        exact a4 f hf k hk
  · rw [if_neg hun, if_pos (by decide)]
    have hle : leafR c row = [] := by
      unfold leafR
      rw [if_neg hun]
    rw [hle, List.append_nil]
    exact ⟨t, rfl, rst, ⟨fun P p1 p2 p3 p4 p5 p6 => e2 P p3, fun q _ => by rw [e2 146 (by decide)]⟩, e2 163 (by decide)⟩
end LF
