/-! one row of cells: the reference -/
theorem ct_mem {y : Nat} : ∀ {l : List Nat}, ctN y l = true ↔ y ∈ l
  | [] => ⟨fun h => (by cases h), fun h => (by cases h)⟩
  | z :: l => by
    show (Nat.beq z y || ctN y l) = true ↔ _
    rw [Bool.or_eq_true, List.mem_cons, ct_mem (l := l)]
    constructor
    · rintro (h | h)
      · exact Or.inl (bq_t h).symm
      · exact Or.inr h
    · rintro (h | h)
      · exact Or.inl (by rw [h]; exact Nat.beq_refl z)
      · exact Or.inr h
theorem ph_le : ∀ (c : Nat) (l : List Nat), l.Nodup → (∀ y, y ∈ l → y < c) → l.length ≤ c
  | 0, l, _, h => by
    cases l with
    | nil => exact Nat.le_refl 0
    | cons y l => exact absurd (h y List.mem_cons_self) (Nat.not_lt_zero y)
  | c + 1, l, nd, h => by
    by_cases hc : c ∈ l
    · have := ph_le c (l.erase c) (nd.erase c) (fun y hy => by
        have h1 := h y (List.mem_of_mem_erase hy)
        have h2 : y ≠ c := (nd.mem_erase_iff.mp hy).1
        omega)
      rw [List.length_erase_of_mem hc] at this
      omega
    · have := ph_le c l nd (fun y hy => by
        have h1 := h y hy
        have h2 : y ≠ c := fun e => hc (by rw [← e]; exact hy)
        omega)
      omega
theorem ph_mem {c x : Nat} {l : List Nat} (nd : l.Nodup) (h : ∀ y, y ∈ l → y < c) (hl : l.length = c) (hx : x < c) : x ∈ l := by
  by_cases hm : x ∈ l
  · exact hm
  · have := ph_le c (x :: l) (List.nodup_cons.mpr ⟨hm, nd⟩) (fun y hy => by
      rcases List.mem_cons.mp hy with e | e
      · omega
      · exact h y e)
    rw [List.length_cons] at this
    omega
theorem ix_get {l : List Nat} : ∀ {k : Nat}, l.Nodup → k < l.length → ixN (l.getD k 0) l = k := by
  induction l with
  | nil => intro k _ h; exact absurd h (Nat.not_lt_zero k)
  | cons z l ih =>
    intro k nd hk
    obtain ⟨n1, n2⟩ := List.nodup_cons.mp nd
    cases k with
    | zero =>
      show (bif Nat.beq z z then 0 else Nat.succ (ixN z l)) = 0
      rw [Nat.beq_refl]
      rfl
    | succ k =>
      have hk : k < l.length := by
        rw [List.length_cons] at hk
        omega
      have hm : l.getD k 0 ∈ l := by
        rw [List.getD_eq_getElem?_getD, List.getElem?_eq_getElem hk]
        exact List.getElem_mem hk
      show (bif Nat.beq z (l.getD k 0) then 0 else Nat.succ (ixN (l.getD k 0) l)) = k + 1
      rw [bq_f (fun e => n1 (by rw [e]; exact hm)), ih n2 hk]
      rfl
/-- a whole row of cells -/
def RW (c : Nat) (row : List Nat) : Prop := row.length = c ∧ row.Nodup ∧ ∀ y, y ∈ row → y < c
theorem rw_at {c k : Nat} {row : List Nat} (h : RW c row) (hk : k < c) : row.getD k 0 < c := by
  have hk2 : k < row.length := by rw [h.1]; exact hk
  refine h.2.2 _ ?_
  rw [List.getD_eq_getElem?_getD, List.getElem?_eq_getElem hk2]
  exact List.getElem_mem hk2
theorem rw_ly {c x : Nat} {row : List Nat} (h : RW c row) (hx : x < c) : lyN row x < c := by
  have := ix_lt (ct_mem.mpr (ph_mem h.2.1 h.2.2 h.1 hx))
  rw [h.1] at this
  exact this
theorem rm_between {v a b : Nat} (hv : v < 100) (ha : a < 100) (hb : b < 100) : xm_isBetween (v : Int) (a : Int) (b : Int) = some (if btwR v a b = true then 1 else 0) := by
  have bl : ∀ x y : Nat, Nat.blt x y = true ↔ x < y := fun x y => ⟨fun h => Nat.le_of_ble_eq_true h, fun h => Nat.ble_eq_true_of_le h⟩
  unfold xm_isBetween btwR
  rw [w32_eq (x := (v : Int)) (by omega) (by omega), w32_eq (x := (a : Int)) (by omega) (by omega), w32_eq (x := (b : Int)) (by omega) (by omega)]
  by_cases h1 : a < b
  · rw [if_pos (by omega), if_pos ((bl a b).mpr h1)]
    by_cases h2 : a < v
    · rw [if_pos (by omega)]
      by_cases h3 : v < b
      · rw [if_pos (by omega), if_pos (by rw [(bl a v).mpr h2, (bl v b).mpr h3]; rfl)]
      · rw [if_neg (by omega), if_neg (by rw [Bool.and_eq_true, bl, bl]; omega)]
    · rw [if_neg (by omega), if_neg (by rw [Bool.and_eq_true, bl, bl]; omega)]
  · rw [if_neg (by omega), if_neg (fun q => h1 ((bl a b).mp q))]
    by_cases h2 : b < v
    · rw [if_pos (by omega)]
      by_cases h3 : v < a
      · rw [if_pos (by omega), if_pos (by rw [(bl b v).mpr h2, (bl v a).mpr h3]; rfl)]
      · rw [if_neg (by omega), if_neg (by rw [Bool.and_eq_true, bl, bl]; omega)]
    · rw [if_neg (by omega), if_neg (by rw [Bool.and_eq_true, bl, bl]; omega)]
section UN
variable {u : Hp} {c : Nat} {lay : Nat → Nat}
theorem rm_unc (hc : u 156 0 = (c : Int)) (c8 : c ≤ 8) (hl : ∀ x, x < c → u 164 x = ((lay x : Nat) : Int) ∧ lay x < c) : xm_isUncrossed u = some (if uncR c lay = true then 1 else 0) := by
  have inn : ∀ a, a + 1 < c → ∃ z, lp (fun (q : Int) => xm_isUncrossed_b18 u (a : Int) q) ((a : Int) + 2) = some (if ∀ t, t < (c - 2 - a) / 2 → prR lay a (a + 2 + 2 * t) = true then .inl z else .inr 0) := by
    intro a ha
    refine ⟨(a : Int) + 2 + 2 * (((c - 2 - a) / 2 : Nat) : Int), lp_all (fun t => (a : Int) + 2 + 2 * (t : Int)) ((c - 2 - a) / 2) (fun t => prR lay a (a + 2 + 2 * t) = true) (by show (a : Int) + 2 + 2 * ((0 : Nat) : Int) = _; omega) (fun t ht => ?_) ?_⟩
    · have h1 := hl a (by omega)
      have h2 := hl (a + 1) (by omega)
      have h3 := hl (a + 2 + 2 * t) (by omega)
      have h4 := hl (a + 2 + 2 * t + 1) (by omega)
      show xm_isUncrossed_b18 u (a : Int) ((a : Int) + 2 + 2 * (t : Int)) = _
      unfold xm_isUncrossed_b18
      rw [ix0 (by decide) (by decide), ixt (n := 8) (j := (a : Int) + 2 + 2 * (t : Int)) (a + 2 + 2 * t) (by omega) (by omega) (by decide), ixt (n := 8) (j := (a : Int)) a rfl (by omega) (by decide), ixt (n := 8) (j := (a : Int) + 1) (a + 1) (by omega) (by omega) (by decide), ixt (n := 8) (j := (a : Int) + 2 + 2 * (t : Int) + 1) (a + 2 + 2 * t + 1) (by omega) (by omega) (by decide)]
      simp only [obs]
      rw [hc, w32_eq (x := (a : Int) + 2 + 2 * (t : Int)) (by omega) (by omega), w32_eq (x := (c : Int) - 1) (by omega) (by omega), if_pos (by omega), h1.1, h2.1, h3.1, h4.1, rm_between (by omega) (by omega) (by omega), rm_between (by omega) (by omega) (by omega)]
      simp only [obs]
      unfold prR
      cases btwR (lay (a + 2 + 2 * t)) (lay a) (lay (a + 1)) <;> cases btwR (lay (a + 2 + 2 * t + 1)) (lay a) (lay (a + 1))
      · rw [if_pos rfl, if_pos (by decide), show (a : Int) + 2 + 2 * ((t + 1 : Nat) : Int) = (a : Int) + 2 + 2 * (t : Int) + 2 by omega]
      · rw [if_neg (by decide), if_neg (by decide)]
      · rw [if_neg (by decide), if_neg (by decide)]
      · rw [if_pos rfl, if_pos (by decide), show (a : Int) + 2 + 2 * ((t + 1 : Nat) : Int) = (a : Int) + 2 + 2 * (t : Int) + 2 by omega]
    · show xm_isUncrossed_b18 u (a : Int) ((a : Int) + 2 + 2 * (((c - 2 - a) / 2 : Nat) : Int)) = _
      unfold xm_isUncrossed_b18
      rw [ix0 (by decide) (by decide)]
      simp only [obs]
      rw [hc, w32_eq (x := (a : Int) + 2 + 2 * (((c - 2 - a) / 2 : Nat) : Int)) (by omega) (by omega), w32_eq (x := (c : Int) - 1) (by omega) (by omega), if_neg (by omega)]
  have key : xm_isUncrossed u = if ∀ a, a < c - 1 → ∀ t, t < (c - 2 - a) / 2 → prR lay a (a + 2 + 2 * t) = true then some 1 else some 0 := by
    unfold xm_isUncrossed
    refine Eq.trans (lpb_all (fun a => (a : Int)) (c - 1) (fun a => ∀ t, t < (c - 2 - a) / 2 → prR lay a (a + 2 + 2 * t) = true) (r := .inl ((c - 1 : Nat) : Int)) (v := .inr 0) rfl (fun a ha => ?_) ?_) rfl
    · show xm_isUncrossed_b2 u (a : Int) = _
      unfold xm_isUncrossed_b2
      obtain ⟨z, hz⟩ := inn a (by omega)
      rw [ix0 (by decide) (by decide)]
      simp only [obs]
      rw [hc, w32_eq (x := (a : Int)) (by omega) (by omega), w32_eq (x := (c : Int) - 1) (by omega) (by omega), if_pos (by omega), hz]
      by_cases hq : ∀ t, t < (c - 2 - a) / 2 → prR lay a (a + 2 + 2 * t) = true
      · rw [if_pos hq, if_pos hq]; rfl
      · rw [if_neg hq, if_neg hq]; rfl
    · show xm_isUncrossed_b2 u ((c - 1 : Nat) : Int) = _
      unfold xm_isUncrossed_b2
      rw [ix0 (by decide) (by decide)]
      simp only [obs]
      rw [hc, w32_eq (x := ((c - 1 : Nat) : Int)) (by omega) (by omega), w32_eq (x := (c : Int) - 1) (by omega) (by omega), if_neg (by omega)]
  rw [key]
  have e : uncR c lay = true ↔ ∀ a, a < c - 1 → ∀ t, t < (c - 2 - a) / 2 → prR lay a (a + 2 + 2 * t) = true := by
    have bl : ∀ x y : Nat, Nat.blt x y = true ↔ x < y := fun x y => ⟨fun h => Nat.le_of_ble_eq_true h, fun h => Nat.ble_eq_true_of_le h⟩
    unfold uncR
    rw [List.all_eq_true]
    constructor
    · intro h a ha t ht
      have := h a (List.mem_range.mpr ha)
      rw [List.all_eq_true] at this
      refine this _ ?_
      unfold bsR
      rw [List.mem_filter]
      refine ⟨?_, (bl _ _).mpr (by omega)⟩
      have ht3 : t = 0 ∨ t = 1 ∨ t = 2 := by omega
      rcases ht3 with rfl | rfl | rfl
      · exact List.mem_cons_self
      · exact List.mem_cons_of_mem _ List.mem_cons_self
      · exact List.mem_cons_of_mem _ (List.mem_cons_of_mem _ List.mem_cons_self)
    · intro h a ha
      rw [List.mem_range] at ha
      rw [List.all_eq_true]
      intro b hb
      unfold bsR at hb
      rw [List.mem_filter] at hb
      obtain ⟨hb1, hb2⟩ := hb
      have hb2 : b + 1 < c := (bl _ _).mp hb2
      have : b = a + 2 ∨ b = a + 4 ∨ b = a + 6 := by
        rcases List.mem_cons.mp hb1 with e | e
        · exact Or.inl e
        · rcases List.mem_cons.mp e with e | e
          · exact Or.inr (Or.inl e)
          · rcases List.mem_cons.mp e with e | e
            · exact Or.inr (Or.inr e)
            · cases e
      have := h a ha ((b - a - 2) / 2) (by omega)
      rw [show a + 2 + 2 * ((b - a - 2) / 2) = b by omega] at this
      exact this
  by_cases hq : ∀ a, a < c - 1 → ∀ t, t < (c - 2 - a) / 2 → prR lay a (a + 2 + 2 * t) = true
  · rw [if_pos hq, if_pos (e.mpr hq)]
  · rw [if_neg hq, if_neg (fun k => hq (e.mp k))]
theorem hil_lt : ∀ j, hilR lay j < 2 ^ j
  | 0 => Nat.zero_lt_one
  | j + 1 => by
    have := hil_lt j
    show hilR lay j + (if (Nat.blt (lay j) (lay (j + 1)) == (j % 2).beq 0) = true then 0 else 2 ^ j) < 2 ^ (j + 1)
    rw [Nat.pow_succ]
    split <;> omega
theorem rm_hills (hc : u 156 0 = (c : Int)) (h1 : 1 ≤ c) (c8 : c ≤ 8) (hl : ∀ x, x < c → u 164 x = ((lay x : Nat) : Int) ∧ lay x < c) : xm_hills u = some ((hilR lay (c - 1) : Nat) : Int) := by
  have bl : ∀ x y : Nat, Nat.blt x y = true ↔ x < y := fun x y => ⟨fun h => Nat.le_of_ble_eq_true h, fun h => Nat.ble_eq_true_of_le h⟩
  have er : ∀ j : Nat, j < 8 → iRem (j : Int) 2 = ((j % 2 : Nat) : Int) := by decide +kernel
  unfold xm_hills
  refine Eq.trans (lpb_for (fun i => (((hilR lay i : Nat) : Int), (i : Int))) (c - 1) (r := (((hilR lay (c - 1) : Nat) : Int), ((c - 1 : Nat) : Int))) rfl (fun j hj => ?_) ?_) rfl
  · have a1 := hl j (by omega)
    have a2 := hl (j + 1) (by omega)
    have hb := hil_lt (lay := lay) j
    have h2 : 2 ^ j ≤ 2 ^ 8 := Nat.pow_le_pow_right (by decide) (by omega)
    show xm_hills_b4 u ((hilR lay j : Nat) : Int) (j : Int) = _
    unfold xm_hills_b4 xm_hills_b4_j50
    rw [ix0 (by decide) (by decide), ixt (n := 8) (j := (j : Int) + 1) (j + 1) (by omega) (by omega) (by decide), ixt (n := 8) (j := (j : Int)) j rfl (by omega) (by decide)]
    simp only [obs]
    rw [hc, w32_eq (x := (j : Int)) (by omega) (by omega), w32_eq (x := (c : Int) - 1) (by omega) (by omega), if_pos (by omega), a1.1, a2.1, w32_eq (x := ((lay j : Nat) : Int)) (by omega) (by omega), w32_eq (x := ((lay (j + 1) : Nat) : Int)) (by omega) (by omega), er j (by omega), w32_eq (x := ((j % 2 : Nat) : Int)) (by omega) (by omega), bor_0 (by omega), bor_bit (by omega) hb, show w32 1 = 1 by decide, show w32 0 = 0 by decide]
    have eh : hilR lay (j + 1) = hilR lay j + if (Nat.blt (lay j) (lay (j + 1)) == (j % 2).beq 0) = true then 0 else 2 ^ j := rfl
    rw [eh, show ((j + 1 : Nat) : Int) = (j : Int) + 1 by omega]
    by_cases q1 : lay j < lay (j + 1)
    · rw [if_pos (by omega), (bl _ _).mpr q1]
      by_cases q2 : j % 2 = 0
      · rw [if_pos (by omega), if_pos trivial, q2]
        rfl
      · rw [if_neg (by omega), if_neg (by decide), bq_f q2]
        rfl
    · have q1b : Nat.blt (lay j) (lay (j + 1)) = false := by
        cases hb : Nat.blt (lay j) (lay (j + 1)) with
        | false => rfl
        | true => exact absurd ((bl _ _).mp hb) q1
      rw [if_neg (by omega), q1b]
      by_cases q2 : j % 2 = 0
      · rw [if_pos (by omega), if_neg (by decide), q2]
        rfl
      · rw [if_neg (by omega), if_pos trivial, bq_f q2]
        rfl
  · show xm_hills_b4 u ((hilR lay (c - 1) : Nat) : Int) ((c - 1 : Nat) : Int) = _
    unfold xm_hills_b4
    rw [ix0 (by decide) (by decide)]
    simp only [obs]
    rw [hc, w32_eq (x := ((c - 1 : Nat) : Int)) (by omega) (by omega), w32_eq (x := (c : Int) - 1) (by omega) (by omega), if_neg (by omega)]
end UN
