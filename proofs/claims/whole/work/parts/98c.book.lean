/-! the book of the class: cells are put in -/
section BK
variable {s : Hp} {lay : List Nat} {ce : Nat}
theorem bk_between {j p : Nat} (hce : 1 ≤ ce) (ly : LY s lay ce) (ce8 : ce < 8) (hj : j < ce) (hp : p ≤ ce) {x4 x5 : Int} (h4 : x4 = (((if lay.getD (ce - 1) 0 < p then lay.getD (ce - 1) 0 + 1 else p) : Nat) : Int)) (h5 : x5 = (((if lay.getD (ce - 1) 0 < p then p else lay.getD (ce - 1) 0) : Nat) : Int)) : (btwL lay ce p j = true ↔ x4 ≤ s 132 j ∧ s 132 j < x5) ∧ (0 ≤ s 132 j ∧ s 132 j < 8) ∧ 0 ≤ x4 ∧ x4 ≤ 9 ∧ 0 ≤ x5 ∧ x5 ≤ 9 := by
  obtain ⟨l1, l2⟩ := ly.2 j hj
  obtain ⟨-, k2⟩ := ly.2 (ce - 1) (by omega)
  unfold btwL
  rw [decide_eq_true_eq, l1, h4, h5]
  refine ⟨?_, by omega, ?_⟩
  · constructor
    · rintro ⟨a, b⟩
      exact ⟨by omega, by omega⟩
    · rintro ⟨a, b⟩
      exact ⟨by omega, by omega⟩
  · split <;> omega
theorem bk_crosses {p : Nat} (hce : 1 ≤ ce) (ce8 : ce < 8) (ly : LY s lay ce) (hp : p ≤ ce) : xb_crosses s (ce : Int) (p : Int) = some (if crsL lay ce p = true then 1 else 0) := by
  obtain ⟨k1, k2⟩ := ly.2 (ce - 1) (by omega)
  -- the loop
  have lo : ∀ x4 x5 : Int, x4 = (((if lay.getD (ce - 1) 0 < p then lay.getD (ce - 1) 0 + 1 else p) : Nat) : Int) → x5 = (((if lay.getD (ce - 1) 0 < p then p else lay.getD (ce - 1) 0) : Nat) : Int) → xb_crosses_j33 s (ce : Int) x4 x5 = some (if crsL lay ce p = true then 1 else 0) := by
    intro x4 x5 h4 h5
    have key : xb_crosses_j33 s (ce : Int) x4 x5 = if ∀ t, t < (ce - 1) / 2 → btwL lay ce p (ce - 3 - 2 * t) = btwL lay ce p (ce - 3 - 2 * t + 1) then some 0 else some 1 := by
      unfold xb_crosses_j33
      refine Eq.trans (lpb_all (fun t => (ce : Int) - 3 - 2 * (t : Int)) ((ce - 1) / 2) (fun t => btwL lay ce p (ce - 3 - 2 * t) = btwL lay ce p (ce - 3 - 2 * t + 1)) (r := .inl ((ce : Int) - 3 - 2 * (((ce - 1) / 2 : Nat) : Int))) (v := .inr 1) (by show (ce : Int) - 3 - 2 * ((0 : Nat) : Int) = _; omega) (fun t ht => ?_) ?_) rfl
      · obtain ⟨a1, a2, a3, a4, a5, a6⟩ := bk_between (j := ce - 3 - 2 * t) hce ly ce8 (by omega) hp h4 h5
        obtain ⟨b1, b2, -⟩ := bk_between (j := ce - 3 - 2 * t + 1) hce ly ce8 (by omega) hp h4 h5
        have e74 : ∀ k0 : Int, (k0 = 0 ∧ btwL lay ce p (ce - 3 - 2 * t) = false) ∨ (k0 = 1 ∧ btwL lay ce p (ce - 3 - 2 * t) = true) → xb_crosses_b40_j74 s x4 x5 ((ce : Int) - 3 - 2 * (t : Int)) k0 = some (if btwL lay ce p (ce - 3 - 2 * t) = btwL lay ce p (ce - 3 - 2 * t + 1) then .inl ((ce : Int) - 3 - 2 * ((t + 1 : Nat) : Int)) else .inr (.inr 1)) := by
          intro k0 hk
          have hq : w32 k0 = k0 := by
            rcases hk with ⟨rfl, -⟩ | ⟨rfl, -⟩ <;> decide
          unfold xb_crosses_b40_j74
          rw [ixt (n := 8) (ce - 3 - 2 * t + 1) (by omega) (by omega) (by decide)]
          simp only [obs]
          rw [w32_eq (x := s 132 (ce - 3 - 2 * t + 1)) (by omega) (by omega), w32_eq (x := x4) (by omega) (by omega), w32_eq (x := x5) (by omega) (by omega), hq, show w32 0 = 0 by decide, show w32 1 = 1 by decide]
          have fin : ∀ (b : Bool) (z : Int), btwL lay ce p (ce - 3 - 2 * t + 1) = b → z = (if b = true then 1 else 0) → (if k0 = z then (some (.inl ((ce : Int) - 3 - 2 * (t : Int) + -2)) : Option (Int ⊕ (Int ⊕ Int))) else some (.inr (.inr 1))) = some (if btwL lay ce p (ce - 3 - 2 * t) = btwL lay ce p (ce - 3 - 2 * t + 1) then .inl ((ce : Int) - 3 - 2 * ((t + 1 : Nat) : Int)) else .inr (.inr 1)) := by
            intro b z hb hz
            rw [hb, show (ce : Int) - 3 - 2 * ((t + 1 : Nat) : Int) = (ce : Int) - 3 - 2 * (t : Int) + -2 by omega]
            rcases hk with ⟨rfl, hk⟩ | ⟨rfl, hk⟩ <;> rw [hk] <;> cases b <;> subst hz <;> rfl
          by_cases q1 : s 132 (ce - 3 - 2 * t + 1) < x4
          · rw [if_pos q1]
            refine fin false 0 ?_ rfl
            cases hb : btwL lay ce p (ce - 3 - 2 * t + 1) with
            | false => rfl
            | true => have := b1.mp hb; omega
          · rw [if_neg q1]
            by_cases q2 : s 132 (ce - 3 - 2 * t + 1) < x5
            · rw [if_pos q2]
              exact fin true 1 (b1.mpr ⟨by omega, q2⟩) rfl
            · rw [if_neg q2]
              refine fin false 0 ?_ rfl
              cases hb : btwL lay ce p (ce - 3 - 2 * t + 1) with
              | false => rfl
              | true => have := b1.mp hb; omega
        show xb_crosses_b40 s x4 x5 ((ce : Int) - 3 - 2 * (t : Int)) = _
        unfold xb_crosses_b40
        rw [w32_eq (x := (ce : Int) - 3 - 2 * (t : Int)) (by omega) (by omega), if_neg (by omega), ixt (n := 8) (j := (ce : Int) - 3 - 2 * (t : Int)) (ce - 3 - 2 * t) (by omega) (by omega) (by decide)]
        simp only [obs]
        rw [w32_eq (x := s 132 (ce - 3 - 2 * t)) (by omega) (by omega), w32_eq (x := x4) (by omega) (by omega), w32_eq (x := x5) (by omega) (by omega)]
        by_cases q1 : s 132 (ce - 3 - 2 * t) < x4
        · rw [if_pos q1]
          refine e74 0 (Or.inl ⟨rfl, ?_⟩)
          cases hb : btwL lay ce p (ce - 3 - 2 * t) with
          | false => rfl
          | true => have := a1.mp hb; omega
        · rw [if_neg q1]
          by_cases q2 : s 132 (ce - 3 - 2 * t) < x5
          · rw [if_pos q2]
            exact e74 1 (Or.inr ⟨rfl, a1.mpr ⟨by omega, q2⟩⟩)
          · rw [if_neg q2]
            refine e74 0 (Or.inl ⟨rfl, ?_⟩)
            cases hb : btwL lay ce p (ce - 3 - 2 * t) with
            | false => rfl
            | true => have := a1.mp hb; omega
      · show xb_crosses_b40 s x4 x5 ((ce : Int) - 3 - 2 * (((ce - 1) / 2 : Nat) : Int)) = _
        unfold xb_crosses_b40
        rw [w32_eq (x := (ce : Int) - 3 - 2 * (((ce - 1) / 2 : Nat) : Int)) (by omega) (by omega), if_pos (by omega)]
    rw [key]
    have hcr : crsL lay ce p = true ↔ ¬ ∀ t, t < (ce - 1) / 2 → btwL lay ce p (ce - 3 - 2 * t) = btwL lay ce p (ce - 3 - 2 * t + 1) := by
      unfold crsL
      rw [List.any_eq_true]
      constructor
      · rintro ⟨j, hj, hc⟩ hall
        rw [List.mem_range] at hj
        rw [Bool.and_eq_true, decide_eq_true_eq] at hc
        have := hall ((ce - 3 - j) / 2) (by omega)
        rw [show ce - 3 - 2 * ((ce - 3 - j) / 2) = j by omega] at this
        rw [this] at hc
        simp at hc
      · intro hn
        obtain ⟨t, h1, h2, -⟩ := first_no hn
        refine ⟨ce - 3 - 2 * t, List.mem_range.mpr (by omega), ?_⟩
        rw [Bool.and_eq_true, decide_eq_true_eq]
        refine ⟨by omega, ?_⟩
        rw [bne_iff_ne]
        exact h2
    by_cases hq : ∀ t, t < (ce - 1) / 2 → btwL lay ce p (ce - 3 - 2 * t) = btwL lay ce p (ce - 3 - 2 * t + 1)
    · rw [if_pos hq, if_neg (fun k => (hcr.mp k) hq)]
    · rw [if_neg hq, if_pos (hcr.mpr hq)]
  unfold xb_crosses
  rw [ixt (n := 8) (j := (ce : Int) - 1) (ce - 1) (by omega) (by omega) (by decide)]
  simp only [obs]
  rw [k1, w32_eq (x := ((lay.getD (ce - 1) 0 : Nat) : Int)) (by omega) (by omega), w32_eq (x := (p : Int)) (by omega) (by omega)]
  by_cases hlt : lay.getD (ce - 1) 0 < p
  · rw [if_pos (by omega), if_pos (by omega)]
    exact lo _ _ (by rw [if_pos hlt]; omega) (by rw [if_pos hlt])
  · rw [if_neg (by omega), if_neg (by omega)]
    exact lo _ _ (by rw [if_neg hlt]) (by rw [if_neg hlt])
theorem insL_len {p : Nat} : (insL lay p).length = lay.length + 1 := by
  unfold insL
  rw [List.length_append, List.length_map]
  rfl
theorem insL_at {p i : Nat} (hi : i < lay.length) : (insL lay p).getD i 0 = if p ≤ lay.getD i 0 then lay.getD i 0 + 1 else lay.getD i 0 := by
  unfold insL
  rw [gd_l (by rw [List.length_map]; exact hi), List.getD_eq_getElem?_getD, List.getD_eq_getElem?_getD, List.getElem?_map, List.getElem?_eq_getElem hi]
  rfl
theorem insL_end {p : Nat} : (insL lay p).getD lay.length 0 = p := by
  unfold insL
  rw [gd_r (by rw [List.length_map]; exact Nat.le_refl _), List.length_map, Nat.sub_self]
  rfl
theorem bk_make {p : Nat} (ce8 : ce < 8) (ly : LY s lay ce) (hp : p ≤ ce) : ∃ t, xb_makeRoom s (ce : Int) (p : Int) = some t ∧ (∀ P, P ≠ 132 → t P = s P) ∧ ∀ i, i < ce → t 132 i = (((insL lay p).getD i 0 : Nat) : Int) := by
  unfold xb_makeRoom
  obtain ⟨r, e1, e2, e3⟩ := lp_forR (B := fun (q : Int × Hp) => xb_makeRoom_b2 q.2 (ce : Int) (p : Int) q.1) (fun i (q : Int × Hp) => q.1 = (i : Int) ∧ (∀ P, P ≠ 132 → q.2 P = s P) ∧ (∀ j, j < i → q.2 132 j = (((insL lay p).getD j 0 : Nat) : Int)) ∧ ∀ j, i ≤ j → q.2 132 j = s 132 j) ce (fun q : Int × Hp => (∀ P, P ≠ 132 → q.2 P = s P) ∧ ∀ j, j < ce → q.2 132 j = (((insL lay p).getD j 0 : Nat) : Int)) (by
    rintro i ⟨x, t⟩ hi ⟨j1, j2, j3, j4⟩
    replace j1 : x = (i : Int) := j1
    replace j2 : ∀ P, P ≠ 132 → t P = s P := j2
    replace j3 : ∀ j, j < i → t 132 j = (((insL lay p).getD j 0 : Nat) : Int) := j3
    replace j4 : ∀ j, i ≤ j → t 132 j = s 132 j := j4
    subst j1
    obtain ⟨l1, l2⟩ := ly.2 i hi
    have li : i < lay.length := by rw [ly.1]; exact hi
    show ∃ q1, xb_makeRoom_b2 t (ce : Int) (p : Int) (i : Int) = some (Sum.inl q1) ∧ _
    unfold xb_makeRoom_b2
    rw [w32_eq (x := (i : Int)) (by omega) (by omega), w32_eq (x := (ce : Int)) (by omega) (by omega), if_pos (by omega), ixt i rfl (by omega) (by decide)]
    simp only [obs]
    rw [j4 i (Nat.le_refl _), l1, w32_eq (x := ((lay.getD i 0 : Nat) : Int)) (by omega) (by omega), w32_eq (x := (p : Int)) (by omega) (by omega)]
    by_cases hl : lay.getD i 0 < p
    · rw [if_pos (by omega)]
      refine ⟨_, rfl, by show (i : Int) + 1 = _; omega, j2, fun j hj => ?_, fun j hj => j4 j (by omega)⟩
      show t 132 j = _
      by_cases hji : j = i
      · subst hji
        rw [j4 j (Nat.le_refl _), l1, insL_at li, if_neg (by omega)]
      · exact j3 j (by omega)
    · rw [if_neg (by omega)]
      refine ⟨_, rfl, by show (i : Int) + 1 = _; omega, fun P hP => ?_, fun j hj => ?_, fun j hj => ?_⟩
      · show uh t 132 i _ P = _
        rw [uh_row hP]; exact j2 P hP
      · show uh t 132 i _ 132 j = _
        by_cases hji : j = i
        · subst hji
          rw [uh_rc, insL_at li, if_pos (by omega)]
          omega
        · rw [uh_ro _ _ _ _ hji]; exact j3 j (by omega)
      · show uh t 132 i _ 132 j = _
        rw [uh_ro _ _ _ _ (by omega)]; exact j4 j (by omega)) (by
    rintro ⟨x, t⟩ ⟨j1, j2, j3, j4⟩
    replace j1 : x = (ce : Int) := j1
    subst j1
    refine ⟨((ce : Int), t), ?_, j2, j3⟩
    show xb_makeRoom_b2 t (ce : Int) (p : Int) (ce : Int) = _
    unfold xb_makeRoom_b2
    rw [if_neg (by omega)]) (s := (0, s)) ⟨rfl, fun _ _ => rfl, fun j hj => by omega, fun _ _ => rfl⟩
  rw [e1]
  exact ⟨r.2, rfl, e2, e3⟩
theorem bk_close {p : Nat} {u : Hp} (ce8 : ce < 8) (hlen : lay.length = ce) (hlt : ∀ i, i < ce → lay.getD i 0 < ce) (hu : ∀ i, i < ce → u 132 i = (((insL lay p).getD i 0 : Nat) : Int)) (hp : p ≤ ce) : ∃ t, xb_closeRoom u (ce : Int) (p : Int) = some t ∧ (∀ P, P ≠ 132 → t P = u P) ∧ ∀ i, i < ce → t 132 i = ((lay.getD i 0 : Nat) : Int) := by
  unfold xb_closeRoom
  obtain ⟨r, e1, e2, e3⟩ := lp_forR (B := fun (q : Int × Hp) => xb_closeRoom_b2 q.2 (ce : Int) (p : Int) q.1) (fun i (q : Int × Hp) => q.1 = (i : Int) ∧ (∀ P, P ≠ 132 → q.2 P = u P) ∧ (∀ j, j < i → q.2 132 j = ((lay.getD j 0 : Nat) : Int)) ∧ ∀ j, i ≤ j → q.2 132 j = u 132 j) ce (fun q : Int × Hp => (∀ P, P ≠ 132 → q.2 P = u P) ∧ ∀ j, j < ce → q.2 132 j = ((lay.getD j 0 : Nat) : Int)) (by
    rintro i ⟨x, t⟩ hi ⟨j1, j2, j3, j4⟩
    replace j1 : x = (i : Int) := j1
    replace j2 : ∀ P, P ≠ 132 → t P = u P := j2
    replace j3 : ∀ j, j < i → t 132 j = ((lay.getD j 0 : Nat) : Int) := j3
    replace j4 : ∀ j, i ≤ j → t 132 j = u 132 j := j4
    subst j1
    have l2 := hlt i hi
    have li : i < lay.length := by rw [hlen]; exact hi
    have eu := hu i hi
    rw [insL_at li] at eu
    show ∃ q1, xb_closeRoom_b2 t (ce : Int) (p : Int) (i : Int) = some (Sum.inl q1) ∧ _
    unfold xb_closeRoom_b2
    rw [w32_eq (x := (i : Int)) (by omega) (by omega), w32_eq (x := (ce : Int)) (by omega) (by omega), if_pos (by omega), ixt i rfl (by omega) (by decide)]
    simp only [obs]
    rw [j4 i (Nat.le_refl _), eu, w32_eq (x := (p : Int)) (by omega) (by omega)]
    by_cases hl : p ≤ lay.getD i 0
    · rw [if_pos hl, w32_eq (x := ((lay.getD i 0 + 1 : Nat) : Int)) (by omega) (by omega), if_pos (by omega)]
      refine ⟨_, rfl, by show (i : Int) + 1 = _; omega, fun P hP => ?_, fun j hj => ?_, fun j hj => ?_⟩
      · show uh t 132 i _ P = _
        rw [uh_row hP]; exact j2 P hP
      · show uh t 132 i _ 132 j = _
        by_cases hji : j = i
        · subst hji
          rw [uh_rc]
          omega
        · rw [uh_ro _ _ _ _ hji]; exact j3 j (by omega)
      · show uh t 132 i _ 132 j = _
        rw [uh_ro _ _ _ _ (by omega)]; exact j4 j (by omega)
    · rw [if_neg hl, w32_eq (x := ((lay.getD i 0 : Nat) : Int)) (by omega) (by omega), if_neg (by omega)]
      refine ⟨_, rfl, by show (i : Int) + 1 = _; omega, j2, fun j hj => ?_, fun j hj => j4 j (by omega)⟩
      show t 132 j = _
      by_cases hji : j = i
      · subst hji
        rw [j4 j (Nat.le_refl _), eu, if_neg hl]
      · exact j3 j (by omega)) (by
    rintro ⟨x, t⟩ ⟨j1, j2, j3, j4⟩
    replace j1 : x = (ce : Int) := j1
    subst j1
    refine ⟨((ce : Int), t), ?_, j2, j3⟩
    show xb_closeRoom_b2 t (ce : Int) (p : Int) (ce : Int) = _
    unfold xb_closeRoom_b2
    rw [if_neg (by omega)]) (s := (0, u)) ⟨rfl, fun _ _ => rfl, fun j hj => by omega, fun _ _ => rfl⟩
  rw [e1]
  exact ⟨r.2, rfl, e2, e3⟩
end BK
