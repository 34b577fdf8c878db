/-! cloth: what is laid behind a good text, both sides -/
section CH
variable {s M : Hp}
theorem rm_zero82 : ∃ M1, lp (fun (q : Int × Hp) => xm_cloth_b8 q.2 q.1) (0, M) = some (82, M1) ∧ (∀ P, P ≠ 152 → M1 P = M P) ∧ ∀ q, q < 82 → M1 152 q = 0 := by
  obtain ⟨r, l1, l2⟩ := lp_forR (B := fun (q : Int × Hp) => xm_cloth_b8 q.2 q.1) (fun i (q : Int × Hp) => q.1 = (i : Int) ∧ (∀ P, P ≠ 152 → q.2 P = M P) ∧ ∀ j, j < i → q.2 152 j = 0) 82 (fun q : Int × Hp => q.1 = 82 ∧ (∀ P, P ≠ 152 → q.2 P = M P) ∧ ∀ j, j < 82 → q.2 152 j = 0) (by
    rintro i ⟨x, t⟩ hi ⟨j1, j2, j3⟩
    replace j1 : x = (i : Int) := j1
    replace j2 : ∀ P, P ≠ 152 → t P = M P := j2
    replace j3 : ∀ j, j < i → t 152 j = 0 := j3
    subst j1
    show ∃ q1, xm_cloth_b8 t (i : Int) = some (Sum.inl q1) ∧ _
    unfold xm_cloth_b8
    rw [w32_eq (x := (i : Int)) (by omega) (by omega), show w32 82 = 82 by decide, if_pos (by omega), ixt (n := 82) (j := (i : Int)) i rfl (by omega) (by decide)]
    simp only [obs]
    refine ⟨_, rfl, by show (i : Int) + 1 = _; omega, fun P hP => ?_, fun j hj => ?_⟩
    · show uh t 152 i 0 P = _
      rw [uh_row hP]; exact j2 P hP
    · show uh t 152 i 0 152 j = _
      by_cases q : j = i
      · rw [q, uh_rc]
      · rw [uh_ro _ _ _ _ q]; exact j3 j (by omega)) (by
    rintro ⟨x, t⟩ ⟨j1, j2, j3⟩
    replace j1 : x = ((82 : Nat) : Int) := j1
    subst j1
    refine ⟨_, ?_, rfl, j2, j3⟩
    show xm_cloth_b8 t ((82 : Nat) : Int) = _
    unfold xm_cloth_b8
    rw [if_neg (by decide)]) (s := (0, M)) ⟨rfl, fun _ _ => rfl, fun j hj => by omega⟩
  obtain ⟨x, t⟩ := r
  obtain ⟨rfl, l3, l4⟩ := l2
  exact ⟨t, l1, l3, l4⟩
theorem rm_said130 : ∃ M1, lp (fun (q : Int × Hp) => xm_cloth_b44 q.2 q.1) (0, M) = some (130, M1) ∧ (∀ P, P ≠ 156 → M1 P = M P) ∧ ∀ q, q < 130 → M1 156 q = if q < 82 then M 152 q else 0 := by
  obtain ⟨r, l1, l2⟩ := lp_forR (B := fun (q : Int × Hp) => xm_cloth_b44 q.2 q.1) (fun i (q : Int × Hp) => q.1 = (i : Int) ∧ (∀ P, P ≠ 156 → q.2 P = M P) ∧ ∀ j, j < i → q.2 156 j = if j < 82 then M 152 j else 0) 130 (fun q : Int × Hp => q.1 = 130 ∧ (∀ P, P ≠ 156 → q.2 P = M P) ∧ ∀ j, j < 130 → q.2 156 j = if j < 82 then M 152 j else 0) (by
    rintro i ⟨x, t⟩ hi ⟨j1, j2, j3⟩
    replace j1 : x = (i : Int) := j1
    replace j2 : ∀ P, P ≠ 156 → t P = M P := j2
    replace j3 : ∀ j, j < i → t 156 j = if j < 82 then M 152 j else 0 := j3
    subst j1
    show ∃ q1, xm_cloth_b44 t (i : Int) = some (Sum.inl q1) ∧ _
    have key : xm_cloth_b44 t (i : Int) = some (.inl ((i : Int) + 1, uh t 156 i (if i < 82 then M 152 i else 0))) := by
      unfold xm_cloth_b44
      rw [w32_eq (x := (i : Int)) (by omega) (by omega), show w32 130 = 130 by decide, show w32 82 = 82 by decide, if_pos (by omega)]
      by_cases h82 : i < 82
      · rw [if_pos (by omega), if_pos h82, ixt (n := 82) (j := (i : Int)) i rfl (by omega) (by decide)]
        simp only [obs]
        rw [ixt (n := 130) (j := (i : Int)) i rfl (by omega) (by decide), j2 152 (by decide)]
        rfl
      · rw [if_neg (by omega), if_neg h82, ixt (n := 130) (j := (i : Int)) i rfl (by omega) (by decide)]
        rfl
    rw [key]
    refine ⟨_, rfl, by show (i : Int) + 1 = _; omega, fun P hP => ?_, fun j hj => ?_⟩
    · show uh t 156 i _ P = _
      rw [uh_row hP]; exact j2 P hP
    · show uh t 156 i _ 156 j = _
      by_cases q : j = i
      · rw [q, uh_rc]
      · rw [uh_ro _ _ _ _ q]; exact j3 j (by omega)) (by
    rintro ⟨x, t⟩ ⟨j1, j2, j3⟩
    replace j1 : x = ((130 : Nat) : Int) := j1
    subst j1
    refine ⟨_, ?_, rfl, j2, j3⟩
    show xm_cloth_b44 t ((130 : Nat) : Int) = _
    unfold xm_cloth_b44
    rw [if_neg (by decide)]) (s := (0, M)) ⟨rfl, fun _ _ => rfl, fun j hj => by omega⟩
  obtain ⟨x, t⟩ := r
  obtain ⟨rfl, l3, l4⟩ := l2
  exact ⟨t, l1, l3, l4⟩
/-- the class begins anew with its draft -/
theorem cl_begin : ∃ s1, xs_begin s 16 4 = some s1 ∧ (∀ P, ¬ (16 ≤ P ∧ P ≤ 35) → s1 P = s P) ∧ (∀ i, i ≤ 8 → ∀ q, q < rowLen i → s1 (17 + i) q = s (4 + i) q) ∧ (∀ i, i ≤ 8 → ∀ q, q < rowLen i → s1 (26 + i) q = s (4 + i) q) ∧ s1 16 5 = 0 ∧ (∀ q, q ≠ 5 → s1 16 q = s 16 q) ∧ ∀ j, j < 8 → s1 35 j = 0 := by
  unfold xs_begin
  obtain ⟨sa, a1, a2, a3⟩ := cl_copy (s := s) (a0 := 17) (a1 := 4) (Or.inr (by decide))
  obtain ⟨sb, b1, b2, b3⟩ := cl_copy (s := sa) (a0 := 26) (a1 := 4) (Or.inr (by decide))
  rw [a1]
  simp only [obs]
  rw [b1]
  simp only [obs]
  obtain ⟨r, l1, l2⟩ := lp_forR (B := fun (q : Int × Hp) => xs_begin_b23 q.2 16 4 q.1) (fun i (q : Int × Hp) => q.1 = (i : Int) ∧ (∀ P, P ≠ 35 → q.2 P = uh sb 16 5 0 P) ∧ ∀ j, j < i → q.2 35 j = 0) 8 (fun q : Int × Hp => (∀ P, P ≠ 35 → q.2 P = uh sb 16 5 0 P) ∧ ∀ j, j < 8 → q.2 35 j = 0) (by
    rintro i ⟨x, t⟩ hi ⟨j1, j2, j3⟩
    replace j1 : x = (i : Int) := j1
    replace j2 : ∀ P, P ≠ 35 → t P = uh sb 16 5 0 P := j2
    replace j3 : ∀ j, j < i → t 35 j = 0 := j3
    subst j1
    show ∃ q1, xs_begin_b23 t 16 4 (i : Int) = some (Sum.inl q1) ∧ _
    unfold xs_begin_b23
    rw [w32_eq (x := (i : Int)) (by omega) (by omega), show w32 8 = 8 by decide, if_pos (by omega), ixt (n := 8) (j := (i : Int)) i rfl (by omega) (by decide)]
    simp only [obs]
    refine ⟨_, rfl, by show (i : Int) + 1 = _; omega, fun P hP => ?_, fun j hj => ?_⟩
    · show uh t 35 i 0 P = _
      rw [uh_row hP]; exact j2 P hP
    · show uh t 35 i 0 35 j = _
      by_cases q : j = i
      · rw [q, uh_rc]
      · rw [uh_ro _ _ _ _ q]; exact j3 j (by omega)) (by
    rintro ⟨x, t⟩ ⟨j1, j2, j3⟩
    replace j1 : x = ((8 : Nat) : Int) := j1
    subst j1
    refine ⟨_, ?_, j2, j3⟩
    show xs_begin_b23 t 16 4 ((8 : Nat) : Int) = _
    unfold xs_begin_b23
    rw [if_neg (by decide)]) (s := (0, uh sb 16 5 0)) ⟨rfl, fun _ _ => rfl, fun j hj => by omega⟩
  obtain ⟨x, t⟩ := r
  replace l2 : (∀ P, P ≠ 35 → t P = uh sb 16 5 0 P) ∧ ∀ j, j < 8 → t 35 j = 0 := l2
  obtain ⟨l3, l4⟩ := l2
  rw [l1]
  refine ⟨t, rfl, fun P hP => ?_, fun i hi q hq => ?_, fun i hi q hq => ?_, ?_, fun q hq => ?_, l4⟩
  · rw [l3 P (by omega), uh_row (by omega), b2 P (by omega), a2 P (by omega)]
  · rw [l3 _ (by omega), uh_row (by omega), b2 _ (by omega)]; exact a3 i hi q hq
  · rw [l3 _ (by omega), uh_row (by omega), b3 i hi q hq, a2 _ (by omega)]
  · rw [l3 16 (by decide), uh_rc]
  · rw [l3 16 (by decide), uh_ro _ _ _ _ hq, b2 16 (by omega), a2 16 (by omega)]
/-- the text alone has changed -/
theorem REL_txt {ln : Nat → Nat} {s1 M1 : Hp} (h : REL ln s M) (hs : ∀ P, VC P → P ≠ 1 → P ≠ 2 → s1 P = s P) (hb : s1 130 = s 130) (hm : ∀ P, VM P → P ≠ 147 → M1 P = M P) (m2 : M1 146 2 = M 146 2) (m21 : M1 146 21 = M 146 21) (m22 : M1 146 22 = M 146 22) (m26 : M1 146 26 = M 146 26) (ht : TapeR s1 M1) : REL ln s1 M1 := by
  have h1 : REL ln s1 (fun P q => if P = 146 then (if q = 1 then M1 146 1 else M 146 q) else M1 P q) := by
    refine REL_tape h hs hb (fun P p1 p2 => ?_) (fun q hq => ?_) ?_
    · show (fun q => if P = 146 then (if q = 1 then M1 146 1 else M 146 q) else M1 P q) = M P
      rw [← hm P p1 p2]
      funext q
      rw [if_neg (by unfold VM at p1; omega)]
    · show (if (146 : Nat) = 146 then (if q = 1 then M1 146 1 else M 146 q) else M1 146 q) = _
      rw [if_pos rfl, if_neg hq]
    · exact ht
  refine REL_cg h1 ⟨fun _ _ => rfl, rfl, rfl⟩ ⟨fun P p1 => ?_, rfl, m2, m21, m22, m26⟩
  show M1 P = fun q => if P = 146 then (if q = 1 then M1 146 1 else M 146 q) else M1 P q
  funext q
  rw [if_neg (by unfold VM at p1; omega)]
end CH
