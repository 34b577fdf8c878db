/-! stacks: the class counts -/
theorem REL_bk {ln : Nat → Nat} {s M s1 M1 : Hp} (h : REL ln s M) (hs : ∀ P, VC P → P ≠ 131 → s1 P = s P) (bn : BookR s1) (hm : SameM M M1) : REL ln s1 M1 := by
  obtain ⟨t, ru, ⟨K, n, m, sh, pa⟩, im, bo, le⟩ := h
  have s1c : ∀ P, VC P → P ≠ 131 → s1 P = s P := hs
  obtain ⟨m1c, m1, m2, m21, m22, m26⟩ := hm
  have r0 : s1 0 = s 0 := s1c 0 (by unfold VC; omega) (by omega)
  have r1 : s1 1 = s 1 := s1c 1 (by unfold VC; omega) (by omega)
  have r2 : s1 2 = s 2 := s1c 2 (by unfold VC; omega) (by omega)
  have r15 : s1 15 = s 15 := s1c 15 (by unfold VC; omega) (by omega)
  have r38 : s1 38 = s 38 := s1c 38 (by unfold VC; omega) (by omega)
  have r39 : s1 39 = s 39 := s1c 39 (by unfold VC; omega) (by omega)
  have r40 : s1 40 = s 40 := s1c 40 (by unfold VC; omega) (by omega)
  have e147 : M1 147 = M 147 := m1c 147 (by unfold VM; omega)
  have e156 : M1 156 = M 156 := m1c 156 (by unfold VM; omega)
  have e159 : M1 159 = M 159 := m1c 159 (by unfold VM; omega)
  have e171 : M1 171 = M 171 := m1c 171 (by unfold VM; omega)
  have e172 : M1 172 = M 172 := m1c 172 (by unfold VM; omega)
  have e173 : M1 173 = M 173 := m1c 173 (by unfold VM; omega)
  have e174 : M1 174 = M 174 := m1c 174 (by unfold VM; omega)
  have big : ∀ P, 175 ≤ P → s1 P = s P := fun P hP => s1c P (by unfold VC; omega) (by omega)
  refine ⟨?_, ?_, ⟨K, n, m, ?_, ?_⟩, ?_, ?_, ?_⟩
  · unfold TapeR at t ⊢
    rw [r1, r2, m1, e147]; exact t
  · unfold RulesR at ru ⊢
    rw [r0, r15, m2]
    refine ⟨ru.1, ru.2.1, ru.2.2.1, fun x hx => ?_⟩
    obtain ⟨R, c1, c2, c3⟩ := ru.2.2.2 x hx
    exact ⟨R, CR_row c1 big, RM_cg c2 m1c, c3⟩
  · rw [m21, m22, r0]
    exact SheetR_cg sh (fun i hi => s1c _ (by unfold VC; omega) (by omega)) e156
  · obtain ⟨z, x, p1, p2, p3, p4, p5, p6, p7⟩ := pa
    refine ⟨z, x, by rw [r39]; exact p1, by rw [m26]; exact p2, p3, by rw [r39]; exact p4, p5, fun t ht => ?_, by rw [r40]; exact p7⟩
    obtain ⟨q1, q2, K2, q3, q4, q5⟩ := p6 t ht
    rw [r40]
    refine ⟨q1, q2, K2, q3, Cl_row q4 (fun i hi => big _ (by omega)), ?_⟩
    have e : wsd M1 (z - 1 - t) = wsd M (z - 1 - t) := by unfold wsd; rw [e159, e156]
    rw [e]; exact q5
  · refine ⟨fun k hk => ?_, by rw [r38]; exact im.2⟩
    rw [e174, r38, r0]
    rcases im.1 k hk with q | ⟨q1, q2, q3, K2, n2, m2', q4⟩
    · exact Or.inl q
    · refine Or.inr ⟨q1, q2, q3, K2, n2, m2', ?_⟩
      rw [e171, e172, e173]
      exact SheetR_cg q4 (fun i hi => big _ (by omega)) rfl
  · exact bn
  · unfold LevR at le ⊢
    rw [s1c 55 (by unfold VC; omega) (by omega)]
    exact le
theorem rf8 : refL 8 = kL8 := by
  unfold refL
  rw [ref_P]
  exact rpq8
def bdB (c : Nat) (l : List Nat) : Bool := l.all fun x => Nat.blt x 2147483648 && Nat.blt (x % 128) (2 ^ (c - 1))
set_option maxRecDepth 100000 in
theorem bd2 : bdB 2 kL2 = true := by decide +kernel
set_option maxRecDepth 100000 in
theorem bd3 : bdB 3 kL3 = true := by decide +kernel
set_option maxRecDepth 100000 in
theorem bd4 : bdB 4 kL4 = true := by decide +kernel
set_option maxRecDepth 100000 in
theorem bd5 : bdB 5 kL5 = true := by decide +kernel
set_option maxRecDepth 100000 in
theorem bd6 : bdB 6 kL6 = true := by decide +kernel
set_option maxRecDepth 100000 in
theorem bd7 : bdB 7 kL7 = true := by decide +kernel
set_option maxRecDepth 100000 in
theorem bd8 : bdB 8 kL8 = true := by decide +kernel
theorem ref_bd {c x : Nat} (h2 : 2 ≤ c) (h8 : c ≤ 8) (hx : x ∈ refL c) : x < 2147483648 ∧ x % 128 < 2 ^ (c - 1) := by
  have hb : bdB c (refL c) = true := by
    have h : c = 2 ∨ c = 3 ∨ c = 4 ∨ c = 5 ∨ c = 6 ∨ c = 7 ∨ c = 8 := by omega
    unfold refL
    rw [ref_P]
    rcases h with rfl | rfl | rfl | rfl | rfl | rfl | rfl
    · rw [rpq2]; exact bd2
    · rw [rpq3]; exact bd3
    · rw [rpq4]; exact bd4
    · rw [rpq5]; exact bd5
    · rw [rpq6]; exact bd6
    · rw [rpq7]; exact bd7
    · rw [rpq8]; exact bd8
  unfold bdB at hb
  rw [List.all_eq_true] at hb
  have := hb x hx
  rw [Bool.and_eq_true] at this
  exact ⟨Nat.le_of_ble_eq_true this.1, Nat.le_of_ble_eq_true this.2⟩
theorem stk_bd {c x : Nat} (h2 : 2 ≤ c) (h8 : c ≤ 8) (hx : x ∈ stkL c) : x < 2147483648 ∧ x % 128 < 2 ^ (c - 1) := ref_bd h2 h8 ((stk_perm h2 h8).1.mem_iff.mp hx)
/-- an ascending row: the first is the least -/
theorem asc_le : ∀ {l : List Nat} {x : Nat}, ascB (x :: l) = true → ∀ y, y ∈ l → x < y
  | [], _, _, y, hy => by cases hy
  | z :: l, x, h, y, hy => by
    have h : (Nat.blt x z && ascB (z :: l)) = true := h
    rw [Bool.and_eq_true] at h
    have hxz : x < z := Nat.le_of_ble_eq_true h.1
    rcases List.mem_cons.mp hy with e | e
    · omega
    · have := asc_le h.2 y e
      omega
theorem asc_tl {x : Nat} {l : List Nat} (h : ascB (x :: l) = true) : ascB l = true := by
  cases l with
  | nil => rfl
  | cons z l =>
    have h : (Nat.blt x z && ascB (z :: l)) = true := h
    rw [Bool.and_eq_true] at h
    exact h.2
theorem asc_find {p : Nat → Bool} : ∀ {l : List Nat} {f : Nat}, ascB l = true → l.find? p = some f → f ∈ l ∧ p f = true ∧ ∀ y, y ∈ l → p y = true → f ≤ y
  | [], f, _, h => by cases h
  | x :: l, f, ha, h => by
    by_cases hp : p x = true
    · rw [List.find?_cons_of_pos hp] at h
      cases h
      refine ⟨List.mem_cons_self, hp, fun y hy _ => ?_⟩
      rcases List.mem_cons.mp hy with e | e
      · omega
      · have := asc_le ha y e
        omega
    · rw [List.find?_cons_of_neg hp] at h
      obtain ⟨h1, h2, h3⟩ := asc_find (asc_tl ha) h
      refine ⟨List.mem_cons_of_mem _ h1, h2, fun y hy hy2 => ?_⟩
      rcases List.mem_cons.mp hy with e | e
      · subst e
        exact absurd hy2 hp
      · exact h3 y e hy2
def tkL (l : List Nat) (i : Nat) : List Nat := (List.range i).map fun j => l.getD j 0
theorem tk_s {l : List Nat} {i : Nat} : tkL l (i + 1) = tkL l i ++ [l.getD i 0] := by
  unfold tkL
  rw [List.range_succ, List.map_append]
  rfl
theorem tk_all (l : List Nat) : tkL l l.length = l := by
  unfold tkL
  refine List.ext_getElem (by rw [List.length_map, List.length_range]) (fun i h1 h2 => ?_)
  rw [List.getElem_map, List.getElem_range, List.getD_eq_getElem?_getD, List.getElem?_eq_getElem h2]
  rfl
theorem gd_mem {l : List Nat} {i : Nat} (h : i < l.length) : l.getD i 0 ∈ l := by
  rw [List.getD_eq_getElem?_getD, List.getElem?_eq_getElem h]
  exact List.getElem_mem h
section CH
variable {s : Hp} {c : Nat}
theorem bk_cellAt {x k : Nat} (hx : x < 2147483648) (hk : k < 8) : xb_cellAt (x : Int) (k : Int) = some ((dgN x k : Nat) : Int) := by
  unfold xb_cellAt xb_shiftOf dgN
  simp only [obs]
  rw [show (7 : Int) + 3 * (7 - (k : Int)) = ((shN k : Nat) : Int) by unfold shN; omega, bShr_n hx (by unfold shN; omega)]
  have h1 : x / 2 ^ shN k ≤ x := Nat.div_le_self _ _
  rw [show (7 : Int) = ((7 : Nat) : Int) from rfl, bAnd_n (by omega) (by decide)]
  exact congrArg (fun z : Nat => some ((z : Nat) : Int)) (Nat.and_two_pow_sub_one_eq_mod _ 3)
theorem dg_lt (x k : Nat) : dgN x k < 8 := Nat.mod_lt _ (by decide)
theorem bk_layers {x : Nat} (hc : s 130 2 = (c : Int)) (c8 : c ≤ 8) (hx : x < 2147483648) : ∃ t, xb_countLayers s (x : Int) = some t ∧ (∀ P, P ≠ 133 → t P = s P) ∧ ∀ y k, y < 8 → k < c → t 133 (8 * y + k) = s 133 (8 * y + k) + if Nat.beq (dgN x k) y = true then 1 else 0 := by
  unfold xb_countLayers
  obtain ⟨r, e1, e2, e3⟩ := lp_forR (B := fun (q : Int × Hp) => xb_countLayers_b2 q.2 (x : Int) q.1) (fun i (q : Int × Hp) => q.1 = (i : Int) ∧ (∀ P, P ≠ 133 → q.2 P = s P) ∧ ∀ y k, y < 8 → k < c → q.2 133 (8 * y + k) = s 133 (8 * y + k) + if k < i ∧ Nat.beq (dgN x k) y = true then 1 else 0) c (fun q : Int × Hp => (∀ P, P ≠ 133 → q.2 P = s P) ∧ ∀ y k, y < 8 → k < c → q.2 133 (8 * y + k) = s 133 (8 * y + k) + if Nat.beq (dgN x k) y = true then 1 else 0) (by
    rintro i ⟨z, t⟩ hi ⟨j1, j2, j3⟩
    replace j1 : z = (i : Int) := j1
    replace j2 : ∀ P, P ≠ 133 → t P = s P := j2
    replace j3 : ∀ y k, y < 8 → k < c → t 133 (8 * y + k) = s 133 (8 * y + k) + if k < i ∧ Nat.beq (dgN x k) y = true then 1 else 0 := j3
    subst j1
    have hd := dg_lt x i
    show ∃ q1, xb_countLayers_b2 t (x : Int) (i : Int) = some (Sum.inl q1) ∧ _
    unfold xb_countLayers_b2
    rw [j2 130 (by decide), hc, w32_eq (x := (i : Int)) (by omega) (by omega), w32_eq (x := (c : Int)) (by omega) (by omega), if_pos (by omega), bk_cellAt hx (by omega)]
    simp only [obs]
    rw [ixt (n := 128) (j := 8 * ((dgN x i : Nat) : Int) + (i : Int)) (8 * dgN x i + i) (by omega) (by omega) (by decide)]
    simp only [obs]
    refine ⟨_, rfl, by show (i : Int) + 1 = _; omega, fun P hP => ?_, fun y k hy hk => ?_⟩
    · show uh t 133 (8 * dgN x i + i) (t 133 (8 * dgN x i + i) + 1) P = _
      rw [uh_row hP]; exact j2 P hP
    · show uh t 133 (8 * dgN x i + i) (t 133 (8 * dgN x i + i) + 1) 133 (8 * y + k) = _
      by_cases hyk : k = i ∧ dgN x i = y
      · obtain ⟨rfl, hye⟩ := hyk
        rw [← hye, uh_rc, j3 (dgN x k) k hd hk, if_neg (by omega), if_pos ⟨by omega, Nat.beq_refl _⟩]
        omega
      · rw [uh_ro _ _ _ _ (by omega), j3 y k hy hk]
        by_cases hki : k < i ∧ Nat.beq (dgN x k) y = true
        · rw [if_pos hki, if_pos ⟨by omega, hki.2⟩]
        · rw [if_neg hki, if_neg (fun q => hki ⟨by
            by_cases hkk : k = i
            · subst hkk; exact absurd ⟨rfl, bq_t q.2⟩ hyk
            · omega, q.2⟩)]) (by
    rintro ⟨z, t⟩ ⟨j1, j2, j3⟩
    replace j1 : z = (c : Int) := j1
    replace j2 : ∀ P, P ≠ 133 → t P = s P := j2
    replace j3 : ∀ y k, y < 8 → k < c → t 133 (8 * y + k) = s 133 (8 * y + k) + if k < c ∧ Nat.beq (dgN x k) y = true then 1 else 0 := j3
    subst j1
    refine ⟨((c : Int), t), ?_, j2, fun y k hy hk => ?_⟩
    · show xb_countLayers_b2 t (x : Int) (c : Int) = _
      unfold xb_countLayers_b2
      rw [j2 130 (by decide), hc, if_neg (by omega)]
    · show t 133 (8 * y + k) = _
      rw [j3 y k hy hk]
      by_cases hq : Nat.beq (dgN x k) y = true
      · rw [if_pos ⟨hk, hq⟩, if_pos hq]
      · rw [if_neg (fun q => hq q.2), if_neg hq]) (s := (0, s)) ⟨rfl, fun _ _ => rfl, fun y k _ _ => (by show s 133 (8 * y + k) = _; rw [if_neg (by omega), Int.add_zero])⟩
  rw [e1]
  exact ⟨r.2, rfl, e2, e3⟩
theorem bk_clear : ∃ t, xb_clearTally s = some t ∧ (∀ P, P ≠ 133 → t P = s P) ∧ ∀ i, i < 128 → t 133 i = 0 := by
  unfold xb_clearTally
  obtain ⟨r, e1, e2, e3⟩ := lp_forR (B := fun (q : Int × Hp) => xb_clearTally_b2 q.2 q.1) (fun i (q : Int × Hp) => q.1 = (i : Int) ∧ (∀ P, P ≠ 133 → q.2 P = s P) ∧ ∀ j, j < i → q.2 133 j = 0) 128 (fun q : Int × Hp => (∀ P, P ≠ 133 → q.2 P = s P) ∧ ∀ j, j < 128 → q.2 133 j = 0) (by
    rintro i ⟨z, t⟩ hi ⟨j1, j2, j3⟩
    replace j1 : z = (i : Int) := j1
    replace j2 : ∀ P, P ≠ 133 → t P = s P := j2
    replace j3 : ∀ j, j < i → t 133 j = 0 := j3
    subst j1
    show ∃ q1, xb_clearTally_b2 t (i : Int) = some (Sum.inl q1) ∧ _
    unfold xb_clearTally_b2
    rw [w32_eq (x := (i : Int)) (by omega) (by omega), if_pos (by rw [show w32 128 = 128 by decide]; omega), ixt (n := 128) (j := (i : Int)) i rfl hi (by decide)]
    simp only [obs]
    refine ⟨_, rfl, by show (i : Int) + 1 = _; omega, fun P hP => ?_, fun j hj => ?_⟩
    · show uh t 133 i 0 P = _
      rw [uh_row hP]; exact j2 P hP
    · show uh t 133 i 0 133 j = _
      by_cases hji : j = i
      · subst hji; rw [uh_rc]
      · rw [uh_ro _ _ _ _ hji]; exact j3 j (by omega)) (by
    rintro ⟨z, t⟩ ⟨j1, j2, j3⟩
    replace j1 : z = ((128 : Nat) : Int) := j1
    subst j1
    refine ⟨_, ?_, j2, j3⟩
    show xb_clearTally_b2 t ((128 : Nat) : Int) = _
    unfold xb_clearTally_b2
    rw [if_neg (by decide)]) (s := (0, s)) ⟨rfl, fun _ _ => rfl, fun j hj => by omega⟩
  rw [e1]
  exact ⟨r.2, rfl, e2, e3⟩
theorem bk_marked {mk : Nat → Int} {kd : Int} (hc : s 130 2 = (c : Int)) (c8 : c ≤ 8) (hk : 0 ≤ kd ∧ kd ≤ 2) (hm : ∀ j, j + 1 < c → s 35 j = mk j ∧ 0 ≤ mk j ∧ mk j ≤ 2) : xb_markedAs s kd = some ((bts (fun j => mk j = kd) (c - 1) : Nat) : Int) := by
  unfold xb_markedAs
  refine Eq.trans (lpb_for (fun i => (((bts (fun j => mk j = kd) i : Nat) : Int), (i : Int))) (c - 1) (r := (((bts (fun j => mk j = kd) (c - 1) : Nat) : Int), ((c - 1 : Nat) : Int))) rfl (fun i hi => ?_) ?_) rfl
  · have hmi := hm i (by omega)
    have hb := bts_lt (fun j => mk j = kd) i
    have h2 : 2 ^ i ≤ 2 ^ 8 := Nat.pow_le_pow_right (by decide) (by omega)
    show xb_markedAs_b5 s kd ((bts (fun j => mk j = kd) i : Nat) : Int) (i : Int) = _
    unfold xb_markedAs_b5
    rw [hc, w32_eq (x := (i : Int)) (by omega) (by omega), w32_eq (x := (c : Int) - 1) (by omega) (by omega), if_pos (by omega), if_pos (by rw [show w32 8 = 8 by decide]; omega), ixt i rfl (by omega) (by decide)]
    simp only [obs]
    rw [hmi.1, w32_eq (x := mk i) (by omega) (by omega), w32_eq (x := kd) (by omega) (by omega), bor_bit (by omega) hb]
    show _ = some (Sum.inl (((bts (fun j => mk j = kd) i + if mk i = kd then 2 ^ i else 0 : Nat) : Int), ((i + 1 : Nat) : Int)))
    by_cases hp : mk i = kd
    · rw [if_pos hp, if_pos hp]; rfl
    · rw [if_neg hp, if_neg hp]; rfl
  · show xb_markedAs_b5 s kd ((bts (fun j => mk j = kd) (c - 1) : Nat) : Int) ((c - 1 : Nat) : Int) = _
    unfold xb_markedAs_b5
    rw [hc, w32_eq (x := ((c - 1 : Nat) : Int)) (by omega) (by omega), w32_eq (x := (c : Int) - 1) (by omega) (by omega), if_neg (by omega)]
theorem bts_or {mk : Nat → Int} {N : Nat} (hm : ∀ j, j < N → 0 ≤ mk j ∧ mk j ≤ 2) : bts (fun j => mk j = 1) N ||| bts (fun j => mk j = 2) N = bts (fun j => mk j ≠ 0) N := by
  apply Nat.eq_of_testBit_eq
  intro j
  rw [Nat.testBit_or, bts_bit, bts_bit, bts_bit]
  by_cases hj : j < N
  · have := hm j hj
    have h3 : mk j = 0 ∨ mk j = 1 ∨ mk j = 2 := by omega
    rcases h3 with h | h | h
    · simp [h, hj]
    · simp [h, hj]
    · simp [h, hj]
  · simp [hj]
/-- what the class has counted of the codes L -/
def RC (c J H : Nat) (t : Hp) (L : List Nat) : Prop :=
  t 130 5 = ((L.countP (chB J H) : Nat) : Int) ∧ (∀ x k, x < 8 → k < c → t 133 (8 * x + k) = ((L.countP (fun y => chB J H y && Nat.beq (dgN y k) x) : Nat) : Int)) ∧ ∃ m : Nat, t 130 6 = (m : Int) ∧ m < 2147483648 ∧ (∀ x, x ∈ L → chB J H x = true → m ≤ x) ∧ (m = 2147483647 ∨ (m ∈ L ∧ chB J H m = true))
theorem bk_choose {mk : Nat → Int} (bo : BookR s) (h2 : 2 ≤ c) (c8 : c ≤ 8) (hm : ∀ j, j + 1 < c → s 35 j = mk j ∧ 0 ≤ mk j ∧ mk j ≤ 2) : ∃ t, xb_choose s (c : Int) = some t ∧ RC c (mkJ mk c) (mkH mk c) t (stkL c) ∧ (∀ P, P ≠ 130 → P ≠ 131 → P ≠ 132 → P ≠ 133 → t P = s P) ∧ t 130 2 = (c : Int) ∧ BookR t := by
  have hlen := stk_len h2 c8
  unfold xb_choose
  obtain ⟨a, a1, a2, a3, a4, a5⟩ := bk_rows bo h2 c8
  rw [a1]
  simp only [obs]
  obtain ⟨b, b1, b2, b3⟩ := bk_clear (s := a)
  rw [b1]
  simp only [obs]
  have hcb' : b 130 2 = (c : Int) := by rw [b2 130 (by decide)]; exact a3
  have hmb : ∀ j, j + 1 < c → b 35 j = mk j ∧ 0 ≤ mk j ∧ mk j ≤ 2 := fun j hj => by rw [b2 35 (by decide), a2 35 (by decide) (by decide) (by decide)]; exact hm j hj
  rw [bk_marked hcb' c8 (by decide) hmb, bk_marked hcb' c8 (by decide) hmb]
  simp only [obs]
  have hJ1 := bts_8 (P := fun j => mk j = 1) (n := c - 1) (by omega)
  have hJ2 := bts_8 (P := fun j => mk j = 2) (n := c - 1) (by omega)
  have hJ3 := bts_8 (P := fun j => mk j ≠ 0) (n := c - 1) (by omega)
  rw [bOr_n (by omega) (by omega), bts_or (fun j hj => (hm j (by omega)).2)]
  have eJ : bts (fun j => mk j ≠ 0) (c - 1) = mkJ mk c := rfl
  have eH : bts (fun j => mk j = 2) (c - 1) = mkH mk c := rfl
  rw [eJ] at hJ3 ⊢
  rw [eH] at hJ2 ⊢
  generalize mkJ mk c = J at hJ3
  generalize mkH mk c = H at hJ2
  obtain ⟨r, e1, e2, e3, e4⟩ := lp_forR (B := fun (q : Int × Hp) => xb_choose_b45 q.2 ((J : Nat) : Int) ((H : Nat) : Int) q.1) (fun i (q : Int × Hp) => q.1 = (i : Int) ∧ RC c J H q.2 (tkL (stkL c) i) ∧ (∀ P, P ≠ 130 → P ≠ 133 → q.2 P = b P) ∧ ∀ q1, q1 ≠ 5 → q1 ≠ 6 → q.2 130 q1 = b 130 q1) (stkL c).length (fun q : Int × Hp => RC c J H q.2 (tkL (stkL c) (stkL c).length) ∧ (∀ P, P ≠ 130 → P ≠ 133 → q.2 P = b P) ∧ ∀ q1, q1 ≠ 5 → q1 ≠ 6 → q.2 130 q1 = b 130 q1) (by
    rintro i ⟨z, t⟩ hi ⟨j1, j2, j3, j4⟩
    replace j1 : z = (i : Int) := j1
    replace j2 : RC c J H t (tkL (stkL c) i) := j2
    replace j3 : ∀ P, P ≠ 130 → P ≠ 133 → t P = b P := j3
    replace j4 : ∀ q1, q1 ≠ 5 → q1 ≠ 6 → t 130 q1 = b 130 q1 := j4
    subst j1
    have hbd := stk_bd h2 c8 (gd_mem hi)
    have et : t 131 i = (((stkL c).getD i 0 : Nat) : Int) := by rw [j3 131 (by decide) (by decide), b2 131 (by decide)]; exact a5 i hi
    have en : t 130 1 = ((stkL c).length : Int) := by rw [j4 1 (by decide) (by decide), b2 130 (by decide)]; exact a4
    have tks := tk_s (l := stkL c) (i := i)
    generalize (stkL c).getD i 0 = x at hbd et tks
    have hxJ : x &&& J < 256 := Nat.lt_of_le_of_lt Nat.and_le_right hJ3
    obtain ⟨c1, c2, mm, m1, m2, m3, m4⟩ := j2
    show ∃ q1, xb_choose_b45 t ((J : Nat) : Int) ((H : Nat) : Int) (i : Int) = some (Sum.inl q1) ∧ _
    unfold xb_choose_b45
    rw [en, w32_eq (x := (i : Int)) (by omega) (by omega), w32_eq (x := ((stkL c).length : Int)) (by omega) (by omega), if_pos (by omega), ixt (n := 1392) (j := (i : Int)) i rfl (by omega) (by decide)]
    simp only [obs]
    rw [et, bAnd_n (by omega) (by omega), w32_eq (x := ((x &&& J : Nat) : Int)) (by omega) (by omega), w32_eq (x := ((H : Nat) : Int)) (by omega) (by omega)]
    by_cases hch : x &&& J = H
    · have hcb : chB J H x = true := by
        unfold chB
        rw [hch]
        exact Nat.beq_refl H
      rw [if_pos (by omega)]
      generalize hT : uh (uh t 130 5 (t 130 5 + 1)) 130 6 (mnI (uh t 130 5 (t 130 5 + 1) 130 6) (uh t 130 5 (t 130 5 + 1) 131 i)) = T
      have T0 : ∀ P, P ≠ 130 → T P = t P := fun P hP => by rw [← hT, uh_row hP, uh_row hP]
      have T6 : T 130 6 = (((if x < mm then x else mm) : Nat) : Int) := by
        rw [← hT, uh_rc, uh_ro _ _ _ _ (by decide), uh_row (by decide), m1, et, mn_eq (by omega) (by omega) (by omega) (by omega)]
        split <;> split <;> omega
      have T5 : T 130 5 = t 130 5 + 1 := by rw [← hT, uh_ro _ _ _ _ (by decide), uh_rc]
      have Tq : ∀ q, q ≠ 5 → q ≠ 6 → T 130 q = t 130 q := fun q h5 h6 => by rw [← hT, uh_ro _ _ _ _ h6, uh_ro _ _ _ _ h5]
      have e131 : T 131 i = ((x : Nat) : Int) := by rw [T0 131 (by decide)]; exact et
      rw [e131]
      obtain ⟨v, v1, v2, v3⟩ := bk_layers (s := T) (c := c) (x := x) (by rw [Tq 2 (by decide) (by decide), j4 2 (by decide) (by decide)]; exact hcb') c8 hbd.1
      rw [v1]
      simp only [obs]
      refine ⟨_, rfl, by show (i : Int) + 1 = _; omega, ⟨?_, fun y k hy hk => ?_, if x < mm then x else mm, ?_, ?_, fun y hy hyc => ?_, ?_⟩, fun P p1 p2 => ?_, fun q p1 p2 => ?_⟩
      · show v 130 5 = _
        rw [v2 130 (by decide), T5, c1, tks, cnt1, if_pos hcb]
        omega
      · show v 133 (8 * y + k) = _
        rw [v3 y k hy hk, T0 133 (by decide), c2 y k hy hk, tks, cnt1, hcb, Bool.true_and]
        split <;> omega
      · show v 130 6 = _
        rw [v2 130 (by decide)]; exact T6
      · split <;> omega
      · rw [tks] at hy
        rcases List.mem_append.mp hy with h | h
        · have := m3 y h hyc
          split <;> omega
        · rw [List.mem_singleton] at h
          split <;> omega
      · rw [tks]
        by_cases hxm : x < mm
        · rw [if_pos hxm]
          exact Or.inr ⟨List.mem_append_right _ (List.mem_singleton.mpr rfl), hcb⟩
        · rw [if_neg hxm]
          rcases m4 with h | ⟨h, h3⟩
          · exact Or.inl h
          · exact Or.inr ⟨List.mem_append_left _ h, h3⟩
      · show v P = _
        rw [v2 P p2, T0 P p1]; exact j3 P p1 p2
      · show v 130 q = _
        rw [v2 130 (by decide), Tq q p1 p2]; exact j4 q p1 p2
    · have hcb : ¬ chB J H x = true := fun q => hch (bq_t q)
      rw [if_neg (by omega)]
      refine ⟨_, rfl, by show (i : Int) + 1 = _; omega, ⟨?_, fun y k hy hk => ?_, mm, m1, m2, fun y hy hyc => ?_, ?_⟩, j3, j4⟩
      · show t 130 5 = _
        rw [c1, tks, cnt1, if_neg hcb]
        rfl
      · show t 133 (8 * y + k) = _
        rw [c2 y k hy hk, tks, cnt1, if_neg (by rw [Bool.and_eq_true]; exact fun q => hcb q.1)]
        rfl
      · rw [tks] at hy
        rcases List.mem_append.mp hy with h | h
        · exact m3 y h hyc
        · rw [List.mem_singleton] at h
          subst h
          exact absurd hyc hcb
      · rw [tks]
        rcases m4 with h | ⟨h, h3⟩
        · exact Or.inl h
        · exact Or.inr ⟨List.mem_append_left _ h, h3⟩) (by
    rintro ⟨z, t⟩ ⟨j1, j2, j3, j4⟩
    replace j1 : z = ((stkL c).length : Int) := j1
    replace j4 : ∀ q1, q1 ≠ 5 → q1 ≠ 6 → t 130 q1 = b 130 q1 := j4
    subst j1
    refine ⟨_, ?_, j2, j3, j4⟩
    show xb_choose_b45 t ((J : Nat) : Int) ((H : Nat) : Int) ((stkL c).length : Int) = _
    unfold xb_choose_b45
    rw [j4 1 (by decide) (by decide), b2 130 (by decide), a4, if_neg (by omega)]) (s := (0, uh (uh b 130 5 0) 130 6 2147483647)) ⟨rfl, ⟨(by show uh (uh b 130 5 0) 130 6 2147483647 130 5 = _; rw [uh_ro _ _ _ _ (by decide), uh_rc]; rfl), fun y k hy hk => (by show uh (uh b 130 5 0) 130 6 2147483647 133 (8 * y + k) = _; rw [uh_row (by decide), uh_row (by decide), b3 _ (by omega)]; rfl), 2147483647, (by show uh (uh b 130 5 0) 130 6 2147483647 130 6 = _; rw [uh_rc]; rfl), by decide, fun y hy => (by cases hy), Or.inl rfl⟩, fun P p1 _ => (by show uh (uh b 130 5 0) 130 6 2147483647 P = _; rw [uh_row p1, uh_row p1]), fun q p1 p2 => (by show uh (uh b 130 5 0) 130 6 2147483647 130 q = _; rw [uh_ro _ _ _ _ p2, uh_ro _ _ _ _ p1])⟩
  obtain ⟨z, t⟩ := r
  replace e3 : ∀ P, P ≠ 130 → P ≠ 133 → t P = b P := e3
  replace e4 : ∀ q1, q1 ≠ 5 → q1 ≠ 6 → t 130 q1 = b 130 q1 := e4
  rw [tk_all] at e2
  rw [e1]
  have t2 : t 130 2 = (c : Int) := by rw [e4 2 (by decide) (by decide)]; exact hcb'
  refine ⟨t, rfl, e2, fun P p1 p2 p3 p4 => by rw [e3 P p1 p4, b2 P p4, a2 P p1 p2 p3], t2, c, t2, c8, fun _ => ⟨by rw [e4 1 (by decide) (by decide), b2 130 (by decide)]; exact a4, fun i hi => by rw [e3 131 (by decide) (by decide), b2 131 (by decide)]; exact a5 i hi⟩⟩
end CH
