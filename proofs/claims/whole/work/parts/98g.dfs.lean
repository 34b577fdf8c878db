/-! all rows of cells: the reference -/
def tlS (g : Nat → List Nat) : Nat → Nat → List Nat
  | _, 0 => []
  | f, j + 1 => g f ++ tlS g (f + 1) j
theorem tl_sn {g : Nat → List Nat} : ∀ {j f : Nat}, tlS g f (j + 1) = tlS g f j ++ g (f + j)
  | 0, f => by
    show g f ++ [] = [] ++ g (f + 0)
    rw [List.append_nil]
    rfl
  | j + 1, f => by
    show g f ++ tlS g (f + 1) (j + 1) = (g f ++ tlS g (f + 1) j) ++ g (f + (j + 1))
    rw [tl_sn (j := j) (f := f + 1), List.append_assoc, show f + 1 + j = f + (j + 1) by omega]
theorem tl_fm {g : Nat → List Nat} : ∀ c, (List.range c).flatMap g = tlS g 0 c
  | 0 => rfl
  | c + 1 => by rw [fm_su, tl_fm c, tl_sn, Nat.zero_add]
def gTr (c r : Nat) (pre : List Nat) : Nat → List Nat := fun x => if ctN x pre = true then [] else refT c r (pre ++ [x])
theorem ref_s (c r : Nat) (pre : List Nat) : refT c (r + 1) pre = tlS (gTr c r pre) 0 c := tl_fm (g := gTr c r pre) c
theorem RS_cg {c J H : Nat} {u v : Hp} {L : List Nat} (h : RS c J H u L) (h1 : v 146 33 = u 146 33) (h2 : v 165 = u 165) (h3 : v 166 = u 166) (h4 : v 167 = u 167) : RS c J H v L := by
  obtain ⟨a1, a2, a3, a4⟩ := h
  exact ⟨by rw [h1]; exact a1, fun q hq => by rw [h4]; exact a2 q hq, fun x k hx hk => by rw [h3]; exact a3 x k hx hk, fun f hf k hk => by rw [h2]; exact a4 f hf k hk⟩
theorem FS_tr {M u v : Hp} (h : FS M u) (g : FS u v) : FS M v := ⟨fun P p1 p2 p3 p4 p5 p6 => (g.1 P p1 p2 p3 p4 p5 p6).trans (h.1 P p1 p2 p3 p4 p5 p6), fun q hq => (g.2 q hq).trans (h.2 q hq)⟩
theorem FS_163 {M u : Hp} {i : Nat} {v : Int} (h : FS M u) : FS M (uh u 163 i v) := ⟨fun P p1 p2 p3 p4 p5 p6 => by rw [uh_row p2]; exact h.1 P p1 p2 p3 p4 p5 p6, fun q hq => by rw [uh_row (by decide)]; exact h.2 q hq⟩
theorem ct_get {x : Nat} {pre : List Nat} : ctN x pre = true ↔ ¬ ∀ i, i < pre.length → pre.getD i 0 ≠ x := by
  rw [ct_mem]
  constructor
  · intro h hall
    obtain ⟨k, hk, hkx⟩ := List.getElem_of_mem h
    refine hall k hk ?_
    rw [List.getD_eq_getElem?_getD, List.getElem?_eq_getElem hk]
    exact hkx
  · intro h
    obtain ⟨i, h1, h2, -⟩ := first_no h
    have h2 : pre.getD i 0 = x := by
      by_cases e : pre.getD i 0 = x
      · exact e
      · exact absurd e h2
    rw [← h2, List.getD_eq_getElem?_getD, List.getElem?_eq_getElem h1]
    exact List.getElem_mem h1
theorem rm_isUsed {u : Hp} {k x : Nat} {pre : List Nat} (hk : k ≤ 8) (hlen : pre.length = k) (hu : ∀ i, i < k → u 163 i = ((pre.getD i 0 : Nat) : Int) ∧ pre.getD i 0 < 8) (hx : x < 8) : xm_isUsed u (k : Int) (x : Int) = some (if ctN x pre = true then 1 else 0) := by
  have key : xm_isUsed u (k : Int) (x : Int) = if ∀ i, i < k → pre.getD i 0 ≠ x then some 0 else some 1 := by
    unfold xm_isUsed
    refine Eq.trans (lpb_all (fun i => (i : Int)) k (fun i => pre.getD i 0 ≠ x) (r := .inl (k : Int)) (v := .inr 1) rfl (fun i hi => ?_) ?_) rfl
    · obtain ⟨a1, a2⟩ := hu i hi
      show xm_isUsed_b2 u (k : Int) (x : Int) (i : Int) = _
      unfold xm_isUsed_b2
      rw [w32_eq (x := (i : Int)) (by omega) (by omega), w32_eq (x := (k : Int)) (by omega) (by omega), if_pos (by omega), ixt (n := 8) (j := (i : Int)) i rfl (by omega) (by decide)]
      simp only [obs]
      rw [a1, w32_eq (x := ((pre.getD i 0 : Nat) : Int)) (by omega) (by omega), w32_eq (x := (x : Int)) (by omega) (by omega)]
      by_cases q : pre.getD i 0 = x
      · rw [if_pos (by omega), if_neg (fun k => k q)]
      · rw [if_neg (by omega), if_pos q]; rfl
    · show xm_isUsed_b2 u (k : Int) (x : Int) (k : Int) = _
      unfold xm_isUsed_b2
      rw [if_neg (by omega)]
  rw [key]
  have e := ct_get (x := x) (pre := pre)
  rw [hlen] at e
  by_cases hq : ∀ i, i < k → pre.getD i 0 ≠ x
  · rw [if_pos hq, if_neg (fun k => (e.mp k) hq)]
  · rw [if_neg hq, if_pos (e.mpr hq)]
section FD1
variable {M : Hp} {c : Nat} {mk : Nat → Int}
theorem fs_main (hc : M 156 0 = (c : Int)) (h1 : 1 ≤ c) (c8 : c ≤ 8) (hm : ∀ j, j + 1 < c → M 156 (82 + j) = mk j ∧ 0 ≤ mk j ∧ mk j ≤ 2) : ∀ (r k : Nat), k + r + 1 = c → ∀ (j f : Nat) (pre L : List Nat) (u : Hp), f + j = c → pre.length = k → pre.Nodup → (∀ y, y ∈ pre → y < c) → (∀ i, i < k → u 163 i = ((pre.getD i 0 : Nat) : Int)) → u 163 k = (f : Int) - 1 → RS c (mkJ mk c) (mkH mk c) u L → FS M u → L.length + (tlS (gTr c r pre) f j).length ≤ 2000 → ∃ u', lp (fun (q : Int × Hp) => xm_findsStacks_b57 q.2 q.1) ((k : Int), u) = lp (fun (q : Int × Hp) => xm_findsStacks_b57 q.2 q.1) ((k : Int) - 1, u') ∧ RS c (mkJ mk c) (mkH mk c) u' (L ++ tlS (gTr c r pre) f j) ∧ FS M u' ∧ ∀ i, i < k → u' 163 i = u 163 i := by
  -- one try, by what the subtree does
  have body : ∀ (r k : Nat), k + r + 1 = c → (∀ (f : Nat) (pre L : List Nat) (u : Hp), f < c → pre.length = k → pre.Nodup → (∀ y, y ∈ pre → y < c) → ¬ ctN f pre = true → (∀ i, i < k → u 163 i = ((pre.getD i 0 : Nat) : Int)) → u 163 k = (f : Int) → RS c (mkJ mk c) (mkH mk c) u L → FS M u → L.length + (refT c r (pre ++ [f])).length ≤ 2000 → ∃ v, (if w32 ((k : Int) + 1) = w32 (u 156 0) then (xm_keepsStack u).bind fun o23 => some (.inl ((k : Int), o23)) else (ix 8 ((k : Int) + 1)).bind fun i17 => some (.inl ((k : Int) + 1, uh u 163 i17 (-1))) : Option ((Int × Hp) ⊕ (Int × Hp))).bind (fun o => o.elim (fun s1 => lp (fun (q : Int × Hp) => xm_findsStacks_b57 q.2 q.1) s1) some) = lp (fun (q : Int × Hp) => xm_findsStacks_b57 q.2 q.1) ((k : Int), v) ∧ RS c (mkJ mk c) (mkH mk c) v (L ++ refT c r (pre ++ [f])) ∧ FS M v ∧ ∀ i, i ≤ k → v 163 i = u 163 i) → ∀ (j f : Nat) (pre L : List Nat) (u : Hp), f + j = c → pre.length = k → pre.Nodup → (∀ y, y ∈ pre → y < c) → (∀ i, i < k → u 163 i = ((pre.getD i 0 : Nat) : Int)) → u 163 k = (f : Int) - 1 → RS c (mkJ mk c) (mkH mk c) u L → FS M u → L.length + (tlS (gTr c r pre) f j).length ≤ 2000 → ∃ u', lp (fun (q : Int × Hp) => xm_findsStacks_b57 q.2 q.1) ((k : Int), u) = lp (fun (q : Int × Hp) => xm_findsStacks_b57 q.2 q.1) ((k : Int) - 1, u') ∧ RS c (mkJ mk c) (mkH mk c) u' (L ++ tlS (gTr c r pre) f j) ∧ FS M u' ∧ ∀ i, i < k → u' 163 i = u 163 i := by
    intro r k hk sub j
    induction j with
    | zero =>
      intro f pre L u hf hlen nd hlt hpre hu rs fs hL
      refine ⟨uh u 163 k (f : Int), lp_in ?_, ?_, FS_163 fs, fun i hi => uh_ro _ _ _ _ (by omega)⟩
      · show xm_findsStacks_b57 u (k : Int) = _
        unfold xm_findsStacks_b57
        rw [w32_eq (x := (k : Int)) (by omega) (by omega), if_neg (by omega), ixt (n := 8) (j := (k : Int)) k rfl (by omega) (by decide), ix0 (by decide) (by decide)]
        simp only [obs]
        rw [hu, show (f : Int) - 1 + 1 = (f : Int) by omega, uh_rc, uh_row (by decide), fs.1 156 (by decide) (by decide) (by decide) (by decide) (by decide) (by decide), hc, w32_eq (x := (f : Int)) (by omega) (by omega), w32_eq (x := (c : Int)) (by omega) (by omega), if_neg (by omega)]
        rfl
      · show RS c (mkJ mk c) (mkH mk c) _ (L ++ [])
        rw [List.append_nil]
        exact RS_cg rs (by rw [uh_row (by decide)]) (uh_row (by decide)) (uh_row (by decide)) (uh_row (by decide))
    | succ j ih =>
      intro f pre L u hf hlen nd hlt hpre hu rs fs hL
      have el : tlS (gTr c r pre) f (j + 1) = gTr c r pre f ++ tlS (gTr c r pre) (f + 1) j := rfl
      rw [el] at hL ⊢
      rw [List.length_append] at hL
      rw [← List.append_assoc]
      -- the cell is put there
      have u1s : ∀ i, i < k → uh u 163 k (f : Int) 163 i = ((pre.getD i 0 : Nat) : Int) := fun i hi => by rw [uh_ro _ _ _ _ (by omega)]; exact hpre i hi
      have rs1 : RS c (mkJ mk c) (mkH mk c) (uh u 163 k (f : Int)) L := RS_cg rs (by rw [uh_row (by decide)]) (uh_row (by decide)) (uh_row (by decide)) (uh_row (by decide))
      have fs1 : FS M (uh u 163 k (f : Int)) := FS_163 fs
      have w156 : uh u 163 k (f : Int) 156 0 = (c : Int) := by rw [uh_row (by decide), fs.1 156 (by decide) (by decide) (by decide) (by decide) (by decide) (by decide)]; exact hc
      have hus := rm_isUsed (u := uh u 163 k (f : Int)) (k := k) (x := f) (pre := pre) (by omega) hlen (fun i hi => ⟨u1s i hi, by
        have : pre.getD i 0 ∈ pre := by
          have hi2 : i < pre.length := by omega
          rw [List.getD_eq_getElem?_getD, List.getElem?_eq_getElem hi2]
          exact List.getElem_mem hi2
        have := hlt _ this
        omega⟩) (by omega)
      have hb : xm_findsStacks_b57 u (k : Int) = if ctN f pre = true then some (.inl ((k : Int), uh u 163 k (f : Int))) else (if w32 ((k : Int) + 1) = w32 (uh u 163 k (f : Int) 156 0) then (xm_keepsStack (uh u 163 k (f : Int))).bind fun o23 => some (.inl ((k : Int), o23)) else (ix 8 ((k : Int) + 1)).bind fun i17 => some (.inl ((k : Int) + 1, uh (uh u 163 k (f : Int)) 163 i17 (-1)))) := by
        unfold xm_findsStacks_b57
        rw [w32_eq (x := (k : Int)) (by omega) (by omega), if_neg (by omega), ixt (n := 8) (j := (k : Int)) k rfl (by omega) (by decide), ix0 (by decide) (by decide)]
        simp only [obs]
        rw [hu, show (f : Int) - 1 + 1 = (f : Int) by omega, uh_rc, w156, w32_eq (x := (f : Int)) (by omega) (by omega), w32_eq (x := (c : Int)) (by omega) (by omega), if_pos (by omega), hus]
        simp only [obs]
        by_cases hct : ctN f pre = true
        · rw [if_pos hct, if_neg (by decide), if_pos hct]
        · rw [if_neg hct, if_pos (by decide), if_neg hct]
      by_cases hct : ctN f pre = true
      · have eg : gTr c r pre f = [] := by
          unfold gTr
          rw [if_pos hct]
        rw [eg] at hL ⊢
        rw [List.append_nil]
        rw [if_pos hct] at hb
        obtain ⟨u', e1, e2, e3, e4⟩ := ih (f + 1) pre L (uh u 163 k (f : Int)) (by omega) hlen nd hlt u1s (by rw [uh_rc]; omega) rs1 fs1 (by
          have : ([] : List Nat).length = 0 := rfl
          omega)
        exact ⟨u', by rw [lp_in (B := fun (q : Int × Hp) => xm_findsStacks_b57 q.2 q.1) (s := ((k : Int), u)) (s1 := ((k : Int), uh u 163 k (f : Int))) hb]; exact e1, e2, e3, fun i hi => by rw [e4 i hi, uh_ro _ _ _ _ (by omega)]⟩
      · have eg : gTr c r pre f = refT c r (pre ++ [f]) := by
          unfold gTr
          rw [if_neg hct]
        rw [eg] at hL ⊢
        rw [if_neg hct] at hb
        obtain ⟨v, v1, v2, v3, v4⟩ := sub f pre L (uh u 163 k (f : Int)) (by omega) hlen nd hlt hct u1s (uh_rc _ _ _ _) rs1 fs1 (by omega)
        obtain ⟨u', e1, e2, e3, e4⟩ := ih (f + 1) pre (L ++ refT c r (pre ++ [f])) v (by omega) hlen nd hlt (fun i hi => by rw [v4 i (by omega)]; exact u1s i hi) (by rw [v4 k (Nat.le_refl _), uh_rc]; omega) v2 v3 (by rw [List.length_append]; omega)
        refine ⟨u', ?_, e2, e3, fun i hi => by rw [e4 i hi, v4 i (by omega), uh_ro _ _ _ _ (by omega)]⟩
        rw [lp_un (fun (q : Int × Hp) => xm_findsStacks_b57 q.2 q.1) ((k : Int), u)]
        show (xm_findsStacks_b57 u (k : Int)).bind _ = _
        rw [hb, v1]
        exact e1
  intro r
  induction r with
  | zero =>
    intro k hk
    refine body 0 k hk (fun f pre L u hf hlen nd hlt hct hpre hu rs fs hL => ?_)
    have w156 : u 156 0 = (c : Int) := by rw [fs.1 156 (by decide) (by decide) (by decide) (by decide) (by decide) (by decide)]; exact hc
    have hrow : RW c (pre ++ [f]) := by
      refine ⟨by rw [List.length_append, hlen]; show k + 1 = c; omega, List.nodup_append.mpr ⟨nd, List.nodup_cons.mpr ⟨List.not_mem_nil, List.nodup_nil⟩, fun a ha b hb e => ?_⟩, fun y hy => ?_⟩
      · rw [List.mem_singleton] at hb
        subst hb
        subst e
        exact hct (ct_mem.mpr ha)
      · rcases List.mem_append.mp hy with h | h
        · exact hlt y h
        · rw [List.mem_singleton] at h
          omega
    obtain ⟨v, v1, v2, v3, v4⟩ := rm_leaf (mk := mk) (row := pre ++ [f]) w156 h1 c8 (fun j hj => by rw [fs.1 156 (by decide) (by decide) (by decide) (by decide) (by decide) (by decide)]; exact hm j hj) hrow (fun i hi => by
      by_cases hik : i < k
      · rw [gd_l (by omega)]; exact hpre i hik
      · have : i = k := by omega
        subst this
        rw [gd_r (by omega), hlen, Nat.sub_self, hu]
        rfl) rs (by omega)
    refine ⟨v, ?_, v2, FS_tr fs v3, fun i _ => by rw [v4]⟩
    rw [w156, w32_eq (x := (k : Int) + 1) (by omega) (by omega), w32_eq (x := (c : Int)) (by omega) (by omega), if_pos (by omega), v1]
    rfl
  | succ r ihr =>
    intro k hk
    refine body (r + 1) k hk (fun f pre L u hf hlen nd hlt hct hpre hu rs fs hL => ?_)
    have w156 : u 156 0 = (c : Int) := by rw [fs.1 156 (by decide) (by decide) (by decide) (by decide) (by decide) (by decide)]; exact hc
    have hpre2 : ∀ i, i < k + 1 → uh u 163 (k + 1) (-1) 163 i = (((pre ++ [f]).getD i 0 : Nat) : Int) := fun i hi => by
      rw [uh_ro _ _ _ _ (by omega)]
      by_cases hik : i < k
      · rw [gd_l (by omega)]; exact hpre i hik
      · have : i = k := by omega
        subst this
        rw [gd_r (by omega), hlen, Nat.sub_self, hu]
        rfl
    obtain ⟨u', e1, e2, e3, e4⟩ := ihr (k + 1) (by omega) c 0 (pre ++ [f]) L (uh u 163 (k + 1) (-1)) (by omega) (by rw [List.length_append, hlen]; rfl) (List.nodup_append.mpr ⟨nd, List.nodup_cons.mpr ⟨List.not_mem_nil, List.nodup_nil⟩, fun a ha b hb e => by
      rw [List.mem_singleton] at hb
      subst hb
      subst e
      exact hct (ct_mem.mpr ha)⟩) (fun y hy => by
      rcases List.mem_append.mp hy with h | h
      · exact hlt y h
      · rw [List.mem_singleton] at h
        omega) hpre2 (by rw [uh_rc]; rfl) (RS_cg rs (by rw [uh_row (by decide)]) (uh_row (by decide)) (uh_row (by decide)) (uh_row (by decide))) (FS_163 fs) (by rw [← ref_s]; exact hL)
    rw [← ref_s] at e2
    refine ⟨u', ?_, e2, e3, fun i hi => by rw [e4 i (by omega), uh_ro _ _ _ _ (by omega)]⟩
    rw [w156, w32_eq (x := (k : Int) + 1) (by omega) (by omega), w32_eq (x := (c : Int)) (by omega) (by omega), if_neg (by omega), ixt (n := 8) (j := (k : Int) + 1) (k + 1) (by omega) (by omega) (by decide)]
    rw [show ((k + 1 : Nat) : Int) - 1 = (k : Int) by omega, show ((k + 1 : Nat) : Int) = (k : Int) + 1 by omega] at e1
    exact e1
/-- all stacks are found -/
theorem fs_all (hc : M 156 0 = (c : Int)) (h2 : 2 ≤ c) (c8 : c ≤ 8) (hm : ∀ j, j + 1 < c → M 156 (82 + j) = mk j ∧ 0 ≤ mk j ∧ mk j ≤ 2) : ∃ v, xm_findsStacks M = some v ∧ RS c (mkJ mk c) (mkH mk c) v (refL c) ∧ FS M v := by
  have hlen : (refL c).length ≤ 1392 := by
    rw [← (stk_perm h2 c8).1.length_eq]
    exact stk_len h2 c8
  unfold xm_findsStacks
  simp only [obs]
  obtain ⟨A, e1, e2, e3⟩ : ∃ r, lp (fun (q : Int × Hp) => xm_findsStacks_b7 q.2 q.1) (0, uh M 146 33 0) = some r ∧ (∀ P, P ≠ 166 → r.2 P = uh M 146 33 0 P) ∧ ∀ i, i < 64 → r.2 166 i = 0 := by
    refine lp_forR (fun i (q : Int × Hp) => q.1 = (i : Int) ∧ (∀ P, P ≠ 166 → q.2 P = uh M 146 33 0 P) ∧ ∀ j, j < i → q.2 166 j = 0) 64 _ ?_ ?_ ⟨rfl, fun _ _ => rfl, fun j hj => by omega⟩
    · rintro i ⟨x, t⟩ hi ⟨j1, j2, j3⟩
      replace j1 : x = (i : Int) := j1
      replace j2 : ∀ P, P ≠ 166 → t P = uh M 146 33 0 P := j2
      replace j3 : ∀ j, j < i → t 166 j = 0 := j3
      subst j1
      show ∃ q1, xm_findsStacks_b7 t (i : Int) = some (Sum.inl q1) ∧ _
      unfold xm_findsStacks_b7
      rw [w32_eq (x := (i : Int)) (by omega) (by omega), if_pos (by rw [show w32 64 = 64 by decide]; omega), ixt (n := 64) (j := (i : Int)) i rfl hi (by decide)]
      simp only [obs]
      refine ⟨_, rfl, by show (i : Int) + 1 = _; omega, fun P hP => ?_, fun j hj => ?_⟩
      · show uh t 166 i 0 P = _
        rw [uh_row hP]; exact j2 P hP
      · show uh t 166 i 0 166 j = _
        by_cases hji : j = i
        · subst hji; rw [uh_rc]
        · rw [uh_ro _ _ _ _ hji]; exact j3 j (by omega)
    · rintro ⟨x, t⟩ ⟨j1, j2, j3⟩
      replace j1 : x = ((64 : Nat) : Int) := j1
      subst j1
      refine ⟨_, ?_, j2, j3⟩
      show xm_findsStacks_b7 t ((64 : Nat) : Int) = _
      unfold xm_findsStacks_b7
      rw [if_neg (by decide)]
  obtain ⟨B, f1, f2, f3⟩ : ∃ r, lp (fun (q : Int × Hp) => xm_findsStacks_b28 q.2 q.1) (0, A.2) = some r ∧ (∀ P, P ≠ 167 → r.2 P = A.2 P) ∧ ∀ i, i < 128 → r.2 167 i = 0 := by
    refine lp_forR (fun i (q : Int × Hp) => q.1 = (i : Int) ∧ (∀ P, P ≠ 167 → q.2 P = A.2 P) ∧ ∀ j, j < i → q.2 167 j = 0) 128 _ ?_ ?_ ⟨rfl, fun _ _ => rfl, fun j hj => by omega⟩
    · rintro i ⟨x, t⟩ hi ⟨j1, j2, j3⟩
      replace j1 : x = (i : Int) := j1
      replace j2 : ∀ P, P ≠ 167 → t P = A.2 P := j2
      replace j3 : ∀ j, j < i → t 167 j = 0 := j3
      subst j1
      show ∃ q1, xm_findsStacks_b28 t (i : Int) = some (Sum.inl q1) ∧ _
      unfold xm_findsStacks_b28
      rw [w32_eq (x := (i : Int)) (by omega) (by omega), if_pos (by rw [show w32 128 = 128 by decide]; omega), ixt (n := 128) (j := (i : Int)) i rfl hi (by decide)]
      simp only [obs]
      refine ⟨_, rfl, by show (i : Int) + 1 = _; omega, fun P hP => ?_, fun j hj => ?_⟩
      · show uh t 167 i 0 P = _
        rw [uh_row hP]; exact j2 P hP
      · show uh t 167 i 0 167 j = _
        by_cases hji : j = i
        · subst hji; rw [uh_rc]
        · rw [uh_ro _ _ _ _ hji]; exact j3 j (by omega)
    · rintro ⟨x, t⟩ ⟨j1, j2, j3⟩
      replace j1 : x = ((128 : Nat) : Int) := j1
      subst j1
      refine ⟨_, ?_, j2, j3⟩
      show xm_findsStacks_b28 t ((128 : Nat) : Int) = _
      unfold xm_findsStacks_b28
      rw [if_neg (by decide)]
  rw [e1]
  simp only [obs]
  rw [f1]
  simp only [obs]
  rw [ix0 (by decide) (by decide)]
  simp only [obs]
  have rs0 : RS c (mkJ mk c) (mkH mk c) (uh B.2 163 0 (-1)) [] := by
    refine ⟨?_, fun h hh => ?_, fun x k hx hk => ?_, fun f hf => (by cases hf)⟩
    · rw [uh_row (by decide), f2 146 (by decide), e2 146 (by decide), uh_rc]
      rfl
    · rw [uh_row (by decide), f3 h hh]
      rfl
    · rw [uh_row (by decide), f2 166 (by decide), e3 _ (by omega)]
      rfl
  have fs0 : FS M (uh B.2 163 0 (-1)) := ⟨fun P p1 p2 p3 p4 p5 p6 => by rw [uh_row p2, f2 P p6, e2 P p5, uh_row p1], fun q hq => by rw [uh_row (by decide), f2 146 (by decide), e2 146 (by decide), uh_ro _ _ _ _ hq]⟩
  obtain ⟨r, hr⟩ : ∃ r, c = r + 1 := ⟨c - 1, by omega⟩
  have eref : refL c = tlS (gTr c r []) 0 c := by
    unfold refL
    rw [show refT c c [] = refT c (r + 1) [] by rw [← hr]]
    exact ref_s c r []
  obtain ⟨v, v1, v2, v3, -⟩ := fs_main (M := M) (mk := mk) hc (by omega) c8 hm r 0 (by omega) c 0 [] [] (uh B.2 163 0 (-1)) (by omega) rfl List.nodup_nil (fun y hy => (by cases hy)) (fun i hi => by omega) (by rw [uh_rc]; rfl) rs0 fs0 (by
    rw [← eref]
    have : ([] : List Nat).length = 0 := rfl
    omega)
  rw [← eref, List.nil_append] at v2
  replace v1 : lp (fun (q : Int × Hp) => xm_findsStacks_b57 q.2 q.1) (0, uh B.2 163 0 (-1)) = lp (fun (q : Int × Hp) => xm_findsStacks_b57 q.2 q.1) (-1, v) := v1
  have v5 : lp (fun (q : Int × Hp) => xm_findsStacks_b57 q.2 q.1) (-1, v) = some (-1, v) := by
    refine lp_en ?_
    show xm_findsStacks_b57 v (-1) = _
    unfold xm_findsStacks_b57
    rw [if_pos (by decide)]
  rw [v1, v5]
  exact ⟨v, rfl, v2, v3⟩
end FD1
