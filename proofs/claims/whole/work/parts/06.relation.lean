/-! what the pure heap says of the machine's: address a stands at B + a -/
def pm_e (B : Nat) (K : Nat → Nat) (v : Value) : Value := match v with
  | .ref a => .ref (B + a)
  | .retAddr i => .ref (K i)
  | v => v
theorem pm_e_cat (B : Nat) (K : Nat → Nat) (v : Value) : (pm_e B K v).category = v.category := by cases v <;> rfl
def pm_e2 (B : Nat) (K : Nat → Nat) (q : Nat × Value) : Nat × Value := (q.1, pm_e B K q.2)
def pm_ty (t : Nat) : FieldType := match t with
  | 0 => .int
  | 1 => .long
  | 2 => .byte
  | 3 => .boolean
  | n + 4 => .object (pm_R n)
def pm_at (D : va_G) (B : Nat) (K : Nat → Nat) (s : State) (H : Heap) (a : Nat) (c : pm_C) : Prop :=
  (c.1 = 0 → c.2.1 < 13 ∧ c.2.2.length = pm_cN c.2.1 ∧ t_OB a (D.1 c.2.1) (pm_cN c.2.1) (D.2 c.2.1) H (fun j => pm_e B K (c.2.2.getD j .null))) ∧
  (c.1 = 1 → (∃ cA : ClassId, ArrOfT s cA (pm_ty c.2.1) ∧ va_RA s cA (pm_ty c.2.1) ∧ H[a]? = some (arrV cA c.2.2.length (fun j => pm_e B K (c.2.2.getD j .null)))) ∧ (c.2.1 = 0 → ∀ v ∈ c.2.2, ∃ x, v = .int x))
def pm_re (D : va_G) (B : Nat) (K : Nat → Nat) (s : State) (w : pm_H) (H : Heap) : Prop := H.size = B + w.length ∧ ∀ (k : Nat) (c : pm_C), w[k]? = some c → pm_at D B K s H (B + k) c
def pm_str (K : Nat → Nat) (s : State) : Prop := ∀ x ∈ pm_S, vk_R (pm_R x.1) x.2.1 (pm_Sx.getD x.2.2.1 "") (K x.2.2.1) s
def pm_xs (B : Nat) (K : Nat → Nat) (s : State) : Prop := pm_str K s ∧ (∀ a : Nat, a = 0 ∨ a = 5 ∨ a = 7 → va_AO (pm_R a) s) ∧ (∀ x ∈ pm_G, x.2.2.1 = 3 ∨ x.2.2.1 = 4 → va_Nw (.methodLinkNest (pm_R x.1) x.2.1 (pm_y x.2.2.2.1) "FoldDeeds") s) ∧ ∃ aV : Nat → Nat, js_F B K aV s s.heap
theorem pm_at.moved {D : va_G} {B : Nat} {K : Nat → Nat} {u U : State} {H : Heap} {a : Nat} {c : pm_C} (hvm : u.vm.Alike U.vm) (h : pm_at D B K u H a c) : pm_at D B K U H a c := by
  refine ⟨h.1, fun e => ?_⟩
  obtain ⟨⟨cA, h1, h2, h3⟩, h4⟩ := h.2 e
  exact ⟨⟨cA, arrOfT_moved hvm h1, h2.moved hvm, h3⟩, h4⟩
theorem pm_re.moved {D : va_G} {B : Nat} {K : Nat → Nat} {u U : State} {w : pm_H} {H : Heap} (hvm : u.vm.Alike U.vm) (h : pm_re D B K u w H) : pm_re D B K U w H := ⟨h.1, fun k c hk => (h.2 k c hk).moved hvm⟩
theorem pm_str.warm {K : Nat → Nat} {s U : State} (hW : s.WarmedH U.vm) (h : pm_str K s) : pm_str K U := fun x hx => vk_R.warm hW (h x hx)
theorem pm_xs.warm {B : Nat} {K : Nat → Nat} {s U : State} (hW : s.WarmedH U.vm) (hh : ∀ a : Nat, a < s.heap.size → ¬ B ≤ a → U.heap[a]? = s.heap[a]?) (h : pm_xs B K s) : pm_xs B K U := by
  obtain ⟨h1, h2, h3, aV, h4⟩ := h
  exact ⟨h1.warm hW, fun a ha => (h2 a ha).moved hW.alike, fun x hx hq => va_Nw.warmM hW (h3 x hx hq), aV, js_mv hW.alike (js_kp h4 hh)⟩
theorem pm_at.kept {D : va_G} {B : Nat} {K : Nat → Nat} {s : State} {H H' : Heap} {a : Nat} {c : pm_C} (h : pm_at D B K s H a c) (hq : H'[a]? = H[a]?) : pm_at D B K s H' a c := by
  refine ⟨fun e => ?_, fun e => ?_⟩
  · obtain ⟨h1, h2, h3⟩ := h.1 e
    exact ⟨h1, h2, h3.kept hq⟩
  · obtain ⟨⟨cA, h1, h2, h3⟩, h4⟩ := h.2 e
    exact ⟨⟨cA, h1, h2, hq.trans h3⟩, h4⟩
theorem pm_re.set {D : va_G} {B : Nat} {K : Nat → Nat} {s : State} {w : pm_H} {H H' : Heap} {a : Nat} {c0 c1 : pm_C} (h : pm_re D B K s w H) (ha : w[a]? = some c0) (h1 : pm_at D B K s H' (B + a) c1) (z : H'.size = H.size) (oq : ∀ q : Nat, q ≠ B + a → H'[q]? = H[q]?) : pm_re D B K s (w.set a c1) H' := by
  have hl := (List.getElem?_eq_some_iff.mp ha).1
  refine ⟨by rw [z, h.1, List.length_set], fun k c hk => ?_⟩
  by_cases hka : k = a
  · subst hka
    rw [List.getElem?_set_self hl] at hk
    cases hk
    exact h1
  · rw [List.getElem?_set_ne (Ne.symm hka)] at hk
    exact (h.2 k c hk).kept (oq _ (by omega))
theorem pm_re.push {D : va_G} {B : Nat} {K : Nat → Nat} {s : State} {w : pm_H} {H H' : Heap} {c1 : pm_C} (h : pm_re D B K s w H) (h1 : pm_at D B K s H' (B + w.length) c1) (z : H'.size = H.size + 1) (oq : ∀ q : Nat, q < H.size → H'[q]? = H[q]?) : pm_re D B K s (w ++ [c1]) H' := by
  refine ⟨by rw [z, h.1, List.length_append]; simp; omega, fun k c hk => ?_⟩
  by_cases hl : k < w.length
  · rw [List.getElem?_append_left hl] at hk
    exact (h.2 k c hk).kept (oq _ (by rw [h.1]; omega))
  · rw [List.getElem?_append_right (by omega)] at hk
    have hz : k - w.length < 1 := (List.getElem?_eq_some_iff.mp hk).1
    have hk0 : k = w.length := by omega
    subst hk0
    rw [Nat.sub_self] at hk
    cases hk
    exact h1
theorem pm_ld_in {lv : pm_L} {i : Nat} {v : Value} (h : pm_ld lv i = some v) : (i, v) ∈ lv := by
  unfold pm_ld at h
  cases hf : lv.find? (fun q => q.1 == i) with
  | none => rw [hf] at h; cases h
  | some q =>
    rw [hf] at h
    have h1 := List.mem_of_find?_eq_some hf
    have h2 : (q.1 == i) = true := by have := List.find?_some hf; simpa using this
    have h3 : q.1 = i := by simpa using h2
    have h4 : q.2 = v := by simpa using h
    rw [← h3, ← h4]
    exact h1
theorem pm_ld_at {ls : Array Slot} {n : Nat} {B : Nat} {K : Nat → Nat} {lv : pm_L} {i : Nat} {v : Value} (hl : lv_has ls n (lv.map (pm_e2 B K))) (h : pm_ld lv i = some v) : ls[i]? = some (.val (pm_e B K v)) :=
  hl.2.2 (i, pm_e B K v) (List.mem_map.mpr ⟨(i, v), pm_ld_in h, rfl⟩)
theorem pm_s1_map (B : Nat) (K : Nat → Nat) (lv : pm_L) (i : Nat) (v : Value) : (i, pm_e B K v) :: (lv.map (pm_e2 B K)).filter (fun q => !(q.1 == i) && !(q.1 + 1 == i && q.2.category == 2)) = (pm_s1 lv i v).map (pm_e2 B K) := by
  unfold pm_s1
  rw [List.map_cons, List.filter_map]
  refine congrArg (fun l => (i, pm_e B K v) :: List.map (pm_e2 B K) l) (List.filter_congr fun q _ => ?_)
  simp [Function.comp, pm_e2, pm_e_cat]
theorem pm_s2_map (B : Nat) (K : Nat → Nat) (lv : pm_L) (i : Nat) (v : Value) : (i, pm_e B K v) :: (lv.map (pm_e2 B K)).filter (fun q => !(q.1 == i) && (!(q.1 == i + 1) && !(q.1 + 1 == i && q.2.category == 2))) = (pm_s2 lv i v).map (pm_e2 B K) := by
  unfold pm_s2
  rw [List.map_cons, List.filter_map]
  refine congrArg (fun l => (i, pm_e B K v) :: List.map (pm_e2 B K) l) (List.filter_congr fun q _ => ?_)
  simp [Function.comp, pm_e2, pm_e_cat]
theorem pm_eV (B : Nat) (K : Nat → Nat) (fs : List Value) (j : Nat) : vp_V (fs.map (pm_e B K)) j = pm_e B K (fs.getD j .null) := by
  unfold vp_V
  rw [List.getD_eq_getElem?_getD, List.getD_eq_getElem?_getD, List.getElem?_map]
  cases fs[j]? <;> rfl
theorem pm_fit_e {B : Nat} {K : Nat → Nat} {ty : FieldType} {v : Value} (h : pm_fit ty v = true) : narrow ty (pm_e B K v) = pm_e B K v ∧ fits ty (pm_e B K v) = true := by
  cases ty <;> cases v <;> first | exact ⟨rfl, rfl⟩ | cases h
theorem pm_sz_set {w : pm_H} {a : Nat} {c0 c1 : pm_C} (h : w[a]? = some c0) (hl : c1.2.2.length = c0.2.2.length) : pm_sz (w.set a c1) = pm_sz w := by
  unfold pm_sz
  rw [List.map_set, hl]
  congr 1
  have h1 : (w.map fun c => c.2.2.length)[a]? = some c0.2.2.length := by rw [List.getElem?_map, h]; rfl
  apply List.ext_getElem?
  intro j
  by_cases hj : j = a
  · subst hj
    rw [List.getElem?_set_self (List.getElem?_eq_some_iff.mp h1).1, h1]
  · rw [List.getElem?_set_ne (Ne.symm hj)]
theorem pm_sz_push (w : pm_H) (c : pm_C) : pm_sz (w ++ [c]) = pm_sz w + c.2.2.length := by simp [pm_sz]
theorem pm_args_map (B : Nat) (K : Nat → Nat) : ∀ (vs : List Value) (i : Nat), lv_args i (vs.map (pm_e B K)) = (lv_args i vs).map (pm_e2 B K)
  | [], _ => rfl
  | v :: vs, i => by
    show (i, pm_e B K v) :: lv_args (if (pm_e B K v).category = 2 then i + 2 else i + 1) (vs.map (pm_e B K)) = _
    rw [pm_e_cat, pm_args_map B K vs]
    rfl
theorem pm_sl_map (B : Nat) (K : Nat → Nat) (vs : List Value) : (lg_sl (vs.map (pm_e B K))).length = (lg_sl vs).length := by
  unfold lg_sl
  induction vs with
  | nil => rfl
  | cons v vs ih =>
    rw [List.map_cons, List.flatMap_cons, List.flatMap_cons, List.length_append, List.length_append, ih, pm_e_cat]
    congr 1
    split <;> rfl
theorem pm_cs_map (B : Nat) (K : Nat → Nat) (vs : List Value) : ((vs.map (pm_e B K)).map fun v => v.category).sum = pm_cs vs := by
  unfold pm_cs
  rw [List.map_map]
  congr 1
  refine List.map_congr_left fun v _ => ?_
  exact pm_e_cat B K v
/-! facts of the tables in use -/
theorem pm_hin {ci : Nat} (h : ci < 13) : ∀ w ∈ u_ws (pm_R ci) (pm_fT ci) (pm_cN ci), w ∈ lw_g := by
  intro w hw
  unfold u_ws at hw
  obtain ⟨k, hk, rfl⟩ := List.mem_map.mp hw
  have h1 := pm_clok ci h
  simp only [pm_clk, Bool.and_eq_true] at h1
  have h2 := List.all_eq_true.mp h1.2.2.2 k hk
  simp only [Bool.and_eq_true] at h2
  refine lw_g_in (pm_w1_in h2.1) ?_
  unfold u_lay
  split <;> rfl
theorem pm_hty {ci : Nat} (h : ci < 13) : ∀ k, k < pm_cN ci → parseFieldDescriptor (pm_fT ci k).2.2.1 = some (pm_ft ci k) := by
  intro k hk
  have h1 := pm_clok ci h
  simp only [pm_clk, Bool.and_eq_true] at h1
  have h2 := List.all_eq_true.mp h1.2.2.2 k (List.mem_range.mpr hk)
  simp only [Bool.and_eq_true] at h2
  exact of_decide_eq_true h2.2.1
theorem pm_hdv {ci : Nat} (h : ci < 13) : ∀ k, k < pm_cN ci → defaultValue (pm_ft ci k) = (pm_D.getD ci []).getD k .null := by
  intro k hk
  have h1 := pm_clok ci h
  simp only [pm_clk, Bool.and_eq_true] at h1
  have h2 := List.all_eq_true.mp h1.2.2.2 k (List.mem_range.mpr hk)
  simp only [Bool.and_eq_true] at h2
  exact of_decide_eq_true h2.2.2.1
theorem pm_hcl {ci : Nat} (h : ci < 13) : ∀ k, k < pm_cN ci → (pm_fT ci k).1 = pm_R ci := by
  intro k hk
  have h1 := pm_clok ci h
  simp only [pm_clk, Bool.and_eq_true] at h1
  have h2 := List.all_eq_true.mp h1.2.2.2 k (List.mem_range.mpr hk)
  simp only [Bool.and_eq_true] at h2
  exact of_decide_eq_true h2.2.2.2.1
theorem pm_hnm {ci : Nat} (h : ci < 13) : ∀ a, a < pm_cN ci → ∀ b, b < pm_cN ci → a ≠ b → (pm_fT ci a).2.1 ≠ (pm_fT ci b).2.1 := by
  intro a ha b hb hab
  have h1 := pm_clok ci h
  simp only [pm_clk, Bool.and_eq_true] at h1
  have h2 := List.all_eq_true.mp h1.2.2.2 a (List.mem_range.mpr ha)
  simp only [Bool.and_eq_true] at h2
  have h3 := List.all_eq_true.mp h2.2.2.2.2 b (List.mem_range.mpr hb)
  simp only [Bool.or_eq_true, decide_eq_true_eq] at h3
  rcases h3 with h3 | h3
  · exact absurd h3 hab
  · exact h3
theorem pm_hlenD {ci : Nat} (h : ci < 13) : (pm_D.getD ci []).length = pm_cN ci := by
  have h1 := pm_clok ci h
  simp only [pm_clk, Bool.and_eq_true] at h1
  exact of_decide_eq_true h1.2.2.1
theorem pm_hinst {ci : Nat} (h : ci < 13) : Cond.instantiable (pm_R ci) (pm_cN ci) ∈ lw_g ∧ Cond.initialized (pm_R ci) ∈ lw_g := by
  have h1 := pm_clok ci h
  simp only [pm_clk, Bool.and_eq_true] at h1
  exact ⟨lw_g_in (pm_w1_in h1.1) rfl, lw_g_in (pm_w1_in h1.2.1) rfl⟩
theorem pm_hfl {o i ci kf : Nat} (h : (pm_F.any fun x => x.1 == o && (x.2.1 == i && (x.2.2.1 == ci && x.2.2.2.1 == kf))) = true) : Cond.fieldLink (pm_R o) i (pm_fT ci kf).1 (pm_fT ci kf).2.1 (pm_fT ci kf).2.2.1 ∈ lw_g ∧ kf < pm_cN ci ∧ ci < 13 := by
  obtain ⟨x, hx, h1⟩ := List.any_eq_true.mp h
  simp only [Bool.and_eq_true, beq_iff_eq] at h1
  obtain ⟨rfl, rfl, rfl, rfl⟩ := h1
  have h2 := List.all_eq_true.mp pm_Fok x hx
  simp only [Bool.and_eq_true, decide_eq_true_eq] at h2
  exact ⟨lw_g_in (pm_w1_in h2.1) rfl, h2.2.1, h2.2.2⟩
theorem pm_hkl {o i ci : Nat} (h : (pm_K.any fun x => x.1 == o && (x.2.1 == i && x.2.2.1 == ci)) = true) : Cond.classLink (pm_R o) i (pm_R ci) ∈ lw_g ∧ ci < 13 := by
  obtain ⟨x, hx, h1⟩ := List.any_eq_true.mp h
  simp only [Bool.and_eq_true, beq_iff_eq] at h1
  obtain ⟨rfl, rfl, rfl⟩ := h1
  have h2 := List.all_eq_true.mp pm_Kok x hx
  simp only [Bool.and_eq_true, decide_eq_true_eq] at h2
  exact ⟨lw_g_in (pm_w1_in h2.1) rfl, h2.2⟩
theorem pm_hnl {o i : Nat} {v : Int} (h : (pm_N.any fun x => x.1 == o && (x.2.1 == i && x.2.2.1 == v)) = true) : Cond.constant (pm_R o) i (Int32.ofInt v) ∈ lw_g := by
  obtain ⟨x, hx, h1⟩ := List.any_eq_true.mp h
  simp only [Bool.and_eq_true, beq_iff_eq] at h1
  obtain ⟨rfl, rfl, rfl⟩ := h1
  exact lw_g_in (pm_w1_in (List.all_eq_true.mp pm_Nok x hx)) rfl
theorem pm_hjl {o i : Nat} {v : Int} (h : (pm_J.any fun x => x.1 == o && (x.2.1 == i && x.2.2.1 == v)) = true) : Cond.constantLong (pm_R o) i (Int64.ofInt v) ∈ lw_g := by
  obtain ⟨x, hx, h1⟩ := List.any_eq_true.mp h
  simp only [Bool.and_eq_true, beq_iff_eq] at h1
  obtain ⟨rfl, rfl, rfl⟩ := h1
  exact lw_g_in (pm_w1_in (List.all_eq_true.mp pm_Jok x hx)) rfl
