/-! the library's members, and a call -/
section PL
variable {p : Program} {l : Launch} {e : Env} {R : Room} {s : State} {m : MethodId} {args : Array Value} {below : List Frame} {meth : Method} {c : Code} {H : Heap} {locs : List Loc} {cells slots : Nat} {Q : State → Prop}
variable {k pc pc1 : Nat} {lv lv1 : pm_L} {st st1 : List Value} {w w1 : pm_H} {D : va_G} {B : Nat} {K : Nat → Nat} {ls : Array Slot}
theorem pl_S {args : Array Value} {T : State} {cells slots : Nat} (X : Stand p l e R s m args below meth c T locs cells slots) (hT : T.heap = H) (hlo : ∀ x ∈ locs, B ≤ x.base) : va_S (fun q => B ≤ q) s.heap H locs := by
  obtain ⟨-, z1, -, -, -, hs⟩ := X.same
  refine ⟨by rw [← hT]; exact z1, fun q hq hb => ?_, hlo⟩
  obtain ⟨cell, hc⟩ : ∃ cell, s.heap[q]? = some cell := ⟨_, Array.getElem?_eq_getElem hq⟩
  obtain ⟨c', h1, h2, h3, h4⟩ := hs q cell hc
  have e1 : c'.slots = cell.slots := by
    apply Array.ext_getElem?
    intro i
    exact h4 i (fun hi => hb (hlo _ hi))
  rw [e1] at h2
  have e2 : c' = cell := h2
  rw [e2] at h1
  rw [← hT, hc]
  exact h1
theorem pl_with {g : JFrame} (hlo : ∀ x ∈ locs, B ≤ x.base) (h : va_S (fun q => B ≤ q) s.heap H locs → W p l e R s m args below meth c H locs cells slots Q g) : W p l e R s m args below meth c H locs cells slots Q g := fun T hT X => h (pl_S X hT hlo) T hT X
theorem pl_cpy_len (vs us : List Value) {sp dp n : Nat} (h1 : sp + n ≤ vs.length) (h2 : dp + n ≤ us.length) : (pm_cpy vs us sp dp n).length = us.length := by
  unfold pm_cpy
  simp only [List.length_append, List.length_take, List.length_drop]
  omega
theorem pl_cpy_at (vs us : List Value) {sp dp n : Nat} (h1 : sp + n ≤ vs.length) (h2 : dp + n ≤ us.length) (j : Nat) : (pm_cpy vs us sp dp n)[j]? = if dp ≤ j ∧ j < dp + n then vs[sp + (j - dp)]? else us[j]? := by
  unfold pm_cpy
  have l1 : (us.take dp).length = dp := by rw [List.length_take]; omega
  have l2 : ((vs.drop sp).take n).length = n := by rw [List.length_take, List.length_drop]; omega
  by_cases hj : j < dp
  · rw [List.getElem?_append_left (by omega), List.getElem?_take_of_lt hj, if_neg (by omega)]
  · rw [List.getElem?_append_right (by omega), l1]
    by_cases hj2 : j < dp + n
    · rw [List.getElem?_append_left (by omega), List.getElem?_take_of_lt (by omega), List.getElem?_drop, if_pos (by omega)]
    · rw [List.getElem?_append_right (by omega), l2, List.getElem?_drop, if_neg (by omega)]
      congr 1
      omega
theorem pl_copy {i a b : Nat} {vs us : List Value} {sp dp n : Int32} {r : List Value} (C : pm_cx p s m args meth c k D B K) (hre : pm_re D B K s w H) (ha : w[a]? = some (1, 0, vs)) (hb1 : w[b]? = some (1, 0, us)) (hls : ls.size = pm_n k) (hlo : ∀ x ∈ locs, B ≤ x.base)
    (h1 : ¬ sp < 0) (h2 : ¬ dp < 0) (h3 : ¬ n < 0) (h4 : sp.toNatClampNeg + n.toNatClampNeg ≤ vs.length) (h5 : dp.toNatClampNeg + n.toNatClampNeg ≤ us.length) (hlink : Cond.methodLink (pm_R (pm_o k)) i arraycopyName ∈ lw_g) (hframes : 1 ≤ R.frames) (hlocals : pm_cs r + 40 ≤ R.locals) (hdg : decode (pm_c k) pc = .ok (.invokestatic i, 3))
    (kk : ∀ (H' : Heap) (locs' : List Loc), pm_re D B K s (w.set b (1, 0, pm_cpy vs us sp.toNatClampNeg dp.toNatClampNeg n.toNatClampNeg)) H' → (∀ x ∈ locs', B ≤ x.base) → W p l e R s m args below meth c H' locs' cells slots Q (F0 m (pc + 3) ls (r.map (pm_e B K)))) :
    W p l e R s m args below meth c H locs cells slots Q (F0 m pc ls (.int n :: .int dp :: .ref (B + b) :: .int sp :: .ref (B + a) :: r.map (pm_e B K))) := by
  obtain ⟨hx, hb, hml, hown, hts, hK, hlocks, hr, hnm, hstr, hk264⟩ := C
  have nn : ∀ z : Int32, ¬ z < 0 → z.toInt = (z.toNatClampNeg : Int) := by
    intro z hz
    have hz0 : (0 : Int) ≤ z.toInt := by
      have := Int32.not_lt.mp hz
      simpa using Int32.le_iff_toInt_le.mp this
    show z.toInt = ((z.toInt.toNat : Nat) : Int)
    omega
  obtain ⟨⟨c0, g1, g2, hc0⟩, hi0⟩ := ps_arr hre ha
  obtain ⟨⟨c1, g4, g5, hc1⟩, hi1⟩ := ps_arr hre hb1
  generalize hf : (fun j => pm_e B K (vs.getD j .null)) = f at hc0
  generalize hg : (fun j => pm_e B K (us.getD j .null)) = g at hc1
  intro T hT X
  obtain ⟨-, k0, hk0, cm0, hkk0⟩ := g1 vs.length f
  obtain ⟨-, k1, hk1, cm1, hkk1⟩ := g4 us.length g
  obtain ⟨vm', X', step⟩ := X.arraycopy hx hown (hts _ hlink) (hts _ (lw_g_in pm_lw_an rfl)) (hts _ (lw_g_in pm_lw_as rfl)) (hts _ (lw_g_in pm_lw_si rfl)) (src := B + a) (dst := B + b) (cs := arrV c0 vs.length f) (cd := arrV c1 us.length g) (srcPos := sp) (destPos := dp) (n := n) (by rw [hT]; exact hc0) (by rw [hT]; exact hc1)
    (fun _ h => by cases h) (fun _ h => by cases h) (fun h => by cases h) (fun h => by cases h) hk0 hk1 hkk0 hkk1 (by rfl) h1 h2 h3
    (by rw [nn sp h1, nn n h3, arrV_size]; omega)
    (by rw [nn dp h2, nn n h3, arrV_size]; omega)
    (fun vm₁ _ i hi => by
      obtain ⟨x, hx1⟩ := hi0 rfl (vs.getD (sp.toNatClampNeg + i) .null) (by
        rw [List.getD_eq_getElem?_getD, List.getElem?_eq_getElem (by omega)]
        exact List.getElem_mem _)
      have e : (arrV c0 vs.length f).slots.getD (sp.toNatClampNeg + i) .null = .int x := by
        rw [Array.getD_eq_getD_getElem?, arrV_read _ _ (by omega), ← hf]
        show pm_e B K (vs.getD (sp.toNatClampNeg + i) .null) = .int x
        rw [hx1]
        rfl
      refine ⟨?_, ?_⟩
      · rw [e]
        rfl
      · rw [e]
        exact trivial)
    (g := F0 m pc ls (.int n :: .int dp :: .ref (B + b) :: .int sp :: .ref (B + a) :: r.map (pm_e B K))) rfl (by rw [hml]; exact hls) (rest := r.map (pm_e B K)) rfl (by rw [hb]; exact hdg) hframes (by
      show 2 * 0 + _ + _ ≤ _
      rw [pm_cs_map]
      have : nativeFrameWords "java/lang/System" "arraycopy" 5 = 7 := by decide
      omega)
  have e1 : copied (arrV c0 vs.length f) (arrV c1 us.length g) sp dp n = arrV c1 us.length (va_cpy f g sp.toNatClampNeg dp.toNatClampNeg n.toNatClampNeg) := va_copied (fun z => z) c0 c1 f g h4
  rw [e1] at X' step
  have hl : B + b < H.size := (Array.getElem?_eq_some_iff.mp hc1).1
  have hheap : ((T.setVm vm').setCell (B + b) (arrV c1 us.length (va_cpy f g sp.toNatClampNeg dp.toNatClampNeg n.toNatClampNeg))).heap = H.setIfInBounds (B + b) (arrV c1 us.length (va_cpy f g sp.toNatClampNeg dp.toNatClampNeg n.toNatClampNeg)) := by rw [← hT]; rfl
  have oq : ∀ q : Nat, q ≠ B + b → (H.setIfInBounds (B + b) (arrV c1 us.length (va_cpy f g sp.toNatClampNeg dp.toNatClampNeg n.toNatClampNeg)))[q]? = H[q]? := fun q hq => by simp [Array.getElem?_setIfInBounds, Ne.symm hq]
  have lc := pl_cpy_len vs us h4 h5
  obtain ⟨t, a1, b1⟩ := kk _ _ (hre.set hb1 ⟨(fun h => by cases h), fun _ => ⟨⟨c1, g4, g5, by
      show (H.setIfInBounds (B + b) _)[B + b]? = some (arrV c1 (pm_cpy vs us _ _ _).length _)
      rw [lc]
      simp only [Array.getElem?_setIfInBounds, hl, if_true]
      refine congrArg some (pt_arrV fun j hj => ?_)
      show va_cpy f g _ _ _ j = pm_e B K ((pm_cpy vs us _ _ _).getD j .null)
      rw [List.getD_eq_getElem?_getD, pl_cpy_at vs us h4 h5]
      unfold va_cpy
      rw [← hf, ← hg]
      split
      · simp only [List.getD_eq_getElem?_getD]
      · simp only [List.getD_eq_getElem?_getD]⟩, fun _ v hv => by
      unfold pm_cpy at hv
      rcases List.mem_append.mp hv with hv | hv
      · exact hi1 rfl v (List.mem_of_mem_take hv)
      · rcases List.mem_append.mp hv with hv | hv
        · exact hi0 rfl v (List.mem_of_mem_drop (List.mem_of_mem_take hv))
        · exact hi1 rfl v (List.mem_of_mem_drop hv)⟩⟩ (by simp) oq) (fun x hx1 => by
      rcases List.mem_append.mp hx1 with h | h
      · exact hlo x h
      · obtain ⟨z, -, hz⟩ := List.mem_map.mp h
        rw [← hz]
        exact Nat.le_add_right B b) _ hheap X'
  exact ⟨t, step t a1, b1⟩
theorem pl_lnk9 {i a b : Nat} (h : (pm_G.any fun x => x.1 == pm_o k && (x.2.1 == i && (x.2.2.1 == b && x.2.2.2.1 == a))) = true) (ha : 1000 ≤ a) : Cond.methodLink (pm_R (pm_o k)) i (pm_ln a) ∈ lw_g := by
  obtain ⟨x, hx, h1⟩ := List.any_eq_true.mp h
  simp only [Bool.and_eq_true, beq_iff_eq] at h1
  obtain ⟨e1, e2, e3, e4⟩ := h1
  have h2 := List.all_eq_true.mp pm_Gok x hx
  by_cases h9 : x.2.2.1 = 9
  · rw [if_pos h9, Bool.and_eq_true] at h2
    rw [← e1, ← e2, ← e4]
    exact lw_g_in (pm_w1_in h2.2) rfl
  · rw [if_neg h9, Bool.and_eq_true] at h2
    have := of_decide_eq_true h2.1
    omega
/-- what the tables say of a call: its link stands in pm_G -/
theorem pl_any {q : pm_Q} (hi : pm_inv q.1 = true) (hlk : pm_lnk k pc q = true) : ∃ i, (q.1 = .invokevirtual i ∨ q.1 = .invokespecial i ∨ q.1 = .invokestatic i) ∧ ∃ x ∈ pm_G, x.1 = pm_o k ∧ x.2.1 = i ∧ x.2.2.1 = q.2.2.2.1 ∧ x.2.2.2.1 = q.2.2.1 ∧ (q.1 = .invokevirtual i → x.2.2.1 = 0 ∨ (x.2.2.1 = 9 ∧ 1006 ≤ x.2.2.2.1)) ∧ (q.1 = .invokespecial i → x.2.2.1 = 2 ∨ x.2.2.1 = 3 ∨ (x.2.2.1 = 9 ∧ x.2.2.2.1 = 1000)) ∧ (q.1 = .invokestatic i → x.2.2.1 = 1 ∨ x.2.2.1 = 4 ∨ (x.2.2.1 = 9 ∧ 1001 ≤ x.2.2.2.1 ∧ x.2.2.2.1 ≤ 1005)) := by
  obtain ⟨j, ln, a, b, z⟩ := q
  cases j <;> first | cases hi | skip
  · rename_i i
    obtain ⟨x, hx, h1⟩ := List.any_eq_true.mp hlk
    simp only [Bool.and_eq_true, Bool.or_eq_true, beq_iff_eq, decide_eq_true_eq] at h1
    obtain ⟨e1, e2, e3, e4, e5⟩ := h1
    refine ⟨i, Or.inr (Or.inl rfl), x, hx, e1, e2, e3, e4, (fun h => by cases h), (fun _ => ?_), (fun h => by cases h)⟩
    rcases e5 with (e5 | e5) | e5
    · exact Or.inl e5
    · exact Or.inr (Or.inl e5)
    · exact Or.inr (Or.inr e5)
  · rename_i i
    obtain ⟨x, hx, h1⟩ := List.any_eq_true.mp hlk
    simp only [Bool.and_eq_true, Bool.or_eq_true, beq_iff_eq, decide_eq_true_eq] at h1
    obtain ⟨e1, e2, e3, e4, e5⟩ := h1
    refine ⟨i, Or.inr (Or.inr rfl), x, hx, e1, e2, e3, e4, (fun h => by cases h), (fun h => by cases h), (fun _ => ?_)⟩
    rcases e5 with (e5 | e5) | e5
    · exact Or.inl e5
    · exact Or.inr (Or.inl e5)
    · exact Or.inr (Or.inr e5)
  · rename_i i
    obtain ⟨x, hx, h1⟩ := List.any_eq_true.mp hlk
    simp only [Bool.and_eq_true, Bool.or_eq_true, beq_iff_eq, decide_eq_true_eq] at h1
    obtain ⟨e1, e2, e3, e4, e5⟩ := h1
    exact ⟨i, Or.inl rfl, x, hx, e1, e2, e3, e4, (fun _ => e5), (fun h => by cases h), (fun h => by cases h)⟩
set_option maxHeartbeats 1000000 in
theorem pl_lib {q : pm_Q} (C : pm_cx p s m args meth c k D B K) (hre : pm_re D B K s w H) (hls : lv_has ls (pm_n k) (lv.map (pm_e2 B K))) (hlo : ∀ x ∈ locs, B ≤ x.base) (hfr6 : 6 ≤ R.frames) (hloc : 360 ≤ R.locals) (hrc : cells ≤ R.cells) (hrs : slots ≤ R.slots) (hi : pm_inv q.1 = true) (ha : 1000 ≤ q.2.2.1) (hlk : pm_lnk k pc q = true) (hd : decode (pm_c k) pc = .ok (q.1, 3)) (h : pm_lib q.2.2.1 st w = some (st1, w1)) (hcs : pm_cs st1 ≤ 8)
    (kk : ∀ (H' : Heap) (locs' : List Loc), w1.length = w.length → pm_sz w1 = pm_sz w → pm_re D B K s w1 H' → (∀ x ∈ locs', B ≤ x.base) → W p l e R s m args below meth c H' locs' cells slots Q (F0 m (pc + 3) ls (st1.map (pm_e B K)))) : W p l e R s m args below meth c H locs cells slots Q (F0 m pc ls (st.map (pm_e B K))) := by
  obtain ⟨hx, hb, hml, hown, hts, hK, hlocks, hr, hnm, hstr, hk264⟩ := id C
  obtain ⟨i, hq, x, hxm, e1, e2, e3, e4, v1, v2, v3⟩ := pl_any hi hlk
  have h2 := List.all_eq_true.mp pm_Gok x hxm
  have h9 : x.2.2.1 = 9 := by
    by_cases h9 : x.2.2.1 = 9
    · exact h9
    · rw [if_neg h9, Bool.and_eq_true] at h2
      have := of_decide_eq_true h2.1
      omega
  rw [if_pos h9, Bool.and_eq_true] at h2
  have hlink : Cond.methodLink (pm_R (pm_o k)) i (pm_ln q.2.2.1) ∈ lw_g := by
    rw [← e1, ← e2, ← e4]
    exact lw_g_in (pm_w1_in h2.2) rfl
  generalize hqa : q.2.2.1 = a at *
  have hfr : 1 ≤ R.frames := by omega
  unfold pm_lib at h
  split at h
  · -- Object.<init>
    cases h
    rcases hq with hq | hq | hq
    · rcases v1 hq with h0 | h0 <;> omega
    · rw [hq] at hd
      exact W.objInit hx hb hown (hts _ hlink) (hts _ (lw_g_in pm_lw_oi rfl)) (hts _ (lw_g_in pm_lw_oc rfl)) rfl (by rw [hml]; exact hls.1) rfl hd hfr (by show 2 * 0 + _ + 12 ≤ _; rw [pm_cs_map]; omega) (kk H locs rfl rfl hre hlo)
    · rcases v3 hq with h0 | h0 | h0 <;> omega
  · cases h
    have hq : q.1 = .invokestatic i := by
      rcases hq with hq | hq | hq
      · rcases v1 hq with h0 | h0 <;> omega
      · rcases v2 hq with h0 | h0 | h0 <;> omega
      · exact hq
    rw [hq] at hd
    exact va_mmax hx hb (by rw [hml]; exact hls.1.symm) hown (hts _ hlink) (hts _ (lw_g_in pm_lw_maxs rfl)) (hts _ (lw_g_in pm_lw_mi rfl)) (hts _ (lw_g_in pm_lw_maxc rfl)) hfr (by rw [pm_cs_map]; simp only [pm_cs, List.map_cons, List.sum_cons, Value.category] at hcs ⊢; omega) hrc hrs hd (kk H locs rfl rfl hre hlo)
  · cases h
    have hq : q.1 = .invokestatic i := by
      rcases hq with hq | hq | hq
      · rcases v1 hq with h0 | h0 <;> omega
      · rcases v2 hq with h0 | h0 | h0 <;> omega
      · exact hq
    rw [hq] at hd
    exact va_mmin hx hb (by rw [hml]; exact hls.1.symm) hown (hts _ hlink) (hts _ (lw_g_in pm_lw_mins rfl)) (hts _ (lw_g_in pm_lw_mi rfl)) (hts _ (lw_g_in pm_lw_minc rfl)) hfr (by rw [pm_cs_map]; simp only [pm_cs, List.map_cons, List.sum_cons, Value.category] at hcs ⊢; omega) hrc hrs hd (kk H locs rfl rfl hre hlo)
  · cases h
    have hq : q.1 = .invokestatic i := by
      rcases hq with hq | hq | hq
      · rcases v1 hq with h0 | h0 <;> omega
      · rcases v2 hq with h0 | h0 | h0 <;> omega
      · exact hq
    rw [hq] at hd
    exact va_mmax_long hx hb (by rw [hml]; exact hls.1.symm) hown (hts _ hlink) (hts _ (lw_g_in pm_lw_maxls rfl)) (hts _ (lw_g_in pm_lw_mi rfl)) (hts _ (lw_g_in pm_lw_maxlc rfl)) hfr (by rw [pm_cs_map]; simp only [pm_cs, List.map_cons, List.sum_cons, Value.category] at hcs ⊢; omega) hrc hrs hd (kk H locs rfl rfl hre hlo)
  · cases h
    have hq : q.1 = .invokestatic i := by
      rcases hq with hq | hq | hq
      · rcases v1 hq with h0 | h0 <;> omega
      · rcases v2 hq with h0 | h0 | h0 <;> omega
      · exact hq
    rw [hq] at hd
    exact va_mmin_long hx hb (by rw [hml]; exact hls.1.symm) hown (hts _ hlink) (hts _ (lw_g_in pm_lw_minls rfl)) (hts _ (lw_g_in pm_lw_mi rfl)) (hts _ (lw_g_in pm_lw_minlc rfl)) hfr (by rw [pm_cs_map]; simp only [pm_cs, List.map_cons, List.sum_cons, Value.category] at hcs ⊢; omega) hrc hrs hd (kk H locs rfl rfl hre hlo)
  · split at h
    · rename_i n dp y sp u r vs us hwa hwb
      have hq : q.1 = .invokestatic i := by
        rcases hq with hq | hq | hq
        · rcases v1 hq with h0 | h0 <;> omega
        · rcases v2 hq with h0 | h0 | h0 <;> omega
        · exact hq
      rw [hq] at hd
      split at h
      · rename_i hc
        cases h
        exact pl_copy C hre hwa hwb hls.1 hlo hc.2.1 hc.2.2.1 hc.2.2.2.1 hc.2.2.2.2.1 hc.2.2.2.2.2 hlink hfr (by omega) hd (fun H1 locs1 hr1 hl1 => kk H1 locs1 (by rw [List.length_set]) (pm_sz_set hwb (pl_cpy_len vs us hc.2.2.2.2.1 hc.2.2.2.2.2)) hr1 hl1)
      · cases h
    · cases h
  · -- String.length
    rename_i u r
    split at h
    · rename_i hu
      cases h
      have hq : q.1 = .invokevirtual i := by
        rcases hq with hq | hq | hq
        · exact hq
        · rcases v2 hq with h0 | h0 | h0 <;> omega
        · rcases v3 hq with h0 | h0 | h0 <;> omega
      rw [hq] at hd
      obtain ⟨aV, hJ⟩ := hstr.2.2.2
      refine pl_with hlo (fun hS => ?_)
      exact js_af (r := some (.int (nI (pm_Sl.getD u 0)))) (rest := r.map (pm_e B K)) (va_runV (C := "java/lang/String") (y := yJ0_length_8abf5) (As := []) (b := K u) (rest := r.map (pm_e B K)) ⟨hx, hb, hml, hown, hts⟩ (js_len l B K aV hu) ⟨callB_of 0 hts (js_gi js_len_c) rfl rfl rfl (hts _ js_len_i) (hts _ hlink) ⟨by decide, by decide, by decide +kernel⟩ ⟨by show 1 + 1 ≤ _; omega, by show 8 + (1 + 11) + 60 * 1 ≤ _; omega⟩, hts _ js_len_n, hts _ js_len_e⟩ ⟨js_bl B K aV _, vk_recv hJ.1 hu hS, fun U hU hW => ⟨rfl, by show js_F B K aV U U.heap; rw [hU]; exact js_mv hW.alike (js_kp hJ hS.2.1)⟩⟩ rfl rfl hls.1 rfl (by rw [pm_cs_map]; show 2 * 0 + _ ≤ 8; simp only [pm_cs, List.map_cons, List.sum_cons, Value.category] at hcs ⊢; omega) hd ⟨hrc, hrs⟩) (fun _ _ _ h => h) (kk H locs rfl rfl hre hlo)
    · cases h
  · -- String.charAt
    rename_i j u r
    split at h
    · rename_i hu
      cases h
      obtain ⟨hu, hj0, hj1⟩ := hu
      have hq : q.1 = .invokevirtual i := by
        rcases hq with hq | hq | hq
        · exact hq
        · rcases v2 hq with h0 | h0 | h0 <;> omega
        · rcases v3 hq with h0 | h0 | h0 <;> omega
      rw [hq] at hd
      obtain ⟨aV, hJ⟩ := hstr.2.2.2
      have ej : Value.int (nI j.toNatClampNeg) = Value.int j := by
        obtain ⟨n, hn, rfl⟩ := nI_of hj0
        rw [nI_clamp hn]
      refine pl_with hlo (fun hS => ?_)
      have hch := js_chr l B K aV hu hj1
      rw [ej] at hch
      exact js_af (r := some (.int (pm_ch u j.toNatClampNeg))) (rest := r.map (pm_e B K)) (va_runV (C := "java/lang/String") (y := yJ0_charAt_5068e) (As := [.int j]) (b := K u) (rest := r.map (pm_e B K)) ⟨hx, hb, hml, hown, hts⟩ (hch) ⟨callB_of 1 hts (js_gi js_chr_c) rfl rfl rfl (hts _ js_chr_i) (hts _ hlink) ⟨by decide, by decide, by decide +kernel⟩ ⟨by show 3 + 1 ≤ _; omega, by show 8 + (2 + 11) + 60 * 3 ≤ _; omega⟩, hts _ js_chr_n, hts _ js_chr_e⟩ ⟨js_bl B K aV _, vk_recv hJ.1 hu hS, fun U hU hW => ⟨rfl, by show js_F B K aV U U.heap; rw [hU]; exact js_mv hW.alike (js_kp hJ hS.2.1)⟩⟩ rfl rfl hls.1 rfl (by rw [pm_cs_map]; show 2 * 0 + _ ≤ 8; simp only [pm_cs, List.map_cons, List.sum_cons, Value.category] at hcs ⊢; omega) hd ⟨hrc, hrs⟩) (fun _ _ _ h => h) (kk H locs rfl rfl hre hlo)
    · cases h
  · cases h
end PL
