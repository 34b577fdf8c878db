/-! the law, walked over the pure machine: by program (wip/whole/gen4.py) -/
def ob_X : List (Nat × Nat × Nat) := [(107, 150, 5), (108, 151, 1), (109, 184, 0), (110, 183, 0), (111, 199, 1), (112, 200, 2), (113, 201, 2), (114, 202, 2), (115, 203, 1), (116, 220, 4), (117, 221, 0), (118, 222, 1), (119, 223, 2), (120, 218, 0), (121, 224, 4), (122, 225, 2), (123, 236, 1), (124, 245, 1), (125, 246, 1), (126, 247, 1), (127, 237, 3), (128, 248, 1), (129, 249, 2), (130, 250, 4), (131, 253, 1), (132, 255, 1), (133, 256, 1), (134, 259, 3), (135, 260, 1), (136, 261, 1), (137, 262, 1)]
abbrev ob_aM : Nat := 146
/-- of call j with its numbers: both answer alike, and what is behind holds -/
def ob_ok (j : Nat) (as : List Int32) (w : pm_H) (I : pm_H → Prop) : Prop := ∃ (f : Nat) (r : Int32) (w1 w2 : pm_H), pm_run f 1000 (ob_X.getD j (0, 0, 0)).1 0 (lv_args 0 (.ref 0 :: (as.take (ob_X.getD j (0, 0, 0)).2.2).map Value.int)) [] w = some (some (.int r), w1) ∧ pm_run f 1000 (ob_X.getD j (0, 0, 0)).2.1 0 (lv_args 0 (.ref ob_aM :: (as.take (ob_X.getD j (0, 0, 0)).2.2).map Value.int)) [] w1 = some (some (.int r), w2) ∧ (∃ fs, w1[ob_aM]? = some (0, 12, fs)) ∧ I w2
def ob_rm (w : pm_H) : Prop := w.length ≤ 600000 ∧ pm_sz w ≤ 7302249 ∧ (∃ fs, w[0]? = some (0, 11, fs)) ∧ ∃ fs, w[ob_aM]? = some (0, 12, fs)
section LW
variable {p : Program} {l : Launch} {e : Env} {s : State} {m : MethodId} {below : List Frame} {meth : Method} {c : Code} {H : Heap} {locs : List Loc} {Q : State → Prop}
variable {pc b L : Nat} {xs : Nat → Int32} {w w1 : pm_H} {D : va_G} {K : Nat → Nat} {ls : Array Slot} {rest : List Value}
def lw_cx (p : Program) (s : State) (m : MethodId) (meth : Method) (c : Code) (b L : Nat) (xs : Nat → Int32) (D : va_G) (K : Nat → Nat) : Prop := lw_At p s m meth c b L xs ∧ va_K D pm_cl [] s ∧ pm_xs s.heap.size K s
theorem lw_old {R : Room} {args : Array Value} {T : State} {cells slots : Nat} (X : Stand p l e R s m args below meth c T locs cells slots) (hlo : ∀ x ∈ locs, s.heap.size ≤ x.base) {a : Nat} {cell : Cell} (h : s.heap[a]? = some cell) : T.heap[a]? = some cell := by
  obtain ⟨-, -, -, -, -, hs⟩ := X.same
  obtain ⟨c', h1, h2, h3, h4⟩ := hs a cell h
  have ha : a < s.heap.size := (Array.getElem?_eq_some_iff.mp h).1
  have e1 : c'.slots = cell.slots := by
    apply Array.ext_getElem?
    intro i
    exact h4 i (fun hi => by have := hlo _ hi; exact absurd this (Nat.not_le.mpr ha))
  rw [e1] at h2
  have e2 : c' = cell := h2
  rw [e2] at h1
  exact h1
theorem lw_gts (C : lw_cx p s m meth c b L xs D K) : ∀ w ∈ lw_g, w.before #[Value.ref b] s = true := fun w hw => C.1.2.2.2.2.2.1 w (List.mem_filter.mp hw).1
theorem lw_sld {i : Nat} (C : lw_cx p s m meth c b L xs D K) (hlo : ∀ x ∈ locs, s.heap.size ≤ x.base) (hi : i < L) (hL : L < 2 ^ 31) (hdg : decode code pc = .ok (.iaload, 1))
    (kk : W p l e room_1 s m #[Value.ref b] below meth c H locs w.length (pm_sz w) Q (F0 m (pc + 1) ls (.int (xs i) :: rest))) : W p l e room_1 s m #[Value.ref b] below meth c H locs w.length (pm_sz w) Q (F0 m pc ls (.int (nI i) :: .ref b :: rest)) := by
  obtain ⟨⟨hx, hb, hr, hml, hown, hts, hX, hbl, hlocks, hgv⟩, hK, hstr⟩ := C
  obtain ⟨scr, h1, h2, h3, h4, h5⟩ := hX
  have hc : (nI i).toNatClampNeg = i := nI_clamp (Nat.lt_trans hi hL)
  have hin : ¬ (nI i < 0 ∨ scr.slots.size ≤ (nI i).toNatClampNeg) := by
    rw [h4, hc]
    rintro (h | h)
    · exact nI_pos (Nat.lt_trans hi hL) h
    · exact absurd hi (Nat.not_lt.mpr h)
  have hv : scr.slots[(nI i).toNatClampNeg]? = some (.int (xs i)) := by
    rw [hc]
    exact h5 i hi
  have key : H[b]? = some scr → W p l e room_1 s m #[Value.ref b] below meth c H locs w.length (pm_sz w) Q (F0 m pc ls (.int (nI i) :: .ref b :: rest)) := fun h1' => W.iald hx hb h1' h2 h3 hin hv rfl rfl hdg kk
  intro T hT X
  have h1' : H[b]? = some scr := hT ▸ lw_old X hlo h1
  exact key h1' T hT X
theorem lw_sln (C : lw_cx p s m meth c b L xs D K) (hlo : ∀ x ∈ locs, s.heap.size ≤ x.base) (hdg : decode code pc = .ok (.arraylength, 1))
    (kk : W p l e room_1 s m #[Value.ref b] below meth c H locs w.length (pm_sz w) Q (F0 m (pc + 1) ls (.int (nI L) :: rest))) : W p l e room_1 s m #[Value.ref b] below meth c H locs w.length (pm_sz w) Q (F0 m pc ls (.ref b :: rest)) := by
  obtain ⟨⟨hx, hb, hr, hml, hown, hts, hX, hbl, hlocks, hgv⟩, hK, hstr⟩ := C
  obtain ⟨scr, h1, h2, h3, h4, h5⟩ := hX
  have hn : scr.slots.size.toInt32 = nI L := by rw [h4]; rfl
  have key : H[b]? = some scr → W p l e room_1 s m #[Value.ref b] below meth c H locs w.length (pm_sz w) Q (F0 m pc ls (.ref b :: rest)) := fun h1' => W.alen hx hb h1' h2 hn rfl rfl hdg kk
  intro T hT X
  have h1' : H[b]? = some scr := hT ▸ lw_old X hlo h1
  exact key h1' T hT X
theorem lw_new {ci i : Nat} (C : lw_cx p s m meth c b L xs D K) (hre : pm_re D s.heap.size K s w H) (hci : ci < 13) (hlink : Cond.classLink R_law i (pm_R ci) ∈ lw_tbl) (h1 : w.length + 1 ≤ 600000) (h2 : pm_sz w + pm_cN ci ≤ 7302249) (hdg : decode code pc = .ok (.new i, 3))
    (kk : ∀ H' : Heap, pm_re D s.heap.size K s (w ++ [(0, ci, pm_D.getD ci [])]) H' → W p l e room_1 s m #[Value.ref b] below meth c H' locs (w ++ [(0, ci, pm_D.getD ci [])]).length (pm_sz (w ++ [(0, ci, pm_D.getD ci [])])) Q (F0 m (pc + 3) ls (.ref (s.heap.size + w.length) :: rest))) :
    W p l e room_1 s m #[Value.ref b] below meth c H locs w.length (pm_sz w) Q (F0 m pc ls rest) := by
  have hts := lw_gts C
  obtain ⟨⟨hx, hb, hr, hml, hown, -, hX, hbl, hlocks, hgv⟩, hK, hstr⟩ := C
  have hKn := hK.1 ci _ (pm_cl_at ci hci)
  refine W.newcK hx hb hown (hts _ (lw_g_in hlink rfl)) (hts _ (pm_hinst hci).1) (hts _ (pm_hinst hci).2) rfl hdg h1 h2 hKn.2.1 rfl fun H1 kC hkC e1 z1 o1 => ?_
  have hk := kk H1 (hre.push ⟨fun _ => ⟨hci, pm_hlenD hci, ?_⟩, (fun hq => by cases hq)⟩ z1 o1)
  · rw [List.length_append, pm_sz_push, pm_hlenD hci] at hk
    show W p l e room_1 s m #[Value.ref b] below meth c H1 locs (w.length + 1) (pm_sz w + pm_cN ci) Q (F0 m (pc + 3) ls (.ref H.size :: rest))
    rw [hre.1]
    exact hk
  · rw [← hre.1]
    refine (u_born (pm_ft ci) hts (pm_hin hci) hKn hkC e1 (pm_hty hci)).to (fun j hj => ?_)
    show defaultValue (pm_ft ci j) = pm_e s.heap.size K ((pm_D.getD ci []).getD j .null)
    rw [← pm_hdv hci j hj]
    exact (pm_e_dv _).symm
theorem lw_cal {i k f a : Nat} {As fs : List Value} {r : Int32} (C : lw_cx p s m meth c b L xs D K) (hre : pm_re D s.heap.size K s w H) (hlo : ∀ x ∈ locs, s.heap.size ≤ x.base) (hls : ls.size = 4) (hk : k < 264) (hka : pm_k k = 0) (hlink : Cond.methodLink R_law i (pm_y k) ∈ lw_tbl) (hrun : pm_run f 1000 k 0 (lv_args 0 (.ref a :: As)) [] w = some (some (.int r), w1))
    (hrc : w[a]? = some (0, pm_o k, fs)) (hn : As.length = pm_a k) (hsl : (lg_sl (.ref a :: As)).length ≤ pm_n k) (hcs : (rest.map fun v => v.category).sum ≤ 8) (hr1 : w1.length ≤ 600000) (hr2 : pm_sz w1 ≤ 7302249) (hdg : decode code pc = .ok (.invokevirtual i, 3))
    (kk : ∀ (H' : Heap) (locs' : List Loc), pm_re D s.heap.size K s w1 H' → (∀ x ∈ locs', s.heap.size ≤ x.base) → W p l e room_1 s m #[Value.ref b] below meth c H' locs' w1.length (pm_sz w1) Q (F0 m (pc + 3) ls (.int r :: rest))) :
    W p l e room_1 s m #[Value.ref b] below meth c H locs w.length (pm_sz w) Q (F0 m pc ls ((As.map (pm_e s.heap.size K)).reverse ++ .ref (s.heap.size + a) :: rest)) := by
  refine pl_with (B := s.heap.size) hlo (fun hS => ?_)
  have hts := lw_gts C
  obtain ⟨⟨hx, hb, hr, hml, hown, -, hX, hbl, hlocks, hgv⟩, hK, hstr⟩ := C
  obtain ⟨g1, g2, g3, g4, g5, g6, g7, g8, g9⟩ := pn_mt hk
  rw [hka, if_neg (by decide)] at g3
  have hmono := pn_mono _ _ _ _ _ _ _ _ _ hrun
  have hM := pr_met (l := l) (D := D) (B := s.heap.size) (K := K) (d := 1000) (r := some (.int r)) (w := w) (w1 := w1) (AL := .ref a :: As) hk hsl hmono (fun p e R s m args below meth c H locs ls cells slots CT ST C1 hre1 hls1 hlo1 hfr1 hloc1 a1 a2 a3 a4 => pm_sound l D _ K _ _ _ _ _ _ _ _ _ hrun p e R s m args below meth c H locs ls cells slots CT ST C1 hre1 hls1 hlo1 hfr1 hloc1 a1 a2 a3 a4)
  obtain ⟨o1, o2, cellV, o3, o4, o5, -⟩ := ps_obj hre hrc
  have hcls := (hK.1 (pm_o k) _ (pm_cl_at (pm_o k) o1)).2
  have hR : 1000 + 1 ≤ room_1.frames ∧ 8 + (pm_n k + 11) + 60 * 1000 ≤ room_1.locals := ⟨by decide, by show _ ≤ 84000; omega⟩
  have e1 : w.length + (w1.length - w.length) = w1.length := by omega
  have e2 : pm_sz w + (pm_sz w1 - pm_sz w) = pm_sz w1 := by omega
  refine pn_after (r1 := some (.int r)) (D := D) (B := s.heap.size) (K := K) (w1 := w1) (mc := w1.length - w.length) (ms := pm_sz w1 - pm_sz w) (rest := rest) (va_runV (As := As.map (pm_e s.heap.size K)) (b := s.heap.size + a) ⟨hx, hb, hml, hown, hts⟩ hM ⟨callB_of (pm_a k) hts (pn_gi hk) rfl rfl rfl (hts _ g2) (hts _ (lw_g_in hlink rfl)) g7 hR, hts _ g3, hts _ (g4 hka)⟩ ⟨pr_blind D s.heap.size K w _, ⟨cellV, o3, by rw [o5]; rfl, by rw [g5, o4]; exact hcls.1⟩, fun U hU hW => ⟨rfl, by rw [hU]; exact hre.moved hW.alike, va_K.moved hW.alike hK, hstr.warm hW (fun a h1 h2 => by rw [hU]; exact hS.2.1 a h1 h2)⟩⟩ rfl (by rw [List.length_map]; exact hn) hls rfl (by show 2 * 0 + _ ≤ 8; omega) hdg ⟨by show _ ≤ 600000; omega, by show _ ≤ 7302249; omega⟩) (fun u oc t hh => hh) hlo ?_
  rw [e1, e2]
  exact kk
theorem lw_ini {i k f a : Nat} {fs : List Value} (C : lw_cx p s m meth c b L xs D K) (hre : pm_re D s.heap.size K s w H) (hlo : ∀ x ∈ locs, s.heap.size ≤ x.base) (hls : ls.size = 4) (hk : k < 264) (hka : pm_k k = 2) (hlink : Cond.methodLink R_law i (pm_y k) ∈ lw_tbl) (hrun : pm_run f 1000 k 0 (lv_args 0 [.ref a]) [] w = some (none, w1))
    (hrc : w[a]? = some (0, pm_o k, fs)) (hn : 0 = pm_a k) (hsl : 1 ≤ pm_n k) (hcs : (rest.map fun v => v.category).sum ≤ 8) (hr1 : w1.length ≤ 600000) (hr2 : pm_sz w1 ≤ 7302249) (hdg : decode code pc = .ok (.invokespecial i, 3))
    (kk : ∀ (H' : Heap) (locs' : List Loc), pm_re D s.heap.size K s w1 H' → (∀ x ∈ locs', s.heap.size ≤ x.base) → W p l e room_1 s m #[Value.ref b] below meth c H' locs' w1.length (pm_sz w1) Q (F0 m (pc + 3) ls rest)) :
    W p l e room_1 s m #[Value.ref b] below meth c H locs w.length (pm_sz w) Q (F0 m pc ls (.ref (s.heap.size + a) :: rest)) := by
  refine pl_with (B := s.heap.size) hlo (fun hS => ?_)
  have hts := lw_gts C
  obtain ⟨⟨hx, hb, hr, hml, hown, -, hX, hbl, hlocks, hgv⟩, hK, hstr⟩ := C
  obtain ⟨g1, g2, g3, g4, g5, g6, g7, g8, g9⟩ := pn_mt hk
  rw [hka, if_neg (by decide)] at g3
  have hmono := pn_mono _ _ _ _ _ _ _ _ _ hrun
  have hM := pr_met (l := l) (D := D) (B := s.heap.size) (K := K) (d := 1000) (r := none) (w := w) (w1 := w1) (AL := [.ref a]) hk hsl hmono (fun p e R s m args below meth c H locs ls cells slots CT ST C1 hre1 hls1 hlo1 hfr1 hloc1 a1 a2 a3 a4 => pm_sound l D _ K _ _ _ _ _ _ _ _ _ hrun p e R s m args below meth c H locs ls cells slots CT ST C1 hre1 hls1 hlo1 hfr1 hloc1 a1 a2 a3 a4)
  have hR : 1000 + 1 ≤ room_1.frames ∧ 8 + (pm_n k + 11) + 60 * 1000 ≤ room_1.locals := ⟨by decide, by show _ ≤ 84000; omega⟩
  have e1 : w.length + (w1.length - w.length) = w1.length := by omega
  have e2 : pm_sz w + (pm_sz w1 - pm_sz w) = pm_sz w1 := by omega
  have hw1 : pr_ws k = Cond.code (pm_y k) (pm_c k) (pm_n k) none :: lw_g := by
    show Cond.code (pm_y k) (pm_c k) (pm_n k) (pm_r k) :: lw_g = _
    rw [(g9 hka).2]
  refine pn_after (r1 := none) (D := D) (B := s.heap.size) (K := K) (w1 := w1) (mc := w1.length - w.length) (ms := pm_sz w1 - pm_sz w) (rest := rest) (va_runI (As := []) (b := s.heap.size + a) ⟨hx, hb, hml, hown, hts⟩ hM ⟨callB_of (pm_a k) hts (pn_gi hk) hw1 rfl rfl (hts _ g2) (hts _ (lw_g_in hlink rfl)) g7 hR, (g9 hka).1, hts _ g3⟩ ⟨pr_blind D s.heap.size K w _, fun U hU hW => ⟨rfl, by rw [hU]; exact hre.moved hW.alike, va_K.moved hW.alike hK, hstr.warm hW (fun a h1 h2 => by rw [hU]; exact hS.2.1 a h1 h2)⟩⟩ rfl hn hls rfl (by show 2 * 0 + _ ≤ 8; omega) hdg ⟨by show _ ≤ 600000; omega, by show _ ≤ 7302249; omega⟩) (fun u oc t hh => hh) hlo ?_
  rw [e1, e2]
  exact kk
end LW
