/-! the pure machine is sound, for whole runs and for calls -/
abbrev pr_Q (D : va_G) (B : Nat) (K : Nat → Nat) (r : Option Value) (w1 : pm_H) : Array Value → State → Outcome → State → Prop := fun _ _ o t => o = .returned (r.map (pm_e B K)) ∧ pm_re D B K t w1 t.heap
abbrev pr_P (D : va_G) (B : Nat) (K : Nat → Nat) (w : pm_H) (As : List Value) : Array Value → State → Prop := va_Pc As (fun U => pm_re D B K U w U.heap ∧ va_K D pm_cl [] U ∧ pm_xs B K U)
abbrev pr_ws (k : Nat) : List Cond := Cond.code (pm_y k) (pm_c k) (pm_n k) (pm_r k) :: lw_g
theorem pr_blind (D : va_G) (B : Nat) (K : Nat → Nat) (w : pm_H) (As : List Value) : FrameBlind (pr_P D B K w As) := by
  intro a U g mk hq
  obtain ⟨q0, q1, q2, q3⟩ := hq
  have hvm : (U.calling g mk a).vm = U.vm := rfl
  have hal : U.vm.Alike (U.calling g mk a).vm := Vm.Alike.refl U.vm
  refine ⟨q0, q1.moved (U := U.calling g mk a) hal, q2.moved hal, fun x hx => vk_R.same hvm (q3.1 x hx), fun a ha => (q3.2.1 a ha).moved hal, fun x hx hq => va_Nw.same rfl hvm.symm (q3.2.2.1 x hx hq), ?_⟩
  obtain ⟨aV, h4⟩ := q3.2.2.2
  exact ⟨aV, js_mv hal h4⟩
section PR
variable {p : Program} {l : Launch} {e : Env} {R : Room} {s : State} {m : MethodId} {args : Array Value} {below : List Frame} {meth : Method} {c : Code} {H : Heap} {locs : List Loc} {cells slots : Nat} {Q : State → Prop}
variable {k pc pc1 : Nat} {lv lv1 : pm_L} {st st1 : List Value} {w w1 : pm_H} {D : va_G} {B : Nat} {K : Nat → Nat} {ls : Array Slot}
set_option maxHeartbeats 1000000 in
theorem pr_ret {q : pm_Q} {r : Option Value} (hI : pm_I k pc = some q) (his : pm_isr q.1 = true) (h : pm_ret k q.1 st = some r) (C : pm_cx p s m args meth c k D B K) (hre : pm_re D B K s w H) (hlo : ∀ x ∈ locs, B ≤ x.base) : W p l e R s m args below meth c H locs cells slots (MQ below (pr_Q D B K r w) args s cells slots (fun q => B ≤ q)) (F0 m pc ls (st.map (pm_e B K))) := by
  obtain ⟨hx, hb, hml, hown, hts, hK, hlocks, hr, hnm, hstr, hk264⟩ := id C
  obtain ⟨hd, hln, hlk⟩ := pn_ck hI
  obtain ⟨hk, hm⟩ := pn_I hI
  have hao := List.all_eq_true.mp (List.all_eq_true.mp pn_ao k (List.mem_range.mpr hk)) _ hm
  have fin : ∀ (v : Option Value) (t : State), t.heap = H → s.WarmedH t.vm → pr_Q D B K v w args s (.returned (v.map (pm_e B K))) t := fun v t ht hW => ⟨rfl, by rw [ht]; exact hre.moved hW.alike⟩
  obtain ⟨i, ln, a, b, z⟩ := q
  unfold pm_ret at h
  split at h
  · rename_i i' st' v hi
    split at h
    · rename_i hb1
      cases h
      cases hi
      obtain rfl : ln = 1 := hln
      unfold pm_rb at hb1
      split at hb1
      · rename_i hrt
        exact W.iret hx hb (hr.trans hrt) (fin (some (.int v))) hlo hd hlocks
      · rename_i hrt
        refine W.zret hx hb (hr.trans hrt) ?_ (fin (some (.int v))) hlo hd hlocks
        simp only [Bool.or_eq_true, beq_iff_eq] at hb1
        rcases hb1 with rfl | rfl <;> rfl
      · cases hb1
    · cases h
  · rename_i i' st' v hi
    split at h
    · rename_i hb1
      cases h
      cases hi
      obtain rfl : ln = 1 := hln
      exact W.lret hx hb (hr.trans hb1) (fin (some (.long v))) hlo hd hlocks
    · cases h
  · rename_i i' st' v hi
    cases h
    cases hi
    obtain rfl : ln = 1 := hln
    cases hrt : pm_r k with
    | none => rw [hrt] at hao; cases hao
    | some ty =>
      rw [hrt] at hao
      cases ty <;> first | cases hao; done | exact W.aret hx hb (hr.trans hrt) (Or.inl ⟨_, rfl⟩) (Or.inr ⟨_, rfl⟩) (fin (some (.ref v))) hlo hd hlocks
  · rename_i i' st' hi
    cases h
    cases hi
    obtain rfl : ln = 1 := hln
    cases hrt : pm_r k with
    | none => rw [hrt] at hao; cases hao
    | some ty =>
      rw [hrt] at hao
      cases ty <;> first | cases hao; done | exact W.aret hx hb (hr.trans hrt) (Or.inl ⟨_, rfl⟩) (Or.inl rfl) (fin (some .null)) hlo hd hlocks
  · rename_i i' st' hi
    split at h
    · rename_i hb1
      cases h
      cases hi
      obtain rfl : ln = 1 := hln
      exact W.vret hx hb (hr.trans hb1) (fin none) hlo hd hlocks
    · cases h
  · cases h
/-- a method's contract out of its body -/
theorem pr_met {d : Nat} {r : Option Value} {AL : List Value} (hk : k < 264) (hsl : (lg_sl AL).length ≤ pm_n k) (hmono : w.length ≤ w1.length ∧ pm_sz w ≤ pm_sz w1)
    (ih : ∀ (p : Program) (e : Env) (R : Room) (s : State) (m : MethodId) (args : Array Value) (below : List Frame) (meth : Method) (c : Code) (H : Heap) (locs : List Loc) (ls : Array Slot) (cells slots CT ST : Nat), pm_cx p s m args meth c k D B K → pm_re D B K s w H → lv_has ls (pm_n k) ((lv_args 0 AL).map (pm_e2 B K)) → (∀ x ∈ locs, B ≤ x.base) → d ≤ R.frames → 60 * d ≤ R.locals → cells + w1.length = CT + w.length → slots + pm_sz w1 = ST + pm_sz w → CT ≤ R.cells → ST ≤ R.slots →
      W p l e R s m args below meth c H locs cells slots (MQ below (pr_Q D B K r w1) args s CT ST (fun q => B ≤ q)) (F0 m 0 ls ([].map (pm_e B K)))) :
    Met l (pm_y k) (pr_ws k) ({ frames := d, cells := w1.length - w.length, slots := pm_sz w1 - pm_sz w, locals := 60 * d } : Room) (pr_P D B K w (AL.map (pm_e B K))) (pr_Q D B K r w1) (w1.length - w.length) (pm_sz w1 - pm_sz w) (fun q => B ≤ q) := by
  obtain ⟨g1, g2, g3, g4, g5, g6, g7, g8, g9⟩ := pn_mt hk
  refine Met.ofW (cc := pm_c k) (maxL := pm_n k) (ret := pm_r k) g6 rfl ?_
  intro p e s m args below meth c s₁ BL hml hv
  obtain ⟨rfl, hre, hK, hxs⟩ := hv
  have hts := atoms_spec (ws := pr_ws k) BL.pre
  have hown : s.vm.findClass (pm_y k).cls = some m.cls := findClass_of_methodNamed BL.named
  rw [g5] at hown
  have hnm : meth.name = (pm_y k).name := (name_of_methodNamed BL.named BL.method).1
  rw [lg_entry_eq]
  have hl := lv_entry (AL.map (pm_e B K)) (n := pm_n k) (by rw [pm_sl_map]; exact hsl)
  rw [pm_args_map] at hl
  exact ih p e _ s m _ below meth c s.heap [] _ 0 0 _ _ ⟨BL.exec, BL.bytes, hml, hown, fun w hw => hts w (List.mem_cons_of_mem _ hw), hK, BL.notSynchronized, BL.returns, hnm, hxs, hk⟩ hre hl (fun _ h => by cases h) (Nat.le_refl _) (Nat.le_refl _) (by omega) (by omega) (Nat.le_refl _) (Nat.le_refl _)
end PR
