/-! the pure machine is sound: what it answers, the machine answers -/
theorem pn_ao : (List.range 264).all (fun k => (pm_T.getD k []).all (fun x => match x.2.1 with
  | .anewarray _ => x.2.2.2.1 == 0 || (x.2.2.2.1 == 5 || x.2.2.2.1 == 7)
  | .areturn => match pm_r k with
    | some (.object _) => true
    | _ => false
  | _ => true)) = true := by decide +kernel
theorem pn_I {k pc : Nat} {q : pm_Q} (h : pm_I k pc = some q) : k < 264 ∧ (pc, q) ∈ pm_T.getD k [] := by
  unfold pm_I at h
  have hk : k < 264 := by
    by_cases hk : k < 264
    · exact hk
    · rw [List.getD_eq_getElem?_getD, List.getElem?_eq_none (by rw [pm_Tlen]; omega)] at h
      cases h
  refine ⟨hk, ?_⟩
  cases hf : (pm_T.getD k []).find? (fun x => x.1 == pc) with
  | none => rw [hf] at h; cases h
  | some x =>
    rw [hf] at h
    cases h
    have h1 := List.mem_of_find?_eq_some hf
    have h2 : x.1 = pc := by have := List.find?_some hf; simpa using this
    rw [← h2]
    exact h1
theorem pn_ck {k pc : Nat} {q : pm_Q} (h : pm_I k pc = some q) : decode (pm_c k) pc = .ok (q.1, q.2.1) ∧ q.2.1 = pm_len q.1 q.2.1 ∧ pm_lnk k pc q = true := by
  obtain ⟨hk, hm⟩ := pn_I h
  have h1 := List.all_eq_true.mp (pm_ckall k hk) _ hm
  simp only [pm_ck, Bool.and_eq_true, decide_eq_true_eq, beq_iff_eq] at h1
  exact h1
theorem pn_mt {k : Nat} (h : k < 264) : Cond.code (pm_y k) (pm_c k) (pm_n k) (pm_r k) ∈ lw_g ∧ Cond.initialized (pm_y k).cls ∈ lw_g ∧ (if pm_k k = 1 then Cond.static (pm_y k) ∈ lw_g else Cond.instanceMethod (pm_y k) ∈ lw_g) ∧ (pm_k k = 0 → Cond.selects (pm_y k).cls (pm_y k) (pm_y k) ∈ lw_g) ∧ (pm_y k).cls = pm_R (pm_o k) ∧ plainName (pm_y k).cls = true ∧ ((pm_y k).cls ≠ "java/lang/invoke/MethodHandle" ∧ (pm_y k).cls ≠ "java/lang/invoke/VarHandle" ∧ (parseMethodDescriptor (pm_y k).desc).map (fun d => d.parameters.length) = some (pm_a k)) ∧ pm_n k ≤ 20 ∧ (pm_k k = 2 → (pm_y k).name = "<init>" ∧ pm_r k = none) := by
  have h1 := pm_mok k h
  simp only [pm_mk, Bool.and_eq_true] at h1
  obtain ⟨a1, a2, a3, a4, a5, a6, a7, a8, a9, a10, a11, a12⟩ := h1
  refine ⟨lw_g_in (pm_cwall k h) rfl, lw_g_in (pm_w1_in a1) rfl, ?_, fun hk => ?_, of_decide_eq_true a4, a5, ⟨of_decide_eq_true a6, of_decide_eq_true a7, of_decide_eq_true a8⟩, of_decide_eq_true a9, fun hk => ?_⟩
  · split at a2
    · rename_i hk; rw [if_pos hk]; exact lw_g_in (pm_w1_in a2) rfl
    · rename_i hk; rw [if_neg hk]; exact lw_g_in (pm_w1_in a2) rfl
  · rw [if_pos hk] at a3; exact lw_g_in (pm_w1_in a3) rfl
  · rw [if_pos hk, Bool.and_eq_true] at a10
    exact ⟨of_decide_eq_true a10.1, of_decide_eq_true a10.2⟩
theorem pn_lib {t : Nat} {st st1 : List Value} {w w1 : pm_H} (h : pm_lib t st w = some (st1, w1)) : w1.length = w.length ∧ pm_sz w1 = pm_sz w := by
  unfold pm_lib at h
  split at h
  · cases h; exact ⟨rfl, rfl⟩
  · cases h; exact ⟨rfl, rfl⟩
  · cases h; exact ⟨rfl, rfl⟩
  · cases h; exact ⟨rfl, rfl⟩
  · cases h; exact ⟨rfl, rfl⟩
  · split at h
    · rename_i n dp y sp u r vs us hwa hwb
      split at h
      · rename_i hc
        cases h
        exact ⟨by rw [List.length_set], pm_sz_set hwb (pl_cpy_len vs us hc.2.2.2.2.1 hc.2.2.2.2.2)⟩
      · cases h
    · cases h
  · split at h
    · cases h; exact ⟨rfl, rfl⟩
    · cases h
  · split at h
    · cases h; exact ⟨rfl, rfl⟩
    · cases h
  · cases h
theorem pn_set {w : pm_H} {a : Nat} {c0 c1 : pm_C} (h : w[a]? = some c0) (hl : c1.2.2.length = c0.2.2.length) : w.length ≤ (w.set a c1).length ∧ pm_sz w ≤ pm_sz (w.set a c1) := by
  rw [List.length_set, pm_sz_set h hl]
  exact ⟨Nat.le_refl _, Nat.le_refl _⟩
theorem pn_psh {w : pm_H} {c : pm_C} : w.length ≤ (w ++ [c]).length ∧ pm_sz w ≤ pm_sz (w ++ [c]) := by
  rw [List.length_append, pm_sz_push]
  exact ⟨Nat.le_add_right _ _, Nat.le_add_right _ _⟩
theorem pn_wr {w w1 : pm_H} {a t : Nat} {j : Int32} {v : Value} (h : pm_wr w a t j v = some w1) : w.length ≤ w1.length ∧ pm_sz w ≤ pm_sz w1 := by
  obtain ⟨vs, hw, h0, hi, rfl⟩ := ps_wrr h
  exact pn_set hw (by simp)
set_option maxHeartbeats 4000000 in
theorem pn_step {k pc : Nat} {q : pm_Q} {lv : pm_L} {st : List Value} {w : pm_H} {x : pm_F1} (h : pm_step k q pc lv st w = some x) : w.length ≤ x.2.2.2.length ∧ pm_sz w ≤ pm_sz x.2.2.2 := by
  obtain ⟨pc1, lv1, st1, w1⟩ := x
  obtain ⟨i, ln, a, b, z⟩ := q
  cases i <;> simp only [pm_step, pm_ii, pm_jj, pm_si, pm_sl, pm_sa, Option.map_eq_some_iff] at h <;> (repeat' split at h) <;> first
    | cases h; done
    | (cases h; exact ⟨Nat.le_refl _, Nat.le_refl _⟩)
    | (cases h; exact pn_psh)
    | (obtain ⟨v, -, h⟩ := h; cases h; exact ⟨Nat.le_refl _, Nat.le_refl _⟩)
    | (obtain ⟨v, hv, h⟩ := h; cases h; exact pn_wr hv)
    | (obtain ⟨v, -, h⟩ := Option.map_eq_some_iff.mp h; cases h; exact ⟨Nat.le_refl _, Nat.le_refl _⟩)
    | (obtain ⟨v, hv, h⟩ := Option.map_eq_some_iff.mp h; cases h; exact pn_wr hv)
    | (cases h; exact pn_set (by assumption) (by simp))
theorem pn_mono : ∀ (f d k pc : Nat) (lv : pm_L) (st : List Value) (w : pm_H) (r : Option Value) (w1 : pm_H), pm_run f d k pc lv st w = some (r, w1) → w.length ≤ w1.length ∧ pm_sz w ≤ pm_sz w1 := by
  intro f
  induction f with
  | zero => intro d k pc lv st w r w1 h; cases h
  | succ f ih =>
    intro d k pc lv st w r w1 h
    unfold pm_run at h
    split at h
    · cases h
    · rename_i q hq
      split at h
      · obtain ⟨v, -, h⟩ := Option.map_eq_some_iff.mp h
        cases h
        exact ⟨Nat.le_refl _, Nat.le_refl _⟩
      · split at h
        · split at h
          · cases h
          · split at h
            · split at h
              · rename_i st2 w2 hl
                split at h
                · have h1 := ih _ _ _ _ _ _ _ _ h
                  obtain ⟨e1, e2⟩ := pn_lib hl
                  rw [e1, e2] at h1
                  exact h1
                · cases h
              · cases h
            · split at h
              · split at h
                · rename_i r2 w2 hc
                  have h1 := ih _ _ _ _ _ _ _ _ hc
                  have h2 := ih _ _ _ _ _ _ _ _ h
                  exact ⟨Nat.le_trans h1.1 h2.1, Nat.le_trans h1.2 h2.2⟩
                · cases h
              · cases h
        · split at h
          · rename_i x hx
            have h1 := pn_step hx
            have h2 := ih _ _ _ _ _ _ _ _ h
            exact ⟨Nat.le_trans h1.1 h2.1, Nat.le_trans h1.2 h2.2⟩
          · cases h
theorem pn_gi {k : Nat} (h : k < 264) : GoodIn lw_g (Cond.code (pm_y k) (pm_c k) (pm_n k) (pm_r k) :: lw_g) := by
  intro w hw
  have hg : ∀ w ∈ lw_g, (w.onTables && w.keeps) = true ∨ ∃ ty, w = .arrayClass ty := fun w hw => good_of_word (List.mem_filter.mp hw).2
  rcases List.mem_cons.mp hw with rfl | hw
  · exact ⟨(pn_mt h).1, hg _ (pn_mt h).1⟩
  · exact ⟨hw, hg w hw⟩
section PN
variable {p : Program} {l : Launch} {e : Env} {R : Room} {s : State} {m : MethodId} {args : Array Value} {below : List Frame} {meth : Method} {c : Code} {H : Heap} {locs : List Loc} {cells slots : Nat} {Q : State → Prop}
variable {k pc pc1 : Nat} {lv lv1 : pm_L} {st st1 : List Value} {w w1 : pm_H} {D : va_G} {B : Nat} {K : Nat → Nat} {ls : Array Slot}
set_option maxHeartbeats 4000000 in
theorem pn_ss {q : pm_Q} (hI : pm_I k pc = some q) (h : pm_step k q pc lv st w = some (pc1, lv1, st1, w1)) (C : pm_cx p s m args meth c k D B K) (hre : pm_re D B K s w H) (hls : lv_has ls (pm_n k) (lv.map (pm_e2 B K))) (hlo : ∀ x ∈ locs, B ≤ x.base) (hrc : cells + w1.length ≤ R.cells + w.length) (hrs : slots + pm_sz w1 ≤ R.slots + pm_sz w)
    (kk : ∀ (H' : Heap) (locs' : List Loc) (ls' : Array Slot) (cells' slots' : Nat), cells' + w.length = cells + w1.length → slots' + pm_sz w = slots + pm_sz w1 → pm_re D B K s w1 H' → lv_has ls' (pm_n k) (lv1.map (pm_e2 B K)) → (∀ x ∈ locs', B ≤ x.base) → W p l e R s m args below meth c H' locs' cells' slots' Q (F0 m pc1 ls' (st1.map (pm_e B K)))) : W p l e R s m args below meth c H locs cells slots Q (F0 m pc ls (st.map (pm_e B K))) := by
  obtain ⟨hd, hln, hlk⟩ := pn_ck hI
  obtain ⟨hk, hm⟩ := pn_I hI
  have hao := List.all_eq_true.mp (List.all_eq_true.mp pn_ao k (List.mem_range.mpr hk)) _ hm
  obtain ⟨i, ln, a, b, z⟩ := q
  cases i
  case iconst n => obtain rfl : ln = 1 := hln; exact pt_iconst h hd hlk C hre hls hlo hrc hrs kk
  case bipush n => obtain rfl : ln = 2 := hln; exact pt_bipush h hd hlk C hre hls hlo hrc hrs kk
  case sipush n => obtain rfl : ln = 3 := hln; exact pt_sipush h hd hlk C hre hls hlo hrc hrs kk
  case lconst n => obtain rfl : ln = 1 := hln; exact pt_lconst h hd hlk C hre hls hlo hrc hrs kk
  case aconst_null => obtain rfl : ln = 1 := hln; exact pt_aconst_null h hd hlk C hre hls hlo hrc hrs kk
  case ldc i => obtain rfl : ln = 2 := hln; exact pt_ldc h hd hlk C hre hls hlo hrc hrs kk
  case ldc_w i => obtain rfl : ln = 3 := hln; exact pt_ldc_w h hd hlk C hre hls hlo hrc hrs kk
  case ldc2_w i => obtain rfl : ln = 3 := hln; exact pt_ldc2_w h hd hlk C hre hls hlo hrc hrs kk
  case iload i => obtain rfl : ln = 2 := hln; exact pt_iload h hd hlk C hre hls hlo hrc hrs kk
  case iload_n i => obtain rfl : ln = 1 := hln; exact pt_iload_n h hd hlk C hre hls hlo hrc hrs kk
  case lload i => obtain rfl : ln = 2 := hln; exact pt_lload h hd hlk C hre hls hlo hrc hrs kk
  case lload_n i => obtain rfl : ln = 1 := hln; exact pt_lload_n h hd hlk C hre hls hlo hrc hrs kk
  case aload i => obtain rfl : ln = 2 := hln; exact pt_aload h hd hlk C hre hls hlo hrc hrs kk
  case aload_n i => obtain rfl : ln = 1 := hln; exact pt_aload_n h hd hlk C hre hls hlo hrc hrs kk
  case istore i => obtain rfl : ln = 2 := hln; exact pt_istore h hd hlk C hre hls hlo hrc hrs kk
  case istore_n i => obtain rfl : ln = 1 := hln; exact pt_istore_n h hd hlk C hre hls hlo hrc hrs kk
  case lstore i => obtain rfl : ln = 2 := hln; exact pt_lstore h hd hlk C hre hls hlo hrc hrs kk
  case lstore_n i => obtain rfl : ln = 1 := hln; exact pt_lstore_n h hd hlk C hre hls hlo hrc hrs kk
  case astore i => obtain rfl : ln = 2 := hln; exact pt_astore h hd hlk C hre hls hlo hrc hrs kk
  case astore_n i => obtain rfl : ln = 1 := hln; exact pt_astore_n h hd hlk C hre hls hlo hrc hrs kk
  case iinc i n => obtain rfl : ln = 3 := hln; exact pt_iinc h hd hlk C hre hls hlo hrc hrs kk
  case iadd => obtain rfl : ln = 1 := hln; exact pt_iadd h hd hlk C hre hls hlo hrc hrs kk
  case isub => obtain rfl : ln = 1 := hln; exact pt_isub h hd hlk C hre hls hlo hrc hrs kk
  case imul => obtain rfl : ln = 1 := hln; exact pt_imul h hd hlk C hre hls hlo hrc hrs kk
  case iand => obtain rfl : ln = 1 := hln; exact pt_iand h hd hlk C hre hls hlo hrc hrs kk
  case ior => obtain rfl : ln = 1 := hln; exact pt_ior h hd hlk C hre hls hlo hrc hrs kk
  case ixor => obtain rfl : ln = 1 := hln; exact pt_ixor h hd hlk C hre hls hlo hrc hrs kk
  case ishl => obtain rfl : ln = 1 := hln; exact pt_ishl h hd hlk C hre hls hlo hrc hrs kk
  case ishr => obtain rfl : ln = 1 := hln; exact pt_ishr h hd hlk C hre hls hlo hrc hrs kk
  case iushr => obtain rfl : ln = 1 := hln; exact pt_iushr h hd hlk C hre hls hlo hrc hrs kk
  case ladd => obtain rfl : ln = 1 := hln; exact pt_ladd h hd hlk C hre hls hlo hrc hrs kk
  case lsub => obtain rfl : ln = 1 := hln; exact pt_lsub h hd hlk C hre hls hlo hrc hrs kk
  case lmul => obtain rfl : ln = 1 := hln; exact pt_lmul h hd hlk C hre hls hlo hrc hrs kk
  case land => obtain rfl : ln = 1 := hln; exact pt_land h hd hlk C hre hls hlo hrc hrs kk
  case lor => obtain rfl : ln = 1 := hln; exact pt_lor h hd hlk C hre hls hlo hrc hrs kk
  case idiv => obtain rfl : ln = 1 := hln; exact pt_idiv h hd hlk C hre hls hlo hrc hrs kk
  case irem => obtain rfl : ln = 1 := hln; exact pt_irem h hd hlk C hre hls hlo hrc hrs kk
  case ldiv => obtain rfl : ln = 1 := hln; exact pt_ldiv h hd hlk C hre hls hlo hrc hrs kk
  case lrem => obtain rfl : ln = 1 := hln; exact pt_lrem h hd hlk C hre hls hlo hrc hrs kk
  case ineg => obtain rfl : ln = 1 := hln; exact pt_ineg h hd hlk C hre hls hlo hrc hrs kk
  case lshl => obtain rfl : ln = 1 := hln; exact pt_lshl h hd hlk C hre hls hlo hrc hrs kk
  case lshr => obtain rfl : ln = 1 := hln; exact pt_lshr h hd hlk C hre hls hlo hrc hrs kk
  case lcmp => obtain rfl : ln = 1 := hln; exact pt_lcmp h hd hlk C hre hls hlo hrc hrs kk
  case i2l => obtain rfl : ln = 1 := hln; exact pt_i2l h hd hlk C hre hls hlo hrc hrs kk
  case l2i => obtain rfl : ln = 1 := hln; exact pt_l2i h hd hlk C hre hls hlo hrc hrs kk
  case i2b => obtain rfl : ln = 1 := hln; exact pt_i2b h hd hlk C hre hls hlo hrc hrs kk
  case i2c => obtain rfl : ln = 1 := hln; exact pt_i2c h hd hlk C hre hls hlo hrc hrs kk
  case dup => obtain rfl : ln = 1 := hln; exact pt_dup h hd hlk C hre hls hlo hrc hrs kk
  case pop => obtain rfl : ln = 1 := hln; exact pt_pop h hd hlk C hre hls hlo hrc hrs kk
  case dup2 => obtain rfl : ln = 1 := hln; exact pt_dup2 h hd hlk C hre hls hlo hrc hrs kk
  case goto o => obtain rfl : ln = 3 := hln; exact pt_goto h hd hlk C hre hls hlo hrc hrs kk
  case ifCond cnd o => obtain rfl : ln = 3 := hln; exact pt_ifCond h hd hlk C hre hls hlo hrc hrs kk
  case if_icmp cnd o => obtain rfl : ln = 3 := hln; exact pt_if_icmp h hd hlk C hre hls hlo hrc hrs kk
  case ifnull o => obtain rfl : ln = 3 := hln; exact pt_ifnull h hd hlk C hre hls hlo hrc hrs kk
  case ifnonnull o => obtain rfl : ln = 3 := hln; exact pt_ifnonnull h hd hlk C hre hls hlo hrc hrs kk
  case getfield i => obtain rfl : ln = 3 := hln; exact pt_getfield h hd hlk C hre hls hlo hrc hrs kk
  case putfield i => obtain rfl : ln = 3 := hln; exact pt_putfield h hd hlk C hre hls hlo hrc hrs kk
  case arraylength => obtain rfl : ln = 1 := hln; exact pt_arraylength h hd hlk C hre hls hlo hrc hrs kk
  case iaload => obtain rfl : ln = 1 := hln; exact pt_iaload h hd hlk C hre hls hlo hrc hrs kk
  case laload => obtain rfl : ln = 1 := hln; exact pt_laload h hd hlk C hre hls hlo hrc hrs kk
  case baload => obtain rfl : ln = 1 := hln; exact pt_baload h hd hlk C hre hls hlo hrc hrs kk
  case aaload => obtain rfl : ln = 1 := hln; exact pt_aaload h hd hlk C hre hls hlo hrc hrs kk
  case iastore => obtain rfl : ln = 1 := hln; exact pt_iastore h hd hlk C hre hls hlo hrc hrs kk
  case lastore => obtain rfl : ln = 1 := hln; exact pt_lastore h hd hlk C hre hls hlo hrc hrs kk
  case bastore => obtain rfl : ln = 1 := hln; exact pt_bastore h hd hlk C hre hls hlo hrc hrs kk
  case aastore => obtain rfl : ln = 1 := hln; exact pt_aastore h hd hlk C hre hls hlo hrc hrs kk
  case new i => obtain rfl : ln = 3 := hln; exact pt_new h hd hlk C hre hls hlo hrc hrs kk
  case newarray t => obtain rfl : ln = 2 := hln; exact pt_newarray h hd hlk C hre hls hlo hrc hrs kk
  case anewarray i => obtain rfl : ln = 3 := hln; refine pt_anewarray h hd hlk ?_ C hre hls hlo hrc hrs kk; simpa only [Bool.or_eq_true, beq_iff_eq] using hao
  case tableswitch d1 lo hi offs => exact pt_tableswitch h hd C hre hls hlo hrc hrs kk
  all_goals cases h
theorem pn_after {mc ms : Nat} {stM rest : List Value} {r1 : Option Value} {Qa : State → Outcome → State → Prop} (hrun : va_Run p l e R s m args below meth c H locs cells slots mc ms (F0 m pc ls stM) rest Qa (fun q => B ≤ q)) (hQ : ∀ u o t, Qa u o t → o = .returned (r1.map (pm_e B K)) ∧ pm_re D B K t w1 t.heap) (hlo : ∀ x ∈ locs, B ≤ x.base)
    (kk : ∀ (H' : Heap) (locs' : List Loc), pm_re D B K s w1 H' → (∀ x ∈ locs', B ≤ x.base) → W p l e R s m args below meth c H' locs' (cells + mc) (slots + ms) Q (F0 m (pc + 3) ls ((r1.map (pm_e B K)).toList ++ rest))) : W p l e R s m args below meth c H locs cells slots Q (F0 m pc ls stM) := by
  intro T hT X
  obtain ⟨v, st₀, t, T', L, h0, X', hL, e1, e2, hq, stp⟩ := hrun T hT X
  obtain ⟨hv, hre1⟩ := hQ _ _ _ hq
  cases hv
  have hal : s.vm.Alike t.vm := by rw [← e2]; exact X'.warmed.alike
  obtain ⟨t2, a1, b1⟩ := kk T'.heap (locs ++ L) (by rw [e1]; exact hre1.moved hal.symm) (fun x hx => by
    rcases List.mem_append.mp hx with h | h
    · exact hlo x h
    · exact hL x h) T' rfl X'
  exact ⟨t2, stp t2 a1, b1⟩
theorem pn_list {n : Nat} (hn : n ≤ st.length) : st.map (pm_e B K) = ((st.take n).reverse.map (pm_e B K)).reverse ++ (st.drop n).map (pm_e B K) := by
  rw [← List.map_reverse, List.reverse_reverse, ← List.map_append, List.take_append_drop]
theorem pn_ro (r1 : Option Value) (rest : List Value) : (r1.map (pm_e B K)).toList ++ rest.map (pm_e B K) = (r1.toList ++ rest).map (pm_e B K) := by
  cases r1 <;> rfl
end PN
