/-! String.length and String.charAt on the constants of the class: by program (wip/whole/gen5.py) -/
theorem dJ0_length_8abf5_0 : decode cJ0_length_8abf5 0 = .ok (.aload_n 0, 1) := by decide +kernel
theorem dJ0_length_8abf5_1 : decode cJ0_length_8abf5 1 = .ok (.getfield 9, 3) := by decide +kernel
theorem dJ0_length_8abf5_4 : decode cJ0_length_8abf5 4 = .ok (.arraylength, 1) := by decide +kernel
theorem dJ0_length_8abf5_5 : decode cJ0_length_8abf5 5 = .ok (.aload_n 0, 1) := by decide +kernel
theorem dJ0_length_8abf5_6 : decode cJ0_length_8abf5 6 = .ok (.invokevirtual 335, 3) := by decide +kernel
theorem dJ0_length_8abf5_9 : decode cJ0_length_8abf5 9 = .ok (.ishr, 1) := by decide +kernel
theorem dJ0_length_8abf5_10 : decode cJ0_length_8abf5 10 = .ok (.ireturn, 1) := by decide +kernel
theorem dJ0_charAt_5068e_0 : decode cJ0_charAt_5068e 0 = .ok (.aload_n 0, 1) := by decide +kernel
theorem dJ0_charAt_5068e_1 : decode cJ0_charAt_5068e 1 = .ok (.invokevirtual 492, 3) := by decide +kernel
theorem dJ0_charAt_5068e_4 : decode cJ0_charAt_5068e 4 = .ok (.ifCond .eq 12, 3) := by decide +kernel
theorem dJ0_charAt_5068e_7 : decode cJ0_charAt_5068e 7 = .ok (.aload_n 0, 1) := by decide +kernel
theorem dJ0_charAt_5068e_8 : decode cJ0_charAt_5068e 8 = .ok (.getfield 9, 3) := by decide +kernel
theorem dJ0_charAt_5068e_11 : decode cJ0_charAt_5068e 11 = .ok (.iload_n 1, 1) := by decide +kernel
theorem dJ0_charAt_5068e_12 : decode cJ0_charAt_5068e 12 = .ok (.invokestatic 495, 3) := by decide +kernel
theorem dJ0_charAt_5068e_15 : decode cJ0_charAt_5068e 15 = .ok (.ireturn, 1) := by decide +kernel
theorem dJ0_charAt_5068e_16 : decode cJ0_charAt_5068e 16 = .ok (.aload_n 0, 1) := by decide +kernel
theorem dJ0_charAt_5068e_17 : decode cJ0_charAt_5068e 17 = .ok (.getfield 9, 3) := by decide +kernel
theorem dJ0_charAt_5068e_20 : decode cJ0_charAt_5068e 20 = .ok (.iload_n 1, 1) := by decide +kernel
theorem dJ0_charAt_5068e_21 : decode cJ0_charAt_5068e 21 = .ok (.invokestatic 498, 3) := by decide +kernel
theorem dJ0_charAt_5068e_24 : decode cJ0_charAt_5068e 24 = .ok (.ireturn, 1) := by decide +kernel
theorem dJ0_coder_7d493_0 : decode cJ0_coder_7d493 0 = .ok (.getstatic 38, 3) := by decide +kernel
theorem dJ0_coder_7d493_3 : decode cJ0_coder_7d493 3 = .ok (.ifCond .eq 10, 3) := by decide +kernel
theorem dJ0_coder_7d493_6 : decode cJ0_coder_7d493 6 = .ok (.aload_n 0, 1) := by decide +kernel
theorem dJ0_coder_7d493_7 : decode cJ0_coder_7d493 7 = .ok (.getfield 15, 3) := by decide +kernel
theorem dJ0_coder_7d493_10 : decode cJ0_coder_7d493 10 = .ok (.goto 4, 3) := by decide +kernel
theorem dJ0_coder_7d493_13 : decode cJ0_coder_7d493 13 = .ok (.iconst 1, 1) := by decide +kernel
theorem dJ0_coder_7d493_14 : decode cJ0_coder_7d493 14 = .ok (.ireturn, 1) := by decide +kernel
theorem dJ0_isLatin1_aae02_0 : decode cJ0_isLatin1_aae02 0 = .ok (.getstatic 38, 3) := by decide +kernel
theorem dJ0_isLatin1_aae02_3 : decode cJ0_isLatin1_aae02 3 = .ok (.ifCond .eq 14, 3) := by decide +kernel
theorem dJ0_isLatin1_aae02_6 : decode cJ0_isLatin1_aae02 6 = .ok (.aload_n 0, 1) := by decide +kernel
theorem dJ0_isLatin1_aae02_7 : decode cJ0_isLatin1_aae02 7 = .ok (.getfield 15, 3) := by decide +kernel
theorem dJ0_isLatin1_aae02_10 : decode cJ0_isLatin1_aae02 10 = .ok (.ifCond .ne 7, 3) := by decide +kernel
theorem dJ0_isLatin1_aae02_13 : decode cJ0_isLatin1_aae02 13 = .ok (.iconst 1, 1) := by decide +kernel
theorem dJ0_isLatin1_aae02_14 : decode cJ0_isLatin1_aae02 14 = .ok (.goto 4, 3) := by decide +kernel
theorem dJ0_isLatin1_aae02_17 : decode cJ0_isLatin1_aae02 17 = .ok (.iconst 0, 1) := by decide +kernel
theorem dJ0_isLatin1_aae02_18 : decode cJ0_isLatin1_aae02 18 = .ok (.ireturn, 1) := by decide +kernel
theorem dJ0_checkIndex_df160_0 : decode cJ0_checkIndex_df160 0 = .ok (.iload_n 0, 1) := by decide +kernel
theorem dJ0_checkIndex_df160_1 : decode cJ0_checkIndex_df160 1 = .ok (.iload_n 1, 1) := by decide +kernel
theorem dJ0_checkIndex_df160_2 : decode cJ0_checkIndex_df160 2 = .ok (.getstatic 1053, 3) := by decide +kernel
theorem dJ0_checkIndex_df160_5 : decode cJ0_checkIndex_df160 5 = .ok (.invokestatic 1059, 3) := by decide +kernel
theorem dJ0_checkIndex_df160_8 : decode cJ0_checkIndex_df160 8 = .ok (.pop, 1) := by decide +kernel
theorem dJ0_checkIndex_df160_9 : decode cJ0_checkIndex_df160 9 = .ok (.return_, 1) := by decide +kernel
theorem dJ1_charAt_3b067_0 : decode cJ1_charAt_3b067 0 = .ok (.iload_n 1, 1) := by decide +kernel
theorem dJ1_charAt_3b067_1 : decode cJ1_charAt_3b067 1 = .ok (.aload_n 0, 1) := by decide +kernel
theorem dJ1_charAt_3b067_2 : decode cJ1_charAt_3b067 2 = .ok (.arraylength, 1) := by decide +kernel
theorem dJ1_charAt_3b067_3 : decode cJ1_charAt_3b067 3 = .ok (.invokestatic 9, 3) := by decide +kernel
theorem dJ1_charAt_3b067_6 : decode cJ1_charAt_3b067 6 = .ok (.aload_n 0, 1) := by decide +kernel
theorem dJ1_charAt_3b067_7 : decode cJ1_charAt_3b067 7 = .ok (.iload_n 1, 1) := by decide +kernel
theorem dJ1_charAt_3b067_8 : decode cJ1_charAt_3b067 8 = .ok (.baload, 1) := by decide +kernel
theorem dJ1_charAt_3b067_9 : decode cJ1_charAt_3b067 9 = .ok (.sipush 255, 3) := by decide +kernel
theorem dJ1_charAt_3b067_12 : decode cJ1_charAt_3b067 12 = .ok (.iand, 1) := by decide +kernel
theorem dJ1_charAt_3b067_13 : decode cJ1_charAt_3b067 13 = .ok (.i2c, 1) := by decide +kernel
theorem dJ1_charAt_3b067_14 : decode cJ1_charAt_3b067 14 = .ok (.ireturn, 1) := by decide +kernel
theorem dJ3_checkIndex_8e157_0 : decode cJ3_checkIndex_8e157 0 = .ok (.iload_n 0, 1) := by decide +kernel
theorem dJ3_checkIndex_8e157_1 : decode cJ3_checkIndex_8e157 1 = .ok (.ifCond .lt 8, 3) := by decide +kernel
theorem dJ3_checkIndex_8e157_4 : decode cJ3_checkIndex_8e157 4 = .ok (.iload_n 0, 1) := by decide +kernel
theorem dJ3_checkIndex_8e157_5 : decode cJ3_checkIndex_8e157 5 = .ok (.iload_n 1, 1) := by decide +kernel
theorem dJ3_checkIndex_8e157_6 : decode cJ3_checkIndex_8e157 6 = .ok (.if_icmp .lt 10, 3) := by decide +kernel
theorem dJ3_checkIndex_8e157_9 : decode cJ3_checkIndex_8e157 9 = .ok (.aload_n 2, 1) := by decide +kernel
theorem dJ3_checkIndex_8e157_10 : decode cJ3_checkIndex_8e157 10 = .ok (.iload_n 0, 1) := by decide +kernel
theorem dJ3_checkIndex_8e157_11 : decode cJ3_checkIndex_8e157 11 = .ok (.iload_n 1, 1) := by decide +kernel
theorem dJ3_checkIndex_8e157_12 : decode cJ3_checkIndex_8e157 12 = .ok (.invokestatic 95, 3) := by decide +kernel
theorem dJ3_checkIndex_8e157_15 : decode cJ3_checkIndex_8e157 15 = .ok (.athrow, 1) := by decide +kernel
theorem dJ3_checkIndex_8e157_16 : decode cJ3_checkIndex_8e157 16 = .ok (.iload_n 0, 1) := by decide +kernel
theorem dJ3_checkIndex_8e157_17 : decode cJ3_checkIndex_8e157 17 = .ok (.ireturn, 1) := by decide +kernel
theorem js_len_c : Cond.code yJ0_length_8abf5 cJ0_length_8abf5 1 (some .int) ∈ lw_g := lw_g_in (pm_tb1 (List.mem_of_getElem? (i := 164) (show tables_1_2[164]? = some (Cond.code yJ0_length_8abf5 cJ0_length_8abf5 1 (some .int)) from rfl))) rfl
theorem js_len_i : Cond.initialized yJ0_length_8abf5.cls ∈ lw_g := lw_g_in (pm_w1_in (i := 128) (by decide +kernel)) rfl
theorem js_len_n : Cond.instanceMethod yJ0_length_8abf5 ∈ lw_g := lw_g_in (pm_w1_in (i := 517) (by decide +kernel)) rfl
theorem js_len_e : Cond.selects yJ0_length_8abf5.cls yJ0_length_8abf5 yJ0_length_8abf5 ∈ lw_g := lw_g_in (pm_w1_in (i := 518) (by decide +kernel)) rfl
theorem js_cod_c : Cond.code yJ0_coder_7d493 cJ0_coder_7d493 1 (some .byte) ∈ lw_g := lw_g_in (pm_tb1 (List.mem_of_getElem? (i := 168) (show tables_1_2[168]? = some (Cond.code yJ0_coder_7d493 cJ0_coder_7d493 1 (some .byte)) from rfl))) rfl
theorem js_cod_i : Cond.initialized yJ0_coder_7d493.cls ∈ lw_g := lw_g_in (pm_w1_in (i := 128) (by decide +kernel)) rfl
theorem js_cod_n : Cond.instanceMethod yJ0_coder_7d493 ∈ lw_g := lw_g_in (pm_w1_in (i := 521) (by decide +kernel)) rfl
theorem js_cod_e : Cond.selects yJ0_coder_7d493.cls yJ0_coder_7d493 yJ0_coder_7d493 ∈ lw_g := lw_g_in (pm_w1_in (i := 522) (by decide +kernel)) rfl
theorem js_chr_c : Cond.code yJ0_charAt_5068e cJ0_charAt_5068e 2 (some .char) ∈ lw_g := lw_g_in (pm_tb1 (List.mem_of_getElem? (i := 174) (show tables_1_2[174]? = some (Cond.code yJ0_charAt_5068e cJ0_charAt_5068e 2 (some .char)) from rfl))) rfl
theorem js_chr_i : Cond.initialized yJ0_charAt_5068e.cls ∈ lw_g := lw_g_in (pm_w1_in (i := 128) (by decide +kernel)) rfl
theorem js_chr_n : Cond.instanceMethod yJ0_charAt_5068e ∈ lw_g := lw_g_in (pm_w1_in (i := 527) (by decide +kernel)) rfl
theorem js_chr_e : Cond.selects yJ0_charAt_5068e.cls yJ0_charAt_5068e yJ0_charAt_5068e ∈ lw_g := lw_g_in (pm_w1_in (i := 528) (by decide +kernel)) rfl
theorem js_lat_c : Cond.code yJ0_isLatin1_aae02 cJ0_isLatin1_aae02 1 (some .boolean) ∈ lw_g := lw_g_in (pm_tb1 (List.mem_of_getElem? (i := 178) (show tables_1_2[178]? = some (Cond.code yJ0_isLatin1_aae02 cJ0_isLatin1_aae02 1 (some .boolean)) from rfl))) rfl
theorem js_lat_i : Cond.initialized yJ0_isLatin1_aae02.cls ∈ lw_g := lw_g_in (pm_w1_in (i := 128) (by decide +kernel)) rfl
theorem js_lat_n : Cond.instanceMethod yJ0_isLatin1_aae02 ∈ lw_g := lw_g_in (pm_w1_in (i := 531) (by decide +kernel)) rfl
theorem js_lat_e : Cond.selects yJ0_isLatin1_aae02.cls yJ0_isLatin1_aae02 yJ0_isLatin1_aae02 ∈ lw_g := lw_g_in (pm_w1_in (i := 532) (by decide +kernel)) rfl
theorem js_lch_c : Cond.code yJ1_charAt_3b067 cJ1_charAt_3b067 2 (some .char) ∈ lw_g := lw_g_in (pm_tb1 (List.mem_of_getElem? (i := 181) (show tables_1_2[181]? = some (Cond.code yJ1_charAt_3b067 cJ1_charAt_3b067 2 (some .char)) from rfl))) rfl
theorem js_lch_i : Cond.initialized yJ1_charAt_3b067.cls ∈ lw_g := lw_g_in (pm_w1_in (i := 129) (by decide +kernel)) rfl
theorem js_lch_s : Cond.static yJ1_charAt_3b067 ∈ lw_g := lw_g_in (pm_w1_in (i := 535) (by decide +kernel)) rfl
theorem js_chk_c : Cond.code yJ0_checkIndex_df160 cJ0_checkIndex_df160 2 none ∈ lw_g := lw_g_in (pm_tb1 (List.mem_of_getElem? (i := 184) (show tables_1_2[184]? = some (Cond.code yJ0_checkIndex_df160 cJ0_checkIndex_df160 2 none) from rfl))) rfl
theorem js_chk_i : Cond.initialized yJ0_checkIndex_df160.cls ∈ lw_g := lw_g_in (pm_w1_in (i := 128) (by decide +kernel)) rfl
theorem js_chk_s : Cond.static yJ0_checkIndex_df160 ∈ lw_g := lw_g_in (pm_w1_in (i := 538) (by decide +kernel)) rfl
theorem js_pre_c : Cond.code yJ3_checkIndex_8e157 cJ3_checkIndex_8e157 3 (some .int) ∈ lw_g := lw_g_in (pm_tb1 (List.mem_of_getElem? (i := 189) (show tables_1_2[189]? = some (Cond.code yJ3_checkIndex_8e157 cJ3_checkIndex_8e157 3 (some .int)) from rfl))) rfl
theorem js_pre_i : Cond.initialized yJ3_checkIndex_8e157.cls ∈ lw_g := lw_g_in (pm_w1_in (i := 130) (by decide +kernel)) rfl
theorem js_pre_s : Cond.static yJ3_checkIndex_8e157 ∈ lw_g := lw_g_in (pm_w1_in (i := 543) (by decide +kernel)) rfl
theorem js_l_cod : Cond.methodLink "java/lang/String" 335 yJ0_coder_7d493 ∈ lw_g := lw_g_in (pm_w1_in (i := 520) (by decide +kernel)) rfl
theorem js_l_lat : Cond.methodLink "java/lang/String" 492 yJ0_isLatin1_aae02 ∈ lw_g := lw_g_in (pm_w1_in (i := 530) (by decide +kernel)) rfl
theorem js_l_lch : Cond.methodLink "java/lang/String" 495 yJ1_charAt_3b067 ∈ lw_g := lw_g_in (pm_w1_in (i := 534) (by decide +kernel)) rfl
theorem js_l_chk : Cond.methodLink "java/lang/StringLatin1" 9 yJ0_checkIndex_df160 ∈ lw_g := lw_g_in (pm_w1_in (i := 537) (by decide +kernel)) rfl
theorem js_l_pre : Cond.methodLink "java/lang/String" 1059 yJ3_checkIndex_8e157 ∈ lw_g := lw_g_in (pm_w1_in (i := 542) (by decide +kernel)) rfl
theorem js_f_val : Cond.fieldLink "java/lang/String" 9 "java/lang/String" "value" "[B" ∈ lw_g := lw_g_in (pm_w1_in (i := 1768) (by decide +kernel)) rfl
theorem js_f_cod : Cond.fieldLink "java/lang/String" 15 "java/lang/String" "coder" "B" ∈ lw_g := lw_g_in (pm_w1_in (i := 1769) (by decide +kernel)) rfl
theorem js_f_cmp : Cond.fieldLink "java/lang/String" 38 "java/lang/String" "COMPACT_STRINGS" "Z" ∈ lw_g := lw_g_in (pm_w1_in (i := 524) (by decide +kernel)) rfl
theorem js_f_sio : Cond.fieldLink "java/lang/String" 1053 "jdk/internal/util/Preconditions" "SIOOBE_FORMATTER" "Ljava/util/function/BiFunction;" ∈ lw_g := lw_g_in (pm_w1_in (i := 540) (by decide +kernel)) rfl
abbrev js_F (B : Nat) (K aV : Nat → Nat) (U : State) (H : Heap) : Prop := vk_S 7 pm_Sl pm_Sb K aV (fun q => B ≤ q) U H ∧ va_Z "java/lang/String" "COMPACT_STRINGS" "Z" (.int 1) (fun q => B ≤ q) U H ∧ va_Zq "jdk/internal/util/Preconditions" "SIOOBE_FORMATTER" "Ljava/util/function/BiFunction;" (fun q => B ≤ q) U H
theorem js_mv {B : Nat} {K aV : Nat → Nat} {u U : State} {H : Heap} (hvm : u.vm.Alike U.vm) (h : js_F B K aV u H) : js_F B K aV U H := ⟨h.1.moved hvm, h.2.1.moved hvm, h.2.2.moved hvm⟩
theorem js_kp {B : Nat} {K aV : Nat → Nat} {U : State} {H H1 : Heap} (h : js_F B K aV U H) (hq : ∀ a : Nat, a < H.size → ¬ B ≤ a → H1[a]? = H[a]?) : js_F B K aV U H1 := ⟨h.1.kept hq, h.2.1.kept hq, h.2.2.kept hq⟩
abbrev js_P (B : Nat) (K aV : Nat → Nat) (As : List Value) : Array Value → State → Prop := va_Pc As (fun U => js_F B K aV U U.heap)
abbrev js_Q (r : Option Value) : Array Value → State → Outcome → State → Prop := fun _ st o t => o = .returned r ∧ t.heap = st.heap
theorem js_bl (B : Nat) (K aV : Nat → Nat) (As : List Value) : FrameBlind (js_P B K aV As) := fun a U g mk h => ⟨h.1, js_mv (U := U.calling g mk a) (Vm.Alike.refl U.vm) h.2⟩
abbrev js_R (n : Nat) : Room := { frames := n, cells := 0, slots := 0, locals := 60 * n }
theorem js_gi {w : Cond} (h : w ∈ lw_g) : GoodIn lw_g (w :: lw_g) := by
  intro x hx
  have hg : ∀ w ∈ lw_g, (w.onTables && w.keeps) = true ∨ ∃ ty, w = .arrayClass ty := fun w hw => good_of_word (List.mem_filter.mp hw).2
  rcases List.mem_cons.mp hx with rfl | hx
  · exact ⟨h, hg _ h⟩
  · exact ⟨hx, hg x hx⟩
section JS
variable {p : Program} {l : Launch} {e : Env} {R : Room} {s : State} {m : MethodId} {args : Array Value} {below : List Frame} {meth : Method} {c : Code} {H : Heap} {locs : List Loc} {cells slots : Nat} {Q : State → Prop} {ls : Array Slot} {pc : Nat}
theorem js_af {stM rest : List Value} {r : Option Value} {Qa : State → Outcome → State → Prop} (hrun : va_Run p l e R s m args below meth c H locs cells slots 0 0 (F0 m pc ls stM) rest Qa (fun _ => False)) (hQ : ∀ u o t, Qa u o t → o = .returned r ∧ t.heap = u.heap)
    (kk : W p l e R s m args below meth c H locs cells slots Q (F0 m (pc + 3) ls (r.toList ++ rest))) : W p l e R s m args below meth c H locs cells slots Q (F0 m pc ls stM) := by
  intro T hT X
  obtain ⟨v, st₀, t, T', L, h0, X', hL, e1, e2, hq, stp⟩ := hrun T hT X
  obtain ⟨hv, hh⟩ := hQ _ _ _ hq
  cases hv
  have hLn : L = [] := by
    cases L with
    | nil => rfl
    | cons a b => exact absurd (hL a List.mem_cons_self) id
  rw [hLn, List.append_nil] at X'
  obtain ⟨t2, a1, b1⟩ := kk T' (by rw [e1, hh, h0]) X'
  exact ⟨t2, stp t2 a1, b1⟩
end JS
theorem js_cod (l : Launch) (B : Nat) (K aV : Nat → Nat) {i : Nat} (hi : i < 7) : Met l yJ0_coder_7d493 (Cond.code yJ0_coder_7d493 cJ0_coder_7d493 1 (some .byte) :: lw_g) (js_R 0) (js_P B K aV [.ref (K i)]) (js_Q (some (.int 0))) 0 0 (fun _ => False) := by
  refine Met.ofW (cc := cJ0_coder_7d493) (maxL := 1) (ret := (some .byte)) (by decide) rfl ?_
  intro p e s m args below meth c s₁ BL hml hv
  obtain ⟨rfl, hF⟩ := hv
  have hx := BL.exec
  have hb := BL.bytes
  have hr := BL.returns
  have hlocks := BL.notSynchronized
  have hts : ∀ w ∈ lw_g, w.before ([.ref (K i)] : List Value).toArray s = true := fun w hw => atoms_spec (ws := Cond.code yJ0_coder_7d493 cJ0_coder_7d493 1 (some .byte) :: lw_g) BL.pre w (List.mem_cons_of_mem _ hw)
  have hown : s.vm.findClass "java/lang/String" = some m.cls := findClass_of_methodNamed BL.named
  have hS : va_S (fun q => B ≤ q) s.heap s.heap [] := va_S.rf
  rw [lg_entry_eq]
  have hl := lv_entry [.ref (K i)] (n := 1) (Nat.le_of_ble_eq_true rfl)
  generalize (lg_sl [.ref (K i)] ++ List.replicate (1 - (lg_sl [.ref (K i)]).length) Slot.unset).toArray = ls at hl ⊢
  refine va_gets hx hb hF.2.1 hS hown (hts _ js_f_cmp) (fun _ h => h) dJ0_coder_7d493_0 ?_
  refine lv_if_eq (tgt := 13) hx hb dJ0_coder_7d493_3 (by decide) (fun hc => absurd hc (by decide)) (fun _ => ?_)
  refine lv_aload_n hx hb dJ0_coder_7d493_6 rfl (lv_at hl 0 rfl) ?_
  refine vk_getf hx hb (hF.1.1 i hi).2.1 hS hown (hts _ js_f_cod) (fun _ h => h) dJ0_coder_7d493_7 ?_
  refine lv_goto (tgt := 14) hx hb dJ0_coder_7d493_10 (by decide) ?_
  exact W.zret hx hb hr rfl (fun t ht hW => ⟨rfl, ht⟩) (fun _ h => by cases h) dJ0_coder_7d493_14 hlocks
theorem js_lat (l : Launch) (B : Nat) (K aV : Nat → Nat) {i : Nat} (hi : i < 7) : Met l yJ0_isLatin1_aae02 (Cond.code yJ0_isLatin1_aae02 cJ0_isLatin1_aae02 1 (some .boolean) :: lw_g) (js_R 0) (js_P B K aV [.ref (K i)]) (js_Q (some (.int 1))) 0 0 (fun _ => False) := by
  refine Met.ofW (cc := cJ0_isLatin1_aae02) (maxL := 1) (ret := (some .boolean)) (by decide) rfl ?_
  intro p e s m args below meth c s₁ BL hml hv
  obtain ⟨rfl, hF⟩ := hv
  have hx := BL.exec
  have hb := BL.bytes
  have hr := BL.returns
  have hlocks := BL.notSynchronized
  have hts : ∀ w ∈ lw_g, w.before ([.ref (K i)] : List Value).toArray s = true := fun w hw => atoms_spec (ws := Cond.code yJ0_isLatin1_aae02 cJ0_isLatin1_aae02 1 (some .boolean) :: lw_g) BL.pre w (List.mem_cons_of_mem _ hw)
  have hown : s.vm.findClass "java/lang/String" = some m.cls := findClass_of_methodNamed BL.named
  have hS : va_S (fun q => B ≤ q) s.heap s.heap [] := va_S.rf
  rw [lg_entry_eq]
  have hl := lv_entry [.ref (K i)] (n := 1) (Nat.le_of_ble_eq_true rfl)
  generalize (lg_sl [.ref (K i)] ++ List.replicate (1 - (lg_sl [.ref (K i)]).length) Slot.unset).toArray = ls at hl ⊢
  refine va_gets hx hb hF.2.1 hS hown (hts _ js_f_cmp) (fun _ h => h) dJ0_isLatin1_aae02_0 ?_
  refine lv_if_eq (tgt := 17) hx hb dJ0_isLatin1_aae02_3 (by decide) (fun hc => absurd hc (by decide)) (fun _ => ?_)
  refine lv_aload_n hx hb dJ0_isLatin1_aae02_6 rfl (lv_at hl 0 rfl) ?_
  refine vk_getf hx hb (hF.1.1 i hi).2.1 hS hown (hts _ js_f_cod) (fun _ h => h) dJ0_isLatin1_aae02_7 ?_
  refine lv_if_ne (tgt := 17) hx hb dJ0_isLatin1_aae02_10 (by decide) (fun hc => absurd rfl hc) (fun _ => ?_)
  refine lv_iconst (v := 1) hx hb dJ0_isLatin1_aae02_13 (by decide) ?_
  refine lv_goto (tgt := 18) hx hb dJ0_isLatin1_aae02_14 (by decide) ?_
  exact W.zret hx hb hr rfl (fun t ht hW => ⟨rfl, ht⟩) (fun _ h => by cases h) dJ0_isLatin1_aae02_18 hlocks
theorem js_alen {p : Program} {l : Launch} {e : Env} {R : Room} {s : State} {m : MethodId} {args : Array Value} {below : List Frame} {meth : Method} {c : Code} {cells slots : Nat} {Q : State → Prop} {ls : Array Slot} {pc t N : Nat} {f : Nat → Value} {A : Nat → Prop} {cc : ByteArray} {rest : List Value} (hx : p.tables.exec = Jvm.exec) (hb : c.code = cc) (hT : va_T .byte t N f A s s.heap) (hdg : decode cc pc = .ok (.arraylength, 1))
    (kk : W p l e R s m args below meth c s.heap [] cells slots Q (F0 m (pc + 1) ls (.int (nI N) :: rest))) : W p l e R s m args below meth c s.heap [] cells slots Q (F0 m pc ls (.ref t :: rest)) := by
  obtain ⟨cell, h1, h2, h3, h4, h5, h6, h7⟩ := hT
  exact W.alen hx hb h1 h2 h5 rfl rfl hdg kk
theorem js_len (l : Launch) (B : Nat) (K aV : Nat → Nat) {i : Nat} (hi : i < 7) : Met l yJ0_length_8abf5 (Cond.code yJ0_length_8abf5 cJ0_length_8abf5 1 (some .int) :: lw_g) (js_R 1) (js_P B K aV [.ref (K i)]) (js_Q (some (.int (nI (pm_Sl.getD i 0))))) 0 0 (fun _ => False) := by
  refine Met.ofW (cc := cJ0_length_8abf5) (maxL := 1) (ret := (some .int)) (by decide) rfl ?_
  intro p e s m args below meth c s₁ BL hml hv
  obtain ⟨rfl, hF⟩ := hv
  have hx := BL.exec
  have hb := BL.bytes
  have hr := BL.returns
  have hlocks := BL.notSynchronized
  have hts : ∀ w ∈ lw_g, w.before ([.ref (K i)] : List Value).toArray s = true := fun w hw => atoms_spec (ws := Cond.code yJ0_length_8abf5 cJ0_length_8abf5 1 (some .int) :: lw_g) BL.pre w (List.mem_cons_of_mem _ hw)
  have hown : s.vm.findClass "java/lang/String" = some m.cls := findClass_of_methodNamed BL.named
  have hS : va_S (fun q => B ≤ q) s.heap s.heap [] := va_S.rf
  rw [lg_entry_eq]
  have hl := lv_entry [.ref (K i)] (n := 1) (Nat.le_of_ble_eq_true rfl)
  generalize (lg_sl [.ref (K i)] ++ List.replicate (1 - (lg_sl [.ref (K i)]).length) Slot.unset).toArray = ls at hl ⊢
  refine lv_aload_n hx hb dJ0_length_8abf5_0 rfl (lv_at hl 0 rfl) ?_
  refine vk_getf hx hb (hF.1.1 i hi).2.2.1 hS hown (hts _ js_f_val) (fun _ h => h) dJ0_length_8abf5_1 ?_
  refine js_alen hx hb (hF.1.1 i hi).2.2.2 dJ0_length_8abf5_4 ?_
  refine lv_aload_n hx hb dJ0_length_8abf5_5 rfl (lv_at hl 0 rfl) ?_
  refine js_af (r := some (.int 0)) (rest := [.int (nI (pm_Sl.getD i 0))]) (va_runV (As := []) (b := K i) ⟨hx, hb, hml, hown, hts⟩ (js_cod l B K aV hi) ⟨callB_of 0 hts (js_gi js_cod_c) rfl rfl rfl (hts _ js_cod_i) (hts _ js_l_cod) ⟨by decide, by decide, by decide +kernel⟩ ⟨Nat.le_of_ble_eq_true rfl, Nat.le_of_ble_eq_true rfl⟩, hts _ js_cod_n, hts _ js_cod_e⟩ ⟨js_bl B K aV _, vk_recv hF.1 hi hS, fun U hU hW => ⟨rfl, by show js_F B K aV U U.heap; rw [hU]; exact js_mv hW.alike hF⟩⟩ rfl rfl hl.1 rfl (lv_room (Nat.le_of_ble_eq_true rfl)) dJ0_length_8abf5_6 ⟨Nat.le_of_ble_eq_true rfl, Nat.le_of_ble_eq_true rfl⟩) (fun _ _ _ h => h) ?_
  refine lv_ishr hx hb dJ0_length_8abf5_9 ?_
  refine lv_topi (fun x ex => ?_)
  have e0 : x = nI (pm_Sl.getD i 0) := by
    rw [ex]
    have : ∀ i, i < 7 → nI (pm_Sl.getD i 0) >>> ((0 : Int32) &&& 31) = nI (pm_Sl.getD i 0) := by decide +kernel
    exact this i hi
  rw [e0]
  exact W.iret hx hb hr (fun t ht hW => ⟨rfl, ht⟩) (fun _ h => by cases h) dJ0_length_8abf5_10 hlocks
theorem js_pre (l : Launch) (B : Nat) (K aV : Nat → Nat) {x y : Int32} {v : Value} (hv0 : v.category = 1) (h0 : ¬ x < 0) (h1 : x < y) : Met l yJ3_checkIndex_8e157 (Cond.code yJ3_checkIndex_8e157 cJ3_checkIndex_8e157 3 (some .int) :: lw_g) (js_R 0) (js_P B K aV [.int x, .int y, v]) (js_Q (some (.int x))) 0 0 (fun _ => False) := by
  refine Met.ofW (cc := cJ3_checkIndex_8e157) (maxL := 3) (ret := (some .int)) (by decide) rfl ?_
  intro p e s m args below meth c s₁ BL hml hv
  obtain ⟨rfl, hF⟩ := hv
  have hx := BL.exec
  have hb := BL.bytes
  have hr := BL.returns
  have hlocks := BL.notSynchronized
  have hts : ∀ w ∈ lw_g, w.before ([.int x, .int y, v] : List Value).toArray s = true := fun w hw => atoms_spec (ws := Cond.code yJ3_checkIndex_8e157 cJ3_checkIndex_8e157 3 (some .int) :: lw_g) BL.pre w (List.mem_cons_of_mem _ hw)
  have hown : s.vm.findClass "jdk/internal/util/Preconditions" = some m.cls := findClass_of_methodNamed BL.named
  have hS : va_S (fun q => B ≤ q) s.heap s.heap [] := va_S.rf
  rw [lg_entry_eq]
  have hl := lv_entry [.int x, .int y, v] (n := 3) (by simp only [lg_sl, List.flatMap_cons, List.flatMap_nil, hv0]; exact Nat.le_of_ble_eq_true rfl)
  generalize (lg_sl [.int x, .int y, v] ++ List.replicate (3 - (lg_sl [.int x, .int y, v]).length) Slot.unset).toArray = ls at hl ⊢
  refine lv_iload_n hx hb dJ3_checkIndex_8e157_0 rfl (lv_at hl 0 rfl) ?_
  refine lv_if_lt (tgt := 9) hx hb dJ3_checkIndex_8e157_1 (by decide) (fun hc => absurd hc h0) (fun _ => ?_)
  refine lv_iload_n hx hb dJ3_checkIndex_8e157_4 rfl (lv_at hl 0 rfl) ?_
  refine lv_iload_n hx hb dJ3_checkIndex_8e157_5 rfl (lv_at hl 1 rfl) ?_
  refine lv_icmp_lt (tgt := 16) hx hb dJ3_checkIndex_8e157_6 (by decide) (fun _ => ?_) (fun hc => absurd h1 hc)
  refine lv_iload_n hx hb dJ3_checkIndex_8e157_16 rfl (lv_at hl 0 rfl) ?_
  exact W.iret hx hb hr (fun t ht hW => ⟨rfl, ht⟩) (fun _ h => by cases h) dJ3_checkIndex_8e157_17 hlocks
theorem js_chk (l : Launch) (B : Nat) (K aV : Nat → Nat) {x y : Int32} (h0 : ¬ x < 0) (h1 : x < y) : Met l yJ0_checkIndex_df160 (Cond.code yJ0_checkIndex_df160 cJ0_checkIndex_df160 2 none :: lw_g) (js_R 1) (js_P B K aV [.int x, .int y]) (js_Q none) 0 0 (fun _ => False) := by
  refine Met.ofW (cc := cJ0_checkIndex_df160) (maxL := 2) (ret := none) (by decide) rfl ?_
  intro p e s m args below meth c s₁ BL hml hv
  obtain ⟨rfl, hF⟩ := hv
  have hx := BL.exec
  have hb := BL.bytes
  have hr := BL.returns
  have hlocks := BL.notSynchronized
  have hts : ∀ w ∈ lw_g, w.before ([.int x, .int y] : List Value).toArray s = true := fun w hw => atoms_spec (ws := Cond.code yJ0_checkIndex_df160 cJ0_checkIndex_df160 2 none :: lw_g) BL.pre w (List.mem_cons_of_mem _ hw)
  have hown : s.vm.findClass "java/lang/String" = some m.cls := findClass_of_methodNamed BL.named
  have hS : va_S (fun q => B ≤ q) s.heap s.heap [] := va_S.rf
  rw [lg_entry_eq]
  have hl := lv_entry [.int x, .int y] (n := 2) (Nat.le_of_ble_eq_true rfl)
  generalize (lg_sl [.int x, .int y] ++ List.replicate (2 - (lg_sl [.int x, .int y]).length) Slot.unset).toArray = ls at hl ⊢
  refine lv_iload_n hx hb dJ0_checkIndex_df160_0 rfl (lv_at hl 0 rfl) ?_
  refine lv_iload_n hx hb dJ0_checkIndex_df160_1 rfl (lv_at hl 1 rfl) ?_
  have key : ∀ v : Value, v.category = 1 → W p l e (headSpec (Cond.code yJ0_checkIndex_df160 cJ0_checkIndex_df160 2 none :: lw_g) (js_R 1)).room s m ([.int x, .int y] : List Value).toArray below meth c s.heap [] 0 0 (MQ below (js_Q none) ([.int x, .int y] : List Value).toArray s 0 0 (fun _ => False)) (F0 m 5 ls [v, .int y, .int x]) := by
    intro v hv0
    refine js_af (r := some (.int x)) (rest := []) (va_runS (As := [.int x, .int y, v]) ⟨hx, hb, hml, hown, hts⟩ (js_pre l B K aV hv0 h0 h1) ⟨callB_of 3 hts (js_gi js_pre_c) rfl rfl rfl (hts _ js_pre_i) (hts _ js_l_pre) ⟨by decide, by decide, by decide +kernel⟩ ⟨Nat.le_of_ble_eq_true rfl, Nat.le_of_ble_eq_true rfl⟩, hts _ js_pre_s⟩ ⟨js_bl B K aV _, fun U hU hW => ⟨rfl, by show js_F B K aV U U.heap; rw [hU]; exact js_mv hW.alike hF⟩⟩ rfl rfl hl.1 rfl (lv_room (Nat.le_of_ble_eq_true rfl)) dJ0_checkIndex_df160_5 ⟨Nat.le_of_ble_eq_true rfl, Nat.le_of_ble_eq_true rfl⟩) (fun _ _ _ h => h) ?_
    refine lv_pop hx hb dJ0_checkIndex_df160_8 rfl ?_
    exact W.vret hx hb hr (fun t ht hW => ⟨rfl, ht⟩) (fun _ h => by cases h) dJ0_checkIndex_df160_9 hlocks
  rcases hF.2.2 with hZ | ⟨t, hZ⟩
  · exact va_gets hx hb hZ hS hown (hts _ js_f_sio) (fun _ h => h) dJ0_checkIndex_df160_2 (key .null rfl)
  · exact va_gets hx hb hZ hS hown (hts _ js_f_sio) (fun _ h => h) dJ0_checkIndex_df160_2 (key (.ref t) rfl)
theorem js_lch (l : Launch) (B : Nat) (K aV : Nat → Nat) {i j : Nat} (hi : i < 7) (hj : j < pm_Sl.getD i 0) : Met l yJ1_charAt_3b067 (Cond.code yJ1_charAt_3b067 cJ1_charAt_3b067 2 (some .char) :: lw_g) (js_R 2) (js_P B K aV [.ref (aV i), .int (nI j)]) (js_Q (some (.int (pm_ch i j)))) 0 0 (fun _ => False) := by
  refine Met.ofW (cc := cJ1_charAt_3b067) (maxL := 2) (ret := (some .char)) (by decide) rfl ?_
  intro p e s m args below meth c s₁ BL hml hv
  obtain ⟨rfl, hF⟩ := hv
  have hx := BL.exec
  have hb := BL.bytes
  have hr := BL.returns
  have hlocks := BL.notSynchronized
  have hts : ∀ w ∈ lw_g, w.before ([.ref (aV i), .int (nI j)] : List Value).toArray s = true := fun w hw => atoms_spec (ws := Cond.code yJ1_charAt_3b067 cJ1_charAt_3b067 2 (some .char) :: lw_g) BL.pre w (List.mem_cons_of_mem _ hw)
  have hown : s.vm.findClass "java/lang/StringLatin1" = some m.cls := findClass_of_methodNamed BL.named
  have hS : va_S (fun q => B ≤ q) s.heap s.heap [] := va_S.rf
  rw [lg_entry_eq]
  have hl := lv_entry [.ref (aV i), .int (nI j)] (n := 2) (Nat.le_of_ble_eq_true rfl)
  generalize (lg_sl [.ref (aV i), .int (nI j)] ++ List.replicate (2 - (lg_sl [.ref (aV i), .int (nI j)]).length) Slot.unset).toArray = ls at hl ⊢
  have hlen : ∀ i, i < 7 → pm_Sl.getD i 0 < 1000 := by decide +kernel
  have hl0 := hlen i hi
  refine lv_iload_n hx hb dJ1_charAt_3b067_0 rfl (lv_at hl 1 rfl) ?_
  refine lv_aload_n hx hb dJ1_charAt_3b067_1 rfl (lv_at hl 0 rfl) ?_
  refine js_alen hx hb (hF.1.1 i hi).2.2.2 dJ1_charAt_3b067_2 ?_
  refine js_af (r := none) (rest := []) (va_runS (As := [.int (nI j), .int (nI (pm_Sl.getD i 0))]) ⟨hx, hb, hml, hown, hts⟩ (js_chk l B K aV (nI_pos (by omega)) (nI_lt hj (by omega))) ⟨callB_of 2 hts (js_gi js_chk_c) rfl rfl rfl (hts _ js_chk_i) (hts _ js_l_chk) ⟨by decide, by decide, by decide +kernel⟩ ⟨Nat.le_of_ble_eq_true rfl, Nat.le_of_ble_eq_true rfl⟩, hts _ js_chk_s⟩ ⟨js_bl B K aV _, fun U hU hW => ⟨rfl, by show js_F B K aV U U.heap; rw [hU]; exact js_mv hW.alike hF⟩⟩ rfl rfl hl.1 rfl (lv_room (Nat.le_of_ble_eq_true rfl)) dJ1_charAt_3b067_3 ⟨Nat.le_of_ble_eq_true rfl, Nat.le_of_ble_eq_true rfl⟩) (fun _ _ _ h => h) ?_
  refine lv_aload_n hx hb dJ1_charAt_3b067_6 rfl (lv_at hl 0 rfl) ?_
  refine lv_iload_n hx hb dJ1_charAt_3b067_7 rfl (lv_at hl 1 rfl) ?_
  refine va_tb hx hb (hF.1.1 i hi).2.2.2 hS (vp_in_nI hj (by omega)) (v := .int ((pm_Sb.getD i []).getD j 0)) (by rw [nI_clamp (by omega)]) dJ1_charAt_3b067_8 ?_
  refine lv_sipush (v := 255) hx hb dJ1_charAt_3b067_9 (by decide) ?_
  refine lv_iand hx hb dJ1_charAt_3b067_12 ?_
  refine lv_i2c (v := pm_ch i j) hx hb dJ1_charAt_3b067_13 rfl ?_
  exact W.zret hx hb hr (pk_nc _) (fun t ht hW => ⟨rfl, ht⟩) (fun _ h => by cases h) dJ1_charAt_3b067_14 hlocks
theorem js_chr (l : Launch) (B : Nat) (K aV : Nat → Nat) {i j : Nat} (hi : i < 7) (hj : j < pm_Sl.getD i 0) : Met l yJ0_charAt_5068e (Cond.code yJ0_charAt_5068e cJ0_charAt_5068e 2 (some .char) :: lw_g) (js_R 3) (js_P B K aV [.ref (K i), .int (nI j)]) (js_Q (some (.int (pm_ch i j)))) 0 0 (fun _ => False) := by
  refine Met.ofW (cc := cJ0_charAt_5068e) (maxL := 2) (ret := (some .char)) (by decide) rfl ?_
  intro p e s m args below meth c s₁ BL hml hv
  obtain ⟨rfl, hF⟩ := hv
  have hx := BL.exec
  have hb := BL.bytes
  have hr := BL.returns
  have hlocks := BL.notSynchronized
  have hts : ∀ w ∈ lw_g, w.before ([.ref (K i), .int (nI j)] : List Value).toArray s = true := fun w hw => atoms_spec (ws := Cond.code yJ0_charAt_5068e cJ0_charAt_5068e 2 (some .char) :: lw_g) BL.pre w (List.mem_cons_of_mem _ hw)
  have hown : s.vm.findClass "java/lang/String" = some m.cls := findClass_of_methodNamed BL.named
  have hS : va_S (fun q => B ≤ q) s.heap s.heap [] := va_S.rf
  rw [lg_entry_eq]
  have hl := lv_entry [.ref (K i), .int (nI j)] (n := 2) (Nat.le_of_ble_eq_true rfl)
  generalize (lg_sl [.ref (K i), .int (nI j)] ++ List.replicate (2 - (lg_sl [.ref (K i), .int (nI j)]).length) Slot.unset).toArray = ls at hl ⊢
  refine lv_aload_n hx hb dJ0_charAt_5068e_0 rfl (lv_at hl 0 rfl) ?_
  refine js_af (r := some (.int 1)) (rest := []) (va_runV (As := []) (b := K i) ⟨hx, hb, hml, hown, hts⟩ (js_lat l B K aV hi) ⟨callB_of 0 hts (js_gi js_lat_c) rfl rfl rfl (hts _ js_lat_i) (hts _ js_l_lat) ⟨by decide, by decide, by decide +kernel⟩ ⟨Nat.le_of_ble_eq_true rfl, Nat.le_of_ble_eq_true rfl⟩, hts _ js_lat_n, hts _ js_lat_e⟩ ⟨js_bl B K aV _, vk_recv hF.1 hi hS, fun U hU hW => ⟨rfl, by show js_F B K aV U U.heap; rw [hU]; exact js_mv hW.alike hF⟩⟩ rfl rfl hl.1 rfl (lv_room (Nat.le_of_ble_eq_true rfl)) dJ0_charAt_5068e_1 ⟨Nat.le_of_ble_eq_true rfl, Nat.le_of_ble_eq_true rfl⟩) (fun _ _ _ h => h) ?_
  refine lv_if_eq (tgt := 16) hx hb dJ0_charAt_5068e_4 (by decide) (fun hc => absurd hc (by decide)) (fun _ => ?_)
  refine lv_aload_n hx hb dJ0_charAt_5068e_7 rfl (lv_at hl 0 rfl) ?_
  refine vk_getf hx hb (hF.1.1 i hi).2.2.1 hS hown (hts _ js_f_val) (fun _ h => h) dJ0_charAt_5068e_8 ?_
  refine lv_iload_n hx hb dJ0_charAt_5068e_11 rfl (lv_at hl 1 rfl) ?_
  refine js_af (r := some (.int (pm_ch i j))) (rest := []) (va_runS (As := [.ref (aV i), .int (nI j)]) ⟨hx, hb, hml, hown, hts⟩ (js_lch l B K aV hi hj) ⟨callB_of 2 hts (js_gi js_lch_c) rfl rfl rfl (hts _ js_lch_i) (hts _ js_l_lch) ⟨by decide, by decide, by decide +kernel⟩ ⟨Nat.le_of_ble_eq_true rfl, Nat.le_of_ble_eq_true rfl⟩, hts _ js_lch_s⟩ ⟨js_bl B K aV _, fun U hU hW => ⟨rfl, by show js_F B K aV U U.heap; rw [hU]; exact js_mv hW.alike hF⟩⟩ rfl rfl hl.1 rfl (lv_room (Nat.le_of_ble_eq_true rfl)) dJ0_charAt_5068e_12 ⟨Nat.le_of_ble_eq_true rfl, Nat.le_of_ble_eq_true rfl⟩) (fun _ _ _ h => h) ?_
  exact W.zret hx hb hr (pk_nc _) (fun t ht hW => ⟨rfl, ht⟩) (fun _ h => by cases h) dJ0_charAt_5068e_15 hlocks
