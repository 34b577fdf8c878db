/-! the law from its entry, out of what both sides answer on the pure heap: by program (wip/whole/gen4.py) -/
section LS
variable {p : Program} {l : Launch} {e : Env} {s : State} {m : MethodId} {below : List Frame} {meth : Method} {c : Code}
variable {b L : Nat} {xs : Nat → Int32} {D : va_G} {K : Nat → Nat}
set_option maxHeartbeats 4000000 in
theorem lw_loop (C : lw_cx p s m meth c b L xs D K) (hL : L ≤ 3072) (Inv : Nat → pm_H → Prop) (hrm : ∀ n w, Inv n w → ob_rm w) (hskip : ∀ n w, Inv n w → Inv (n + 1) w) (hstep : ∀ n w, Inv n w → 6 * n + 6 ≤ 3072 → ∀ j, j < 31 → ∀ a1 a2 a3 a4 a5 : Int32, ob_ok j [a1, a2, a3, a4, a5] w (Inv (n + 1))) :
    ∀ (g n : Nat), 6 * n ≤ L → L + 1 ≤ 6 * n + 6 * g → ∀ (w : pm_H) (H : Heap) (locs : List Loc) (ls : Array Slot), Inv n w → pm_re D s.heap.size K s w H → (∀ x ∈ locs, s.heap.size ≤ x.base) → lv_has ls 4 [(3, .int (nI (6 * n))), (2, .ref (s.heap.size + ob_aM)), (1, .ref (s.heap.size + 0)), (0, .ref b)] → W p l e room_1 s m #[Value.ref b] below meth c H locs w.length (pm_sz w) (lw_Z below #[Value.ref b] s) (F0 m 18 ls []) := by
  have hN : L < 2 ^ 31 := by omega
  obtain ⟨hx, hb, hr, hml, hown, hts, hX, hbl, hlocks, hgv⟩ := id C.1
  intro g
  induction g with
  | zero => intro n h1 h2; exact absurd h2 (by omega)
  | succ g ih =>
    intro n h1 h2 w H locs ls hI hre hlo hls
    have hw := hrm n w hI
    refine lv_iload_n hx hb dL_law_18 rfl (lv_at hls 0 rfl) ?_
    refine lv_aload_n hx hb dL_law_19 rfl (lv_at hls 3 rfl) ?_
    refine lw_sln C hlo dL_law_20 ?_
    refine lv_bipush (v := nI 6) hx hb dL_law_21 (by decide) ?_
    refine lv_isub hx hb dL_law_23 ?_
    have hsub : (nI L - nI 6).toInt = (L : Int) - 6 := pk_sub_toInt (by omega) (by omega)
    have hnn : (nI (6 * n)).toInt = ((6 * n : Nat) : Int) := nI_toInt (by omega)
    refine lv_icmp_gt (tgt := 1081) hx hb dL_law_24 (by decide) (fun hc => ?_) (fun hc => ?_)
    · refine lv_iconst (v := 1) hx hb dL_law_1081 (by decide) ?_
      refine va_forget (fun q hq => hlo q hq) ?_
      refine W.widen (k := 600000) (n := 7302249) hw.1 hw.2.1 ?_
      exact lw_ret hx hb hr hlocks dL_law_1082
    · have hi : 6 * n + 6 ≤ L := by
        have h3 : ¬ nI L - nI 6 < nI (6 * n) := hc
        rw [Int32.lt_iff_toInt_lt, hsub, hnn] at h3
        omega
      have tail : ∀ (w2 : pm_H) (H2 : Heap) (locs2 : List Loc), Inv (n + 1) w2 → pm_re D s.heap.size K s w2 H2 → (∀ x ∈ locs2, s.heap.size ≤ x.base) → W p l e room_1 s m #[Value.ref b] below meth c H2 locs2 w2.length (pm_sz w2) (lw_Z below #[Value.ref b] s) (F0 m 1075 ls []) := by
        intro w2 H2 locs2 hI2 hre2 hlo2
        refine lv_iinc (v := nI (6 * (n + 1))) (lv' := [(3, .int (nI (6 * (n + 1)))), (2, .ref (s.heap.size + ob_aM)), (1, .ref (s.heap.size + 0)), (0, .ref b)]) hx hb dL_law_1075 hls (k := 0) rfl (by rw [show Int32.ofInt 6 = nI 6 by decide, nI_add]; congr 1) (by decide) rfl (fun ls2 hl2 => ?_)
        refine lv_goto (tgt := 18) hx hb dL_law_1078 (by decide) ?_
        exact ih (n + 1) (by omega) (by omega) w2 H2 locs2 ls2 hI2 hre2 hlo2 hl2
      refine lv_aload_n hx hb dL_law_27 rfl (lv_at hls 3 rfl) ?_
      refine lv_iload_n hx hb dL_law_28 rfl (lv_at hls 0 rfl) ?_
      refine lw_sld C hlo (by omega) hN dL_law_29 ?_
      refine lv_bipush (v := 31) hx hb dL_law_30 (by decide) ?_
      refine lv_iand hx hb dL_law_32 ?_
      obtain ⟨j, hj, ej⟩ := pk_andE (xs (6 * n)) (m := 31) 5 (by decide)
      rw [ej]
      have st := hstep n w hI (by omega)
      by_cases h0 : j = 0
      · subst h0
        refine lv_tableIn (off := 139) (tgt := 172) hx hb dL_law_33 (by decide) (by decide) (by decide) (by decide) ?_
        exact lw_case_0 C hL hi hre hlo hls hw (hrm (n + 1)) (st 0 (by decide) _ _ _ _ _) tail
      by_cases h1 : j = 1
      · subst h1
        refine lv_tableIn (off := 202) (tgt := 235) hx hb dL_law_33 (by decide) (by decide) (by decide) (by decide) ?_
        exact lw_case_1 C hL hi hre hlo hls hw (hrm (n + 1)) (st 1 (by decide) _ _ _ _ _) tail
      by_cases h2 : j = 2
      · subst h2
        refine lv_tableIn (off := 225) (tgt := 258) hx hb dL_law_33 (by decide) (by decide) (by decide) (by decide) ?_
        exact lw_case_2 C hL hi hre hlo hls hw (hrm (n + 1)) (st 2 (by decide) _ _ _ _ _) tail
      by_cases h3 : j = 3
      · subst h3
        refine lv_tableIn (off := 238) (tgt := 271) hx hb dL_law_33 (by decide) (by decide) (by decide) (by decide) ?_
        exact lw_case_3 C hL hi hre hlo hls hw (hrm (n + 1)) (st 3 (by decide) _ _ _ _ _) tail
      by_cases h4 : j = 4
      · subst h4
        refine lv_tableIn (off := 251) (tgt := 284) hx hb dL_law_33 (by decide) (by decide) (by decide) (by decide) ?_
        exact lw_case_4 C hL hi hre hlo hls hw (hrm (n + 1)) (st 4 (by decide) _ _ _ _ _) tail
      by_cases h5 : j = 5
      · subst h5
        refine lv_tableIn (off := 274) (tgt := 307) hx hb dL_law_33 (by decide) (by decide) (by decide) (by decide) ?_
        exact lw_case_5 C hL hi hre hlo hls hw (hrm (n + 1)) (st 5 (by decide) _ _ _ _ _) tail
      by_cases h6 : j = 6
      · subst h6
        refine lv_tableIn (off := 307) (tgt := 340) hx hb dL_law_33 (by decide) (by decide) (by decide) (by decide) ?_
        exact lw_case_6 C hL hi hre hlo hls hw (hrm (n + 1)) (st 6 (by decide) _ _ _ _ _) tail
      by_cases h7 : j = 7
      · subst h7
        refine lv_tableIn (off := 340) (tgt := 373) hx hb dL_law_33 (by decide) (by decide) (by decide) (by decide) ?_
        exact lw_case_7 C hL hi hre hlo hls hw (hrm (n + 1)) (st 7 (by decide) _ _ _ _ _) tail
      by_cases h8 : j = 8
      · subst h8
        refine lv_tableIn (off := 373) (tgt := 406) hx hb dL_law_33 (by decide) (by decide) (by decide) (by decide) ?_
        exact lw_case_8 C hL hi hre hlo hls hw (hrm (n + 1)) (st 8 (by decide) _ _ _ _ _) tail
      by_cases h9 : j = 9
      · subst h9
        refine lv_tableIn (off := 396) (tgt := 429) hx hb dL_law_33 (by decide) (by decide) (by decide) (by decide) ?_
        exact lw_case_9 C hL hi hre hlo hls hw (hrm (n + 1)) (st 9 (by decide) _ _ _ _ _) tail
      by_cases h10 : j = 10
      · subst h10
        refine lv_tableIn (off := 449) (tgt := 482) hx hb dL_law_33 (by decide) (by decide) (by decide) (by decide) ?_
        exact lw_case_10 C hL hi hre hlo hls hw (hrm (n + 1)) (st 10 (by decide) _ _ _ _ _) tail
      by_cases h11 : j = 11
      · subst h11
        refine lv_tableIn (off := 462) (tgt := 495) hx hb dL_law_33 (by decide) (by decide) (by decide) (by decide) ?_
        exact lw_case_11 C hL hi hre hlo hls hw (hrm (n + 1)) (st 11 (by decide) _ _ _ _ _) tail
      by_cases h12 : j = 12
      · subst h12
        refine lv_tableIn (off := 485) (tgt := 518) hx hb dL_law_33 (by decide) (by decide) (by decide) (by decide) ?_
        exact lw_case_12 C hL hi hre hlo hls hw (hrm (n + 1)) (st 12 (by decide) _ _ _ _ _) tail
      by_cases h13 : j = 13
      · subst h13
        refine lv_tableIn (off := 518) (tgt := 551) hx hb dL_law_33 (by decide) (by decide) (by decide) (by decide) ?_
        exact lw_case_13 C hL hi hre hlo hls hw (hrm (n + 1)) (st 13 (by decide) _ _ _ _ _) tail
      by_cases h14 : j = 14
      · subst h14
        refine lv_tableIn (off := 531) (tgt := 564) hx hb dL_law_33 (by decide) (by decide) (by decide) (by decide) ?_
        exact lw_case_14 C hL hi hre hlo hls hw (hrm (n + 1)) (st 14 (by decide) _ _ _ _ _) tail
      by_cases h15 : j = 15
      · subst h15
        refine lv_tableIn (off := 584) (tgt := 617) hx hb dL_law_33 (by decide) (by decide) (by decide) (by decide) ?_
        exact lw_case_15 C hL hi hre hlo hls hw (hrm (n + 1)) (st 15 (by decide) _ _ _ _ _) tail
      by_cases h16 : j = 16
      · subst h16
        refine lv_tableIn (off := 617) (tgt := 650) hx hb dL_law_33 (by decide) (by decide) (by decide) (by decide) ?_
        exact lw_case_16 C hL hi hre hlo hls hw (hrm (n + 1)) (st 16 (by decide) _ _ _ _ _) tail
      by_cases h17 : j = 17
      · subst h17
        refine lv_tableIn (off := 640) (tgt := 673) hx hb dL_law_33 (by decide) (by decide) (by decide) (by decide) ?_
        exact lw_case_17 C hL hi hre hlo hls hw (hrm (n + 1)) (st 17 (by decide) _ _ _ _ _) tail
      by_cases h18 : j = 18
      · subst h18
        refine lv_tableIn (off := 663) (tgt := 696) hx hb dL_law_33 (by decide) (by decide) (by decide) (by decide) ?_
        exact lw_case_18 C hL hi hre hlo hls hw (hrm (n + 1)) (st 18 (by decide) _ _ _ _ _) tail
      by_cases h19 : j = 19
      · subst h19
        refine lv_tableIn (off := 686) (tgt := 719) hx hb dL_law_33 (by decide) (by decide) (by decide) (by decide) ?_
        exact lw_case_19 C hL hi hre hlo hls hw (hrm (n + 1)) (st 19 (by decide) _ _ _ _ _) tail
      by_cases h20 : j = 20
      · subst h20
        refine lv_tableIn (off := 709) (tgt := 742) hx hb dL_law_33 (by decide) (by decide) (by decide) (by decide) ?_
        exact lw_case_20 C hL hi hre hlo hls hw (hrm (n + 1)) (st 20 (by decide) _ _ _ _ _) tail
      by_cases h21 : j = 21
      · subst h21
        refine lv_tableIn (off := 752) (tgt := 785) hx hb dL_law_33 (by decide) (by decide) (by decide) (by decide) ?_
        exact lw_case_21 C hL hi hre hlo hls hw (hrm (n + 1)) (st 21 (by decide) _ _ _ _ _) tail
      by_cases h22 : j = 22
      · subst h22
        refine lv_tableIn (off := 775) (tgt := 808) hx hb dL_law_33 (by decide) (by decide) (by decide) (by decide) ?_
        exact lw_case_22 C hL hi hre hlo hls hw (hrm (n + 1)) (st 22 (by decide) _ _ _ _ _) tail
      by_cases h23 : j = 23
      · subst h23
        refine lv_tableIn (off := 808) (tgt := 841) hx hb dL_law_33 (by decide) (by decide) (by decide) (by decide) ?_
        exact lw_case_23 C hL hi hre hlo hls hw (hrm (n + 1)) (st 23 (by decide) _ _ _ _ _) tail
      by_cases h24 : j = 24
      · subst h24
        refine lv_tableIn (off := 861) (tgt := 894) hx hb dL_law_33 (by decide) (by decide) (by decide) (by decide) ?_
        exact lw_case_24 C hL hi hre hlo hls hw (hrm (n + 1)) (st 24 (by decide) _ _ _ _ _) tail
      by_cases h25 : j = 25
      · subst h25
        refine lv_tableIn (off := 884) (tgt := 917) hx hb dL_law_33 (by decide) (by decide) (by decide) (by decide) ?_
        exact lw_case_25 C hL hi hre hlo hls hw (hrm (n + 1)) (st 25 (by decide) _ _ _ _ _) tail
      by_cases h26 : j = 26
      · subst h26
        refine lv_tableIn (off := 907) (tgt := 940) hx hb dL_law_33 (by decide) (by decide) (by decide) (by decide) ?_
        exact lw_case_26 C hL hi hre hlo hls hw (hrm (n + 1)) (st 26 (by decide) _ _ _ _ _) tail
      by_cases h27 : j = 27
      · subst h27
        refine lv_tableIn (off := 930) (tgt := 963) hx hb dL_law_33 (by decide) (by decide) (by decide) (by decide) ?_
        exact lw_case_27 C hL hi hre hlo hls hw (hrm (n + 1)) (st 27 (by decide) _ _ _ _ _) tail
      by_cases h28 : j = 28
      · subst h28
        refine lv_tableIn (off := 973) (tgt := 1006) hx hb dL_law_33 (by decide) (by decide) (by decide) (by decide) ?_
        exact lw_case_28 C hL hi hre hlo hls hw (hrm (n + 1)) (st 28 (by decide) _ _ _ _ _) tail
      by_cases h29 : j = 29
      · subst h29
        refine lv_tableIn (off := 996) (tgt := 1029) hx hb dL_law_33 (by decide) (by decide) (by decide) (by decide) ?_
        exact lw_case_29 C hL hi hre hlo hls hw (hrm (n + 1)) (st 29 (by decide) _ _ _ _ _) tail
      by_cases h30 : j = 30
      · subst h30
        refine lv_tableIn (off := 1019) (tgt := 1052) hx hb dL_law_33 (by decide) (by decide) (by decide) (by decide) ?_
        exact lw_case_30 C hL hi hre hlo hls hw (hrm (n + 1)) (st 30 (by decide) _ _ _ _ _) tail
      obtain rfl : j = 31 := by omega
      refine lv_tableOut (tgt := 1075) hx hb dL_law_33 (by decide) (by decide) ?_
      exact tail w H locs (hskip n w hI) hre hlo
end LS
theorem ls_D {s : State} {args : Array Value} (hts : ∀ w ∈ lw_g, w.before args s = true) : ∃ D : va_G, va_K D pm_cl [] s := by
  have h : ∀ ci : Nat, ∃ q : ClassId × (Nat → Nat), ci < 13 → u_Kn s (pm_R ci) (pm_fT ci) (pm_cN ci) q.1 q.2 := by
    intro ci
    by_cases hc : ci < 13
    · obtain ⟨cC, iS, hk⟩ := u_known hts (pm_hin hc) (hts _ (pm_hinst hc).1)
      exact ⟨(cC, iS), fun _ => hk⟩
    · exact ⟨(0, fun _ => 0), fun h => absurd h hc⟩
  obtain ⟨f, hf⟩ := Classical.axiomOfChoice h
  refine ⟨(fun k => (f k).1, fun k => (f k).2), fun k q hq => ?_, fun k q hq => by simp at hq⟩
  have hk : k < 13 := (List.getElem?_eq_some_iff.mp hq).1
  rw [pm_cl_at k hk] at hq
  cases hq
  exact hf k hk
def ls_tm (i : Nat) : Term := [Term.string "FoldDeeds$ClothReader" 45, Term.string "FoldDeeds$RuleReader" 54, Term.string "FoldDeeds$RuleReader" 119, Term.string "FoldDeeds$RuleReader" 71, Term.string "FoldDeeds$RuleReader" 87, Term.string "FoldDeeds$RuleReader" 83, Term.string "FoldDeeds$RuleReader" 85].getD i (.int 0)
def ls_fl : List Cond := flatC (Jvm.Cond.and given_1 narrow_1)
def ls_in (c : Cond) : Bool := decide (c ∈ ls_fl)
theorem ls_ck1 : (List.range 7).all (fun i => ls_in (.exactly (ls_tm i) "java/lang/String") && (ls_in (.eq (.field (ls_tm i) "java/lang/String" "coder" "B") (.int 0)) && (ls_in (.arrayOf (.field (ls_tm i) "java/lang/String" "value" "[B") .byte) && ls_in (.eq (.length (.field (ls_tm i) "java/lang/String" "value" "[B")) (.int (Int32.ofNat (pm_Sl.getD i 0))))))) = true := by decide +kernel
theorem ls_ck2 : (List.range 7).all (fun i => (List.range (pm_Sl.getD i 0)).all (fun j => ls_in (.eq (.elem (.field (ls_tm i) "java/lang/String" "value" "[B") (.int (Int32.ofNat j))) (.int ((pm_Sb.getD i []).getD j 0))))) = true := by decide +kernel
theorem ls_ck3 : (List.range 7).all (fun i => (List.range 7).all (fun j => i == j || (ls_in (.not (.eq (ls_tm i) (ls_tm j))) || ls_in (.not (.eq (ls_tm j) (ls_tm i)))))) = true := by decide +kernel
theorem ls_K {s : State} {b : Nat} (hts : ∀ w ∈ lw_tbl, w.before #[Value.ref b] s = true) (hgv : (Jvm.Cond.and given_1 narrow_1).before #[Value.ref b] s = true) : ∃ K aV : Nat → Nat, pm_str K s ∧ js_F s.heap.size K aV s s.heap := by
  have hs := flat_of_before _ hgv
  have hin : ∀ c, ls_in c = true → c.before #[Value.ref b] s = true := fun c h => hs c (of_decide_eq_true h)
  have hA : ∀ a : Nat, a < s.heap.size → ¬ s.heap.size ≤ a := fun a h => Nat.not_le.mpr h
  have c1 : ∀ i, i < 7 → _ := fun i hi => List.all_eq_true.mp ls_ck1 i (List.mem_range.mpr hi)
  have c2 : ∀ i, i < 7 → ∀ j, j < pm_Sl.getD i 0 → _ := fun i hi j hj => List.all_eq_true.mp (List.all_eq_true.mp ls_ck2 i (List.mem_range.mpr hi)) j (List.mem_range.mpr hj)
  have c3 : ∀ i, i < 7 → ∀ j, j < 7 → _ := fun i hi j hj => List.all_eq_true.mp (List.all_eq_true.mp ls_ck3 i (List.mem_range.mpr hi)) j (List.mem_range.mpr hj)
  simp only [Bool.and_eq_true, Bool.or_eq_true, beq_iff_eq] at c1 c3
  have hlen : ∀ i, i < 7 → pm_Sl.getD i 0 < 2 ^ 31 := by decide +kernel
  obtain ⟨K, aV, hv, hev⟩ := vk_Sof (args := #[Value.ref b]) (s := s) (N := 7) (tm := ls_tm) (len := pm_Sl) (byt := pm_Sb) (A := fun q => s.heap.size ≤ q) hlen (fun i hi => hin _ (c1 i hi).1) (fun i hi => hin _ (c1 i hi).2.1) (fun i hi => hin _ (c1 i hi).2.2.1) (fun i hi => hin _ (c1 i hi).2.2.2) (fun i hi j hj => hin _ (c2 i hi j hj)) (fun i j hi hj hne => by
    rcases c3 i hi j hj with h | h | h
    · exact absurd h hne
    · exact Or.inl (hin _ h)
    · exact Or.inr (hin _ h)) hA
  refine ⟨K, aV, ?_, hv, va_Zof (args := #[Value.ref b]) (hts _ (pm_w1_in (i := 525) (by decide +kernel))) (hts _ (pm_w1_in (i := 128) (by decide +kernel))) (va_eqt (hs _ (by decide +kernel : Cond.eq (.static "java/lang/String" "COMPACT_STRINGS" "Z") (.int 1) ∈ flatC (Jvm.Cond.and given_1 narrow_1)))) hA, va_Zqof (args := #[Value.ref b]) (hts _ (pm_w1_in (i := 541) (by decide +kernel))) (hts _ (pm_w1_in (i := 130) (by decide +kernel))) (hs _ (by decide +kernel)) hA⟩
  unfold pm_str pm_S
  refine List.forall_mem_cons.mpr ⟨vk_R.of (A := #[Value.ref b]) (hts _ (pm_w1_in (i := 507) (by decide +kernel))) (hev 0 (by decide)), ?_⟩
  refine List.forall_mem_cons.mpr ⟨vk_R.of (A := #[Value.ref b]) (hts _ (pm_w1_in (i := 652) (by decide +kernel))) (hev 1 (by decide)), ?_⟩
  refine List.forall_mem_cons.mpr ⟨vk_R.of (A := #[Value.ref b]) (hts _ (pm_w1_in (i := 678) (by decide +kernel))) (hev 2 (by decide)), ?_⟩
  refine List.forall_mem_cons.mpr ⟨vk_R.of (A := #[Value.ref b]) (hts _ (pm_w1_in (i := 691) (by decide +kernel))) (hev 3 (by decide)), ?_⟩
  refine List.forall_mem_cons.mpr ⟨vk_R.of (A := #[Value.ref b]) (hts _ (pm_w1_in (i := 700) (by decide +kernel))) (hev 4 (by decide)), ?_⟩
  refine List.forall_mem_cons.mpr ⟨vk_R.of (A := #[Value.ref b]) (hts _ (pm_w1_in (i := 710) (by decide +kernel))) (hev 5 (by decide)), ?_⟩
  refine List.forall_mem_cons.mpr ⟨vk_R.of (A := #[Value.ref b]) (hts _ (pm_w1_in (i := 711) (by decide +kernel))) (hev 6 (by decide)), ?_⟩
  exact fun _ h => absurd h List.not_mem_nil
theorem ls_xs {s : State} {b : Nat} (hts : ∀ w ∈ lw_tbl, w.before #[Value.ref b] s = true) {K aV : Nat → Nat} (h : pm_str K s) (hj : js_F s.heap.size K aV s s.heap) : pm_xs s.heap.size K s := by
  refine ⟨h, fun a ha => ?_, fun x hx hk => ?_, aV, hj⟩
  · rcases ha with rfl | rfl | rfl
    · exact va_AO.of (hts _ pm_ao_0)
    · exact va_AO.of (hts _ pm_ao_5)
    · exact va_AO.of (hts _ pm_ao_7)
  · have h2 := List.all_eq_true.mp pm_Gok x hx
    have h9 : ¬ x.2.2.1 = 9 := by omega
    rw [if_neg h9, Bool.and_eq_true, Bool.and_eq_true] at h2
    have h3 := h2.2.2
    rw [if_pos hk] at h3
    exact va_Nw.of rfl (hts _ (pm_w1_in h3))
set_option maxHeartbeats 4000000 in
set_option maxRecDepth 100000 in
/-- the law from its entry, if on the pure heap both sides answer alike -/
theorem lw_start (Inv : Nat → pm_H → Prop) (h0 : Inv 0 ob_w0) (hrm : ∀ n w, Inv n w → ob_rm w) (hskip : ∀ n w, Inv n w → Inv (n + 1) w) (hstep : ∀ n w, Inv n w → 6 * n + 6 ≤ 3072 → ∀ j, j < 31 → ∀ a1 a2 a3 a4 a5 : Int32, ob_ok j [a1, a2, a3, a4, a5] w (Inv (n + 1)))
    {p : Program} {e : Env} {s : State} {m : MethodId} {below : List Frame} {meth : Method} {c : Code} (l : Launch) {b L : Nat} {xs : Nat → Int32} (hL : L ≤ 3072) (C0 : lw_At p s m meth c b L xs) : W p l e room_1 s m #[Value.ref b] below meth c s.heap [] 0 0 (lw_Z below #[Value.ref b] s) (entryFrame m ([Value.ref b] : List Value).toArray 4) := by
  obtain ⟨hx, hb, hr, hml, hown, hts, hX, hbl, hlocks, hgv⟩ := id C0
  obtain ⟨D, hK⟩ := ls_D (fun w hw => hts w (List.mem_filter.mp hw).1)
  obtain ⟨K, aV, hKs, hJ⟩ := ls_K hts hgv
  have C : lw_cx p s m meth c b L xs D K := ⟨C0, hK, ls_xs hts hKs hJ⟩
  rw [lg_entry_eq]
  have hl := lv_entry [Value.ref b] (n := 4) (Nat.le_of_ble_eq_true rfl)
  generalize (lg_sl [Value.ref b] ++ List.replicate (4 - (lg_sl [Value.ref b]).length) Slot.unset).toArray = ls at hl ⊢
  have hl : lv_has ls 4 [(0, .ref b)] := hl
  have hre : pm_re D s.heap.size K s [] s.heap := ⟨rfl, fun k q hq => by simp at hq⟩
  refine lw_new (w := []) (ci := 11) C hre (by decide) (pm_w1_in (i := 136) (by decide +kernel)) (by decide) (by decide +kernel) dL_law_0 (fun H1 hre1 => ?_)
  refine lv_dup hx hb dL_law_3 rfl ?_
  refine lw_ini (w := [(0, 11, pm_D.getD 11 [])]) (a := 0) (k := 106) (rest := [.ref (s.heap.size + 0)]) C hre1 (fun _ h => by cases h) hl.1 (by decide) (by decide +kernel) (pm_w1_in (i := 138) (by decide +kernel)) ob_iX rfl (by decide +kernel) (by decide +kernel) (show (1 : Nat) ≤ 8 by decide) (by decide +kernel) (by decide +kernel) dL_law_4 (fun H2 locs2 hre2 hlo2 => ?_)
  refine lv_astore_n (lv' := [(1, .ref (s.heap.size + 0)), (0, .ref b)]) hx hb dL_law_7 rfl hl (by decide) rfl (fun ls hl => ?_)
  refine lw_new (w := ob_wX) (ci := 12) C hre2 (by decide) (pm_w1_in (i := 1132) (by decide +kernel)) (by decide +kernel) (by decide +kernel) dL_law_8 (fun H3 hre3 => ?_)
  have hlen : ob_wX.length = ob_aM := by decide +kernel
  rw [hlen]
  refine lv_dup hx hb dL_law_11 rfl ?_
  refine lw_ini (w := ob_wX ++ [(0, 12, pm_D.getD 12 [])]) (a := ob_aM) (k := 146) (fs := pm_D.getD 12 []) (rest := [.ref (s.heap.size + ob_aM)]) C hre3 hlo2 hl.1 (by decide) (by decide +kernel) (pm_w1_in (i := 1134) (by decide +kernel)) ob_iM (by decide +kernel) (by decide +kernel) (by decide +kernel) (show (1 : Nat) ≤ 8 by decide) (by decide +kernel) (by decide +kernel) dL_law_12 (fun H4 locs4 hre4 hlo4 => ?_)
  refine lv_astore_n (lv' := [(2, .ref (s.heap.size + ob_aM)), (1, .ref (s.heap.size + 0)), (0, .ref b)]) hx hb dL_law_15 rfl hl (by decide) rfl (fun ls hl => ?_)
  refine lv_iconst (v := nI (6 * 0)) hx hb dL_law_16 (by decide) ?_
  refine lv_istore_n (lv' := [(3, .int (nI (6 * 0))), (2, .ref (s.heap.size + ob_aM)), (1, .ref (s.heap.size + 0)), (0, .ref b)]) hx hb dL_law_17 rfl hl (by decide) rfl (fun ls hl => ?_)
  exact lw_loop C hL Inv hrm hskip hstep (L + 1) 0 (Nat.zero_le _) (by omega) ob_w0 H4 locs4 ls h0 hre4 hlo4 hl
