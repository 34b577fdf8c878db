/-! by program (wip/whole/gx.py) -/
/-- FoldDeedsModel.isRule (I)Z -/
noncomputable def xm_isRule (s : Hp) (p1 : Int) : Option Int :=
  if w32 p1 < 0 then some 0 else if w32 p1 < w32 (s 146 2) then some 1 else some 0
set_option maxRecDepth 100000 in
theorem xm_isRule_ok {d : Nat} {P : Option Value → pm_H → Prop} {w : pm_H} {sh : Shp} {w0 : pm_H} {s : Hp} (hS : StM sh) {p1 : Int} (h : Rw sh w0 s w) {o : Int} (hx : xm_isRule s p1 = some o) (kr : P (some (.int (Int32.ofInt o))) w) : wp d 185 0 (lv_args 0 [.ref 146, .int (Int32.ofInt p1)]) [] w P := by
  show wp _ 185 0 [(0, .ref 146), (1, .int (Int32.ofInt p1))] [] w _
  unfold xm_isRule at hx
  refine wp_g 1 (pc1 := 1) (lv1 := [(0, .ref 146), (1, .int (Int32.ofInt p1))]) (st1 := [.int (Int32.ofInt p1)]) (w1 := w) rfl ?_
  refine wz_lt (oo := 15) (ln := 3) (a := 16) (b := 0) (zz := 0) (by decide +kernel) (fun h1 => ?_) (fun h1 => ?_)
  · have hx := ite_t h1 hx
    refine wp_g 1 (pc1 := 17) (lv1 := [(0, .ref 146), (1, .int (Int32.ofInt p1))]) (st1 := [.int (Int32.ofInt 0)]) (w1 := w) rfl ?_
    refine wp_rt (i := .ireturn) (r := some (.int (Int32.ofInt 0))) (ln := 1) (a := 0) (b := 0) (z := 0) (by decide +kernel) rfl (ret_b (by decide +kernel) (Or.inl rfl)) ?_
    cases hx
    exact kr
  · have hx := ite_f h1 hx
    refine wp_g 2 (pc1 := 6) (lv1 := [(0, .ref 146), (1, .int (Int32.ofInt p1))]) (st1 := [.ref 146, .int (Int32.ofInt p1)]) (w1 := w) rfl ?_
    refine wx_gi (kf := 274) (ln := 3) (ci := 12) (b := 2) (zz := 0) (x := 146) (by decide +kernel) h (hS _ _ sm_146) rfl ?_
    show wp _ 185 9 [(0, .ref 146), (1, .int (Int32.ofInt p1))] [.int (Int32.ofInt (s 146 2)), .int (Int32.ofInt p1)] w _
    refine wx_ge (oo := 7) (ln := 3) (a := 16) (b := 0) (zz := 0) (by decide +kernel) (fun h2 => ?_) (fun h2 => ?_)
    · have hx := ite_f h2 hx
      refine wp_g 1 (pc1 := 17) (lv1 := [(0, .ref 146), (1, .int (Int32.ofInt p1))]) (st1 := [.int (Int32.ofInt 0)]) (w1 := w) rfl ?_
      refine wp_rt (i := .ireturn) (r := some (.int (Int32.ofInt 0))) (ln := 1) (a := 0) (b := 0) (z := 0) (by decide +kernel) rfl (ret_b (by decide +kernel) (Or.inl rfl)) ?_
      cases hx
      exact kr
    · have hx := ite_t h2 hx
      refine wp_g 2 (pc1 := 17) (lv1 := [(0, .ref 146), (1, .int (Int32.ofInt p1))]) (st1 := [.int (Int32.ofInt 1)]) (w1 := w) rfl ?_
      refine wp_rt (i := .ireturn) (r := some (.int (Int32.ofInt 1))) (ln := 1) (a := 0) (b := 0) (z := 0) (by decide +kernel) rfl (ret_b (by decide +kernel) (Or.inr rfl)) ?_
      cases hx
      exact kr
/-- FoldDeedsModel.push (J)V -/
noncomputable def xm_push (s : Hp) (p1 : Int) : Option Hp :=
  (ix 64 (s 146 18)).bind fun i1 => (some (uh s 154 i1 p1)).bind fun s3 => (some (uh s3 146 18 ((s3 146 18) + 1))).bind fun s7 => some s7
set_option maxRecDepth 100000 in
theorem xm_push_ok {d : Nat} {P : Option Value → pm_H → Prop} {w : pm_H} {sh : Shp} {w0 : pm_H} {s : Hp} (hS : StM sh) {p1 : Int} (h : Rw sh w0 s w) {o : Hp} (hx : xm_push s p1 = some o) (kr : ∀ w1, Rw sh w0 o w1 → P none w1) : wp d 186 0 (lv_args 0 [.ref 146, .long (Int64.ofInt p1)]) [] w P := by
  show wp _ 186 0 [(0, .ref 146), (1, .long (Int64.ofInt p1))] [] w _
  unfold xm_push at hx
  refine wp_g 1 (pc1 := 1) (lv1 := [(0, .ref 146), (1, .long (Int64.ofInt p1))]) (st1 := [.ref 146]) (w1 := w) rfl ?_
  refine wx_gr (o := 8) (kf := 32) (ln := 3) (ci := 12) (b := 17) (zz := 0) (x := 146) (by decide +kernel) h (hS _ _ sm_146) rfl ?_
  show wp _ 186 4 [(0, .ref 146), (1, .long (Int64.ofInt p1))] [.ref 154] w _
  refine wp_g 1 (pc1 := 5) (lv1 := [(0, .ref 146), (1, .long (Int64.ofInt p1))]) (st1 := [.ref 146, .ref 154]) (w1 := w) rfl ?_
  refine wx_gi (kf := 286) (ln := 3) (ci := 12) (b := 18) (zz := 0) (x := 146) (by decide +kernel) h (hS _ _ sm_146) rfl ?_
  show wp _ 186 8 [(0, .ref 146), (1, .long (Int64.ofInt p1))] [.int (Int32.ofInt (s 146 18)), .ref 154] w _
  refine wp_g 1 (pc1 := 9) (lv1 := [(0, .ref 146), (1, .long (Int64.ofInt p1))]) (st1 := [.long (Int64.ofInt p1), .int (Int32.ofInt (s 146 18)), .ref 154]) (w1 := w) rfl ?_
  obtain ⟨i1, e2, hx⟩ := bd hx
  obtain ⟨s3, e4, hx⟩ := bd hx
  refine wx_wl (x := 154) (n := 64) (ln := 1) (a := 0) (b := 0) (zz := 0) (by decide +kernel) h (hS _ _ sm_154) e2 e4 (fun w5 h6 => ?_)
  refine wp_g 2 (pc1 := 12) (lv1 := [(0, .ref 146), (1, .long (Int64.ofInt p1))]) (st1 := [.ref 146, .ref 146]) (w1 := w5) rfl ?_
  refine wx_gi (kf := 286) (ln := 3) (ci := 12) (b := 18) (zz := 0) (x := 146) (by decide +kernel) h6 (hS _ _ sm_146) rfl ?_
  show wp _ 186 15 [(0, .ref 146), (1, .long (Int64.ofInt p1))] [.int (Int32.ofInt (s3 146 18)), .ref 146] w5 _
  refine wp_g 2 (pc1 := 17) (lv1 := [(0, .ref 146), (1, .long (Int64.ofInt p1))]) (st1 := [.int (Int32.ofInt ((s3 146 18) + 1)), .ref 146]) (w1 := w5) (by simp only [Int32.ofInt_add, Int32.ofInt_sub, Int32.ofInt_mul, Int32.ofInt_neg, p_and, p_or, p_xor, p_shl, p_shr, p_usr, p_w8, p_c16, p_lI, q_and, q_or, q_shl, q_shr, q_w32, Int64.ofInt_add, Int64.ofInt_sub, Int64.ofInt_mul, p_mx, p_mn, q_mx, q_mn]; rfl) ?_
  obtain ⟨s7, e8, hx⟩ := bd hx
  refine wx_pi (kf := 286) (ln := 3) (ci := 12) (b := 18) (zz := 0) (x := 146) (by decide +kernel) h6 (hS _ _ sm_146) rfl (by decide +kernel) e8 (fun w9 h10 => ?_)
  refine wp_rt (i := .return_) (r := none) (ln := 1) (a := 0) (b := 0) (z := 0) (by decide +kernel) rfl (ret_v (by decide +kernel)) ?_
  cases hx
  exact kr _ h10
/-- FoldDeedsModel.pop ()J -/
noncomputable def xm_pop (s : Hp) : Option (Int × Hp) :=
  (some (uh s 146 18 ((s 146 18) - 1))).bind fun s1 => (ix 64 (s1 146 18)).bind fun i5 => some (s1 154 i5, s1)
set_option maxRecDepth 100000 in
theorem xm_pop_ok {d : Nat} {P : Option Value → pm_H → Prop} {w : pm_H} {sh : Shp} {w0 : pm_H} {s : Hp} (hS : StM sh) (h : Rw sh w0 s w) {o : Int × Hp} (hx : xm_pop s = some o) (kr : ∀ w1, Rw sh w0 o.2 w1 → P (some (.long (Int64.ofInt o.1))) w1) : wp d 187 0 (lv_args 0 [.ref 146]) [] w P := by
  show wp _ 187 0 [(0, .ref 146)] [] w _
  unfold xm_pop at hx
  refine wp_g 2 (pc1 := 2) (lv1 := [(0, .ref 146)]) (st1 := [.ref 146, .ref 146]) (w1 := w) rfl ?_
  refine wx_gi (kf := 286) (ln := 3) (ci := 12) (b := 18) (zz := 0) (x := 146) (by decide +kernel) h (hS _ _ sm_146) rfl ?_
  show wp _ 187 5 [(0, .ref 146)] [.int (Int32.ofInt (s 146 18)), .ref 146] w _
  refine wp_g 2 (pc1 := 7) (lv1 := [(0, .ref 146)]) (st1 := [.int (Int32.ofInt ((s 146 18) - 1)), .ref 146]) (w1 := w) (by simp only [Int32.ofInt_add, Int32.ofInt_sub, Int32.ofInt_mul, Int32.ofInt_neg, p_and, p_or, p_xor, p_shl, p_shr, p_usr, p_w8, p_c16, p_lI, q_and, q_or, q_shl, q_shr, q_w32, Int64.ofInt_add, Int64.ofInt_sub, Int64.ofInt_mul, p_mx, p_mn, q_mx, q_mn]; rfl) ?_
  obtain ⟨s1, e2, hx⟩ := bd hx
  refine wx_pi (kf := 286) (ln := 3) (ci := 12) (b := 18) (zz := 0) (x := 146) (by decide +kernel) h (hS _ _ sm_146) rfl (by decide +kernel) e2 (fun w3 h4 => ?_)
  refine wp_g 1 (pc1 := 11) (lv1 := [(0, .ref 146)]) (st1 := [.ref 146]) (w1 := w3) rfl ?_
  refine wx_gr (o := 8) (kf := 32) (ln := 3) (ci := 12) (b := 17) (zz := 0) (x := 146) (by decide +kernel) h4 (hS _ _ sm_146) rfl ?_
  show wp _ 187 14 [(0, .ref 146)] [.ref 154] w3 _
  refine wp_g 1 (pc1 := 15) (lv1 := [(0, .ref 146)]) (st1 := [.ref 146, .ref 154]) (w1 := w3) rfl ?_
  refine wx_gi (kf := 286) (ln := 3) (ci := 12) (b := 18) (zz := 0) (x := 146) (by decide +kernel) h4 (hS _ _ sm_146) rfl ?_
  show wp _ 187 18 [(0, .ref 146)] [.int (Int32.ofInt (s1 146 18)), .ref 154] w3 _
  obtain ⟨i5, e6, hx⟩ := bd hx
  refine wx_rl (x := 154) (n := 64) (ln := 1) (a := 0) (b := 0) (zz := 0) (by decide +kernel) h4 (hS _ _ sm_154) e6 ?_
  show wp _ 187 19 [(0, .ref 146)] [.long (Int64.ofInt (s1 154 i5))] w3 _
  refine wp_rt (i := .lreturn) (r := some (.long (Int64.ofInt (s1 154 i5)))) (ln := 1) (a := 0) (b := 0) (z := 0) (by decide +kernel) rfl (ret_l (by decide +kernel)) ?_
  cases hx
  exact kr _ h4
/-- FoldDeedsModel.one (IJJ)J -/
noncomputable def xm_one (p0 : Int) (p1 : Int) (p3 : Int) : Option Int :=
  if w32 p0 = 2 then some (p1 + p3) else if w32 p0 = 3 then some (p1 - p3) else if w32 p0 = 4 then some (p1 * p3) else if w32 p0 = 5 then if w64 p3 = w64 0 then some 0 else if ¬ w64 p3 = 0 then some (lDiv p1 p3) else none else if w32 p0 = 6 then if w64 p1 < w64 p3 then some 1 else some 0 else if w32 p0 = 7 then if w64 p3 < w64 p1 then some 0 else some 1 else if w32 p0 = 8 then if w64 p1 = w64 p3 then some 1 else some 0 else if w32 p0 = 9 then if w64 p1 < w64 p3 then some 0 else some 1 else if w32 p0 = 10 then if w64 p3 < w64 p1 then some 1 else some 0 else if w32 p0 = 11 then some (lOr p1 p3) else if w32 p0 = 12 then some (lAnd p1 p3) else if w32 p0 = 13 then some (lOr p1 p3) else if w32 p0 = 14 then if w64 p3 = w64 0 then some 0 else if ¬ w64 p3 = 0 then some (lRem p1 p3) else none else some (lOr p1 p3)
set_option maxRecDepth 100000 in
theorem xm_one_ok {d : Nat} {P : Option Value → pm_H → Prop} {w : pm_H} {p0 : Int} {p1 : Int} {p3 : Int} {o : Int} (hx : xm_one p0 p1 p3 = some o) (kr : P (some (.long (Int64.ofInt o))) w) : wp d 188 0 (lv_args 0 [.int (Int32.ofInt p0), .long (Int64.ofInt p1), .long (Int64.ofInt p3)]) [] w P := by
  show wp _ 188 0 [(0, .int (Int32.ofInt p0)), (1, .long (Int64.ofInt p1)), (3, .long (Int64.ofInt p3))] [] w _
  unfold xm_one at hx
  refine wp_g 1 (pc1 := 1) (lv1 := [(0, .int (Int32.ofInt p0)), (1, .long (Int64.ofInt p1)), (3, .long (Int64.ofInt p3))]) (st1 := [.int (Int32.ofInt p0)]) (w1 := w) rfl ?_
  by_cases h1 : w32 p0 = 2
  · have hx := ite_t h1 hx
    refine wx_sw (dflt := 171) (lo := 2) (hi := 14) (offs := #[67, 71, 75, 79, 107, 119, 131, 143, 155, 171, 167, 171, 93]) (ln := 67) (a := 0) (b := 0) (zz := 0) (tgt := 68) (q := 67) (by decide +kernel) h1 (by decide) (by decide) (by decide) (by decide) ?_
    refine wp_g 3 (pc1 := 71) (lv1 := [(0, .int (Int32.ofInt p0)), (1, .long (Int64.ofInt p1)), (3, .long (Int64.ofInt p3))]) (st1 := [.long (Int64.ofInt (p1 + p3))]) (w1 := w) (by simp only [Int32.ofInt_add, Int32.ofInt_sub, Int32.ofInt_mul, Int32.ofInt_neg, p_and, p_or, p_xor, p_shl, p_shr, p_usr, p_w8, p_c16, p_lI, q_and, q_or, q_shl, q_shr, q_w32, Int64.ofInt_add, Int64.ofInt_sub, Int64.ofInt_mul, p_mx, p_mn, q_mx, q_mn]; rfl) ?_
    refine wp_rt (i := .lreturn) (r := some (.long (Int64.ofInt (p1 + p3)))) (ln := 1) (a := 0) (b := 0) (z := 0) (by decide +kernel) rfl (ret_l (by decide +kernel)) ?_
    cases hx
    exact kr
  have hx := ite_f h1 hx
  by_cases h2 : w32 p0 = 3
  · have hx := ite_t h2 hx
    refine wx_sw (dflt := 171) (lo := 2) (hi := 14) (offs := #[67, 71, 75, 79, 107, 119, 131, 143, 155, 171, 167, 171, 93]) (ln := 67) (a := 0) (b := 0) (zz := 0) (tgt := 72) (q := 71) (by decide +kernel) h2 (by decide) (by decide) (by decide) (by decide) ?_
    refine wp_g 3 (pc1 := 75) (lv1 := [(0, .int (Int32.ofInt p0)), (1, .long (Int64.ofInt p1)), (3, .long (Int64.ofInt p3))]) (st1 := [.long (Int64.ofInt (p1 - p3))]) (w1 := w) (by simp only [Int32.ofInt_add, Int32.ofInt_sub, Int32.ofInt_mul, Int32.ofInt_neg, p_and, p_or, p_xor, p_shl, p_shr, p_usr, p_w8, p_c16, p_lI, q_and, q_or, q_shl, q_shr, q_w32, Int64.ofInt_add, Int64.ofInt_sub, Int64.ofInt_mul, p_mx, p_mn, q_mx, q_mn]; rfl) ?_
    refine wp_rt (i := .lreturn) (r := some (.long (Int64.ofInt (p1 - p3)))) (ln := 1) (a := 0) (b := 0) (z := 0) (by decide +kernel) rfl (ret_l (by decide +kernel)) ?_
    cases hx
    exact kr
  have hx := ite_f h2 hx
  by_cases h3 : w32 p0 = 4
  · have hx := ite_t h3 hx
    refine wx_sw (dflt := 171) (lo := 2) (hi := 14) (offs := #[67, 71, 75, 79, 107, 119, 131, 143, 155, 171, 167, 171, 93]) (ln := 67) (a := 0) (b := 0) (zz := 0) (tgt := 76) (q := 75) (by decide +kernel) h3 (by decide) (by decide) (by decide) (by decide) ?_
    refine wp_g 3 (pc1 := 79) (lv1 := [(0, .int (Int32.ofInt p0)), (1, .long (Int64.ofInt p1)), (3, .long (Int64.ofInt p3))]) (st1 := [.long (Int64.ofInt (p1 * p3))]) (w1 := w) (by simp only [Int32.ofInt_add, Int32.ofInt_sub, Int32.ofInt_mul, Int32.ofInt_neg, p_and, p_or, p_xor, p_shl, p_shr, p_usr, p_w8, p_c16, p_lI, q_and, q_or, q_shl, q_shr, q_w32, Int64.ofInt_add, Int64.ofInt_sub, Int64.ofInt_mul, p_mx, p_mn, q_mx, q_mn]; rfl) ?_
    refine wp_rt (i := .lreturn) (r := some (.long (Int64.ofInt (p1 * p3)))) (ln := 1) (a := 0) (b := 0) (z := 0) (by decide +kernel) rfl (ret_l (by decide +kernel)) ?_
    cases hx
    exact kr
  have hx := ite_f h3 hx
  by_cases h4 : w32 p0 = 5
  · have hx := ite_t h4 hx
    refine wx_sw (dflt := 171) (lo := 2) (hi := 14) (offs := #[67, 71, 75, 79, 107, 119, 131, 143, 155, 171, 167, 171, 93]) (ln := 67) (a := 0) (b := 0) (zz := 0) (tgt := 80) (q := 79) (by decide +kernel) h4 (by decide) (by decide) (by decide) (by decide) ?_
    refine wp_g 3 (pc1 := 83) (lv1 := [(0, .int (Int32.ofInt p0)), (1, .long (Int64.ofInt p1)), (3, .long (Int64.ofInt p3))]) (st1 := [.int (lg_cmp (Int64.ofInt p3) (Int64.ofInt 0))]) (w1 := w) rfl ?_
    refine wl_ne (oo := 7) (ln := 3) (a := 90) (b := 0) (zz := 0) (by decide +kernel) (fun h5 => ?_) (fun h5 => ?_)
    · have hx := ite_f h5 hx
      refine wp_g 2 (pc1 := 92) (lv1 := [(0, .int (Int32.ofInt p0)), (1, .long (Int64.ofInt p1)), (3, .long (Int64.ofInt p3))]) (st1 := [.long (Int64.ofInt p3), .long (Int64.ofInt p1)]) (w1 := w) rfl ?_
      obtain ⟨h6, hx⟩ := gd hx
      refine wx_ld (ln := 1) (a := 0) (b := 0) (zz := 0) (by decide +kernel) h6 ?_
      refine wp_rt (i := .lreturn) (r := some (.long (Int64.ofInt (lDiv p1 p3)))) (ln := 1) (a := 0) (b := 0) (z := 0) (by decide +kernel) rfl (ret_l (by decide +kernel)) ?_
      cases hx
      exact kr
    · have hx := ite_t h5 hx
      refine wp_g 2 (pc1 := 93) (lv1 := [(0, .int (Int32.ofInt p0)), (1, .long (Int64.ofInt p1)), (3, .long (Int64.ofInt p3))]) (st1 := [.long (Int64.ofInt 0)]) (w1 := w) rfl ?_
      refine wp_rt (i := .lreturn) (r := some (.long (Int64.ofInt 0))) (ln := 1) (a := 0) (b := 0) (z := 0) (by decide +kernel) rfl (ret_l (by decide +kernel)) ?_
      cases hx
      exact kr
  have hx := ite_f h4 hx
  by_cases h7 : w32 p0 = 6
  · have hx := ite_t h7 hx
    refine wx_sw (dflt := 171) (lo := 2) (hi := 14) (offs := #[67, 71, 75, 79, 107, 119, 131, 143, 155, 171, 167, 171, 93]) (ln := 67) (a := 0) (b := 0) (zz := 0) (tgt := 108) (q := 107) (by decide +kernel) h7 (by decide) (by decide) (by decide) (by decide) ?_
    refine wp_g 3 (pc1 := 111) (lv1 := [(0, .int (Int32.ofInt p0)), (1, .long (Int64.ofInt p1)), (3, .long (Int64.ofInt p3))]) (st1 := [.int (lg_cmp (Int64.ofInt p1) (Int64.ofInt p3))]) (w1 := w) rfl ?_
    refine wl_ge (oo := 7) (ln := 3) (a := 118) (b := 0) (zz := 0) (by decide +kernel) (fun h8 => ?_) (fun h8 => ?_)
    · have hx := ite_f h8 hx
      refine wp_g 1 (pc1 := 119) (lv1 := [(0, .int (Int32.ofInt p0)), (1, .long (Int64.ofInt p1)), (3, .long (Int64.ofInt p3))]) (st1 := [.long (Int64.ofInt 0)]) (w1 := w) rfl ?_
      refine wp_rt (i := .lreturn) (r := some (.long (Int64.ofInt 0))) (ln := 1) (a := 0) (b := 0) (z := 0) (by decide +kernel) rfl (ret_l (by decide +kernel)) ?_
      cases hx
      exact kr
    · have hx := ite_t h8 hx
      refine wp_g 2 (pc1 := 119) (lv1 := [(0, .int (Int32.ofInt p0)), (1, .long (Int64.ofInt p1)), (3, .long (Int64.ofInt p3))]) (st1 := [.long (Int64.ofInt 1)]) (w1 := w) rfl ?_
      refine wp_rt (i := .lreturn) (r := some (.long (Int64.ofInt 1))) (ln := 1) (a := 0) (b := 0) (z := 0) (by decide +kernel) rfl (ret_l (by decide +kernel)) ?_
      cases hx
      exact kr
  have hx := ite_f h7 hx
  by_cases h9 : w32 p0 = 7
  · have hx := ite_t h9 hx
    refine wx_sw (dflt := 171) (lo := 2) (hi := 14) (offs := #[67, 71, 75, 79, 107, 119, 131, 143, 155, 171, 167, 171, 93]) (ln := 67) (a := 0) (b := 0) (zz := 0) (tgt := 120) (q := 119) (by decide +kernel) h9 (by decide) (by decide) (by decide) (by decide) ?_
    refine wp_g 3 (pc1 := 123) (lv1 := [(0, .int (Int32.ofInt p0)), (1, .long (Int64.ofInt p1)), (3, .long (Int64.ofInt p3))]) (st1 := [.int (lg_cmp (Int64.ofInt p1) (Int64.ofInt p3))]) (w1 := w) rfl ?_
    refine wl_gt (oo := 7) (ln := 3) (a := 130) (b := 0) (zz := 0) (by decide +kernel) (fun h10 => ?_) (fun h10 => ?_)
    · have hx := ite_t h10 hx
      refine wp_g 1 (pc1 := 131) (lv1 := [(0, .int (Int32.ofInt p0)), (1, .long (Int64.ofInt p1)), (3, .long (Int64.ofInt p3))]) (st1 := [.long (Int64.ofInt 0)]) (w1 := w) rfl ?_
      refine wp_rt (i := .lreturn) (r := some (.long (Int64.ofInt 0))) (ln := 1) (a := 0) (b := 0) (z := 0) (by decide +kernel) rfl (ret_l (by decide +kernel)) ?_
      cases hx
      exact kr
    · have hx := ite_f h10 hx
      refine wp_g 2 (pc1 := 131) (lv1 := [(0, .int (Int32.ofInt p0)), (1, .long (Int64.ofInt p1)), (3, .long (Int64.ofInt p3))]) (st1 := [.long (Int64.ofInt 1)]) (w1 := w) rfl ?_
      refine wp_rt (i := .lreturn) (r := some (.long (Int64.ofInt 1))) (ln := 1) (a := 0) (b := 0) (z := 0) (by decide +kernel) rfl (ret_l (by decide +kernel)) ?_
      cases hx
      exact kr
  have hx := ite_f h9 hx
  by_cases h11 : w32 p0 = 8
  · have hx := ite_t h11 hx
    refine wx_sw (dflt := 171) (lo := 2) (hi := 14) (offs := #[67, 71, 75, 79, 107, 119, 131, 143, 155, 171, 167, 171, 93]) (ln := 67) (a := 0) (b := 0) (zz := 0) (tgt := 132) (q := 131) (by decide +kernel) h11 (by decide) (by decide) (by decide) (by decide) ?_
    refine wp_g 3 (pc1 := 135) (lv1 := [(0, .int (Int32.ofInt p0)), (1, .long (Int64.ofInt p1)), (3, .long (Int64.ofInt p3))]) (st1 := [.int (lg_cmp (Int64.ofInt p1) (Int64.ofInt p3))]) (w1 := w) rfl ?_
    refine wl_ne (oo := 7) (ln := 3) (a := 142) (b := 0) (zz := 0) (by decide +kernel) (fun h12 => ?_) (fun h12 => ?_)
    · have hx := ite_f h12 hx
      refine wp_g 1 (pc1 := 143) (lv1 := [(0, .int (Int32.ofInt p0)), (1, .long (Int64.ofInt p1)), (3, .long (Int64.ofInt p3))]) (st1 := [.long (Int64.ofInt 0)]) (w1 := w) rfl ?_
      refine wp_rt (i := .lreturn) (r := some (.long (Int64.ofInt 0))) (ln := 1) (a := 0) (b := 0) (z := 0) (by decide +kernel) rfl (ret_l (by decide +kernel)) ?_
      cases hx
      exact kr
    · have hx := ite_t h12 hx
      refine wp_g 2 (pc1 := 143) (lv1 := [(0, .int (Int32.ofInt p0)), (1, .long (Int64.ofInt p1)), (3, .long (Int64.ofInt p3))]) (st1 := [.long (Int64.ofInt 1)]) (w1 := w) rfl ?_
      refine wp_rt (i := .lreturn) (r := some (.long (Int64.ofInt 1))) (ln := 1) (a := 0) (b := 0) (z := 0) (by decide +kernel) rfl (ret_l (by decide +kernel)) ?_
      cases hx
      exact kr
  have hx := ite_f h11 hx
  by_cases h13 : w32 p0 = 9
  · have hx := ite_t h13 hx
    refine wx_sw (dflt := 171) (lo := 2) (hi := 14) (offs := #[67, 71, 75, 79, 107, 119, 131, 143, 155, 171, 167, 171, 93]) (ln := 67) (a := 0) (b := 0) (zz := 0) (tgt := 144) (q := 143) (by decide +kernel) h13 (by decide) (by decide) (by decide) (by decide) ?_
    refine wp_g 3 (pc1 := 147) (lv1 := [(0, .int (Int32.ofInt p0)), (1, .long (Int64.ofInt p1)), (3, .long (Int64.ofInt p3))]) (st1 := [.int (lg_cmp (Int64.ofInt p1) (Int64.ofInt p3))]) (w1 := w) rfl ?_
    refine wl_lt (oo := 7) (ln := 3) (a := 154) (b := 0) (zz := 0) (by decide +kernel) (fun h14 => ?_) (fun h14 => ?_)
    · have hx := ite_t h14 hx
      refine wp_g 1 (pc1 := 155) (lv1 := [(0, .int (Int32.ofInt p0)), (1, .long (Int64.ofInt p1)), (3, .long (Int64.ofInt p3))]) (st1 := [.long (Int64.ofInt 0)]) (w1 := w) rfl ?_
      refine wp_rt (i := .lreturn) (r := some (.long (Int64.ofInt 0))) (ln := 1) (a := 0) (b := 0) (z := 0) (by decide +kernel) rfl (ret_l (by decide +kernel)) ?_
      cases hx
      exact kr
    · have hx := ite_f h14 hx
      refine wp_g 2 (pc1 := 155) (lv1 := [(0, .int (Int32.ofInt p0)), (1, .long (Int64.ofInt p1)), (3, .long (Int64.ofInt p3))]) (st1 := [.long (Int64.ofInt 1)]) (w1 := w) rfl ?_
      refine wp_rt (i := .lreturn) (r := some (.long (Int64.ofInt 1))) (ln := 1) (a := 0) (b := 0) (z := 0) (by decide +kernel) rfl (ret_l (by decide +kernel)) ?_
      cases hx
      exact kr
  have hx := ite_f h13 hx
  by_cases h15 : w32 p0 = 10
  · have hx := ite_t h15 hx
    refine wx_sw (dflt := 171) (lo := 2) (hi := 14) (offs := #[67, 71, 75, 79, 107, 119, 131, 143, 155, 171, 167, 171, 93]) (ln := 67) (a := 0) (b := 0) (zz := 0) (tgt := 156) (q := 155) (by decide +kernel) h15 (by decide) (by decide) (by decide) (by decide) ?_
    refine wp_g 3 (pc1 := 159) (lv1 := [(0, .int (Int32.ofInt p0)), (1, .long (Int64.ofInt p1)), (3, .long (Int64.ofInt p3))]) (st1 := [.int (lg_cmp (Int64.ofInt p1) (Int64.ofInt p3))]) (w1 := w) rfl ?_
    refine wl_le (oo := 7) (ln := 3) (a := 166) (b := 0) (zz := 0) (by decide +kernel) (fun h16 => ?_) (fun h16 => ?_)
    · have hx := ite_f h16 hx
      refine wp_g 1 (pc1 := 167) (lv1 := [(0, .int (Int32.ofInt p0)), (1, .long (Int64.ofInt p1)), (3, .long (Int64.ofInt p3))]) (st1 := [.long (Int64.ofInt 0)]) (w1 := w) rfl ?_
      refine wp_rt (i := .lreturn) (r := some (.long (Int64.ofInt 0))) (ln := 1) (a := 0) (b := 0) (z := 0) (by decide +kernel) rfl (ret_l (by decide +kernel)) ?_
      cases hx
      exact kr
    · have hx := ite_t h16 hx
      refine wp_g 2 (pc1 := 167) (lv1 := [(0, .int (Int32.ofInt p0)), (1, .long (Int64.ofInt p1)), (3, .long (Int64.ofInt p3))]) (st1 := [.long (Int64.ofInt 1)]) (w1 := w) rfl ?_
      refine wp_rt (i := .lreturn) (r := some (.long (Int64.ofInt 1))) (ln := 1) (a := 0) (b := 0) (z := 0) (by decide +kernel) rfl (ret_l (by decide +kernel)) ?_
      cases hx
      exact kr
  have hx := ite_f h15 hx
  by_cases h17 : w32 p0 = 11
  · have hx := ite_t h17 hx
    refine wx_sw (dflt := 171) (lo := 2) (hi := 14) (offs := #[67, 71, 75, 79, 107, 119, 131, 143, 155, 171, 167, 171, 93]) (ln := 67) (a := 0) (b := 0) (zz := 0) (tgt := 172) (q := 171) (by decide +kernel) h17 (by decide) (by decide) (by decide) (by decide) ?_
    refine wp_g 3 (pc1 := 175) (lv1 := [(0, .int (Int32.ofInt p0)), (1, .long (Int64.ofInt p1)), (3, .long (Int64.ofInt p3))]) (st1 := [.long (Int64.ofInt (lOr p1 p3))]) (w1 := w) (by simp only [Int32.ofInt_add, Int32.ofInt_sub, Int32.ofInt_mul, Int32.ofInt_neg, p_and, p_or, p_xor, p_shl, p_shr, p_usr, p_w8, p_c16, p_lI, q_and, q_or, q_shl, q_shr, q_w32, Int64.ofInt_add, Int64.ofInt_sub, Int64.ofInt_mul, p_mx, p_mn, q_mx, q_mn]; rfl) ?_
    refine wp_rt (i := .lreturn) (r := some (.long (Int64.ofInt (lOr p1 p3)))) (ln := 1) (a := 0) (b := 0) (z := 0) (by decide +kernel) rfl (ret_l (by decide +kernel)) ?_
    cases hx
    exact kr
  have hx := ite_f h17 hx
  by_cases h18 : w32 p0 = 12
  · have hx := ite_t h18 hx
    refine wx_sw (dflt := 171) (lo := 2) (hi := 14) (offs := #[67, 71, 75, 79, 107, 119, 131, 143, 155, 171, 167, 171, 93]) (ln := 67) (a := 0) (b := 0) (zz := 0) (tgt := 168) (q := 167) (by decide +kernel) h18 (by decide) (by decide) (by decide) (by decide) ?_
    refine wp_g 3 (pc1 := 171) (lv1 := [(0, .int (Int32.ofInt p0)), (1, .long (Int64.ofInt p1)), (3, .long (Int64.ofInt p3))]) (st1 := [.long (Int64.ofInt (lAnd p1 p3))]) (w1 := w) (by simp only [Int32.ofInt_add, Int32.ofInt_sub, Int32.ofInt_mul, Int32.ofInt_neg, p_and, p_or, p_xor, p_shl, p_shr, p_usr, p_w8, p_c16, p_lI, q_and, q_or, q_shl, q_shr, q_w32, Int64.ofInt_add, Int64.ofInt_sub, Int64.ofInt_mul, p_mx, p_mn, q_mx, q_mn]; rfl) ?_
    refine wp_rt (i := .lreturn) (r := some (.long (Int64.ofInt (lAnd p1 p3)))) (ln := 1) (a := 0) (b := 0) (z := 0) (by decide +kernel) rfl (ret_l (by decide +kernel)) ?_
    cases hx
    exact kr
  have hx := ite_f h18 hx
  by_cases h19 : w32 p0 = 13
  · have hx := ite_t h19 hx
    refine wx_sw (dflt := 171) (lo := 2) (hi := 14) (offs := #[67, 71, 75, 79, 107, 119, 131, 143, 155, 171, 167, 171, 93]) (ln := 67) (a := 0) (b := 0) (zz := 0) (tgt := 172) (q := 171) (by decide +kernel) h19 (by decide) (by decide) (by decide) (by decide) ?_
    refine wp_g 3 (pc1 := 175) (lv1 := [(0, .int (Int32.ofInt p0)), (1, .long (Int64.ofInt p1)), (3, .long (Int64.ofInt p3))]) (st1 := [.long (Int64.ofInt (lOr p1 p3))]) (w1 := w) (by simp only [Int32.ofInt_add, Int32.ofInt_sub, Int32.ofInt_mul, Int32.ofInt_neg, p_and, p_or, p_xor, p_shl, p_shr, p_usr, p_w8, p_c16, p_lI, q_and, q_or, q_shl, q_shr, q_w32, Int64.ofInt_add, Int64.ofInt_sub, Int64.ofInt_mul, p_mx, p_mn, q_mx, q_mn]; rfl) ?_
    refine wp_rt (i := .lreturn) (r := some (.long (Int64.ofInt (lOr p1 p3)))) (ln := 1) (a := 0) (b := 0) (z := 0) (by decide +kernel) rfl (ret_l (by decide +kernel)) ?_
    cases hx
    exact kr
  have hx := ite_f h19 hx
  by_cases h20 : w32 p0 = 14
  · have hx := ite_t h20 hx
    refine wx_sw (dflt := 171) (lo := 2) (hi := 14) (offs := #[67, 71, 75, 79, 107, 119, 131, 143, 155, 171, 167, 171, 93]) (ln := 67) (a := 0) (b := 0) (zz := 0) (tgt := 94) (q := 93) (by decide +kernel) h20 (by decide) (by decide) (by decide) (by decide) ?_
    refine wp_g 3 (pc1 := 97) (lv1 := [(0, .int (Int32.ofInt p0)), (1, .long (Int64.ofInt p1)), (3, .long (Int64.ofInt p3))]) (st1 := [.int (lg_cmp (Int64.ofInt p3) (Int64.ofInt 0))]) (w1 := w) rfl ?_
    refine wl_ne (oo := 7) (ln := 3) (a := 104) (b := 0) (zz := 0) (by decide +kernel) (fun h21 => ?_) (fun h21 => ?_)
    · have hx := ite_f h21 hx
      refine wp_g 2 (pc1 := 106) (lv1 := [(0, .int (Int32.ofInt p0)), (1, .long (Int64.ofInt p1)), (3, .long (Int64.ofInt p3))]) (st1 := [.long (Int64.ofInt p3), .long (Int64.ofInt p1)]) (w1 := w) rfl ?_
      obtain ⟨h22, hx⟩ := gd hx
      refine wx_lr (ln := 1) (a := 0) (b := 0) (zz := 0) (by decide +kernel) h22 ?_
      refine wp_rt (i := .lreturn) (r := some (.long (Int64.ofInt (lRem p1 p3)))) (ln := 1) (a := 0) (b := 0) (z := 0) (by decide +kernel) rfl (ret_l (by decide +kernel)) ?_
      cases hx
      exact kr
    · have hx := ite_t h21 hx
      refine wp_g 2 (pc1 := 107) (lv1 := [(0, .int (Int32.ofInt p0)), (1, .long (Int64.ofInt p1)), (3, .long (Int64.ofInt p3))]) (st1 := [.long (Int64.ofInt 0)]) (w1 := w) rfl ?_
      refine wp_rt (i := .lreturn) (r := some (.long (Int64.ofInt 0))) (ln := 1) (a := 0) (b := 0) (z := 0) (by decide +kernel) rfl (ret_l (by decide +kernel)) ?_
      cases hx
      exact kr
  have hx := ite_f h20 hx
  refine wx_sd (dflt := 171) (lo := 2) (hi := 14) (offs := #[67, 71, 75, 79, 107, 119, 131, 143, 155, 171, 167, 171, 93]) (ln := 67) (a := 0) (b := 0) (zz := 0) (tgt := 172) (by decide +kernel) (by omega) (by decide) ?_
  refine wp_g 3 (pc1 := 175) (lv1 := [(0, .int (Int32.ofInt p0)), (1, .long (Int64.ofInt p1)), (3, .long (Int64.ofInt p3))]) (st1 := [.long (Int64.ofInt (lOr p1 p3))]) (w1 := w) (by simp only [Int32.ofInt_add, Int32.ofInt_sub, Int32.ofInt_mul, Int32.ofInt_neg, p_and, p_or, p_xor, p_shl, p_shr, p_usr, p_w8, p_c16, p_lI, q_and, q_or, q_shl, q_shr, q_w32, Int64.ofInt_add, Int64.ofInt_sub, Int64.ofInt_mul, p_mx, p_mn, q_mx, q_mn]; rfl) ?_
  refine wp_rt (i := .lreturn) (r := some (.long (Int64.ofInt (lOr p1 p3)))) (ln := 1) (a := 0) (b := 0) (z := 0) (by decide +kernel) rfl (ret_l (by decide +kernel)) ?_
  cases hx
  exact kr
noncomputable def xm_reckons_b8 (s : Hp) (x1 : Int) (x3 : Int) (x4 : Int) : Option ((Int × Hp) ⊕ (Int × Hp)) :=
  if w32 x4 < w32 x3 then (ix 2400 ((400 * x1) + x4)).bind fun i2 => if w32 (bAnd (s 148 i2) 15) = 0 then (xm_push s (w32 (bShr (s 148 i2) 4))).bind fun o37 => some (.inl (x4 + 1, o37)) else if w32 (bAnd (s 148 i2) 15) = w32 1 then (ix 11 (bShr (s 148 i2) 4)).bind fun i31 => (xm_push s (s 155 i31)).bind fun o33 => some (.inl (x4 + 1, o33)) else if w32 (bAnd (s 148 i2) 15) = w32 11 then (xm_pop s).bind fun o23 => (xm_push o23.2 (1 - o23.1)).bind fun o27 => some (.inl (x4 + 1, o27)) else (xm_pop s).bind fun o7 => (xm_pop o7.2).bind fun o11 => (xm_one (bAnd (s 148 i2) 15) o11.1 o7.1).bind fun o15 => (xm_push o11.2 o15).bind fun o19 => some (.inl (x4 + 1, o19)) else some (.inr (x4, s))
set_option maxRecDepth 100000 in
theorem xm_reckons_b8_ok {d : Nat} {P : Option Value → pm_H → Prop} {w : pm_H} {sh : Shp} {w0 : pm_H} {s : Hp} (hS : StM sh) {x1 : Int} {x3 : Int} {x4 : Int} (h : Rw sh w0 s w) {o : ((Int × Hp) ⊕ (Int × Hp))} (hx : xm_reckons_b8 s x1 x3 x4 = some o) (kn : ∀ (q : Int × Hp) w1, o = .inl q → Rw sh w0 q.2 w1 → wp (d + 1) 189 8 [(0, .ref 146), (1, .int (Int32.ofInt x1)), (3, .int (Int32.ofInt x3)), (4, .int (Int32.ofInt q.1))] [] w1 P) (kc : ∀ (r : (Int × Hp)), o = .inr r → (∀ w1, Rw sh w0 r.2 w1 → wp (d + 1) 189 135 [(0, .ref 146), (1, .int (Int32.ofInt x1)), (3, .int (Int32.ofInt x3)), (4, .int (Int32.ofInt r.1))] [] w1 P)) : wp (d + 1) 189 8 [(0, .ref 146), (1, .int (Int32.ofInt x1)), (3, .int (Int32.ofInt x3)), (4, .int (Int32.ofInt x4))] [] w P := by
  unfold xm_reckons_b8 at hx
  refine wp_g 2 (pc1 := 11) (lv1 := [(0, .ref 146), (1, .int (Int32.ofInt x1)), (3, .int (Int32.ofInt x3)), (4, .int (Int32.ofInt x4))]) (st1 := [.int (Int32.ofInt x3), .int (Int32.ofInt x4)]) (w1 := w) rfl ?_
  refine wx_ge (oo := 124) (ln := 3) (a := 135) (b := 0) (zz := 0) (by decide +kernel) (fun h1 => ?_) (fun h1 => ?_)
  · have hx := ite_f h1 hx
    cases hx
    exact kc _ rfl _ h
  · have hx := ite_t h1 hx
    refine wp_g 1 (pc1 := 15) (lv1 := [(0, .ref 146), (1, .int (Int32.ofInt x1)), (3, .int (Int32.ofInt x3)), (4, .int (Int32.ofInt x4))]) (st1 := [.ref 146]) (w1 := w) rfl ?_
    refine wx_gr (o := 2) (kf := 13) (ln := 3) (ci := 12) (b := 3) (zz := 0) (x := 146) (by decide +kernel) h (hS _ _ sm_146) rfl ?_
    show wp _ 189 18 [(0, .ref 146), (1, .int (Int32.ofInt x1)), (3, .int (Int32.ofInt x3)), (4, .int (Int32.ofInt x4))] [.ref 148] w _
    refine wp_g 5 (pc1 := 26) (lv1 := [(0, .ref 146), (1, .int (Int32.ofInt x1)), (3, .int (Int32.ofInt x3)), (4, .int (Int32.ofInt x4))]) (st1 := [.int (Int32.ofInt ((400 * x1) + x4)), .ref 148]) (w1 := w) (by simp only [Int32.ofInt_add, Int32.ofInt_sub, Int32.ofInt_mul, Int32.ofInt_neg, p_and, p_or, p_xor, p_shl, p_shr, p_usr, p_w8, p_c16, p_lI, q_and, q_or, q_shl, q_shr, q_w32, Int64.ofInt_add, Int64.ofInt_sub, Int64.ofInt_mul, p_mx, p_mn, q_mx, q_mn]; rfl) ?_
    obtain ⟨i2, e3, hx⟩ := bd hx
    refine wx_ra (x := 148) (n := 2400) (ln := 1) (a := 0) (b := 0) (zz := 0) (by decide +kernel) h (hS _ _ sm_148) e3 ?_
    show wp _ 189 27 [(0, .ref 146), (1, .int (Int32.ofInt x1)), (3, .int (Int32.ofInt x3)), (4, .int (Int32.ofInt x4))] [.int (Int32.ofInt (s 148 i2))] w _
    refine wp_g 4 (pc1 := 33) (lv1 := [(5, .int (Int32.ofInt (bAnd (s 148 i2) 15))), (0, .ref 146), (1, .int (Int32.ofInt x1)), (3, .int (Int32.ofInt x3)), (4, .int (Int32.ofInt x4))]) (st1 := [.ref 146]) (w1 := w) (by simp only [Int32.ofInt_add, Int32.ofInt_sub, Int32.ofInt_mul, Int32.ofInt_neg, p_and, p_or, p_xor, p_shl, p_shr, p_usr, p_w8, p_c16, p_lI, q_and, q_or, q_shl, q_shr, q_w32, Int64.ofInt_add, Int64.ofInt_sub, Int64.ofInt_mul, p_mx, p_mn, q_mx, q_mn]; rfl) ?_
    refine wx_gr (o := 2) (kf := 13) (ln := 3) (ci := 12) (b := 3) (zz := 0) (x := 146) (by decide +kernel) h (hS _ _ sm_146) rfl ?_
    show wp _ 189 36 [(5, .int (Int32.ofInt (bAnd (s 148 i2) 15))), (0, .ref 146), (1, .int (Int32.ofInt x1)), (3, .int (Int32.ofInt x3)), (4, .int (Int32.ofInt x4))] [.ref 148] w _
    refine wp_g 5 (pc1 := 44) (lv1 := [(5, .int (Int32.ofInt (bAnd (s 148 i2) 15))), (0, .ref 146), (1, .int (Int32.ofInt x1)), (3, .int (Int32.ofInt x3)), (4, .int (Int32.ofInt x4))]) (st1 := [.int (Int32.ofInt ((400 * x1) + x4)), .ref 148]) (w1 := w) (by simp only [Int32.ofInt_add, Int32.ofInt_sub, Int32.ofInt_mul, Int32.ofInt_neg, p_and, p_or, p_xor, p_shl, p_shr, p_usr, p_w8, p_c16, p_lI, q_and, q_or, q_shl, q_shr, q_w32, Int64.ofInt_add, Int64.ofInt_sub, Int64.ofInt_mul, p_mx, p_mn, q_mx, q_mn]; rfl) ?_
    refine wx_ra (x := 148) (n := 2400) (ln := 1) (a := 0) (b := 0) (zz := 0) (by decide +kernel) h (hS _ _ sm_148) e3 ?_
    show wp _ 189 45 [(5, .int (Int32.ofInt (bAnd (s 148 i2) 15))), (0, .ref 146), (1, .int (Int32.ofInt x1)), (3, .int (Int32.ofInt x3)), (4, .int (Int32.ofInt x4))] [.int (Int32.ofInt (s 148 i2))] w _
    refine wp_g 4 (pc1 := 51) (lv1 := [(6, .int (Int32.ofInt (bShr (s 148 i2) 4))), (5, .int (Int32.ofInt (bAnd (s 148 i2) 15))), (0, .ref 146), (1, .int (Int32.ofInt x1)), (3, .int (Int32.ofInt x3)), (4, .int (Int32.ofInt x4))]) (st1 := [.int (Int32.ofInt (bAnd (s 148 i2) 15))]) (w1 := w) (by simp only [Int32.ofInt_add, Int32.ofInt_sub, Int32.ofInt_mul, Int32.ofInt_neg, p_and, p_or, p_xor, p_shl, p_shr, p_usr, p_w8, p_c16, p_lI, q_and, q_or, q_shl, q_shr, q_w32, Int64.ofInt_add, Int64.ofInt_sub, Int64.ofInt_mul, p_mx, p_mn, q_mx, q_mn]; rfl) ?_
    refine wz_ne (oo := 13) (ln := 3) (a := 64) (b := 0) (zz := 0) (by decide +kernel) (fun h4 => ?_) (fun h4 => ?_)
    · have hx := ite_f h4 hx
      refine wp_g 2 (pc1 := 67) (lv1 := [(6, .int (Int32.ofInt (bShr (s 148 i2) 4))), (5, .int (Int32.ofInt (bAnd (s 148 i2) 15))), (0, .ref 146), (1, .int (Int32.ofInt x1)), (3, .int (Int32.ofInt x3)), (4, .int (Int32.ofInt x4))]) (st1 := [.int (Int32.ofInt 1), .int (Int32.ofInt (bAnd (s 148 i2) 15))]) (w1 := w) rfl ?_
      refine wx_ne (oo := 17) (ln := 3) (a := 84) (b := 0) (zz := 0) (by decide +kernel) (fun h5 => ?_) (fun h5 => ?_)
      · have hx := ite_f h5 hx
        refine wp_g 2 (pc1 := 88) (lv1 := [(6, .int (Int32.ofInt (bShr (s 148 i2) 4))), (5, .int (Int32.ofInt (bAnd (s 148 i2) 15))), (0, .ref 146), (1, .int (Int32.ofInt x1)), (3, .int (Int32.ofInt x3)), (4, .int (Int32.ofInt x4))]) (st1 := [.int (Int32.ofInt 11), .int (Int32.ofInt (bAnd (s 148 i2) 15))]) (w1 := w) rfl ?_
        refine wx_ne (oo := 16) (ln := 3) (a := 104) (b := 0) (zz := 0) (by decide +kernel) (fun h6 => ?_) (fun h6 => ?_)
        · have hx := ite_f h6 hx
          refine wp_g 1 (pc1 := 105) (lv1 := [(6, .int (Int32.ofInt (bShr (s 148 i2) 4))), (5, .int (Int32.ofInt (bAnd (s 148 i2) 15))), (0, .ref 146), (1, .int (Int32.ofInt x1)), (3, .int (Int32.ofInt x3)), (4, .int (Int32.ofInt x4))]) (st1 := [.ref 146]) (w1 := w) rfl ?_
          obtain ⟨o7, e8, hx⟩ := bd hx
          refine wp_cl [.ref 146] [] (i := .invokevirtual 293) (ln := 3) (a := 187) (b := 0) (z := 0) (by decide +kernel) rfl rfl (by decide) rfl (show (1 : Nat) = pm_na 187 by decide +kernel) (Nat.le_of_ble_eq_true rfl) (show (1 : Nat) ≤ pm_n 187 by decide +kernel) (rcv_x 12 h (hS _ _ sm_146) (by decide +kernel)) (xm_pop_ok (d := d) hS h e8 (fun w9 h10 => ?_))
          show wp _ 189 108 [(6, .int (Int32.ofInt (bShr (s 148 i2) 4))), (5, .int (Int32.ofInt (bAnd (s 148 i2) 15))), (0, .ref 146), (1, .int (Int32.ofInt x1)), (3, .int (Int32.ofInt x3)), (4, .int (Int32.ofInt x4))] [.long (Int64.ofInt o7.1)] w9 _
          refine wp_g 2 (pc1 := 111) (lv1 := [(7, .long (Int64.ofInt o7.1)), (6, .int (Int32.ofInt (bShr (s 148 i2) 4))), (5, .int (Int32.ofInt (bAnd (s 148 i2) 15))), (0, .ref 146), (1, .int (Int32.ofInt x1)), (3, .int (Int32.ofInt x3)), (4, .int (Int32.ofInt x4))]) (st1 := [.ref 146]) (w1 := w9) rfl ?_
          obtain ⟨o11, e12, hx⟩ := bd hx
          refine wp_cl [.ref 146] [] (i := .invokevirtual 293) (ln := 3) (a := 187) (b := 0) (z := 0) (by decide +kernel) rfl rfl (by decide) rfl (show (1 : Nat) = pm_na 187 by decide +kernel) (Nat.le_of_ble_eq_true rfl) (show (1 : Nat) ≤ pm_n 187 by decide +kernel) (rcv_x 12 h10 (hS _ _ sm_146) (by decide +kernel)) (xm_pop_ok (d := d) hS h10 e12 (fun w13 h14 => ?_))
          show wp _ 189 114 [(7, .long (Int64.ofInt o7.1)), (6, .int (Int32.ofInt (bShr (s 148 i2) 4))), (5, .int (Int32.ofInt (bAnd (s 148 i2) 15))), (0, .ref 146), (1, .int (Int32.ofInt x1)), (3, .int (Int32.ofInt x3)), (4, .int (Int32.ofInt x4))] [.long (Int64.ofInt o11.1)] w13 _
          refine wp_g 5 (pc1 := 123) (lv1 := [(9, .long (Int64.ofInt o11.1)), (7, .long (Int64.ofInt o7.1)), (6, .int (Int32.ofInt (bShr (s 148 i2) 4))), (5, .int (Int32.ofInt (bAnd (s 148 i2) 15))), (0, .ref 146), (1, .int (Int32.ofInt x1)), (3, .int (Int32.ofInt x3)), (4, .int (Int32.ofInt x4))]) (st1 := [.long (Int64.ofInt o7.1), .long (Int64.ofInt o11.1), .int (Int32.ofInt (bAnd (s 148 i2) 15)), .ref 146]) (w1 := w13) rfl ?_
          obtain ⟨o15, e16, hx⟩ := bd hx
          refine wp_cl [.int (Int32.ofInt (bAnd (s 148 i2) 15)), .long (Int64.ofInt o11.1), .long (Int64.ofInt o7.1)] [.ref 146] (i := .invokestatic 297) (ln := 3) (a := 188) (b := 1) (z := 0) (by decide +kernel) rfl rfl (by decide) rfl (show (3 : Nat) = pm_na 188 by decide +kernel) (Nat.le_of_ble_eq_true rfl) (show (5 : Nat) ≤ pm_n 188 by decide +kernel) (by rw [show pm_k 188 = 1 by decide +kernel]; rfl) (xm_one_ok (d := d) e16 ?_)
          show wp _ 189 126 [(9, .long (Int64.ofInt o11.1)), (7, .long (Int64.ofInt o7.1)), (6, .int (Int32.ofInt (bShr (s 148 i2) 4))), (5, .int (Int32.ofInt (bAnd (s 148 i2) 15))), (0, .ref 146), (1, .int (Int32.ofInt x1)), (3, .int (Int32.ofInt x3)), (4, .int (Int32.ofInt x4))] [.long (Int64.ofInt o15), .ref 146] w13 _
          obtain ⟨o19, e20, hx⟩ := bd hx
          refine wp_cl [.ref 146, .long (Int64.ofInt o15)] [] (i := .invokevirtual 289) (ln := 3) (a := 186) (b := 0) (z := 0) (by decide +kernel) rfl rfl (by decide) rfl (show (2 : Nat) = pm_na 186 by decide +kernel) (Nat.le_of_ble_eq_true rfl) (show (3 : Nat) ≤ pm_n 186 by decide +kernel) (rcv_x 12 h14 (hS _ _ sm_146) (by decide +kernel)) (xm_push_ok (d := d) hS h14 e20 (fun w21 h22 => ?_))
          show wp _ 189 129 [(9, .long (Int64.ofInt o11.1)), (7, .long (Int64.ofInt o7.1)), (6, .int (Int32.ofInt (bShr (s 148 i2) 4))), (5, .int (Int32.ofInt (bAnd (s 148 i2) 15))), (0, .ref 146), (1, .int (Int32.ofInt x1)), (3, .int (Int32.ofInt x3)), (4, .int (Int32.ofInt x4))] [] w21 _
          refine wp_g 2 (pc1 := 8) (lv1 := [(4, .int (Int32.ofInt (x4 + 1))), (9, .long (Int64.ofInt o11.1)), (7, .long (Int64.ofInt o7.1)), (6, .int (Int32.ofInt (bShr (s 148 i2) 4))), (5, .int (Int32.ofInt (bAnd (s 148 i2) 15))), (0, .ref 146), (1, .int (Int32.ofInt x1)), (3, .int (Int32.ofInt x3))]) (st1 := []) (w1 := w21) (by simp only [Int32.ofInt_add, Int32.ofInt_sub, Int32.ofInt_mul, Int32.ofInt_neg, p_and, p_or, p_xor, p_shl, p_shr, p_usr, p_w8, p_c16, p_lI, q_and, q_or, q_shl, q_shr, q_w32, Int64.ofInt_add, Int64.ofInt_sub, Int64.ofInt_mul, p_mx, p_mn, q_mx, q_mn]; rfl) ?_
          refine wp_lv (lv1 := [(0, .ref 146), (1, .int (Int32.ofInt x1)), (3, .int (Int32.ofInt x3)), (4, .int (Int32.ofInt (x4 + 1)))]) (lsub_p [5, 6, 7, 0] rfl rfl rfl) ?_
          cases hx
          exact kn _ _ rfl h22
        · have hx := ite_t h6 hx
          refine wp_g 3 (pc1 := 94) (lv1 := [(6, .int (Int32.ofInt (bShr (s 148 i2) 4))), (5, .int (Int32.ofInt (bAnd (s 148 i2) 15))), (0, .ref 146), (1, .int (Int32.ofInt x1)), (3, .int (Int32.ofInt x3)), (4, .int (Int32.ofInt x4))]) (st1 := [.ref 146, .long (Int64.ofInt 1), .ref 146]) (w1 := w) rfl ?_
          obtain ⟨o23, e24, hx⟩ := bd hx
          refine wp_cl [.ref 146] [.long (Int64.ofInt 1), .ref 146] (i := .invokevirtual 293) (ln := 3) (a := 187) (b := 0) (z := 0) (by decide +kernel) rfl rfl (by decide) rfl (show (1 : Nat) = pm_na 187 by decide +kernel) (Nat.le_of_ble_eq_true rfl) (show (1 : Nat) ≤ pm_n 187 by decide +kernel) (rcv_x 12 h (hS _ _ sm_146) (by decide +kernel)) (xm_pop_ok (d := d) hS h e24 (fun w25 h26 => ?_))
          show wp _ 189 97 [(6, .int (Int32.ofInt (bShr (s 148 i2) 4))), (5, .int (Int32.ofInt (bAnd (s 148 i2) 15))), (0, .ref 146), (1, .int (Int32.ofInt x1)), (3, .int (Int32.ofInt x3)), (4, .int (Int32.ofInt x4))] [.long (Int64.ofInt o23.1), .long (Int64.ofInt 1), .ref 146] w25 _
          refine wp_g 1 (pc1 := 98) (lv1 := [(6, .int (Int32.ofInt (bShr (s 148 i2) 4))), (5, .int (Int32.ofInt (bAnd (s 148 i2) 15))), (0, .ref 146), (1, .int (Int32.ofInt x1)), (3, .int (Int32.ofInt x3)), (4, .int (Int32.ofInt x4))]) (st1 := [.long (Int64.ofInt (1 - o23.1)), .ref 146]) (w1 := w25) (by simp only [Int32.ofInt_add, Int32.ofInt_sub, Int32.ofInt_mul, Int32.ofInt_neg, p_and, p_or, p_xor, p_shl, p_shr, p_usr, p_w8, p_c16, p_lI, q_and, q_or, q_shl, q_shr, q_w32, Int64.ofInt_add, Int64.ofInt_sub, Int64.ofInt_mul, p_mx, p_mn, q_mx, q_mn]; rfl) ?_
          obtain ⟨o27, e28, hx⟩ := bd hx
          refine wp_cl [.ref 146, .long (Int64.ofInt (1 - o23.1))] [] (i := .invokevirtual 289) (ln := 3) (a := 186) (b := 0) (z := 0) (by decide +kernel) rfl rfl (by decide) rfl (show (2 : Nat) = pm_na 186 by decide +kernel) (Nat.le_of_ble_eq_true rfl) (show (3 : Nat) ≤ pm_n 186 by decide +kernel) (rcv_x 12 h26 (hS _ _ sm_146) (by decide +kernel)) (xm_push_ok (d := d) hS h26 e28 (fun w29 h30 => ?_))
          show wp _ 189 101 [(6, .int (Int32.ofInt (bShr (s 148 i2) 4))), (5, .int (Int32.ofInt (bAnd (s 148 i2) 15))), (0, .ref 146), (1, .int (Int32.ofInt x1)), (3, .int (Int32.ofInt x3)), (4, .int (Int32.ofInt x4))] [] w29 _
          refine wp_g 3 (pc1 := 8) (lv1 := [(4, .int (Int32.ofInt (x4 + 1))), (6, .int (Int32.ofInt (bShr (s 148 i2) 4))), (5, .int (Int32.ofInt (bAnd (s 148 i2) 15))), (0, .ref 146), (1, .int (Int32.ofInt x1)), (3, .int (Int32.ofInt x3))]) (st1 := []) (w1 := w29) (by simp only [Int32.ofInt_add, Int32.ofInt_sub, Int32.ofInt_mul, Int32.ofInt_neg, p_and, p_or, p_xor, p_shl, p_shr, p_usr, p_w8, p_c16, p_lI, q_and, q_or, q_shl, q_shr, q_w32, Int64.ofInt_add, Int64.ofInt_sub, Int64.ofInt_mul, p_mx, p_mn, q_mx, q_mn]; rfl) ?_
          refine wp_lv (lv1 := [(0, .ref 146), (1, .int (Int32.ofInt x1)), (3, .int (Int32.ofInt x3)), (4, .int (Int32.ofInt (x4 + 1)))]) (lsub_p [3, 4, 5, 0] rfl rfl rfl) ?_
          cases hx
          exact kn _ _ rfl h30
      · have hx := ite_t h5 hx
        refine wp_g 2 (pc1 := 72) (lv1 := [(6, .int (Int32.ofInt (bShr (s 148 i2) 4))), (5, .int (Int32.ofInt (bAnd (s 148 i2) 15))), (0, .ref 146), (1, .int (Int32.ofInt x1)), (3, .int (Int32.ofInt x3)), (4, .int (Int32.ofInt x4))]) (st1 := [.ref 146, .ref 146]) (w1 := w) rfl ?_
        refine wx_gr (o := 9) (kf := 36) (ln := 3) (ci := 12) (b := 19) (zz := 0) (x := 146) (by decide +kernel) h (hS _ _ sm_146) rfl ?_
        show wp _ 189 75 [(6, .int (Int32.ofInt (bShr (s 148 i2) 4))), (5, .int (Int32.ofInt (bAnd (s 148 i2) 15))), (0, .ref 146), (1, .int (Int32.ofInt x1)), (3, .int (Int32.ofInt x3)), (4, .int (Int32.ofInt x4))] [.ref 155, .ref 146] w _
        refine wp_g 1 (pc1 := 77) (lv1 := [(6, .int (Int32.ofInt (bShr (s 148 i2) 4))), (5, .int (Int32.ofInt (bAnd (s 148 i2) 15))), (0, .ref 146), (1, .int (Int32.ofInt x1)), (3, .int (Int32.ofInt x3)), (4, .int (Int32.ofInt x4))]) (st1 := [.int (Int32.ofInt (bShr (s 148 i2) 4)), .ref 155, .ref 146]) (w1 := w) rfl ?_
        obtain ⟨i31, e32, hx⟩ := bd hx
        refine wx_rl (x := 155) (n := 11) (ln := 1) (a := 0) (b := 0) (zz := 0) (by decide +kernel) h (hS _ _ sm_155) e32 ?_
        show wp _ 189 78 [(6, .int (Int32.ofInt (bShr (s 148 i2) 4))), (5, .int (Int32.ofInt (bAnd (s 148 i2) 15))), (0, .ref 146), (1, .int (Int32.ofInt x1)), (3, .int (Int32.ofInt x3)), (4, .int (Int32.ofInt x4))] [.long (Int64.ofInt (s 155 i31)), .ref 146] w _
        obtain ⟨o33, e34, hx⟩ := bd hx
        refine wp_cl [.ref 146, .long (Int64.ofInt (s 155 i31))] [] (i := .invokevirtual 289) (ln := 3) (a := 186) (b := 0) (z := 0) (by decide +kernel) rfl rfl (by decide) rfl (show (2 : Nat) = pm_na 186 by decide +kernel) (Nat.le_of_ble_eq_true rfl) (show (3 : Nat) ≤ pm_n 186 by decide +kernel) (rcv_x 12 h (hS _ _ sm_146) (by decide +kernel)) (xm_push_ok (d := d) hS h e34 (fun w35 h36 => ?_))
        show wp _ 189 81 [(6, .int (Int32.ofInt (bShr (s 148 i2) 4))), (5, .int (Int32.ofInt (bAnd (s 148 i2) 15))), (0, .ref 146), (1, .int (Int32.ofInt x1)), (3, .int (Int32.ofInt x3)), (4, .int (Int32.ofInt x4))] [] w35 _
        refine wp_g 3 (pc1 := 8) (lv1 := [(4, .int (Int32.ofInt (x4 + 1))), (6, .int (Int32.ofInt (bShr (s 148 i2) 4))), (5, .int (Int32.ofInt (bAnd (s 148 i2) 15))), (0, .ref 146), (1, .int (Int32.ofInt x1)), (3, .int (Int32.ofInt x3))]) (st1 := []) (w1 := w35) (by simp only [Int32.ofInt_add, Int32.ofInt_sub, Int32.ofInt_mul, Int32.ofInt_neg, p_and, p_or, p_xor, p_shl, p_shr, p_usr, p_w8, p_c16, p_lI, q_and, q_or, q_shl, q_shr, q_w32, Int64.ofInt_add, Int64.ofInt_sub, Int64.ofInt_mul, p_mx, p_mn, q_mx, q_mn]; rfl) ?_
        refine wp_lv (lv1 := [(0, .ref 146), (1, .int (Int32.ofInt x1)), (3, .int (Int32.ofInt x3)), (4, .int (Int32.ofInt (x4 + 1)))]) (lsub_p [3, 4, 5, 0] rfl rfl rfl) ?_
        cases hx
        exact kn _ _ rfl h36
    · have hx := ite_t h4 hx
      refine wp_g 3 (pc1 := 58) (lv1 := [(6, .int (Int32.ofInt (bShr (s 148 i2) 4))), (5, .int (Int32.ofInt (bAnd (s 148 i2) 15))), (0, .ref 146), (1, .int (Int32.ofInt x1)), (3, .int (Int32.ofInt x3)), (4, .int (Int32.ofInt x4))]) (st1 := [.long (Int64.ofInt (w32 (bShr (s 148 i2) 4))), .ref 146]) (w1 := w) (by simp only [Int32.ofInt_add, Int32.ofInt_sub, Int32.ofInt_mul, Int32.ofInt_neg, p_and, p_or, p_xor, p_shl, p_shr, p_usr, p_w8, p_c16, p_lI, q_and, q_or, q_shl, q_shr, q_w32, Int64.ofInt_add, Int64.ofInt_sub, Int64.ofInt_mul, p_mx, p_mn, q_mx, q_mn]; rfl) ?_
      obtain ⟨o37, e38, hx⟩ := bd hx
      refine wp_cl [.ref 146, .long (Int64.ofInt (w32 (bShr (s 148 i2) 4)))] [] (i := .invokevirtual 289) (ln := 3) (a := 186) (b := 0) (z := 0) (by decide +kernel) rfl rfl (by decide) rfl (show (2 : Nat) = pm_na 186 by decide +kernel) (Nat.le_of_ble_eq_true rfl) (show (3 : Nat) ≤ pm_n 186 by decide +kernel) (rcv_x 12 h (hS _ _ sm_146) (by decide +kernel)) (xm_push_ok (d := d) hS h e38 (fun w39 h40 => ?_))
      show wp _ 189 61 [(6, .int (Int32.ofInt (bShr (s 148 i2) 4))), (5, .int (Int32.ofInt (bAnd (s 148 i2) 15))), (0, .ref 146), (1, .int (Int32.ofInt x1)), (3, .int (Int32.ofInt x3)), (4, .int (Int32.ofInt x4))] [] w39 _
      refine wp_g 3 (pc1 := 8) (lv1 := [(4, .int (Int32.ofInt (x4 + 1))), (6, .int (Int32.ofInt (bShr (s 148 i2) 4))), (5, .int (Int32.ofInt (bAnd (s 148 i2) 15))), (0, .ref 146), (1, .int (Int32.ofInt x1)), (3, .int (Int32.ofInt x3))]) (st1 := []) (w1 := w39) (by simp only [Int32.ofInt_add, Int32.ofInt_sub, Int32.ofInt_mul, Int32.ofInt_neg, p_and, p_or, p_xor, p_shl, p_shr, p_usr, p_w8, p_c16, p_lI, q_and, q_or, q_shl, q_shr, q_w32, Int64.ofInt_add, Int64.ofInt_sub, Int64.ofInt_mul, p_mx, p_mn, q_mx, q_mn]; rfl) ?_
      refine wp_lv (lv1 := [(0, .ref 146), (1, .int (Int32.ofInt x1)), (3, .int (Int32.ofInt x3)), (4, .int (Int32.ofInt (x4 + 1)))]) (lsub_p [3, 4, 5, 0] rfl rfl rfl) ?_
      cases hx
      exact kn _ _ rfl h40
/-- FoldDeedsModel.reckons (III)J -/
noncomputable def xm_reckons (s : Hp) (p1 : Int) (p2 : Int) (p3 : Int) : Option (Int × Hp) :=
  (some (uh s 146 18 0)).bind fun s1 => (lp (fun (q : Int × Hp) => xm_reckons_b8 q.2 p1 p3 q.1) (p2, s1)).bind fun q5 => (xm_pop q5.2).bind fun o9 => some (o9.1, o9.2)
set_option maxRecDepth 100000 in
theorem xm_reckons_ok {d : Nat} {P : Option Value → pm_H → Prop} {w : pm_H} {sh : Shp} {w0 : pm_H} {s : Hp} (hS : StM sh) {p1 : Int} {p2 : Int} {p3 : Int} (h : Rw sh w0 s w) {o : Int × Hp} (hx : xm_reckons s p1 p2 p3 = some o) (kr : ∀ w1, Rw sh w0 o.2 w1 → P (some (.long (Int64.ofInt o.1))) w1) : wp (d + 1) 189 0 (lv_args 0 [.ref 146, .int (Int32.ofInt p1), .int (Int32.ofInt p2), .int (Int32.ofInt p3)]) [] w P := by
  show wp _ 189 0 [(0, .ref 146), (1, .int (Int32.ofInt p1)), (2, .int (Int32.ofInt p2)), (3, .int (Int32.ofInt p3))] [] w _
  unfold xm_reckons at hx
  refine wp_g 2 (pc1 := 2) (lv1 := [(0, .ref 146), (1, .int (Int32.ofInt p1)), (2, .int (Int32.ofInt p2)), (3, .int (Int32.ofInt p3))]) (st1 := [.int (Int32.ofInt 0), .ref 146]) (w1 := w) rfl ?_
  obtain ⟨s1, e2, hx⟩ := bd hx
  refine wx_pi (kf := 286) (ln := 3) (ci := 12) (b := 18) (zz := 0) (x := 146) (by decide +kernel) h (hS _ _ sm_146) rfl (by decide +kernel) e2 (fun w3 h4 => ?_)
  refine wp_g 2 (pc1 := 8) (lv1 := [(4, .int (Int32.ofInt p2)), (0, .ref 146), (1, .int (Int32.ofInt p1)), (2, .int (Int32.ofInt p2)), (3, .int (Int32.ofInt p3))]) (st1 := []) (w1 := w3) rfl ?_
  refine wp_lv (lv1 := [(0, .ref 146), (1, .int (Int32.ofInt p1)), (3, .int (Int32.ofInt p3)), (4, .int (Int32.ofInt p2))]) (lsub_p [1, 2, 4, 0] rfl rfl rfl) ?_
  obtain ⟨q5, e6, hx⟩ := bd hx
  refine wp_lp (σ := Int × Hp) (ρ := (Int × Hp)) (B := fun q => xm_reckons_b8 q.2 p1 p3 q.1) (R := fun q w' => Rw sh w0 q.2 w') (C := fun r => ∀ w1, Rw sh w0 r.2 w1 → wp (d + 1) 189 135 [(0, .ref 146), (1, .int (Int32.ofInt p1)), (3, .int (Int32.ofInt p3)), (4, .int (Int32.ofInt r.1))] [] w1 P) (lv := fun q => [(0, .ref 146), (1, .int (Int32.ofInt p1)), (3, .int (Int32.ofInt p3)), (4, .int (Int32.ofInt q.1))]) (hd := 8) (fun q w' o hR hb kn kc => xm_reckons_b8_ok hS hR hb kn kc) _ _ _ e6 h4 ?_
  intro w7 h8
  show wp _ 189 135 [(0, .ref 146), (1, .int (Int32.ofInt p1)), (3, .int (Int32.ofInt p3)), (4, .int (Int32.ofInt q5.1))] [] w7 _
  refine wp_g 1 (pc1 := 136) (lv1 := [(0, .ref 146), (1, .int (Int32.ofInt p1)), (3, .int (Int32.ofInt p3)), (4, .int (Int32.ofInt q5.1))]) (st1 := [.ref 146]) (w1 := w7) rfl ?_
  obtain ⟨o9, e10, hx⟩ := bd hx
  refine wp_cl [.ref 146] [] (i := .invokevirtual 293) (ln := 3) (a := 187) (b := 0) (z := 0) (by decide +kernel) rfl rfl (by decide) rfl (show (1 : Nat) = pm_na 187 by decide +kernel) (Nat.le_of_ble_eq_true rfl) (show (1 : Nat) ≤ pm_n 187 by decide +kernel) (rcv_x 12 h8 (hS _ _ sm_146) (by decide +kernel)) (xm_pop_ok (d := d) hS h8 e10 (fun w11 h12 => ?_))
  show wp _ 189 139 [(0, .ref 146), (1, .int (Int32.ofInt p1)), (3, .int (Int32.ofInt p3)), (4, .int (Int32.ofInt q5.1))] [.long (Int64.ofInt o9.1)] w11 _
  refine wp_rt (i := .lreturn) (r := some (.long (Int64.ofInt o9.1))) (ln := 1) (a := 0) (b := 0) (z := 0) (by decide +kernel) rfl (ret_l (by decide +kernel)) ?_
  cases hx
  exact kr _ h12
/-- FoldDeedsModel.isCloth ()Z -/
noncomputable def xm_isCloth (s : Hp) : Option Int :=
  (ix 130 0).bind fun i1 => if 0 < w32 (s 156 i1) then some 1 else some 0
set_option maxRecDepth 100000 in
theorem xm_isCloth_ok {d : Nat} {P : Option Value → pm_H → Prop} {w : pm_H} {sh : Shp} {w0 : pm_H} {s : Hp} (hS : StM sh) (h : Rw sh w0 s w) {o : Int} (hx : xm_isCloth s = some o) (kr : P (some (.int (Int32.ofInt o))) w) : wp d 190 0 (lv_args 0 [.ref 146]) [] w P := by
  show wp _ 190 0 [(0, .ref 146)] [] w _
  unfold xm_isCloth at hx
  refine wp_g 1 (pc1 := 1) (lv1 := [(0, .ref 146)]) (st1 := [.ref 146]) (w1 := w) rfl ?_
  refine wx_gr (o := 10) (kf := 39) (ln := 3) (ci := 12) (b := 20) (zz := 0) (x := 146) (by decide +kernel) h (hS _ _ sm_146) rfl ?_
  show wp _ 190 4 [(0, .ref 146)] [.ref 156] w _
  refine wp_g 1 (pc1 := 5) (lv1 := [(0, .ref 146)]) (st1 := [.int (Int32.ofInt 0), .ref 156]) (w1 := w) rfl ?_
  obtain ⟨i1, e2, hx⟩ := bd hx
  refine wx_ra (x := 156) (n := 130) (ln := 1) (a := 0) (b := 0) (zz := 0) (by decide +kernel) h (hS _ _ sm_156) e2 ?_
  show wp _ 190 6 [(0, .ref 146)] [.int (Int32.ofInt (s 156 i1))] w _
  refine wz_le (oo := 7) (ln := 3) (a := 13) (b := 0) (zz := 0) (by decide +kernel) (fun h3 => ?_) (fun h3 => ?_)
  · have hx := ite_f h3 hx
    refine wp_g 1 (pc1 := 14) (lv1 := [(0, .ref 146)]) (st1 := [.int (Int32.ofInt 0)]) (w1 := w) rfl ?_
    refine wp_rt (i := .ireturn) (r := some (.int (Int32.ofInt 0))) (ln := 1) (a := 0) (b := 0) (z := 0) (by decide +kernel) rfl (ret_b (by decide +kernel) (Or.inl rfl)) ?_
    cases hx
    exact kr
  · have hx := ite_t h3 hx
    refine wp_g 2 (pc1 := 14) (lv1 := [(0, .ref 146)]) (st1 := [.int (Int32.ofInt 1)]) (w1 := w) rfl ?_
    refine wp_rt (i := .ireturn) (r := some (.int (Int32.ofInt 1))) (ln := 1) (a := 0) (b := 0) (z := 0) (by decide +kernel) rfl (ret_b (by decide +kernel) (Or.inr rfl)) ?_
    cases hx
    exact kr
/-- FoldDeedsModel.isCell (I)Z -/
noncomputable def xm_isCell (s : Hp) (p1 : Int) : Option Int :=
  if w32 p1 < 0 then some 0 else (ix 130 0).bind fun i2 => if w32 p1 < w32 (s 156 i2) then some 1 else some 0
set_option maxRecDepth 100000 in
theorem xm_isCell_ok {d : Nat} {P : Option Value → pm_H → Prop} {w : pm_H} {sh : Shp} {w0 : pm_H} {s : Hp} (hS : StM sh) {p1 : Int} (h : Rw sh w0 s w) {o : Int} (hx : xm_isCell s p1 = some o) (kr : P (some (.int (Int32.ofInt o))) w) : wp d 191 0 (lv_args 0 [.ref 146, .int (Int32.ofInt p1)]) [] w P := by
  show wp _ 191 0 [(0, .ref 146), (1, .int (Int32.ofInt p1))] [] w _
  unfold xm_isCell at hx
  refine wp_g 1 (pc1 := 1) (lv1 := [(0, .ref 146), (1, .int (Int32.ofInt p1))]) (st1 := [.int (Int32.ofInt p1)]) (w1 := w) rfl ?_
  refine wz_lt (oo := 17) (ln := 3) (a := 18) (b := 0) (zz := 0) (by decide +kernel) (fun h1 => ?_) (fun h1 => ?_)
  · have hx := ite_t h1 hx
    refine wp_g 1 (pc1 := 19) (lv1 := [(0, .ref 146), (1, .int (Int32.ofInt p1))]) (st1 := [.int (Int32.ofInt 0)]) (w1 := w) rfl ?_
    refine wp_rt (i := .ireturn) (r := some (.int (Int32.ofInt 0))) (ln := 1) (a := 0) (b := 0) (z := 0) (by decide +kernel) rfl (ret_b (by decide +kernel) (Or.inl rfl)) ?_
    cases hx
    exact kr
  · have hx := ite_f h1 hx
    refine wp_g 2 (pc1 := 6) (lv1 := [(0, .ref 146), (1, .int (Int32.ofInt p1))]) (st1 := [.ref 146, .int (Int32.ofInt p1)]) (w1 := w) rfl ?_
    refine wx_gr (o := 10) (kf := 39) (ln := 3) (ci := 12) (b := 20) (zz := 0) (x := 146) (by decide +kernel) h (hS _ _ sm_146) rfl ?_
    show wp _ 191 9 [(0, .ref 146), (1, .int (Int32.ofInt p1))] [.ref 156, .int (Int32.ofInt p1)] w _
    refine wp_g 1 (pc1 := 10) (lv1 := [(0, .ref 146), (1, .int (Int32.ofInt p1))]) (st1 := [.int (Int32.ofInt 0), .ref 156, .int (Int32.ofInt p1)]) (w1 := w) rfl ?_
    obtain ⟨i2, e3, hx⟩ := bd hx
    refine wx_ra (x := 156) (n := 130) (ln := 1) (a := 0) (b := 0) (zz := 0) (by decide +kernel) h (hS _ _ sm_156) e3 ?_
    show wp _ 191 11 [(0, .ref 146), (1, .int (Int32.ofInt p1))] [.int (Int32.ofInt (s 156 i2)), .int (Int32.ofInt p1)] w _
    refine wx_ge (oo := 7) (ln := 3) (a := 18) (b := 0) (zz := 0) (by decide +kernel) (fun h4 => ?_) (fun h4 => ?_)
    · have hx := ite_f h4 hx
      refine wp_g 1 (pc1 := 19) (lv1 := [(0, .ref 146), (1, .int (Int32.ofInt p1))]) (st1 := [.int (Int32.ofInt 0)]) (w1 := w) rfl ?_
      refine wp_rt (i := .ireturn) (r := some (.int (Int32.ofInt 0))) (ln := 1) (a := 0) (b := 0) (z := 0) (by decide +kernel) rfl (ret_b (by decide +kernel) (Or.inl rfl)) ?_
      cases hx
      exact kr
    · have hx := ite_t h4 hx
      refine wp_g 2 (pc1 := 19) (lv1 := [(0, .ref 146), (1, .int (Int32.ofInt p1))]) (st1 := [.int (Int32.ofInt 1)]) (w1 := w) rfl ?_
      refine wp_rt (i := .ireturn) (r := some (.int (Int32.ofInt 1))) (ln := 1) (a := 0) (b := 0) (z := 0) (by decide +kernel) rfl (ret_b (by decide +kernel) (Or.inr rfl)) ?_
      cases hx
      exact kr
/-- FoldDeedsModel.isJoint (I)Z -/
noncomputable def xm_isJoint (s : Hp) (p1 : Int) : Option Int :=
  (xm_isCloth s).bind fun o1 => if w32 o1 = 0 then some 0 else if w32 p1 < 0 then some 0 else (ix 130 0).bind fun i7 => if w32 p1 < w32 ((s 156 i7) - 1) then some 1 else some 0
set_option maxRecDepth 100000 in
theorem xm_isJoint_ok {d : Nat} {P : Option Value → pm_H → Prop} {w : pm_H} {sh : Shp} {w0 : pm_H} {s : Hp} (hS : StM sh) {p1 : Int} (h : Rw sh w0 s w) {o : Int} (hx : xm_isJoint s p1 = some o) (kr : P (some (.int (Int32.ofInt o))) w) : wp (d + 1) 192 0 (lv_args 0 [.ref 146, .int (Int32.ofInt p1)]) [] w P := by
  show wp _ 192 0 [(0, .ref 146), (1, .int (Int32.ofInt p1))] [] w _
  unfold xm_isJoint at hx
  refine wp_g 1 (pc1 := 1) (lv1 := [(0, .ref 146), (1, .int (Int32.ofInt p1))]) (st1 := [.ref 146]) (w1 := w) rfl ?_
  obtain ⟨o1, e2, hx⟩ := bd hx
  refine wp_cl [.ref 146] [] (i := .invokevirtual 301) (ln := 3) (a := 190) (b := 0) (z := 0) (by decide +kernel) rfl rfl (by decide) rfl (show (1 : Nat) = pm_na 190 by decide +kernel) (Nat.le_of_ble_eq_true rfl) (show (1 : Nat) ≤ pm_n 190 by decide +kernel) (rcv_x 12 h (hS _ _ sm_146) (by decide +kernel)) (xm_isCloth_ok (d := d) hS h e2 ?_)
  show wp _ 192 4 [(0, .ref 146), (1, .int (Int32.ofInt p1))] [.int (Int32.ofInt o1)] w _
  refine wz_eq (oo := 23) (ln := 3) (a := 27) (b := 0) (zz := 0) (by decide +kernel) (fun h5 => ?_) (fun h5 => ?_)
  · have hx := ite_t h5 hx
    refine wp_g 1 (pc1 := 28) (lv1 := [(0, .ref 146), (1, .int (Int32.ofInt p1))]) (st1 := [.int (Int32.ofInt 0)]) (w1 := w) rfl ?_
    refine wp_rt (i := .ireturn) (r := some (.int (Int32.ofInt 0))) (ln := 1) (a := 0) (b := 0) (z := 0) (by decide +kernel) rfl (ret_b (by decide +kernel) (Or.inl rfl)) ?_
    cases hx
    exact kr
  · have hx := ite_f h5 hx
    refine wp_g 1 (pc1 := 8) (lv1 := [(0, .ref 146), (1, .int (Int32.ofInt p1))]) (st1 := [.int (Int32.ofInt p1)]) (w1 := w) rfl ?_
    refine wz_lt (oo := 19) (ln := 3) (a := 27) (b := 0) (zz := 0) (by decide +kernel) (fun h6 => ?_) (fun h6 => ?_)
    · have hx := ite_t h6 hx
      refine wp_g 1 (pc1 := 28) (lv1 := [(0, .ref 146), (1, .int (Int32.ofInt p1))]) (st1 := [.int (Int32.ofInt 0)]) (w1 := w) rfl ?_
      refine wp_rt (i := .ireturn) (r := some (.int (Int32.ofInt 0))) (ln := 1) (a := 0) (b := 0) (z := 0) (by decide +kernel) rfl (ret_b (by decide +kernel) (Or.inl rfl)) ?_
      cases hx
      exact kr
    · have hx := ite_f h6 hx
      refine wp_g 2 (pc1 := 13) (lv1 := [(0, .ref 146), (1, .int (Int32.ofInt p1))]) (st1 := [.ref 146, .int (Int32.ofInt p1)]) (w1 := w) rfl ?_
      refine wx_gr (o := 10) (kf := 39) (ln := 3) (ci := 12) (b := 20) (zz := 0) (x := 146) (by decide +kernel) h (hS _ _ sm_146) rfl ?_
      show wp _ 192 16 [(0, .ref 146), (1, .int (Int32.ofInt p1))] [.ref 156, .int (Int32.ofInt p1)] w _
      refine wp_g 1 (pc1 := 17) (lv1 := [(0, .ref 146), (1, .int (Int32.ofInt p1))]) (st1 := [.int (Int32.ofInt 0), .ref 156, .int (Int32.ofInt p1)]) (w1 := w) rfl ?_
      obtain ⟨i7, e8, hx⟩ := bd hx
      refine wx_ra (x := 156) (n := 130) (ln := 1) (a := 0) (b := 0) (zz := 0) (by decide +kernel) h (hS _ _ sm_156) e8 ?_
      show wp _ 192 18 [(0, .ref 146), (1, .int (Int32.ofInt p1))] [.int (Int32.ofInt (s 156 i7)), .int (Int32.ofInt p1)] w _
      refine wp_g 2 (pc1 := 20) (lv1 := [(0, .ref 146), (1, .int (Int32.ofInt p1))]) (st1 := [.int (Int32.ofInt ((s 156 i7) - 1)), .int (Int32.ofInt p1)]) (w1 := w) (by simp only [Int32.ofInt_add, Int32.ofInt_sub, Int32.ofInt_mul, Int32.ofInt_neg, p_and, p_or, p_xor, p_shl, p_shr, p_usr, p_w8, p_c16, p_lI, q_and, q_or, q_shl, q_shr, q_w32, Int64.ofInt_add, Int64.ofInt_sub, Int64.ofInt_mul, p_mx, p_mn, q_mx, q_mn]; rfl) ?_
      refine wx_ge (oo := 7) (ln := 3) (a := 27) (b := 0) (zz := 0) (by decide +kernel) (fun h9 => ?_) (fun h9 => ?_)
      · have hx := ite_f h9 hx
        refine wp_g 1 (pc1 := 28) (lv1 := [(0, .ref 146), (1, .int (Int32.ofInt p1))]) (st1 := [.int (Int32.ofInt 0)]) (w1 := w) rfl ?_
        refine wp_rt (i := .ireturn) (r := some (.int (Int32.ofInt 0))) (ln := 1) (a := 0) (b := 0) (z := 0) (by decide +kernel) rfl (ret_b (by decide +kernel) (Or.inl rfl)) ?_
        cases hx
        exact kr
      · have hx := ite_t h9 hx
        refine wp_g 2 (pc1 := 28) (lv1 := [(0, .ref 146), (1, .int (Int32.ofInt p1))]) (st1 := [.int (Int32.ofInt 1)]) (w1 := w) rfl ?_
        refine wp_rt (i := .ireturn) (r := some (.int (Int32.ofInt 1))) (ln := 1) (a := 0) (b := 0) (z := 0) (by decide +kernel) rfl (ret_b (by decide +kernel) (Or.inr rfl)) ?_
        cases hx
        exact kr
/-- FoldDeedsModel.isPerson (I)Z -/
noncomputable def xm_isPerson (s : Hp) (p1 : Int) : Option Int :=
  if w32 p1 < 0 then some 0 else (ix 130 1).bind fun i2 => if w32 p1 < w32 (s 156 i2) then some 1 else some 0
set_option maxRecDepth 100000 in
theorem xm_isPerson_ok {d : Nat} {P : Option Value → pm_H → Prop} {w : pm_H} {sh : Shp} {w0 : pm_H} {s : Hp} (hS : StM sh) {p1 : Int} (h : Rw sh w0 s w) {o : Int} (hx : xm_isPerson s p1 = some o) (kr : P (some (.int (Int32.ofInt o))) w) : wp d 193 0 (lv_args 0 [.ref 146, .int (Int32.ofInt p1)]) [] w P := by
  show wp _ 193 0 [(0, .ref 146), (1, .int (Int32.ofInt p1))] [] w _
  unfold xm_isPerson at hx
  refine wp_g 1 (pc1 := 1) (lv1 := [(0, .ref 146), (1, .int (Int32.ofInt p1))]) (st1 := [.int (Int32.ofInt p1)]) (w1 := w) rfl ?_
  refine wz_lt (oo := 17) (ln := 3) (a := 18) (b := 0) (zz := 0) (by decide +kernel) (fun h1 => ?_) (fun h1 => ?_)
  · have hx := ite_t h1 hx
    refine wp_g 1 (pc1 := 19) (lv1 := [(0, .ref 146), (1, .int (Int32.ofInt p1))]) (st1 := [.int (Int32.ofInt 0)]) (w1 := w) rfl ?_
    refine wp_rt (i := .ireturn) (r := some (.int (Int32.ofInt 0))) (ln := 1) (a := 0) (b := 0) (z := 0) (by decide +kernel) rfl (ret_b (by decide +kernel) (Or.inl rfl)) ?_
    cases hx
    exact kr
  · have hx := ite_f h1 hx
    refine wp_g 2 (pc1 := 6) (lv1 := [(0, .ref 146), (1, .int (Int32.ofInt p1))]) (st1 := [.ref 146, .int (Int32.ofInt p1)]) (w1 := w) rfl ?_
    refine wx_gr (o := 10) (kf := 39) (ln := 3) (ci := 12) (b := 20) (zz := 0) (x := 146) (by decide +kernel) h (hS _ _ sm_146) rfl ?_
    show wp _ 193 9 [(0, .ref 146), (1, .int (Int32.ofInt p1))] [.ref 156, .int (Int32.ofInt p1)] w _
    refine wp_g 1 (pc1 := 10) (lv1 := [(0, .ref 146), (1, .int (Int32.ofInt p1))]) (st1 := [.int (Int32.ofInt 1), .ref 156, .int (Int32.ofInt p1)]) (w1 := w) rfl ?_
    obtain ⟨i2, e3, hx⟩ := bd hx
    refine wx_ra (x := 156) (n := 130) (ln := 1) (a := 0) (b := 0) (zz := 0) (by decide +kernel) h (hS _ _ sm_156) e3 ?_
    show wp _ 193 11 [(0, .ref 146), (1, .int (Int32.ofInt p1))] [.int (Int32.ofInt (s 156 i2)), .int (Int32.ofInt p1)] w _
    refine wx_ge (oo := 7) (ln := 3) (a := 18) (b := 0) (zz := 0) (by decide +kernel) (fun h4 => ?_) (fun h4 => ?_)
    · have hx := ite_f h4 hx
      refine wp_g 1 (pc1 := 19) (lv1 := [(0, .ref 146), (1, .int (Int32.ofInt p1))]) (st1 := [.int (Int32.ofInt 0)]) (w1 := w) rfl ?_
      refine wp_rt (i := .ireturn) (r := some (.int (Int32.ofInt 0))) (ln := 1) (a := 0) (b := 0) (z := 0) (by decide +kernel) rfl (ret_b (by decide +kernel) (Or.inl rfl)) ?_
      cases hx
      exact kr
    · have hx := ite_t h4 hx
      refine wp_g 2 (pc1 := 19) (lv1 := [(0, .ref 146), (1, .int (Int32.ofInt p1))]) (st1 := [.int (Int32.ofInt 1)]) (w1 := w) rfl ?_
      refine wp_rt (i := .ireturn) (r := some (.int (Int32.ofInt 1))) (ln := 1) (a := 0) (b := 0) (z := 0) (by decide +kernel) rfl (ret_b (by decide +kernel) (Or.inr rfl)) ?_
      cases hx
      exact kr
/-- FoldDeedsModel.cellOf (II)I -/
noncomputable def xm_cellOf (s : Hp) (p1 : Int) (p2 : Int) : Option Int :=
  (ix 130 ((12 + (4 * p1)) + p2)).bind fun i1 => some (s 156 i1)
set_option maxRecDepth 100000 in
theorem xm_cellOf_ok {d : Nat} {P : Option Value → pm_H → Prop} {w : pm_H} {sh : Shp} {w0 : pm_H} {s : Hp} (hS : StM sh) {p1 : Int} {p2 : Int} (h : Rw sh w0 s w) {o : Int} (hx : xm_cellOf s p1 p2 = some o) (kr : P (some (.int (Int32.ofInt o))) w) : wp d 194 0 (lv_args 0 [.ref 146, .int (Int32.ofInt p1), .int (Int32.ofInt p2)]) [] w P := by
  show wp _ 194 0 [(0, .ref 146), (1, .int (Int32.ofInt p1)), (2, .int (Int32.ofInt p2))] [] w _
  unfold xm_cellOf at hx
  refine wp_g 1 (pc1 := 1) (lv1 := [(0, .ref 146), (1, .int (Int32.ofInt p1)), (2, .int (Int32.ofInt p2))]) (st1 := [.ref 146]) (w1 := w) rfl ?_
  refine wx_gr (o := 10) (kf := 39) (ln := 3) (ci := 12) (b := 20) (zz := 0) (x := 146) (by decide +kernel) h (hS _ _ sm_146) rfl ?_
  show wp _ 194 4 [(0, .ref 146), (1, .int (Int32.ofInt p1)), (2, .int (Int32.ofInt p2))] [.ref 156] w _
  refine wp_g 7 (pc1 := 12) (lv1 := [(0, .ref 146), (1, .int (Int32.ofInt p1)), (2, .int (Int32.ofInt p2))]) (st1 := [.int (Int32.ofInt ((12 + (4 * p1)) + p2)), .ref 156]) (w1 := w) (by simp only [Int32.ofInt_add, Int32.ofInt_sub, Int32.ofInt_mul, Int32.ofInt_neg, p_and, p_or, p_xor, p_shl, p_shr, p_usr, p_w8, p_c16, p_lI, q_and, q_or, q_shl, q_shr, q_w32, Int64.ofInt_add, Int64.ofInt_sub, Int64.ofInt_mul, p_mx, p_mn, q_mx, q_mn]; rfl) ?_
  obtain ⟨i1, e2, hx⟩ := bd hx
  refine wx_ra (x := 156) (n := 130) (ln := 1) (a := 0) (b := 0) (zz := 0) (by decide +kernel) h (hS _ _ sm_156) e2 ?_
  show wp _ 194 13 [(0, .ref 146), (1, .int (Int32.ofInt p1)), (2, .int (Int32.ofInt p2))] [.int (Int32.ofInt (s 156 i1))] w _
  refine wp_rt (i := .ireturn) (r := some (.int (Int32.ofInt (s 156 i1)))) (ln := 1) (a := 0) (b := 0) (z := 0) (by decide +kernel) rfl (ret_ok (by decide +kernel)) ?_
  cases hx
  exact kr
noncomputable def xm_thickAt_b4 (s : Hp) (x1 : Int) (x2 : Int) (x3 : Int) : Option ((Int × Int) ⊕ (Int × Int)) :=
  (ix 130 0).bind fun i1 => if w32 x3 < w32 (s 156 i1) then (xm_cellOf s x3 0).bind fun o4 => if w32 o4 = w32 x1 then some (.inl (x2 + 1, x3 + 1)) else some (.inl (x2 + 0, x3 + 1)) else some (.inr (x2, x3))
set_option maxRecDepth 100000 in
theorem xm_thickAt_b4_ok {d : Nat} {P : Option Value → pm_H → Prop} {w : pm_H} {sh : Shp} {w0 : pm_H} {s : Hp} (hS : StM sh) {x1 : Int} {x2 : Int} {x3 : Int} (h : Rw sh w0 s w) {o : ((Int × Int) ⊕ (Int × Int))} (hx : xm_thickAt_b4 s x1 x2 x3 = some o) (kn : ∀ (q : Int × Int) w1, o = .inl q → w = w1 → wp (d + 1) 195 4 [(0, .ref 146), (1, .int (Int32.ofInt x1)), (2, .int (Int32.ofInt q.1)), (3, .int (Int32.ofInt q.2))] [] w1 P) (kc : ∀ (r : (Int × Int)), o = .inr r → (∀ w1, w = w1 → wp (d + 1) 195 38 [(0, .ref 146), (1, .int (Int32.ofInt x1)), (2, .int (Int32.ofInt r.1)), (3, .int (Int32.ofInt r.2))] [] w1 P)) : wp (d + 1) 195 4 [(0, .ref 146), (1, .int (Int32.ofInt x1)), (2, .int (Int32.ofInt x2)), (3, .int (Int32.ofInt x3))] [] w P := by
  unfold xm_thickAt_b4 at hx
  refine wp_g 2 (pc1 := 6) (lv1 := [(0, .ref 146), (1, .int (Int32.ofInt x1)), (2, .int (Int32.ofInt x2)), (3, .int (Int32.ofInt x3))]) (st1 := [.ref 146, .int (Int32.ofInt x3)]) (w1 := w) rfl ?_
  refine wx_gr (o := 10) (kf := 39) (ln := 3) (ci := 12) (b := 20) (zz := 0) (x := 146) (by decide +kernel) h (hS _ _ sm_146) rfl ?_
  show wp _ 195 9 [(0, .ref 146), (1, .int (Int32.ofInt x1)), (2, .int (Int32.ofInt x2)), (3, .int (Int32.ofInt x3))] [.ref 156, .int (Int32.ofInt x3)] w _
  refine wp_g 1 (pc1 := 10) (lv1 := [(0, .ref 146), (1, .int (Int32.ofInt x1)), (2, .int (Int32.ofInt x2)), (3, .int (Int32.ofInt x3))]) (st1 := [.int (Int32.ofInt 0), .ref 156, .int (Int32.ofInt x3)]) (w1 := w) rfl ?_
  obtain ⟨i1, e2, hx⟩ := bd hx
  refine wx_ra (x := 156) (n := 130) (ln := 1) (a := 0) (b := 0) (zz := 0) (by decide +kernel) h (hS _ _ sm_156) e2 ?_
  show wp _ 195 11 [(0, .ref 146), (1, .int (Int32.ofInt x1)), (2, .int (Int32.ofInt x2)), (3, .int (Int32.ofInt x3))] [.int (Int32.ofInt (s 156 i1)), .int (Int32.ofInt x3)] w _
  refine wx_ge (oo := 27) (ln := 3) (a := 38) (b := 0) (zz := 0) (by decide +kernel) (fun h3 => ?_) (fun h3 => ?_)
  · have hx := ite_f h3 hx
    cases hx
    exact kc _ rfl _ rfl
  · have hx := ite_t h3 hx
    refine wp_g 4 (pc1 := 18) (lv1 := [(0, .ref 146), (1, .int (Int32.ofInt x1)), (2, .int (Int32.ofInt x2)), (3, .int (Int32.ofInt x3))]) (st1 := [.int (Int32.ofInt 0), .int (Int32.ofInt x3), .ref 146, .int (Int32.ofInt x2)]) (w1 := w) rfl ?_
    obtain ⟨o4, e5, hx⟩ := bd hx
    refine wp_cl [.ref 146, .int (Int32.ofInt x3), .int (Int32.ofInt 0)] [.int (Int32.ofInt x2)] (i := .invokevirtual 304) (ln := 3) (a := 194) (b := 0) (z := 0) (by decide +kernel) rfl rfl (by decide) rfl (show (3 : Nat) = pm_na 194 by decide +kernel) (Nat.le_of_ble_eq_true rfl) (show (3 : Nat) ≤ pm_n 194 by decide +kernel) (rcv_x 12 h (hS _ _ sm_146) (by decide +kernel)) (xm_cellOf_ok (d := d) hS h e5 ?_)
    show wp _ 195 21 [(0, .ref 146), (1, .int (Int32.ofInt x1)), (2, .int (Int32.ofInt x2)), (3, .int (Int32.ofInt x3))] [.int (Int32.ofInt o4), .int (Int32.ofInt x2)] w _
    refine wp_g 1 (pc1 := 22) (lv1 := [(0, .ref 146), (1, .int (Int32.ofInt x1)), (2, .int (Int32.ofInt x2)), (3, .int (Int32.ofInt x3))]) (st1 := [.int (Int32.ofInt x1), .int (Int32.ofInt o4), .int (Int32.ofInt x2)]) (w1 := w) rfl ?_
    refine wx_ne (oo := 7) (ln := 3) (a := 29) (b := 0) (zz := 0) (by decide +kernel) (fun h8 => ?_) (fun h8 => ?_)
    · have hx := ite_f h8 hx
      refine wp_g 5 (pc1 := 4) (lv1 := [(3, .int (Int32.ofInt (x3 + 1))), (2, .int (Int32.ofInt (x2 + 0))), (0, .ref 146), (1, .int (Int32.ofInt x1))]) (st1 := []) (w1 := w) (by simp only [Int32.ofInt_add, Int32.ofInt_sub, Int32.ofInt_mul, Int32.ofInt_neg, p_and, p_or, p_xor, p_shl, p_shr, p_usr, p_w8, p_c16, p_lI, q_and, q_or, q_shl, q_shr, q_w32, Int64.ofInt_add, Int64.ofInt_sub, Int64.ofInt_mul, p_mx, p_mn, q_mx, q_mn]; rfl) ?_
      refine wp_lv (lv1 := [(0, .ref 146), (1, .int (Int32.ofInt x1)), (2, .int (Int32.ofInt (x2 + 0))), (3, .int (Int32.ofInt (x3 + 1)))]) (lsub_p [2, 3, 1, 0] rfl rfl rfl) ?_
      cases hx
      exact kn _ _ rfl rfl
    · have hx := ite_t h8 hx
      refine wp_g 6 (pc1 := 4) (lv1 := [(3, .int (Int32.ofInt (x3 + 1))), (2, .int (Int32.ofInt (x2 + 1))), (0, .ref 146), (1, .int (Int32.ofInt x1))]) (st1 := []) (w1 := w) (by simp only [Int32.ofInt_add, Int32.ofInt_sub, Int32.ofInt_mul, Int32.ofInt_neg, p_and, p_or, p_xor, p_shl, p_shr, p_usr, p_w8, p_c16, p_lI, q_and, q_or, q_shl, q_shr, q_w32, Int64.ofInt_add, Int64.ofInt_sub, Int64.ofInt_mul, p_mx, p_mn, q_mx, q_mn]; rfl) ?_
      refine wp_lv (lv1 := [(0, .ref 146), (1, .int (Int32.ofInt x1)), (2, .int (Int32.ofInt (x2 + 1))), (3, .int (Int32.ofInt (x3 + 1)))]) (lsub_p [2, 3, 1, 0] rfl rfl rfl) ?_
      cases hx
      exact kn _ _ rfl rfl
/-- FoldDeedsModel.thickAt (I)I -/
noncomputable def xm_thickAt (s : Hp) (p1 : Int) : Option Int :=
  (lp (fun (q : Int × Int) => xm_thickAt_b4 s p1 q.1 q.2) (0, 0)).bind fun q1 => some q1.1
set_option maxRecDepth 100000 in
theorem xm_thickAt_ok {d : Nat} {P : Option Value → pm_H → Prop} {w : pm_H} {sh : Shp} {w0 : pm_H} {s : Hp} (hS : StM sh) {p1 : Int} (h : Rw sh w0 s w) {o : Int} (hx : xm_thickAt s p1 = some o) (kr : P (some (.int (Int32.ofInt o))) w) : wp (d + 1) 195 0 (lv_args 0 [.ref 146, .int (Int32.ofInt p1)]) [] w P := by
  show wp _ 195 0 [(0, .ref 146), (1, .int (Int32.ofInt p1))] [] w _
  unfold xm_thickAt at hx
  refine wp_g 4 (pc1 := 4) (lv1 := [(3, .int (Int32.ofInt 0)), (2, .int (Int32.ofInt 0)), (0, .ref 146), (1, .int (Int32.ofInt p1))]) (st1 := []) (w1 := w) rfl ?_
  refine wp_lv (lv1 := [(0, .ref 146), (1, .int (Int32.ofInt p1)), (2, .int (Int32.ofInt 0)), (3, .int (Int32.ofInt 0))]) (lsub_p [2, 3, 1, 0] rfl rfl rfl) ?_
  obtain ⟨q1, e2, hx⟩ := bd hx
  refine wp_lp (σ := Int × Int) (ρ := (Int × Int)) (B := fun q => xm_thickAt_b4 s p1 q.1 q.2) (R := fun q w' => w = w') (C := fun r => ∀ w1, w = w1 → wp (d + 1) 195 38 [(0, .ref 146), (1, .int (Int32.ofInt p1)), (2, .int (Int32.ofInt r.1)), (3, .int (Int32.ofInt r.2))] [] w1 P) (lv := fun q => [(0, .ref 146), (1, .int (Int32.ofInt p1)), (2, .int (Int32.ofInt q.1)), (3, .int (Int32.ofInt q.2))]) (hd := 4) (fun q w' o hR hb kn kc => by subst hR; exact xm_thickAt_b4_ok hS h hb kn kc) _ _ _ e2 rfl ?_
  intro w3 h4
  subst h4
  show wp _ 195 38 [(0, .ref 146), (1, .int (Int32.ofInt p1)), (2, .int (Int32.ofInt q1.1)), (3, .int (Int32.ofInt q1.2))] [] w _
  refine wp_g 1 (pc1 := 39) (lv1 := [(0, .ref 146), (1, .int (Int32.ofInt p1)), (2, .int (Int32.ofInt q1.1)), (3, .int (Int32.ofInt q1.2))]) (st1 := [.int (Int32.ofInt q1.1)]) (w1 := w) rfl ?_
  refine wp_rt (i := .ireturn) (r := some (.int (Int32.ofInt q1.1))) (ln := 1) (a := 0) (b := 0) (z := 0) (by decide +kernel) rfl (ret_ok (by decide +kernel)) ?_
  cases hx
  exact kr
noncomputable def xm_cellsOf_b4 (s : Hp) (x1 : Int) (x2 : Int) (x3 : Int) : Option ((Int × Int) ⊕ (Int × Int)) :=
  (ix 130 0).bind fun i1 => if w32 x3 < w32 (s 156 i1) then (xm_cellOf s x3 3).bind fun o4 => if w32 o4 = w32 x1 then some (.inl (bOr x2 (bShl 1 x3), x3 + 1)) else some (.inl (bOr x2 0, x3 + 1)) else some (.inr (x2, x3))
set_option maxRecDepth 100000 in
theorem xm_cellsOf_b4_ok {d : Nat} {P : Option Value → pm_H → Prop} {w : pm_H} {sh : Shp} {w0 : pm_H} {s : Hp} (hS : StM sh) {x1 : Int} {x2 : Int} {x3 : Int} (h : Rw sh w0 s w) {o : ((Int × Int) ⊕ (Int × Int))} (hx : xm_cellsOf_b4 s x1 x2 x3 = some o) (kn : ∀ (q : Int × Int) w1, o = .inl q → w = w1 → wp (d + 1) 198 4 [(0, .ref 146), (1, .int (Int32.ofInt x1)), (2, .int (Int32.ofInt q.1)), (3, .int (Int32.ofInt q.2))] [] w1 P) (kc : ∀ (r : (Int × Int)), o = .inr r → (∀ w1, w = w1 → wp (d + 1) 198 40 [(0, .ref 146), (1, .int (Int32.ofInt x1)), (2, .int (Int32.ofInt r.1)), (3, .int (Int32.ofInt r.2))] [] w1 P)) : wp (d + 1) 198 4 [(0, .ref 146), (1, .int (Int32.ofInt x1)), (2, .int (Int32.ofInt x2)), (3, .int (Int32.ofInt x3))] [] w P := by
  unfold xm_cellsOf_b4 at hx
  refine wp_g 2 (pc1 := 6) (lv1 := [(0, .ref 146), (1, .int (Int32.ofInt x1)), (2, .int (Int32.ofInt x2)), (3, .int (Int32.ofInt x3))]) (st1 := [.ref 146, .int (Int32.ofInt x3)]) (w1 := w) rfl ?_
  refine wx_gr (o := 10) (kf := 39) (ln := 3) (ci := 12) (b := 20) (zz := 0) (x := 146) (by decide +kernel) h (hS _ _ sm_146) rfl ?_
  show wp _ 198 9 [(0, .ref 146), (1, .int (Int32.ofInt x1)), (2, .int (Int32.ofInt x2)), (3, .int (Int32.ofInt x3))] [.ref 156, .int (Int32.ofInt x3)] w _
  refine wp_g 1 (pc1 := 10) (lv1 := [(0, .ref 146), (1, .int (Int32.ofInt x1)), (2, .int (Int32.ofInt x2)), (3, .int (Int32.ofInt x3))]) (st1 := [.int (Int32.ofInt 0), .ref 156, .int (Int32.ofInt x3)]) (w1 := w) rfl ?_
  obtain ⟨i1, e2, hx⟩ := bd hx
  refine wx_ra (x := 156) (n := 130) (ln := 1) (a := 0) (b := 0) (zz := 0) (by decide +kernel) h (hS _ _ sm_156) e2 ?_
  show wp _ 198 11 [(0, .ref 146), (1, .int (Int32.ofInt x1)), (2, .int (Int32.ofInt x2)), (3, .int (Int32.ofInt x3))] [.int (Int32.ofInt (s 156 i1)), .int (Int32.ofInt x3)] w _
  refine wx_ge (oo := 29) (ln := 3) (a := 40) (b := 0) (zz := 0) (by decide +kernel) (fun h3 => ?_) (fun h3 => ?_)
  · have hx := ite_f h3 hx
    cases hx
    exact kc _ rfl _ rfl
  · have hx := ite_t h3 hx
    refine wp_g 4 (pc1 := 18) (lv1 := [(0, .ref 146), (1, .int (Int32.ofInt x1)), (2, .int (Int32.ofInt x2)), (3, .int (Int32.ofInt x3))]) (st1 := [.int (Int32.ofInt 3), .int (Int32.ofInt x3), .ref 146, .int (Int32.ofInt x2)]) (w1 := w) rfl ?_
    obtain ⟨o4, e5, hx⟩ := bd hx
    refine wp_cl [.ref 146, .int (Int32.ofInt x3), .int (Int32.ofInt 3)] [.int (Int32.ofInt x2)] (i := .invokevirtual 304) (ln := 3) (a := 194) (b := 0) (z := 0) (by decide +kernel) rfl rfl (by decide) rfl (show (3 : Nat) = pm_na 194 by decide +kernel) (Nat.le_of_ble_eq_true rfl) (show (3 : Nat) ≤ pm_n 194 by decide +kernel) (rcv_x 12 h (hS _ _ sm_146) (by decide +kernel)) (xm_cellOf_ok (d := d) hS h e5 ?_)
    show wp _ 198 21 [(0, .ref 146), (1, .int (Int32.ofInt x1)), (2, .int (Int32.ofInt x2)), (3, .int (Int32.ofInt x3))] [.int (Int32.ofInt o4), .int (Int32.ofInt x2)] w _
    refine wp_g 1 (pc1 := 22) (lv1 := [(0, .ref 146), (1, .int (Int32.ofInt x1)), (2, .int (Int32.ofInt x2)), (3, .int (Int32.ofInt x3))]) (st1 := [.int (Int32.ofInt x1), .int (Int32.ofInt o4), .int (Int32.ofInt x2)]) (w1 := w) rfl ?_
    refine wx_ne (oo := 9) (ln := 3) (a := 31) (b := 0) (zz := 0) (by decide +kernel) (fun h8 => ?_) (fun h8 => ?_)
    · have hx := ite_f h8 hx
      refine wp_g 5 (pc1 := 4) (lv1 := [(3, .int (Int32.ofInt (x3 + 1))), (2, .int (Int32.ofInt (bOr x2 0))), (0, .ref 146), (1, .int (Int32.ofInt x1))]) (st1 := []) (w1 := w) (by simp only [Int32.ofInt_add, Int32.ofInt_sub, Int32.ofInt_mul, Int32.ofInt_neg, p_and, p_or, p_xor, p_shl, p_shr, p_usr, p_w8, p_c16, p_lI, q_and, q_or, q_shl, q_shr, q_w32, Int64.ofInt_add, Int64.ofInt_sub, Int64.ofInt_mul, p_mx, p_mn, q_mx, q_mn]; rfl) ?_
      refine wp_lv (lv1 := [(0, .ref 146), (1, .int (Int32.ofInt x1)), (2, .int (Int32.ofInt (bOr x2 0))), (3, .int (Int32.ofInt (x3 + 1)))]) (lsub_p [2, 3, 1, 0] rfl rfl rfl) ?_
      cases hx
      exact kn _ _ rfl rfl
    · have hx := ite_t h8 hx
      refine wp_g 8 (pc1 := 4) (lv1 := [(3, .int (Int32.ofInt (x3 + 1))), (2, .int (Int32.ofInt (bOr x2 (bShl 1 x3)))), (0, .ref 146), (1, .int (Int32.ofInt x1))]) (st1 := []) (w1 := w) (by simp only [Int32.ofInt_add, Int32.ofInt_sub, Int32.ofInt_mul, Int32.ofInt_neg, p_and, p_or, p_xor, p_shl, p_shr, p_usr, p_w8, p_c16, p_lI, q_and, q_or, q_shl, q_shr, q_w32, Int64.ofInt_add, Int64.ofInt_sub, Int64.ofInt_mul, p_mx, p_mn, q_mx, q_mn]; rfl) ?_
      refine wp_lv (lv1 := [(0, .ref 146), (1, .int (Int32.ofInt x1)), (2, .int (Int32.ofInt (bOr x2 (bShl 1 x3)))), (3, .int (Int32.ofInt (x3 + 1)))]) (lsub_p [2, 3, 1, 0] rfl rfl rfl) ?_
      cases hx
      exact kn _ _ rfl rfl
/-- FoldDeedsModel.cellsOf (I)I -/
noncomputable def xm_cellsOf (s : Hp) (p1 : Int) : Option Int :=
  (lp (fun (q : Int × Int) => xm_cellsOf_b4 s p1 q.1 q.2) (0, 0)).bind fun q1 => some q1.1
set_option maxRecDepth 100000 in
theorem xm_cellsOf_ok {d : Nat} {P : Option Value → pm_H → Prop} {w : pm_H} {sh : Shp} {w0 : pm_H} {s : Hp} (hS : StM sh) {p1 : Int} (h : Rw sh w0 s w) {o : Int} (hx : xm_cellsOf s p1 = some o) (kr : P (some (.int (Int32.ofInt o))) w) : wp (d + 1) 198 0 (lv_args 0 [.ref 146, .int (Int32.ofInt p1)]) [] w P := by
  show wp _ 198 0 [(0, .ref 146), (1, .int (Int32.ofInt p1))] [] w _
  unfold xm_cellsOf at hx
  refine wp_g 4 (pc1 := 4) (lv1 := [(3, .int (Int32.ofInt 0)), (2, .int (Int32.ofInt 0)), (0, .ref 146), (1, .int (Int32.ofInt p1))]) (st1 := []) (w1 := w) rfl ?_
  refine wp_lv (lv1 := [(0, .ref 146), (1, .int (Int32.ofInt p1)), (2, .int (Int32.ofInt 0)), (3, .int (Int32.ofInt 0))]) (lsub_p [2, 3, 1, 0] rfl rfl rfl) ?_
  obtain ⟨q1, e2, hx⟩ := bd hx
  refine wp_lp (σ := Int × Int) (ρ := (Int × Int)) (B := fun q => xm_cellsOf_b4 s p1 q.1 q.2) (R := fun q w' => w = w') (C := fun r => ∀ w1, w = w1 → wp (d + 1) 198 40 [(0, .ref 146), (1, .int (Int32.ofInt p1)), (2, .int (Int32.ofInt r.1)), (3, .int (Int32.ofInt r.2))] [] w1 P) (lv := fun q => [(0, .ref 146), (1, .int (Int32.ofInt p1)), (2, .int (Int32.ofInt q.1)), (3, .int (Int32.ofInt q.2))]) (hd := 4) (fun q w' o hR hb kn kc => by subst hR; exact xm_cellsOf_b4_ok hS h hb kn kc) _ _ _ e2 rfl ?_
  intro w3 h4
  subst h4
  show wp _ 198 40 [(0, .ref 146), (1, .int (Int32.ofInt p1)), (2, .int (Int32.ofInt q1.1)), (3, .int (Int32.ofInt q1.2))] [] w _
  refine wp_g 1 (pc1 := 41) (lv1 := [(0, .ref 146), (1, .int (Int32.ofInt p1)), (2, .int (Int32.ofInt q1.1)), (3, .int (Int32.ofInt q1.2))]) (st1 := [.int (Int32.ofInt q1.1)]) (w1 := w) rfl ?_
  refine wp_rt (i := .ireturn) (r := some (.int (Int32.ofInt q1.1))) (ln := 1) (a := 0) (b := 0) (z := 0) (by decide +kernel) rfl (ret_ok (by decide +kernel)) ?_
  cases hx
  exact kr
/-- FoldDeedsModel.force (I)I -/
noncomputable def xm_force (s : Hp) (p1 : Int) : Option (Int × Hp) :=
  if w32 p1 = w32 (-1) then (some (uh s 146 21 p1)).bind fun s2 => some (s 146 21, s2) else (xm_isRule s p1).bind fun o6 => if w32 o6 = 0 then some ((-2), s) else (some (uh s 146 21 p1)).bind fun s11 => some (s 146 21, s11)
set_option maxRecDepth 100000 in
theorem xm_force_ok {d : Nat} {P : Option Value → pm_H → Prop} {w : pm_H} {sh : Shp} {w0 : pm_H} {s : Hp} (hS : StM sh) {p1 : Int} (h : Rw sh w0 s w) {o : Int × Hp} (hx : xm_force s p1 = some o) (kr : ∀ w1, Rw sh w0 o.2 w1 → P (some (.int (Int32.ofInt o.1))) w1) : wp (d + 1) 199 0 (lv_args 0 [.ref 146, .int (Int32.ofInt p1)]) [] w P := by
  show wp _ 199 0 [(0, .ref 146), (1, .int (Int32.ofInt p1))] [] w _
  unfold xm_force at hx
  refine wp_g 2 (pc1 := 2) (lv1 := [(0, .ref 146), (1, .int (Int32.ofInt p1))]) (st1 := [.int (Int32.ofInt (-1)), .int (Int32.ofInt p1)]) (w1 := w) rfl ?_
  refine wx_eq (oo := 14) (ln := 3) (a := 16) (b := 0) (zz := 0) (by decide +kernel) (fun h1 => ?_) (fun h1 => ?_)
  · have hx := ite_t h1 hx
    refine wp_g 1 (pc1 := 17) (lv1 := [(0, .ref 146), (1, .int (Int32.ofInt p1))]) (st1 := [.ref 146]) (w1 := w) rfl ?_
    refine wx_gi (kf := 42) (ln := 3) (ci := 12) (b := 21) (zz := 0) (x := 146) (by decide +kernel) h (hS _ _ sm_146) rfl ?_
    show wp _ 199 20 [(0, .ref 146), (1, .int (Int32.ofInt p1))] [.int (Int32.ofInt (s 146 21))] w _
    refine wp_g 3 (pc1 := 23) (lv1 := [(2, .int (Int32.ofInt (s 146 21))), (0, .ref 146), (1, .int (Int32.ofInt p1))]) (st1 := [.int (Int32.ofInt p1), .ref 146]) (w1 := w) rfl ?_
    obtain ⟨s2, e3, hx⟩ := bd hx
    refine wx_pi (kf := 42) (ln := 3) (ci := 12) (b := 21) (zz := 0) (x := 146) (by decide +kernel) h (hS _ _ sm_146) rfl (by decide +kernel) e3 (fun w4 h5 => ?_)
    refine wp_g 1 (pc1 := 27) (lv1 := [(2, .int (Int32.ofInt (s 146 21))), (0, .ref 146), (1, .int (Int32.ofInt p1))]) (st1 := [.int (Int32.ofInt (s 146 21))]) (w1 := w4) rfl ?_
    refine wp_rt (i := .ireturn) (r := some (.int (Int32.ofInt (s 146 21)))) (ln := 1) (a := 0) (b := 0) (z := 0) (by decide +kernel) rfl (ret_ok (by decide +kernel)) ?_
    cases hx
    exact kr _ h5
  · have hx := ite_f h1 hx
    refine wp_g 2 (pc1 := 7) (lv1 := [(0, .ref 146), (1, .int (Int32.ofInt p1))]) (st1 := [.int (Int32.ofInt p1), .ref 146]) (w1 := w) rfl ?_
    obtain ⟨o6, e7, hx⟩ := bd hx
    refine wp_cl [.ref 146, .int (Int32.ofInt p1)] [] (i := .invokevirtual 311) (ln := 3) (a := 185) (b := 0) (z := 0) (by decide +kernel) rfl rfl (by decide) rfl (show (2 : Nat) = pm_na 185 by decide +kernel) (Nat.le_of_ble_eq_true rfl) (show (2 : Nat) ≤ pm_n 185 by decide +kernel) (rcv_x 12 h (hS _ _ sm_146) (by decide +kernel)) (xm_isRule_ok (d := d) hS h e7 ?_)
    show wp _ 199 10 [(0, .ref 146), (1, .int (Int32.ofInt p1))] [.int (Int32.ofInt o6)] w _
    refine wz_ne (oo := 6) (ln := 3) (a := 16) (b := 0) (zz := 0) (by decide +kernel) (fun h10 => ?_) (fun h10 => ?_)
    · have hx := ite_f h10 hx
      refine wp_g 1 (pc1 := 17) (lv1 := [(0, .ref 146), (1, .int (Int32.ofInt p1))]) (st1 := [.ref 146]) (w1 := w) rfl ?_
      refine wx_gi (kf := 42) (ln := 3) (ci := 12) (b := 21) (zz := 0) (x := 146) (by decide +kernel) h (hS _ _ sm_146) rfl ?_
      show wp _ 199 20 [(0, .ref 146), (1, .int (Int32.ofInt p1))] [.int (Int32.ofInt (s 146 21))] w _
      refine wp_g 3 (pc1 := 23) (lv1 := [(2, .int (Int32.ofInt (s 146 21))), (0, .ref 146), (1, .int (Int32.ofInt p1))]) (st1 := [.int (Int32.ofInt p1), .ref 146]) (w1 := w) rfl ?_
      obtain ⟨s11, e12, hx⟩ := bd hx
      refine wx_pi (kf := 42) (ln := 3) (ci := 12) (b := 21) (zz := 0) (x := 146) (by decide +kernel) h (hS _ _ sm_146) rfl (by decide +kernel) e12 (fun w13 h14 => ?_)
      refine wp_g 1 (pc1 := 27) (lv1 := [(2, .int (Int32.ofInt (s 146 21))), (0, .ref 146), (1, .int (Int32.ofInt p1))]) (st1 := [.int (Int32.ofInt (s 146 21))]) (w1 := w13) rfl ?_
      refine wp_rt (i := .ireturn) (r := some (.int (Int32.ofInt (s 146 21)))) (ln := 1) (a := 0) (b := 0) (z := 0) (by decide +kernel) rfl (ret_ok (by decide +kernel)) ?_
      cases hx
      exact kr _ h14
    · have hx := ite_t h10 hx
      refine wp_g 1 (pc1 := 15) (lv1 := [(0, .ref 146), (1, .int (Int32.ofInt p1))]) (st1 := [.int (Int32.ofInt (-2))]) (w1 := w) rfl ?_
      refine wp_rt (i := .ireturn) (r := some (.int (Int32.ofInt (-2)))) (ln := 1) (a := 0) (b := 0) (z := 0) (by decide +kernel) rfl (ret_ok (by decide +kernel)) ?_
      cases hx
      exact kr _ h
/-- FoldDeedsModel.cell (II)I -/
noncomputable def xm_cell (s : Hp) (p1 : Int) (p2 : Int) : Option Int :=
  (xm_isCell s p1).bind fun o1 => if w32 o1 = 0 then some (-2) else (xm_in (w32 p2) 0 4).bind fun o6 => if w32 o6 = 0 then some (-2) else if w32 p2 < w32 4 then (xm_cellOf s p1 p2).bind fun o14 => some o14 else (ix 130 (55 + p1)).bind fun i12 => some (s 156 i12)
set_option maxRecDepth 100000 in
theorem xm_cell_ok {d : Nat} {P : Option Value → pm_H → Prop} {w : pm_H} {sh : Shp} {w0 : pm_H} {s : Hp} (hS : StM sh) {p1 : Int} {p2 : Int} (h : Rw sh w0 s w) {o : Int} (hx : xm_cell s p1 p2 = some o) (kr : P (some (.int (Int32.ofInt o))) w) : wp (d + 1) 200 0 (lv_args 0 [.ref 146, .int (Int32.ofInt p1), .int (Int32.ofInt p2)]) [] w P := by
  show wp _ 200 0 [(0, .ref 146), (1, .int (Int32.ofInt p1)), (2, .int (Int32.ofInt p2))] [] w _
  unfold xm_cell at hx
  refine wp_g 2 (pc1 := 2) (lv1 := [(0, .ref 146), (1, .int (Int32.ofInt p1)), (2, .int (Int32.ofInt p2))]) (st1 := [.int (Int32.ofInt p1), .ref 146]) (w1 := w) rfl ?_
  obtain ⟨o1, e2, hx⟩ := bd hx
  refine wp_cl [.ref 146, .int (Int32.ofInt p1)] [] (i := .invokevirtual 314) (ln := 3) (a := 191) (b := 0) (z := 0) (by decide +kernel) rfl rfl (by decide) rfl (show (2 : Nat) = pm_na 191 by decide +kernel) (Nat.le_of_ble_eq_true rfl) (show (2 : Nat) ≤ pm_n 191 by decide +kernel) (rcv_x 12 h (hS _ _ sm_146) (by decide +kernel)) (xm_isCell_ok (d := d) hS h e2 ?_)
  show wp _ 200 5 [(0, .ref 146), (1, .int (Int32.ofInt p1)), (2, .int (Int32.ofInt p2))] [.int (Int32.ofInt o1)] w _
  refine wz_eq (oo := 15) (ln := 3) (a := 20) (b := 0) (zz := 0) (by decide +kernel) (fun h5 => ?_) (fun h5 => ?_)
  · have hx := ite_t h5 hx
    refine wp_g 1 (pc1 := 22) (lv1 := [(0, .ref 146), (1, .int (Int32.ofInt p1)), (2, .int (Int32.ofInt p2))]) (st1 := [.int (Int32.ofInt (-2))]) (w1 := w) rfl ?_
    refine wp_rt (i := .ireturn) (r := some (.int (Int32.ofInt (-2)))) (ln := 1) (a := 0) (b := 0) (z := 0) (by decide +kernel) rfl (ret_ok (by decide +kernel)) ?_
    cases hx
    exact kr
  · have hx := ite_f h5 hx
    refine wp_g 4 (pc1 := 14) (lv1 := [(0, .ref 146), (1, .int (Int32.ofInt p1)), (2, .int (Int32.ofInt p2))]) (st1 := [.long (Int64.ofInt 4), .long (Int64.ofInt 0), .long (Int64.ofInt (w32 p2))]) (w1 := w) (by simp only [Int32.ofInt_add, Int32.ofInt_sub, Int32.ofInt_mul, Int32.ofInt_neg, p_and, p_or, p_xor, p_shl, p_shr, p_usr, p_w8, p_c16, p_lI, q_and, q_or, q_shl, q_shr, q_w32, Int64.ofInt_add, Int64.ofInt_sub, Int64.ofInt_mul, p_mx, p_mn, q_mx, q_mn]; rfl) ?_
    obtain ⟨o6, e7, hx⟩ := bd hx
    refine wp_cl [.long (Int64.ofInt (w32 p2)), .long (Int64.ofInt 0), .long (Int64.ofInt 4)] [] (i := .invokestatic 139) (ln := 3) (a := 147) (b := 1) (z := 0) (by decide +kernel) rfl rfl (by decide) rfl (show (3 : Nat) = pm_na 147 by decide +kernel) (Nat.le_of_ble_eq_true rfl) (show (6 : Nat) ≤ pm_n 147 by decide +kernel) (by rw [show pm_k 147 = 1 by decide +kernel]; rfl) (xm_in_ok (d := d) e7 ?_)
    show wp _ 200 17 [(0, .ref 146), (1, .int (Int32.ofInt p1)), (2, .int (Int32.ofInt p2))] [.int (Int32.ofInt o6)] w _
    refine wz_ne (oo := 6) (ln := 3) (a := 23) (b := 0) (zz := 0) (by decide +kernel) (fun h10 => ?_) (fun h10 => ?_)
    · have hx := ite_f h10 hx
      refine wp_g 2 (pc1 := 25) (lv1 := [(0, .ref 146), (1, .int (Int32.ofInt p1)), (2, .int (Int32.ofInt p2))]) (st1 := [.int (Int32.ofInt 4), .int (Int32.ofInt p2)]) (w1 := w) rfl ?_
      refine wx_ge (oo := 12) (ln := 3) (a := 37) (b := 0) (zz := 0) (by decide +kernel) (fun h11 => ?_) (fun h11 => ?_)
      · have hx := ite_f h11 hx
        refine wp_g 1 (pc1 := 38) (lv1 := [(0, .ref 146), (1, .int (Int32.ofInt p1)), (2, .int (Int32.ofInt p2))]) (st1 := [.ref 146]) (w1 := w) rfl ?_
        refine wx_gr (o := 10) (kf := 39) (ln := 3) (ci := 12) (b := 20) (zz := 0) (x := 146) (by decide +kernel) h (hS _ _ sm_146) rfl ?_
        show wp _ 200 41 [(0, .ref 146), (1, .int (Int32.ofInt p1)), (2, .int (Int32.ofInt p2))] [.ref 156] w _
        refine wp_g 3 (pc1 := 45) (lv1 := [(0, .ref 146), (1, .int (Int32.ofInt p1)), (2, .int (Int32.ofInt p2))]) (st1 := [.int (Int32.ofInt (55 + p1)), .ref 156]) (w1 := w) (by simp only [Int32.ofInt_add, Int32.ofInt_sub, Int32.ofInt_mul, Int32.ofInt_neg, p_and, p_or, p_xor, p_shl, p_shr, p_usr, p_w8, p_c16, p_lI, q_and, q_or, q_shl, q_shr, q_w32, Int64.ofInt_add, Int64.ofInt_sub, Int64.ofInt_mul, p_mx, p_mn, q_mx, q_mn]; rfl) ?_
        obtain ⟨i12, e13, hx⟩ := bd hx
        refine wx_ra (x := 156) (n := 130) (ln := 1) (a := 0) (b := 0) (zz := 0) (by decide +kernel) h (hS _ _ sm_156) e13 ?_
        show wp _ 200 46 [(0, .ref 146), (1, .int (Int32.ofInt p1)), (2, .int (Int32.ofInt p2))] [.int (Int32.ofInt (s 156 i12))] w _
        refine wp_rt (i := .ireturn) (r := some (.int (Int32.ofInt (s 156 i12)))) (ln := 1) (a := 0) (b := 0) (z := 0) (by decide +kernel) rfl (ret_ok (by decide +kernel)) ?_
        cases hx
        exact kr
      · have hx := ite_t h11 hx
        refine wp_g 3 (pc1 := 31) (lv1 := [(0, .ref 146), (1, .int (Int32.ofInt p1)), (2, .int (Int32.ofInt p2))]) (st1 := [.int (Int32.ofInt p2), .int (Int32.ofInt p1), .ref 146]) (w1 := w) rfl ?_
        obtain ⟨o14, e15, hx⟩ := bd hx
        refine wp_cl [.ref 146, .int (Int32.ofInt p1), .int (Int32.ofInt p2)] [] (i := .invokevirtual 304) (ln := 3) (a := 194) (b := 0) (z := 0) (by decide +kernel) rfl rfl (by decide) rfl (show (3 : Nat) = pm_na 194 by decide +kernel) (Nat.le_of_ble_eq_true rfl) (show (3 : Nat) ≤ pm_n 194 by decide +kernel) (rcv_x 12 h (hS _ _ sm_146) (by decide +kernel)) (xm_cellOf_ok (d := d) hS h e15 ?_)
        show wp _ 200 34 [(0, .ref 146), (1, .int (Int32.ofInt p1)), (2, .int (Int32.ofInt p2))] [.int (Int32.ofInt o14)] w _
        refine wp_g 1 (pc1 := 46) (lv1 := [(0, .ref 146), (1, .int (Int32.ofInt p1)), (2, .int (Int32.ofInt p2))]) (st1 := [.int (Int32.ofInt o14)]) (w1 := w) rfl ?_
        refine wp_rt (i := .ireturn) (r := some (.int (Int32.ofInt o14))) (ln := 1) (a := 0) (b := 0) (z := 0) (by decide +kernel) rfl (ret_ok (by decide +kernel)) ?_
        cases hx
        exact kr
    · have hx := ite_t h10 hx
      refine wp_g 1 (pc1 := 22) (lv1 := [(0, .ref 146), (1, .int (Int32.ofInt p1)), (2, .int (Int32.ofInt p2))]) (st1 := [.int (Int32.ofInt (-2))]) (w1 := w) rfl ?_
      refine wp_rt (i := .ireturn) (r := some (.int (Int32.ofInt (-2)))) (ln := 1) (a := 0) (b := 0) (z := 0) (by decide +kernel) rfl (ret_ok (by decide +kernel)) ?_
      cases hx
      exact kr
/-- FoldDeedsModel.joint (II)I -/
noncomputable def xm_joint (s : Hp) (p1 : Int) (p2 : Int) : Option Int :=
  (xm_isJoint s p1).bind fun o1 => if w32 o1 = 0 then some (-1) else (xm_in (w32 p2) 0 1).bind fun o6 => if w32 o6 = 0 then some (-1) else if w32 p2 = 0 then (ix 130 (44 + p1)).bind fun i14 => some (s 156 i14) else (ix 130 (82 + p1)).bind fun i12 => some (s 156 i12)
set_option maxRecDepth 100000 in
theorem xm_joint_ok {d : Nat} {P : Option Value → pm_H → Prop} {w : pm_H} {sh : Shp} {w0 : pm_H} {s : Hp} (hS : StM sh) {p1 : Int} {p2 : Int} (h : Rw sh w0 s w) {o : Int} (hx : xm_joint s p1 p2 = some o) (kr : P (some (.int (Int32.ofInt o))) w) : wp (d + 2) 201 0 (lv_args 0 [.ref 146, .int (Int32.ofInt p1), .int (Int32.ofInt p2)]) [] w P := by
  show wp _ 201 0 [(0, .ref 146), (1, .int (Int32.ofInt p1)), (2, .int (Int32.ofInt p2))] [] w _
  unfold xm_joint at hx
  refine wp_g 2 (pc1 := 2) (lv1 := [(0, .ref 146), (1, .int (Int32.ofInt p1)), (2, .int (Int32.ofInt p2))]) (st1 := [.int (Int32.ofInt p1), .ref 146]) (w1 := w) rfl ?_
  obtain ⟨o1, e2, hx⟩ := bd hx
  refine wp_cl [.ref 146, .int (Int32.ofInt p1)] [] (i := .invokevirtual 319) (ln := 3) (a := 192) (b := 0) (z := 0) (by decide +kernel) rfl rfl (by decide) rfl (show (2 : Nat) = pm_na 192 by decide +kernel) (Nat.le_of_ble_eq_true rfl) (show (2 : Nat) ≤ pm_n 192 by decide +kernel) (rcv_x 12 h (hS _ _ sm_146) (by decide +kernel)) (xm_isJoint_ok (d := d) hS h e2 ?_)
  show wp _ 201 5 [(0, .ref 146), (1, .int (Int32.ofInt p1)), (2, .int (Int32.ofInt p2))] [.int (Int32.ofInt o1)] w _
  refine wz_eq (oo := 34) (ln := 3) (a := 39) (b := 0) (zz := 0) (by decide +kernel) (fun h5 => ?_) (fun h5 => ?_)
  · have hx := ite_t h5 hx
    refine wp_g 1 (pc1 := 40) (lv1 := [(0, .ref 146), (1, .int (Int32.ofInt p1)), (2, .int (Int32.ofInt p2))]) (st1 := [.int (Int32.ofInt (-1))]) (w1 := w) rfl ?_
    refine wp_rt (i := .ireturn) (r := some (.int (Int32.ofInt (-1)))) (ln := 1) (a := 0) (b := 0) (z := 0) (by decide +kernel) rfl (ret_ok (by decide +kernel)) ?_
    cases hx
    exact kr
  · have hx := ite_f h5 hx
    refine wp_g 4 (pc1 := 12) (lv1 := [(0, .ref 146), (1, .int (Int32.ofInt p1)), (2, .int (Int32.ofInt p2))]) (st1 := [.long (Int64.ofInt 1), .long (Int64.ofInt 0), .long (Int64.ofInt (w32 p2))]) (w1 := w) (by simp only [Int32.ofInt_add, Int32.ofInt_sub, Int32.ofInt_mul, Int32.ofInt_neg, p_and, p_or, p_xor, p_shl, p_shr, p_usr, p_w8, p_c16, p_lI, q_and, q_or, q_shl, q_shr, q_w32, Int64.ofInt_add, Int64.ofInt_sub, Int64.ofInt_mul, p_mx, p_mn, q_mx, q_mn]; rfl) ?_
    obtain ⟨o6, e7, hx⟩ := bd hx
    refine wp_cl [.long (Int64.ofInt (w32 p2)), .long (Int64.ofInt 0), .long (Int64.ofInt 1)] [] (i := .invokestatic 139) (ln := 3) (a := 147) (b := 1) (z := 0) (by decide +kernel) rfl rfl (by decide) rfl (show (3 : Nat) = pm_na 147 by decide +kernel) (Nat.le_of_ble_eq_true rfl) (show (6 : Nat) ≤ pm_n 147 by decide +kernel) (by rw [show pm_k 147 = 1 by decide +kernel]; rfl) (xm_in_ok (d := d + 1) e7 ?_)
    show wp _ 201 15 [(0, .ref 146), (1, .int (Int32.ofInt p1)), (2, .int (Int32.ofInt p2))] [.int (Int32.ofInt o6)] w _
    refine wz_eq (oo := 24) (ln := 3) (a := 39) (b := 0) (zz := 0) (by decide +kernel) (fun h10 => ?_) (fun h10 => ?_)
    · have hx := ite_t h10 hx
      refine wp_g 1 (pc1 := 40) (lv1 := [(0, .ref 146), (1, .int (Int32.ofInt p1)), (2, .int (Int32.ofInt p2))]) (st1 := [.int (Int32.ofInt (-1))]) (w1 := w) rfl ?_
      refine wp_rt (i := .ireturn) (r := some (.int (Int32.ofInt (-1)))) (ln := 1) (a := 0) (b := 0) (z := 0) (by decide +kernel) rfl (ret_ok (by decide +kernel)) ?_
      cases hx
      exact kr
    · have hx := ite_f h10 hx
      refine wp_g 1 (pc1 := 19) (lv1 := [(0, .ref 146), (1, .int (Int32.ofInt p1)), (2, .int (Int32.ofInt p2))]) (st1 := [.ref 146]) (w1 := w) rfl ?_
      refine wx_gr (o := 10) (kf := 39) (ln := 3) (ci := 12) (b := 20) (zz := 0) (x := 146) (by decide +kernel) h (hS _ _ sm_146) rfl ?_
      show wp _ 201 22 [(0, .ref 146), (1, .int (Int32.ofInt p1)), (2, .int (Int32.ofInt p2))] [.ref 156] w _
      refine wp_g 1 (pc1 := 23) (lv1 := [(0, .ref 146), (1, .int (Int32.ofInt p1)), (2, .int (Int32.ofInt p2))]) (st1 := [.int (Int32.ofInt p2), .ref 156]) (w1 := w) rfl ?_
      refine wz_ne (oo := 8) (ln := 3) (a := 31) (b := 0) (zz := 0) (by decide +kernel) (fun h11 => ?_) (fun h11 => ?_)
      · have hx := ite_f h11 hx
        refine wp_g 3 (pc1 := 35) (lv1 := [(0, .ref 146), (1, .int (Int32.ofInt p1)), (2, .int (Int32.ofInt p2))]) (st1 := [.int (Int32.ofInt (82 + p1)), .ref 156]) (w1 := w) (by simp only [Int32.ofInt_add, Int32.ofInt_sub, Int32.ofInt_mul, Int32.ofInt_neg, p_and, p_or, p_xor, p_shl, p_shr, p_usr, p_w8, p_c16, p_lI, q_and, q_or, q_shl, q_shr, q_w32, Int64.ofInt_add, Int64.ofInt_sub, Int64.ofInt_mul, p_mx, p_mn, q_mx, q_mn]; rfl) ?_
        obtain ⟨i12, e13, hx⟩ := bd hx
        refine wx_ra (x := 156) (n := 130) (ln := 1) (a := 0) (b := 0) (zz := 0) (by decide +kernel) h (hS _ _ sm_156) e13 ?_
        show wp _ 201 36 [(0, .ref 146), (1, .int (Int32.ofInt p1)), (2, .int (Int32.ofInt p2))] [.int (Int32.ofInt (s 156 i12))] w _
        refine wp_g 1 (pc1 := 40) (lv1 := [(0, .ref 146), (1, .int (Int32.ofInt p1)), (2, .int (Int32.ofInt p2))]) (st1 := [.int (Int32.ofInt (s 156 i12))]) (w1 := w) rfl ?_
        refine wp_rt (i := .ireturn) (r := some (.int (Int32.ofInt (s 156 i12)))) (ln := 1) (a := 0) (b := 0) (z := 0) (by decide +kernel) rfl (ret_ok (by decide +kernel)) ?_
        cases hx
        exact kr
      · have hx := ite_t h11 hx
        refine wp_g 4 (pc1 := 35) (lv1 := [(0, .ref 146), (1, .int (Int32.ofInt p1)), (2, .int (Int32.ofInt p2))]) (st1 := [.int (Int32.ofInt (44 + p1)), .ref 156]) (w1 := w) (by simp only [Int32.ofInt_add, Int32.ofInt_sub, Int32.ofInt_mul, Int32.ofInt_neg, p_and, p_or, p_xor, p_shl, p_shr, p_usr, p_w8, p_c16, p_lI, q_and, q_or, q_shl, q_shr, q_w32, Int64.ofInt_add, Int64.ofInt_sub, Int64.ofInt_mul, p_mx, p_mn, q_mx, q_mn]; rfl) ?_
        obtain ⟨i14, e15, hx⟩ := bd hx
        refine wx_ra (x := 156) (n := 130) (ln := 1) (a := 0) (b := 0) (zz := 0) (by decide +kernel) h (hS _ _ sm_156) e15 ?_
        show wp _ 201 36 [(0, .ref 146), (1, .int (Int32.ofInt p1)), (2, .int (Int32.ofInt p2))] [.int (Int32.ofInt (s 156 i14))] w _
        refine wp_g 1 (pc1 := 40) (lv1 := [(0, .ref 146), (1, .int (Int32.ofInt p1)), (2, .int (Int32.ofInt p2))]) (st1 := [.int (Int32.ofInt (s 156 i14))]) (w1 := w) rfl ?_
        refine wp_rt (i := .ireturn) (r := some (.int (Int32.ofInt (s 156 i14)))) (ln := 1) (a := 0) (b := 0) (z := 0) (by decide +kernel) rfl (ret_ok (by decide +kernel)) ?_
        cases hx
        exact kr
/-- FoldDeedsModel.person (II)I -/
noncomputable def xm_person (s : Hp) (p1 : Int) (p2 : Int) : Option Int :=
  (xm_isPerson s p1).bind fun o1 => if w32 o1 = 0 then some (-1) else (xm_in (w32 p2) 0 1).bind fun o6 => if w32 o6 = 0 then some (-1) else if w32 p2 = 0 then (ix 130 (51 + p1)).bind fun i16 => some (s 156 i16) else (xm_cellsOf s p1).bind fun o12 => some o12
set_option maxRecDepth 100000 in
theorem xm_person_ok {d : Nat} {P : Option Value → pm_H → Prop} {w : pm_H} {sh : Shp} {w0 : pm_H} {s : Hp} (hS : StM sh) {p1 : Int} {p2 : Int} (h : Rw sh w0 s w) {o : Int} (hx : xm_person s p1 p2 = some o) (kr : P (some (.int (Int32.ofInt o))) w) : wp (d + 2) 202 0 (lv_args 0 [.ref 146, .int (Int32.ofInt p1), .int (Int32.ofInt p2)]) [] w P := by
  show wp _ 202 0 [(0, .ref 146), (1, .int (Int32.ofInt p1)), (2, .int (Int32.ofInt p2))] [] w _
  unfold xm_person at hx
  refine wp_g 2 (pc1 := 2) (lv1 := [(0, .ref 146), (1, .int (Int32.ofInt p1)), (2, .int (Int32.ofInt p2))]) (st1 := [.int (Int32.ofInt p1), .ref 146]) (w1 := w) rfl ?_
  obtain ⟨o1, e2, hx⟩ := bd hx
  refine wp_cl [.ref 146, .int (Int32.ofInt p1)] [] (i := .invokevirtual 322) (ln := 3) (a := 193) (b := 0) (z := 0) (by decide +kernel) rfl rfl (by decide) rfl (show (2 : Nat) = pm_na 193 by decide +kernel) (Nat.le_of_ble_eq_true rfl) (show (2 : Nat) ≤ pm_n 193 by decide +kernel) (rcv_x 12 h (hS _ _ sm_146) (by decide +kernel)) (xm_isPerson_ok (d := d + 1) hS h e2 ?_)
  show wp _ 202 5 [(0, .ref 146), (1, .int (Int32.ofInt p1)), (2, .int (Int32.ofInt p2))] [.int (Int32.ofInt o1)] w _
  refine wz_eq (oo := 37) (ln := 3) (a := 42) (b := 0) (zz := 0) (by decide +kernel) (fun h5 => ?_) (fun h5 => ?_)
  · have hx := ite_t h5 hx
    refine wp_g 1 (pc1 := 43) (lv1 := [(0, .ref 146), (1, .int (Int32.ofInt p1)), (2, .int (Int32.ofInt p2))]) (st1 := [.int (Int32.ofInt (-1))]) (w1 := w) rfl ?_
    refine wp_rt (i := .ireturn) (r := some (.int (Int32.ofInt (-1)))) (ln := 1) (a := 0) (b := 0) (z := 0) (by decide +kernel) rfl (ret_ok (by decide +kernel)) ?_
    cases hx
    exact kr
  · have hx := ite_f h5 hx
    refine wp_g 4 (pc1 := 12) (lv1 := [(0, .ref 146), (1, .int (Int32.ofInt p1)), (2, .int (Int32.ofInt p2))]) (st1 := [.long (Int64.ofInt 1), .long (Int64.ofInt 0), .long (Int64.ofInt (w32 p2))]) (w1 := w) (by simp only [Int32.ofInt_add, Int32.ofInt_sub, Int32.ofInt_mul, Int32.ofInt_neg, p_and, p_or, p_xor, p_shl, p_shr, p_usr, p_w8, p_c16, p_lI, q_and, q_or, q_shl, q_shr, q_w32, Int64.ofInt_add, Int64.ofInt_sub, Int64.ofInt_mul, p_mx, p_mn, q_mx, q_mn]; rfl) ?_
    obtain ⟨o6, e7, hx⟩ := bd hx
    refine wp_cl [.long (Int64.ofInt (w32 p2)), .long (Int64.ofInt 0), .long (Int64.ofInt 1)] [] (i := .invokestatic 139) (ln := 3) (a := 147) (b := 1) (z := 0) (by decide +kernel) rfl rfl (by decide) rfl (show (3 : Nat) = pm_na 147 by decide +kernel) (Nat.le_of_ble_eq_true rfl) (show (6 : Nat) ≤ pm_n 147 by decide +kernel) (by rw [show pm_k 147 = 1 by decide +kernel]; rfl) (xm_in_ok (d := d + 1) e7 ?_)
    show wp _ 202 15 [(0, .ref 146), (1, .int (Int32.ofInt p1)), (2, .int (Int32.ofInt p2))] [.int (Int32.ofInt o6)] w _
    refine wz_eq (oo := 27) (ln := 3) (a := 42) (b := 0) (zz := 0) (by decide +kernel) (fun h10 => ?_) (fun h10 => ?_)
    · have hx := ite_t h10 hx
      refine wp_g 1 (pc1 := 43) (lv1 := [(0, .ref 146), (1, .int (Int32.ofInt p1)), (2, .int (Int32.ofInt p2))]) (st1 := [.int (Int32.ofInt (-1))]) (w1 := w) rfl ?_
      refine wp_rt (i := .ireturn) (r := some (.int (Int32.ofInt (-1)))) (ln := 1) (a := 0) (b := 0) (z := 0) (by decide +kernel) rfl (ret_ok (by decide +kernel)) ?_
      cases hx
      exact kr
    · have hx := ite_f h10 hx
      refine wp_g 1 (pc1 := 19) (lv1 := [(0, .ref 146), (1, .int (Int32.ofInt p1)), (2, .int (Int32.ofInt p2))]) (st1 := [.int (Int32.ofInt p2)]) (w1 := w) rfl ?_
      refine wz_ne (oo := 15) (ln := 3) (a := 34) (b := 0) (zz := 0) (by decide +kernel) (fun h11 => ?_) (fun h11 => ?_)
      · have hx := ite_f h11 hx
        refine wp_g 2 (pc1 := 36) (lv1 := [(0, .ref 146), (1, .int (Int32.ofInt p1)), (2, .int (Int32.ofInt p2))]) (st1 := [.int (Int32.ofInt p1), .ref 146]) (w1 := w) rfl ?_
        obtain ⟨o12, e13, hx⟩ := bd hx
        refine wp_cl [.ref 146, .int (Int32.ofInt p1)] [] (i := .invokevirtual 325) (ln := 3) (a := 198) (b := 0) (z := 0) (by decide +kernel) rfl rfl (by decide) rfl (show (2 : Nat) = pm_na 198 by decide +kernel) (Nat.le_of_ble_eq_true rfl) (show (2 : Nat) ≤ pm_n 198 by decide +kernel) (rcv_x 12 h (hS _ _ sm_146) (by decide +kernel)) (xm_cellsOf_ok (d := d) hS h e13 ?_)
        show wp _ 202 39 [(0, .ref 146), (1, .int (Int32.ofInt p1)), (2, .int (Int32.ofInt p2))] [.int (Int32.ofInt o12)] w _
        refine wp_g 1 (pc1 := 43) (lv1 := [(0, .ref 146), (1, .int (Int32.ofInt p1)), (2, .int (Int32.ofInt p2))]) (st1 := [.int (Int32.ofInt o12)]) (w1 := w) rfl ?_
        refine wp_rt (i := .ireturn) (r := some (.int (Int32.ofInt o12))) (ln := 1) (a := 0) (b := 0) (z := 0) (by decide +kernel) rfl (ret_ok (by decide +kernel)) ?_
        cases hx
        exact kr
      · have hx := ite_t h11 hx
        refine wp_g 1 (pc1 := 23) (lv1 := [(0, .ref 146), (1, .int (Int32.ofInt p1)), (2, .int (Int32.ofInt p2))]) (st1 := [.ref 146]) (w1 := w) rfl ?_
        refine wx_gr (o := 10) (kf := 39) (ln := 3) (ci := 12) (b := 20) (zz := 0) (x := 146) (by decide +kernel) h (hS _ _ sm_146) rfl ?_
        show wp _ 202 26 [(0, .ref 146), (1, .int (Int32.ofInt p1)), (2, .int (Int32.ofInt p2))] [.ref 156] w _
        refine wp_g 3 (pc1 := 30) (lv1 := [(0, .ref 146), (1, .int (Int32.ofInt p1)), (2, .int (Int32.ofInt p2))]) (st1 := [.int (Int32.ofInt (51 + p1)), .ref 156]) (w1 := w) (by simp only [Int32.ofInt_add, Int32.ofInt_sub, Int32.ofInt_mul, Int32.ofInt_neg, p_and, p_or, p_xor, p_shl, p_shr, p_usr, p_w8, p_c16, p_lI, q_and, q_or, q_shl, q_shr, q_w32, Int64.ofInt_add, Int64.ofInt_sub, Int64.ofInt_mul, p_mx, p_mn, q_mx, q_mn]; rfl) ?_
        obtain ⟨i16, e17, hx⟩ := bd hx
        refine wx_ra (x := 156) (n := 130) (ln := 1) (a := 0) (b := 0) (zz := 0) (by decide +kernel) h (hS _ _ sm_156) e17 ?_
        show wp _ 202 31 [(0, .ref 146), (1, .int (Int32.ofInt p1)), (2, .int (Int32.ofInt p2))] [.int (Int32.ofInt (s 156 i16))] w _
        refine wp_g 1 (pc1 := 43) (lv1 := [(0, .ref 146), (1, .int (Int32.ofInt p1)), (2, .int (Int32.ofInt p2))]) (st1 := [.int (Int32.ofInt (s 156 i16))]) (w1 := w) rfl ?_
        refine wp_rt (i := .ireturn) (r := some (.int (Int32.ofInt (s 156 i16)))) (ln := 1) (a := 0) (b := 0) (z := 0) (by decide +kernel) rfl (ret_ok (by decide +kernel)) ?_
        cases hx
        exact kr
/-- FoldDeedsModel.thick (I)I -/
noncomputable def xm_thick (s : Hp) (p1 : Int) : Option Int :=
  (xm_isCloth s).bind fun o1 => if w32 o1 = 0 then some (-1) else (ix 130 10).bind fun i6 => (xm_in (w32 p1) 0 (w32 ((s 156 i6) - 1))).bind fun o8 => if w32 o8 = 0 then some (-1) else (xm_thickAt s p1).bind fun o13 => some o13
set_option maxRecDepth 100000 in
theorem xm_thick_ok {d : Nat} {P : Option Value → pm_H → Prop} {w : pm_H} {sh : Shp} {w0 : pm_H} {s : Hp} (hS : StM sh) {p1 : Int} (h : Rw sh w0 s w) {o : Int} (hx : xm_thick s p1 = some o) (kr : P (some (.int (Int32.ofInt o))) w) : wp (d + 2) 203 0 (lv_args 0 [.ref 146, .int (Int32.ofInt p1)]) [] w P := by
  show wp _ 203 0 [(0, .ref 146), (1, .int (Int32.ofInt p1))] [] w _
  unfold xm_thick at hx
  refine wp_g 1 (pc1 := 1) (lv1 := [(0, .ref 146), (1, .int (Int32.ofInt p1))]) (st1 := [.ref 146]) (w1 := w) rfl ?_
  obtain ⟨o1, e2, hx⟩ := bd hx
  refine wp_cl [.ref 146] [] (i := .invokevirtual 301) (ln := 3) (a := 190) (b := 0) (z := 0) (by decide +kernel) rfl rfl (by decide) rfl (show (1 : Nat) = pm_na 190 by decide +kernel) (Nat.le_of_ble_eq_true rfl) (show (1 : Nat) ≤ pm_n 190 by decide +kernel) (rcv_x 12 h (hS _ _ sm_146) (by decide +kernel)) (xm_isCloth_ok (d := d + 1) hS h e2 ?_)
  show wp _ 203 4 [(0, .ref 146), (1, .int (Int32.ofInt p1))] [.int (Int32.ofInt o1)] w _
  refine wz_eq (oo := 30) (ln := 3) (a := 34) (b := 0) (zz := 0) (by decide +kernel) (fun h5 => ?_) (fun h5 => ?_)
  · have hx := ite_t h5 hx
    refine wp_g 1 (pc1 := 35) (lv1 := [(0, .ref 146), (1, .int (Int32.ofInt p1))]) (st1 := [.int (Int32.ofInt (-1))]) (w1 := w) rfl ?_
    refine wp_rt (i := .ireturn) (r := some (.int (Int32.ofInt (-1)))) (ln := 1) (a := 0) (b := 0) (z := 0) (by decide +kernel) rfl (ret_ok (by decide +kernel)) ?_
    cases hx
    exact kr
  · have hx := ite_f h5 hx
    refine wp_g 4 (pc1 := 11) (lv1 := [(0, .ref 146), (1, .int (Int32.ofInt p1))]) (st1 := [.ref 146, .long (Int64.ofInt 0), .long (Int64.ofInt (w32 p1))]) (w1 := w) (by simp only [Int32.ofInt_add, Int32.ofInt_sub, Int32.ofInt_mul, Int32.ofInt_neg, p_and, p_or, p_xor, p_shl, p_shr, p_usr, p_w8, p_c16, p_lI, q_and, q_or, q_shl, q_shr, q_w32, Int64.ofInt_add, Int64.ofInt_sub, Int64.ofInt_mul, p_mx, p_mn, q_mx, q_mn]; rfl) ?_
    refine wx_gr (o := 10) (kf := 39) (ln := 3) (ci := 12) (b := 20) (zz := 0) (x := 146) (by decide +kernel) h (hS _ _ sm_146) rfl ?_
    show wp _ 203 14 [(0, .ref 146), (1, .int (Int32.ofInt p1))] [.ref 156, .long (Int64.ofInt 0), .long (Int64.ofInt (w32 p1))] w _
    refine wp_g 1 (pc1 := 16) (lv1 := [(0, .ref 146), (1, .int (Int32.ofInt p1))]) (st1 := [.int (Int32.ofInt 10), .ref 156, .long (Int64.ofInt 0), .long (Int64.ofInt (w32 p1))]) (w1 := w) rfl ?_
    obtain ⟨i6, e7, hx⟩ := bd hx
    refine wx_ra (x := 156) (n := 130) (ln := 1) (a := 0) (b := 0) (zz := 0) (by decide +kernel) h (hS _ _ sm_156) e7 ?_
    show wp _ 203 17 [(0, .ref 146), (1, .int (Int32.ofInt p1))] [.int (Int32.ofInt (s 156 i6)), .long (Int64.ofInt 0), .long (Int64.ofInt (w32 p1))] w _
    refine wp_g 3 (pc1 := 20) (lv1 := [(0, .ref 146), (1, .int (Int32.ofInt p1))]) (st1 := [.long (Int64.ofInt (w32 ((s 156 i6) - 1))), .long (Int64.ofInt 0), .long (Int64.ofInt (w32 p1))]) (w1 := w) (by simp only [Int32.ofInt_add, Int32.ofInt_sub, Int32.ofInt_mul, Int32.ofInt_neg, p_and, p_or, p_xor, p_shl, p_shr, p_usr, p_w8, p_c16, p_lI, q_and, q_or, q_shl, q_shr, q_w32, Int64.ofInt_add, Int64.ofInt_sub, Int64.ofInt_mul, p_mx, p_mn, q_mx, q_mn]; rfl) ?_
    obtain ⟨o8, e9, hx⟩ := bd hx
    refine wp_cl [.long (Int64.ofInt (w32 p1)), .long (Int64.ofInt 0), .long (Int64.ofInt (w32 ((s 156 i6) - 1)))] [] (i := .invokestatic 139) (ln := 3) (a := 147) (b := 1) (z := 0) (by decide +kernel) rfl rfl (by decide) rfl (show (3 : Nat) = pm_na 147 by decide +kernel) (Nat.le_of_ble_eq_true rfl) (show (6 : Nat) ≤ pm_n 147 by decide +kernel) (by rw [show pm_k 147 = 1 by decide +kernel]; rfl) (xm_in_ok (d := d + 1) e9 ?_)
    show wp _ 203 23 [(0, .ref 146), (1, .int (Int32.ofInt p1))] [.int (Int32.ofInt o8)] w _
    refine wz_eq (oo := 11) (ln := 3) (a := 34) (b := 0) (zz := 0) (by decide +kernel) (fun h12 => ?_) (fun h12 => ?_)
    · have hx := ite_t h12 hx
      refine wp_g 1 (pc1 := 35) (lv1 := [(0, .ref 146), (1, .int (Int32.ofInt p1))]) (st1 := [.int (Int32.ofInt (-1))]) (w1 := w) rfl ?_
      refine wp_rt (i := .ireturn) (r := some (.int (Int32.ofInt (-1)))) (ln := 1) (a := 0) (b := 0) (z := 0) (by decide +kernel) rfl (ret_ok (by decide +kernel)) ?_
      cases hx
      exact kr
    · have hx := ite_f h12 hx
      refine wp_g 2 (pc1 := 28) (lv1 := [(0, .ref 146), (1, .int (Int32.ofInt p1))]) (st1 := [.int (Int32.ofInt p1), .ref 146]) (w1 := w) rfl ?_
      obtain ⟨o13, e14, hx⟩ := bd hx
      refine wp_cl [.ref 146, .int (Int32.ofInt p1)] [] (i := .invokevirtual 328) (ln := 3) (a := 195) (b := 0) (z := 0) (by decide +kernel) rfl rfl (by decide) rfl (show (2 : Nat) = pm_na 195 by decide +kernel) (Nat.le_of_ble_eq_true rfl) (show (2 : Nat) ≤ pm_n 195 by decide +kernel) (rcv_x 12 h (hS _ _ sm_146) (by decide +kernel)) (xm_thickAt_ok (d := d) hS h e14 ?_)
      show wp _ 203 31 [(0, .ref 146), (1, .int (Int32.ofInt p1))] [.int (Int32.ofInt o13)] w _
      refine wp_g 1 (pc1 := 35) (lv1 := [(0, .ref 146), (1, .int (Int32.ofInt p1))]) (st1 := [.int (Int32.ofInt o13)]) (w1 := w) rfl ?_
      refine wp_rt (i := .ireturn) (r := some (.int (Int32.ofInt o13))) (ln := 1) (a := 0) (b := 0) (z := 0) (by decide +kernel) rfl (ret_ok (by decide +kernel)) ?_
      cases hx
      exact kr
/-- FoldDeedsModel.isLine (I)Z -/
noncomputable def xm_isLine (s : Hp) (p1 : Int) : Option Int :=
  (xm_isCloth s).bind fun o1 => if w32 o1 = 0 then some 0 else if w32 p1 < 0 then some 0 else (ix 130 10).bind fun i7 => if w32 p1 < w32 ((s 156 i7) - 1) then some 1 else some 0
set_option maxRecDepth 100000 in
theorem xm_isLine_ok {d : Nat} {P : Option Value → pm_H → Prop} {w : pm_H} {sh : Shp} {w0 : pm_H} {s : Hp} (hS : StM sh) {p1 : Int} (h : Rw sh w0 s w) {o : Int} (hx : xm_isLine s p1 = some o) (kr : P (some (.int (Int32.ofInt o))) w) : wp (d + 1) 204 0 (lv_args 0 [.ref 146, .int (Int32.ofInt p1)]) [] w P := by
  show wp _ 204 0 [(0, .ref 146), (1, .int (Int32.ofInt p1))] [] w _
  unfold xm_isLine at hx
  refine wp_g 1 (pc1 := 1) (lv1 := [(0, .ref 146), (1, .int (Int32.ofInt p1))]) (st1 := [.ref 146]) (w1 := w) rfl ?_
  obtain ⟨o1, e2, hx⟩ := bd hx
  refine wp_cl [.ref 146] [] (i := .invokevirtual 301) (ln := 3) (a := 190) (b := 0) (z := 0) (by decide +kernel) rfl rfl (by decide) rfl (show (1 : Nat) = pm_na 190 by decide +kernel) (Nat.le_of_ble_eq_true rfl) (show (1 : Nat) ≤ pm_n 190 by decide +kernel) (rcv_x 12 h (hS _ _ sm_146) (by decide +kernel)) (xm_isCloth_ok (d := d) hS h e2 ?_)
  show wp _ 204 4 [(0, .ref 146), (1, .int (Int32.ofInt p1))] [.int (Int32.ofInt o1)] w _
  refine wz_eq (oo := 24) (ln := 3) (a := 28) (b := 0) (zz := 0) (by decide +kernel) (fun h5 => ?_) (fun h5 => ?_)
  · have hx := ite_t h5 hx
    refine wp_g 1 (pc1 := 29) (lv1 := [(0, .ref 146), (1, .int (Int32.ofInt p1))]) (st1 := [.int (Int32.ofInt 0)]) (w1 := w) rfl ?_
    refine wp_rt (i := .ireturn) (r := some (.int (Int32.ofInt 0))) (ln := 1) (a := 0) (b := 0) (z := 0) (by decide +kernel) rfl (ret_b (by decide +kernel) (Or.inl rfl)) ?_
    cases hx
    exact kr
  · have hx := ite_f h5 hx
    refine wp_g 1 (pc1 := 8) (lv1 := [(0, .ref 146), (1, .int (Int32.ofInt p1))]) (st1 := [.int (Int32.ofInt p1)]) (w1 := w) rfl ?_
    refine wz_lt (oo := 20) (ln := 3) (a := 28) (b := 0) (zz := 0) (by decide +kernel) (fun h6 => ?_) (fun h6 => ?_)
    · have hx := ite_t h6 hx
      refine wp_g 1 (pc1 := 29) (lv1 := [(0, .ref 146), (1, .int (Int32.ofInt p1))]) (st1 := [.int (Int32.ofInt 0)]) (w1 := w) rfl ?_
      refine wp_rt (i := .ireturn) (r := some (.int (Int32.ofInt 0))) (ln := 1) (a := 0) (b := 0) (z := 0) (by decide +kernel) rfl (ret_b (by decide +kernel) (Or.inl rfl)) ?_
      cases hx
      exact kr
    · have hx := ite_f h6 hx
      refine wp_g 2 (pc1 := 13) (lv1 := [(0, .ref 146), (1, .int (Int32.ofInt p1))]) (st1 := [.ref 146, .int (Int32.ofInt p1)]) (w1 := w) rfl ?_
      refine wx_gr (o := 10) (kf := 39) (ln := 3) (ci := 12) (b := 20) (zz := 0) (x := 146) (by decide +kernel) h (hS _ _ sm_146) rfl ?_
      show wp _ 204 16 [(0, .ref 146), (1, .int (Int32.ofInt p1))] [.ref 156, .int (Int32.ofInt p1)] w _
      refine wp_g 1 (pc1 := 18) (lv1 := [(0, .ref 146), (1, .int (Int32.ofInt p1))]) (st1 := [.int (Int32.ofInt 10), .ref 156, .int (Int32.ofInt p1)]) (w1 := w) rfl ?_
      obtain ⟨i7, e8, hx⟩ := bd hx
      refine wx_ra (x := 156) (n := 130) (ln := 1) (a := 0) (b := 0) (zz := 0) (by decide +kernel) h (hS _ _ sm_156) e8 ?_
      show wp _ 204 19 [(0, .ref 146), (1, .int (Int32.ofInt p1))] [.int (Int32.ofInt (s 156 i7)), .int (Int32.ofInt p1)] w _
      refine wp_g 2 (pc1 := 21) (lv1 := [(0, .ref 146), (1, .int (Int32.ofInt p1))]) (st1 := [.int (Int32.ofInt ((s 156 i7) - 1)), .int (Int32.ofInt p1)]) (w1 := w) (by simp only [Int32.ofInt_add, Int32.ofInt_sub, Int32.ofInt_mul, Int32.ofInt_neg, p_and, p_or, p_xor, p_shl, p_shr, p_usr, p_w8, p_c16, p_lI, q_and, q_or, q_shl, q_shr, q_w32, Int64.ofInt_add, Int64.ofInt_sub, Int64.ofInt_mul, p_mx, p_mn, q_mx, q_mn]; rfl) ?_
      refine wx_ge (oo := 7) (ln := 3) (a := 28) (b := 0) (zz := 0) (by decide +kernel) (fun h9 => ?_) (fun h9 => ?_)
      · have hx := ite_f h9 hx
        refine wp_g 1 (pc1 := 29) (lv1 := [(0, .ref 146), (1, .int (Int32.ofInt p1))]) (st1 := [.int (Int32.ofInt 0)]) (w1 := w) rfl ?_
        refine wp_rt (i := .ireturn) (r := some (.int (Int32.ofInt 0))) (ln := 1) (a := 0) (b := 0) (z := 0) (by decide +kernel) rfl (ret_b (by decide +kernel) (Or.inl rfl)) ?_
        cases hx
        exact kr
      · have hx := ite_t h9 hx
        refine wp_g 2 (pc1 := 29) (lv1 := [(0, .ref 146), (1, .int (Int32.ofInt p1))]) (st1 := [.int (Int32.ofInt 1)]) (w1 := w) rfl ?_
        refine wp_rt (i := .ireturn) (r := some (.int (Int32.ofInt 1))) (ln := 1) (a := 0) (b := 0) (z := 0) (by decide +kernel) rfl (ret_b (by decide +kernel) (Or.inr rfl)) ?_
        cases hx
        exact kr
/-- FoldDeedsModel.isMoved (III)Z -/
noncomputable def xm_isMoved (s : Hp) (p1 : Int) (p2 : Int) (p3 : Int) : Option Int :=
  if w32 p3 = 0 then (xm_cellOf s p1 0).bind fun o7 => if w32 p2 < w32 o7 then some 1 else some 0 else (xm_cellOf s p1 0).bind fun o2 => if w32 p2 < w32 o2 then some 0 else some 1
set_option maxRecDepth 100000 in
theorem xm_isMoved_ok {d : Nat} {P : Option Value → pm_H → Prop} {w : pm_H} {sh : Shp} {w0 : pm_H} {s : Hp} (hS : StM sh) {p1 : Int} {p2 : Int} {p3 : Int} (h : Rw sh w0 s w) {o : Int} (hx : xm_isMoved s p1 p2 p3 = some o) (kr : P (some (.int (Int32.ofInt o))) w) : wp (d + 1) 205 0 (lv_args 0 [.ref 146, .int (Int32.ofInt p1), .int (Int32.ofInt p2), .int (Int32.ofInt p3)]) [] w P := by
  show wp _ 205 0 [(0, .ref 146), (1, .int (Int32.ofInt p1)), (2, .int (Int32.ofInt p2)), (3, .int (Int32.ofInt p3))] [] w _
  unfold xm_isMoved at hx
  refine wp_g 1 (pc1 := 1) (lv1 := [(0, .ref 146), (1, .int (Int32.ofInt p1)), (2, .int (Int32.ofInt p2)), (3, .int (Int32.ofInt p3))]) (st1 := [.int (Int32.ofInt p3)]) (w1 := w) rfl ?_
  refine wz_ne (oo := 21) (ln := 3) (a := 22) (b := 0) (zz := 0) (by decide +kernel) (fun h1 => ?_) (fun h1 => ?_)
  · have hx := ite_f h1 hx
    refine wp_g 3 (pc1 := 25) (lv1 := [(0, .ref 146), (1, .int (Int32.ofInt p1)), (2, .int (Int32.ofInt p2)), (3, .int (Int32.ofInt p3))]) (st1 := [.int (Int32.ofInt 0), .int (Int32.ofInt p1), .ref 146]) (w1 := w) rfl ?_
    obtain ⟨o2, e3, hx⟩ := bd hx
    refine wp_cl [.ref 146, .int (Int32.ofInt p1), .int (Int32.ofInt 0)] [] (i := .invokevirtual 304) (ln := 3) (a := 194) (b := 0) (z := 0) (by decide +kernel) rfl rfl (by decide) rfl (show (3 : Nat) = pm_na 194 by decide +kernel) (Nat.le_of_ble_eq_true rfl) (show (3 : Nat) ≤ pm_n 194 by decide +kernel) (rcv_x 12 h (hS _ _ sm_146) (by decide +kernel)) (xm_cellOf_ok (d := d) hS h e3 ?_)
    show wp _ 205 28 [(0, .ref 146), (1, .int (Int32.ofInt p1)), (2, .int (Int32.ofInt p2)), (3, .int (Int32.ofInt p3))] [.int (Int32.ofInt o2)] w _
    refine wp_g 1 (pc1 := 29) (lv1 := [(0, .ref 146), (1, .int (Int32.ofInt p1)), (2, .int (Int32.ofInt p2)), (3, .int (Int32.ofInt p3))]) (st1 := [.int (Int32.ofInt p2), .int (Int32.ofInt o2)]) (w1 := w) rfl ?_
    refine wx_gt (oo := 7) (ln := 3) (a := 36) (b := 0) (zz := 0) (by decide +kernel) (fun h6 => ?_) (fun h6 => ?_)
    · have hx := ite_t h6 hx
      refine wp_g 1 (pc1 := 37) (lv1 := [(0, .ref 146), (1, .int (Int32.ofInt p1)), (2, .int (Int32.ofInt p2)), (3, .int (Int32.ofInt p3))]) (st1 := [.int (Int32.ofInt 0)]) (w1 := w) rfl ?_
      refine wp_rt (i := .ireturn) (r := some (.int (Int32.ofInt 0))) (ln := 1) (a := 0) (b := 0) (z := 0) (by decide +kernel) rfl (ret_b (by decide +kernel) (Or.inl rfl)) ?_
      cases hx
      exact kr
    · have hx := ite_f h6 hx
      refine wp_g 2 (pc1 := 37) (lv1 := [(0, .ref 146), (1, .int (Int32.ofInt p1)), (2, .int (Int32.ofInt p2)), (3, .int (Int32.ofInt p3))]) (st1 := [.int (Int32.ofInt 1)]) (w1 := w) rfl ?_
      refine wp_rt (i := .ireturn) (r := some (.int (Int32.ofInt 1))) (ln := 1) (a := 0) (b := 0) (z := 0) (by decide +kernel) rfl (ret_b (by decide +kernel) (Or.inr rfl)) ?_
      cases hx
      exact kr
  · have hx := ite_t h1 hx
    refine wp_g 3 (pc1 := 7) (lv1 := [(0, .ref 146), (1, .int (Int32.ofInt p1)), (2, .int (Int32.ofInt p2)), (3, .int (Int32.ofInt p3))]) (st1 := [.int (Int32.ofInt 0), .int (Int32.ofInt p1), .ref 146]) (w1 := w) rfl ?_
    obtain ⟨o7, e8, hx⟩ := bd hx
    refine wp_cl [.ref 146, .int (Int32.ofInt p1), .int (Int32.ofInt 0)] [] (i := .invokevirtual 304) (ln := 3) (a := 194) (b := 0) (z := 0) (by decide +kernel) rfl rfl (by decide) rfl (show (3 : Nat) = pm_na 194 by decide +kernel) (Nat.le_of_ble_eq_true rfl) (show (3 : Nat) ≤ pm_n 194 by decide +kernel) (rcv_x 12 h (hS _ _ sm_146) (by decide +kernel)) (xm_cellOf_ok (d := d) hS h e8 ?_)
    show wp _ 205 10 [(0, .ref 146), (1, .int (Int32.ofInt p1)), (2, .int (Int32.ofInt p2)), (3, .int (Int32.ofInt p3))] [.int (Int32.ofInt o7)] w _
    refine wp_g 1 (pc1 := 11) (lv1 := [(0, .ref 146), (1, .int (Int32.ofInt p1)), (2, .int (Int32.ofInt p2)), (3, .int (Int32.ofInt p3))]) (st1 := [.int (Int32.ofInt p2), .int (Int32.ofInt o7)]) (w1 := w) rfl ?_
    refine wx_le (oo := 7) (ln := 3) (a := 18) (b := 0) (zz := 0) (by decide +kernel) (fun h11 => ?_) (fun h11 => ?_)
    · have hx := ite_f h11 hx
      refine wp_g 2 (pc1 := 37) (lv1 := [(0, .ref 146), (1, .int (Int32.ofInt p1)), (2, .int (Int32.ofInt p2)), (3, .int (Int32.ofInt p3))]) (st1 := [.int (Int32.ofInt 0)]) (w1 := w) rfl ?_
      refine wp_rt (i := .ireturn) (r := some (.int (Int32.ofInt 0))) (ln := 1) (a := 0) (b := 0) (z := 0) (by decide +kernel) rfl (ret_b (by decide +kernel) (Or.inl rfl)) ?_
      cases hx
      exact kr
    · have hx := ite_t h11 hx
      refine wp_g 2 (pc1 := 37) (lv1 := [(0, .ref 146), (1, .int (Int32.ofInt p1)), (2, .int (Int32.ofInt p2)), (3, .int (Int32.ofInt p3))]) (st1 := [.int (Int32.ofInt 1)]) (w1 := w) rfl ?_
      refine wp_rt (i := .ireturn) (r := some (.int (Int32.ofInt 1))) (ln := 1) (a := 0) (b := 0) (z := 0) (by decide +kernel) rfl (ret_b (by decide +kernel) (Or.inr rfl)) ?_
      cases hx
      exact kr
noncomputable def xm_kindBy_j64 (s : Hp) (x1 : Int) (k0 : Int) : Option Int :=
  (xm_cellOf s x1 2).bind fun o1 => if w32 o1 = w32 1 then if w32 k0 = w32 1 then some 1 else some 2 else if w32 k0 = w32 0 then some 1 else some 2
set_option maxRecDepth 100000 in
theorem xm_kindBy_j64_ok {d : Nat} {P : Option Value → pm_H → Prop} {w : pm_H} {sh : Shp} {w0 : pm_H} {s : Hp} (hS : StM sh) {x1 : Int} {k0 : Int} (h : Rw sh w0 s w) {o : Int} (hx : xm_kindBy_j64 s x1 k0 = some o) (kr : P (some (.int (Int32.ofInt o))) w) : wp (d + 1) 206 64 [(0, .ref 146), (1, .int (Int32.ofInt x1))] [.int (Int32.ofInt k0)] w P := by
  unfold xm_kindBy_j64 at hx
  refine wp_g 3 (pc1 := 67) (lv1 := [(0, .ref 146), (1, .int (Int32.ofInt x1))]) (st1 := [.int (Int32.ofInt 2), .int (Int32.ofInt x1), .ref 146, .int (Int32.ofInt k0)]) (w1 := w) rfl ?_
  obtain ⟨o1, e2, hx⟩ := bd hx
  refine wp_cl [.ref 146, .int (Int32.ofInt x1), .int (Int32.ofInt 2)] [.int (Int32.ofInt k0)] (i := .invokevirtual 304) (ln := 3) (a := 194) (b := 0) (z := 0) (by decide +kernel) rfl rfl (by decide) rfl (show (3 : Nat) = pm_na 194 by decide +kernel) (Nat.le_of_ble_eq_true rfl) (show (3 : Nat) ≤ pm_n 194 by decide +kernel) (rcv_x 12 h (hS _ _ sm_146) (by decide +kernel)) (xm_cellOf_ok (d := d) hS h e2 ?_)
  show wp _ 206 70 [(0, .ref 146), (1, .int (Int32.ofInt x1))] [.int (Int32.ofInt o1), .int (Int32.ofInt k0)] w _
  refine wp_g 1 (pc1 := 71) (lv1 := [(0, .ref 146), (1, .int (Int32.ofInt x1))]) (st1 := [.int (Int32.ofInt 1), .int (Int32.ofInt o1), .int (Int32.ofInt k0)]) (w1 := w) rfl ?_
  refine wx_ne (oo := 7) (ln := 3) (a := 78) (b := 0) (zz := 0) (by decide +kernel) (fun h5 => ?_) (fun h5 => ?_)
  · have hx := ite_f h5 hx
    refine wp_g 1 (pc1 := 79) (lv1 := [(0, .ref 146), (1, .int (Int32.ofInt x1))]) (st1 := [.int (Int32.ofInt 0), .int (Int32.ofInt k0)]) (w1 := w) rfl ?_
    refine wx_ne (oo := 7) (ln := 3) (a := 86) (b := 0) (zz := 0) (by decide +kernel) (fun h6 => ?_) (fun h6 => ?_)
    · have hx := ite_f h6 hx
      refine wp_g 1 (pc1 := 87) (lv1 := [(0, .ref 146), (1, .int (Int32.ofInt x1))]) (st1 := [.int (Int32.ofInt 2)]) (w1 := w) rfl ?_
      refine wp_rt (i := .ireturn) (r := some (.int (Int32.ofInt 2))) (ln := 1) (a := 0) (b := 0) (z := 0) (by decide +kernel) rfl (ret_ok (by decide +kernel)) ?_
      cases hx
      exact kr
    · have hx := ite_t h6 hx
      refine wp_g 2 (pc1 := 87) (lv1 := [(0, .ref 146), (1, .int (Int32.ofInt x1))]) (st1 := [.int (Int32.ofInt 1)]) (w1 := w) rfl ?_
      refine wp_rt (i := .ireturn) (r := some (.int (Int32.ofInt 1))) (ln := 1) (a := 0) (b := 0) (z := 0) (by decide +kernel) rfl (ret_ok (by decide +kernel)) ?_
      cases hx
      exact kr
  · have hx := ite_t h5 hx
    refine wp_g 2 (pc1 := 79) (lv1 := [(0, .ref 146), (1, .int (Int32.ofInt x1))]) (st1 := [.int (Int32.ofInt 1), .int (Int32.ofInt k0)]) (w1 := w) rfl ?_
    refine wx_ne (oo := 7) (ln := 3) (a := 86) (b := 0) (zz := 0) (by decide +kernel) (fun h7 => ?_) (fun h7 => ?_)
    · have hx := ite_f h7 hx
      refine wp_g 1 (pc1 := 87) (lv1 := [(0, .ref 146), (1, .int (Int32.ofInt x1))]) (st1 := [.int (Int32.ofInt 2)]) (w1 := w) rfl ?_
      refine wp_rt (i := .ireturn) (r := some (.int (Int32.ofInt 2))) (ln := 1) (a := 0) (b := 0) (z := 0) (by decide +kernel) rfl (ret_ok (by decide +kernel)) ?_
      cases hx
      exact kr
    · have hx := ite_t h7 hx
      refine wp_g 2 (pc1 := 87) (lv1 := [(0, .ref 146), (1, .int (Int32.ofInt x1))]) (st1 := [.int (Int32.ofInt 1)]) (w1 := w) rfl ?_
      refine wp_rt (i := .ireturn) (r := some (.int (Int32.ofInt 1))) (ln := 1) (a := 0) (b := 0) (z := 0) (by decide +kernel) rfl (ret_ok (by decide +kernel)) ?_
      cases hx
      exact kr
noncomputable def xm_kindBy_j39 (s : Hp) (x1 : Int) (x2 : Int) (x3 : Int) (x5 : Int) : Option Int :=
  if w32 x5 = w32 x2 then if w32 x3 = 0 then xm_kindBy_j64 s x1 1 else xm_kindBy_j64 s x1 0 else if w32 x5 = w32 (x2 + 1) then if w32 x3 = 0 then xm_kindBy_j64 s x1 1 else xm_kindBy_j64 s x1 0 else some 0
set_option maxRecDepth 100000 in
theorem xm_kindBy_j39_ok {d : Nat} {P : Option Value → pm_H → Prop} {w : pm_H} {sh : Shp} {w0 : pm_H} {s : Hp} (hS : StM sh) {x1 : Int} {x2 : Int} {x3 : Int} {x5 : Int} (h : Rw sh w0 s w) {o : Int} (hx : xm_kindBy_j39 s x1 x2 x3 x5 = some o) (kr : P (some (.int (Int32.ofInt o))) w) : wp (d + 1) 206 39 [(0, .ref 146), (1, .int (Int32.ofInt x1)), (2, .int (Int32.ofInt x2)), (3, .int (Int32.ofInt x3)), (5, .int (Int32.ofInt x5))] [] w P := by
  unfold xm_kindBy_j39 at hx
  refine wp_g 2 (pc1 := 42) (lv1 := [(0, .ref 146), (1, .int (Int32.ofInt x1)), (2, .int (Int32.ofInt x2)), (3, .int (Int32.ofInt x3)), (5, .int (Int32.ofInt x5))]) (st1 := [.int (Int32.ofInt x2), .int (Int32.ofInt x5)]) (w1 := w) rfl ?_
  refine wx_eq (oo := 13) (ln := 3) (a := 55) (b := 0) (zz := 0) (by decide +kernel) (fun h1 => ?_) (fun h1 => ?_)
  · have hx := ite_t h1 hx
    refine wp_g 1 (pc1 := 56) (lv1 := [(0, .ref 146), (1, .int (Int32.ofInt x1)), (2, .int (Int32.ofInt x2)), (3, .int (Int32.ofInt x3)), (5, .int (Int32.ofInt x5))]) (st1 := [.int (Int32.ofInt x3)]) (w1 := w) rfl ?_
    refine wz_ne (oo := 7) (ln := 3) (a := 63) (b := 0) (zz := 0) (by decide +kernel) (fun h2 => ?_) (fun h2 => ?_)
    · have hx := ite_f h2 hx
      refine wp_g 1 (pc1 := 64) (lv1 := [(0, .ref 146), (1, .int (Int32.ofInt x1)), (2, .int (Int32.ofInt x2)), (3, .int (Int32.ofInt x3)), (5, .int (Int32.ofInt x5))]) (st1 := [.int (Int32.ofInt 0)]) (w1 := w) rfl ?_
      refine wp_lv (lv1 := [(0, .ref 146), (1, .int (Int32.ofInt x1))]) (lsub_p [0, 1] rfl rfl rfl) ?_
      exact xm_kindBy_j64_ok hS h hx kr
    · have hx := ite_t h2 hx
      refine wp_g 2 (pc1 := 64) (lv1 := [(0, .ref 146), (1, .int (Int32.ofInt x1)), (2, .int (Int32.ofInt x2)), (3, .int (Int32.ofInt x3)), (5, .int (Int32.ofInt x5))]) (st1 := [.int (Int32.ofInt 1)]) (w1 := w) rfl ?_
      refine wp_lv (lv1 := [(0, .ref 146), (1, .int (Int32.ofInt x1))]) (lsub_p [0, 1] rfl rfl rfl) ?_
      exact xm_kindBy_j64_ok hS h hx kr
  · have hx := ite_f h1 hx
    refine wp_g 4 (pc1 := 50) (lv1 := [(0, .ref 146), (1, .int (Int32.ofInt x1)), (2, .int (Int32.ofInt x2)), (3, .int (Int32.ofInt x3)), (5, .int (Int32.ofInt x5))]) (st1 := [.int (Int32.ofInt (x2 + 1)), .int (Int32.ofInt x5)]) (w1 := w) (by simp only [Int32.ofInt_add, Int32.ofInt_sub, Int32.ofInt_mul, Int32.ofInt_neg, p_and, p_or, p_xor, p_shl, p_shr, p_usr, p_w8, p_c16, p_lI, q_and, q_or, q_shl, q_shr, q_w32, Int64.ofInt_add, Int64.ofInt_sub, Int64.ofInt_mul, p_mx, p_mn, q_mx, q_mn]; rfl) ?_
    refine wx_eq (oo := 5) (ln := 3) (a := 55) (b := 0) (zz := 0) (by decide +kernel) (fun h3 => ?_) (fun h3 => ?_)
    · have hx := ite_t h3 hx
      refine wp_g 1 (pc1 := 56) (lv1 := [(0, .ref 146), (1, .int (Int32.ofInt x1)), (2, .int (Int32.ofInt x2)), (3, .int (Int32.ofInt x3)), (5, .int (Int32.ofInt x5))]) (st1 := [.int (Int32.ofInt x3)]) (w1 := w) rfl ?_
      refine wz_ne (oo := 7) (ln := 3) (a := 63) (b := 0) (zz := 0) (by decide +kernel) (fun h4 => ?_) (fun h4 => ?_)
      · have hx := ite_f h4 hx
        refine wp_g 1 (pc1 := 64) (lv1 := [(0, .ref 146), (1, .int (Int32.ofInt x1)), (2, .int (Int32.ofInt x2)), (3, .int (Int32.ofInt x3)), (5, .int (Int32.ofInt x5))]) (st1 := [.int (Int32.ofInt 0)]) (w1 := w) rfl ?_
        refine wp_lv (lv1 := [(0, .ref 146), (1, .int (Int32.ofInt x1))]) (lsub_p [0, 1] rfl rfl rfl) ?_
        exact xm_kindBy_j64_ok hS h hx kr
      · have hx := ite_t h4 hx
        refine wp_g 2 (pc1 := 64) (lv1 := [(0, .ref 146), (1, .int (Int32.ofInt x1)), (2, .int (Int32.ofInt x2)), (3, .int (Int32.ofInt x3)), (5, .int (Int32.ofInt x5))]) (st1 := [.int (Int32.ofInt 1)]) (w1 := w) rfl ?_
        refine wp_lv (lv1 := [(0, .ref 146), (1, .int (Int32.ofInt x1))]) (lsub_p [0, 1] rfl rfl rfl) ?_
        exact xm_kindBy_j64_ok hS h hx kr
    · have hx := ite_f h3 hx
      refine wp_g 1 (pc1 := 54) (lv1 := [(0, .ref 146), (1, .int (Int32.ofInt x1)), (2, .int (Int32.ofInt x2)), (3, .int (Int32.ofInt x3)), (5, .int (Int32.ofInt x5))]) (st1 := [.int (Int32.ofInt 0)]) (w1 := w) rfl ?_
      refine wp_rt (i := .ireturn) (r := some (.int (Int32.ofInt 0))) (ln := 1) (a := 0) (b := 0) (z := 0) (by decide +kernel) rfl (ret_ok (by decide +kernel)) ?_
      cases hx
      exact kr
/-- FoldDeedsModel.kindBy (III)I -/
noncomputable def xm_kindBy (s : Hp) (p1 : Int) (p2 : Int) (p3 : Int) : Option Int :=
  (xm_cellOf s p1 0).bind fun o1 => (xm_cellOf s (p1 + 1) 0).bind fun o5 => if w32 o1 = w32 o5 then some 0 else if w32 o1 = w32 p2 then xm_kindBy_j39 s p1 p2 p3 o5 else if w32 o1 = w32 (p2 + 1) then xm_kindBy_j39 s p1 p2 p3 o5 else some 0
set_option maxRecDepth 100000 in
theorem xm_kindBy_ok {d : Nat} {P : Option Value → pm_H → Prop} {w : pm_H} {sh : Shp} {w0 : pm_H} {s : Hp} (hS : StM sh) {p1 : Int} {p2 : Int} {p3 : Int} (h : Rw sh w0 s w) {o : Int} (hx : xm_kindBy s p1 p2 p3 = some o) (kr : P (some (.int (Int32.ofInt o))) w) : wp (d + 1) 206 0 (lv_args 0 [.ref 146, .int (Int32.ofInt p1), .int (Int32.ofInt p2), .int (Int32.ofInt p3)]) [] w P := by
  show wp _ 206 0 [(0, .ref 146), (1, .int (Int32.ofInt p1)), (2, .int (Int32.ofInt p2)), (3, .int (Int32.ofInt p3))] [] w _
  unfold xm_kindBy at hx
  refine wp_g 3 (pc1 := 3) (lv1 := [(0, .ref 146), (1, .int (Int32.ofInt p1)), (2, .int (Int32.ofInt p2)), (3, .int (Int32.ofInt p3))]) (st1 := [.int (Int32.ofInt 0), .int (Int32.ofInt p1), .ref 146]) (w1 := w) rfl ?_
  obtain ⟨o1, e2, hx⟩ := bd hx
  refine wp_cl [.ref 146, .int (Int32.ofInt p1), .int (Int32.ofInt 0)] [] (i := .invokevirtual 304) (ln := 3) (a := 194) (b := 0) (z := 0) (by decide +kernel) rfl rfl (by decide) rfl (show (3 : Nat) = pm_na 194 by decide +kernel) (Nat.le_of_ble_eq_true rfl) (show (3 : Nat) ≤ pm_n 194 by decide +kernel) (rcv_x 12 h (hS _ _ sm_146) (by decide +kernel)) (xm_cellOf_ok (d := d) hS h e2 ?_)
  show wp _ 206 6 [(0, .ref 146), (1, .int (Int32.ofInt p1)), (2, .int (Int32.ofInt p2)), (3, .int (Int32.ofInt p3))] [.int (Int32.ofInt o1)] w _
  refine wp_g 6 (pc1 := 13) (lv1 := [(4, .int (Int32.ofInt o1)), (0, .ref 146), (1, .int (Int32.ofInt p1)), (2, .int (Int32.ofInt p2)), (3, .int (Int32.ofInt p3))]) (st1 := [.int (Int32.ofInt 0), .int (Int32.ofInt (p1 + 1)), .ref 146]) (w1 := w) (by simp only [Int32.ofInt_add, Int32.ofInt_sub, Int32.ofInt_mul, Int32.ofInt_neg, p_and, p_or, p_xor, p_shl, p_shr, p_usr, p_w8, p_c16, p_lI, q_and, q_or, q_shl, q_shr, q_w32, Int64.ofInt_add, Int64.ofInt_sub, Int64.ofInt_mul, p_mx, p_mn, q_mx, q_mn]; rfl) ?_
  obtain ⟨o5, e6, hx⟩ := bd hx
  refine wp_cl [.ref 146, .int (Int32.ofInt (p1 + 1)), .int (Int32.ofInt 0)] [] (i := .invokevirtual 304) (ln := 3) (a := 194) (b := 0) (z := 0) (by decide +kernel) rfl rfl (by decide) rfl (show (3 : Nat) = pm_na 194 by decide +kernel) (Nat.le_of_ble_eq_true rfl) (show (3 : Nat) ≤ pm_n 194 by decide +kernel) (rcv_x 12 h (hS _ _ sm_146) (by decide +kernel)) (xm_cellOf_ok (d := d) hS h e6 ?_)
  show wp _ 206 16 [(4, .int (Int32.ofInt o1)), (0, .ref 146), (1, .int (Int32.ofInt p1)), (2, .int (Int32.ofInt p2)), (3, .int (Int32.ofInt p3))] [.int (Int32.ofInt o5)] w _
  refine wp_g 3 (pc1 := 22) (lv1 := [(5, .int (Int32.ofInt o5)), (4, .int (Int32.ofInt o1)), (0, .ref 146), (1, .int (Int32.ofInt p1)), (2, .int (Int32.ofInt p2)), (3, .int (Int32.ofInt p3))]) (st1 := [.int (Int32.ofInt o5), .int (Int32.ofInt o1)]) (w1 := w) rfl ?_
  refine wx_eq (oo := 31) (ln := 3) (a := 53) (b := 0) (zz := 0) (by decide +kernel) (fun h9 => ?_) (fun h9 => ?_)
  · have hx := ite_t h9 hx
    refine wp_g 1 (pc1 := 54) (lv1 := [(5, .int (Int32.ofInt o5)), (4, .int (Int32.ofInt o1)), (0, .ref 146), (1, .int (Int32.ofInt p1)), (2, .int (Int32.ofInt p2)), (3, .int (Int32.ofInt p3))]) (st1 := [.int (Int32.ofInt 0)]) (w1 := w) rfl ?_
    refine wp_rt (i := .ireturn) (r := some (.int (Int32.ofInt 0))) (ln := 1) (a := 0) (b := 0) (z := 0) (by decide +kernel) rfl (ret_ok (by decide +kernel)) ?_
    cases hx
    exact kr
  · have hx := ite_f h9 hx
    refine wp_g 2 (pc1 := 28) (lv1 := [(5, .int (Int32.ofInt o5)), (4, .int (Int32.ofInt o1)), (0, .ref 146), (1, .int (Int32.ofInt p1)), (2, .int (Int32.ofInt p2)), (3, .int (Int32.ofInt p3))]) (st1 := [.int (Int32.ofInt p2), .int (Int32.ofInt o1)]) (w1 := w) rfl ?_
    refine wx_eq (oo := 11) (ln := 3) (a := 39) (b := 0) (zz := 0) (by decide +kernel) (fun h10 => ?_) (fun h10 => ?_)
    · have hx := ite_t h10 hx
      refine wp_lv (lv1 := [(0, .ref 146), (1, .int (Int32.ofInt p1)), (2, .int (Int32.ofInt p2)), (3, .int (Int32.ofInt p3)), (5, .int (Int32.ofInt o5))]) (lsub_p [2, 3, 4, 5, 0] rfl rfl rfl) ?_
      exact xm_kindBy_j39_ok hS h hx kr
    · have hx := ite_f h10 hx
      refine wp_g 4 (pc1 := 36) (lv1 := [(5, .int (Int32.ofInt o5)), (4, .int (Int32.ofInt o1)), (0, .ref 146), (1, .int (Int32.ofInt p1)), (2, .int (Int32.ofInt p2)), (3, .int (Int32.ofInt p3))]) (st1 := [.int (Int32.ofInt (p2 + 1)), .int (Int32.ofInt o1)]) (w1 := w) (by simp only [Int32.ofInt_add, Int32.ofInt_sub, Int32.ofInt_mul, Int32.ofInt_neg, p_and, p_or, p_xor, p_shl, p_shr, p_usr, p_w8, p_c16, p_lI, q_and, q_or, q_shl, q_shr, q_w32, Int64.ofInt_add, Int64.ofInt_sub, Int64.ofInt_mul, p_mx, p_mn, q_mx, q_mn]; rfl) ?_
      refine wx_ne (oo := 17) (ln := 3) (a := 53) (b := 0) (zz := 0) (by decide +kernel) (fun h11 => ?_) (fun h11 => ?_)
      · have hx := ite_f h11 hx
        refine wp_g 1 (pc1 := 54) (lv1 := [(5, .int (Int32.ofInt o5)), (4, .int (Int32.ofInt o1)), (0, .ref 146), (1, .int (Int32.ofInt p1)), (2, .int (Int32.ofInt p2)), (3, .int (Int32.ofInt p3))]) (st1 := [.int (Int32.ofInt 0)]) (w1 := w) rfl ?_
        refine wp_rt (i := .ireturn) (r := some (.int (Int32.ofInt 0))) (ln := 1) (a := 0) (b := 0) (z := 0) (by decide +kernel) rfl (ret_ok (by decide +kernel)) ?_
        cases hx
        exact kr
      · have hx := ite_t h11 hx
        refine wp_lv (lv1 := [(0, .ref 146), (1, .int (Int32.ofInt p1)), (2, .int (Int32.ofInt p2)), (3, .int (Int32.ofInt p3)), (5, .int (Int32.ofInt o5))]) (lsub_p [2, 3, 4, 5, 0] rfl rfl rfl) ?_
        exact xm_kindBy_j39_ok hS h hx kr
noncomputable def xm_canCrease_b2 (s : Hp) (x1 : Int) (x2 : Int) (x3 : Int) : Option (Int ⊕ (Int ⊕ Int)) :=
  (ix 130 0).bind fun i1 => if w32 x3 < w32 ((s 156 i1) - 1) then (xm_kindBy s x3 x1 x2).bind fun o4 => if w32 o4 = 0 then some (.inl (x3 + 1)) else (ix 130 (44 + x3)).bind fun i9 => if w32 (s 156 i9) = 0 then some (.inl (x3 + 1)) else if w32 (s 156 i9) = w32 o4 then some (.inl (x3 + 1)) else some (.inr (.inr 0)) else some (.inr (.inl x3))
set_option maxRecDepth 100000 in
theorem xm_canCrease_b2_ok {d : Nat} {P : Option Value → pm_H → Prop} {w : pm_H} {sh : Shp} {w0 : pm_H} {s : Hp} (hS : StM sh) {x1 : Int} {x2 : Int} {x3 : Int} (h : Rw sh w0 s w) {o : (Int ⊕ (Int ⊕ Int))} (hx : xm_canCrease_b2 s x1 x2 x3 = some o) (kn : ∀ (q : Int) w1, o = .inl q → w = w1 → wp (d + 2) 207 2 [(0, .ref 146), (1, .int (Int32.ofInt x1)), (2, .int (Int32.ofInt x2)), (3, .int (Int32.ofInt q))] [] w1 P) (kc : ∀ (r : (Int ⊕ Int)), o = .inr r → ((∀ q1 w1, r = .inl q1 → w = w1 → wp (d + 2) 207 62 [(0, .ref 146), (1, .int (Int32.ofInt x1)), (2, .int (Int32.ofInt x2)), (3, .int (Int32.ofInt q1))] [] w1 P) ∧ (∀ v1 w1, r = .inr v1 → w = w1 → P (some (.int (Int32.ofInt v1))) w1))) : wp (d + 2) 207 2 [(0, .ref 146), (1, .int (Int32.ofInt x1)), (2, .int (Int32.ofInt x2)), (3, .int (Int32.ofInt x3))] [] w P := by
  unfold xm_canCrease_b2 at hx
  refine wp_g 2 (pc1 := 4) (lv1 := [(0, .ref 146), (1, .int (Int32.ofInt x1)), (2, .int (Int32.ofInt x2)), (3, .int (Int32.ofInt x3))]) (st1 := [.ref 146, .int (Int32.ofInt x3)]) (w1 := w) rfl ?_
  refine wx_gr (o := 10) (kf := 39) (ln := 3) (ci := 12) (b := 20) (zz := 0) (x := 146) (by decide +kernel) h (hS _ _ sm_146) rfl ?_
  show wp _ 207 7 [(0, .ref 146), (1, .int (Int32.ofInt x1)), (2, .int (Int32.ofInt x2)), (3, .int (Int32.ofInt x3))] [.ref 156, .int (Int32.ofInt x3)] w _
  refine wp_g 1 (pc1 := 8) (lv1 := [(0, .ref 146), (1, .int (Int32.ofInt x1)), (2, .int (Int32.ofInt x2)), (3, .int (Int32.ofInt x3))]) (st1 := [.int (Int32.ofInt 0), .ref 156, .int (Int32.ofInt x3)]) (w1 := w) rfl ?_
  obtain ⟨i1, e2, hx⟩ := bd hx
  refine wx_ra (x := 156) (n := 130) (ln := 1) (a := 0) (b := 0) (zz := 0) (by decide +kernel) h (hS _ _ sm_156) e2 ?_
  show wp _ 207 9 [(0, .ref 146), (1, .int (Int32.ofInt x1)), (2, .int (Int32.ofInt x2)), (3, .int (Int32.ofInt x3))] [.int (Int32.ofInt (s 156 i1)), .int (Int32.ofInt x3)] w _
  refine wp_g 2 (pc1 := 11) (lv1 := [(0, .ref 146), (1, .int (Int32.ofInt x1)), (2, .int (Int32.ofInt x2)), (3, .int (Int32.ofInt x3))]) (st1 := [.int (Int32.ofInt ((s 156 i1) - 1)), .int (Int32.ofInt x3)]) (w1 := w) (by simp only [Int32.ofInt_add, Int32.ofInt_sub, Int32.ofInt_mul, Int32.ofInt_neg, p_and, p_or, p_xor, p_shl, p_shr, p_usr, p_w8, p_c16, p_lI, q_and, q_or, q_shl, q_shr, q_w32, Int64.ofInt_add, Int64.ofInt_sub, Int64.ofInt_mul, p_mx, p_mn, q_mx, q_mn]; rfl) ?_
  refine wx_ge (oo := 51) (ln := 3) (a := 62) (b := 0) (zz := 0) (by decide +kernel) (fun h3 => ?_) (fun h3 => ?_)
  · have hx := ite_f h3 hx
    cases hx
    exact (kc _ rfl).1 _ _ rfl rfl
  · have hx := ite_t h3 hx
    refine wp_g 4 (pc1 := 18) (lv1 := [(0, .ref 146), (1, .int (Int32.ofInt x1)), (2, .int (Int32.ofInt x2)), (3, .int (Int32.ofInt x3))]) (st1 := [.int (Int32.ofInt x2), .int (Int32.ofInt x1), .int (Int32.ofInt x3), .ref 146]) (w1 := w) rfl ?_
    obtain ⟨o4, e5, hx⟩ := bd hx
    refine wp_cl [.ref 146, .int (Int32.ofInt x3), .int (Int32.ofInt x1), .int (Int32.ofInt x2)] [] (i := .invokevirtual 331) (ln := 3) (a := 206) (b := 0) (z := 0) (by decide +kernel) rfl rfl (by decide) rfl (show (4 : Nat) = pm_na 206 by decide +kernel) (Nat.le_of_ble_eq_true rfl) (show (4 : Nat) ≤ pm_n 206 by decide +kernel) (rcv_x 12 h (hS _ _ sm_146) (by decide +kernel)) (xm_kindBy_ok (d := d) hS h e5 ?_)
    show wp _ 207 21 [(0, .ref 146), (1, .int (Int32.ofInt x1)), (2, .int (Int32.ofInt x2)), (3, .int (Int32.ofInt x3))] [.int (Int32.ofInt o4)] w _
    refine wp_g 2 (pc1 := 25) (lv1 := [(4, .int (Int32.ofInt o4)), (0, .ref 146), (1, .int (Int32.ofInt x1)), (2, .int (Int32.ofInt x2)), (3, .int (Int32.ofInt x3))]) (st1 := [.int (Int32.ofInt o4)]) (w1 := w) rfl ?_
    refine wz_eq (oo := 31) (ln := 3) (a := 56) (b := 0) (zz := 0) (by decide +kernel) (fun h8 => ?_) (fun h8 => ?_)
    · have hx := ite_t h8 hx
      refine wp_g 2 (pc1 := 2) (lv1 := [(3, .int (Int32.ofInt (x3 + 1))), (4, .int (Int32.ofInt o4)), (0, .ref 146), (1, .int (Int32.ofInt x1)), (2, .int (Int32.ofInt x2))]) (st1 := []) (w1 := w) (by simp only [Int32.ofInt_add, Int32.ofInt_sub, Int32.ofInt_mul, Int32.ofInt_neg, p_and, p_or, p_xor, p_shl, p_shr, p_usr, p_w8, p_c16, p_lI, q_and, q_or, q_shl, q_shr, q_w32, Int64.ofInt_add, Int64.ofInt_sub, Int64.ofInt_mul, p_mx, p_mn, q_mx, q_mn]; rfl) ?_
      refine wp_lv (lv1 := [(0, .ref 146), (1, .int (Int32.ofInt x1)), (2, .int (Int32.ofInt x2)), (3, .int (Int32.ofInt (x3 + 1)))]) (lsub_p [2, 3, 4, 0] rfl rfl rfl) ?_
      cases hx
      exact kn _ _ rfl rfl
    · have hx := ite_f h8 hx
      refine wp_g 1 (pc1 := 29) (lv1 := [(4, .int (Int32.ofInt o4)), (0, .ref 146), (1, .int (Int32.ofInt x1)), (2, .int (Int32.ofInt x2)), (3, .int (Int32.ofInt x3))]) (st1 := [.ref 146]) (w1 := w) rfl ?_
      refine wx_gr (o := 10) (kf := 39) (ln := 3) (ci := 12) (b := 20) (zz := 0) (x := 146) (by decide +kernel) h (hS _ _ sm_146) rfl ?_
      show wp _ 207 32 [(4, .int (Int32.ofInt o4)), (0, .ref 146), (1, .int (Int32.ofInt x1)), (2, .int (Int32.ofInt x2)), (3, .int (Int32.ofInt x3))] [.ref 156] w _
      refine wp_g 3 (pc1 := 36) (lv1 := [(4, .int (Int32.ofInt o4)), (0, .ref 146), (1, .int (Int32.ofInt x1)), (2, .int (Int32.ofInt x2)), (3, .int (Int32.ofInt x3))]) (st1 := [.int (Int32.ofInt (44 + x3)), .ref 156]) (w1 := w) (by simp only [Int32.ofInt_add, Int32.ofInt_sub, Int32.ofInt_mul, Int32.ofInt_neg, p_and, p_or, p_xor, p_shl, p_shr, p_usr, p_w8, p_c16, p_lI, q_and, q_or, q_shl, q_shr, q_w32, Int64.ofInt_add, Int64.ofInt_sub, Int64.ofInt_mul, p_mx, p_mn, q_mx, q_mn]; rfl) ?_
      obtain ⟨i9, e10, hx⟩ := bd hx
      refine wx_ra (x := 156) (n := 130) (ln := 1) (a := 0) (b := 0) (zz := 0) (by decide +kernel) h (hS _ _ sm_156) e10 ?_
      show wp _ 207 37 [(4, .int (Int32.ofInt o4)), (0, .ref 146), (1, .int (Int32.ofInt x1)), (2, .int (Int32.ofInt x2)), (3, .int (Int32.ofInt x3))] [.int (Int32.ofInt (s 156 i9))] w _
      refine wz_eq (oo := 19) (ln := 3) (a := 56) (b := 0) (zz := 0) (by decide +kernel) (fun h11 => ?_) (fun h11 => ?_)
      · have hx := ite_t h11 hx
        refine wp_g 2 (pc1 := 2) (lv1 := [(3, .int (Int32.ofInt (x3 + 1))), (4, .int (Int32.ofInt o4)), (0, .ref 146), (1, .int (Int32.ofInt x1)), (2, .int (Int32.ofInt x2))]) (st1 := []) (w1 := w) (by simp only [Int32.ofInt_add, Int32.ofInt_sub, Int32.ofInt_mul, Int32.ofInt_neg, p_and, p_or, p_xor, p_shl, p_shr, p_usr, p_w8, p_c16, p_lI, q_and, q_or, q_shl, q_shr, q_w32, Int64.ofInt_add, Int64.ofInt_sub, Int64.ofInt_mul, p_mx, p_mn, q_mx, q_mn]; rfl) ?_
        refine wp_lv (lv1 := [(0, .ref 146), (1, .int (Int32.ofInt x1)), (2, .int (Int32.ofInt x2)), (3, .int (Int32.ofInt (x3 + 1)))]) (lsub_p [2, 3, 4, 0] rfl rfl rfl) ?_
        cases hx
        exact kn _ _ rfl rfl
      · have hx := ite_f h11 hx
        refine wp_g 1 (pc1 := 41) (lv1 := [(4, .int (Int32.ofInt o4)), (0, .ref 146), (1, .int (Int32.ofInt x1)), (2, .int (Int32.ofInt x2)), (3, .int (Int32.ofInt x3))]) (st1 := [.ref 146]) (w1 := w) rfl ?_
        refine wx_gr (o := 10) (kf := 39) (ln := 3) (ci := 12) (b := 20) (zz := 0) (x := 146) (by decide +kernel) h (hS _ _ sm_146) rfl ?_
        show wp _ 207 44 [(4, .int (Int32.ofInt o4)), (0, .ref 146), (1, .int (Int32.ofInt x1)), (2, .int (Int32.ofInt x2)), (3, .int (Int32.ofInt x3))] [.ref 156] w _
        refine wp_g 3 (pc1 := 48) (lv1 := [(4, .int (Int32.ofInt o4)), (0, .ref 146), (1, .int (Int32.ofInt x1)), (2, .int (Int32.ofInt x2)), (3, .int (Int32.ofInt x3))]) (st1 := [.int (Int32.ofInt (44 + x3)), .ref 156]) (w1 := w) (by simp only [Int32.ofInt_add, Int32.ofInt_sub, Int32.ofInt_mul, Int32.ofInt_neg, p_and, p_or, p_xor, p_shl, p_shr, p_usr, p_w8, p_c16, p_lI, q_and, q_or, q_shl, q_shr, q_w32, Int64.ofInt_add, Int64.ofInt_sub, Int64.ofInt_mul, p_mx, p_mn, q_mx, q_mn]; rfl) ?_
        refine wx_ra (x := 156) (n := 130) (ln := 1) (a := 0) (b := 0) (zz := 0) (by decide +kernel) h (hS _ _ sm_156) e10 ?_
        show wp _ 207 49 [(4, .int (Int32.ofInt o4)), (0, .ref 146), (1, .int (Int32.ofInt x1)), (2, .int (Int32.ofInt x2)), (3, .int (Int32.ofInt x3))] [.int (Int32.ofInt (s 156 i9))] w _
        refine wp_g 1 (pc1 := 51) (lv1 := [(4, .int (Int32.ofInt o4)), (0, .ref 146), (1, .int (Int32.ofInt x1)), (2, .int (Int32.ofInt x2)), (3, .int (Int32.ofInt x3))]) (st1 := [.int (Int32.ofInt o4), .int (Int32.ofInt (s 156 i9))]) (w1 := w) rfl ?_
        refine wx_eq (oo := 5) (ln := 3) (a := 56) (b := 0) (zz := 0) (by decide +kernel) (fun h12 => ?_) (fun h12 => ?_)
        · have hx := ite_t h12 hx
          refine wp_g 2 (pc1 := 2) (lv1 := [(3, .int (Int32.ofInt (x3 + 1))), (4, .int (Int32.ofInt o4)), (0, .ref 146), (1, .int (Int32.ofInt x1)), (2, .int (Int32.ofInt x2))]) (st1 := []) (w1 := w) (by simp only [Int32.ofInt_add, Int32.ofInt_sub, Int32.ofInt_mul, Int32.ofInt_neg, p_and, p_or, p_xor, p_shl, p_shr, p_usr, p_w8, p_c16, p_lI, q_and, q_or, q_shl, q_shr, q_w32, Int64.ofInt_add, Int64.ofInt_sub, Int64.ofInt_mul, p_mx, p_mn, q_mx, q_mn]; rfl) ?_
          refine wp_lv (lv1 := [(0, .ref 146), (1, .int (Int32.ofInt x1)), (2, .int (Int32.ofInt x2)), (3, .int (Int32.ofInt (x3 + 1)))]) (lsub_p [2, 3, 4, 0] rfl rfl rfl) ?_
          cases hx
          exact kn _ _ rfl rfl
        · have hx := ite_f h12 hx
          refine wp_g 1 (pc1 := 55) (lv1 := [(4, .int (Int32.ofInt o4)), (0, .ref 146), (1, .int (Int32.ofInt x1)), (2, .int (Int32.ofInt x2)), (3, .int (Int32.ofInt x3))]) (st1 := [.int (Int32.ofInt 0)]) (w1 := w) rfl ?_
          refine wp_rt (i := .ireturn) (r := some (.int (Int32.ofInt 0))) (ln := 1) (a := 0) (b := 0) (z := 0) (by decide +kernel) rfl (ret_b (by decide +kernel) (Or.inl rfl)) ?_
          cases hx
          exact (kc _ rfl).2 _ _ rfl rfl
/-- FoldDeedsModel.canCrease (II)Z -/
noncomputable def xm_canCrease (s : Hp) (p1 : Int) (p2 : Int) : Option Int :=
  (lp (fun (q : Int) => xm_canCrease_b2 s p1 p2 q) 0).bind fun q1 => q1.elim (fun q5 => some 1) (fun r => some r)
set_option maxRecDepth 100000 in
theorem xm_canCrease_ok {d : Nat} {P : Option Value → pm_H → Prop} {w : pm_H} {sh : Shp} {w0 : pm_H} {s : Hp} (hS : StM sh) {p1 : Int} {p2 : Int} (h : Rw sh w0 s w) {o : Int} (hx : xm_canCrease s p1 p2 = some o) (kr : P (some (.int (Int32.ofInt o))) w) : wp (d + 2) 207 0 (lv_args 0 [.ref 146, .int (Int32.ofInt p1), .int (Int32.ofInt p2)]) [] w P := by
  show wp _ 207 0 [(0, .ref 146), (1, .int (Int32.ofInt p1)), (2, .int (Int32.ofInt p2))] [] w _
  unfold xm_canCrease at hx
  refine wp_g 2 (pc1 := 2) (lv1 := [(3, .int (Int32.ofInt 0)), (0, .ref 146), (1, .int (Int32.ofInt p1)), (2, .int (Int32.ofInt p2))]) (st1 := []) (w1 := w) rfl ?_
  refine wp_lv (lv1 := [(0, .ref 146), (1, .int (Int32.ofInt p1)), (2, .int (Int32.ofInt p2)), (3, .int (Int32.ofInt 0))]) (lsub_p [1, 2, 3, 0] rfl rfl rfl) ?_
  obtain ⟨q1, e2, hx⟩ := bd hx
  refine wp_lp (σ := Int) (ρ := (Int ⊕ Int)) (B := fun q => xm_canCrease_b2 s p1 p2 q) (R := fun q w' => w = w') (C := fun r => (∀ q1 w1, r = .inl q1 → w = w1 → wp (d + 2) 207 62 [(0, .ref 146), (1, .int (Int32.ofInt p1)), (2, .int (Int32.ofInt p2)), (3, .int (Int32.ofInt q1))] [] w1 P) ∧ (∀ v1 w1, r = .inr v1 → w = w1 → P (some (.int (Int32.ofInt v1))) w1)) (lv := fun q => [(0, .ref 146), (1, .int (Int32.ofInt p1)), (2, .int (Int32.ofInt p2)), (3, .int (Int32.ofInt q))]) (hd := 2) (fun q w' o hR hb kn kc => by subst hR; exact xm_canCrease_b2_ok hS h hb kn kc) _ _ _ e2 rfl ?_
  refine ⟨?_, fun v6 w1 hs h1 => by subst hs; cases (se_r hx); subst h1; exact kr⟩
  intro q5 w3 hs h4
  subst hs
  replace hx := se_l hx
  subst h4
  show wp _ 207 62 [(0, .ref 146), (1, .int (Int32.ofInt p1)), (2, .int (Int32.ofInt p2)), (3, .int (Int32.ofInt q5))] [] w _
  refine wp_g 1 (pc1 := 63) (lv1 := [(0, .ref 146), (1, .int (Int32.ofInt p1)), (2, .int (Int32.ofInt p2)), (3, .int (Int32.ofInt q5))]) (st1 := [.int (Int32.ofInt 1)]) (w1 := w) rfl ?_
  refine wp_rt (i := .ireturn) (r := some (.int (Int32.ofInt 1))) (ln := 1) (a := 0) (b := 0) (z := 0) (by decide +kernel) rfl (ret_b (by decide +kernel) (Or.inr rfl)) ?_
  cases hx
  exact kr
noncomputable def xm_turnsOver_b12 (s : Hp) (x1 : Int) (x2 : Int) (x3 : Int) (x4 : Int) (x5 : Int) : Option ((Int × Hp) ⊕ (Int × Hp)) :=
  if w32 x5 < w32 x4 then (xm_thickAt s x5).bind fun o2 => (ix 8 x5).bind fun i6 => (some (uh s 157 i6 o2)).bind fun s8 => some (.inl (x5 + 1, s8)) else some (.inr (x5, s))
set_option maxRecDepth 100000 in
theorem xm_turnsOver_b12_ok {d : Nat} {P : Option Value → pm_H → Prop} {w : pm_H} {sh : Shp} {w0 : pm_H} {s : Hp} (hS : StM sh) {x1 : Int} {x2 : Int} {x3 : Int} {x4 : Int} {x5 : Int} (h : Rw sh w0 s w) {o : ((Int × Hp) ⊕ (Int × Hp))} (hx : xm_turnsOver_b12 s x1 x2 x3 x4 x5 = some o) (kn : ∀ (q : Int × Hp) w1, o = .inl q → Rw sh w0 q.2 w1 → wp (d + 2) 208 12 [(0, .ref 146), (1, .int (Int32.ofInt x1)), (2, .int (Int32.ofInt x2)), (3, .int (Int32.ofInt x3)), (4, .int (Int32.ofInt x4)), (5, .int (Int32.ofInt q.1))] [] w1 P) (kc : ∀ (r : (Int × Hp)), o = .inr r → (∀ w1, Rw sh w0 r.2 w1 → wp (d + 2) 208 38 [(0, .ref 146), (1, .int (Int32.ofInt x1)), (2, .int (Int32.ofInt x2)), (3, .int (Int32.ofInt x3)), (4, .int (Int32.ofInt x4)), (5, .int (Int32.ofInt r.1))] [] w1 P)) : wp (d + 2) 208 12 [(0, .ref 146), (1, .int (Int32.ofInt x1)), (2, .int (Int32.ofInt x2)), (3, .int (Int32.ofInt x3)), (4, .int (Int32.ofInt x4)), (5, .int (Int32.ofInt x5))] [] w P := by
  unfold xm_turnsOver_b12 at hx
  refine wp_g 2 (pc1 := 16) (lv1 := [(0, .ref 146), (1, .int (Int32.ofInt x1)), (2, .int (Int32.ofInt x2)), (3, .int (Int32.ofInt x3)), (4, .int (Int32.ofInt x4)), (5, .int (Int32.ofInt x5))]) (st1 := [.int (Int32.ofInt x4), .int (Int32.ofInt x5)]) (w1 := w) rfl ?_
  refine wx_ge (oo := 22) (ln := 3) (a := 38) (b := 0) (zz := 0) (by decide +kernel) (fun h1 => ?_) (fun h1 => ?_)
  · have hx := ite_f h1 hx
    cases hx
    exact kc _ rfl _ h
  · have hx := ite_t h1 hx
    refine wp_g 1 (pc1 := 20) (lv1 := [(0, .ref 146), (1, .int (Int32.ofInt x1)), (2, .int (Int32.ofInt x2)), (3, .int (Int32.ofInt x3)), (4, .int (Int32.ofInt x4)), (5, .int (Int32.ofInt x5))]) (st1 := [.ref 146]) (w1 := w) rfl ?_
    refine wx_gr (o := 11) (kf := 46) (ln := 3) (ci := 12) (b := 23) (zz := 0) (x := 146) (by decide +kernel) h (hS _ _ sm_146) rfl ?_
    show wp _ 208 23 [(0, .ref 146), (1, .int (Int32.ofInt x1)), (2, .int (Int32.ofInt x2)), (3, .int (Int32.ofInt x3)), (4, .int (Int32.ofInt x4)), (5, .int (Int32.ofInt x5))] [.ref 157] w _
    refine wp_g 3 (pc1 := 28) (lv1 := [(0, .ref 146), (1, .int (Int32.ofInt x1)), (2, .int (Int32.ofInt x2)), (3, .int (Int32.ofInt x3)), (4, .int (Int32.ofInt x4)), (5, .int (Int32.ofInt x5))]) (st1 := [.int (Int32.ofInt x5), .ref 146, .int (Int32.ofInt x5), .ref 157]) (w1 := w) rfl ?_
    obtain ⟨o2, e3, hx⟩ := bd hx
    refine wp_cl [.ref 146, .int (Int32.ofInt x5)] [.int (Int32.ofInt x5), .ref 157] (i := .invokevirtual 328) (ln := 3) (a := 195) (b := 0) (z := 0) (by decide +kernel) rfl rfl (by decide) rfl (show (2 : Nat) = pm_na 195 by decide +kernel) (Nat.le_of_ble_eq_true rfl) (show (2 : Nat) ≤ pm_n 195 by decide +kernel) (rcv_x 12 h (hS _ _ sm_146) (by decide +kernel)) (xm_thickAt_ok (d := d) hS h e3 ?_)
    show wp _ 208 31 [(0, .ref 146), (1, .int (Int32.ofInt x1)), (2, .int (Int32.ofInt x2)), (3, .int (Int32.ofInt x3)), (4, .int (Int32.ofInt x4)), (5, .int (Int32.ofInt x5))] [.int (Int32.ofInt o2), .int (Int32.ofInt x5), .ref 157] w _
    obtain ⟨i6, e7, hx⟩ := bd hx
    obtain ⟨s8, e9, hx⟩ := bd hx
    refine wx_wa (x := 157) (n := 8) (ln := 1) (a := 0) (b := 0) (zz := 0) (by decide +kernel) h (hS _ _ sm_157) e7 e9 (fun w10 h11 => ?_)
    refine wp_g 2 (pc1 := 12) (lv1 := [(5, .int (Int32.ofInt (x5 + 1))), (0, .ref 146), (1, .int (Int32.ofInt x1)), (2, .int (Int32.ofInt x2)), (3, .int (Int32.ofInt x3)), (4, .int (Int32.ofInt x4))]) (st1 := []) (w1 := w10) (by simp only [Int32.ofInt_add, Int32.ofInt_sub, Int32.ofInt_mul, Int32.ofInt_neg, p_and, p_or, p_xor, p_shl, p_shr, p_usr, p_w8, p_c16, p_lI, q_and, q_or, q_shl, q_shr, q_w32, Int64.ofInt_add, Int64.ofInt_sub, Int64.ofInt_mul, p_mx, p_mn, q_mx, q_mn]; rfl) ?_
    refine wp_lv (lv1 := [(0, .ref 146), (1, .int (Int32.ofInt x1)), (2, .int (Int32.ofInt x2)), (3, .int (Int32.ofInt x3)), (4, .int (Int32.ofInt x4)), (5, .int (Int32.ofInt (x5 + 1)))]) (lsub_p [1, 2, 3, 4, 5, 0] rfl rfl rfl) ?_
    cases hx
    exact kn _ _ rfl h11
noncomputable def xm_turnsOver_b41 (s : Hp) (x1 : Int) (x2 : Int) (x3 : Int) (x4 : Int) (x5 : Int) : Option ((Int × Hp) ⊕ (Int × Hp)) :=
  (ix 130 0).bind fun i1 => if w32 x5 < w32 ((s 156 i1) - 1) then (xm_kindBy s x5 x1 x3).bind fun o4 => if w32 o4 = 0 then some (.inl (x5 + 1, s)) else (ix 130 (44 + x5)).bind fun i9 => (some (uh s 156 i9 o4)).bind fun s11 => some (.inl (x5 + 1, s11)) else some (.inr (x5, s))
set_option maxRecDepth 100000 in
theorem xm_turnsOver_b41_ok {d : Nat} {P : Option Value → pm_H → Prop} {w : pm_H} {sh : Shp} {w0 : pm_H} {s : Hp} (hS : StM sh) {x1 : Int} {x2 : Int} {x3 : Int} {x4 : Int} {x5 : Int} (h : Rw sh w0 s w) {o : ((Int × Hp) ⊕ (Int × Hp))} (hx : xm_turnsOver_b41 s x1 x2 x3 x4 x5 = some o) (kn : ∀ (q : Int × Hp) w1, o = .inl q → Rw sh w0 q.2 w1 → wp (d + 2) 208 41 [(0, .ref 146), (1, .int (Int32.ofInt x1)), (2, .int (Int32.ofInt x2)), (3, .int (Int32.ofInt x3)), (4, .int (Int32.ofInt x4)), (5, .int (Int32.ofInt q.1))] [] w1 P) (kc : ∀ (r : (Int × Hp)), o = .inr r → (∀ w1, Rw sh w0 r.2 w1 → wp (d + 2) 208 87 [(0, .ref 146), (1, .int (Int32.ofInt x1)), (2, .int (Int32.ofInt x2)), (3, .int (Int32.ofInt x3)), (4, .int (Int32.ofInt x4)), (5, .int (Int32.ofInt r.1))] [] w1 P)) : wp (d + 2) 208 41 [(0, .ref 146), (1, .int (Int32.ofInt x1)), (2, .int (Int32.ofInt x2)), (3, .int (Int32.ofInt x3)), (4, .int (Int32.ofInt x4)), (5, .int (Int32.ofInt x5))] [] w P := by
  unfold xm_turnsOver_b41 at hx
  refine wp_g 2 (pc1 := 44) (lv1 := [(0, .ref 146), (1, .int (Int32.ofInt x1)), (2, .int (Int32.ofInt x2)), (3, .int (Int32.ofInt x3)), (4, .int (Int32.ofInt x4)), (5, .int (Int32.ofInt x5))]) (st1 := [.ref 146, .int (Int32.ofInt x5)]) (w1 := w) rfl ?_
  refine wx_gr (o := 10) (kf := 39) (ln := 3) (ci := 12) (b := 20) (zz := 0) (x := 146) (by decide +kernel) h (hS _ _ sm_146) rfl ?_
  show wp _ 208 47 [(0, .ref 146), (1, .int (Int32.ofInt x1)), (2, .int (Int32.ofInt x2)), (3, .int (Int32.ofInt x3)), (4, .int (Int32.ofInt x4)), (5, .int (Int32.ofInt x5))] [.ref 156, .int (Int32.ofInt x5)] w _
  refine wp_g 1 (pc1 := 48) (lv1 := [(0, .ref 146), (1, .int (Int32.ofInt x1)), (2, .int (Int32.ofInt x2)), (3, .int (Int32.ofInt x3)), (4, .int (Int32.ofInt x4)), (5, .int (Int32.ofInt x5))]) (st1 := [.int (Int32.ofInt 0), .ref 156, .int (Int32.ofInt x5)]) (w1 := w) rfl ?_
  obtain ⟨i1, e2, hx⟩ := bd hx
  refine wx_ra (x := 156) (n := 130) (ln := 1) (a := 0) (b := 0) (zz := 0) (by decide +kernel) h (hS _ _ sm_156) e2 ?_
  show wp _ 208 49 [(0, .ref 146), (1, .int (Int32.ofInt x1)), (2, .int (Int32.ofInt x2)), (3, .int (Int32.ofInt x3)), (4, .int (Int32.ofInt x4)), (5, .int (Int32.ofInt x5))] [.int (Int32.ofInt (s 156 i1)), .int (Int32.ofInt x5)] w _
  refine wp_g 2 (pc1 := 51) (lv1 := [(0, .ref 146), (1, .int (Int32.ofInt x1)), (2, .int (Int32.ofInt x2)), (3, .int (Int32.ofInt x3)), (4, .int (Int32.ofInt x4)), (5, .int (Int32.ofInt x5))]) (st1 := [.int (Int32.ofInt ((s 156 i1) - 1)), .int (Int32.ofInt x5)]) (w1 := w) (by simp only [Int32.ofInt_add, Int32.ofInt_sub, Int32.ofInt_mul, Int32.ofInt_neg, p_and, p_or, p_xor, p_shl, p_shr, p_usr, p_w8, p_c16, p_lI, q_and, q_or, q_shl, q_shr, q_w32, Int64.ofInt_add, Int64.ofInt_sub, Int64.ofInt_mul, p_mx, p_mn, q_mx, q_mn]; rfl) ?_
  refine wx_ge (oo := 36) (ln := 3) (a := 87) (b := 0) (zz := 0) (by decide +kernel) (fun h3 => ?_) (fun h3 => ?_)
  · have hx := ite_f h3 hx
    cases hx
    exact kc _ rfl _ h
  · have hx := ite_t h3 hx
    refine wp_g 4 (pc1 := 59) (lv1 := [(0, .ref 146), (1, .int (Int32.ofInt x1)), (2, .int (Int32.ofInt x2)), (3, .int (Int32.ofInt x3)), (4, .int (Int32.ofInt x4)), (5, .int (Int32.ofInt x5))]) (st1 := [.int (Int32.ofInt x3), .int (Int32.ofInt x1), .int (Int32.ofInt x5), .ref 146]) (w1 := w) rfl ?_
    obtain ⟨o4, e5, hx⟩ := bd hx
    refine wp_cl [.ref 146, .int (Int32.ofInt x5), .int (Int32.ofInt x1), .int (Int32.ofInt x3)] [] (i := .invokevirtual 331) (ln := 3) (a := 206) (b := 0) (z := 0) (by decide +kernel) rfl rfl (by decide) rfl (show (4 : Nat) = pm_na 206 by decide +kernel) (Nat.le_of_ble_eq_true rfl) (show (4 : Nat) ≤ pm_n 206 by decide +kernel) (rcv_x 12 h (hS _ _ sm_146) (by decide +kernel)) (xm_kindBy_ok (d := d) hS h e5 ?_)
    show wp _ 208 62 [(0, .ref 146), (1, .int (Int32.ofInt x1)), (2, .int (Int32.ofInt x2)), (3, .int (Int32.ofInt x3)), (4, .int (Int32.ofInt x4)), (5, .int (Int32.ofInt x5))] [.int (Int32.ofInt o4)] w _
    refine wp_g 2 (pc1 := 66) (lv1 := [(6, .int (Int32.ofInt o4)), (0, .ref 146), (1, .int (Int32.ofInt x1)), (2, .int (Int32.ofInt x2)), (3, .int (Int32.ofInt x3)), (4, .int (Int32.ofInt x4)), (5, .int (Int32.ofInt x5))]) (st1 := [.int (Int32.ofInt o4)]) (w1 := w) rfl ?_
    refine wz_eq (oo := 15) (ln := 3) (a := 81) (b := 0) (zz := 0) (by decide +kernel) (fun h8 => ?_) (fun h8 => ?_)
    · have hx := ite_t h8 hx
      refine wp_g 2 (pc1 := 41) (lv1 := [(5, .int (Int32.ofInt (x5 + 1))), (6, .int (Int32.ofInt o4)), (0, .ref 146), (1, .int (Int32.ofInt x1)), (2, .int (Int32.ofInt x2)), (3, .int (Int32.ofInt x3)), (4, .int (Int32.ofInt x4))]) (st1 := []) (w1 := w) (by simp only [Int32.ofInt_add, Int32.ofInt_sub, Int32.ofInt_mul, Int32.ofInt_neg, p_and, p_or, p_xor, p_shl, p_shr, p_usr, p_w8, p_c16, p_lI, q_and, q_or, q_shl, q_shr, q_w32, Int64.ofInt_add, Int64.ofInt_sub, Int64.ofInt_mul, p_mx, p_mn, q_mx, q_mn]; rfl) ?_
      refine wp_lv (lv1 := [(0, .ref 146), (1, .int (Int32.ofInt x1)), (2, .int (Int32.ofInt x2)), (3, .int (Int32.ofInt x3)), (4, .int (Int32.ofInt x4)), (5, .int (Int32.ofInt (x5 + 1)))]) (lsub_p [2, 3, 4, 5, 6, 0] rfl rfl rfl) ?_
      cases hx
      exact kn _ _ rfl h
    · have hx := ite_f h8 hx
      refine wp_g 1 (pc1 := 70) (lv1 := [(6, .int (Int32.ofInt o4)), (0, .ref 146), (1, .int (Int32.ofInt x1)), (2, .int (Int32.ofInt x2)), (3, .int (Int32.ofInt x3)), (4, .int (Int32.ofInt x4)), (5, .int (Int32.ofInt x5))]) (st1 := [.ref 146]) (w1 := w) rfl ?_
      refine wx_gr (o := 10) (kf := 39) (ln := 3) (ci := 12) (b := 20) (zz := 0) (x := 146) (by decide +kernel) h (hS _ _ sm_146) rfl ?_
      show wp _ 208 73 [(6, .int (Int32.ofInt o4)), (0, .ref 146), (1, .int (Int32.ofInt x1)), (2, .int (Int32.ofInt x2)), (3, .int (Int32.ofInt x3)), (4, .int (Int32.ofInt x4)), (5, .int (Int32.ofInt x5))] [.ref 156] w _
      refine wp_g 4 (pc1 := 80) (lv1 := [(6, .int (Int32.ofInt o4)), (0, .ref 146), (1, .int (Int32.ofInt x1)), (2, .int (Int32.ofInt x2)), (3, .int (Int32.ofInt x3)), (4, .int (Int32.ofInt x4)), (5, .int (Int32.ofInt x5))]) (st1 := [.int (Int32.ofInt o4), .int (Int32.ofInt (44 + x5)), .ref 156]) (w1 := w) (by simp only [Int32.ofInt_add, Int32.ofInt_sub, Int32.ofInt_mul, Int32.ofInt_neg, p_and, p_or, p_xor, p_shl, p_shr, p_usr, p_w8, p_c16, p_lI, q_and, q_or, q_shl, q_shr, q_w32, Int64.ofInt_add, Int64.ofInt_sub, Int64.ofInt_mul, p_mx, p_mn, q_mx, q_mn]; rfl) ?_
      obtain ⟨i9, e10, hx⟩ := bd hx
      obtain ⟨s11, e12, hx⟩ := bd hx
      refine wx_wa (x := 156) (n := 130) (ln := 1) (a := 0) (b := 0) (zz := 0) (by decide +kernel) h (hS _ _ sm_156) e10 e12 (fun w13 h14 => ?_)
      refine wp_g 2 (pc1 := 41) (lv1 := [(5, .int (Int32.ofInt (x5 + 1))), (6, .int (Int32.ofInt o4)), (0, .ref 146), (1, .int (Int32.ofInt x1)), (2, .int (Int32.ofInt x2)), (3, .int (Int32.ofInt x3)), (4, .int (Int32.ofInt x4))]) (st1 := []) (w1 := w13) (by simp only [Int32.ofInt_add, Int32.ofInt_sub, Int32.ofInt_mul, Int32.ofInt_neg, p_and, p_or, p_xor, p_shl, p_shr, p_usr, p_w8, p_c16, p_lI, q_and, q_or, q_shl, q_shr, q_w32, Int64.ofInt_add, Int64.ofInt_sub, Int64.ofInt_mul, p_mx, p_mn, q_mx, q_mn]; rfl) ?_
      refine wp_lv (lv1 := [(0, .ref 146), (1, .int (Int32.ofInt x1)), (2, .int (Int32.ofInt x2)), (3, .int (Int32.ofInt x3)), (4, .int (Int32.ofInt x4)), (5, .int (Int32.ofInt (x5 + 1)))]) (lsub_p [2, 3, 4, 5, 6, 0] rfl rfl rfl) ?_
      cases hx
      exact kn _ _ rfl h14
noncomputable def xm_turnsOver_b126_j241 (s : Hp) (x1 : Int) (x2 : Int) (x3 : Int) (x4 : Int) (x5 : Int) (x6 : Int) (x7 : Int) (x9 : Int) (k1 : Int) (k2 : Int) (k3 : Int) : Option ((Int × Hp) ⊕ (Int × Hp)) :=
  (ix 130 k1).bind fun i1 => (some (uh s 156 i1 (k2 + k3))).bind fun s3 => (ix 130 (x7 + 2)).bind fun i7 => (some (uh s3 156 i7 (1 - (s3 156 i7)))).bind fun s9 => (ix 130 x7).bind fun i13 => (some (uh s9 156 i13 (x9 - x5))).bind fun s15 => some (.inl (x6 + 1, s15))
set_option maxRecDepth 100000 in
theorem xm_turnsOver_b126_j241_ok {d : Nat} {P : Option Value → pm_H → Prop} {w : pm_H} {sh : Shp} {w0 : pm_H} {s : Hp} (hS : StM sh) {x1 : Int} {x2 : Int} {x3 : Int} {x4 : Int} {x5 : Int} {x6 : Int} {x7 : Int} {x9 : Int} {k1 : Int} {k2 : Int} {k3 : Int} (h : Rw sh w0 s w) {o : ((Int × Hp) ⊕ (Int × Hp))} (hx : xm_turnsOver_b126_j241 s x1 x2 x3 x4 x5 x6 x7 x9 k1 k2 k3 = some o) (kn : ∀ (q : Int × Hp) w1, o = .inl q → Rw sh w0 q.2 w1 → wp (d + 2) 208 126 [(0, .ref 146), (1, .int (Int32.ofInt x1)), (2, .int (Int32.ofInt x2)), (3, .int (Int32.ofInt x3)), (4, .int (Int32.ofInt x4)), (5, .int (Int32.ofInt x5)), (6, .int (Int32.ofInt q.1))] [] w1 P) (kc : ∀ (r : (Int × Hp)), o = .inr r → (∀ w1, Rw sh w0 r.2 w1 → wp (d + 2) 208 315 [(0, .ref 146), (1, .int (Int32.ofInt x1)), (2, .int (Int32.ofInt x2)), (3, .int (Int32.ofInt x3)), (4, .int (Int32.ofInt x4)), (5, .int (Int32.ofInt x5)), (6, .int (Int32.ofInt r.1))] [] w1 P)) : wp (d + 2) 208 241 [(0, .ref 146), (1, .int (Int32.ofInt x1)), (2, .int (Int32.ofInt x2)), (3, .int (Int32.ofInt x3)), (4, .int (Int32.ofInt x4)), (5, .int (Int32.ofInt x5)), (6, .int (Int32.ofInt x6)), (7, .int (Int32.ofInt x7)), (9, .int (Int32.ofInt x9))] [.int (Int32.ofInt k3), .int (Int32.ofInt k2), .int (Int32.ofInt k1), .ref 156] w P := by
  unfold xm_turnsOver_b126_j241 at hx
  refine wp_g 1 (pc1 := 242) (lv1 := [(0, .ref 146), (1, .int (Int32.ofInt x1)), (2, .int (Int32.ofInt x2)), (3, .int (Int32.ofInt x3)), (4, .int (Int32.ofInt x4)), (5, .int (Int32.ofInt x5)), (6, .int (Int32.ofInt x6)), (7, .int (Int32.ofInt x7)), (9, .int (Int32.ofInt x9))]) (st1 := [.int (Int32.ofInt (k2 + k3)), .int (Int32.ofInt k1), .ref 156]) (w1 := w) (by simp only [Int32.ofInt_add, Int32.ofInt_sub, Int32.ofInt_mul, Int32.ofInt_neg, p_and, p_or, p_xor, p_shl, p_shr, p_usr, p_w8, p_c16, p_lI, q_and, q_or, q_shl, q_shr, q_w32, Int64.ofInt_add, Int64.ofInt_sub, Int64.ofInt_mul, p_mx, p_mn, q_mx, q_mn]; rfl) ?_
  obtain ⟨i1, e2, hx⟩ := bd hx
  obtain ⟨s3, e4, hx⟩ := bd hx
  refine wx_wa (x := 156) (n := 130) (ln := 1) (a := 0) (b := 0) (zz := 0) (by decide +kernel) h (hS _ _ sm_156) e2 e4 (fun w5 h6 => ?_)
  refine wp_g 1 (pc1 := 244) (lv1 := [(0, .ref 146), (1, .int (Int32.ofInt x1)), (2, .int (Int32.ofInt x2)), (3, .int (Int32.ofInt x3)), (4, .int (Int32.ofInt x4)), (5, .int (Int32.ofInt x5)), (6, .int (Int32.ofInt x6)), (7, .int (Int32.ofInt x7)), (9, .int (Int32.ofInt x9))]) (st1 := [.ref 146]) (w1 := w5) rfl ?_
  refine wx_gr (o := 10) (kf := 39) (ln := 3) (ci := 12) (b := 20) (zz := 0) (x := 146) (by decide +kernel) h6 (hS _ _ sm_146) rfl ?_
  show wp _ 208 247 [(0, .ref 146), (1, .int (Int32.ofInt x1)), (2, .int (Int32.ofInt x2)), (3, .int (Int32.ofInt x3)), (4, .int (Int32.ofInt x4)), (5, .int (Int32.ofInt x5)), (6, .int (Int32.ofInt x6)), (7, .int (Int32.ofInt x7)), (9, .int (Int32.ofInt x9))] [.ref 156] w5 _
  refine wp_g 5 (pc1 := 253) (lv1 := [(0, .ref 146), (1, .int (Int32.ofInt x1)), (2, .int (Int32.ofInt x2)), (3, .int (Int32.ofInt x3)), (4, .int (Int32.ofInt x4)), (5, .int (Int32.ofInt x5)), (6, .int (Int32.ofInt x6)), (7, .int (Int32.ofInt x7)), (9, .int (Int32.ofInt x9))]) (st1 := [.ref 146, .int (Int32.ofInt 1), .int (Int32.ofInt (x7 + 2)), .ref 156]) (w1 := w5) (by simp only [Int32.ofInt_add, Int32.ofInt_sub, Int32.ofInt_mul, Int32.ofInt_neg, p_and, p_or, p_xor, p_shl, p_shr, p_usr, p_w8, p_c16, p_lI, q_and, q_or, q_shl, q_shr, q_w32, Int64.ofInt_add, Int64.ofInt_sub, Int64.ofInt_mul, p_mx, p_mn, q_mx, q_mn]; rfl) ?_
  refine wx_gr (o := 10) (kf := 39) (ln := 3) (ci := 12) (b := 20) (zz := 0) (x := 146) (by decide +kernel) h6 (hS _ _ sm_146) rfl ?_
  show wp _ 208 256 [(0, .ref 146), (1, .int (Int32.ofInt x1)), (2, .int (Int32.ofInt x2)), (3, .int (Int32.ofInt x3)), (4, .int (Int32.ofInt x4)), (5, .int (Int32.ofInt x5)), (6, .int (Int32.ofInt x6)), (7, .int (Int32.ofInt x7)), (9, .int (Int32.ofInt x9))] [.ref 156, .int (Int32.ofInt 1), .int (Int32.ofInt (x7 + 2)), .ref 156] w5 _
  refine wp_g 3 (pc1 := 260) (lv1 := [(0, .ref 146), (1, .int (Int32.ofInt x1)), (2, .int (Int32.ofInt x2)), (3, .int (Int32.ofInt x3)), (4, .int (Int32.ofInt x4)), (5, .int (Int32.ofInt x5)), (6, .int (Int32.ofInt x6)), (7, .int (Int32.ofInt x7)), (9, .int (Int32.ofInt x9))]) (st1 := [.int (Int32.ofInt (x7 + 2)), .ref 156, .int (Int32.ofInt 1), .int (Int32.ofInt (x7 + 2)), .ref 156]) (w1 := w5) (by simp only [Int32.ofInt_add, Int32.ofInt_sub, Int32.ofInt_mul, Int32.ofInt_neg, p_and, p_or, p_xor, p_shl, p_shr, p_usr, p_w8, p_c16, p_lI, q_and, q_or, q_shl, q_shr, q_w32, Int64.ofInt_add, Int64.ofInt_sub, Int64.ofInt_mul, p_mx, p_mn, q_mx, q_mn]; rfl) ?_
  obtain ⟨i7, e8, hx⟩ := bd hx
  refine wx_ra (x := 156) (n := 130) (ln := 1) (a := 0) (b := 0) (zz := 0) (by decide +kernel) h6 (hS _ _ sm_156) e8 ?_
  show wp _ 208 261 [(0, .ref 146), (1, .int (Int32.ofInt x1)), (2, .int (Int32.ofInt x2)), (3, .int (Int32.ofInt x3)), (4, .int (Int32.ofInt x4)), (5, .int (Int32.ofInt x5)), (6, .int (Int32.ofInt x6)), (7, .int (Int32.ofInt x7)), (9, .int (Int32.ofInt x9))] [.int (Int32.ofInt (s3 156 i7)), .int (Int32.ofInt 1), .int (Int32.ofInt (x7 + 2)), .ref 156] w5 _
  refine wp_g 1 (pc1 := 262) (lv1 := [(0, .ref 146), (1, .int (Int32.ofInt x1)), (2, .int (Int32.ofInt x2)), (3, .int (Int32.ofInt x3)), (4, .int (Int32.ofInt x4)), (5, .int (Int32.ofInt x5)), (6, .int (Int32.ofInt x6)), (7, .int (Int32.ofInt x7)), (9, .int (Int32.ofInt x9))]) (st1 := [.int (Int32.ofInt (1 - (s3 156 i7))), .int (Int32.ofInt (x7 + 2)), .ref 156]) (w1 := w5) (by simp only [Int32.ofInt_add, Int32.ofInt_sub, Int32.ofInt_mul, Int32.ofInt_neg, p_and, p_or, p_xor, p_shl, p_shr, p_usr, p_w8, p_c16, p_lI, q_and, q_or, q_shl, q_shr, q_w32, Int64.ofInt_add, Int64.ofInt_sub, Int64.ofInt_mul, p_mx, p_mn, q_mx, q_mn]; rfl) ?_
  obtain ⟨s9, e10, hx⟩ := bd hx
  refine wx_wa (x := 156) (n := 130) (ln := 1) (a := 0) (b := 0) (zz := 0) (by decide +kernel) h6 (hS _ _ sm_156) e8 e10 (fun w11 h12 => ?_)
  refine wp_g 1 (pc1 := 264) (lv1 := [(0, .ref 146), (1, .int (Int32.ofInt x1)), (2, .int (Int32.ofInt x2)), (3, .int (Int32.ofInt x3)), (4, .int (Int32.ofInt x4)), (5, .int (Int32.ofInt x5)), (6, .int (Int32.ofInt x6)), (7, .int (Int32.ofInt x7)), (9, .int (Int32.ofInt x9))]) (st1 := [.ref 146]) (w1 := w11) rfl ?_
  refine wx_gr (o := 10) (kf := 39) (ln := 3) (ci := 12) (b := 20) (zz := 0) (x := 146) (by decide +kernel) h12 (hS _ _ sm_146) rfl ?_
  show wp _ 208 267 [(0, .ref 146), (1, .int (Int32.ofInt x1)), (2, .int (Int32.ofInt x2)), (3, .int (Int32.ofInt x3)), (4, .int (Int32.ofInt x4)), (5, .int (Int32.ofInt x5)), (6, .int (Int32.ofInt x6)), (7, .int (Int32.ofInt x7)), (9, .int (Int32.ofInt x9))] [.ref 156] w11 _
  refine wp_g 4 (pc1 := 274) (lv1 := [(0, .ref 146), (1, .int (Int32.ofInt x1)), (2, .int (Int32.ofInt x2)), (3, .int (Int32.ofInt x3)), (4, .int (Int32.ofInt x4)), (5, .int (Int32.ofInt x5)), (6, .int (Int32.ofInt x6)), (7, .int (Int32.ofInt x7)), (9, .int (Int32.ofInt x9))]) (st1 := [.int (Int32.ofInt (x9 - x5)), .int (Int32.ofInt x7), .ref 156]) (w1 := w11) (by simp only [Int32.ofInt_add, Int32.ofInt_sub, Int32.ofInt_mul, Int32.ofInt_neg, p_and, p_or, p_xor, p_shl, p_shr, p_usr, p_w8, p_c16, p_lI, q_and, q_or, q_shl, q_shr, q_w32, Int64.ofInt_add, Int64.ofInt_sub, Int64.ofInt_mul, p_mx, p_mn, q_mx, q_mn]; rfl) ?_
  obtain ⟨i13, e14, hx⟩ := bd hx
  obtain ⟨s15, e16, hx⟩ := bd hx
  refine wx_wa (x := 156) (n := 130) (ln := 1) (a := 0) (b := 0) (zz := 0) (by decide +kernel) h12 (hS _ _ sm_156) e14 e16 (fun w17 h18 => ?_)
  refine wp_g 3 (pc1 := 126) (lv1 := [(6, .int (Int32.ofInt (x6 + 1))), (0, .ref 146), (1, .int (Int32.ofInt x1)), (2, .int (Int32.ofInt x2)), (3, .int (Int32.ofInt x3)), (4, .int (Int32.ofInt x4)), (5, .int (Int32.ofInt x5)), (7, .int (Int32.ofInt x7)), (9, .int (Int32.ofInt x9))]) (st1 := []) (w1 := w17) (by simp only [Int32.ofInt_add, Int32.ofInt_sub, Int32.ofInt_mul, Int32.ofInt_neg, p_and, p_or, p_xor, p_shl, p_shr, p_usr, p_w8, p_c16, p_lI, q_and, q_or, q_shl, q_shr, q_w32, Int64.ofInt_add, Int64.ofInt_sub, Int64.ofInt_mul, p_mx, p_mn, q_mx, q_mn]; rfl) ?_
  refine wp_lv (lv1 := [(0, .ref 146), (1, .int (Int32.ofInt x1)), (2, .int (Int32.ofInt x2)), (3, .int (Int32.ofInt x3)), (4, .int (Int32.ofInt x4)), (5, .int (Int32.ofInt x5)), (6, .int (Int32.ofInt (x6 + 1)))]) (lsub_p [1, 2, 3, 4, 5, 6, 0] rfl rfl rfl) ?_
  cases hx
  exact kn _ _ rfl h18
noncomputable def xm_turnsOver_b126_j191 (s : Hp) (x1 : Int) (x2 : Int) (x3 : Int) (x4 : Int) (x5 : Int) (x6 : Int) (x7 : Int) (x8 : Int) (x9 : Int) (k0 : Int) : Option ((Int × Hp) ⊕ (Int × Hp)) :=
  (xm_isMoved s x6 x1 x2).bind fun o1 => if w32 o1 = 0 then if w32 x3 = w32 1 then (ix 130 (x7 + 1)).bind fun i13 => (some (uh s 156 i13 ((s 156 i13) + k0))).bind fun s15 => (ix 130 x7).bind fun i19 => (some (uh s15 156 i19 (x8 - x5))).bind fun s21 => some (.inl (x6 + 1, s21)) else (ix 130 x7).bind fun i7 => (some (uh s 156 i7 (x8 - x5))).bind fun s9 => some (.inl (x6 + 1, s9)) else (ix 8 x8).bind fun i25 => (ix 130 (x7 + 1)).bind fun i27 => if w32 x3 = 0 then xm_turnsOver_b126_j241 s x1 x2 x3 x4 x5 x6 x7 x9 (x7 + 1) (((s 157 i25) - 1) - (s 156 i27)) k0 else xm_turnsOver_b126_j241 s x1 x2 x3 x4 x5 x6 x7 x9 (x7 + 1) (((s 157 i25) - 1) - (s 156 i27)) 0
set_option maxRecDepth 100000 in
theorem xm_turnsOver_b126_j191_ok {d : Nat} {P : Option Value → pm_H → Prop} {w : pm_H} {sh : Shp} {w0 : pm_H} {s : Hp} (hS : StM sh) {x1 : Int} {x2 : Int} {x3 : Int} {x4 : Int} {x5 : Int} {x6 : Int} {x7 : Int} {x8 : Int} {x9 : Int} {k0 : Int} (h : Rw sh w0 s w) {o : ((Int × Hp) ⊕ (Int × Hp))} (hx : xm_turnsOver_b126_j191 s x1 x2 x3 x4 x5 x6 x7 x8 x9 k0 = some o) (kn : ∀ (q : Int × Hp) w1, o = .inl q → Rw sh w0 q.2 w1 → wp (d + 2) 208 126 [(0, .ref 146), (1, .int (Int32.ofInt x1)), (2, .int (Int32.ofInt x2)), (3, .int (Int32.ofInt x3)), (4, .int (Int32.ofInt x4)), (5, .int (Int32.ofInt x5)), (6, .int (Int32.ofInt q.1))] [] w1 P) (kc : ∀ (r : (Int × Hp)), o = .inr r → (∀ w1, Rw sh w0 r.2 w1 → wp (d + 2) 208 315 [(0, .ref 146), (1, .int (Int32.ofInt x1)), (2, .int (Int32.ofInt x2)), (3, .int (Int32.ofInt x3)), (4, .int (Int32.ofInt x4)), (5, .int (Int32.ofInt x5)), (6, .int (Int32.ofInt r.1))] [] w1 P)) : wp (d + 2) 208 191 [(0, .ref 146), (1, .int (Int32.ofInt x1)), (2, .int (Int32.ofInt x2)), (3, .int (Int32.ofInt x3)), (4, .int (Int32.ofInt x4)), (5, .int (Int32.ofInt x5)), (6, .int (Int32.ofInt x6)), (7, .int (Int32.ofInt x7)), (8, .int (Int32.ofInt x8)), (9, .int (Int32.ofInt x9))] [.int (Int32.ofInt k0)] w P := by
  unfold xm_turnsOver_b126_j191 at hx
  refine wp_g 5 (pc1 := 198) (lv1 := [(10, .int (Int32.ofInt k0)), (0, .ref 146), (1, .int (Int32.ofInt x1)), (2, .int (Int32.ofInt x2)), (3, .int (Int32.ofInt x3)), (4, .int (Int32.ofInt x4)), (5, .int (Int32.ofInt x5)), (6, .int (Int32.ofInt x6)), (7, .int (Int32.ofInt x7)), (8, .int (Int32.ofInt x8)), (9, .int (Int32.ofInt x9))]) (st1 := [.int (Int32.ofInt x2), .int (Int32.ofInt x1), .int (Int32.ofInt x6), .ref 146]) (w1 := w) rfl ?_
  obtain ⟨o1, e2, hx⟩ := bd hx
  refine wp_cl [.ref 146, .int (Int32.ofInt x6), .int (Int32.ofInt x1), .int (Int32.ofInt x2)] [] (i := .invokevirtual 335) (ln := 3) (a := 205) (b := 0) (z := 0) (by decide +kernel) rfl rfl (by decide) rfl (show (4 : Nat) = pm_na 205 by decide +kernel) (Nat.le_of_ble_eq_true rfl) (show (4 : Nat) ≤ pm_n 205 by decide +kernel) (rcv_x 12 h (hS _ _ sm_146) (by decide +kernel)) (xm_isMoved_ok (d := d) hS h e2 ?_)
  show wp _ 208 201 [(10, .int (Int32.ofInt k0)), (0, .ref 146), (1, .int (Int32.ofInt x1)), (2, .int (Int32.ofInt x2)), (3, .int (Int32.ofInt x3)), (4, .int (Int32.ofInt x4)), (5, .int (Int32.ofInt x5)), (6, .int (Int32.ofInt x6)), (7, .int (Int32.ofInt x7)), (8, .int (Int32.ofInt x8)), (9, .int (Int32.ofInt x9))] [.int (Int32.ofInt o1)] w _
  refine wz_eq (oo := 77) (ln := 3) (a := 278) (b := 0) (zz := 0) (by decide +kernel) (fun h5 => ?_) (fun h5 => ?_)
  · have hx := ite_t h5 hx
    refine wp_g 2 (pc1 := 280) (lv1 := [(10, .int (Int32.ofInt k0)), (0, .ref 146), (1, .int (Int32.ofInt x1)), (2, .int (Int32.ofInt x2)), (3, .int (Int32.ofInt x3)), (4, .int (Int32.ofInt x4)), (5, .int (Int32.ofInt x5)), (6, .int (Int32.ofInt x6)), (7, .int (Int32.ofInt x7)), (8, .int (Int32.ofInt x8)), (9, .int (Int32.ofInt x9))]) (st1 := [.int (Int32.ofInt 1), .int (Int32.ofInt x3)]) (w1 := w) rfl ?_
    refine wx_ne (oo := 17) (ln := 3) (a := 297) (b := 0) (zz := 0) (by decide +kernel) (fun h6 => ?_) (fun h6 => ?_)
    · have hx := ite_f h6 hx
      refine wp_g 1 (pc1 := 298) (lv1 := [(10, .int (Int32.ofInt k0)), (0, .ref 146), (1, .int (Int32.ofInt x1)), (2, .int (Int32.ofInt x2)), (3, .int (Int32.ofInt x3)), (4, .int (Int32.ofInt x4)), (5, .int (Int32.ofInt x5)), (6, .int (Int32.ofInt x6)), (7, .int (Int32.ofInt x7)), (8, .int (Int32.ofInt x8)), (9, .int (Int32.ofInt x9))]) (st1 := [.ref 146]) (w1 := w) rfl ?_
      refine wx_gr (o := 10) (kf := 39) (ln := 3) (ci := 12) (b := 20) (zz := 0) (x := 146) (by decide +kernel) h (hS _ _ sm_146) rfl ?_
      show wp _ 208 301 [(10, .int (Int32.ofInt k0)), (0, .ref 146), (1, .int (Int32.ofInt x1)), (2, .int (Int32.ofInt x2)), (3, .int (Int32.ofInt x3)), (4, .int (Int32.ofInt x4)), (5, .int (Int32.ofInt x5)), (6, .int (Int32.ofInt x6)), (7, .int (Int32.ofInt x7)), (8, .int (Int32.ofInt x8)), (9, .int (Int32.ofInt x9))] [.ref 156] w _
      refine wp_g 4 (pc1 := 308) (lv1 := [(10, .int (Int32.ofInt k0)), (0, .ref 146), (1, .int (Int32.ofInt x1)), (2, .int (Int32.ofInt x2)), (3, .int (Int32.ofInt x3)), (4, .int (Int32.ofInt x4)), (5, .int (Int32.ofInt x5)), (6, .int (Int32.ofInt x6)), (7, .int (Int32.ofInt x7)), (8, .int (Int32.ofInt x8)), (9, .int (Int32.ofInt x9))]) (st1 := [.int (Int32.ofInt (x8 - x5)), .int (Int32.ofInt x7), .ref 156]) (w1 := w) (by simp only [Int32.ofInt_add, Int32.ofInt_sub, Int32.ofInt_mul, Int32.ofInt_neg, p_and, p_or, p_xor, p_shl, p_shr, p_usr, p_w8, p_c16, p_lI, q_and, q_or, q_shl, q_shr, q_w32, Int64.ofInt_add, Int64.ofInt_sub, Int64.ofInt_mul, p_mx, p_mn, q_mx, q_mn]; rfl) ?_
      obtain ⟨i7, e8, hx⟩ := bd hx
      obtain ⟨s9, e10, hx⟩ := bd hx
      refine wx_wa (x := 156) (n := 130) (ln := 1) (a := 0) (b := 0) (zz := 0) (by decide +kernel) h (hS _ _ sm_156) e8 e10 (fun w11 h12 => ?_)
      refine wp_g 2 (pc1 := 126) (lv1 := [(6, .int (Int32.ofInt (x6 + 1))), (10, .int (Int32.ofInt k0)), (0, .ref 146), (1, .int (Int32.ofInt x1)), (2, .int (Int32.ofInt x2)), (3, .int (Int32.ofInt x3)), (4, .int (Int32.ofInt x4)), (5, .int (Int32.ofInt x5)), (7, .int (Int32.ofInt x7)), (8, .int (Int32.ofInt x8)), (9, .int (Int32.ofInt x9))]) (st1 := []) (w1 := w11) (by simp only [Int32.ofInt_add, Int32.ofInt_sub, Int32.ofInt_mul, Int32.ofInt_neg, p_and, p_or, p_xor, p_shl, p_shr, p_usr, p_w8, p_c16, p_lI, q_and, q_or, q_shl, q_shr, q_w32, Int64.ofInt_add, Int64.ofInt_sub, Int64.ofInt_mul, p_mx, p_mn, q_mx, q_mn]; rfl) ?_
      refine wp_lv (lv1 := [(0, .ref 146), (1, .int (Int32.ofInt x1)), (2, .int (Int32.ofInt x2)), (3, .int (Int32.ofInt x3)), (4, .int (Int32.ofInt x4)), (5, .int (Int32.ofInt x5)), (6, .int (Int32.ofInt (x6 + 1)))]) (lsub_p [2, 3, 4, 5, 6, 7, 0] rfl rfl rfl) ?_
      cases hx
      exact kn _ _ rfl h12
    · have hx := ite_t h6 hx
      refine wp_g 1 (pc1 := 284) (lv1 := [(10, .int (Int32.ofInt k0)), (0, .ref 146), (1, .int (Int32.ofInt x1)), (2, .int (Int32.ofInt x2)), (3, .int (Int32.ofInt x3)), (4, .int (Int32.ofInt x4)), (5, .int (Int32.ofInt x5)), (6, .int (Int32.ofInt x6)), (7, .int (Int32.ofInt x7)), (8, .int (Int32.ofInt x8)), (9, .int (Int32.ofInt x9))]) (st1 := [.ref 146]) (w1 := w) rfl ?_
      refine wx_gr (o := 10) (kf := 39) (ln := 3) (ci := 12) (b := 20) (zz := 0) (x := 146) (by decide +kernel) h (hS _ _ sm_146) rfl ?_
      show wp _ 208 287 [(10, .int (Int32.ofInt k0)), (0, .ref 146), (1, .int (Int32.ofInt x1)), (2, .int (Int32.ofInt x2)), (3, .int (Int32.ofInt x3)), (4, .int (Int32.ofInt x4)), (5, .int (Int32.ofInt x5)), (6, .int (Int32.ofInt x6)), (7, .int (Int32.ofInt x7)), (8, .int (Int32.ofInt x8)), (9, .int (Int32.ofInt x9))] [.ref 156] w _
      refine wp_g 4 (pc1 := 292) (lv1 := [(10, .int (Int32.ofInt k0)), (0, .ref 146), (1, .int (Int32.ofInt x1)), (2, .int (Int32.ofInt x2)), (3, .int (Int32.ofInt x3)), (4, .int (Int32.ofInt x4)), (5, .int (Int32.ofInt x5)), (6, .int (Int32.ofInt x6)), (7, .int (Int32.ofInt x7)), (8, .int (Int32.ofInt x8)), (9, .int (Int32.ofInt x9))]) (st1 := [.int (Int32.ofInt (x7 + 1)), .ref 156, .int (Int32.ofInt (x7 + 1)), .ref 156]) (w1 := w) (by simp only [Int32.ofInt_add, Int32.ofInt_sub, Int32.ofInt_mul, Int32.ofInt_neg, p_and, p_or, p_xor, p_shl, p_shr, p_usr, p_w8, p_c16, p_lI, q_and, q_or, q_shl, q_shr, q_w32, Int64.ofInt_add, Int64.ofInt_sub, Int64.ofInt_mul, p_mx, p_mn, q_mx, q_mn]; rfl) ?_
      obtain ⟨i13, e14, hx⟩ := bd hx
      refine wx_ra (x := 156) (n := 130) (ln := 1) (a := 0) (b := 0) (zz := 0) (by decide +kernel) h (hS _ _ sm_156) e14 ?_
      show wp _ 208 293 [(10, .int (Int32.ofInt k0)), (0, .ref 146), (1, .int (Int32.ofInt x1)), (2, .int (Int32.ofInt x2)), (3, .int (Int32.ofInt x3)), (4, .int (Int32.ofInt x4)), (5, .int (Int32.ofInt x5)), (6, .int (Int32.ofInt x6)), (7, .int (Int32.ofInt x7)), (8, .int (Int32.ofInt x8)), (9, .int (Int32.ofInt x9))] [.int (Int32.ofInt (s 156 i13)), .int (Int32.ofInt (x7 + 1)), .ref 156] w _
      refine wp_g 2 (pc1 := 296) (lv1 := [(10, .int (Int32.ofInt k0)), (0, .ref 146), (1, .int (Int32.ofInt x1)), (2, .int (Int32.ofInt x2)), (3, .int (Int32.ofInt x3)), (4, .int (Int32.ofInt x4)), (5, .int (Int32.ofInt x5)), (6, .int (Int32.ofInt x6)), (7, .int (Int32.ofInt x7)), (8, .int (Int32.ofInt x8)), (9, .int (Int32.ofInt x9))]) (st1 := [.int (Int32.ofInt ((s 156 i13) + k0)), .int (Int32.ofInt (x7 + 1)), .ref 156]) (w1 := w) (by simp only [Int32.ofInt_add, Int32.ofInt_sub, Int32.ofInt_mul, Int32.ofInt_neg, p_and, p_or, p_xor, p_shl, p_shr, p_usr, p_w8, p_c16, p_lI, q_and, q_or, q_shl, q_shr, q_w32, Int64.ofInt_add, Int64.ofInt_sub, Int64.ofInt_mul, p_mx, p_mn, q_mx, q_mn]; rfl) ?_
      obtain ⟨s15, e16, hx⟩ := bd hx
      refine wx_wa (x := 156) (n := 130) (ln := 1) (a := 0) (b := 0) (zz := 0) (by decide +kernel) h (hS _ _ sm_156) e14 e16 (fun w17 h18 => ?_)
      refine wp_g 1 (pc1 := 298) (lv1 := [(10, .int (Int32.ofInt k0)), (0, .ref 146), (1, .int (Int32.ofInt x1)), (2, .int (Int32.ofInt x2)), (3, .int (Int32.ofInt x3)), (4, .int (Int32.ofInt x4)), (5, .int (Int32.ofInt x5)), (6, .int (Int32.ofInt x6)), (7, .int (Int32.ofInt x7)), (8, .int (Int32.ofInt x8)), (9, .int (Int32.ofInt x9))]) (st1 := [.ref 146]) (w1 := w17) rfl ?_
      refine wx_gr (o := 10) (kf := 39) (ln := 3) (ci := 12) (b := 20) (zz := 0) (x := 146) (by decide +kernel) h18 (hS _ _ sm_146) rfl ?_
      show wp _ 208 301 [(10, .int (Int32.ofInt k0)), (0, .ref 146), (1, .int (Int32.ofInt x1)), (2, .int (Int32.ofInt x2)), (3, .int (Int32.ofInt x3)), (4, .int (Int32.ofInt x4)), (5, .int (Int32.ofInt x5)), (6, .int (Int32.ofInt x6)), (7, .int (Int32.ofInt x7)), (8, .int (Int32.ofInt x8)), (9, .int (Int32.ofInt x9))] [.ref 156] w17 _
      refine wp_g 4 (pc1 := 308) (lv1 := [(10, .int (Int32.ofInt k0)), (0, .ref 146), (1, .int (Int32.ofInt x1)), (2, .int (Int32.ofInt x2)), (3, .int (Int32.ofInt x3)), (4, .int (Int32.ofInt x4)), (5, .int (Int32.ofInt x5)), (6, .int (Int32.ofInt x6)), (7, .int (Int32.ofInt x7)), (8, .int (Int32.ofInt x8)), (9, .int (Int32.ofInt x9))]) (st1 := [.int (Int32.ofInt (x8 - x5)), .int (Int32.ofInt x7), .ref 156]) (w1 := w17) (by simp only [Int32.ofInt_add, Int32.ofInt_sub, Int32.ofInt_mul, Int32.ofInt_neg, p_and, p_or, p_xor, p_shl, p_shr, p_usr, p_w8, p_c16, p_lI, q_and, q_or, q_shl, q_shr, q_w32, Int64.ofInt_add, Int64.ofInt_sub, Int64.ofInt_mul, p_mx, p_mn, q_mx, q_mn]; rfl) ?_
      obtain ⟨i19, e20, hx⟩ := bd hx
      obtain ⟨s21, e22, hx⟩ := bd hx
      refine wx_wa (x := 156) (n := 130) (ln := 1) (a := 0) (b := 0) (zz := 0) (by decide +kernel) h18 (hS _ _ sm_156) e20 e22 (fun w23 h24 => ?_)
      refine wp_g 2 (pc1 := 126) (lv1 := [(6, .int (Int32.ofInt (x6 + 1))), (10, .int (Int32.ofInt k0)), (0, .ref 146), (1, .int (Int32.ofInt x1)), (2, .int (Int32.ofInt x2)), (3, .int (Int32.ofInt x3)), (4, .int (Int32.ofInt x4)), (5, .int (Int32.ofInt x5)), (7, .int (Int32.ofInt x7)), (8, .int (Int32.ofInt x8)), (9, .int (Int32.ofInt x9))]) (st1 := []) (w1 := w23) (by simp only [Int32.ofInt_add, Int32.ofInt_sub, Int32.ofInt_mul, Int32.ofInt_neg, p_and, p_or, p_xor, p_shl, p_shr, p_usr, p_w8, p_c16, p_lI, q_and, q_or, q_shl, q_shr, q_w32, Int64.ofInt_add, Int64.ofInt_sub, Int64.ofInt_mul, p_mx, p_mn, q_mx, q_mn]; rfl) ?_
      refine wp_lv (lv1 := [(0, .ref 146), (1, .int (Int32.ofInt x1)), (2, .int (Int32.ofInt x2)), (3, .int (Int32.ofInt x3)), (4, .int (Int32.ofInt x4)), (5, .int (Int32.ofInt x5)), (6, .int (Int32.ofInt (x6 + 1)))]) (lsub_p [2, 3, 4, 5, 6, 7, 0] rfl rfl rfl) ?_
      cases hx
      exact kn _ _ rfl h24
  · have hx := ite_f h5 hx
    refine wp_g 1 (pc1 := 205) (lv1 := [(10, .int (Int32.ofInt k0)), (0, .ref 146), (1, .int (Int32.ofInt x1)), (2, .int (Int32.ofInt x2)), (3, .int (Int32.ofInt x3)), (4, .int (Int32.ofInt x4)), (5, .int (Int32.ofInt x5)), (6, .int (Int32.ofInt x6)), (7, .int (Int32.ofInt x7)), (8, .int (Int32.ofInt x8)), (9, .int (Int32.ofInt x9))]) (st1 := [.ref 146]) (w1 := w) rfl ?_
    refine wx_gr (o := 10) (kf := 39) (ln := 3) (ci := 12) (b := 20) (zz := 0) (x := 146) (by decide +kernel) h (hS _ _ sm_146) rfl ?_
    show wp _ 208 208 [(10, .int (Int32.ofInt k0)), (0, .ref 146), (1, .int (Int32.ofInt x1)), (2, .int (Int32.ofInt x2)), (3, .int (Int32.ofInt x3)), (4, .int (Int32.ofInt x4)), (5, .int (Int32.ofInt x5)), (6, .int (Int32.ofInt x6)), (7, .int (Int32.ofInt x7)), (8, .int (Int32.ofInt x8)), (9, .int (Int32.ofInt x9))] [.ref 156] w _
    refine wp_g 4 (pc1 := 213) (lv1 := [(10, .int (Int32.ofInt k0)), (0, .ref 146), (1, .int (Int32.ofInt x1)), (2, .int (Int32.ofInt x2)), (3, .int (Int32.ofInt x3)), (4, .int (Int32.ofInt x4)), (5, .int (Int32.ofInt x5)), (6, .int (Int32.ofInt x6)), (7, .int (Int32.ofInt x7)), (8, .int (Int32.ofInt x8)), (9, .int (Int32.ofInt x9))]) (st1 := [.ref 146, .int (Int32.ofInt (x7 + 1)), .ref 156]) (w1 := w) (by simp only [Int32.ofInt_add, Int32.ofInt_sub, Int32.ofInt_mul, Int32.ofInt_neg, p_and, p_or, p_xor, p_shl, p_shr, p_usr, p_w8, p_c16, p_lI, q_and, q_or, q_shl, q_shr, q_w32, Int64.ofInt_add, Int64.ofInt_sub, Int64.ofInt_mul, p_mx, p_mn, q_mx, q_mn]; rfl) ?_
    refine wx_gr (o := 11) (kf := 46) (ln := 3) (ci := 12) (b := 23) (zz := 0) (x := 146) (by decide +kernel) h (hS _ _ sm_146) rfl ?_
    show wp _ 208 216 [(10, .int (Int32.ofInt k0)), (0, .ref 146), (1, .int (Int32.ofInt x1)), (2, .int (Int32.ofInt x2)), (3, .int (Int32.ofInt x3)), (4, .int (Int32.ofInt x4)), (5, .int (Int32.ofInt x5)), (6, .int (Int32.ofInt x6)), (7, .int (Int32.ofInt x7)), (8, .int (Int32.ofInt x8)), (9, .int (Int32.ofInt x9))] [.ref 157, .int (Int32.ofInt (x7 + 1)), .ref 156] w _
    refine wp_g 1 (pc1 := 218) (lv1 := [(10, .int (Int32.ofInt k0)), (0, .ref 146), (1, .int (Int32.ofInt x1)), (2, .int (Int32.ofInt x2)), (3, .int (Int32.ofInt x3)), (4, .int (Int32.ofInt x4)), (5, .int (Int32.ofInt x5)), (6, .int (Int32.ofInt x6)), (7, .int (Int32.ofInt x7)), (8, .int (Int32.ofInt x8)), (9, .int (Int32.ofInt x9))]) (st1 := [.int (Int32.ofInt x8), .ref 157, .int (Int32.ofInt (x7 + 1)), .ref 156]) (w1 := w) rfl ?_
    obtain ⟨i25, e26, hx⟩ := bd hx
    refine wx_ra (x := 157) (n := 8) (ln := 1) (a := 0) (b := 0) (zz := 0) (by decide +kernel) h (hS _ _ sm_157) e26 ?_
    show wp _ 208 219 [(10, .int (Int32.ofInt k0)), (0, .ref 146), (1, .int (Int32.ofInt x1)), (2, .int (Int32.ofInt x2)), (3, .int (Int32.ofInt x3)), (4, .int (Int32.ofInt x4)), (5, .int (Int32.ofInt x5)), (6, .int (Int32.ofInt x6)), (7, .int (Int32.ofInt x7)), (8, .int (Int32.ofInt x8)), (9, .int (Int32.ofInt x9))] [.int (Int32.ofInt (s 157 i25)), .int (Int32.ofInt (x7 + 1)), .ref 156] w _
    refine wp_g 3 (pc1 := 222) (lv1 := [(10, .int (Int32.ofInt k0)), (0, .ref 146), (1, .int (Int32.ofInt x1)), (2, .int (Int32.ofInt x2)), (3, .int (Int32.ofInt x3)), (4, .int (Int32.ofInt x4)), (5, .int (Int32.ofInt x5)), (6, .int (Int32.ofInt x6)), (7, .int (Int32.ofInt x7)), (8, .int (Int32.ofInt x8)), (9, .int (Int32.ofInt x9))]) (st1 := [.ref 146, .int (Int32.ofInt ((s 157 i25) - 1)), .int (Int32.ofInt (x7 + 1)), .ref 156]) (w1 := w) (by simp only [Int32.ofInt_add, Int32.ofInt_sub, Int32.ofInt_mul, Int32.ofInt_neg, p_and, p_or, p_xor, p_shl, p_shr, p_usr, p_w8, p_c16, p_lI, q_and, q_or, q_shl, q_shr, q_w32, Int64.ofInt_add, Int64.ofInt_sub, Int64.ofInt_mul, p_mx, p_mn, q_mx, q_mn]; rfl) ?_
    refine wx_gr (o := 10) (kf := 39) (ln := 3) (ci := 12) (b := 20) (zz := 0) (x := 146) (by decide +kernel) h (hS _ _ sm_146) rfl ?_
    show wp _ 208 225 [(10, .int (Int32.ofInt k0)), (0, .ref 146), (1, .int (Int32.ofInt x1)), (2, .int (Int32.ofInt x2)), (3, .int (Int32.ofInt x3)), (4, .int (Int32.ofInt x4)), (5, .int (Int32.ofInt x5)), (6, .int (Int32.ofInt x6)), (7, .int (Int32.ofInt x7)), (8, .int (Int32.ofInt x8)), (9, .int (Int32.ofInt x9))] [.ref 156, .int (Int32.ofInt ((s 157 i25) - 1)), .int (Int32.ofInt (x7 + 1)), .ref 156] w _
    refine wp_g 3 (pc1 := 229) (lv1 := [(10, .int (Int32.ofInt k0)), (0, .ref 146), (1, .int (Int32.ofInt x1)), (2, .int (Int32.ofInt x2)), (3, .int (Int32.ofInt x3)), (4, .int (Int32.ofInt x4)), (5, .int (Int32.ofInt x5)), (6, .int (Int32.ofInt x6)), (7, .int (Int32.ofInt x7)), (8, .int (Int32.ofInt x8)), (9, .int (Int32.ofInt x9))]) (st1 := [.int (Int32.ofInt (x7 + 1)), .ref 156, .int (Int32.ofInt ((s 157 i25) - 1)), .int (Int32.ofInt (x7 + 1)), .ref 156]) (w1 := w) (by simp only [Int32.ofInt_add, Int32.ofInt_sub, Int32.ofInt_mul, Int32.ofInt_neg, p_and, p_or, p_xor, p_shl, p_shr, p_usr, p_w8, p_c16, p_lI, q_and, q_or, q_shl, q_shr, q_w32, Int64.ofInt_add, Int64.ofInt_sub, Int64.ofInt_mul, p_mx, p_mn, q_mx, q_mn]; rfl) ?_
    obtain ⟨i27, e28, hx⟩ := bd hx
    refine wx_ra (x := 156) (n := 130) (ln := 1) (a := 0) (b := 0) (zz := 0) (by decide +kernel) h (hS _ _ sm_156) e28 ?_
    show wp _ 208 230 [(10, .int (Int32.ofInt k0)), (0, .ref 146), (1, .int (Int32.ofInt x1)), (2, .int (Int32.ofInt x2)), (3, .int (Int32.ofInt x3)), (4, .int (Int32.ofInt x4)), (5, .int (Int32.ofInt x5)), (6, .int (Int32.ofInt x6)), (7, .int (Int32.ofInt x7)), (8, .int (Int32.ofInt x8)), (9, .int (Int32.ofInt x9))] [.int (Int32.ofInt (s 156 i27)), .int (Int32.ofInt ((s 157 i25) - 1)), .int (Int32.ofInt (x7 + 1)), .ref 156] w _
    refine wp_g 2 (pc1 := 232) (lv1 := [(10, .int (Int32.ofInt k0)), (0, .ref 146), (1, .int (Int32.ofInt x1)), (2, .int (Int32.ofInt x2)), (3, .int (Int32.ofInt x3)), (4, .int (Int32.ofInt x4)), (5, .int (Int32.ofInt x5)), (6, .int (Int32.ofInt x6)), (7, .int (Int32.ofInt x7)), (8, .int (Int32.ofInt x8)), (9, .int (Int32.ofInt x9))]) (st1 := [.int (Int32.ofInt x3), .int (Int32.ofInt (((s 157 i25) - 1) - (s 156 i27))), .int (Int32.ofInt (x7 + 1)), .ref 156]) (w1 := w) (by simp only [Int32.ofInt_add, Int32.ofInt_sub, Int32.ofInt_mul, Int32.ofInt_neg, p_and, p_or, p_xor, p_shl, p_shr, p_usr, p_w8, p_c16, p_lI, q_and, q_or, q_shl, q_shr, q_w32, Int64.ofInt_add, Int64.ofInt_sub, Int64.ofInt_mul, p_mx, p_mn, q_mx, q_mn]; rfl) ?_
    refine wz_ne (oo := 8) (ln := 3) (a := 240) (b := 0) (zz := 0) (by decide +kernel) (fun h29 => ?_) (fun h29 => ?_)
    · have hx := ite_f h29 hx
      refine wp_g 1 (pc1 := 241) (lv1 := [(10, .int (Int32.ofInt k0)), (0, .ref 146), (1, .int (Int32.ofInt x1)), (2, .int (Int32.ofInt x2)), (3, .int (Int32.ofInt x3)), (4, .int (Int32.ofInt x4)), (5, .int (Int32.ofInt x5)), (6, .int (Int32.ofInt x6)), (7, .int (Int32.ofInt x7)), (8, .int (Int32.ofInt x8)), (9, .int (Int32.ofInt x9))]) (st1 := [.int (Int32.ofInt 0), .int (Int32.ofInt (((s 157 i25) - 1) - (s 156 i27))), .int (Int32.ofInt (x7 + 1)), .ref 156]) (w1 := w) rfl ?_
      refine wp_lv (lv1 := [(0, .ref 146), (1, .int (Int32.ofInt x1)), (2, .int (Int32.ofInt x2)), (3, .int (Int32.ofInt x3)), (4, .int (Int32.ofInt x4)), (5, .int (Int32.ofInt x5)), (6, .int (Int32.ofInt x6)), (7, .int (Int32.ofInt x7)), (9, .int (Int32.ofInt x9))]) (lsub_p [1, 2, 3, 4, 5, 6, 7, 8, 10] rfl rfl rfl) ?_
      exact xm_turnsOver_b126_j241_ok hS h hx kn kc
    · have hx := ite_t h29 hx
      refine wp_g 2 (pc1 := 241) (lv1 := [(10, .int (Int32.ofInt k0)), (0, .ref 146), (1, .int (Int32.ofInt x1)), (2, .int (Int32.ofInt x2)), (3, .int (Int32.ofInt x3)), (4, .int (Int32.ofInt x4)), (5, .int (Int32.ofInt x5)), (6, .int (Int32.ofInt x6)), (7, .int (Int32.ofInt x7)), (8, .int (Int32.ofInt x8)), (9, .int (Int32.ofInt x9))]) (st1 := [.int (Int32.ofInt k0), .int (Int32.ofInt (((s 157 i25) - 1) - (s 156 i27))), .int (Int32.ofInt (x7 + 1)), .ref 156]) (w1 := w) rfl ?_
      refine wp_lv (lv1 := [(0, .ref 146), (1, .int (Int32.ofInt x1)), (2, .int (Int32.ofInt x2)), (3, .int (Int32.ofInt x3)), (4, .int (Int32.ofInt x4)), (5, .int (Int32.ofInt x5)), (6, .int (Int32.ofInt x6)), (7, .int (Int32.ofInt x7)), (9, .int (Int32.ofInt x9))]) (lsub_p [1, 2, 3, 4, 5, 6, 7, 8, 10] rfl rfl rfl) ?_
      exact xm_turnsOver_b126_j241_ok hS h hx kn kc
noncomputable def xm_turnsOver_b126 (s : Hp) (x1 : Int) (x2 : Int) (x3 : Int) (x4 : Int) (x5 : Int) (x6 : Int) : Option ((Int × Hp) ⊕ (Int × Hp)) :=
  (ix 130 0).bind fun i1 => if w32 x6 < w32 (s 156 i1) then (ix 130 (12 + (4 * x6))).bind fun i4 => (xm_in (w32 (((2 * x1) + 1) - (s 156 i4))) 0 (w32 (x4 - 1))).bind fun o6 => if w32 o6 = 0 then xm_turnsOver_b126_j191 s x1 x2 x3 x4 x5 x6 (12 + (4 * x6)) (s 156 i4) (((2 * x1) + 1) - (s 156 i4)) 0 else (ix 8 (((2 * x1) + 1) - (s 156 i4))).bind fun i11 => xm_turnsOver_b126_j191 s x1 x2 x3 x4 x5 x6 (12 + (4 * x6)) (s 156 i4) (((2 * x1) + 1) - (s 156 i4)) (s 157 i11) else some (.inr (x6, s))
set_option maxRecDepth 100000 in
theorem xm_turnsOver_b126_ok {d : Nat} {P : Option Value → pm_H → Prop} {w : pm_H} {sh : Shp} {w0 : pm_H} {s : Hp} (hS : StM sh) {x1 : Int} {x2 : Int} {x3 : Int} {x4 : Int} {x5 : Int} {x6 : Int} (h : Rw sh w0 s w) {o : ((Int × Hp) ⊕ (Int × Hp))} (hx : xm_turnsOver_b126 s x1 x2 x3 x4 x5 x6 = some o) (kn : ∀ (q : Int × Hp) w1, o = .inl q → Rw sh w0 q.2 w1 → wp (d + 2) 208 126 [(0, .ref 146), (1, .int (Int32.ofInt x1)), (2, .int (Int32.ofInt x2)), (3, .int (Int32.ofInt x3)), (4, .int (Int32.ofInt x4)), (5, .int (Int32.ofInt x5)), (6, .int (Int32.ofInt q.1))] [] w1 P) (kc : ∀ (r : (Int × Hp)), o = .inr r → (∀ w1, Rw sh w0 r.2 w1 → wp (d + 2) 208 315 [(0, .ref 146), (1, .int (Int32.ofInt x1)), (2, .int (Int32.ofInt x2)), (3, .int (Int32.ofInt x3)), (4, .int (Int32.ofInt x4)), (5, .int (Int32.ofInt x5)), (6, .int (Int32.ofInt r.1))] [] w1 P)) : wp (d + 2) 208 126 [(0, .ref 146), (1, .int (Int32.ofInt x1)), (2, .int (Int32.ofInt x2)), (3, .int (Int32.ofInt x3)), (4, .int (Int32.ofInt x4)), (5, .int (Int32.ofInt x5)), (6, .int (Int32.ofInt x6))] [] w P := by
  unfold xm_turnsOver_b126 at hx
  refine wp_g 2 (pc1 := 129) (lv1 := [(0, .ref 146), (1, .int (Int32.ofInt x1)), (2, .int (Int32.ofInt x2)), (3, .int (Int32.ofInt x3)), (4, .int (Int32.ofInt x4)), (5, .int (Int32.ofInt x5)), (6, .int (Int32.ofInt x6))]) (st1 := [.ref 146, .int (Int32.ofInt x6)]) (w1 := w) rfl ?_
  refine wx_gr (o := 10) (kf := 39) (ln := 3) (ci := 12) (b := 20) (zz := 0) (x := 146) (by decide +kernel) h (hS _ _ sm_146) rfl ?_
  show wp _ 208 132 [(0, .ref 146), (1, .int (Int32.ofInt x1)), (2, .int (Int32.ofInt x2)), (3, .int (Int32.ofInt x3)), (4, .int (Int32.ofInt x4)), (5, .int (Int32.ofInt x5)), (6, .int (Int32.ofInt x6))] [.ref 156, .int (Int32.ofInt x6)] w _
  refine wp_g 1 (pc1 := 133) (lv1 := [(0, .ref 146), (1, .int (Int32.ofInt x1)), (2, .int (Int32.ofInt x2)), (3, .int (Int32.ofInt x3)), (4, .int (Int32.ofInt x4)), (5, .int (Int32.ofInt x5)), (6, .int (Int32.ofInt x6))]) (st1 := [.int (Int32.ofInt 0), .ref 156, .int (Int32.ofInt x6)]) (w1 := w) rfl ?_
  obtain ⟨i1, e2, hx⟩ := bd hx
  refine wx_ra (x := 156) (n := 130) (ln := 1) (a := 0) (b := 0) (zz := 0) (by decide +kernel) h (hS _ _ sm_156) e2 ?_
  show wp _ 208 134 [(0, .ref 146), (1, .int (Int32.ofInt x1)), (2, .int (Int32.ofInt x2)), (3, .int (Int32.ofInt x3)), (4, .int (Int32.ofInt x4)), (5, .int (Int32.ofInt x5)), (6, .int (Int32.ofInt x6))] [.int (Int32.ofInt (s 156 i1)), .int (Int32.ofInt x6)] w _
  refine wx_ge (oo := 181) (ln := 3) (a := 315) (b := 0) (zz := 0) (by decide +kernel) (fun h3 => ?_) (fun h3 => ?_)
  · have hx := ite_f h3 hx
    cases hx
    exact kc _ rfl _ h
  · have hx := ite_t h3 hx
    refine wp_g 7 (pc1 := 147) (lv1 := [(7, .int (Int32.ofInt (12 + (4 * x6)))), (0, .ref 146), (1, .int (Int32.ofInt x1)), (2, .int (Int32.ofInt x2)), (3, .int (Int32.ofInt x3)), (4, .int (Int32.ofInt x4)), (5, .int (Int32.ofInt x5)), (6, .int (Int32.ofInt x6))]) (st1 := [.ref 146]) (w1 := w) (by simp only [Int32.ofInt_add, Int32.ofInt_sub, Int32.ofInt_mul, Int32.ofInt_neg, p_and, p_or, p_xor, p_shl, p_shr, p_usr, p_w8, p_c16, p_lI, q_and, q_or, q_shl, q_shr, q_w32, Int64.ofInt_add, Int64.ofInt_sub, Int64.ofInt_mul, p_mx, p_mn, q_mx, q_mn]; rfl) ?_
    refine wx_gr (o := 10) (kf := 39) (ln := 3) (ci := 12) (b := 20) (zz := 0) (x := 146) (by decide +kernel) h (hS _ _ sm_146) rfl ?_
    show wp _ 208 150 [(7, .int (Int32.ofInt (12 + (4 * x6)))), (0, .ref 146), (1, .int (Int32.ofInt x1)), (2, .int (Int32.ofInt x2)), (3, .int (Int32.ofInt x3)), (4, .int (Int32.ofInt x4)), (5, .int (Int32.ofInt x5)), (6, .int (Int32.ofInt x6))] [.ref 156] w _
    refine wp_g 1 (pc1 := 152) (lv1 := [(7, .int (Int32.ofInt (12 + (4 * x6)))), (0, .ref 146), (1, .int (Int32.ofInt x1)), (2, .int (Int32.ofInt x2)), (3, .int (Int32.ofInt x3)), (4, .int (Int32.ofInt x4)), (5, .int (Int32.ofInt x5)), (6, .int (Int32.ofInt x6))]) (st1 := [.int (Int32.ofInt (12 + (4 * x6))), .ref 156]) (w1 := w) rfl ?_
    obtain ⟨i4, e5, hx⟩ := bd hx
    refine wx_ra (x := 156) (n := 130) (ln := 1) (a := 0) (b := 0) (zz := 0) (by decide +kernel) h (hS _ _ sm_156) e5 ?_
    show wp _ 208 153 [(7, .int (Int32.ofInt (12 + (4 * x6)))), (0, .ref 146), (1, .int (Int32.ofInt x1)), (2, .int (Int32.ofInt x2)), (3, .int (Int32.ofInt x3)), (4, .int (Int32.ofInt x4)), (5, .int (Int32.ofInt x5)), (6, .int (Int32.ofInt x6))] [.int (Int32.ofInt (s 156 i4))] w _
    refine wp_g 16 (pc1 := 174) (lv1 := [(9, .int (Int32.ofInt (((2 * x1) + 1) - (s 156 i4)))), (8, .int (Int32.ofInt (s 156 i4))), (7, .int (Int32.ofInt (12 + (4 * x6)))), (0, .ref 146), (1, .int (Int32.ofInt x1)), (2, .int (Int32.ofInt x2)), (3, .int (Int32.ofInt x3)), (4, .int (Int32.ofInt x4)), (5, .int (Int32.ofInt x5)), (6, .int (Int32.ofInt x6))]) (st1 := [.long (Int64.ofInt (w32 (x4 - 1))), .long (Int64.ofInt 0), .long (Int64.ofInt (w32 (((2 * x1) + 1) - (s 156 i4))))]) (w1 := w) (by simp only [Int32.ofInt_add, Int32.ofInt_sub, Int32.ofInt_mul, Int32.ofInt_neg, p_and, p_or, p_xor, p_shl, p_shr, p_usr, p_w8, p_c16, p_lI, q_and, q_or, q_shl, q_shr, q_w32, Int64.ofInt_add, Int64.ofInt_sub, Int64.ofInt_mul, p_mx, p_mn, q_mx, q_mn]; rfl) ?_
    obtain ⟨o6, e7, hx⟩ := bd hx
    refine wp_cl [.long (Int64.ofInt (w32 (((2 * x1) + 1) - (s 156 i4)))), .long (Int64.ofInt 0), .long (Int64.ofInt (w32 (x4 - 1)))] [] (i := .invokestatic 139) (ln := 3) (a := 147) (b := 1) (z := 0) (by decide +kernel) rfl rfl (by decide) rfl (show (3 : Nat) = pm_na 147 by decide +kernel) (Nat.le_of_ble_eq_true rfl) (show (6 : Nat) ≤ pm_n 147 by decide +kernel) (by rw [show pm_k 147 = 1 by decide +kernel]; rfl) (xm_in_ok (d := d + 1) e7 ?_)
    show wp _ 208 177 [(9, .int (Int32.ofInt (((2 * x1) + 1) - (s 156 i4)))), (8, .int (Int32.ofInt (s 156 i4))), (7, .int (Int32.ofInt (12 + (4 * x6)))), (0, .ref 146), (1, .int (Int32.ofInt x1)), (2, .int (Int32.ofInt x2)), (3, .int (Int32.ofInt x3)), (4, .int (Int32.ofInt x4)), (5, .int (Int32.ofInt x5)), (6, .int (Int32.ofInt x6))] [.int (Int32.ofInt o6)] w _
    refine wz_eq (oo := 13) (ln := 3) (a := 190) (b := 0) (zz := 0) (by decide +kernel) (fun h10 => ?_) (fun h10 => ?_)
    · have hx := ite_t h10 hx
      refine wp_g 1 (pc1 := 191) (lv1 := [(9, .int (Int32.ofInt (((2 * x1) + 1) - (s 156 i4)))), (8, .int (Int32.ofInt (s 156 i4))), (7, .int (Int32.ofInt (12 + (4 * x6)))), (0, .ref 146), (1, .int (Int32.ofInt x1)), (2, .int (Int32.ofInt x2)), (3, .int (Int32.ofInt x3)), (4, .int (Int32.ofInt x4)), (5, .int (Int32.ofInt x5)), (6, .int (Int32.ofInt x6))]) (st1 := [.int (Int32.ofInt 0)]) (w1 := w) rfl ?_
      refine wp_lv (lv1 := [(0, .ref 146), (1, .int (Int32.ofInt x1)), (2, .int (Int32.ofInt x2)), (3, .int (Int32.ofInt x3)), (4, .int (Int32.ofInt x4)), (5, .int (Int32.ofInt x5)), (6, .int (Int32.ofInt x6)), (7, .int (Int32.ofInt (12 + (4 * x6)))), (8, .int (Int32.ofInt (s 156 i4))), (9, .int (Int32.ofInt (((2 * x1) + 1) - (s 156 i4))))]) (lsub_p [3, 4, 5, 6, 7, 8, 9, 2, 1, 0] rfl rfl rfl) ?_
      exact xm_turnsOver_b126_j191_ok hS h hx kn kc
    · have hx := ite_f h10 hx
      refine wp_g 1 (pc1 := 181) (lv1 := [(9, .int (Int32.ofInt (((2 * x1) + 1) - (s 156 i4)))), (8, .int (Int32.ofInt (s 156 i4))), (7, .int (Int32.ofInt (12 + (4 * x6)))), (0, .ref 146), (1, .int (Int32.ofInt x1)), (2, .int (Int32.ofInt x2)), (3, .int (Int32.ofInt x3)), (4, .int (Int32.ofInt x4)), (5, .int (Int32.ofInt x5)), (6, .int (Int32.ofInt x6))]) (st1 := [.ref 146]) (w1 := w) rfl ?_
      refine wx_gr (o := 11) (kf := 46) (ln := 3) (ci := 12) (b := 23) (zz := 0) (x := 146) (by decide +kernel) h (hS _ _ sm_146) rfl ?_
      show wp _ 208 184 [(9, .int (Int32.ofInt (((2 * x1) + 1) - (s 156 i4)))), (8, .int (Int32.ofInt (s 156 i4))), (7, .int (Int32.ofInt (12 + (4 * x6)))), (0, .ref 146), (1, .int (Int32.ofInt x1)), (2, .int (Int32.ofInt x2)), (3, .int (Int32.ofInt x3)), (4, .int (Int32.ofInt x4)), (5, .int (Int32.ofInt x5)), (6, .int (Int32.ofInt x6))] [.ref 157] w _
      refine wp_g 1 (pc1 := 186) (lv1 := [(9, .int (Int32.ofInt (((2 * x1) + 1) - (s 156 i4)))), (8, .int (Int32.ofInt (s 156 i4))), (7, .int (Int32.ofInt (12 + (4 * x6)))), (0, .ref 146), (1, .int (Int32.ofInt x1)), (2, .int (Int32.ofInt x2)), (3, .int (Int32.ofInt x3)), (4, .int (Int32.ofInt x4)), (5, .int (Int32.ofInt x5)), (6, .int (Int32.ofInt x6))]) (st1 := [.int (Int32.ofInt (((2 * x1) + 1) - (s 156 i4))), .ref 157]) (w1 := w) rfl ?_
      obtain ⟨i11, e12, hx⟩ := bd hx
      refine wx_ra (x := 157) (n := 8) (ln := 1) (a := 0) (b := 0) (zz := 0) (by decide +kernel) h (hS _ _ sm_157) e12 ?_
      show wp _ 208 187 [(9, .int (Int32.ofInt (((2 * x1) + 1) - (s 156 i4)))), (8, .int (Int32.ofInt (s 156 i4))), (7, .int (Int32.ofInt (12 + (4 * x6)))), (0, .ref 146), (1, .int (Int32.ofInt x1)), (2, .int (Int32.ofInt x2)), (3, .int (Int32.ofInt x3)), (4, .int (Int32.ofInt x4)), (5, .int (Int32.ofInt x5)), (6, .int (Int32.ofInt x6))] [.int (Int32.ofInt (s 157 i11))] w _
      refine wp_g 1 (pc1 := 191) (lv1 := [(9, .int (Int32.ofInt (((2 * x1) + 1) - (s 156 i4)))), (8, .int (Int32.ofInt (s 156 i4))), (7, .int (Int32.ofInt (12 + (4 * x6)))), (0, .ref 146), (1, .int (Int32.ofInt x1)), (2, .int (Int32.ofInt x2)), (3, .int (Int32.ofInt x3)), (4, .int (Int32.ofInt x4)), (5, .int (Int32.ofInt x5)), (6, .int (Int32.ofInt x6))]) (st1 := [.int (Int32.ofInt (s 157 i11))]) (w1 := w) rfl ?_
      refine wp_lv (lv1 := [(0, .ref 146), (1, .int (Int32.ofInt x1)), (2, .int (Int32.ofInt x2)), (3, .int (Int32.ofInt x3)), (4, .int (Int32.ofInt x4)), (5, .int (Int32.ofInt x5)), (6, .int (Int32.ofInt x6)), (7, .int (Int32.ofInt (12 + (4 * x6)))), (8, .int (Int32.ofInt (s 156 i4))), (9, .int (Int32.ofInt (((2 * x1) + 1) - (s 156 i4))))]) (lsub_p [3, 4, 5, 6, 7, 8, 9, 2, 1, 0] rfl rfl rfl) ?_
      exact xm_turnsOver_b126_j191_ok hS h hx kn kc
noncomputable def xm_turnsOver_j121 (s : Hp) (x1 : Int) (x2 : Int) (x3 : Int) (x4 : Int) (k0 : Int) : Option Hp :=
  (lp (fun (q : Int × Hp) => xm_turnsOver_b126 q.2 x1 x2 x3 x4 k0 q.1) (0, s)).bind fun q1 => if w32 ((x4 - x1) - 1) < w32 (x1 + 1) then (ix 130 10).bind fun i12 => (some (uh q1.2 156 i12 (x1 + 1))).bind fun s14 => some s14 else (ix 130 10).bind fun i6 => (some (uh q1.2 156 i6 ((x4 - x1) - 1))).bind fun s8 => some s8
set_option maxRecDepth 100000 in
theorem xm_turnsOver_j121_ok {d : Nat} {P : Option Value → pm_H → Prop} {w : pm_H} {sh : Shp} {w0 : pm_H} {s : Hp} (hS : StM sh) {x1 : Int} {x2 : Int} {x3 : Int} {x4 : Int} {k0 : Int} (h : Rw sh w0 s w) {o : Hp} (hx : xm_turnsOver_j121 s x1 x2 x3 x4 k0 = some o) (kr : ∀ w1, Rw sh w0 o w1 → P none w1) : wp (d + 2) 208 121 [(0, .ref 146), (1, .int (Int32.ofInt x1)), (2, .int (Int32.ofInt x2)), (3, .int (Int32.ofInt x3)), (4, .int (Int32.ofInt x4))] [.int (Int32.ofInt k0)] w P := by
  unfold xm_turnsOver_j121 at hx
  refine wp_g 3 (pc1 := 126) (lv1 := [(6, .int (Int32.ofInt 0)), (5, .int (Int32.ofInt k0)), (0, .ref 146), (1, .int (Int32.ofInt x1)), (2, .int (Int32.ofInt x2)), (3, .int (Int32.ofInt x3)), (4, .int (Int32.ofInt x4))]) (st1 := []) (w1 := w) rfl ?_
  refine wp_lv (lv1 := [(0, .ref 146), (1, .int (Int32.ofInt x1)), (2, .int (Int32.ofInt x2)), (3, .int (Int32.ofInt x3)), (4, .int (Int32.ofInt x4)), (5, .int (Int32.ofInt k0)), (6, .int (Int32.ofInt 0))]) (lsub_p [2, 3, 4, 5, 6, 1, 0] rfl rfl rfl) ?_
  obtain ⟨q1, e2, hx⟩ := bd hx
  refine wp_lp (σ := Int × Hp) (ρ := (Int × Hp)) (B := fun q => xm_turnsOver_b126 q.2 x1 x2 x3 x4 k0 q.1) (R := fun q w' => Rw sh w0 q.2 w') (C := fun r => ∀ w1, Rw sh w0 r.2 w1 → wp (d + 2) 208 315 [(0, .ref 146), (1, .int (Int32.ofInt x1)), (2, .int (Int32.ofInt x2)), (3, .int (Int32.ofInt x3)), (4, .int (Int32.ofInt x4)), (5, .int (Int32.ofInt k0)), (6, .int (Int32.ofInt r.1))] [] w1 P) (lv := fun q => [(0, .ref 146), (1, .int (Int32.ofInt x1)), (2, .int (Int32.ofInt x2)), (3, .int (Int32.ofInt x3)), (4, .int (Int32.ofInt x4)), (5, .int (Int32.ofInt k0)), (6, .int (Int32.ofInt q.1))]) (hd := 126) (fun q w' o hR hb kn kc => xm_turnsOver_b126_ok hS hR hb kn kc) _ _ _ e2 h ?_
  intro w3 h4
  show wp _ 208 315 [(0, .ref 146), (1, .int (Int32.ofInt x1)), (2, .int (Int32.ofInt x2)), (3, .int (Int32.ofInt x3)), (4, .int (Int32.ofInt x4)), (5, .int (Int32.ofInt k0)), (6, .int (Int32.ofInt q1.1))] [] w3 _
  refine wp_g 1 (pc1 := 316) (lv1 := [(0, .ref 146), (1, .int (Int32.ofInt x1)), (2, .int (Int32.ofInt x2)), (3, .int (Int32.ofInt x3)), (4, .int (Int32.ofInt x4)), (5, .int (Int32.ofInt k0)), (6, .int (Int32.ofInt q1.1))]) (st1 := [.ref 146]) (w1 := w3) rfl ?_
  refine wx_gr (o := 10) (kf := 39) (ln := 3) (ci := 12) (b := 20) (zz := 0) (x := 146) (by decide +kernel) h4 (hS _ _ sm_146) rfl ?_
  show wp _ 208 319 [(0, .ref 146), (1, .int (Int32.ofInt x1)), (2, .int (Int32.ofInt x2)), (3, .int (Int32.ofInt x3)), (4, .int (Int32.ofInt x4)), (5, .int (Int32.ofInt k0)), (6, .int (Int32.ofInt q1.1))] [.ref 156] w3 _
  refine wp_g 9 (pc1 := 330) (lv1 := [(0, .ref 146), (1, .int (Int32.ofInt x1)), (2, .int (Int32.ofInt x2)), (3, .int (Int32.ofInt x3)), (4, .int (Int32.ofInt x4)), (5, .int (Int32.ofInt k0)), (6, .int (Int32.ofInt q1.1))]) (st1 := [.int (Int32.ofInt ((x4 - x1) - 1)), .int (Int32.ofInt (x1 + 1)), .int (Int32.ofInt 10), .ref 156]) (w1 := w3) (by simp only [Int32.ofInt_add, Int32.ofInt_sub, Int32.ofInt_mul, Int32.ofInt_neg, p_and, p_or, p_xor, p_shl, p_shr, p_usr, p_w8, p_c16, p_lI, q_and, q_or, q_shl, q_shr, q_w32, Int64.ofInt_add, Int64.ofInt_sub, Int64.ofInt_mul, p_mx, p_mn, q_mx, q_mn]; rfl) ?_
  refine wx_le (oo := 9) (ln := 3) (a := 339) (b := 0) (zz := 0) (by decide +kernel) (fun h5 => ?_) (fun h5 => ?_)
  · have hx := ite_f h5 hx
    refine wp_g 5 (pc1 := 345) (lv1 := [(0, .ref 146), (1, .int (Int32.ofInt x1)), (2, .int (Int32.ofInt x2)), (3, .int (Int32.ofInt x3)), (4, .int (Int32.ofInt x4)), (5, .int (Int32.ofInt k0)), (6, .int (Int32.ofInt q1.1))]) (st1 := [.int (Int32.ofInt ((x4 - x1) - 1)), .int (Int32.ofInt 10), .ref 156]) (w1 := w3) (by simp only [Int32.ofInt_add, Int32.ofInt_sub, Int32.ofInt_mul, Int32.ofInt_neg, p_and, p_or, p_xor, p_shl, p_shr, p_usr, p_w8, p_c16, p_lI, q_and, q_or, q_shl, q_shr, q_w32, Int64.ofInt_add, Int64.ofInt_sub, Int64.ofInt_mul, p_mx, p_mn, q_mx, q_mn]; rfl) ?_
    obtain ⟨i6, e7, hx⟩ := bd hx
    obtain ⟨s8, e9, hx⟩ := bd hx
    refine wx_wa (x := 156) (n := 130) (ln := 1) (a := 0) (b := 0) (zz := 0) (by decide +kernel) h4 (hS _ _ sm_156) e7 e9 (fun w10 h11 => ?_)
    refine wp_rt (i := .return_) (r := none) (ln := 1) (a := 0) (b := 0) (z := 0) (by decide +kernel) rfl (ret_v (by decide +kernel)) ?_
    cases hx
    exact kr _ h11
  · have hx := ite_t h5 hx
    refine wp_g 4 (pc1 := 345) (lv1 := [(0, .ref 146), (1, .int (Int32.ofInt x1)), (2, .int (Int32.ofInt x2)), (3, .int (Int32.ofInt x3)), (4, .int (Int32.ofInt x4)), (5, .int (Int32.ofInt k0)), (6, .int (Int32.ofInt q1.1))]) (st1 := [.int (Int32.ofInt (x1 + 1)), .int (Int32.ofInt 10), .ref 156]) (w1 := w3) (by simp only [Int32.ofInt_add, Int32.ofInt_sub, Int32.ofInt_mul, Int32.ofInt_neg, p_and, p_or, p_xor, p_shl, p_shr, p_usr, p_w8, p_c16, p_lI, q_and, q_or, q_shl, q_shr, q_w32, Int64.ofInt_add, Int64.ofInt_sub, Int64.ofInt_mul, p_mx, p_mn, q_mx, q_mn]; rfl) ?_
    obtain ⟨i12, e13, hx⟩ := bd hx
    obtain ⟨s14, e15, hx⟩ := bd hx
    refine wx_wa (x := 156) (n := 130) (ln := 1) (a := 0) (b := 0) (zz := 0) (by decide +kernel) h4 (hS _ _ sm_156) e13 e15 (fun w16 h17 => ?_)
    refine wp_rt (i := .return_) (r := none) (ln := 1) (a := 0) (b := 0) (z := 0) (by decide +kernel) rfl (ret_v (by decide +kernel)) ?_
    cases hx
    exact kr _ h17
/-- FoldDeedsModel.turnsOver (III)V -/
noncomputable def xm_turnsOver (s : Hp) (p1 : Int) (p2 : Int) (p3 : Int) : Option Hp :=
  (ix 130 10).bind fun i1 => (lp (fun (q : Int × Hp) => xm_turnsOver_b12 q.2 p1 p2 p3 (s 156 i1) q.1) (0, s)).bind fun q3 => (lp (fun (q : Int × Hp) => xm_turnsOver_b41 q.2 p1 p2 p3 (s 156 i1) q.1) (0, q3.2)).bind fun q7 => if w32 p2 = w32 1 then xm_turnsOver_j121 q7.2 p1 p2 p3 (s 156 i1) (p1 + 1) else if w32 (((2 * p1) + 2) - (s 156 i1)) < 0 then xm_turnsOver_j121 q7.2 p1 p2 p3 (s 156 i1) (((2 * p1) + 2) - (s 156 i1)) else xm_turnsOver_j121 q7.2 p1 p2 p3 (s 156 i1) 0
set_option maxRecDepth 100000 in
theorem xm_turnsOver_ok {d : Nat} {P : Option Value → pm_H → Prop} {w : pm_H} {sh : Shp} {w0 : pm_H} {s : Hp} (hS : StM sh) {p1 : Int} {p2 : Int} {p3 : Int} (h : Rw sh w0 s w) {o : Hp} (hx : xm_turnsOver s p1 p2 p3 = some o) (kr : ∀ w1, Rw sh w0 o w1 → P none w1) : wp (d + 2) 208 0 (lv_args 0 [.ref 146, .int (Int32.ofInt p1), .int (Int32.ofInt p2), .int (Int32.ofInt p3)]) [] w P := by
  show wp _ 208 0 [(0, .ref 146), (1, .int (Int32.ofInt p1)), (2, .int (Int32.ofInt p2)), (3, .int (Int32.ofInt p3))] [] w _
  unfold xm_turnsOver at hx
  refine wp_g 1 (pc1 := 1) (lv1 := [(0, .ref 146), (1, .int (Int32.ofInt p1)), (2, .int (Int32.ofInt p2)), (3, .int (Int32.ofInt p3))]) (st1 := [.ref 146]) (w1 := w) rfl ?_
  refine wx_gr (o := 10) (kf := 39) (ln := 3) (ci := 12) (b := 20) (zz := 0) (x := 146) (by decide +kernel) h (hS _ _ sm_146) rfl ?_
  show wp _ 208 4 [(0, .ref 146), (1, .int (Int32.ofInt p1)), (2, .int (Int32.ofInt p2)), (3, .int (Int32.ofInt p3))] [.ref 156] w _
  refine wp_g 1 (pc1 := 6) (lv1 := [(0, .ref 146), (1, .int (Int32.ofInt p1)), (2, .int (Int32.ofInt p2)), (3, .int (Int32.ofInt p3))]) (st1 := [.int (Int32.ofInt 10), .ref 156]) (w1 := w) rfl ?_
  obtain ⟨i1, e2, hx⟩ := bd hx
  refine wx_ra (x := 156) (n := 130) (ln := 1) (a := 0) (b := 0) (zz := 0) (by decide +kernel) h (hS _ _ sm_156) e2 ?_
  show wp _ 208 7 [(0, .ref 146), (1, .int (Int32.ofInt p1)), (2, .int (Int32.ofInt p2)), (3, .int (Int32.ofInt p3))] [.int (Int32.ofInt (s 156 i1))] w _
  refine wp_g 3 (pc1 := 12) (lv1 := [(5, .int (Int32.ofInt 0)), (4, .int (Int32.ofInt (s 156 i1))), (0, .ref 146), (1, .int (Int32.ofInt p1)), (2, .int (Int32.ofInt p2)), (3, .int (Int32.ofInt p3))]) (st1 := []) (w1 := w) rfl ?_
  refine wp_lv (lv1 := [(0, .ref 146), (1, .int (Int32.ofInt p1)), (2, .int (Int32.ofInt p2)), (3, .int (Int32.ofInt p3)), (4, .int (Int32.ofInt (s 156 i1))), (5, .int (Int32.ofInt 0))]) (lsub_p [2, 3, 4, 5, 1, 0] rfl rfl rfl) ?_
  obtain ⟨q3, e4, hx⟩ := bd hx
  refine wp_lp (σ := Int × Hp) (ρ := (Int × Hp)) (B := fun q => xm_turnsOver_b12 q.2 p1 p2 p3 (s 156 i1) q.1) (R := fun q w' => Rw sh w0 q.2 w') (C := fun r => ∀ w1, Rw sh w0 r.2 w1 → wp (d + 2) 208 38 [(0, .ref 146), (1, .int (Int32.ofInt p1)), (2, .int (Int32.ofInt p2)), (3, .int (Int32.ofInt p3)), (4, .int (Int32.ofInt (s 156 i1))), (5, .int (Int32.ofInt r.1))] [] w1 P) (lv := fun q => [(0, .ref 146), (1, .int (Int32.ofInt p1)), (2, .int (Int32.ofInt p2)), (3, .int (Int32.ofInt p3)), (4, .int (Int32.ofInt (s 156 i1))), (5, .int (Int32.ofInt q.1))]) (hd := 12) (fun q w' o hR hb kn kc => xm_turnsOver_b12_ok hS hR hb kn kc) _ _ _ e4 h ?_
  intro w5 h6
  show wp _ 208 38 [(0, .ref 146), (1, .int (Int32.ofInt p1)), (2, .int (Int32.ofInt p2)), (3, .int (Int32.ofInt p3)), (4, .int (Int32.ofInt (s 156 i1))), (5, .int (Int32.ofInt q3.1))] [] w5 _
  refine wp_g 2 (pc1 := 41) (lv1 := [(5, .int (Int32.ofInt 0)), (0, .ref 146), (1, .int (Int32.ofInt p1)), (2, .int (Int32.ofInt p2)), (3, .int (Int32.ofInt p3)), (4, .int (Int32.ofInt (s 156 i1)))]) (st1 := []) (w1 := w5) rfl ?_
  refine wp_lv (lv1 := [(0, .ref 146), (1, .int (Int32.ofInt p1)), (2, .int (Int32.ofInt p2)), (3, .int (Int32.ofInt p3)), (4, .int (Int32.ofInt (s 156 i1))), (5, .int (Int32.ofInt 0))]) (lsub_p [1, 2, 3, 4, 5, 0] rfl rfl rfl) ?_
  obtain ⟨q7, e8, hx⟩ := bd hx
  refine wp_lp (σ := Int × Hp) (ρ := (Int × Hp)) (B := fun q => xm_turnsOver_b41 q.2 p1 p2 p3 (s 156 i1) q.1) (R := fun q w' => Rw sh w0 q.2 w') (C := fun r => ∀ w1, Rw sh w0 r.2 w1 → wp (d + 2) 208 87 [(0, .ref 146), (1, .int (Int32.ofInt p1)), (2, .int (Int32.ofInt p2)), (3, .int (Int32.ofInt p3)), (4, .int (Int32.ofInt (s 156 i1))), (5, .int (Int32.ofInt r.1))] [] w1 P) (lv := fun q => [(0, .ref 146), (1, .int (Int32.ofInt p1)), (2, .int (Int32.ofInt p2)), (3, .int (Int32.ofInt p3)), (4, .int (Int32.ofInt (s 156 i1))), (5, .int (Int32.ofInt q.1))]) (hd := 41) (fun q w' o hR hb kn kc => xm_turnsOver_b41_ok hS hR hb kn kc) _ _ _ e8 h6 ?_
  intro w9 h10
  show wp _ 208 87 [(0, .ref 146), (1, .int (Int32.ofInt p1)), (2, .int (Int32.ofInt p2)), (3, .int (Int32.ofInt p3)), (4, .int (Int32.ofInt (s 156 i1))), (5, .int (Int32.ofInt q7.1))] [] w9 _
  refine wp_g 2 (pc1 := 89) (lv1 := [(0, .ref 146), (1, .int (Int32.ofInt p1)), (2, .int (Int32.ofInt p2)), (3, .int (Int32.ofInt p3)), (4, .int (Int32.ofInt (s 156 i1))), (5, .int (Int32.ofInt q7.1))]) (st1 := [.int (Int32.ofInt 1), .int (Int32.ofInt p2)]) (w1 := w9) rfl ?_
  refine wx_ne (oo := 9) (ln := 3) (a := 98) (b := 0) (zz := 0) (by decide +kernel) (fun h11 => ?_) (fun h11 => ?_)
  · have hx := ite_f h11 hx
    refine wp_g 7 (pc1 := 106) (lv1 := [(0, .ref 146), (1, .int (Int32.ofInt p1)), (2, .int (Int32.ofInt p2)), (3, .int (Int32.ofInt p3)), (4, .int (Int32.ofInt (s 156 i1))), (5, .int (Int32.ofInt q7.1))]) (st1 := [.int (Int32.ofInt (((2 * p1) + 2) - (s 156 i1)))]) (w1 := w9) (by simp only [Int32.ofInt_add, Int32.ofInt_sub, Int32.ofInt_mul, Int32.ofInt_neg, p_and, p_or, p_xor, p_shl, p_shr, p_usr, p_w8, p_c16, p_lI, q_and, q_or, q_shl, q_shr, q_w32, Int64.ofInt_add, Int64.ofInt_sub, Int64.ofInt_mul, p_mx, p_mn, q_mx, q_mn]; rfl) ?_
    refine wz_ge (oo := 14) (ln := 3) (a := 120) (b := 0) (zz := 0) (by decide +kernel) (fun h12 => ?_) (fun h12 => ?_)
    · have hx := ite_f h12 hx
      refine wp_g 1 (pc1 := 121) (lv1 := [(0, .ref 146), (1, .int (Int32.ofInt p1)), (2, .int (Int32.ofInt p2)), (3, .int (Int32.ofInt p3)), (4, .int (Int32.ofInt (s 156 i1))), (5, .int (Int32.ofInt q7.1))]) (st1 := [.int (Int32.ofInt 0)]) (w1 := w9) rfl ?_
      refine wp_lv (lv1 := [(0, .ref 146), (1, .int (Int32.ofInt p1)), (2, .int (Int32.ofInt p2)), (3, .int (Int32.ofInt p3)), (4, .int (Int32.ofInt (s 156 i1)))]) (lsub_p [0, 1, 2, 3, 4] rfl rfl rfl) ?_
      exact xm_turnsOver_j121_ok hS h10 hx kr
    · have hx := ite_t h12 hx
      refine wp_g 8 (pc1 := 121) (lv1 := [(0, .ref 146), (1, .int (Int32.ofInt p1)), (2, .int (Int32.ofInt p2)), (3, .int (Int32.ofInt p3)), (4, .int (Int32.ofInt (s 156 i1))), (5, .int (Int32.ofInt q7.1))]) (st1 := [.int (Int32.ofInt (((2 * p1) + 2) - (s 156 i1)))]) (w1 := w9) (by simp only [Int32.ofInt_add, Int32.ofInt_sub, Int32.ofInt_mul, Int32.ofInt_neg, p_and, p_or, p_xor, p_shl, p_shr, p_usr, p_w8, p_c16, p_lI, q_and, q_or, q_shl, q_shr, q_w32, Int64.ofInt_add, Int64.ofInt_sub, Int64.ofInt_mul, p_mx, p_mn, q_mx, q_mn]; rfl) ?_
      refine wp_lv (lv1 := [(0, .ref 146), (1, .int (Int32.ofInt p1)), (2, .int (Int32.ofInt p2)), (3, .int (Int32.ofInt p3)), (4, .int (Int32.ofInt (s 156 i1)))]) (lsub_p [0, 1, 2, 3, 4] rfl rfl rfl) ?_
      exact xm_turnsOver_j121_ok hS h10 hx kr
  · have hx := ite_t h11 hx
    refine wp_g 4 (pc1 := 121) (lv1 := [(0, .ref 146), (1, .int (Int32.ofInt p1)), (2, .int (Int32.ofInt p2)), (3, .int (Int32.ofInt p3)), (4, .int (Int32.ofInt (s 156 i1))), (5, .int (Int32.ofInt q7.1))]) (st1 := [.int (Int32.ofInt (p1 + 1))]) (w1 := w9) (by simp only [Int32.ofInt_add, Int32.ofInt_sub, Int32.ofInt_mul, Int32.ofInt_neg, p_and, p_or, p_xor, p_shl, p_shr, p_usr, p_w8, p_c16, p_lI, q_and, q_or, q_shl, q_shr, q_w32, Int64.ofInt_add, Int64.ofInt_sub, Int64.ofInt_mul, p_mx, p_mn, q_mx, q_mn]; rfl) ?_
    refine wp_lv (lv1 := [(0, .ref 146), (1, .int (Int32.ofInt p1)), (2, .int (Int32.ofInt p2)), (3, .int (Int32.ofInt p3)), (4, .int (Int32.ofInt (s 156 i1)))]) (lsub_p [0, 1, 2, 3, 4] rfl rfl rfl) ?_
    exact xm_turnsOver_j121_ok hS h10 hx kr
noncomputable def xm_summedBy_b2_j58 (s : Hp) (x1 : Int) (x3 : Int) : Option ((Int × Hp) ⊕ ((Int × Hp) ⊕ (Int × Hp))) :=
  (ix 288 x3).bind fun i1 => (ix 288 (x3 + 1)).bind fun i3 => (xm_reckons s x1 (s 150 i1) (s 150 i3)).bind fun o5 => some (.inr (.inr (o5.1, o5.2)))
set_option maxRecDepth 100000 in
theorem xm_summedBy_b2_j58_ok {d : Nat} {P : Option Value → pm_H → Prop} {w : pm_H} {sh : Shp} {w0 : pm_H} {s : Hp} (hS : StM sh) {x1 : Int} {x3 : Int} (h : Rw sh w0 s w) {o : ((Int × Hp) ⊕ ((Int × Hp) ⊕ (Int × Hp)))} (hx : xm_summedBy_b2_j58 s x1 x3 = some o) (kn : ∀ (q : Int × Hp) w1, o = .inl q → Rw sh w0 q.2 w1 → wp (d + 2) 209 2 [(0, .ref 146), (1, .int (Int32.ofInt x1)), (2, .int (Int32.ofInt q.1))] [] w1 P) (kc : ∀ (r : ((Int × Hp) ⊕ (Int × Hp))), o = .inr r → ((∀ q1 w1, r = .inl q1 → Rw sh w0 q1.2 w1 → wp (d + 2) 209 84 [(0, .ref 146), (1, .int (Int32.ofInt x1)), (2, .int (Int32.ofInt q1.1))] [] w1 P) ∧ (∀ v1 w1, r = .inr v1 → Rw sh w0 v1.2 w1 → P (some (.long (Int64.ofInt v1.1))) w1))) : wp (d + 2) 209 58 [(0, .ref 146), (1, .int (Int32.ofInt x1)), (3, .int (Int32.ofInt x3))] [] w P := by
  unfold xm_summedBy_b2_j58 at hx
  refine wp_g 3 (pc1 := 61) (lv1 := [(0, .ref 146), (1, .int (Int32.ofInt x1)), (3, .int (Int32.ofInt x3))]) (st1 := [.ref 146, .int (Int32.ofInt x1), .ref 146]) (w1 := w) rfl ?_
  refine wx_gr (o := 4) (kf := 20) (ln := 3) (ci := 12) (b := 5) (zz := 0) (x := 146) (by decide +kernel) h (hS _ _ sm_146) rfl ?_
  show wp _ 209 64 [(0, .ref 146), (1, .int (Int32.ofInt x1)), (3, .int (Int32.ofInt x3))] [.ref 150, .int (Int32.ofInt x1), .ref 146] w _
  refine wp_g 1 (pc1 := 65) (lv1 := [(0, .ref 146), (1, .int (Int32.ofInt x1)), (3, .int (Int32.ofInt x3))]) (st1 := [.int (Int32.ofInt x3), .ref 150, .int (Int32.ofInt x1), .ref 146]) (w1 := w) rfl ?_
  obtain ⟨i1, e2, hx⟩ := bd hx
  refine wx_ra (x := 150) (n := 288) (ln := 1) (a := 0) (b := 0) (zz := 0) (by decide +kernel) h (hS _ _ sm_150) e2 ?_
  show wp _ 209 66 [(0, .ref 146), (1, .int (Int32.ofInt x1)), (3, .int (Int32.ofInt x3))] [.int (Int32.ofInt (s 150 i1)), .int (Int32.ofInt x1), .ref 146] w _
  refine wp_g 1 (pc1 := 67) (lv1 := [(0, .ref 146), (1, .int (Int32.ofInt x1)), (3, .int (Int32.ofInt x3))]) (st1 := [.ref 146, .int (Int32.ofInt (s 150 i1)), .int (Int32.ofInt x1), .ref 146]) (w1 := w) rfl ?_
  refine wx_gr (o := 4) (kf := 20) (ln := 3) (ci := 12) (b := 5) (zz := 0) (x := 146) (by decide +kernel) h (hS _ _ sm_146) rfl ?_
  show wp _ 209 70 [(0, .ref 146), (1, .int (Int32.ofInt x1)), (3, .int (Int32.ofInt x3))] [.ref 150, .int (Int32.ofInt (s 150 i1)), .int (Int32.ofInt x1), .ref 146] w _
  refine wp_g 3 (pc1 := 73) (lv1 := [(0, .ref 146), (1, .int (Int32.ofInt x1)), (3, .int (Int32.ofInt x3))]) (st1 := [.int (Int32.ofInt (x3 + 1)), .ref 150, .int (Int32.ofInt (s 150 i1)), .int (Int32.ofInt x1), .ref 146]) (w1 := w) (by simp only [Int32.ofInt_add, Int32.ofInt_sub, Int32.ofInt_mul, Int32.ofInt_neg, p_and, p_or, p_xor, p_shl, p_shr, p_usr, p_w8, p_c16, p_lI, q_and, q_or, q_shl, q_shr, q_w32, Int64.ofInt_add, Int64.ofInt_sub, Int64.ofInt_mul, p_mx, p_mn, q_mx, q_mn]; rfl) ?_
  obtain ⟨i3, e4, hx⟩ := bd hx
  refine wx_ra (x := 150) (n := 288) (ln := 1) (a := 0) (b := 0) (zz := 0) (by decide +kernel) h (hS _ _ sm_150) e4 ?_
  show wp _ 209 74 [(0, .ref 146), (1, .int (Int32.ofInt x1)), (3, .int (Int32.ofInt x3))] [.int (Int32.ofInt (s 150 i3)), .int (Int32.ofInt (s 150 i1)), .int (Int32.ofInt x1), .ref 146] w _
  obtain ⟨o5, e6, hx⟩ := bd hx
  refine wp_cl [.ref 146, .int (Int32.ofInt x1), .int (Int32.ofInt (s 150 i1)), .int (Int32.ofInt (s 150 i3))] [] (i := .invokevirtual 338) (ln := 3) (a := 189) (b := 0) (z := 0) (by decide +kernel) rfl rfl (by decide) rfl (show (4 : Nat) = pm_na 189 by decide +kernel) (Nat.le_of_ble_eq_true rfl) (show (4 : Nat) ≤ pm_n 189 by decide +kernel) (rcv_x 12 h (hS _ _ sm_146) (by decide +kernel)) (xm_reckons_ok (d := d) hS h e6 (fun w7 h8 => ?_))
  show wp _ 209 77 [(0, .ref 146), (1, .int (Int32.ofInt x1)), (3, .int (Int32.ofInt x3))] [.long (Int64.ofInt o5.1)] w7 _
  refine wp_rt (i := .lreturn) (r := some (.long (Int64.ofInt o5.1))) (ln := 1) (a := 0) (b := 0) (z := 0) (by decide +kernel) rfl (ret_l (by decide +kernel)) ?_
  cases hx
  exact (kc _ rfl).2 _ _ rfl h8
noncomputable def xm_summedBy_b2 (s : Hp) (x1 : Int) (x2 : Int) : Option ((Int × Hp) ⊕ ((Int × Hp) ⊕ (Int × Hp))) :=
  (ix 6 x1).bind fun i1 => if w32 x2 < w32 (s 151 i1) then (ix 288 (((48 * x1) + (4 * x2)) + 2)).bind fun i4 => if w32 (s 150 i4) < 0 then xm_summedBy_b2_j58 s x1 ((48 * x1) + (4 * x2)) else (ix 288 (((48 * x1) + (4 * x2)) + 3)).bind fun i7 => (xm_reckons s x1 (s 150 i4) (s 150 i7)).bind fun o9 => if w64 o9.1 = w64 1 then xm_summedBy_b2_j58 o9.2 x1 ((48 * x1) + (4 * x2)) else some (.inl (x2 + 1, o9.2)) else some (.inr (.inl (x2, s)))
set_option maxRecDepth 100000 in
theorem xm_summedBy_b2_ok {d : Nat} {P : Option Value → pm_H → Prop} {w : pm_H} {sh : Shp} {w0 : pm_H} {s : Hp} (hS : StM sh) {x1 : Int} {x2 : Int} (h : Rw sh w0 s w) {o : ((Int × Hp) ⊕ ((Int × Hp) ⊕ (Int × Hp)))} (hx : xm_summedBy_b2 s x1 x2 = some o) (kn : ∀ (q : Int × Hp) w1, o = .inl q → Rw sh w0 q.2 w1 → wp (d + 2) 209 2 [(0, .ref 146), (1, .int (Int32.ofInt x1)), (2, .int (Int32.ofInt q.1))] [] w1 P) (kc : ∀ (r : ((Int × Hp) ⊕ (Int × Hp))), o = .inr r → ((∀ q1 w1, r = .inl q1 → Rw sh w0 q1.2 w1 → wp (d + 2) 209 84 [(0, .ref 146), (1, .int (Int32.ofInt x1)), (2, .int (Int32.ofInt q1.1))] [] w1 P) ∧ (∀ v1 w1, r = .inr v1 → Rw sh w0 v1.2 w1 → P (some (.long (Int64.ofInt v1.1))) w1))) : wp (d + 2) 209 2 [(0, .ref 146), (1, .int (Int32.ofInt x1)), (2, .int (Int32.ofInt x2))] [] w P := by
  unfold xm_summedBy_b2 at hx
  refine wp_g 2 (pc1 := 4) (lv1 := [(0, .ref 146), (1, .int (Int32.ofInt x1)), (2, .int (Int32.ofInt x2))]) (st1 := [.ref 146, .int (Int32.ofInt x2)]) (w1 := w) rfl ?_
  refine wx_gr (o := 5) (kf := 23) (ln := 3) (ci := 12) (b := 6) (zz := 0) (x := 146) (by decide +kernel) h (hS _ _ sm_146) rfl ?_
  show wp _ 209 7 [(0, .ref 146), (1, .int (Int32.ofInt x1)), (2, .int (Int32.ofInt x2))] [.ref 151, .int (Int32.ofInt x2)] w _
  refine wp_g 1 (pc1 := 8) (lv1 := [(0, .ref 146), (1, .int (Int32.ofInt x1)), (2, .int (Int32.ofInt x2))]) (st1 := [.int (Int32.ofInt x1), .ref 151, .int (Int32.ofInt x2)]) (w1 := w) rfl ?_
  obtain ⟨i1, e2, hx⟩ := bd hx
  refine wx_ra (x := 151) (n := 6) (ln := 1) (a := 0) (b := 0) (zz := 0) (by decide +kernel) h (hS _ _ sm_151) e2 ?_
  show wp _ 209 9 [(0, .ref 146), (1, .int (Int32.ofInt x1)), (2, .int (Int32.ofInt x2))] [.int (Int32.ofInt (s 151 i1)), .int (Int32.ofInt x2)] w _
  refine wx_ge (oo := 75) (ln := 3) (a := 84) (b := 0) (zz := 0) (by decide +kernel) (fun h3 => ?_) (fun h3 => ?_)
  · have hx := ite_f h3 hx
    cases hx
    exact (kc _ rfl).1 _ _ rfl h
  · have hx := ite_t h3 hx
    refine wp_g 9 (pc1 := 22) (lv1 := [(3, .int (Int32.ofInt ((48 * x1) + (4 * x2)))), (0, .ref 146), (1, .int (Int32.ofInt x1)), (2, .int (Int32.ofInt x2))]) (st1 := [.ref 146]) (w1 := w) (by simp only [Int32.ofInt_add, Int32.ofInt_sub, Int32.ofInt_mul, Int32.ofInt_neg, p_and, p_or, p_xor, p_shl, p_shr, p_usr, p_w8, p_c16, p_lI, q_and, q_or, q_shl, q_shr, q_w32, Int64.ofInt_add, Int64.ofInt_sub, Int64.ofInt_mul, p_mx, p_mn, q_mx, q_mn]; rfl) ?_
    refine wx_gr (o := 4) (kf := 20) (ln := 3) (ci := 12) (b := 5) (zz := 0) (x := 146) (by decide +kernel) h (hS _ _ sm_146) rfl ?_
    show wp _ 209 25 [(3, .int (Int32.ofInt ((48 * x1) + (4 * x2)))), (0, .ref 146), (1, .int (Int32.ofInt x1)), (2, .int (Int32.ofInt x2))] [.ref 150] w _
    refine wp_g 3 (pc1 := 28) (lv1 := [(3, .int (Int32.ofInt ((48 * x1) + (4 * x2)))), (0, .ref 146), (1, .int (Int32.ofInt x1)), (2, .int (Int32.ofInt x2))]) (st1 := [.int (Int32.ofInt (((48 * x1) + (4 * x2)) + 2)), .ref 150]) (w1 := w) (by simp only [Int32.ofInt_add, Int32.ofInt_sub, Int32.ofInt_mul, Int32.ofInt_neg, p_and, p_or, p_xor, p_shl, p_shr, p_usr, p_w8, p_c16, p_lI, q_and, q_or, q_shl, q_shr, q_w32, Int64.ofInt_add, Int64.ofInt_sub, Int64.ofInt_mul, p_mx, p_mn, q_mx, q_mn]; rfl) ?_
    obtain ⟨i4, e5, hx⟩ := bd hx
    refine wx_ra (x := 150) (n := 288) (ln := 1) (a := 0) (b := 0) (zz := 0) (by decide +kernel) h (hS _ _ sm_150) e5 ?_
    show wp _ 209 29 [(3, .int (Int32.ofInt ((48 * x1) + (4 * x2)))), (0, .ref 146), (1, .int (Int32.ofInt x1)), (2, .int (Int32.ofInt x2))] [.int (Int32.ofInt (s 150 i4))] w _
    refine wz_lt (oo := 29) (ln := 3) (a := 58) (b := 0) (zz := 0) (by decide +kernel) (fun h6 => ?_) (fun h6 => ?_)
    · have hx := ite_t h6 hx
      refine wp_lv (lv1 := [(0, .ref 146), (1, .int (Int32.ofInt x1)), (3, .int (Int32.ofInt ((48 * x1) + (4 * x2))))]) (lsub_p [1, 2, 0] rfl rfl rfl) ?_
      exact xm_summedBy_b2_j58_ok hS h hx kn kc
    · have hx := ite_f h6 hx
      refine wp_g 3 (pc1 := 35) (lv1 := [(3, .int (Int32.ofInt ((48 * x1) + (4 * x2)))), (0, .ref 146), (1, .int (Int32.ofInt x1)), (2, .int (Int32.ofInt x2))]) (st1 := [.ref 146, .int (Int32.ofInt x1), .ref 146]) (w1 := w) rfl ?_
      refine wx_gr (o := 4) (kf := 20) (ln := 3) (ci := 12) (b := 5) (zz := 0) (x := 146) (by decide +kernel) h (hS _ _ sm_146) rfl ?_
      show wp _ 209 38 [(3, .int (Int32.ofInt ((48 * x1) + (4 * x2)))), (0, .ref 146), (1, .int (Int32.ofInt x1)), (2, .int (Int32.ofInt x2))] [.ref 150, .int (Int32.ofInt x1), .ref 146] w _
      refine wp_g 3 (pc1 := 41) (lv1 := [(3, .int (Int32.ofInt ((48 * x1) + (4 * x2)))), (0, .ref 146), (1, .int (Int32.ofInt x1)), (2, .int (Int32.ofInt x2))]) (st1 := [.int (Int32.ofInt (((48 * x1) + (4 * x2)) + 2)), .ref 150, .int (Int32.ofInt x1), .ref 146]) (w1 := w) (by simp only [Int32.ofInt_add, Int32.ofInt_sub, Int32.ofInt_mul, Int32.ofInt_neg, p_and, p_or, p_xor, p_shl, p_shr, p_usr, p_w8, p_c16, p_lI, q_and, q_or, q_shl, q_shr, q_w32, Int64.ofInt_add, Int64.ofInt_sub, Int64.ofInt_mul, p_mx, p_mn, q_mx, q_mn]; rfl) ?_
      refine wx_ra (x := 150) (n := 288) (ln := 1) (a := 0) (b := 0) (zz := 0) (by decide +kernel) h (hS _ _ sm_150) e5 ?_
      show wp _ 209 42 [(3, .int (Int32.ofInt ((48 * x1) + (4 * x2)))), (0, .ref 146), (1, .int (Int32.ofInt x1)), (2, .int (Int32.ofInt x2))] [.int (Int32.ofInt (s 150 i4)), .int (Int32.ofInt x1), .ref 146] w _
      refine wp_g 1 (pc1 := 43) (lv1 := [(3, .int (Int32.ofInt ((48 * x1) + (4 * x2)))), (0, .ref 146), (1, .int (Int32.ofInt x1)), (2, .int (Int32.ofInt x2))]) (st1 := [.ref 146, .int (Int32.ofInt (s 150 i4)), .int (Int32.ofInt x1), .ref 146]) (w1 := w) rfl ?_
      refine wx_gr (o := 4) (kf := 20) (ln := 3) (ci := 12) (b := 5) (zz := 0) (x := 146) (by decide +kernel) h (hS _ _ sm_146) rfl ?_
      show wp _ 209 46 [(3, .int (Int32.ofInt ((48 * x1) + (4 * x2)))), (0, .ref 146), (1, .int (Int32.ofInt x1)), (2, .int (Int32.ofInt x2))] [.ref 150, .int (Int32.ofInt (s 150 i4)), .int (Int32.ofInt x1), .ref 146] w _
      refine wp_g 3 (pc1 := 49) (lv1 := [(3, .int (Int32.ofInt ((48 * x1) + (4 * x2)))), (0, .ref 146), (1, .int (Int32.ofInt x1)), (2, .int (Int32.ofInt x2))]) (st1 := [.int (Int32.ofInt (((48 * x1) + (4 * x2)) + 3)), .ref 150, .int (Int32.ofInt (s 150 i4)), .int (Int32.ofInt x1), .ref 146]) (w1 := w) (by simp only [Int32.ofInt_add, Int32.ofInt_sub, Int32.ofInt_mul, Int32.ofInt_neg, p_and, p_or, p_xor, p_shl, p_shr, p_usr, p_w8, p_c16, p_lI, q_and, q_or, q_shl, q_shr, q_w32, Int64.ofInt_add, Int64.ofInt_sub, Int64.ofInt_mul, p_mx, p_mn, q_mx, q_mn]; rfl) ?_
      obtain ⟨i7, e8, hx⟩ := bd hx
      refine wx_ra (x := 150) (n := 288) (ln := 1) (a := 0) (b := 0) (zz := 0) (by decide +kernel) h (hS _ _ sm_150) e8 ?_
      show wp _ 209 50 [(3, .int (Int32.ofInt ((48 * x1) + (4 * x2)))), (0, .ref 146), (1, .int (Int32.ofInt x1)), (2, .int (Int32.ofInt x2))] [.int (Int32.ofInt (s 150 i7)), .int (Int32.ofInt (s 150 i4)), .int (Int32.ofInt x1), .ref 146] w _
      obtain ⟨o9, e10, hx⟩ := bd hx
      refine wp_cl [.ref 146, .int (Int32.ofInt x1), .int (Int32.ofInt (s 150 i4)), .int (Int32.ofInt (s 150 i7))] [] (i := .invokevirtual 338) (ln := 3) (a := 189) (b := 0) (z := 0) (by decide +kernel) rfl rfl (by decide) rfl (show (4 : Nat) = pm_na 189 by decide +kernel) (Nat.le_of_ble_eq_true rfl) (show (4 : Nat) ≤ pm_n 189 by decide +kernel) (rcv_x 12 h (hS _ _ sm_146) (by decide +kernel)) (xm_reckons_ok (d := d) hS h e10 (fun w11 h12 => ?_))
      show wp _ 209 53 [(3, .int (Int32.ofInt ((48 * x1) + (4 * x2)))), (0, .ref 146), (1, .int (Int32.ofInt x1)), (2, .int (Int32.ofInt x2))] [.long (Int64.ofInt o9.1)] w11 _
      refine wp_g 2 (pc1 := 55) (lv1 := [(3, .int (Int32.ofInt ((48 * x1) + (4 * x2)))), (0, .ref 146), (1, .int (Int32.ofInt x1)), (2, .int (Int32.ofInt x2))]) (st1 := [.int (lg_cmp (Int64.ofInt o9.1) (Int64.ofInt 1))]) (w1 := w11) rfl ?_
      refine wl_ne (oo := 23) (ln := 3) (a := 78) (b := 0) (zz := 0) (by decide +kernel) (fun h13 => ?_) (fun h13 => ?_)
      · have hx := ite_f h13 hx
        refine wp_g 2 (pc1 := 2) (lv1 := [(2, .int (Int32.ofInt (x2 + 1))), (3, .int (Int32.ofInt ((48 * x1) + (4 * x2)))), (0, .ref 146), (1, .int (Int32.ofInt x1))]) (st1 := []) (w1 := w11) (by simp only [Int32.ofInt_add, Int32.ofInt_sub, Int32.ofInt_mul, Int32.ofInt_neg, p_and, p_or, p_xor, p_shl, p_shr, p_usr, p_w8, p_c16, p_lI, q_and, q_or, q_shl, q_shr, q_w32, Int64.ofInt_add, Int64.ofInt_sub, Int64.ofInt_mul, p_mx, p_mn, q_mx, q_mn]; rfl) ?_
        refine wp_lv (lv1 := [(0, .ref 146), (1, .int (Int32.ofInt x1)), (2, .int (Int32.ofInt (x2 + 1)))]) (lsub_p [2, 3, 0] rfl rfl rfl) ?_
        cases hx
        exact kn _ _ rfl h12
      · have hx := ite_t h13 hx
        refine wp_lv (lv1 := [(0, .ref 146), (1, .int (Int32.ofInt x1)), (3, .int (Int32.ofInt ((48 * x1) + (4 * x2))))]) (lsub_p [1, 2, 0] rfl rfl rfl) ?_
        exact xm_summedBy_b2_j58_ok hS h12 hx kn kc
/-- FoldDeedsModel.summedBy (I)J -/
noncomputable def xm_summedBy (s : Hp) (p1 : Int) : Option (Int × Hp) :=
  (lp (fun (q : Int × Hp) => xm_summedBy_b2 q.2 p1 q.1) (0, s)).bind fun q1 => q1.elim (fun q5 => some (0, q5.2)) (fun r => some r)
set_option maxRecDepth 100000 in
theorem xm_summedBy_ok {d : Nat} {P : Option Value → pm_H → Prop} {w : pm_H} {sh : Shp} {w0 : pm_H} {s : Hp} (hS : StM sh) {p1 : Int} (h : Rw sh w0 s w) {o : Int × Hp} (hx : xm_summedBy s p1 = some o) (kr : ∀ w1, Rw sh w0 o.2 w1 → P (some (.long (Int64.ofInt o.1))) w1) : wp (d + 2) 209 0 (lv_args 0 [.ref 146, .int (Int32.ofInt p1)]) [] w P := by
  show wp _ 209 0 [(0, .ref 146), (1, .int (Int32.ofInt p1))] [] w _
  unfold xm_summedBy at hx
  refine wp_g 2 (pc1 := 2) (lv1 := [(2, .int (Int32.ofInt 0)), (0, .ref 146), (1, .int (Int32.ofInt p1))]) (st1 := []) (w1 := w) rfl ?_
  refine wp_lv (lv1 := [(0, .ref 146), (1, .int (Int32.ofInt p1)), (2, .int (Int32.ofInt 0))]) (lsub_p [1, 2, 0] rfl rfl rfl) ?_
  obtain ⟨q1, e2, hx⟩ := bd hx
  refine wp_lp (σ := Int × Hp) (ρ := ((Int × Hp) ⊕ (Int × Hp))) (B := fun q => xm_summedBy_b2 q.2 p1 q.1) (R := fun q w' => Rw sh w0 q.2 w') (C := fun r => (∀ q1 w1, r = .inl q1 → Rw sh w0 q1.2 w1 → wp (d + 2) 209 84 [(0, .ref 146), (1, .int (Int32.ofInt p1)), (2, .int (Int32.ofInt q1.1))] [] w1 P) ∧ (∀ v1 w1, r = .inr v1 → Rw sh w0 v1.2 w1 → P (some (.long (Int64.ofInt v1.1))) w1)) (lv := fun q => [(0, .ref 146), (1, .int (Int32.ofInt p1)), (2, .int (Int32.ofInt q.1))]) (hd := 2) (fun q w' o hR hb kn kc => xm_summedBy_b2_ok hS hR hb kn kc) _ _ _ e2 h ?_
  refine ⟨?_, fun v6 w1 hs h1 => by subst hs; cases (se_r hx); exact kr _ h1⟩
  intro q5 w3 hs h4
  subst hs
  replace hx := se_l hx
  show wp _ 209 84 [(0, .ref 146), (1, .int (Int32.ofInt p1)), (2, .int (Int32.ofInt q5.1))] [] w3 _
  refine wp_g 1 (pc1 := 85) (lv1 := [(0, .ref 146), (1, .int (Int32.ofInt p1)), (2, .int (Int32.ofInt q5.1))]) (st1 := [.long (Int64.ofInt 0)]) (w1 := w3) rfl ?_
  refine wp_rt (i := .lreturn) (r := some (.long (Int64.ofInt 0))) (ln := 1) (a := 0) (b := 0) (z := 0) (by decide +kernel) rfl (ret_l (by decide +kernel)) ?_
  cases hx
  exact kr _ h4
/-- FoldDeedsModel.words (IIII)V -/
noncomputable def xm_words (s : Hp) (p1 : Int) (p2 : Int) (p3 : Int) (p4 : Int) : Option Hp :=
  (ix 11 0).bind fun i1 => (some (uh s 155 i1 (w32 p1))).bind fun s3 => (ix 130 (55 + p1)).bind fun i7 => (ix 11 1).bind fun i9 => (some (uh s3 155 i9 (w32 (s3 156 i7)))).bind fun s11 => (ix 11 2).bind fun i15 => (some (uh s11 155 i15 (w32 p2))).bind fun s17 => (xm_cellOf s17 p1 3).bind fun o21 => (ix 11 3).bind fun i25 => (some (uh s17 155 i25 (w32 o21))).bind fun s27 => (xm_cellOf s27 p1 1).bind fun o31 => (ix 11 4).bind fun i35 => (some (uh s27 155 i35 (w32 o31))).bind fun s37 => (xm_cellOf s37 p1 0).bind fun o41 => (ix 11 5).bind fun i45 => (some (uh s37 155 i45 (w32 o41))).bind fun s47 => (ix 11 6).bind fun i51 => (some (uh s47 155 i51 (w32 p3))).bind fun s53 => (ix 130 10).bind fun i57 => (ix 11 7).bind fun i59 => (some (uh s53 155 i59 (w32 (s53 156 i57)))).bind fun s61 => (ix 11 8).bind fun i65 => (some (uh s61 155 i65 (w32 p4))).bind fun s67 => (ix 130 (51 + p2)).bind fun i71 => (ix 11 9).bind fun i73 => (some (uh s67 155 i73 (w32 (s67 156 i71)))).bind fun s75 => (ix 130 11).bind fun i79 => (ix 11 10).bind fun i81 => (some (uh s75 155 i81 (w32 (s75 156 i79)))).bind fun s83 => some s83
set_option maxRecDepth 100000 in
theorem xm_words_ok {d : Nat} {P : Option Value → pm_H → Prop} {w : pm_H} {sh : Shp} {w0 : pm_H} {s : Hp} (hS : StM sh) {p1 : Int} {p2 : Int} {p3 : Int} {p4 : Int} (h : Rw sh w0 s w) {o : Hp} (hx : xm_words s p1 p2 p3 p4 = some o) (kr : ∀ w1, Rw sh w0 o w1 → P none w1) : wp (d + 1) 210 0 (lv_args 0 [.ref 146, .int (Int32.ofInt p1), .int (Int32.ofInt p2), .int (Int32.ofInt p3), .int (Int32.ofInt p4)]) [] w P := by
  show wp _ 210 0 [(0, .ref 146), (1, .int (Int32.ofInt p1)), (2, .int (Int32.ofInt p2)), (3, .int (Int32.ofInt p3)), (4, .int (Int32.ofInt p4))] [] w _
  unfold xm_words at hx
  refine wp_g 1 (pc1 := 1) (lv1 := [(0, .ref 146), (1, .int (Int32.ofInt p1)), (2, .int (Int32.ofInt p2)), (3, .int (Int32.ofInt p3)), (4, .int (Int32.ofInt p4))]) (st1 := [.ref 146]) (w1 := w) rfl ?_
  refine wx_gr (o := 9) (kf := 36) (ln := 3) (ci := 12) (b := 19) (zz := 0) (x := 146) (by decide +kernel) h (hS _ _ sm_146) rfl ?_
  show wp _ 210 4 [(0, .ref 146), (1, .int (Int32.ofInt p1)), (2, .int (Int32.ofInt p2)), (3, .int (Int32.ofInt p3)), (4, .int (Int32.ofInt p4))] [.ref 155] w _
  refine wp_g 3 (pc1 := 7) (lv1 := [(0, .ref 146), (1, .int (Int32.ofInt p1)), (2, .int (Int32.ofInt p2)), (3, .int (Int32.ofInt p3)), (4, .int (Int32.ofInt p4))]) (st1 := [.long (Int64.ofInt (w32 p1)), .int (Int32.ofInt 0), .ref 155]) (w1 := w) (by simp only [Int32.ofInt_add, Int32.ofInt_sub, Int32.ofInt_mul, Int32.ofInt_neg, p_and, p_or, p_xor, p_shl, p_shr, p_usr, p_w8, p_c16, p_lI, q_and, q_or, q_shl, q_shr, q_w32, Int64.ofInt_add, Int64.ofInt_sub, Int64.ofInt_mul, p_mx, p_mn, q_mx, q_mn]; rfl) ?_
  obtain ⟨i1, e2, hx⟩ := bd hx
  obtain ⟨s3, e4, hx⟩ := bd hx
  refine wx_wl (x := 155) (n := 11) (ln := 1) (a := 0) (b := 0) (zz := 0) (by decide +kernel) h (hS _ _ sm_155) e2 e4 (fun w5 h6 => ?_)
  refine wp_g 1 (pc1 := 9) (lv1 := [(0, .ref 146), (1, .int (Int32.ofInt p1)), (2, .int (Int32.ofInt p2)), (3, .int (Int32.ofInt p3)), (4, .int (Int32.ofInt p4))]) (st1 := [.ref 146]) (w1 := w5) rfl ?_
  refine wx_gr (o := 9) (kf := 36) (ln := 3) (ci := 12) (b := 19) (zz := 0) (x := 146) (by decide +kernel) h6 (hS _ _ sm_146) rfl ?_
  show wp _ 210 12 [(0, .ref 146), (1, .int (Int32.ofInt p1)), (2, .int (Int32.ofInt p2)), (3, .int (Int32.ofInt p3)), (4, .int (Int32.ofInt p4))] [.ref 155] w5 _
  refine wp_g 2 (pc1 := 14) (lv1 := [(0, .ref 146), (1, .int (Int32.ofInt p1)), (2, .int (Int32.ofInt p2)), (3, .int (Int32.ofInt p3)), (4, .int (Int32.ofInt p4))]) (st1 := [.ref 146, .int (Int32.ofInt 1), .ref 155]) (w1 := w5) rfl ?_
  refine wx_gr (o := 10) (kf := 39) (ln := 3) (ci := 12) (b := 20) (zz := 0) (x := 146) (by decide +kernel) h6 (hS _ _ sm_146) rfl ?_
  show wp _ 210 17 [(0, .ref 146), (1, .int (Int32.ofInt p1)), (2, .int (Int32.ofInt p2)), (3, .int (Int32.ofInt p3)), (4, .int (Int32.ofInt p4))] [.ref 156, .int (Int32.ofInt 1), .ref 155] w5 _
  refine wp_g 3 (pc1 := 21) (lv1 := [(0, .ref 146), (1, .int (Int32.ofInt p1)), (2, .int (Int32.ofInt p2)), (3, .int (Int32.ofInt p3)), (4, .int (Int32.ofInt p4))]) (st1 := [.int (Int32.ofInt (55 + p1)), .ref 156, .int (Int32.ofInt 1), .ref 155]) (w1 := w5) (by simp only [Int32.ofInt_add, Int32.ofInt_sub, Int32.ofInt_mul, Int32.ofInt_neg, p_and, p_or, p_xor, p_shl, p_shr, p_usr, p_w8, p_c16, p_lI, q_and, q_or, q_shl, q_shr, q_w32, Int64.ofInt_add, Int64.ofInt_sub, Int64.ofInt_mul, p_mx, p_mn, q_mx, q_mn]; rfl) ?_
  obtain ⟨i7, e8, hx⟩ := bd hx
  refine wx_ra (x := 156) (n := 130) (ln := 1) (a := 0) (b := 0) (zz := 0) (by decide +kernel) h6 (hS _ _ sm_156) e8 ?_
  show wp _ 210 22 [(0, .ref 146), (1, .int (Int32.ofInt p1)), (2, .int (Int32.ofInt p2)), (3, .int (Int32.ofInt p3)), (4, .int (Int32.ofInt p4))] [.int (Int32.ofInt (s3 156 i7)), .int (Int32.ofInt 1), .ref 155] w5 _
  refine wp_g 1 (pc1 := 23) (lv1 := [(0, .ref 146), (1, .int (Int32.ofInt p1)), (2, .int (Int32.ofInt p2)), (3, .int (Int32.ofInt p3)), (4, .int (Int32.ofInt p4))]) (st1 := [.long (Int64.ofInt (w32 (s3 156 i7))), .int (Int32.ofInt 1), .ref 155]) (w1 := w5) (by simp only [Int32.ofInt_add, Int32.ofInt_sub, Int32.ofInt_mul, Int32.ofInt_neg, p_and, p_or, p_xor, p_shl, p_shr, p_usr, p_w8, p_c16, p_lI, q_and, q_or, q_shl, q_shr, q_w32, Int64.ofInt_add, Int64.ofInt_sub, Int64.ofInt_mul, p_mx, p_mn, q_mx, q_mn]; rfl) ?_
  obtain ⟨i9, e10, hx⟩ := bd hx
  obtain ⟨s11, e12, hx⟩ := bd hx
  refine wx_wl (x := 155) (n := 11) (ln := 1) (a := 0) (b := 0) (zz := 0) (by decide +kernel) h6 (hS _ _ sm_155) e10 e12 (fun w13 h14 => ?_)
  refine wp_g 1 (pc1 := 25) (lv1 := [(0, .ref 146), (1, .int (Int32.ofInt p1)), (2, .int (Int32.ofInt p2)), (3, .int (Int32.ofInt p3)), (4, .int (Int32.ofInt p4))]) (st1 := [.ref 146]) (w1 := w13) rfl ?_
  refine wx_gr (o := 9) (kf := 36) (ln := 3) (ci := 12) (b := 19) (zz := 0) (x := 146) (by decide +kernel) h14 (hS _ _ sm_146) rfl ?_
  show wp _ 210 28 [(0, .ref 146), (1, .int (Int32.ofInt p1)), (2, .int (Int32.ofInt p2)), (3, .int (Int32.ofInt p3)), (4, .int (Int32.ofInt p4))] [.ref 155] w13 _
  refine wp_g 3 (pc1 := 31) (lv1 := [(0, .ref 146), (1, .int (Int32.ofInt p1)), (2, .int (Int32.ofInt p2)), (3, .int (Int32.ofInt p3)), (4, .int (Int32.ofInt p4))]) (st1 := [.long (Int64.ofInt (w32 p2)), .int (Int32.ofInt 2), .ref 155]) (w1 := w13) (by simp only [Int32.ofInt_add, Int32.ofInt_sub, Int32.ofInt_mul, Int32.ofInt_neg, p_and, p_or, p_xor, p_shl, p_shr, p_usr, p_w8, p_c16, p_lI, q_and, q_or, q_shl, q_shr, q_w32, Int64.ofInt_add, Int64.ofInt_sub, Int64.ofInt_mul, p_mx, p_mn, q_mx, q_mn]; rfl) ?_
  obtain ⟨i15, e16, hx⟩ := bd hx
  obtain ⟨s17, e18, hx⟩ := bd hx
  refine wx_wl (x := 155) (n := 11) (ln := 1) (a := 0) (b := 0) (zz := 0) (by decide +kernel) h14 (hS _ _ sm_155) e16 e18 (fun w19 h20 => ?_)
  refine wp_g 1 (pc1 := 33) (lv1 := [(0, .ref 146), (1, .int (Int32.ofInt p1)), (2, .int (Int32.ofInt p2)), (3, .int (Int32.ofInt p3)), (4, .int (Int32.ofInt p4))]) (st1 := [.ref 146]) (w1 := w19) rfl ?_
  refine wx_gr (o := 9) (kf := 36) (ln := 3) (ci := 12) (b := 19) (zz := 0) (x := 146) (by decide +kernel) h20 (hS _ _ sm_146) rfl ?_
  show wp _ 210 36 [(0, .ref 146), (1, .int (Int32.ofInt p1)), (2, .int (Int32.ofInt p2)), (3, .int (Int32.ofInt p3)), (4, .int (Int32.ofInt p4))] [.ref 155] w19 _
  refine wp_g 4 (pc1 := 40) (lv1 := [(0, .ref 146), (1, .int (Int32.ofInt p1)), (2, .int (Int32.ofInt p2)), (3, .int (Int32.ofInt p3)), (4, .int (Int32.ofInt p4))]) (st1 := [.int (Int32.ofInt 3), .int (Int32.ofInt p1), .ref 146, .int (Int32.ofInt 3), .ref 155]) (w1 := w19) rfl ?_
  obtain ⟨o21, e22, hx⟩ := bd hx
  refine wp_cl [.ref 146, .int (Int32.ofInt p1), .int (Int32.ofInt 3)] [.int (Int32.ofInt 3), .ref 155] (i := .invokevirtual 304) (ln := 3) (a := 194) (b := 0) (z := 0) (by decide +kernel) rfl rfl (by decide) rfl (show (3 : Nat) = pm_na 194 by decide +kernel) (Nat.le_of_ble_eq_true rfl) (show (3 : Nat) ≤ pm_n 194 by decide +kernel) (rcv_x 12 h20 (hS _ _ sm_146) (by decide +kernel)) (xm_cellOf_ok (d := d) hS h20 e22 ?_)
  show wp _ 210 43 [(0, .ref 146), (1, .int (Int32.ofInt p1)), (2, .int (Int32.ofInt p2)), (3, .int (Int32.ofInt p3)), (4, .int (Int32.ofInt p4))] [.int (Int32.ofInt o21), .int (Int32.ofInt 3), .ref 155] w19 _
  refine wp_g 1 (pc1 := 44) (lv1 := [(0, .ref 146), (1, .int (Int32.ofInt p1)), (2, .int (Int32.ofInt p2)), (3, .int (Int32.ofInt p3)), (4, .int (Int32.ofInt p4))]) (st1 := [.long (Int64.ofInt (w32 o21)), .int (Int32.ofInt 3), .ref 155]) (w1 := w19) (by simp only [Int32.ofInt_add, Int32.ofInt_sub, Int32.ofInt_mul, Int32.ofInt_neg, p_and, p_or, p_xor, p_shl, p_shr, p_usr, p_w8, p_c16, p_lI, q_and, q_or, q_shl, q_shr, q_w32, Int64.ofInt_add, Int64.ofInt_sub, Int64.ofInt_mul, p_mx, p_mn, q_mx, q_mn]; rfl) ?_
  obtain ⟨i25, e26, hx⟩ := bd hx
  obtain ⟨s27, e28, hx⟩ := bd hx
  refine wx_wl (x := 155) (n := 11) (ln := 1) (a := 0) (b := 0) (zz := 0) (by decide +kernel) h20 (hS _ _ sm_155) e26 e28 (fun w29 h30 => ?_)
  refine wp_g 1 (pc1 := 46) (lv1 := [(0, .ref 146), (1, .int (Int32.ofInt p1)), (2, .int (Int32.ofInt p2)), (3, .int (Int32.ofInt p3)), (4, .int (Int32.ofInt p4))]) (st1 := [.ref 146]) (w1 := w29) rfl ?_
  refine wx_gr (o := 9) (kf := 36) (ln := 3) (ci := 12) (b := 19) (zz := 0) (x := 146) (by decide +kernel) h30 (hS _ _ sm_146) rfl ?_
  show wp _ 210 49 [(0, .ref 146), (1, .int (Int32.ofInt p1)), (2, .int (Int32.ofInt p2)), (3, .int (Int32.ofInt p3)), (4, .int (Int32.ofInt p4))] [.ref 155] w29 _
  refine wp_g 4 (pc1 := 53) (lv1 := [(0, .ref 146), (1, .int (Int32.ofInt p1)), (2, .int (Int32.ofInt p2)), (3, .int (Int32.ofInt p3)), (4, .int (Int32.ofInt p4))]) (st1 := [.int (Int32.ofInt 1), .int (Int32.ofInt p1), .ref 146, .int (Int32.ofInt 4), .ref 155]) (w1 := w29) rfl ?_
  obtain ⟨o31, e32, hx⟩ := bd hx
  refine wp_cl [.ref 146, .int (Int32.ofInt p1), .int (Int32.ofInt 1)] [.int (Int32.ofInt 4), .ref 155] (i := .invokevirtual 304) (ln := 3) (a := 194) (b := 0) (z := 0) (by decide +kernel) rfl rfl (by decide) rfl (show (3 : Nat) = pm_na 194 by decide +kernel) (Nat.le_of_ble_eq_true rfl) (show (3 : Nat) ≤ pm_n 194 by decide +kernel) (rcv_x 12 h30 (hS _ _ sm_146) (by decide +kernel)) (xm_cellOf_ok (d := d) hS h30 e32 ?_)
  show wp _ 210 56 [(0, .ref 146), (1, .int (Int32.ofInt p1)), (2, .int (Int32.ofInt p2)), (3, .int (Int32.ofInt p3)), (4, .int (Int32.ofInt p4))] [.int (Int32.ofInt o31), .int (Int32.ofInt 4), .ref 155] w29 _
  refine wp_g 1 (pc1 := 57) (lv1 := [(0, .ref 146), (1, .int (Int32.ofInt p1)), (2, .int (Int32.ofInt p2)), (3, .int (Int32.ofInt p3)), (4, .int (Int32.ofInt p4))]) (st1 := [.long (Int64.ofInt (w32 o31)), .int (Int32.ofInt 4), .ref 155]) (w1 := w29) (by simp only [Int32.ofInt_add, Int32.ofInt_sub, Int32.ofInt_mul, Int32.ofInt_neg, p_and, p_or, p_xor, p_shl, p_shr, p_usr, p_w8, p_c16, p_lI, q_and, q_or, q_shl, q_shr, q_w32, Int64.ofInt_add, Int64.ofInt_sub, Int64.ofInt_mul, p_mx, p_mn, q_mx, q_mn]; rfl) ?_
  obtain ⟨i35, e36, hx⟩ := bd hx
  obtain ⟨s37, e38, hx⟩ := bd hx
  refine wx_wl (x := 155) (n := 11) (ln := 1) (a := 0) (b := 0) (zz := 0) (by decide +kernel) h30 (hS _ _ sm_155) e36 e38 (fun w39 h40 => ?_)
  refine wp_g 1 (pc1 := 59) (lv1 := [(0, .ref 146), (1, .int (Int32.ofInt p1)), (2, .int (Int32.ofInt p2)), (3, .int (Int32.ofInt p3)), (4, .int (Int32.ofInt p4))]) (st1 := [.ref 146]) (w1 := w39) rfl ?_
  refine wx_gr (o := 9) (kf := 36) (ln := 3) (ci := 12) (b := 19) (zz := 0) (x := 146) (by decide +kernel) h40 (hS _ _ sm_146) rfl ?_
  show wp _ 210 62 [(0, .ref 146), (1, .int (Int32.ofInt p1)), (2, .int (Int32.ofInt p2)), (3, .int (Int32.ofInt p3)), (4, .int (Int32.ofInt p4))] [.ref 155] w39 _
  refine wp_g 4 (pc1 := 66) (lv1 := [(0, .ref 146), (1, .int (Int32.ofInt p1)), (2, .int (Int32.ofInt p2)), (3, .int (Int32.ofInt p3)), (4, .int (Int32.ofInt p4))]) (st1 := [.int (Int32.ofInt 0), .int (Int32.ofInt p1), .ref 146, .int (Int32.ofInt 5), .ref 155]) (w1 := w39) rfl ?_
  obtain ⟨o41, e42, hx⟩ := bd hx
  refine wp_cl [.ref 146, .int (Int32.ofInt p1), .int (Int32.ofInt 0)] [.int (Int32.ofInt 5), .ref 155] (i := .invokevirtual 304) (ln := 3) (a := 194) (b := 0) (z := 0) (by decide +kernel) rfl rfl (by decide) rfl (show (3 : Nat) = pm_na 194 by decide +kernel) (Nat.le_of_ble_eq_true rfl) (show (3 : Nat) ≤ pm_n 194 by decide +kernel) (rcv_x 12 h40 (hS _ _ sm_146) (by decide +kernel)) (xm_cellOf_ok (d := d) hS h40 e42 ?_)
  show wp _ 210 69 [(0, .ref 146), (1, .int (Int32.ofInt p1)), (2, .int (Int32.ofInt p2)), (3, .int (Int32.ofInt p3)), (4, .int (Int32.ofInt p4))] [.int (Int32.ofInt o41), .int (Int32.ofInt 5), .ref 155] w39 _
  refine wp_g 1 (pc1 := 70) (lv1 := [(0, .ref 146), (1, .int (Int32.ofInt p1)), (2, .int (Int32.ofInt p2)), (3, .int (Int32.ofInt p3)), (4, .int (Int32.ofInt p4))]) (st1 := [.long (Int64.ofInt (w32 o41)), .int (Int32.ofInt 5), .ref 155]) (w1 := w39) (by simp only [Int32.ofInt_add, Int32.ofInt_sub, Int32.ofInt_mul, Int32.ofInt_neg, p_and, p_or, p_xor, p_shl, p_shr, p_usr, p_w8, p_c16, p_lI, q_and, q_or, q_shl, q_shr, q_w32, Int64.ofInt_add, Int64.ofInt_sub, Int64.ofInt_mul, p_mx, p_mn, q_mx, q_mn]; rfl) ?_
  obtain ⟨i45, e46, hx⟩ := bd hx
  obtain ⟨s47, e48, hx⟩ := bd hx
  refine wx_wl (x := 155) (n := 11) (ln := 1) (a := 0) (b := 0) (zz := 0) (by decide +kernel) h40 (hS _ _ sm_155) e46 e48 (fun w49 h50 => ?_)
  refine wp_g 1 (pc1 := 72) (lv1 := [(0, .ref 146), (1, .int (Int32.ofInt p1)), (2, .int (Int32.ofInt p2)), (3, .int (Int32.ofInt p3)), (4, .int (Int32.ofInt p4))]) (st1 := [.ref 146]) (w1 := w49) rfl ?_
  refine wx_gr (o := 9) (kf := 36) (ln := 3) (ci := 12) (b := 19) (zz := 0) (x := 146) (by decide +kernel) h50 (hS _ _ sm_146) rfl ?_
  show wp _ 210 75 [(0, .ref 146), (1, .int (Int32.ofInt p1)), (2, .int (Int32.ofInt p2)), (3, .int (Int32.ofInt p3)), (4, .int (Int32.ofInt p4))] [.ref 155] w49 _
  refine wp_g 3 (pc1 := 79) (lv1 := [(0, .ref 146), (1, .int (Int32.ofInt p1)), (2, .int (Int32.ofInt p2)), (3, .int (Int32.ofInt p3)), (4, .int (Int32.ofInt p4))]) (st1 := [.long (Int64.ofInt (w32 p3)), .int (Int32.ofInt 6), .ref 155]) (w1 := w49) (by simp only [Int32.ofInt_add, Int32.ofInt_sub, Int32.ofInt_mul, Int32.ofInt_neg, p_and, p_or, p_xor, p_shl, p_shr, p_usr, p_w8, p_c16, p_lI, q_and, q_or, q_shl, q_shr, q_w32, Int64.ofInt_add, Int64.ofInt_sub, Int64.ofInt_mul, p_mx, p_mn, q_mx, q_mn]; rfl) ?_
  obtain ⟨i51, e52, hx⟩ := bd hx
  obtain ⟨s53, e54, hx⟩ := bd hx
  refine wx_wl (x := 155) (n := 11) (ln := 1) (a := 0) (b := 0) (zz := 0) (by decide +kernel) h50 (hS _ _ sm_155) e52 e54 (fun w55 h56 => ?_)
  refine wp_g 1 (pc1 := 81) (lv1 := [(0, .ref 146), (1, .int (Int32.ofInt p1)), (2, .int (Int32.ofInt p2)), (3, .int (Int32.ofInt p3)), (4, .int (Int32.ofInt p4))]) (st1 := [.ref 146]) (w1 := w55) rfl ?_
  refine wx_gr (o := 9) (kf := 36) (ln := 3) (ci := 12) (b := 19) (zz := 0) (x := 146) (by decide +kernel) h56 (hS _ _ sm_146) rfl ?_
  show wp _ 210 84 [(0, .ref 146), (1, .int (Int32.ofInt p1)), (2, .int (Int32.ofInt p2)), (3, .int (Int32.ofInt p3)), (4, .int (Int32.ofInt p4))] [.ref 155] w55 _
  refine wp_g 2 (pc1 := 87) (lv1 := [(0, .ref 146), (1, .int (Int32.ofInt p1)), (2, .int (Int32.ofInt p2)), (3, .int (Int32.ofInt p3)), (4, .int (Int32.ofInt p4))]) (st1 := [.ref 146, .int (Int32.ofInt 7), .ref 155]) (w1 := w55) rfl ?_
  refine wx_gr (o := 10) (kf := 39) (ln := 3) (ci := 12) (b := 20) (zz := 0) (x := 146) (by decide +kernel) h56 (hS _ _ sm_146) rfl ?_
  show wp _ 210 90 [(0, .ref 146), (1, .int (Int32.ofInt p1)), (2, .int (Int32.ofInt p2)), (3, .int (Int32.ofInt p3)), (4, .int (Int32.ofInt p4))] [.ref 156, .int (Int32.ofInt 7), .ref 155] w55 _
  refine wp_g 1 (pc1 := 92) (lv1 := [(0, .ref 146), (1, .int (Int32.ofInt p1)), (2, .int (Int32.ofInt p2)), (3, .int (Int32.ofInt p3)), (4, .int (Int32.ofInt p4))]) (st1 := [.int (Int32.ofInt 10), .ref 156, .int (Int32.ofInt 7), .ref 155]) (w1 := w55) rfl ?_
  obtain ⟨i57, e58, hx⟩ := bd hx
  refine wx_ra (x := 156) (n := 130) (ln := 1) (a := 0) (b := 0) (zz := 0) (by decide +kernel) h56 (hS _ _ sm_156) e58 ?_
  show wp _ 210 93 [(0, .ref 146), (1, .int (Int32.ofInt p1)), (2, .int (Int32.ofInt p2)), (3, .int (Int32.ofInt p3)), (4, .int (Int32.ofInt p4))] [.int (Int32.ofInt (s53 156 i57)), .int (Int32.ofInt 7), .ref 155] w55 _
  refine wp_g 1 (pc1 := 94) (lv1 := [(0, .ref 146), (1, .int (Int32.ofInt p1)), (2, .int (Int32.ofInt p2)), (3, .int (Int32.ofInt p3)), (4, .int (Int32.ofInt p4))]) (st1 := [.long (Int64.ofInt (w32 (s53 156 i57))), .int (Int32.ofInt 7), .ref 155]) (w1 := w55) (by simp only [Int32.ofInt_add, Int32.ofInt_sub, Int32.ofInt_mul, Int32.ofInt_neg, p_and, p_or, p_xor, p_shl, p_shr, p_usr, p_w8, p_c16, p_lI, q_and, q_or, q_shl, q_shr, q_w32, Int64.ofInt_add, Int64.ofInt_sub, Int64.ofInt_mul, p_mx, p_mn, q_mx, q_mn]; rfl) ?_
  obtain ⟨i59, e60, hx⟩ := bd hx
  obtain ⟨s61, e62, hx⟩ := bd hx
  refine wx_wl (x := 155) (n := 11) (ln := 1) (a := 0) (b := 0) (zz := 0) (by decide +kernel) h56 (hS _ _ sm_155) e60 e62 (fun w63 h64 => ?_)
  refine wp_g 1 (pc1 := 96) (lv1 := [(0, .ref 146), (1, .int (Int32.ofInt p1)), (2, .int (Int32.ofInt p2)), (3, .int (Int32.ofInt p3)), (4, .int (Int32.ofInt p4))]) (st1 := [.ref 146]) (w1 := w63) rfl ?_
  refine wx_gr (o := 9) (kf := 36) (ln := 3) (ci := 12) (b := 19) (zz := 0) (x := 146) (by decide +kernel) h64 (hS _ _ sm_146) rfl ?_
  show wp _ 210 99 [(0, .ref 146), (1, .int (Int32.ofInt p1)), (2, .int (Int32.ofInt p2)), (3, .int (Int32.ofInt p3)), (4, .int (Int32.ofInt p4))] [.ref 155] w63 _
  refine wp_g 3 (pc1 := 104) (lv1 := [(0, .ref 146), (1, .int (Int32.ofInt p1)), (2, .int (Int32.ofInt p2)), (3, .int (Int32.ofInt p3)), (4, .int (Int32.ofInt p4))]) (st1 := [.long (Int64.ofInt (w32 p4)), .int (Int32.ofInt 8), .ref 155]) (w1 := w63) (by simp only [Int32.ofInt_add, Int32.ofInt_sub, Int32.ofInt_mul, Int32.ofInt_neg, p_and, p_or, p_xor, p_shl, p_shr, p_usr, p_w8, p_c16, p_lI, q_and, q_or, q_shl, q_shr, q_w32, Int64.ofInt_add, Int64.ofInt_sub, Int64.ofInt_mul, p_mx, p_mn, q_mx, q_mn]; rfl) ?_
  obtain ⟨i65, e66, hx⟩ := bd hx
  obtain ⟨s67, e68, hx⟩ := bd hx
  refine wx_wl (x := 155) (n := 11) (ln := 1) (a := 0) (b := 0) (zz := 0) (by decide +kernel) h64 (hS _ _ sm_155) e66 e68 (fun w69 h70 => ?_)
  refine wp_g 1 (pc1 := 106) (lv1 := [(0, .ref 146), (1, .int (Int32.ofInt p1)), (2, .int (Int32.ofInt p2)), (3, .int (Int32.ofInt p3)), (4, .int (Int32.ofInt p4))]) (st1 := [.ref 146]) (w1 := w69) rfl ?_
  refine wx_gr (o := 9) (kf := 36) (ln := 3) (ci := 12) (b := 19) (zz := 0) (x := 146) (by decide +kernel) h70 (hS _ _ sm_146) rfl ?_
  show wp _ 210 109 [(0, .ref 146), (1, .int (Int32.ofInt p1)), (2, .int (Int32.ofInt p2)), (3, .int (Int32.ofInt p3)), (4, .int (Int32.ofInt p4))] [.ref 155] w69 _
  refine wp_g 2 (pc1 := 112) (lv1 := [(0, .ref 146), (1, .int (Int32.ofInt p1)), (2, .int (Int32.ofInt p2)), (3, .int (Int32.ofInt p3)), (4, .int (Int32.ofInt p4))]) (st1 := [.ref 146, .int (Int32.ofInt 9), .ref 155]) (w1 := w69) rfl ?_
  refine wx_gr (o := 10) (kf := 39) (ln := 3) (ci := 12) (b := 20) (zz := 0) (x := 146) (by decide +kernel) h70 (hS _ _ sm_146) rfl ?_
  show wp _ 210 115 [(0, .ref 146), (1, .int (Int32.ofInt p1)), (2, .int (Int32.ofInt p2)), (3, .int (Int32.ofInt p3)), (4, .int (Int32.ofInt p4))] [.ref 156, .int (Int32.ofInt 9), .ref 155] w69 _
  refine wp_g 3 (pc1 := 119) (lv1 := [(0, .ref 146), (1, .int (Int32.ofInt p1)), (2, .int (Int32.ofInt p2)), (3, .int (Int32.ofInt p3)), (4, .int (Int32.ofInt p4))]) (st1 := [.int (Int32.ofInt (51 + p2)), .ref 156, .int (Int32.ofInt 9), .ref 155]) (w1 := w69) (by simp only [Int32.ofInt_add, Int32.ofInt_sub, Int32.ofInt_mul, Int32.ofInt_neg, p_and, p_or, p_xor, p_shl, p_shr, p_usr, p_w8, p_c16, p_lI, q_and, q_or, q_shl, q_shr, q_w32, Int64.ofInt_add, Int64.ofInt_sub, Int64.ofInt_mul, p_mx, p_mn, q_mx, q_mn]; rfl) ?_
  obtain ⟨i71, e72, hx⟩ := bd hx
  refine wx_ra (x := 156) (n := 130) (ln := 1) (a := 0) (b := 0) (zz := 0) (by decide +kernel) h70 (hS _ _ sm_156) e72 ?_
  show wp _ 210 120 [(0, .ref 146), (1, .int (Int32.ofInt p1)), (2, .int (Int32.ofInt p2)), (3, .int (Int32.ofInt p3)), (4, .int (Int32.ofInt p4))] [.int (Int32.ofInt (s67 156 i71)), .int (Int32.ofInt 9), .ref 155] w69 _
  refine wp_g 1 (pc1 := 121) (lv1 := [(0, .ref 146), (1, .int (Int32.ofInt p1)), (2, .int (Int32.ofInt p2)), (3, .int (Int32.ofInt p3)), (4, .int (Int32.ofInt p4))]) (st1 := [.long (Int64.ofInt (w32 (s67 156 i71))), .int (Int32.ofInt 9), .ref 155]) (w1 := w69) (by simp only [Int32.ofInt_add, Int32.ofInt_sub, Int32.ofInt_mul, Int32.ofInt_neg, p_and, p_or, p_xor, p_shl, p_shr, p_usr, p_w8, p_c16, p_lI, q_and, q_or, q_shl, q_shr, q_w32, Int64.ofInt_add, Int64.ofInt_sub, Int64.ofInt_mul, p_mx, p_mn, q_mx, q_mn]; rfl) ?_
  obtain ⟨i73, e74, hx⟩ := bd hx
  obtain ⟨s75, e76, hx⟩ := bd hx
  refine wx_wl (x := 155) (n := 11) (ln := 1) (a := 0) (b := 0) (zz := 0) (by decide +kernel) h70 (hS _ _ sm_155) e74 e76 (fun w77 h78 => ?_)
  refine wp_g 1 (pc1 := 123) (lv1 := [(0, .ref 146), (1, .int (Int32.ofInt p1)), (2, .int (Int32.ofInt p2)), (3, .int (Int32.ofInt p3)), (4, .int (Int32.ofInt p4))]) (st1 := [.ref 146]) (w1 := w77) rfl ?_
  refine wx_gr (o := 9) (kf := 36) (ln := 3) (ci := 12) (b := 19) (zz := 0) (x := 146) (by decide +kernel) h78 (hS _ _ sm_146) rfl ?_
  show wp _ 210 126 [(0, .ref 146), (1, .int (Int32.ofInt p1)), (2, .int (Int32.ofInt p2)), (3, .int (Int32.ofInt p3)), (4, .int (Int32.ofInt p4))] [.ref 155] w77 _
  refine wp_g 2 (pc1 := 129) (lv1 := [(0, .ref 146), (1, .int (Int32.ofInt p1)), (2, .int (Int32.ofInt p2)), (3, .int (Int32.ofInt p3)), (4, .int (Int32.ofInt p4))]) (st1 := [.ref 146, .int (Int32.ofInt 10), .ref 155]) (w1 := w77) rfl ?_
  refine wx_gr (o := 10) (kf := 39) (ln := 3) (ci := 12) (b := 20) (zz := 0) (x := 146) (by decide +kernel) h78 (hS _ _ sm_146) rfl ?_
  show wp _ 210 132 [(0, .ref 146), (1, .int (Int32.ofInt p1)), (2, .int (Int32.ofInt p2)), (3, .int (Int32.ofInt p3)), (4, .int (Int32.ofInt p4))] [.ref 156, .int (Int32.ofInt 10), .ref 155] w77 _
  refine wp_g 1 (pc1 := 134) (lv1 := [(0, .ref 146), (1, .int (Int32.ofInt p1)), (2, .int (Int32.ofInt p2)), (3, .int (Int32.ofInt p3)), (4, .int (Int32.ofInt p4))]) (st1 := [.int (Int32.ofInt 11), .ref 156, .int (Int32.ofInt 10), .ref 155]) (w1 := w77) rfl ?_
  obtain ⟨i79, e80, hx⟩ := bd hx
  refine wx_ra (x := 156) (n := 130) (ln := 1) (a := 0) (b := 0) (zz := 0) (by decide +kernel) h78 (hS _ _ sm_156) e80 ?_
  show wp _ 210 135 [(0, .ref 146), (1, .int (Int32.ofInt p1)), (2, .int (Int32.ofInt p2)), (3, .int (Int32.ofInt p3)), (4, .int (Int32.ofInt p4))] [.int (Int32.ofInt (s75 156 i79)), .int (Int32.ofInt 10), .ref 155] w77 _
  refine wp_g 1 (pc1 := 136) (lv1 := [(0, .ref 146), (1, .int (Int32.ofInt p1)), (2, .int (Int32.ofInt p2)), (3, .int (Int32.ofInt p3)), (4, .int (Int32.ofInt p4))]) (st1 := [.long (Int64.ofInt (w32 (s75 156 i79))), .int (Int32.ofInt 10), .ref 155]) (w1 := w77) (by simp only [Int32.ofInt_add, Int32.ofInt_sub, Int32.ofInt_mul, Int32.ofInt_neg, p_and, p_or, p_xor, p_shl, p_shr, p_usr, p_w8, p_c16, p_lI, q_and, q_or, q_shl, q_shr, q_w32, Int64.ofInt_add, Int64.ofInt_sub, Int64.ofInt_mul, p_mx, p_mn, q_mx, q_mn]; rfl) ?_
  obtain ⟨i81, e82, hx⟩ := bd hx
  obtain ⟨s83, e84, hx⟩ := bd hx
  refine wx_wl (x := 155) (n := 11) (ln := 1) (a := 0) (b := 0) (zz := 0) (by decide +kernel) h78 (hS _ _ sm_155) e82 e84 (fun w85 h86 => ?_)
  refine wp_rt (i := .return_) (r := none) (ln := 1) (a := 0) (b := 0) (z := 0) (by decide +kernel) rfl (ret_v (by decide +kernel)) ?_
  cases hx
  exact kr _ h86
noncomputable def xm_prices_b9 (s : Hp) (x1 : Int) (x2 : Int) (x3 : Int) (x4 : Int) (x5 : Int) (x6 : Int) (x7 : Int) : Option ((Int × Int) ⊕ (Int × Int)) :=
  (ix 130 0).bind fun i1 => if w32 x7 < w32 (s 156 i1) then (xm_isMoved s x7 x2 x3).bind fun o4 => if w32 o4 = 0 then some (.inl (x5 + 0, x7 + 1)) else some (.inl (x5 + 1, x7 + 1)) else some (.inr (x5, x7))
set_option maxRecDepth 100000 in
theorem xm_prices_b9_ok {d : Nat} {P : Option Value → pm_H → Prop} {w : pm_H} {sh : Shp} {w0 : pm_H} {s : Hp} (hS : StM sh) {x1 : Int} {x2 : Int} {x3 : Int} {x4 : Int} {x5 : Int} {x6 : Int} {x7 : Int} (h : Rw sh w0 s w) {o : ((Int × Int) ⊕ (Int × Int))} (hx : xm_prices_b9 s x1 x2 x3 x4 x5 x6 x7 = some o) (kn : ∀ (q : Int × Int) w1, o = .inl q → w = w1 → wp (d + 3) 211 9 [(0, .ref 146), (1, .int (Int32.ofInt x1)), (2, .int (Int32.ofInt x2)), (3, .int (Int32.ofInt x3)), (4, .int (Int32.ofInt x4)), (5, .int (Int32.ofInt q.1)), (6, .int (Int32.ofInt x6)), (7, .int (Int32.ofInt q.2))] [] w1 P) (kc : ∀ (r : (Int × Int)), o = .inr r → (∀ w1, w = w1 → wp (d + 3) 211 47 [(0, .ref 146), (1, .int (Int32.ofInt x1)), (2, .int (Int32.ofInt x2)), (3, .int (Int32.ofInt x3)), (4, .int (Int32.ofInt x4)), (5, .int (Int32.ofInt r.1)), (6, .int (Int32.ofInt x6)), (7, .int (Int32.ofInt r.2))] [] w1 P)) : wp (d + 3) 211 9 [(0, .ref 146), (1, .int (Int32.ofInt x1)), (2, .int (Int32.ofInt x2)), (3, .int (Int32.ofInt x3)), (4, .int (Int32.ofInt x4)), (5, .int (Int32.ofInt x5)), (6, .int (Int32.ofInt x6)), (7, .int (Int32.ofInt x7))] [] w P := by
  unfold xm_prices_b9 at hx
  refine wp_g 2 (pc1 := 12) (lv1 := [(0, .ref 146), (1, .int (Int32.ofInt x1)), (2, .int (Int32.ofInt x2)), (3, .int (Int32.ofInt x3)), (4, .int (Int32.ofInt x4)), (5, .int (Int32.ofInt x5)), (6, .int (Int32.ofInt x6)), (7, .int (Int32.ofInt x7))]) (st1 := [.ref 146, .int (Int32.ofInt x7)]) (w1 := w) rfl ?_
  refine wx_gr (o := 10) (kf := 39) (ln := 3) (ci := 12) (b := 20) (zz := 0) (x := 146) (by decide +kernel) h (hS _ _ sm_146) rfl ?_
  show wp _ 211 15 [(0, .ref 146), (1, .int (Int32.ofInt x1)), (2, .int (Int32.ofInt x2)), (3, .int (Int32.ofInt x3)), (4, .int (Int32.ofInt x4)), (5, .int (Int32.ofInt x5)), (6, .int (Int32.ofInt x6)), (7, .int (Int32.ofInt x7))] [.ref 156, .int (Int32.ofInt x7)] w _
  refine wp_g 1 (pc1 := 16) (lv1 := [(0, .ref 146), (1, .int (Int32.ofInt x1)), (2, .int (Int32.ofInt x2)), (3, .int (Int32.ofInt x3)), (4, .int (Int32.ofInt x4)), (5, .int (Int32.ofInt x5)), (6, .int (Int32.ofInt x6)), (7, .int (Int32.ofInt x7))]) (st1 := [.int (Int32.ofInt 0), .ref 156, .int (Int32.ofInt x7)]) (w1 := w) rfl ?_
  obtain ⟨i1, e2, hx⟩ := bd hx
  refine wx_ra (x := 156) (n := 130) (ln := 1) (a := 0) (b := 0) (zz := 0) (by decide +kernel) h (hS _ _ sm_156) e2 ?_
  show wp _ 211 17 [(0, .ref 146), (1, .int (Int32.ofInt x1)), (2, .int (Int32.ofInt x2)), (3, .int (Int32.ofInt x3)), (4, .int (Int32.ofInt x4)), (5, .int (Int32.ofInt x5)), (6, .int (Int32.ofInt x6)), (7, .int (Int32.ofInt x7))] [.int (Int32.ofInt (s 156 i1)), .int (Int32.ofInt x7)] w _
  refine wx_ge (oo := 30) (ln := 3) (a := 47) (b := 0) (zz := 0) (by decide +kernel) (fun h3 => ?_) (fun h3 => ?_)
  · have hx := ite_f h3 hx
    cases hx
    exact kc _ rfl _ rfl
  · have hx := ite_t h3 hx
    refine wp_g 5 (pc1 := 27) (lv1 := [(0, .ref 146), (1, .int (Int32.ofInt x1)), (2, .int (Int32.ofInt x2)), (3, .int (Int32.ofInt x3)), (4, .int (Int32.ofInt x4)), (5, .int (Int32.ofInt x5)), (6, .int (Int32.ofInt x6)), (7, .int (Int32.ofInt x7))]) (st1 := [.int (Int32.ofInt x3), .int (Int32.ofInt x2), .int (Int32.ofInt x7), .ref 146, .int (Int32.ofInt x5)]) (w1 := w) rfl ?_
    obtain ⟨o4, e5, hx⟩ := bd hx
    refine wp_cl [.ref 146, .int (Int32.ofInt x7), .int (Int32.ofInt x2), .int (Int32.ofInt x3)] [.int (Int32.ofInt x5)] (i := .invokevirtual 335) (ln := 3) (a := 205) (b := 0) (z := 0) (by decide +kernel) rfl rfl (by decide) rfl (show (4 : Nat) = pm_na 205 by decide +kernel) (Nat.le_of_ble_eq_true rfl) (show (4 : Nat) ≤ pm_n 205 by decide +kernel) (rcv_x 12 h (hS _ _ sm_146) (by decide +kernel)) (xm_isMoved_ok (d := d + 1) hS h e5 ?_)
    show wp _ 211 30 [(0, .ref 146), (1, .int (Int32.ofInt x1)), (2, .int (Int32.ofInt x2)), (3, .int (Int32.ofInt x3)), (4, .int (Int32.ofInt x4)), (5, .int (Int32.ofInt x5)), (6, .int (Int32.ofInt x6)), (7, .int (Int32.ofInt x7))] [.int (Int32.ofInt o4), .int (Int32.ofInt x5)] w _
    refine wz_eq (oo := 7) (ln := 3) (a := 37) (b := 0) (zz := 0) (by decide +kernel) (fun h8 => ?_) (fun h8 => ?_)
    · have hx := ite_t h8 hx
      refine wp_g 5 (pc1 := 9) (lv1 := [(7, .int (Int32.ofInt (x7 + 1))), (5, .int (Int32.ofInt (x5 + 0))), (0, .ref 146), (1, .int (Int32.ofInt x1)), (2, .int (Int32.ofInt x2)), (3, .int (Int32.ofInt x3)), (4, .int (Int32.ofInt x4)), (6, .int (Int32.ofInt x6))]) (st1 := []) (w1 := w) (by simp only [Int32.ofInt_add, Int32.ofInt_sub, Int32.ofInt_mul, Int32.ofInt_neg, p_and, p_or, p_xor, p_shl, p_shr, p_usr, p_w8, p_c16, p_lI, q_and, q_or, q_shl, q_shr, q_w32, Int64.ofInt_add, Int64.ofInt_sub, Int64.ofInt_mul, p_mx, p_mn, q_mx, q_mn]; rfl) ?_
      refine wp_lv (lv1 := [(0, .ref 146), (1, .int (Int32.ofInt x1)), (2, .int (Int32.ofInt x2)), (3, .int (Int32.ofInt x3)), (4, .int (Int32.ofInt x4)), (5, .int (Int32.ofInt (x5 + 0))), (6, .int (Int32.ofInt x6)), (7, .int (Int32.ofInt (x7 + 1)))]) (lsub_p [2, 3, 4, 5, 6, 1, 7, 0] rfl rfl rfl) ?_
      cases hx
      exact kn _ _ rfl rfl
    · have hx := ite_f h8 hx
      refine wp_g 6 (pc1 := 9) (lv1 := [(7, .int (Int32.ofInt (x7 + 1))), (5, .int (Int32.ofInt (x5 + 1))), (0, .ref 146), (1, .int (Int32.ofInt x1)), (2, .int (Int32.ofInt x2)), (3, .int (Int32.ofInt x3)), (4, .int (Int32.ofInt x4)), (6, .int (Int32.ofInt x6))]) (st1 := []) (w1 := w) (by simp only [Int32.ofInt_add, Int32.ofInt_sub, Int32.ofInt_mul, Int32.ofInt_neg, p_and, p_or, p_xor, p_shl, p_shr, p_usr, p_w8, p_c16, p_lI, q_and, q_or, q_shl, q_shr, q_w32, Int64.ofInt_add, Int64.ofInt_sub, Int64.ofInt_mul, p_mx, p_mn, q_mx, q_mn]; rfl) ?_
      refine wp_lv (lv1 := [(0, .ref 146), (1, .int (Int32.ofInt x1)), (2, .int (Int32.ofInt x2)), (3, .int (Int32.ofInt x3)), (4, .int (Int32.ofInt x4)), (5, .int (Int32.ofInt (x5 + 1))), (6, .int (Int32.ofInt x6)), (7, .int (Int32.ofInt (x7 + 1)))]) (lsub_p [2, 3, 4, 5, 6, 1, 7, 0] rfl rfl rfl) ?_
      cases hx
      exact kn _ _ rfl rfl
noncomputable def xm_prices_b50_j169 (s : Hp) (x1 : Int) (x2 : Int) (x3 : Int) (x4 : Int) (x5 : Int) (x6 : Int) (x7 : Int) (k1 : Int) (k2 : Int) : Option ((Int × Int × Hp) ⊕ (Int × Int × Hp)) :=
  (ix 8 k1).bind fun i1 => (some (uh s 158 i1 (lI k2))).bind fun s3 => (ix 8 x7).bind fun i7 => some (.inl (x6 + (s3 158 i7), x7 + 1, s3))
set_option maxRecDepth 100000 in
theorem xm_prices_b50_j169_ok {d : Nat} {P : Option Value → pm_H → Prop} {w : pm_H} {sh : Shp} {w0 : pm_H} {s : Hp} (hS : StM sh) {x1 : Int} {x2 : Int} {x3 : Int} {x4 : Int} {x5 : Int} {x6 : Int} {x7 : Int} {k1 : Int} {k2 : Int} (h : Rw sh w0 s w) {o : ((Int × Int × Hp) ⊕ (Int × Int × Hp))} (hx : xm_prices_b50_j169 s x1 x2 x3 x4 x5 x6 x7 k1 k2 = some o) (kn : ∀ (q : Int × Int × Hp) w1, o = .inl q → Rw sh w0 q.2.2 w1 → wp (d + 3) 211 50 [(0, .ref 146), (1, .int (Int32.ofInt x1)), (2, .int (Int32.ofInt x2)), (3, .int (Int32.ofInt x3)), (4, .int (Int32.ofInt x4)), (5, .int (Int32.ofInt x5)), (6, .int (Int32.ofInt q.1)), (7, .int (Int32.ofInt q.2.1))] [] w1 P) (kc : ∀ (r : (Int × Int × Hp)), o = .inr r → (∀ w1, Rw sh w0 r.2.2 w1 → wp (d + 3) 211 189 [(0, .ref 146), (1, .int (Int32.ofInt x1)), (2, .int (Int32.ofInt x2)), (3, .int (Int32.ofInt x3)), (4, .int (Int32.ofInt x4)), (5, .int (Int32.ofInt x5)), (6, .int (Int32.ofInt r.1)), (7, .int (Int32.ofInt r.2.1))] [] w1 P)) : wp (d + 3) 211 169 [(0, .ref 146), (1, .int (Int32.ofInt x1)), (2, .int (Int32.ofInt x2)), (3, .int (Int32.ofInt x3)), (4, .int (Int32.ofInt x4)), (5, .int (Int32.ofInt x5)), (6, .int (Int32.ofInt x6)), (7, .int (Int32.ofInt x7))] [.long (Int64.ofInt k2), .int (Int32.ofInt k1), .ref 158] w P := by
  unfold xm_prices_b50_j169 at hx
  refine wp_g 1 (pc1 := 170) (lv1 := [(0, .ref 146), (1, .int (Int32.ofInt x1)), (2, .int (Int32.ofInt x2)), (3, .int (Int32.ofInt x3)), (4, .int (Int32.ofInt x4)), (5, .int (Int32.ofInt x5)), (6, .int (Int32.ofInt x6)), (7, .int (Int32.ofInt x7))]) (st1 := [.int (Int32.ofInt (lI k2)), .int (Int32.ofInt k1), .ref 158]) (w1 := w) (by simp only [Int32.ofInt_add, Int32.ofInt_sub, Int32.ofInt_mul, Int32.ofInt_neg, p_and, p_or, p_xor, p_shl, p_shr, p_usr, p_w8, p_c16, p_lI, q_and, q_or, q_shl, q_shr, q_w32, Int64.ofInt_add, Int64.ofInt_sub, Int64.ofInt_mul, p_mx, p_mn, q_mx, q_mn]; rfl) ?_
  obtain ⟨i1, e2, hx⟩ := bd hx
  obtain ⟨s3, e4, hx⟩ := bd hx
  refine wx_wa (x := 158) (n := 8) (ln := 1) (a := 0) (b := 0) (zz := 0) (by decide +kernel) h (hS _ _ sm_158) e2 e4 (fun w5 h6 => ?_)
  refine wp_g 2 (pc1 := 174) (lv1 := [(0, .ref 146), (1, .int (Int32.ofInt x1)), (2, .int (Int32.ofInt x2)), (3, .int (Int32.ofInt x3)), (4, .int (Int32.ofInt x4)), (5, .int (Int32.ofInt x5)), (6, .int (Int32.ofInt x6)), (7, .int (Int32.ofInt x7))]) (st1 := [.ref 146, .int (Int32.ofInt x6)]) (w1 := w5) rfl ?_
  refine wx_gr (o := 12) (kf := 49) (ln := 3) (ci := 12) (b := 24) (zz := 0) (x := 146) (by decide +kernel) h6 (hS _ _ sm_146) rfl ?_
  show wp _ 211 177 [(0, .ref 146), (1, .int (Int32.ofInt x1)), (2, .int (Int32.ofInt x2)), (3, .int (Int32.ofInt x3)), (4, .int (Int32.ofInt x4)), (5, .int (Int32.ofInt x5)), (6, .int (Int32.ofInt x6)), (7, .int (Int32.ofInt x7))] [.ref 158, .int (Int32.ofInt x6)] w5 _
  refine wp_g 1 (pc1 := 179) (lv1 := [(0, .ref 146), (1, .int (Int32.ofInt x1)), (2, .int (Int32.ofInt x2)), (3, .int (Int32.ofInt x3)), (4, .int (Int32.ofInt x4)), (5, .int (Int32.ofInt x5)), (6, .int (Int32.ofInt x6)), (7, .int (Int32.ofInt x7))]) (st1 := [.int (Int32.ofInt x7), .ref 158, .int (Int32.ofInt x6)]) (w1 := w5) rfl ?_
  obtain ⟨i7, e8, hx⟩ := bd hx
  refine wx_ra (x := 158) (n := 8) (ln := 1) (a := 0) (b := 0) (zz := 0) (by decide +kernel) h6 (hS _ _ sm_158) e8 ?_
  show wp _ 211 180 [(0, .ref 146), (1, .int (Int32.ofInt x1)), (2, .int (Int32.ofInt x2)), (3, .int (Int32.ofInt x3)), (4, .int (Int32.ofInt x4)), (5, .int (Int32.ofInt x5)), (6, .int (Int32.ofInt x6)), (7, .int (Int32.ofInt x7))] [.int (Int32.ofInt (s3 158 i7)), .int (Int32.ofInt x6)] w5 _
  refine wp_g 4 (pc1 := 50) (lv1 := [(7, .int (Int32.ofInt (x7 + 1))), (6, .int (Int32.ofInt (x6 + (s3 158 i7)))), (0, .ref 146), (1, .int (Int32.ofInt x1)), (2, .int (Int32.ofInt x2)), (3, .int (Int32.ofInt x3)), (4, .int (Int32.ofInt x4)), (5, .int (Int32.ofInt x5))]) (st1 := []) (w1 := w5) (by simp only [Int32.ofInt_add, Int32.ofInt_sub, Int32.ofInt_mul, Int32.ofInt_neg, p_and, p_or, p_xor, p_shl, p_shr, p_usr, p_w8, p_c16, p_lI, q_and, q_or, q_shl, q_shr, q_w32, Int64.ofInt_add, Int64.ofInt_sub, Int64.ofInt_mul, p_mx, p_mn, q_mx, q_mn]; rfl) ?_
  refine wp_lv (lv1 := [(0, .ref 146), (1, .int (Int32.ofInt x1)), (2, .int (Int32.ofInt x2)), (3, .int (Int32.ofInt x3)), (4, .int (Int32.ofInt x4)), (5, .int (Int32.ofInt x5)), (6, .int (Int32.ofInt (x6 + (s3 158 i7)))), (7, .int (Int32.ofInt (x7 + 1)))]) (lsub_p [2, 3, 4, 5, 6, 7, 1, 0] rfl rfl rfl) ?_
  cases hx
  exact kn _ _ rfl h6
noncomputable def xm_prices_b50_j135 (s : Hp) (x1 : Int) (x2 : Int) (x3 : Int) (x4 : Int) (x5 : Int) (x6 : Int) (x7 : Int) (x8 : Int) : Option ((Int × Int × Hp) ⊕ (Int × Int × Hp)) :=
  if w64 x8 < w64 0 then xm_prices_b50_j169 s x1 x2 x3 x4 x5 x6 x7 x7 0 else if w64 999 < w64 x8 then xm_prices_b50_j169 s x1 x2 x3 x4 x5 x6 x7 x7 999 else xm_prices_b50_j169 s x1 x2 x3 x4 x5 x6 x7 x7 x8
set_option maxRecDepth 100000 in
theorem xm_prices_b50_j135_ok {d : Nat} {P : Option Value → pm_H → Prop} {w : pm_H} {sh : Shp} {w0 : pm_H} {s : Hp} (hS : StM sh) {x1 : Int} {x2 : Int} {x3 : Int} {x4 : Int} {x5 : Int} {x6 : Int} {x7 : Int} {x8 : Int} (h : Rw sh w0 s w) {o : ((Int × Int × Hp) ⊕ (Int × Int × Hp))} (hx : xm_prices_b50_j135 s x1 x2 x3 x4 x5 x6 x7 x8 = some o) (kn : ∀ (q : Int × Int × Hp) w1, o = .inl q → Rw sh w0 q.2.2 w1 → wp (d + 3) 211 50 [(0, .ref 146), (1, .int (Int32.ofInt x1)), (2, .int (Int32.ofInt x2)), (3, .int (Int32.ofInt x3)), (4, .int (Int32.ofInt x4)), (5, .int (Int32.ofInt x5)), (6, .int (Int32.ofInt q.1)), (7, .int (Int32.ofInt q.2.1))] [] w1 P) (kc : ∀ (r : (Int × Int × Hp)), o = .inr r → (∀ w1, Rw sh w0 r.2.2 w1 → wp (d + 3) 211 189 [(0, .ref 146), (1, .int (Int32.ofInt x1)), (2, .int (Int32.ofInt x2)), (3, .int (Int32.ofInt x3)), (4, .int (Int32.ofInt x4)), (5, .int (Int32.ofInt x5)), (6, .int (Int32.ofInt r.1)), (7, .int (Int32.ofInt r.2.1))] [] w1 P)) : wp (d + 3) 211 135 [(0, .ref 146), (1, .int (Int32.ofInt x1)), (2, .int (Int32.ofInt x2)), (3, .int (Int32.ofInt x3)), (4, .int (Int32.ofInt x4)), (5, .int (Int32.ofInt x5)), (6, .int (Int32.ofInt x6)), (7, .int (Int32.ofInt x7)), (8, .long (Int64.ofInt x8))] [] w P := by
  unfold xm_prices_b50_j135 at hx
  refine wp_g 1 (pc1 := 136) (lv1 := [(0, .ref 146), (1, .int (Int32.ofInt x1)), (2, .int (Int32.ofInt x2)), (3, .int (Int32.ofInt x3)), (4, .int (Int32.ofInt x4)), (5, .int (Int32.ofInt x5)), (6, .int (Int32.ofInt x6)), (7, .int (Int32.ofInt x7)), (8, .long (Int64.ofInt x8))]) (st1 := [.ref 146]) (w1 := w) rfl ?_
  refine wx_gr (o := 12) (kf := 49) (ln := 3) (ci := 12) (b := 24) (zz := 0) (x := 146) (by decide +kernel) h (hS _ _ sm_146) rfl ?_
  show wp _ 211 139 [(0, .ref 146), (1, .int (Int32.ofInt x1)), (2, .int (Int32.ofInt x2)), (3, .int (Int32.ofInt x3)), (4, .int (Int32.ofInt x4)), (5, .int (Int32.ofInt x5)), (6, .int (Int32.ofInt x6)), (7, .int (Int32.ofInt x7)), (8, .long (Int64.ofInt x8))] [.ref 158] w _
  refine wp_g 4 (pc1 := 145) (lv1 := [(0, .ref 146), (1, .int (Int32.ofInt x1)), (2, .int (Int32.ofInt x2)), (3, .int (Int32.ofInt x3)), (4, .int (Int32.ofInt x4)), (5, .int (Int32.ofInt x5)), (6, .int (Int32.ofInt x6)), (7, .int (Int32.ofInt x7)), (8, .long (Int64.ofInt x8))]) (st1 := [.int (lg_cmp (Int64.ofInt x8) (Int64.ofInt 0)), .int (Int32.ofInt x7), .ref 158]) (w1 := w) rfl ?_
  refine wl_ge (oo := 7) (ln := 3) (a := 152) (b := 0) (zz := 0) (by decide +kernel) (fun h1 => ?_) (fun h1 => ?_)
  · have hx := ite_f h1 hx
    refine wp_g 3 (pc1 := 158) (lv1 := [(0, .ref 146), (1, .int (Int32.ofInt x1)), (2, .int (Int32.ofInt x2)), (3, .int (Int32.ofInt x3)), (4, .int (Int32.ofInt x4)), (5, .int (Int32.ofInt x5)), (6, .int (Int32.ofInt x6)), (7, .int (Int32.ofInt x7)), (8, .long (Int64.ofInt x8))]) (st1 := [.int (lg_cmp (Int64.ofInt x8) (Int64.ofInt 999)), .int (Int32.ofInt x7), .ref 158]) (w1 := w) rfl ?_
    refine wl_le (oo := 9) (ln := 3) (a := 167) (b := 0) (zz := 0) (by decide +kernel) (fun h2 => ?_) (fun h2 => ?_)
    · have hx := ite_f h2 hx
      refine wp_g 1 (pc1 := 169) (lv1 := [(0, .ref 146), (1, .int (Int32.ofInt x1)), (2, .int (Int32.ofInt x2)), (3, .int (Int32.ofInt x3)), (4, .int (Int32.ofInt x4)), (5, .int (Int32.ofInt x5)), (6, .int (Int32.ofInt x6)), (7, .int (Int32.ofInt x7)), (8, .long (Int64.ofInt x8))]) (st1 := [.long (Int64.ofInt x8), .int (Int32.ofInt x7), .ref 158]) (w1 := w) rfl ?_
      refine wp_lv (lv1 := [(0, .ref 146), (1, .int (Int32.ofInt x1)), (2, .int (Int32.ofInt x2)), (3, .int (Int32.ofInt x3)), (4, .int (Int32.ofInt x4)), (5, .int (Int32.ofInt x5)), (6, .int (Int32.ofInt x6)), (7, .int (Int32.ofInt x7))]) (lsub_p [0, 1, 2, 3, 4, 5, 6, 7] rfl rfl rfl) ?_
      exact xm_prices_b50_j169_ok hS h hx kn kc
    · have hx := ite_t h2 hx
      refine wp_g 2 (pc1 := 169) (lv1 := [(0, .ref 146), (1, .int (Int32.ofInt x1)), (2, .int (Int32.ofInt x2)), (3, .int (Int32.ofInt x3)), (4, .int (Int32.ofInt x4)), (5, .int (Int32.ofInt x5)), (6, .int (Int32.ofInt x6)), (7, .int (Int32.ofInt x7)), (8, .long (Int64.ofInt x8))]) (st1 := [.long (Int64.ofInt 999), .int (Int32.ofInt x7), .ref 158]) (w1 := w) rfl ?_
      refine wp_lv (lv1 := [(0, .ref 146), (1, .int (Int32.ofInt x1)), (2, .int (Int32.ofInt x2)), (3, .int (Int32.ofInt x3)), (4, .int (Int32.ofInt x4)), (5, .int (Int32.ofInt x5)), (6, .int (Int32.ofInt x6)), (7, .int (Int32.ofInt x7))]) (lsub_p [0, 1, 2, 3, 4, 5, 6, 7] rfl rfl rfl) ?_
      exact xm_prices_b50_j169_ok hS h hx kn kc
  · have hx := ite_t h1 hx
    refine wp_g 2 (pc1 := 169) (lv1 := [(0, .ref 146), (1, .int (Int32.ofInt x1)), (2, .int (Int32.ofInt x2)), (3, .int (Int32.ofInt x3)), (4, .int (Int32.ofInt x4)), (5, .int (Int32.ofInt x5)), (6, .int (Int32.ofInt x6)), (7, .int (Int32.ofInt x7)), (8, .long (Int64.ofInt x8))]) (st1 := [.long (Int64.ofInt 0), .int (Int32.ofInt x7), .ref 158]) (w1 := w) rfl ?_
    refine wp_lv (lv1 := [(0, .ref 146), (1, .int (Int32.ofInt x1)), (2, .int (Int32.ofInt x2)), (3, .int (Int32.ofInt x3)), (4, .int (Int32.ofInt x4)), (5, .int (Int32.ofInt x5)), (6, .int (Int32.ofInt x6)), (7, .int (Int32.ofInt x7))]) (lsub_p [0, 1, 2, 3, 4, 5, 6, 7] rfl rfl rfl) ?_
    exact xm_prices_b50_j169_ok hS h hx kn kc
noncomputable def xm_prices_b50 (s : Hp) (x1 : Int) (x2 : Int) (x3 : Int) (x4 : Int) (x5 : Int) (x6 : Int) (x7 : Int) : Option ((Int × Int × Hp) ⊕ (Int × Int × Hp)) :=
  (ix 130 0).bind fun i1 => if w32 x7 < w32 (s 156 i1) then (ix 8 x7).bind fun i4 => (some (uh s 158 i4 0)).bind fun s6 => (xm_isMoved s6 x7 x2 x3).bind fun o10 => if w32 o10 = 0 then some (.inl (x6, x7 + 1, s6)) else (xm_cellOf s6 x7 3).bind fun o15 => if w32 o15 = w32 x1 then some (.inl (x6, x7 + 1, s6)) else (ix 130 (55 + x7)).bind fun i20 => if w32 (s6 146 21) < 0 then xm_prices_b50_j135 s6 x1 x2 x3 x4 x5 x6 x7 (w32 (s6 156 i20)) else (xm_words s6 x7 x1 x5 x4).bind fun o23 => (xm_summedBy o23 (o23 146 21)).bind fun o27 => xm_prices_b50_j135 o27.2 x1 x2 x3 x4 x5 x6 x7 o27.1 else some (.inr (x6, x7, s))
set_option maxRecDepth 100000 in
theorem xm_prices_b50_ok {d : Nat} {P : Option Value → pm_H → Prop} {w : pm_H} {sh : Shp} {w0 : pm_H} {s : Hp} (hS : StM sh) {x1 : Int} {x2 : Int} {x3 : Int} {x4 : Int} {x5 : Int} {x6 : Int} {x7 : Int} (h : Rw sh w0 s w) {o : ((Int × Int × Hp) ⊕ (Int × Int × Hp))} (hx : xm_prices_b50 s x1 x2 x3 x4 x5 x6 x7 = some o) (kn : ∀ (q : Int × Int × Hp) w1, o = .inl q → Rw sh w0 q.2.2 w1 → wp (d + 3) 211 50 [(0, .ref 146), (1, .int (Int32.ofInt x1)), (2, .int (Int32.ofInt x2)), (3, .int (Int32.ofInt x3)), (4, .int (Int32.ofInt x4)), (5, .int (Int32.ofInt x5)), (6, .int (Int32.ofInt q.1)), (7, .int (Int32.ofInt q.2.1))] [] w1 P) (kc : ∀ (r : (Int × Int × Hp)), o = .inr r → (∀ w1, Rw sh w0 r.2.2 w1 → wp (d + 3) 211 189 [(0, .ref 146), (1, .int (Int32.ofInt x1)), (2, .int (Int32.ofInt x2)), (3, .int (Int32.ofInt x3)), (4, .int (Int32.ofInt x4)), (5, .int (Int32.ofInt x5)), (6, .int (Int32.ofInt r.1)), (7, .int (Int32.ofInt r.2.1))] [] w1 P)) : wp (d + 3) 211 50 [(0, .ref 146), (1, .int (Int32.ofInt x1)), (2, .int (Int32.ofInt x2)), (3, .int (Int32.ofInt x3)), (4, .int (Int32.ofInt x4)), (5, .int (Int32.ofInt x5)), (6, .int (Int32.ofInt x6)), (7, .int (Int32.ofInt x7))] [] w P := by
  unfold xm_prices_b50 at hx
  refine wp_g 2 (pc1 := 53) (lv1 := [(0, .ref 146), (1, .int (Int32.ofInt x1)), (2, .int (Int32.ofInt x2)), (3, .int (Int32.ofInt x3)), (4, .int (Int32.ofInt x4)), (5, .int (Int32.ofInt x5)), (6, .int (Int32.ofInt x6)), (7, .int (Int32.ofInt x7))]) (st1 := [.ref 146, .int (Int32.ofInt x7)]) (w1 := w) rfl ?_
  refine wx_gr (o := 10) (kf := 39) (ln := 3) (ci := 12) (b := 20) (zz := 0) (x := 146) (by decide +kernel) h (hS _ _ sm_146) rfl ?_
  show wp _ 211 56 [(0, .ref 146), (1, .int (Int32.ofInt x1)), (2, .int (Int32.ofInt x2)), (3, .int (Int32.ofInt x3)), (4, .int (Int32.ofInt x4)), (5, .int (Int32.ofInt x5)), (6, .int (Int32.ofInt x6)), (7, .int (Int32.ofInt x7))] [.ref 156, .int (Int32.ofInt x7)] w _
  refine wp_g 1 (pc1 := 57) (lv1 := [(0, .ref 146), (1, .int (Int32.ofInt x1)), (2, .int (Int32.ofInt x2)), (3, .int (Int32.ofInt x3)), (4, .int (Int32.ofInt x4)), (5, .int (Int32.ofInt x5)), (6, .int (Int32.ofInt x6)), (7, .int (Int32.ofInt x7))]) (st1 := [.int (Int32.ofInt 0), .ref 156, .int (Int32.ofInt x7)]) (w1 := w) rfl ?_
  obtain ⟨i1, e2, hx⟩ := bd hx
  refine wx_ra (x := 156) (n := 130) (ln := 1) (a := 0) (b := 0) (zz := 0) (by decide +kernel) h (hS _ _ sm_156) e2 ?_
  show wp _ 211 58 [(0, .ref 146), (1, .int (Int32.ofInt x1)), (2, .int (Int32.ofInt x2)), (3, .int (Int32.ofInt x3)), (4, .int (Int32.ofInt x4)), (5, .int (Int32.ofInt x5)), (6, .int (Int32.ofInt x6)), (7, .int (Int32.ofInt x7))] [.int (Int32.ofInt (s 156 i1)), .int (Int32.ofInt x7)] w _
  refine wx_ge (oo := 131) (ln := 3) (a := 189) (b := 0) (zz := 0) (by decide +kernel) (fun h3 => ?_) (fun h3 => ?_)
  · have hx := ite_f h3 hx
    cases hx
    exact kc _ rfl _ h
  · have hx := ite_t h3 hx
    refine wp_g 1 (pc1 := 62) (lv1 := [(0, .ref 146), (1, .int (Int32.ofInt x1)), (2, .int (Int32.ofInt x2)), (3, .int (Int32.ofInt x3)), (4, .int (Int32.ofInt x4)), (5, .int (Int32.ofInt x5)), (6, .int (Int32.ofInt x6)), (7, .int (Int32.ofInt x7))]) (st1 := [.ref 146]) (w1 := w) rfl ?_
    refine wx_gr (o := 12) (kf := 49) (ln := 3) (ci := 12) (b := 24) (zz := 0) (x := 146) (by decide +kernel) h (hS _ _ sm_146) rfl ?_
    show wp _ 211 65 [(0, .ref 146), (1, .int (Int32.ofInt x1)), (2, .int (Int32.ofInt x2)), (3, .int (Int32.ofInt x3)), (4, .int (Int32.ofInt x4)), (5, .int (Int32.ofInt x5)), (6, .int (Int32.ofInt x6)), (7, .int (Int32.ofInt x7))] [.ref 158] w _
    refine wp_g 2 (pc1 := 68) (lv1 := [(0, .ref 146), (1, .int (Int32.ofInt x1)), (2, .int (Int32.ofInt x2)), (3, .int (Int32.ofInt x3)), (4, .int (Int32.ofInt x4)), (5, .int (Int32.ofInt x5)), (6, .int (Int32.ofInt x6)), (7, .int (Int32.ofInt x7))]) (st1 := [.int (Int32.ofInt 0), .int (Int32.ofInt x7), .ref 158]) (w1 := w) rfl ?_
    obtain ⟨i4, e5, hx⟩ := bd hx
    obtain ⟨s6, e7, hx⟩ := bd hx
    refine wx_wa (x := 158) (n := 8) (ln := 1) (a := 0) (b := 0) (zz := 0) (by decide +kernel) h (hS _ _ sm_158) e5 e7 (fun w8 h9 => ?_)
    refine wp_g 4 (pc1 := 74) (lv1 := [(0, .ref 146), (1, .int (Int32.ofInt x1)), (2, .int (Int32.ofInt x2)), (3, .int (Int32.ofInt x3)), (4, .int (Int32.ofInt x4)), (5, .int (Int32.ofInt x5)), (6, .int (Int32.ofInt x6)), (7, .int (Int32.ofInt x7))]) (st1 := [.int (Int32.ofInt x3), .int (Int32.ofInt x2), .int (Int32.ofInt x7), .ref 146]) (w1 := w8) rfl ?_
    obtain ⟨o10, e11, hx⟩ := bd hx
    refine wp_cl [.ref 146, .int (Int32.ofInt x7), .int (Int32.ofInt x2), .int (Int32.ofInt x3)] [] (i := .invokevirtual 335) (ln := 3) (a := 205) (b := 0) (z := 0) (by decide +kernel) rfl rfl (by decide) rfl (show (4 : Nat) = pm_na 205 by decide +kernel) (Nat.le_of_ble_eq_true rfl) (show (4 : Nat) ≤ pm_n 205 by decide +kernel) (rcv_x 12 h9 (hS _ _ sm_146) (by decide +kernel)) (xm_isMoved_ok (d := d + 1) hS h9 e11 ?_)
    show wp _ 211 77 [(0, .ref 146), (1, .int (Int32.ofInt x1)), (2, .int (Int32.ofInt x2)), (3, .int (Int32.ofInt x3)), (4, .int (Int32.ofInt x4)), (5, .int (Int32.ofInt x5)), (6, .int (Int32.ofInt x6)), (7, .int (Int32.ofInt x7))] [.int (Int32.ofInt o10)] w8 _
    refine wz_eq (oo := 106) (ln := 3) (a := 183) (b := 0) (zz := 0) (by decide +kernel) (fun h14 => ?_) (fun h14 => ?_)
    · have hx := ite_t h14 hx
      refine wp_g 2 (pc1 := 50) (lv1 := [(7, .int (Int32.ofInt (x7 + 1))), (0, .ref 146), (1, .int (Int32.ofInt x1)), (2, .int (Int32.ofInt x2)), (3, .int (Int32.ofInt x3)), (4, .int (Int32.ofInt x4)), (5, .int (Int32.ofInt x5)), (6, .int (Int32.ofInt x6))]) (st1 := []) (w1 := w8) (by simp only [Int32.ofInt_add, Int32.ofInt_sub, Int32.ofInt_mul, Int32.ofInt_neg, p_and, p_or, p_xor, p_shl, p_shr, p_usr, p_w8, p_c16, p_lI, q_and, q_or, q_shl, q_shr, q_w32, Int64.ofInt_add, Int64.ofInt_sub, Int64.ofInt_mul, p_mx, p_mn, q_mx, q_mn]; rfl) ?_
      refine wp_lv (lv1 := [(0, .ref 146), (1, .int (Int32.ofInt x1)), (2, .int (Int32.ofInt x2)), (3, .int (Int32.ofInt x3)), (4, .int (Int32.ofInt x4)), (5, .int (Int32.ofInt x5)), (6, .int (Int32.ofInt x6)), (7, .int (Int32.ofInt (x7 + 1)))]) (lsub_p [1, 2, 3, 4, 5, 6, 7, 0] rfl rfl rfl) ?_
      cases hx
      exact kn _ _ rfl h9
    · have hx := ite_f h14 hx
      refine wp_g 3 (pc1 := 84) (lv1 := [(0, .ref 146), (1, .int (Int32.ofInt x1)), (2, .int (Int32.ofInt x2)), (3, .int (Int32.ofInt x3)), (4, .int (Int32.ofInt x4)), (5, .int (Int32.ofInt x5)), (6, .int (Int32.ofInt x6)), (7, .int (Int32.ofInt x7))]) (st1 := [.int (Int32.ofInt 3), .int (Int32.ofInt x7), .ref 146]) (w1 := w8) rfl ?_
      obtain ⟨o15, e16, hx⟩ := bd hx
      refine wp_cl [.ref 146, .int (Int32.ofInt x7), .int (Int32.ofInt 3)] [] (i := .invokevirtual 304) (ln := 3) (a := 194) (b := 0) (z := 0) (by decide +kernel) rfl rfl (by decide) rfl (show (3 : Nat) = pm_na 194 by decide +kernel) (Nat.le_of_ble_eq_true rfl) (show (3 : Nat) ≤ pm_n 194 by decide +kernel) (rcv_x 12 h9 (hS _ _ sm_146) (by decide +kernel)) (xm_cellOf_ok (d := d + 2) hS h9 e16 ?_)
      show wp _ 211 87 [(0, .ref 146), (1, .int (Int32.ofInt x1)), (2, .int (Int32.ofInt x2)), (3, .int (Int32.ofInt x3)), (4, .int (Int32.ofInt x4)), (5, .int (Int32.ofInt x5)), (6, .int (Int32.ofInt x6)), (7, .int (Int32.ofInt x7))] [.int (Int32.ofInt o15)] w8 _
      refine wp_g 1 (pc1 := 88) (lv1 := [(0, .ref 146), (1, .int (Int32.ofInt x1)), (2, .int (Int32.ofInt x2)), (3, .int (Int32.ofInt x3)), (4, .int (Int32.ofInt x4)), (5, .int (Int32.ofInt x5)), (6, .int (Int32.ofInt x6)), (7, .int (Int32.ofInt x7))]) (st1 := [.int (Int32.ofInt x1), .int (Int32.ofInt o15)]) (w1 := w8) rfl ?_
      refine wx_ne (oo := 6) (ln := 3) (a := 94) (b := 0) (zz := 0) (by decide +kernel) (fun h19 => ?_) (fun h19 => ?_)
      · have hx := ite_f h19 hx
        refine wp_g 1 (pc1 := 95) (lv1 := [(0, .ref 146), (1, .int (Int32.ofInt x1)), (2, .int (Int32.ofInt x2)), (3, .int (Int32.ofInt x3)), (4, .int (Int32.ofInt x4)), (5, .int (Int32.ofInt x5)), (6, .int (Int32.ofInt x6)), (7, .int (Int32.ofInt x7))]) (st1 := [.ref 146]) (w1 := w8) rfl ?_
        refine wx_gr (o := 10) (kf := 39) (ln := 3) (ci := 12) (b := 20) (zz := 0) (x := 146) (by decide +kernel) h9 (hS _ _ sm_146) rfl ?_
        show wp _ 211 98 [(0, .ref 146), (1, .int (Int32.ofInt x1)), (2, .int (Int32.ofInt x2)), (3, .int (Int32.ofInt x3)), (4, .int (Int32.ofInt x4)), (5, .int (Int32.ofInt x5)), (6, .int (Int32.ofInt x6)), (7, .int (Int32.ofInt x7))] [.ref 156] w8 _
        refine wp_g 3 (pc1 := 103) (lv1 := [(0, .ref 146), (1, .int (Int32.ofInt x1)), (2, .int (Int32.ofInt x2)), (3, .int (Int32.ofInt x3)), (4, .int (Int32.ofInt x4)), (5, .int (Int32.ofInt x5)), (6, .int (Int32.ofInt x6)), (7, .int (Int32.ofInt x7))]) (st1 := [.int (Int32.ofInt (55 + x7)), .ref 156]) (w1 := w8) (by simp only [Int32.ofInt_add, Int32.ofInt_sub, Int32.ofInt_mul, Int32.ofInt_neg, p_and, p_or, p_xor, p_shl, p_shr, p_usr, p_w8, p_c16, p_lI, q_and, q_or, q_shl, q_shr, q_w32, Int64.ofInt_add, Int64.ofInt_sub, Int64.ofInt_mul, p_mx, p_mn, q_mx, q_mn]; rfl) ?_
        obtain ⟨i20, e21, hx⟩ := bd hx
        refine wx_ra (x := 156) (n := 130) (ln := 1) (a := 0) (b := 0) (zz := 0) (by decide +kernel) h9 (hS _ _ sm_156) e21 ?_
        show wp _ 211 104 [(0, .ref 146), (1, .int (Int32.ofInt x1)), (2, .int (Int32.ofInt x2)), (3, .int (Int32.ofInt x3)), (4, .int (Int32.ofInt x4)), (5, .int (Int32.ofInt x5)), (6, .int (Int32.ofInt x6)), (7, .int (Int32.ofInt x7))] [.int (Int32.ofInt (s6 156 i20))] w8 _
        refine wp_g 3 (pc1 := 108) (lv1 := [(8, .long (Int64.ofInt (w32 (s6 156 i20)))), (0, .ref 146), (1, .int (Int32.ofInt x1)), (2, .int (Int32.ofInt x2)), (3, .int (Int32.ofInt x3)), (4, .int (Int32.ofInt x4)), (5, .int (Int32.ofInt x5)), (6, .int (Int32.ofInt x6)), (7, .int (Int32.ofInt x7))]) (st1 := [.ref 146]) (w1 := w8) (by simp only [Int32.ofInt_add, Int32.ofInt_sub, Int32.ofInt_mul, Int32.ofInt_neg, p_and, p_or, p_xor, p_shl, p_shr, p_usr, p_w8, p_c16, p_lI, q_and, q_or, q_shl, q_shr, q_w32, Int64.ofInt_add, Int64.ofInt_sub, Int64.ofInt_mul, p_mx, p_mn, q_mx, q_mn]; rfl) ?_
        refine wx_gi (kf := 42) (ln := 3) (ci := 12) (b := 21) (zz := 0) (x := 146) (by decide +kernel) h9 (hS _ _ sm_146) rfl ?_
        show wp _ 211 111 [(8, .long (Int64.ofInt (w32 (s6 156 i20)))), (0, .ref 146), (1, .int (Int32.ofInt x1)), (2, .int (Int32.ofInt x2)), (3, .int (Int32.ofInt x3)), (4, .int (Int32.ofInt x4)), (5, .int (Int32.ofInt x5)), (6, .int (Int32.ofInt x6)), (7, .int (Int32.ofInt x7))] [.int (Int32.ofInt (s6 146 21))] w8 _
        refine wz_lt (oo := 24) (ln := 3) (a := 135) (b := 0) (zz := 0) (by decide +kernel) (fun h22 => ?_) (fun h22 => ?_)
        · have hx := ite_t h22 hx
          refine wp_lv (lv1 := [(0, .ref 146), (1, .int (Int32.ofInt x1)), (2, .int (Int32.ofInt x2)), (3, .int (Int32.ofInt x3)), (4, .int (Int32.ofInt x4)), (5, .int (Int32.ofInt x5)), (6, .int (Int32.ofInt x6)), (7, .int (Int32.ofInt x7)), (8, .long (Int64.ofInt (w32 (s6 156 i20))))]) (lsub_p [1, 2, 3, 4, 5, 6, 7, 8, 0] rfl rfl rfl) ?_
          exact xm_prices_b50_j135_ok hS h9 hx kn kc
        · have hx := ite_f h22 hx
          refine wp_g 5 (pc1 := 122) (lv1 := [(8, .long (Int64.ofInt (w32 (s6 156 i20)))), (0, .ref 146), (1, .int (Int32.ofInt x1)), (2, .int (Int32.ofInt x2)), (3, .int (Int32.ofInt x3)), (4, .int (Int32.ofInt x4)), (5, .int (Int32.ofInt x5)), (6, .int (Int32.ofInt x6)), (7, .int (Int32.ofInt x7))]) (st1 := [.int (Int32.ofInt x4), .int (Int32.ofInt x5), .int (Int32.ofInt x1), .int (Int32.ofInt x7), .ref 146]) (w1 := w8) rfl ?_
          obtain ⟨o23, e24, hx⟩ := bd hx
          refine wp_cl [.ref 146, .int (Int32.ofInt x7), .int (Int32.ofInt x1), .int (Int32.ofInt x5), .int (Int32.ofInt x4)] [] (i := .invokevirtual 342) (ln := 3) (a := 210) (b := 0) (z := 0) (by decide +kernel) rfl rfl (by decide) rfl (show (5 : Nat) = pm_na 210 by decide +kernel) (Nat.le_of_ble_eq_true rfl) (show (5 : Nat) ≤ pm_n 210 by decide +kernel) (rcv_x 12 h9 (hS _ _ sm_146) (by decide +kernel)) (xm_words_ok (d := d + 1) hS h9 e24 (fun w25 h26 => ?_))
          show wp _ 211 125 [(8, .long (Int64.ofInt (w32 (s6 156 i20)))), (0, .ref 146), (1, .int (Int32.ofInt x1)), (2, .int (Int32.ofInt x2)), (3, .int (Int32.ofInt x3)), (4, .int (Int32.ofInt x4)), (5, .int (Int32.ofInt x5)), (6, .int (Int32.ofInt x6)), (7, .int (Int32.ofInt x7))] [] w25 _
          refine wp_g 2 (pc1 := 127) (lv1 := [(8, .long (Int64.ofInt (w32 (s6 156 i20)))), (0, .ref 146), (1, .int (Int32.ofInt x1)), (2, .int (Int32.ofInt x2)), (3, .int (Int32.ofInt x3)), (4, .int (Int32.ofInt x4)), (5, .int (Int32.ofInt x5)), (6, .int (Int32.ofInt x6)), (7, .int (Int32.ofInt x7))]) (st1 := [.ref 146, .ref 146]) (w1 := w25) rfl ?_
          refine wx_gi (kf := 42) (ln := 3) (ci := 12) (b := 21) (zz := 0) (x := 146) (by decide +kernel) h26 (hS _ _ sm_146) rfl ?_
          show wp _ 211 130 [(8, .long (Int64.ofInt (w32 (s6 156 i20)))), (0, .ref 146), (1, .int (Int32.ofInt x1)), (2, .int (Int32.ofInt x2)), (3, .int (Int32.ofInt x3)), (4, .int (Int32.ofInt x4)), (5, .int (Int32.ofInt x5)), (6, .int (Int32.ofInt x6)), (7, .int (Int32.ofInt x7))] [.int (Int32.ofInt (o23 146 21)), .ref 146] w25 _
          obtain ⟨o27, e28, hx⟩ := bd hx
          refine wp_cl [.ref 146, .int (Int32.ofInt (o23 146 21))] [] (i := .invokevirtual 346) (ln := 3) (a := 209) (b := 0) (z := 0) (by decide +kernel) rfl rfl (by decide) rfl (show (2 : Nat) = pm_na 209 by decide +kernel) (Nat.le_of_ble_eq_true rfl) (show (2 : Nat) ≤ pm_n 209 by decide +kernel) (rcv_x 12 h26 (hS _ _ sm_146) (by decide +kernel)) (xm_summedBy_ok (d := d) hS h26 e28 (fun w29 h30 => ?_))
          show wp _ 211 133 [(8, .long (Int64.ofInt (w32 (s6 156 i20)))), (0, .ref 146), (1, .int (Int32.ofInt x1)), (2, .int (Int32.ofInt x2)), (3, .int (Int32.ofInt x3)), (4, .int (Int32.ofInt x4)), (5, .int (Int32.ofInt x5)), (6, .int (Int32.ofInt x6)), (7, .int (Int32.ofInt x7))] [.long (Int64.ofInt o27.1)] w29 _
          refine wp_g 1 (pc1 := 135) (lv1 := [(8, .long (Int64.ofInt o27.1)), (0, .ref 146), (1, .int (Int32.ofInt x1)), (2, .int (Int32.ofInt x2)), (3, .int (Int32.ofInt x3)), (4, .int (Int32.ofInt x4)), (5, .int (Int32.ofInt x5)), (6, .int (Int32.ofInt x6)), (7, .int (Int32.ofInt x7))]) (st1 := []) (w1 := w29) rfl ?_
          refine wp_lv (lv1 := [(0, .ref 146), (1, .int (Int32.ofInt x1)), (2, .int (Int32.ofInt x2)), (3, .int (Int32.ofInt x3)), (4, .int (Int32.ofInt x4)), (5, .int (Int32.ofInt x5)), (6, .int (Int32.ofInt x6)), (7, .int (Int32.ofInt x7)), (8, .long (Int64.ofInt o27.1))]) (lsub_p [1, 2, 3, 4, 5, 6, 7, 8, 0] rfl rfl rfl) ?_
          exact xm_prices_b50_j135_ok hS h30 hx kn kc
      · have hx := ite_t h19 hx
        refine wp_g 3 (pc1 := 50) (lv1 := [(7, .int (Int32.ofInt (x7 + 1))), (0, .ref 146), (1, .int (Int32.ofInt x1)), (2, .int (Int32.ofInt x2)), (3, .int (Int32.ofInt x3)), (4, .int (Int32.ofInt x4)), (5, .int (Int32.ofInt x5)), (6, .int (Int32.ofInt x6))]) (st1 := []) (w1 := w8) (by simp only [Int32.ofInt_add, Int32.ofInt_sub, Int32.ofInt_mul, Int32.ofInt_neg, p_and, p_or, p_xor, p_shl, p_shr, p_usr, p_w8, p_c16, p_lI, q_and, q_or, q_shl, q_shr, q_w32, Int64.ofInt_add, Int64.ofInt_sub, Int64.ofInt_mul, p_mx, p_mn, q_mx, q_mn]; rfl) ?_
        refine wp_lv (lv1 := [(0, .ref 146), (1, .int (Int32.ofInt x1)), (2, .int (Int32.ofInt x2)), (3, .int (Int32.ofInt x3)), (4, .int (Int32.ofInt x4)), (5, .int (Int32.ofInt x5)), (6, .int (Int32.ofInt x6)), (7, .int (Int32.ofInt (x7 + 1)))]) (lsub_p [1, 2, 3, 4, 5, 6, 7, 0] rfl rfl rfl) ?_
        cases hx
        exact kn _ _ rfl h9
/-- FoldDeedsModel.prices (IIII)I -/
noncomputable def xm_prices (s : Hp) (p1 : Int) (p2 : Int) (p3 : Int) (p4 : Int) : Option (Int × Hp) :=
  (lp (fun (q : Int × Int) => xm_prices_b9 s p1 p2 p3 p4 q.1 0 q.2) (0, 0)).bind fun q1 => (lp (fun (q : Int × Int × Hp) => xm_prices_b50 q.2.2 p1 p2 p3 p4 q1.1 q.1 q.2.1) (0, 0, s)).bind fun q5 => some (q5.1, q5.2.2)
set_option maxRecDepth 100000 in
theorem xm_prices_ok {d : Nat} {P : Option Value → pm_H → Prop} {w : pm_H} {sh : Shp} {w0 : pm_H} {s : Hp} (hS : StM sh) {p1 : Int} {p2 : Int} {p3 : Int} {p4 : Int} (h : Rw sh w0 s w) {o : Int × Hp} (hx : xm_prices s p1 p2 p3 p4 = some o) (kr : ∀ w1, Rw sh w0 o.2 w1 → P (some (.int (Int32.ofInt o.1))) w1) : wp (d + 3) 211 0 (lv_args 0 [.ref 146, .int (Int32.ofInt p1), .int (Int32.ofInt p2), .int (Int32.ofInt p3), .int (Int32.ofInt p4)]) [] w P := by
  show wp _ 211 0 [(0, .ref 146), (1, .int (Int32.ofInt p1)), (2, .int (Int32.ofInt p2)), (3, .int (Int32.ofInt p3)), (4, .int (Int32.ofInt p4))] [] w _
  unfold xm_prices at hx
  refine wp_g 6 (pc1 := 9) (lv1 := [(7, .int (Int32.ofInt 0)), (6, .int (Int32.ofInt 0)), (5, .int (Int32.ofInt 0)), (0, .ref 146), (1, .int (Int32.ofInt p1)), (2, .int (Int32.ofInt p2)), (3, .int (Int32.ofInt p3)), (4, .int (Int32.ofInt p4))]) (st1 := []) (w1 := w) rfl ?_
  refine wp_lv (lv1 := [(0, .ref 146), (1, .int (Int32.ofInt p1)), (2, .int (Int32.ofInt p2)), (3, .int (Int32.ofInt p3)), (4, .int (Int32.ofInt p4)), (5, .int (Int32.ofInt 0)), (6, .int (Int32.ofInt 0)), (7, .int (Int32.ofInt 0))]) (lsub_p [3, 4, 5, 6, 7, 2, 1, 0] rfl rfl rfl) ?_
  obtain ⟨q1, e2, hx⟩ := bd hx
  refine wp_lp (σ := Int × Int) (ρ := (Int × Int)) (B := fun q => xm_prices_b9 s p1 p2 p3 p4 q.1 0 q.2) (R := fun q w' => w = w') (C := fun r => ∀ w1, w = w1 → wp (d + 3) 211 47 [(0, .ref 146), (1, .int (Int32.ofInt p1)), (2, .int (Int32.ofInt p2)), (3, .int (Int32.ofInt p3)), (4, .int (Int32.ofInt p4)), (5, .int (Int32.ofInt r.1)), (6, .int (Int32.ofInt 0)), (7, .int (Int32.ofInt r.2))] [] w1 P) (lv := fun q => [(0, .ref 146), (1, .int (Int32.ofInt p1)), (2, .int (Int32.ofInt p2)), (3, .int (Int32.ofInt p3)), (4, .int (Int32.ofInt p4)), (5, .int (Int32.ofInt q.1)), (6, .int (Int32.ofInt 0)), (7, .int (Int32.ofInt q.2))]) (hd := 9) (fun q w' o hR hb kn kc => by subst hR; exact xm_prices_b9_ok hS h hb kn kc) _ _ _ e2 rfl ?_
  intro w3 h4
  subst h4
  show wp _ 211 47 [(0, .ref 146), (1, .int (Int32.ofInt p1)), (2, .int (Int32.ofInt p2)), (3, .int (Int32.ofInt p3)), (4, .int (Int32.ofInt p4)), (5, .int (Int32.ofInt q1.1)), (6, .int (Int32.ofInt 0)), (7, .int (Int32.ofInt q1.2))] [] w _
  refine wp_g 2 (pc1 := 50) (lv1 := [(7, .int (Int32.ofInt 0)), (0, .ref 146), (1, .int (Int32.ofInt p1)), (2, .int (Int32.ofInt p2)), (3, .int (Int32.ofInt p3)), (4, .int (Int32.ofInt p4)), (5, .int (Int32.ofInt q1.1)), (6, .int (Int32.ofInt 0))]) (st1 := []) (w1 := w) rfl ?_
  refine wp_lv (lv1 := [(0, .ref 146), (1, .int (Int32.ofInt p1)), (2, .int (Int32.ofInt p2)), (3, .int (Int32.ofInt p3)), (4, .int (Int32.ofInt p4)), (5, .int (Int32.ofInt q1.1)), (6, .int (Int32.ofInt 0)), (7, .int (Int32.ofInt 0))]) (lsub_p [1, 2, 3, 4, 5, 6, 7, 0] rfl rfl rfl) ?_
  obtain ⟨q5, e6, hx⟩ := bd hx
  refine wp_lp (σ := Int × Int × Hp) (ρ := (Int × Int × Hp)) (B := fun q => xm_prices_b50 q.2.2 p1 p2 p3 p4 q1.1 q.1 q.2.1) (R := fun q w' => Rw sh w0 q.2.2 w') (C := fun r => ∀ w1, Rw sh w0 r.2.2 w1 → wp (d + 3) 211 189 [(0, .ref 146), (1, .int (Int32.ofInt p1)), (2, .int (Int32.ofInt p2)), (3, .int (Int32.ofInt p3)), (4, .int (Int32.ofInt p4)), (5, .int (Int32.ofInt q1.1)), (6, .int (Int32.ofInt r.1)), (7, .int (Int32.ofInt r.2.1))] [] w1 P) (lv := fun q => [(0, .ref 146), (1, .int (Int32.ofInt p1)), (2, .int (Int32.ofInt p2)), (3, .int (Int32.ofInt p3)), (4, .int (Int32.ofInt p4)), (5, .int (Int32.ofInt q1.1)), (6, .int (Int32.ofInt q.1)), (7, .int (Int32.ofInt q.2.1))]) (hd := 50) (fun q w' o hR hb kn kc => xm_prices_b50_ok hS hR hb kn kc) _ _ _ e6 h ?_
  intro w7 h8
  show wp _ 211 189 [(0, .ref 146), (1, .int (Int32.ofInt p1)), (2, .int (Int32.ofInt p2)), (3, .int (Int32.ofInt p3)), (4, .int (Int32.ofInt p4)), (5, .int (Int32.ofInt q1.1)), (6, .int (Int32.ofInt q5.1)), (7, .int (Int32.ofInt q5.2.1))] [] w7 _
  refine wp_g 1 (pc1 := 191) (lv1 := [(0, .ref 146), (1, .int (Int32.ofInt p1)), (2, .int (Int32.ofInt p2)), (3, .int (Int32.ofInt p3)), (4, .int (Int32.ofInt p4)), (5, .int (Int32.ofInt q1.1)), (6, .int (Int32.ofInt q5.1)), (7, .int (Int32.ofInt q5.2.1))]) (st1 := [.int (Int32.ofInt q5.1)]) (w1 := w7) rfl ?_
  refine wp_rt (i := .ireturn) (r := some (.int (Int32.ofInt q5.1))) (ln := 1) (a := 0) (b := 0) (z := 0) (by decide +kernel) rfl (ret_ok (by decide +kernel)) ?_
  cases hx
  exact kr _ h8
noncomputable def xm_buys_b17_j108 (s : Hp) (x1 : Int) (x2 : Int) (x3 : Int) (x5 : Int) : Option ((Int × Hp) ⊕ (Int × Hp)) :=
  (ix 130 ((12 + (4 * x5)) + 3)).bind fun i1 => (some (uh s 156 i1 x1)).bind fun s3 => some (.inl (x5 + 1, s3))
set_option maxRecDepth 100000 in
theorem xm_buys_b17_j108_ok {d : Nat} {P : Option Value → pm_H → Prop} {w : pm_H} {sh : Shp} {w0 : pm_H} {s : Hp} (hS : StM sh) {x1 : Int} {x2 : Int} {x3 : Int} {x5 : Int} (h : Rw sh w0 s w) {o : ((Int × Hp) ⊕ (Int × Hp))} (hx : xm_buys_b17_j108 s x1 x2 x3 x5 = some o) (kn : ∀ (q : Int × Hp) w1, o = .inl q → Rw sh w0 q.2 w1 → wp (d + 2) 212 17 [(0, .ref 146), (1, .int (Int32.ofInt x1)), (2, .int (Int32.ofInt x2)), (3, .int (Int32.ofInt x3)), (5, .int (Int32.ofInt q.1))] [] w1 P) (kc : ∀ (r : (Int × Hp)), o = .inr r → (∀ w1, Rw sh w0 r.2 w1 → wp (d + 2) 212 129 [(0, .ref 146), (1, .int (Int32.ofInt x1)), (2, .int (Int32.ofInt x2)), (3, .int (Int32.ofInt x3)), (5, .int (Int32.ofInt r.1))] [] w1 P)) : wp (d + 2) 212 108 [(0, .ref 146), (1, .int (Int32.ofInt x1)), (2, .int (Int32.ofInt x2)), (3, .int (Int32.ofInt x3)), (5, .int (Int32.ofInt x5))] [] w P := by
  unfold xm_buys_b17_j108 at hx
  refine wp_g 1 (pc1 := 109) (lv1 := [(0, .ref 146), (1, .int (Int32.ofInt x1)), (2, .int (Int32.ofInt x2)), (3, .int (Int32.ofInt x3)), (5, .int (Int32.ofInt x5))]) (st1 := [.ref 146]) (w1 := w) rfl ?_
  refine wx_gr (o := 10) (kf := 39) (ln := 3) (ci := 12) (b := 20) (zz := 0) (x := 146) (by decide +kernel) h (hS _ _ sm_146) rfl ?_
  show wp _ 212 112 [(0, .ref 146), (1, .int (Int32.ofInt x1)), (2, .int (Int32.ofInt x2)), (3, .int (Int32.ofInt x3)), (5, .int (Int32.ofInt x5))] [.ref 156] w _
  refine wp_g 8 (pc1 := 122) (lv1 := [(0, .ref 146), (1, .int (Int32.ofInt x1)), (2, .int (Int32.ofInt x2)), (3, .int (Int32.ofInt x3)), (5, .int (Int32.ofInt x5))]) (st1 := [.int (Int32.ofInt x1), .int (Int32.ofInt ((12 + (4 * x5)) + 3)), .ref 156]) (w1 := w) (by simp only [Int32.ofInt_add, Int32.ofInt_sub, Int32.ofInt_mul, Int32.ofInt_neg, p_and, p_or, p_xor, p_shl, p_shr, p_usr, p_w8, p_c16, p_lI, q_and, q_or, q_shl, q_shr, q_w32, Int64.ofInt_add, Int64.ofInt_sub, Int64.ofInt_mul, p_mx, p_mn, q_mx, q_mn]; rfl) ?_
  obtain ⟨i1, e2, hx⟩ := bd hx
  obtain ⟨s3, e4, hx⟩ := bd hx
  refine wx_wa (x := 156) (n := 130) (ln := 1) (a := 0) (b := 0) (zz := 0) (by decide +kernel) h (hS _ _ sm_156) e2 e4 (fun w5 h6 => ?_)
  refine wp_g 2 (pc1 := 17) (lv1 := [(5, .int (Int32.ofInt (x5 + 1))), (0, .ref 146), (1, .int (Int32.ofInt x1)), (2, .int (Int32.ofInt x2)), (3, .int (Int32.ofInt x3))]) (st1 := []) (w1 := w5) (by simp only [Int32.ofInt_add, Int32.ofInt_sub, Int32.ofInt_mul, Int32.ofInt_neg, p_and, p_or, p_xor, p_shl, p_shr, p_usr, p_w8, p_c16, p_lI, q_and, q_or, q_shl, q_shr, q_w32, Int64.ofInt_add, Int64.ofInt_sub, Int64.ofInt_mul, p_mx, p_mn, q_mx, q_mn]; rfl) ?_
  refine wp_lv (lv1 := [(0, .ref 146), (1, .int (Int32.ofInt x1)), (2, .int (Int32.ofInt x2)), (3, .int (Int32.ofInt x3)), (5, .int (Int32.ofInt (x5 + 1)))]) (lsub_p [1, 2, 3, 4, 0] rfl rfl rfl) ?_
  cases hx
  exact kn _ _ rfl h6
noncomputable def xm_buys_b17 (s : Hp) (x1 : Int) (x2 : Int) (x3 : Int) (x5 : Int) : Option ((Int × Hp) ⊕ (Int × Hp)) :=
  (ix 130 0).bind fun i1 => if w32 x5 < w32 (s 156 i1) then (xm_isMoved s x5 x2 x3).bind fun o4 => if w32 o4 = 0 then some (.inl (x5 + 1, s)) else (xm_cellOf s x5 3).bind fun o9 => if w32 o9 < 0 then xm_buys_b17_j108 s x1 x2 x3 x5 else if w32 o9 = w32 x1 then xm_buys_b17_j108 s x1 x2 x3 x5 else (ix 130 (51 + o9)).bind fun i15 => (ix 8 x5).bind fun i17 => if w32 9999 < w32 ((s 156 i15) + (s 158 i17)) then (some (uh s 156 i15 9999)).bind fun s24 => xm_buys_b17_j108 s24 x1 x2 x3 x5 else (some (uh s 156 i15 ((s 156 i15) + (s 158 i17)))).bind fun s20 => xm_buys_b17_j108 s20 x1 x2 x3 x5 else some (.inr (x5, s))
set_option maxRecDepth 100000 in
theorem xm_buys_b17_ok {d : Nat} {P : Option Value → pm_H → Prop} {w : pm_H} {sh : Shp} {w0 : pm_H} {s : Hp} (hS : StM sh) {x1 : Int} {x2 : Int} {x3 : Int} {x5 : Int} (h : Rw sh w0 s w) {o : ((Int × Hp) ⊕ (Int × Hp))} (hx : xm_buys_b17 s x1 x2 x3 x5 = some o) (kn : ∀ (q : Int × Hp) w1, o = .inl q → Rw sh w0 q.2 w1 → wp (d + 2) 212 17 [(0, .ref 146), (1, .int (Int32.ofInt x1)), (2, .int (Int32.ofInt x2)), (3, .int (Int32.ofInt x3)), (5, .int (Int32.ofInt q.1))] [] w1 P) (kc : ∀ (r : (Int × Hp)), o = .inr r → (∀ w1, Rw sh w0 r.2 w1 → wp (d + 2) 212 129 [(0, .ref 146), (1, .int (Int32.ofInt x1)), (2, .int (Int32.ofInt x2)), (3, .int (Int32.ofInt x3)), (5, .int (Int32.ofInt r.1))] [] w1 P)) : wp (d + 2) 212 17 [(0, .ref 146), (1, .int (Int32.ofInt x1)), (2, .int (Int32.ofInt x2)), (3, .int (Int32.ofInt x3)), (5, .int (Int32.ofInt x5))] [] w P := by
  unfold xm_buys_b17 at hx
  refine wp_g 2 (pc1 := 20) (lv1 := [(0, .ref 146), (1, .int (Int32.ofInt x1)), (2, .int (Int32.ofInt x2)), (3, .int (Int32.ofInt x3)), (5, .int (Int32.ofInt x5))]) (st1 := [.ref 146, .int (Int32.ofInt x5)]) (w1 := w) rfl ?_
  refine wx_gr (o := 10) (kf := 39) (ln := 3) (ci := 12) (b := 20) (zz := 0) (x := 146) (by decide +kernel) h (hS _ _ sm_146) rfl ?_
  show wp _ 212 23 [(0, .ref 146), (1, .int (Int32.ofInt x1)), (2, .int (Int32.ofInt x2)), (3, .int (Int32.ofInt x3)), (5, .int (Int32.ofInt x5))] [.ref 156, .int (Int32.ofInt x5)] w _
  refine wp_g 1 (pc1 := 24) (lv1 := [(0, .ref 146), (1, .int (Int32.ofInt x1)), (2, .int (Int32.ofInt x2)), (3, .int (Int32.ofInt x3)), (5, .int (Int32.ofInt x5))]) (st1 := [.int (Int32.ofInt 0), .ref 156, .int (Int32.ofInt x5)]) (w1 := w) rfl ?_
  obtain ⟨i1, e2, hx⟩ := bd hx
  refine wx_ra (x := 156) (n := 130) (ln := 1) (a := 0) (b := 0) (zz := 0) (by decide +kernel) h (hS _ _ sm_156) e2 ?_
  show wp _ 212 25 [(0, .ref 146), (1, .int (Int32.ofInt x1)), (2, .int (Int32.ofInt x2)), (3, .int (Int32.ofInt x3)), (5, .int (Int32.ofInt x5))] [.int (Int32.ofInt (s 156 i1)), .int (Int32.ofInt x5)] w _
  refine wx_ge (oo := 104) (ln := 3) (a := 129) (b := 0) (zz := 0) (by decide +kernel) (fun h3 => ?_) (fun h3 => ?_)
  · have hx := ite_f h3 hx
    cases hx
    exact kc _ rfl _ h
  · have hx := ite_t h3 hx
    refine wp_g 4 (pc1 := 33) (lv1 := [(0, .ref 146), (1, .int (Int32.ofInt x1)), (2, .int (Int32.ofInt x2)), (3, .int (Int32.ofInt x3)), (5, .int (Int32.ofInt x5))]) (st1 := [.int (Int32.ofInt x3), .int (Int32.ofInt x2), .int (Int32.ofInt x5), .ref 146]) (w1 := w) rfl ?_
    obtain ⟨o4, e5, hx⟩ := bd hx
    refine wp_cl [.ref 146, .int (Int32.ofInt x5), .int (Int32.ofInt x2), .int (Int32.ofInt x3)] [] (i := .invokevirtual 335) (ln := 3) (a := 205) (b := 0) (z := 0) (by decide +kernel) rfl rfl (by decide) rfl (show (4 : Nat) = pm_na 205 by decide +kernel) (Nat.le_of_ble_eq_true rfl) (show (4 : Nat) ≤ pm_n 205 by decide +kernel) (rcv_x 12 h (hS _ _ sm_146) (by decide +kernel)) (xm_isMoved_ok (d := d) hS h e5 ?_)
    show wp _ 212 36 [(0, .ref 146), (1, .int (Int32.ofInt x1)), (2, .int (Int32.ofInt x2)), (3, .int (Int32.ofInt x3)), (5, .int (Int32.ofInt x5))] [.int (Int32.ofInt o4)] w _
    refine wz_ne (oo := 6) (ln := 3) (a := 42) (b := 0) (zz := 0) (by decide +kernel) (fun h8 => ?_) (fun h8 => ?_)
    · have hx := ite_f h8 hx
      refine wp_g 3 (pc1 := 46) (lv1 := [(0, .ref 146), (1, .int (Int32.ofInt x1)), (2, .int (Int32.ofInt x2)), (3, .int (Int32.ofInt x3)), (5, .int (Int32.ofInt x5))]) (st1 := [.int (Int32.ofInt 3), .int (Int32.ofInt x5), .ref 146]) (w1 := w) rfl ?_
      obtain ⟨o9, e10, hx⟩ := bd hx
      refine wp_cl [.ref 146, .int (Int32.ofInt x5), .int (Int32.ofInt 3)] [] (i := .invokevirtual 304) (ln := 3) (a := 194) (b := 0) (z := 0) (by decide +kernel) rfl rfl (by decide) rfl (show (3 : Nat) = pm_na 194 by decide +kernel) (Nat.le_of_ble_eq_true rfl) (show (3 : Nat) ≤ pm_n 194 by decide +kernel) (rcv_x 12 h (hS _ _ sm_146) (by decide +kernel)) (xm_cellOf_ok (d := d + 1) hS h e10 ?_)
      show wp _ 212 49 [(0, .ref 146), (1, .int (Int32.ofInt x1)), (2, .int (Int32.ofInt x2)), (3, .int (Int32.ofInt x3)), (5, .int (Int32.ofInt x5))] [.int (Int32.ofInt o9)] w _
      refine wp_g 2 (pc1 := 53) (lv1 := [(6, .int (Int32.ofInt o9)), (0, .ref 146), (1, .int (Int32.ofInt x1)), (2, .int (Int32.ofInt x2)), (3, .int (Int32.ofInt x3)), (5, .int (Int32.ofInt x5))]) (st1 := [.int (Int32.ofInt o9)]) (w1 := w) rfl ?_
      refine wz_lt (oo := 55) (ln := 3) (a := 108) (b := 0) (zz := 0) (by decide +kernel) (fun h13 => ?_) (fun h13 => ?_)
      · have hx := ite_t h13 hx
        refine wp_lv (lv1 := [(0, .ref 146), (1, .int (Int32.ofInt x1)), (2, .int (Int32.ofInt x2)), (3, .int (Int32.ofInt x3)), (5, .int (Int32.ofInt x5))]) (lsub_p [1, 2, 3, 4, 5] rfl rfl rfl) ?_
        exact xm_buys_b17_j108_ok hS h hx kn kc
      · have hx := ite_f h13 hx
        refine wp_g 2 (pc1 := 59) (lv1 := [(6, .int (Int32.ofInt o9)), (0, .ref 146), (1, .int (Int32.ofInt x1)), (2, .int (Int32.ofInt x2)), (3, .int (Int32.ofInt x3)), (5, .int (Int32.ofInt x5))]) (st1 := [.int (Int32.ofInt x1), .int (Int32.ofInt o9)]) (w1 := w) rfl ?_
        refine wx_eq (oo := 49) (ln := 3) (a := 108) (b := 0) (zz := 0) (by decide +kernel) (fun h14 => ?_) (fun h14 => ?_)
        · have hx := ite_t h14 hx
          refine wp_lv (lv1 := [(0, .ref 146), (1, .int (Int32.ofInt x1)), (2, .int (Int32.ofInt x2)), (3, .int (Int32.ofInt x3)), (5, .int (Int32.ofInt x5))]) (lsub_p [1, 2, 3, 4, 5] rfl rfl rfl) ?_
          exact xm_buys_b17_j108_ok hS h hx kn kc
        · have hx := ite_f h14 hx
          refine wp_g 1 (pc1 := 63) (lv1 := [(6, .int (Int32.ofInt o9)), (0, .ref 146), (1, .int (Int32.ofInt x1)), (2, .int (Int32.ofInt x2)), (3, .int (Int32.ofInt x3)), (5, .int (Int32.ofInt x5))]) (st1 := [.ref 146]) (w1 := w) rfl ?_
          refine wx_gr (o := 10) (kf := 39) (ln := 3) (ci := 12) (b := 20) (zz := 0) (x := 146) (by decide +kernel) h (hS _ _ sm_146) rfl ?_
          show wp _ 212 66 [(6, .int (Int32.ofInt o9)), (0, .ref 146), (1, .int (Int32.ofInt x1)), (2, .int (Int32.ofInt x2)), (3, .int (Int32.ofInt x3)), (5, .int (Int32.ofInt x5))] [.ref 156] w _
          refine wp_g 3 (pc1 := 71) (lv1 := [(6, .int (Int32.ofInt o9)), (0, .ref 146), (1, .int (Int32.ofInt x1)), (2, .int (Int32.ofInt x2)), (3, .int (Int32.ofInt x3)), (5, .int (Int32.ofInt x5))]) (st1 := [.int (Int32.ofInt (51 + o9)), .ref 156]) (w1 := w) (by simp only [Int32.ofInt_add, Int32.ofInt_sub, Int32.ofInt_mul, Int32.ofInt_neg, p_and, p_or, p_xor, p_shl, p_shr, p_usr, p_w8, p_c16, p_lI, q_and, q_or, q_shl, q_shr, q_w32, Int64.ofInt_add, Int64.ofInt_sub, Int64.ofInt_mul, p_mx, p_mn, q_mx, q_mn]; rfl) ?_
          obtain ⟨i15, e16, hx⟩ := bd hx
          refine wx_ra (x := 156) (n := 130) (ln := 1) (a := 0) (b := 0) (zz := 0) (by decide +kernel) h (hS _ _ sm_156) e16 ?_
          show wp _ 212 72 [(6, .int (Int32.ofInt o9)), (0, .ref 146), (1, .int (Int32.ofInt x1)), (2, .int (Int32.ofInt x2)), (3, .int (Int32.ofInt x3)), (5, .int (Int32.ofInt x5))] [.int (Int32.ofInt (s 156 i15))] w _
          refine wp_g 1 (pc1 := 73) (lv1 := [(6, .int (Int32.ofInt o9)), (0, .ref 146), (1, .int (Int32.ofInt x1)), (2, .int (Int32.ofInt x2)), (3, .int (Int32.ofInt x3)), (5, .int (Int32.ofInt x5))]) (st1 := [.ref 146, .int (Int32.ofInt (s 156 i15))]) (w1 := w) rfl ?_
          refine wx_gr (o := 12) (kf := 49) (ln := 3) (ci := 12) (b := 24) (zz := 0) (x := 146) (by decide +kernel) h (hS _ _ sm_146) rfl ?_
          show wp _ 212 76 [(6, .int (Int32.ofInt o9)), (0, .ref 146), (1, .int (Int32.ofInt x1)), (2, .int (Int32.ofInt x2)), (3, .int (Int32.ofInt x3)), (5, .int (Int32.ofInt x5))] [.ref 158, .int (Int32.ofInt (s 156 i15))] w _
          refine wp_g 1 (pc1 := 78) (lv1 := [(6, .int (Int32.ofInt o9)), (0, .ref 146), (1, .int (Int32.ofInt x1)), (2, .int (Int32.ofInt x2)), (3, .int (Int32.ofInt x3)), (5, .int (Int32.ofInt x5))]) (st1 := [.int (Int32.ofInt x5), .ref 158, .int (Int32.ofInt (s 156 i15))]) (w1 := w) rfl ?_
          obtain ⟨i17, e18, hx⟩ := bd hx
          refine wx_ra (x := 158) (n := 8) (ln := 1) (a := 0) (b := 0) (zz := 0) (by decide +kernel) h (hS _ _ sm_158) e18 ?_
          show wp _ 212 79 [(6, .int (Int32.ofInt o9)), (0, .ref 146), (1, .int (Int32.ofInt x1)), (2, .int (Int32.ofInt x2)), (3, .int (Int32.ofInt x3)), (5, .int (Int32.ofInt x5))] [.int (Int32.ofInt (s 158 i17)), .int (Int32.ofInt (s 156 i15))] w _
          refine wp_g 3 (pc1 := 83) (lv1 := [(7, .int (Int32.ofInt ((s 156 i15) + (s 158 i17)))), (6, .int (Int32.ofInt o9)), (0, .ref 146), (1, .int (Int32.ofInt x1)), (2, .int (Int32.ofInt x2)), (3, .int (Int32.ofInt x3)), (5, .int (Int32.ofInt x5))]) (st1 := [.ref 146]) (w1 := w) (by simp only [Int32.ofInt_add, Int32.ofInt_sub, Int32.ofInt_mul, Int32.ofInt_neg, p_and, p_or, p_xor, p_shl, p_shr, p_usr, p_w8, p_c16, p_lI, q_and, q_or, q_shl, q_shr, q_w32, Int64.ofInt_add, Int64.ofInt_sub, Int64.ofInt_mul, p_mx, p_mn, q_mx, q_mn]; rfl) ?_
          refine wx_gr (o := 10) (kf := 39) (ln := 3) (ci := 12) (b := 20) (zz := 0) (x := 146) (by decide +kernel) h (hS _ _ sm_146) rfl ?_
          show wp _ 212 86 [(7, .int (Int32.ofInt ((s 156 i15) + (s 158 i17)))), (6, .int (Int32.ofInt o9)), (0, .ref 146), (1, .int (Int32.ofInt x1)), (2, .int (Int32.ofInt x2)), (3, .int (Int32.ofInt x3)), (5, .int (Int32.ofInt x5))] [.ref 156] w _
          refine wp_g 5 (pc1 := 96) (lv1 := [(7, .int (Int32.ofInt ((s 156 i15) + (s 158 i17)))), (6, .int (Int32.ofInt o9)), (0, .ref 146), (1, .int (Int32.ofInt x1)), (2, .int (Int32.ofInt x2)), (3, .int (Int32.ofInt x3)), (5, .int (Int32.ofInt x5))]) (st1 := [.int (Int32.ofInt 9999), .int (Int32.ofInt ((s 156 i15) + (s 158 i17))), .int (Int32.ofInt (51 + o9)), .ref 156]) (w1 := w) (by simp only [Int32.ofInt_add, Int32.ofInt_sub, Int32.ofInt_mul, Int32.ofInt_neg, p_and, p_or, p_xor, p_shl, p_shr, p_usr, p_w8, p_c16, p_lI, q_and, q_or, q_shl, q_shr, q_w32, Int64.ofInt_add, Int64.ofInt_sub, Int64.ofInt_mul, p_mx, p_mn, q_mx, q_mn]; rfl) ?_
          refine wx_le (oo := 9) (ln := 3) (a := 105) (b := 0) (zz := 0) (by decide +kernel) (fun h19 => ?_) (fun h19 => ?_)
          · have hx := ite_f h19 hx
            refine wp_g 1 (pc1 := 107) (lv1 := [(7, .int (Int32.ofInt ((s 156 i15) + (s 158 i17)))), (6, .int (Int32.ofInt o9)), (0, .ref 146), (1, .int (Int32.ofInt x1)), (2, .int (Int32.ofInt x2)), (3, .int (Int32.ofInt x3)), (5, .int (Int32.ofInt x5))]) (st1 := [.int (Int32.ofInt ((s 156 i15) + (s 158 i17))), .int (Int32.ofInt (51 + o9)), .ref 156]) (w1 := w) rfl ?_
            obtain ⟨s20, e21, hx⟩ := bd hx
            refine wx_wa (x := 156) (n := 130) (ln := 1) (a := 0) (b := 0) (zz := 0) (by decide +kernel) h (hS _ _ sm_156) e16 e21 (fun w22 h23 => ?_)
            refine wp_lv (lv1 := [(0, .ref 146), (1, .int (Int32.ofInt x1)), (2, .int (Int32.ofInt x2)), (3, .int (Int32.ofInt x3)), (5, .int (Int32.ofInt x5))]) (lsub_p [2, 3, 4, 5, 6] rfl rfl rfl) ?_
            exact xm_buys_b17_j108_ok hS h23 hx kn kc
          · have hx := ite_t h19 hx
            refine wp_g 2 (pc1 := 107) (lv1 := [(7, .int (Int32.ofInt ((s 156 i15) + (s 158 i17)))), (6, .int (Int32.ofInt o9)), (0, .ref 146), (1, .int (Int32.ofInt x1)), (2, .int (Int32.ofInt x2)), (3, .int (Int32.ofInt x3)), (5, .int (Int32.ofInt x5))]) (st1 := [.int (Int32.ofInt 9999), .int (Int32.ofInt (51 + o9)), .ref 156]) (w1 := w) rfl ?_
            obtain ⟨s24, e25, hx⟩ := bd hx
            refine wx_wa (x := 156) (n := 130) (ln := 1) (a := 0) (b := 0) (zz := 0) (by decide +kernel) h (hS _ _ sm_156) e16 e25 (fun w26 h27 => ?_)
            refine wp_lv (lv1 := [(0, .ref 146), (1, .int (Int32.ofInt x1)), (2, .int (Int32.ofInt x2)), (3, .int (Int32.ofInt x3)), (5, .int (Int32.ofInt x5))]) (lsub_p [2, 3, 4, 5, 6] rfl rfl rfl) ?_
            exact xm_buys_b17_j108_ok hS h27 hx kn kc
    · have hx := ite_t h8 hx
      refine wp_g 3 (pc1 := 17) (lv1 := [(5, .int (Int32.ofInt (x5 + 1))), (0, .ref 146), (1, .int (Int32.ofInt x1)), (2, .int (Int32.ofInt x2)), (3, .int (Int32.ofInt x3))]) (st1 := []) (w1 := w) (by simp only [Int32.ofInt_add, Int32.ofInt_sub, Int32.ofInt_mul, Int32.ofInt_neg, p_and, p_or, p_xor, p_shl, p_shr, p_usr, p_w8, p_c16, p_lI, q_and, q_or, q_shl, q_shr, q_w32, Int64.ofInt_add, Int64.ofInt_sub, Int64.ofInt_mul, p_mx, p_mn, q_mx, q_mn]; rfl) ?_
      refine wp_lv (lv1 := [(0, .ref 146), (1, .int (Int32.ofInt x1)), (2, .int (Int32.ofInt x2)), (3, .int (Int32.ofInt x3)), (5, .int (Int32.ofInt (x5 + 1)))]) (lsub_p [1, 2, 3, 4, 0] rfl rfl rfl) ?_
      cases hx
      exact kn _ _ rfl h
/-- FoldDeedsModel.buys (IIII)V -/
noncomputable def xm_buys (s : Hp) (p1 : Int) (p2 : Int) (p3 : Int) (p4 : Int) : Option Hp :=
  (ix 130 (51 + p1)).bind fun i1 => (some (uh s 156 i1 ((s 156 i1) - p4))).bind fun s3 => (lp (fun (q : Int × Hp) => xm_buys_b17 q.2 p1 p2 p3 q.1) (0, s3)).bind fun q7 => some q7.2
set_option maxRecDepth 100000 in
theorem xm_buys_ok {d : Nat} {P : Option Value → pm_H → Prop} {w : pm_H} {sh : Shp} {w0 : pm_H} {s : Hp} (hS : StM sh) {p1 : Int} {p2 : Int} {p3 : Int} {p4 : Int} (h : Rw sh w0 s w) {o : Hp} (hx : xm_buys s p1 p2 p3 p4 = some o) (kr : ∀ w1, Rw sh w0 o w1 → P none w1) : wp (d + 2) 212 0 (lv_args 0 [.ref 146, .int (Int32.ofInt p1), .int (Int32.ofInt p2), .int (Int32.ofInt p3), .int (Int32.ofInt p4)]) [] w P := by
  show wp _ 212 0 [(0, .ref 146), (1, .int (Int32.ofInt p1)), (2, .int (Int32.ofInt p2)), (3, .int (Int32.ofInt p3)), (4, .int (Int32.ofInt p4))] [] w _
  unfold xm_buys at hx
  refine wp_g 1 (pc1 := 1) (lv1 := [(0, .ref 146), (1, .int (Int32.ofInt p1)), (2, .int (Int32.ofInt p2)), (3, .int (Int32.ofInt p3)), (4, .int (Int32.ofInt p4))]) (st1 := [.ref 146]) (w1 := w) rfl ?_
  refine wx_gr (o := 10) (kf := 39) (ln := 3) (ci := 12) (b := 20) (zz := 0) (x := 146) (by decide +kernel) h (hS _ _ sm_146) rfl ?_
  show wp _ 212 4 [(0, .ref 146), (1, .int (Int32.ofInt p1)), (2, .int (Int32.ofInt p2)), (3, .int (Int32.ofInt p3)), (4, .int (Int32.ofInt p4))] [.ref 156] w _
  refine wp_g 4 (pc1 := 9) (lv1 := [(0, .ref 146), (1, .int (Int32.ofInt p1)), (2, .int (Int32.ofInt p2)), (3, .int (Int32.ofInt p3)), (4, .int (Int32.ofInt p4))]) (st1 := [.int (Int32.ofInt (51 + p1)), .ref 156, .int (Int32.ofInt (51 + p1)), .ref 156]) (w1 := w) (by simp only [Int32.ofInt_add, Int32.ofInt_sub, Int32.ofInt_mul, Int32.ofInt_neg, p_and, p_or, p_xor, p_shl, p_shr, p_usr, p_w8, p_c16, p_lI, q_and, q_or, q_shl, q_shr, q_w32, Int64.ofInt_add, Int64.ofInt_sub, Int64.ofInt_mul, p_mx, p_mn, q_mx, q_mn]; rfl) ?_
  obtain ⟨i1, e2, hx⟩ := bd hx
  refine wx_ra (x := 156) (n := 130) (ln := 1) (a := 0) (b := 0) (zz := 0) (by decide +kernel) h (hS _ _ sm_156) e2 ?_
  show wp _ 212 10 [(0, .ref 146), (1, .int (Int32.ofInt p1)), (2, .int (Int32.ofInt p2)), (3, .int (Int32.ofInt p3)), (4, .int (Int32.ofInt p4))] [.int (Int32.ofInt (s 156 i1)), .int (Int32.ofInt (51 + p1)), .ref 156] w _
  refine wp_g 2 (pc1 := 13) (lv1 := [(0, .ref 146), (1, .int (Int32.ofInt p1)), (2, .int (Int32.ofInt p2)), (3, .int (Int32.ofInt p3)), (4, .int (Int32.ofInt p4))]) (st1 := [.int (Int32.ofInt ((s 156 i1) - p4)), .int (Int32.ofInt (51 + p1)), .ref 156]) (w1 := w) (by simp only [Int32.ofInt_add, Int32.ofInt_sub, Int32.ofInt_mul, Int32.ofInt_neg, p_and, p_or, p_xor, p_shl, p_shr, p_usr, p_w8, p_c16, p_lI, q_and, q_or, q_shl, q_shr, q_w32, Int64.ofInt_add, Int64.ofInt_sub, Int64.ofInt_mul, p_mx, p_mn, q_mx, q_mn]; rfl) ?_
  obtain ⟨s3, e4, hx⟩ := bd hx
  refine wx_wa (x := 156) (n := 130) (ln := 1) (a := 0) (b := 0) (zz := 0) (by decide +kernel) h (hS _ _ sm_156) e2 e4 (fun w5 h6 => ?_)
  refine wp_g 2 (pc1 := 17) (lv1 := [(5, .int (Int32.ofInt 0)), (0, .ref 146), (1, .int (Int32.ofInt p1)), (2, .int (Int32.ofInt p2)), (3, .int (Int32.ofInt p3)), (4, .int (Int32.ofInt p4))]) (st1 := []) (w1 := w5) rfl ?_
  refine wp_lv (lv1 := [(0, .ref 146), (1, .int (Int32.ofInt p1)), (2, .int (Int32.ofInt p2)), (3, .int (Int32.ofInt p3)), (5, .int (Int32.ofInt 0))]) (lsub_p [1, 2, 3, 4, 0] rfl rfl rfl) ?_
  obtain ⟨q7, e8, hx⟩ := bd hx
  refine wp_lp (σ := Int × Hp) (ρ := (Int × Hp)) (B := fun q => xm_buys_b17 q.2 p1 p2 p3 q.1) (R := fun q w' => Rw sh w0 q.2 w') (C := fun r => ∀ w1, Rw sh w0 r.2 w1 → wp (d + 2) 212 129 [(0, .ref 146), (1, .int (Int32.ofInt p1)), (2, .int (Int32.ofInt p2)), (3, .int (Int32.ofInt p3)), (5, .int (Int32.ofInt r.1))] [] w1 P) (lv := fun q => [(0, .ref 146), (1, .int (Int32.ofInt p1)), (2, .int (Int32.ofInt p2)), (3, .int (Int32.ofInt p3)), (5, .int (Int32.ofInt q.1))]) (hd := 17) (fun q w' o hR hb kn kc => xm_buys_b17_ok hS hR hb kn kc) _ _ _ e8 h6 ?_
  intro w9 h10
  show wp _ 212 129 [(0, .ref 146), (1, .int (Int32.ofInt p1)), (2, .int (Int32.ofInt p2)), (3, .int (Int32.ofInt p3)), (5, .int (Int32.ofInt q7.1))] [] w9 _
  refine wp_rt (i := .return_) (r := none) (ln := 1) (a := 0) (b := 0) (z := 0) (by decide +kernel) rfl (ret_v (by decide +kernel)) ?_
  cases hx
  exact kr _ h10
/-- FoldDeedsModel.placeOf (I)I -/
noncomputable def xm_placeOf (p0 : Int) : Option Int :=
  some (iDiv p0 4)
set_option maxRecDepth 100000 in
theorem xm_placeOf_ok {d : Nat} {P : Option Value → pm_H → Prop} {w : pm_H} {p0 : Int} {o : Int} (hx : xm_placeOf p0 = some o) (kr : P (some (.int (Int32.ofInt o))) w) : wp d 213 0 (lv_args 0 [.int (Int32.ofInt p0)]) [] w P := by
  show wp _ 213 0 [(0, .int (Int32.ofInt p0))] [] w _
  unfold xm_placeOf at hx
  refine wp_g 2 (pc1 := 2) (lv1 := [(0, .int (Int32.ofInt p0))]) (st1 := [.int (Int32.ofInt 4), .int (Int32.ofInt p0)]) (w1 := w) rfl ?_
  refine wx_dv (ln := 1) (a := 0) (b := 0) (zz := 0) (by decide +kernel) (by decide) ?_
  refine wp_rt (i := .ireturn) (r := some (.int (Int32.ofInt (iDiv p0 4)))) (ln := 1) (a := 0) (b := 0) (z := 0) (by decide +kernel) rfl (ret_ok (by decide +kernel)) ?_
  cases hx
  exact kr
/-- FoldDeedsModel.sideOf (I)I -/
noncomputable def xm_sideOf (p0 : Int) : Option Int :=
  some (iRem (iDiv p0 2) 2)
set_option maxRecDepth 100000 in
theorem xm_sideOf_ok {d : Nat} {P : Option Value → pm_H → Prop} {w : pm_H} {p0 : Int} {o : Int} (hx : xm_sideOf p0 = some o) (kr : P (some (.int (Int32.ofInt o))) w) : wp d 214 0 (lv_args 0 [.int (Int32.ofInt p0)]) [] w P := by
  show wp _ 214 0 [(0, .int (Int32.ofInt p0))] [] w _
  unfold xm_sideOf at hx
  refine wp_g 2 (pc1 := 2) (lv1 := [(0, .int (Int32.ofInt p0))]) (st1 := [.int (Int32.ofInt 2), .int (Int32.ofInt p0)]) (w1 := w) rfl ?_
  refine wx_dv (ln := 1) (a := 0) (b := 0) (zz := 0) (by decide +kernel) (by decide) ?_
  refine wp_g 1 (pc1 := 4) (lv1 := [(0, .int (Int32.ofInt p0))]) (st1 := [.int (Int32.ofInt 2), .int (Int32.ofInt (iDiv p0 2))]) (w1 := w) rfl ?_
  refine wx_rm (ln := 1) (a := 0) (b := 0) (zz := 0) (by decide +kernel) (by decide) ?_
  refine wp_rt (i := .ireturn) (r := some (.int (Int32.ofInt (iRem (iDiv p0 2) 2)))) (ln := 1) (a := 0) (b := 0) (z := 0) (by decide +kernel) rfl (ret_ok (by decide +kernel)) ?_
  cases hx
  exact kr
/-- FoldDeedsModel.wayOf (I)I -/
noncomputable def xm_wayOf (p0 : Int) : Option Int :=
  some (iRem p0 2)
set_option maxRecDepth 100000 in
theorem xm_wayOf_ok {d : Nat} {P : Option Value → pm_H → Prop} {w : pm_H} {p0 : Int} {o : Int} (hx : xm_wayOf p0 = some o) (kr : P (some (.int (Int32.ofInt o))) w) : wp d 215 0 (lv_args 0 [.int (Int32.ofInt p0)]) [] w P := by
  show wp _ 215 0 [(0, .int (Int32.ofInt p0))] [] w _
  unfold xm_wayOf at hx
  refine wp_g 2 (pc1 := 2) (lv1 := [(0, .int (Int32.ofInt p0))]) (st1 := [.int (Int32.ofInt 2), .int (Int32.ofInt p0)]) (w1 := w) rfl ?_
  refine wx_rm (ln := 1) (a := 0) (b := 0) (zz := 0) (by decide +kernel) (by decide) ?_
  refine wp_rt (i := .ireturn) (r := some (.int (Int32.ofInt (iRem p0 2)))) (ln := 1) (a := 0) (b := 0) (z := 0) (by decide +kernel) rfl (ret_ok (by decide +kernel)) ?_
  cases hx
  exact kr
/-- FoldDeedsModel.isFolded (II)Z -/
noncomputable def xm_isFolded (s : Hp) (p1 : Int) (p2 : Int) : Option (Int × Hp) :=
  (xm_placeOf p2).bind fun o1 => (xm_wayOf p2).bind fun o5 => (xm_canCrease s o1 o5).bind fun o9 => if w32 o9 = 0 then some (0, s) else (xm_sideOf p2).bind fun o14 => (xm_wayOf p2).bind fun o18 => (xm_prices s p1 o1 o14 o18).bind fun o22 => (ix 130 (51 + p1)).bind fun i26 => if w32 (o22.2 156 i26) < w32 o22.1 then some (0, o22.2) else (xm_sideOf p2).bind fun o29 => (xm_buys o22.2 p1 o1 o29 o22.1).bind fun o33 => (xm_sideOf p2).bind fun o37 => (xm_wayOf p2).bind fun o41 => (xm_turnsOver o33 o1 o37 o41).bind fun o45 => (ix 130 11).bind fun i49 => if w32 (o45 156 i49) < w32 9999 then (some (uh o45 156 i49 ((o45 156 i49) + 1))).bind fun s56 => some (1, s56) else (some (uh o45 156 i49 ((o45 156 i49) + 0))).bind fun s52 => some (1, s52)
set_option maxRecDepth 100000 in
theorem xm_isFolded_ok {d : Nat} {P : Option Value → pm_H → Prop} {w : pm_H} {sh : Shp} {w0 : pm_H} {s : Hp} (hS : StM sh) {p1 : Int} {p2 : Int} (h : Rw sh w0 s w) {o : Int × Hp} (hx : xm_isFolded s p1 p2 = some o) (kr : ∀ w1, Rw sh w0 o.2 w1 → P (some (.int (Int32.ofInt o.1))) w1) : wp (d + 4) 216 0 (lv_args 0 [.ref 146, .int (Int32.ofInt p1), .int (Int32.ofInt p2)]) [] w P := by
  show wp _ 216 0 [(0, .ref 146), (1, .int (Int32.ofInt p1)), (2, .int (Int32.ofInt p2))] [] w _
  unfold xm_isFolded at hx
  refine wp_g 1 (pc1 := 1) (lv1 := [(0, .ref 146), (1, .int (Int32.ofInt p1)), (2, .int (Int32.ofInt p2))]) (st1 := [.int (Int32.ofInt p2)]) (w1 := w) rfl ?_
  obtain ⟨o1, e2, hx⟩ := bd hx
  refine wp_cl [.int (Int32.ofInt p2)] [] (i := .invokestatic 352) (ln := 3) (a := 213) (b := 1) (z := 0) (by decide +kernel) rfl rfl (by decide) rfl (show (1 : Nat) = pm_na 213 by decide +kernel) (Nat.le_of_ble_eq_true rfl) (show (1 : Nat) ≤ pm_n 213 by decide +kernel) (by rw [show pm_k 213 = 1 by decide +kernel]; rfl) (xm_placeOf_ok (d := d + 3) e2 ?_)
  show wp _ 216 4 [(0, .ref 146), (1, .int (Int32.ofInt p1)), (2, .int (Int32.ofInt p2))] [.int (Int32.ofInt o1)] w _
  refine wp_g 4 (pc1 := 8) (lv1 := [(3, .int (Int32.ofInt o1)), (0, .ref 146), (1, .int (Int32.ofInt p1)), (2, .int (Int32.ofInt p2))]) (st1 := [.int (Int32.ofInt p2), .int (Int32.ofInt o1), .ref 146]) (w1 := w) rfl ?_
  obtain ⟨o5, e6, hx⟩ := bd hx
  refine wp_cl [.int (Int32.ofInt p2)] [.int (Int32.ofInt o1), .ref 146] (i := .invokestatic 355) (ln := 3) (a := 215) (b := 1) (z := 0) (by decide +kernel) rfl rfl (by decide) rfl (show (1 : Nat) = pm_na 215 by decide +kernel) (Nat.le_of_ble_eq_true rfl) (show (1 : Nat) ≤ pm_n 215 by decide +kernel) (by rw [show pm_k 215 = 1 by decide +kernel]; rfl) (xm_wayOf_ok (d := d + 3) e6 ?_)
  show wp _ 216 11 [(3, .int (Int32.ofInt o1)), (0, .ref 146), (1, .int (Int32.ofInt p1)), (2, .int (Int32.ofInt p2))] [.int (Int32.ofInt o5), .int (Int32.ofInt o1), .ref 146] w _
  obtain ⟨o9, e10, hx⟩ := bd hx
  refine wp_cl [.ref 146, .int (Int32.ofInt o1), .int (Int32.ofInt o5)] [] (i := .invokevirtual 358) (ln := 3) (a := 207) (b := 0) (z := 0) (by decide +kernel) rfl rfl (by decide) rfl (show (3 : Nat) = pm_na 207 by decide +kernel) (Nat.le_of_ble_eq_true rfl) (show (3 : Nat) ≤ pm_n 207 by decide +kernel) (rcv_x 12 h (hS _ _ sm_146) (by decide +kernel)) (xm_canCrease_ok (d := d + 1) hS h e10 ?_)
  show wp _ 216 14 [(3, .int (Int32.ofInt o1)), (0, .ref 146), (1, .int (Int32.ofInt p1)), (2, .int (Int32.ofInt p2))] [.int (Int32.ofInt o9)] w _
  refine wz_ne (oo := 5) (ln := 3) (a := 19) (b := 0) (zz := 0) (by decide +kernel) (fun h13 => ?_) (fun h13 => ?_)
  · have hx := ite_f h13 hx
    refine wp_g 4 (pc1 := 23) (lv1 := [(3, .int (Int32.ofInt o1)), (0, .ref 146), (1, .int (Int32.ofInt p1)), (2, .int (Int32.ofInt p2))]) (st1 := [.int (Int32.ofInt p2), .int (Int32.ofInt o1), .int (Int32.ofInt p1), .ref 146]) (w1 := w) rfl ?_
    obtain ⟨o14, e15, hx⟩ := bd hx
    refine wp_cl [.int (Int32.ofInt p2)] [.int (Int32.ofInt o1), .int (Int32.ofInt p1), .ref 146] (i := .invokestatic 361) (ln := 3) (a := 214) (b := 1) (z := 0) (by decide +kernel) rfl rfl (by decide) rfl (show (1 : Nat) = pm_na 214 by decide +kernel) (Nat.le_of_ble_eq_true rfl) (show (1 : Nat) ≤ pm_n 214 by decide +kernel) (by rw [show pm_k 214 = 1 by decide +kernel]; rfl) (xm_sideOf_ok (d := d + 3) e15 ?_)
    show wp _ 216 26 [(3, .int (Int32.ofInt o1)), (0, .ref 146), (1, .int (Int32.ofInt p1)), (2, .int (Int32.ofInt p2))] [.int (Int32.ofInt o14), .int (Int32.ofInt o1), .int (Int32.ofInt p1), .ref 146] w _
    refine wp_g 1 (pc1 := 27) (lv1 := [(3, .int (Int32.ofInt o1)), (0, .ref 146), (1, .int (Int32.ofInt p1)), (2, .int (Int32.ofInt p2))]) (st1 := [.int (Int32.ofInt p2), .int (Int32.ofInt o14), .int (Int32.ofInt o1), .int (Int32.ofInt p1), .ref 146]) (w1 := w) rfl ?_
    obtain ⟨o18, e19, hx⟩ := bd hx
    refine wp_cl [.int (Int32.ofInt p2)] [.int (Int32.ofInt o14), .int (Int32.ofInt o1), .int (Int32.ofInt p1), .ref 146] (i := .invokestatic 355) (ln := 3) (a := 215) (b := 1) (z := 0) (by decide +kernel) rfl rfl (by decide) rfl (show (1 : Nat) = pm_na 215 by decide +kernel) (Nat.le_of_ble_eq_true rfl) (show (1 : Nat) ≤ pm_n 215 by decide +kernel) (by rw [show pm_k 215 = 1 by decide +kernel]; rfl) (xm_wayOf_ok (d := d + 3) e19 ?_)
    show wp _ 216 30 [(3, .int (Int32.ofInt o1)), (0, .ref 146), (1, .int (Int32.ofInt p1)), (2, .int (Int32.ofInt p2))] [.int (Int32.ofInt o18), .int (Int32.ofInt o14), .int (Int32.ofInt o1), .int (Int32.ofInt p1), .ref 146] w _
    obtain ⟨o22, e23, hx⟩ := bd hx
    refine wp_cl [.ref 146, .int (Int32.ofInt p1), .int (Int32.ofInt o1), .int (Int32.ofInt o14), .int (Int32.ofInt o18)] [] (i := .invokevirtual 364) (ln := 3) (a := 211) (b := 0) (z := 0) (by decide +kernel) rfl rfl (by decide) rfl (show (5 : Nat) = pm_na 211 by decide +kernel) (Nat.le_of_ble_eq_true rfl) (show (5 : Nat) ≤ pm_n 211 by decide +kernel) (rcv_x 12 h (hS _ _ sm_146) (by decide +kernel)) (xm_prices_ok (d := d) hS h e23 (fun w24 h25 => ?_))
    show wp _ 216 33 [(3, .int (Int32.ofInt o1)), (0, .ref 146), (1, .int (Int32.ofInt p1)), (2, .int (Int32.ofInt p2))] [.int (Int32.ofInt o22.1)] w24 _
    refine wp_g 2 (pc1 := 36) (lv1 := [(4, .int (Int32.ofInt o22.1)), (3, .int (Int32.ofInt o1)), (0, .ref 146), (1, .int (Int32.ofInt p1)), (2, .int (Int32.ofInt p2))]) (st1 := [.ref 146]) (w1 := w24) rfl ?_
    refine wx_gr (o := 10) (kf := 39) (ln := 3) (ci := 12) (b := 20) (zz := 0) (x := 146) (by decide +kernel) h25 (hS _ _ sm_146) rfl ?_
    show wp _ 216 39 [(4, .int (Int32.ofInt o22.1)), (3, .int (Int32.ofInt o1)), (0, .ref 146), (1, .int (Int32.ofInt p1)), (2, .int (Int32.ofInt p2))] [.ref 156] w24 _
    refine wp_g 3 (pc1 := 43) (lv1 := [(4, .int (Int32.ofInt o22.1)), (3, .int (Int32.ofInt o1)), (0, .ref 146), (1, .int (Int32.ofInt p1)), (2, .int (Int32.ofInt p2))]) (st1 := [.int (Int32.ofInt (51 + p1)), .ref 156]) (w1 := w24) (by simp only [Int32.ofInt_add, Int32.ofInt_sub, Int32.ofInt_mul, Int32.ofInt_neg, p_and, p_or, p_xor, p_shl, p_shr, p_usr, p_w8, p_c16, p_lI, q_and, q_or, q_shl, q_shr, q_w32, Int64.ofInt_add, Int64.ofInt_sub, Int64.ofInt_mul, p_mx, p_mn, q_mx, q_mn]; rfl) ?_
    obtain ⟨i26, e27, hx⟩ := bd hx
    refine wx_ra (x := 156) (n := 130) (ln := 1) (a := 0) (b := 0) (zz := 0) (by decide +kernel) h25 (hS _ _ sm_156) e27 ?_
    show wp _ 216 44 [(4, .int (Int32.ofInt o22.1)), (3, .int (Int32.ofInt o1)), (0, .ref 146), (1, .int (Int32.ofInt p1)), (2, .int (Int32.ofInt p2))] [.int (Int32.ofInt (o22.2 156 i26))] w24 _
    refine wp_g 1 (pc1 := 46) (lv1 := [(4, .int (Int32.ofInt o22.1)), (3, .int (Int32.ofInt o1)), (0, .ref 146), (1, .int (Int32.ofInt p1)), (2, .int (Int32.ofInt p2))]) (st1 := [.int (Int32.ofInt o22.1), .int (Int32.ofInt (o22.2 156 i26))]) (w1 := w24) rfl ?_
    refine wx_ge (oo := 5) (ln := 3) (a := 51) (b := 0) (zz := 0) (by decide +kernel) (fun h28 => ?_) (fun h28 => ?_)
    · have hx := ite_f h28 hx
      refine wp_g 4 (pc1 := 55) (lv1 := [(4, .int (Int32.ofInt o22.1)), (3, .int (Int32.ofInt o1)), (0, .ref 146), (1, .int (Int32.ofInt p1)), (2, .int (Int32.ofInt p2))]) (st1 := [.int (Int32.ofInt p2), .int (Int32.ofInt o1), .int (Int32.ofInt p1), .ref 146]) (w1 := w24) rfl ?_
      obtain ⟨o29, e30, hx⟩ := bd hx
      refine wp_cl [.int (Int32.ofInt p2)] [.int (Int32.ofInt o1), .int (Int32.ofInt p1), .ref 146] (i := .invokestatic 361) (ln := 3) (a := 214) (b := 1) (z := 0) (by decide +kernel) rfl rfl (by decide) rfl (show (1 : Nat) = pm_na 214 by decide +kernel) (Nat.le_of_ble_eq_true rfl) (show (1 : Nat) ≤ pm_n 214 by decide +kernel) (by rw [show pm_k 214 = 1 by decide +kernel]; rfl) (xm_sideOf_ok (d := d + 3) e30 ?_)
      show wp _ 216 58 [(4, .int (Int32.ofInt o22.1)), (3, .int (Int32.ofInt o1)), (0, .ref 146), (1, .int (Int32.ofInt p1)), (2, .int (Int32.ofInt p2))] [.int (Int32.ofInt o29), .int (Int32.ofInt o1), .int (Int32.ofInt p1), .ref 146] w24 _
      refine wp_g 1 (pc1 := 60) (lv1 := [(4, .int (Int32.ofInt o22.1)), (3, .int (Int32.ofInt o1)), (0, .ref 146), (1, .int (Int32.ofInt p1)), (2, .int (Int32.ofInt p2))]) (st1 := [.int (Int32.ofInt o22.1), .int (Int32.ofInt o29), .int (Int32.ofInt o1), .int (Int32.ofInt p1), .ref 146]) (w1 := w24) rfl ?_
      obtain ⟨o33, e34, hx⟩ := bd hx
      refine wp_cl [.ref 146, .int (Int32.ofInt p1), .int (Int32.ofInt o1), .int (Int32.ofInt o29), .int (Int32.ofInt o22.1)] [] (i := .invokevirtual 368) (ln := 3) (a := 212) (b := 0) (z := 0) (by decide +kernel) rfl rfl (by decide) rfl (show (5 : Nat) = pm_na 212 by decide +kernel) (Nat.le_of_ble_eq_true rfl) (show (5 : Nat) ≤ pm_n 212 by decide +kernel) (rcv_x 12 h25 (hS _ _ sm_146) (by decide +kernel)) (xm_buys_ok (d := d + 1) hS h25 e34 (fun w35 h36 => ?_))
      show wp _ 216 63 [(4, .int (Int32.ofInt o22.1)), (3, .int (Int32.ofInt o1)), (0, .ref 146), (1, .int (Int32.ofInt p1)), (2, .int (Int32.ofInt p2))] [] w35 _
      refine wp_g 3 (pc1 := 66) (lv1 := [(4, .int (Int32.ofInt o22.1)), (3, .int (Int32.ofInt o1)), (0, .ref 146), (1, .int (Int32.ofInt p1)), (2, .int (Int32.ofInt p2))]) (st1 := [.int (Int32.ofInt p2), .int (Int32.ofInt o1), .ref 146]) (w1 := w35) rfl ?_
      obtain ⟨o37, e38, hx⟩ := bd hx
      refine wp_cl [.int (Int32.ofInt p2)] [.int (Int32.ofInt o1), .ref 146] (i := .invokestatic 361) (ln := 3) (a := 214) (b := 1) (z := 0) (by decide +kernel) rfl rfl (by decide) rfl (show (1 : Nat) = pm_na 214 by decide +kernel) (Nat.le_of_ble_eq_true rfl) (show (1 : Nat) ≤ pm_n 214 by decide +kernel) (by rw [show pm_k 214 = 1 by decide +kernel]; rfl) (xm_sideOf_ok (d := d + 3) e38 ?_)
      show wp _ 216 69 [(4, .int (Int32.ofInt o22.1)), (3, .int (Int32.ofInt o1)), (0, .ref 146), (1, .int (Int32.ofInt p1)), (2, .int (Int32.ofInt p2))] [.int (Int32.ofInt o37), .int (Int32.ofInt o1), .ref 146] w35 _
      refine wp_g 1 (pc1 := 70) (lv1 := [(4, .int (Int32.ofInt o22.1)), (3, .int (Int32.ofInt o1)), (0, .ref 146), (1, .int (Int32.ofInt p1)), (2, .int (Int32.ofInt p2))]) (st1 := [.int (Int32.ofInt p2), .int (Int32.ofInt o37), .int (Int32.ofInt o1), .ref 146]) (w1 := w35) rfl ?_
      obtain ⟨o41, e42, hx⟩ := bd hx
      refine wp_cl [.int (Int32.ofInt p2)] [.int (Int32.ofInt o37), .int (Int32.ofInt o1), .ref 146] (i := .invokestatic 355) (ln := 3) (a := 215) (b := 1) (z := 0) (by decide +kernel) rfl rfl (by decide) rfl (show (1 : Nat) = pm_na 215 by decide +kernel) (Nat.le_of_ble_eq_true rfl) (show (1 : Nat) ≤ pm_n 215 by decide +kernel) (by rw [show pm_k 215 = 1 by decide +kernel]; rfl) (xm_wayOf_ok (d := d + 3) e42 ?_)
      show wp _ 216 73 [(4, .int (Int32.ofInt o22.1)), (3, .int (Int32.ofInt o1)), (0, .ref 146), (1, .int (Int32.ofInt p1)), (2, .int (Int32.ofInt p2))] [.int (Int32.ofInt o41), .int (Int32.ofInt o37), .int (Int32.ofInt o1), .ref 146] w35 _
      obtain ⟨o45, e46, hx⟩ := bd hx
      refine wp_cl [.ref 146, .int (Int32.ofInt o1), .int (Int32.ofInt o37), .int (Int32.ofInt o41)] [] (i := .invokevirtual 371) (ln := 3) (a := 208) (b := 0) (z := 0) (by decide +kernel) rfl rfl (by decide) rfl (show (4 : Nat) = pm_na 208 by decide +kernel) (Nat.le_of_ble_eq_true rfl) (show (4 : Nat) ≤ pm_n 208 by decide +kernel) (rcv_x 12 h36 (hS _ _ sm_146) (by decide +kernel)) (xm_turnsOver_ok (d := d + 1) hS h36 e46 (fun w47 h48 => ?_))
      show wp _ 216 76 [(4, .int (Int32.ofInt o22.1)), (3, .int (Int32.ofInt o1)), (0, .ref 146), (1, .int (Int32.ofInt p1)), (2, .int (Int32.ofInt p2))] [] w47 _
      refine wp_g 1 (pc1 := 77) (lv1 := [(4, .int (Int32.ofInt o22.1)), (3, .int (Int32.ofInt o1)), (0, .ref 146), (1, .int (Int32.ofInt p1)), (2, .int (Int32.ofInt p2))]) (st1 := [.ref 146]) (w1 := w47) rfl ?_
      refine wx_gr (o := 10) (kf := 39) (ln := 3) (ci := 12) (b := 20) (zz := 0) (x := 146) (by decide +kernel) h48 (hS _ _ sm_146) rfl ?_
      show wp _ 216 80 [(4, .int (Int32.ofInt o22.1)), (3, .int (Int32.ofInt o1)), (0, .ref 146), (1, .int (Int32.ofInt p1)), (2, .int (Int32.ofInt p2))] [.ref 156] w47 _
      refine wp_g 2 (pc1 := 83) (lv1 := [(4, .int (Int32.ofInt o22.1)), (3, .int (Int32.ofInt o1)), (0, .ref 146), (1, .int (Int32.ofInt p1)), (2, .int (Int32.ofInt p2))]) (st1 := [.int (Int32.ofInt 11), .ref 156, .int (Int32.ofInt 11), .ref 156]) (w1 := w47) rfl ?_
      obtain ⟨i49, e50, hx⟩ := bd hx
      refine wx_ra (x := 156) (n := 130) (ln := 1) (a := 0) (b := 0) (zz := 0) (by decide +kernel) h48 (hS _ _ sm_156) e50 ?_
      show wp _ 216 84 [(4, .int (Int32.ofInt o22.1)), (3, .int (Int32.ofInt o1)), (0, .ref 146), (1, .int (Int32.ofInt p1)), (2, .int (Int32.ofInt p2))] [.int (Int32.ofInt (o45 156 i49)), .int (Int32.ofInt 11), .ref 156] w47 _
      refine wp_g 1 (pc1 := 85) (lv1 := [(4, .int (Int32.ofInt o22.1)), (3, .int (Int32.ofInt o1)), (0, .ref 146), (1, .int (Int32.ofInt p1)), (2, .int (Int32.ofInt p2))]) (st1 := [.ref 146, .int (Int32.ofInt (o45 156 i49)), .int (Int32.ofInt 11), .ref 156]) (w1 := w47) rfl ?_
      refine wx_gr (o := 10) (kf := 39) (ln := 3) (ci := 12) (b := 20) (zz := 0) (x := 146) (by decide +kernel) h48 (hS _ _ sm_146) rfl ?_
      show wp _ 216 88 [(4, .int (Int32.ofInt o22.1)), (3, .int (Int32.ofInt o1)), (0, .ref 146), (1, .int (Int32.ofInt p1)), (2, .int (Int32.ofInt p2))] [.ref 156, .int (Int32.ofInt (o45 156 i49)), .int (Int32.ofInt 11), .ref 156] w47 _
      refine wp_g 1 (pc1 := 90) (lv1 := [(4, .int (Int32.ofInt o22.1)), (3, .int (Int32.ofInt o1)), (0, .ref 146), (1, .int (Int32.ofInt p1)), (2, .int (Int32.ofInt p2))]) (st1 := [.int (Int32.ofInt 11), .ref 156, .int (Int32.ofInt (o45 156 i49)), .int (Int32.ofInt 11), .ref 156]) (w1 := w47) rfl ?_
      refine wx_ra (x := 156) (n := 130) (ln := 1) (a := 0) (b := 0) (zz := 0) (by decide +kernel) h48 (hS _ _ sm_156) e50 ?_
      show wp _ 216 91 [(4, .int (Int32.ofInt o22.1)), (3, .int (Int32.ofInt o1)), (0, .ref 146), (1, .int (Int32.ofInt p1)), (2, .int (Int32.ofInt p2))] [.int (Int32.ofInt (o45 156 i49)), .int (Int32.ofInt (o45 156 i49)), .int (Int32.ofInt 11), .ref 156] w47 _
      refine wp_g 1 (pc1 := 94) (lv1 := [(4, .int (Int32.ofInt o22.1)), (3, .int (Int32.ofInt o1)), (0, .ref 146), (1, .int (Int32.ofInt p1)), (2, .int (Int32.ofInt p2))]) (st1 := [.int (Int32.ofInt 9999), .int (Int32.ofInt (o45 156 i49)), .int (Int32.ofInt (o45 156 i49)), .int (Int32.ofInt 11), .ref 156]) (w1 := w47) rfl ?_
      refine wx_ge (oo := 7) (ln := 3) (a := 101) (b := 0) (zz := 0) (by decide +kernel) (fun h51 => ?_) (fun h51 => ?_)
      · have hx := ite_f h51 hx
        refine wp_g 2 (pc1 := 103) (lv1 := [(4, .int (Int32.ofInt o22.1)), (3, .int (Int32.ofInt o1)), (0, .ref 146), (1, .int (Int32.ofInt p1)), (2, .int (Int32.ofInt p2))]) (st1 := [.int (Int32.ofInt ((o45 156 i49) + 0)), .int (Int32.ofInt 11), .ref 156]) (w1 := w47) (by simp only [Int32.ofInt_add, Int32.ofInt_sub, Int32.ofInt_mul, Int32.ofInt_neg, p_and, p_or, p_xor, p_shl, p_shr, p_usr, p_w8, p_c16, p_lI, q_and, q_or, q_shl, q_shr, q_w32, Int64.ofInt_add, Int64.ofInt_sub, Int64.ofInt_mul, p_mx, p_mn, q_mx, q_mn]; rfl) ?_
        obtain ⟨s52, e53, hx⟩ := bd hx
        refine wx_wa (x := 156) (n := 130) (ln := 1) (a := 0) (b := 0) (zz := 0) (by decide +kernel) h48 (hS _ _ sm_156) e50 e53 (fun w54 h55 => ?_)
        refine wp_g 1 (pc1 := 105) (lv1 := [(4, .int (Int32.ofInt o22.1)), (3, .int (Int32.ofInt o1)), (0, .ref 146), (1, .int (Int32.ofInt p1)), (2, .int (Int32.ofInt p2))]) (st1 := [.int (Int32.ofInt 1)]) (w1 := w54) rfl ?_
        refine wp_rt (i := .ireturn) (r := some (.int (Int32.ofInt 1))) (ln := 1) (a := 0) (b := 0) (z := 0) (by decide +kernel) rfl (ret_b (by decide +kernel) (Or.inr rfl)) ?_
        cases hx
        exact kr _ h55
      · have hx := ite_t h51 hx
        refine wp_g 3 (pc1 := 103) (lv1 := [(4, .int (Int32.ofInt o22.1)), (3, .int (Int32.ofInt o1)), (0, .ref 146), (1, .int (Int32.ofInt p1)), (2, .int (Int32.ofInt p2))]) (st1 := [.int (Int32.ofInt ((o45 156 i49) + 1)), .int (Int32.ofInt 11), .ref 156]) (w1 := w47) (by simp only [Int32.ofInt_add, Int32.ofInt_sub, Int32.ofInt_mul, Int32.ofInt_neg, p_and, p_or, p_xor, p_shl, p_shr, p_usr, p_w8, p_c16, p_lI, q_and, q_or, q_shl, q_shr, q_w32, Int64.ofInt_add, Int64.ofInt_sub, Int64.ofInt_mul, p_mx, p_mn, q_mx, q_mn]; rfl) ?_
        obtain ⟨s56, e57, hx⟩ := bd hx
        refine wx_wa (x := 156) (n := 130) (ln := 1) (a := 0) (b := 0) (zz := 0) (by decide +kernel) h48 (hS _ _ sm_156) e50 e57 (fun w58 h59 => ?_)
        refine wp_g 1 (pc1 := 105) (lv1 := [(4, .int (Int32.ofInt o22.1)), (3, .int (Int32.ofInt o1)), (0, .ref 146), (1, .int (Int32.ofInt p1)), (2, .int (Int32.ofInt p2))]) (st1 := [.int (Int32.ofInt 1)]) (w1 := w58) rfl ?_
        refine wp_rt (i := .ireturn) (r := some (.int (Int32.ofInt 1))) (ln := 1) (a := 0) (b := 0) (z := 0) (by decide +kernel) rfl (ret_b (by decide +kernel) (Or.inr rfl)) ?_
        cases hx
        exact kr _ h59
    · have hx := ite_t h28 hx
      refine wp_g 1 (pc1 := 50) (lv1 := [(4, .int (Int32.ofInt o22.1)), (3, .int (Int32.ofInt o1)), (0, .ref 146), (1, .int (Int32.ofInt p1)), (2, .int (Int32.ofInt p2))]) (st1 := [.int (Int32.ofInt 0)]) (w1 := w24) rfl ?_
      refine wp_rt (i := .ireturn) (r := some (.int (Int32.ofInt 0))) (ln := 1) (a := 0) (b := 0) (z := 0) (by decide +kernel) rfl (ret_b (by decide +kernel) (Or.inl rfl)) ?_
      cases hx
      exact kr _ h25
  · have hx := ite_t h13 hx
    refine wp_g 1 (pc1 := 18) (lv1 := [(3, .int (Int32.ofInt o1)), (0, .ref 146), (1, .int (Int32.ofInt p1)), (2, .int (Int32.ofInt p2))]) (st1 := [.int (Int32.ofInt 0)]) (w1 := w) rfl ?_
    refine wp_rt (i := .ireturn) (r := some (.int (Int32.ofInt 0))) (ln := 1) (a := 0) (b := 0) (z := 0) (by decide +kernel) rfl (ret_b (by decide +kernel) (Or.inl rfl)) ?_
    cases hx
    exact kr _ h
noncomputable def xm_keepsAct_b52 (s : Hp) (x1 : Int) : Option ((Int × Hp) ⊕ (Int × Hp)) :=
  if w32 x1 < w32 45 then (ix 130 (10 + x1)).bind fun i2 => (ix 900 ((45 * (s 146 26)) + x1)).bind fun i4 => (some (uh s 159 i4 (s 156 i2))).bind fun s6 => some (.inl (x1 + 1, s6)) else some (.inr (x1, s))
set_option maxRecDepth 100000 in
theorem xm_keepsAct_b52_ok {d : Nat} {P : Option Value → pm_H → Prop} {w : pm_H} {sh : Shp} {w0 : pm_H} {s : Hp} (hS : StM sh) {x1 : Int} (h : Rw sh w0 s w) {o : ((Int × Hp) ⊕ (Int × Hp))} (hx : xm_keepsAct_b52 s x1 = some o) (kn : ∀ (q : Int × Hp) w1, o = .inl q → Rw sh w0 q.2 w1 → wp d 217 52 [(0, .ref 146), (1, .int (Int32.ofInt q.1))] [] w1 P) (kc : ∀ (r : (Int × Hp)), o = .inr r → (∀ w1, Rw sh w0 r.2 w1 → wp d 217 87 [(0, .ref 146), (1, .int (Int32.ofInt r.1))] [] w1 P)) : wp d 217 52 [(0, .ref 146), (1, .int (Int32.ofInt x1))] [] w P := by
  unfold xm_keepsAct_b52 at hx
  refine wp_g 2 (pc1 := 55) (lv1 := [(0, .ref 146), (1, .int (Int32.ofInt x1))]) (st1 := [.int (Int32.ofInt 45), .int (Int32.ofInt x1)]) (w1 := w) rfl ?_
  refine wx_ge (oo := 32) (ln := 3) (a := 87) (b := 0) (zz := 0) (by decide +kernel) (fun h1 => ?_) (fun h1 => ?_)
  · have hx := ite_f h1 hx
    cases hx
    exact kc _ rfl _ h
  · have hx := ite_t h1 hx
    refine wp_g 1 (pc1 := 59) (lv1 := [(0, .ref 146), (1, .int (Int32.ofInt x1))]) (st1 := [.ref 146]) (w1 := w) rfl ?_
    refine wx_gr (o := 13) (kf := 52) (ln := 3) (ci := 12) (b := 25) (zz := 0) (x := 146) (by decide +kernel) h (hS _ _ sm_146) rfl ?_
    show wp _ 217 62 [(0, .ref 146), (1, .int (Int32.ofInt x1))] [.ref 159] w _
    refine wp_g 2 (pc1 := 65) (lv1 := [(0, .ref 146), (1, .int (Int32.ofInt x1))]) (st1 := [.ref 146, .int (Int32.ofInt 45), .ref 159]) (w1 := w) rfl ?_
    refine wx_gi (kf := 283) (ln := 3) (ci := 12) (b := 26) (zz := 0) (x := 146) (by decide +kernel) h (hS _ _ sm_146) rfl ?_
    show wp _ 217 68 [(0, .ref 146), (1, .int (Int32.ofInt x1))] [.int (Int32.ofInt (s 146 26)), .int (Int32.ofInt 45), .ref 159] w _
    refine wp_g 4 (pc1 := 72) (lv1 := [(0, .ref 146), (1, .int (Int32.ofInt x1))]) (st1 := [.ref 146, .int (Int32.ofInt ((45 * (s 146 26)) + x1)), .ref 159]) (w1 := w) (by simp only [Int32.ofInt_add, Int32.ofInt_sub, Int32.ofInt_mul, Int32.ofInt_neg, p_and, p_or, p_xor, p_shl, p_shr, p_usr, p_w8, p_c16, p_lI, q_and, q_or, q_shl, q_shr, q_w32, Int64.ofInt_add, Int64.ofInt_sub, Int64.ofInt_mul, p_mx, p_mn, q_mx, q_mn]; rfl) ?_
    refine wx_gr (o := 10) (kf := 39) (ln := 3) (ci := 12) (b := 20) (zz := 0) (x := 146) (by decide +kernel) h (hS _ _ sm_146) rfl ?_
    show wp _ 217 75 [(0, .ref 146), (1, .int (Int32.ofInt x1))] [.ref 156, .int (Int32.ofInt ((45 * (s 146 26)) + x1)), .ref 159] w _
    refine wp_g 3 (pc1 := 79) (lv1 := [(0, .ref 146), (1, .int (Int32.ofInt x1))]) (st1 := [.int (Int32.ofInt (10 + x1)), .ref 156, .int (Int32.ofInt ((45 * (s 146 26)) + x1)), .ref 159]) (w1 := w) (by simp only [Int32.ofInt_add, Int32.ofInt_sub, Int32.ofInt_mul, Int32.ofInt_neg, p_and, p_or, p_xor, p_shl, p_shr, p_usr, p_w8, p_c16, p_lI, q_and, q_or, q_shl, q_shr, q_w32, Int64.ofInt_add, Int64.ofInt_sub, Int64.ofInt_mul, p_mx, p_mn, q_mx, q_mn]; rfl) ?_
    obtain ⟨i2, e3, hx⟩ := bd hx
    refine wx_ra (x := 156) (n := 130) (ln := 1) (a := 0) (b := 0) (zz := 0) (by decide +kernel) h (hS _ _ sm_156) e3 ?_
    show wp _ 217 80 [(0, .ref 146), (1, .int (Int32.ofInt x1))] [.int (Int32.ofInt (s 156 i2)), .int (Int32.ofInt ((45 * (s 146 26)) + x1)), .ref 159] w _
    obtain ⟨i4, e5, hx⟩ := bd hx
    obtain ⟨s6, e7, hx⟩ := bd hx
    refine wx_wa (x := 159) (n := 900) (ln := 1) (a := 0) (b := 0) (zz := 0) (by decide +kernel) h (hS _ _ sm_159) e5 e7 (fun w8 h9 => ?_)
    refine wp_g 2 (pc1 := 52) (lv1 := [(1, .int (Int32.ofInt (x1 + 1))), (0, .ref 146)]) (st1 := []) (w1 := w8) (by simp only [Int32.ofInt_add, Int32.ofInt_sub, Int32.ofInt_mul, Int32.ofInt_neg, p_and, p_or, p_xor, p_shl, p_shr, p_usr, p_w8, p_c16, p_lI, q_and, q_or, q_shl, q_shr, q_w32, Int64.ofInt_add, Int64.ofInt_sub, Int64.ofInt_mul, p_mx, p_mn, q_mx, q_mn]; rfl) ?_
    refine wp_lv (lv1 := [(0, .ref 146), (1, .int (Int32.ofInt (x1 + 1)))]) (lsub_p [1, 0] rfl rfl rfl) ?_
    cases hx
    exact kn _ _ rfl h9
noncomputable def xm_keepsAct_j50 (s : Hp) : Option Hp :=
  (lp (fun (q : Int × Hp) => xm_keepsAct_b52 q.2 q.1) (0, s)).bind fun q1 => (some (uh q1.2 146 26 ((q1.2 146 26) + 1))).bind fun s5 => some s5
set_option maxRecDepth 100000 in
theorem xm_keepsAct_j50_ok {d : Nat} {P : Option Value → pm_H → Prop} {w : pm_H} {sh : Shp} {w0 : pm_H} {s : Hp} (hS : StM sh) (h : Rw sh w0 s w) {o : Hp} (hx : xm_keepsAct_j50 s = some o) (kr : ∀ w1, Rw sh w0 o w1 → P none w1) : wp d 217 50 [(0, .ref 146)] [] w P := by
  unfold xm_keepsAct_j50 at hx
  refine wp_g 2 (pc1 := 52) (lv1 := [(1, .int (Int32.ofInt 0)), (0, .ref 146)]) (st1 := []) (w1 := w) rfl ?_
  refine wp_lv (lv1 := [(0, .ref 146), (1, .int (Int32.ofInt 0))]) (lsub_p [1, 0] rfl rfl rfl) ?_
  obtain ⟨q1, e2, hx⟩ := bd hx
  refine wp_lp (σ := Int × Hp) (ρ := (Int × Hp)) (B := fun q => xm_keepsAct_b52 q.2 q.1) (R := fun q w' => Rw sh w0 q.2 w') (C := fun r => ∀ w1, Rw sh w0 r.2 w1 → wp d 217 87 [(0, .ref 146), (1, .int (Int32.ofInt r.1))] [] w1 P) (lv := fun q => [(0, .ref 146), (1, .int (Int32.ofInt q.1))]) (hd := 52) (fun q w' o hR hb kn kc => xm_keepsAct_b52_ok hS hR hb kn kc) _ _ _ e2 h ?_
  intro w3 h4
  show wp _ 217 87 [(0, .ref 146), (1, .int (Int32.ofInt q1.1))] [] w3 _
  refine wp_g 2 (pc1 := 89) (lv1 := [(0, .ref 146), (1, .int (Int32.ofInt q1.1))]) (st1 := [.ref 146, .ref 146]) (w1 := w3) rfl ?_
  refine wx_gi (kf := 283) (ln := 3) (ci := 12) (b := 26) (zz := 0) (x := 146) (by decide +kernel) h4 (hS _ _ sm_146) rfl ?_
  show wp _ 217 92 [(0, .ref 146), (1, .int (Int32.ofInt q1.1))] [.int (Int32.ofInt (q1.2 146 26)), .ref 146] w3 _
  refine wp_g 2 (pc1 := 94) (lv1 := [(0, .ref 146), (1, .int (Int32.ofInt q1.1))]) (st1 := [.int (Int32.ofInt ((q1.2 146 26) + 1)), .ref 146]) (w1 := w3) (by simp only [Int32.ofInt_add, Int32.ofInt_sub, Int32.ofInt_mul, Int32.ofInt_neg, p_and, p_or, p_xor, p_shl, p_shr, p_usr, p_w8, p_c16, p_lI, q_and, q_or, q_shl, q_shr, q_w32, Int64.ofInt_add, Int64.ofInt_sub, Int64.ofInt_mul, p_mx, p_mn, q_mx, q_mn]; rfl) ?_
  obtain ⟨s5, e6, hx⟩ := bd hx
  refine wx_pi (kf := 283) (ln := 3) (ci := 12) (b := 26) (zz := 0) (x := 146) (by decide +kernel) h4 (hS _ _ sm_146) rfl (by decide +kernel) e6 (fun w7 h8 => ?_)
  refine wp_rt (i := .return_) (r := none) (ln := 1) (a := 0) (b := 0) (z := 0) (by decide +kernel) rfl (ret_v (by decide +kernel)) ?_
  cases hx
  exact kr _ h8
noncomputable def xm_keepsAct_b12 (s : Hp) (x1 : Int) : Option ((Int × Hp) ⊕ (Int × Hp)) :=
  if w32 x1 < w32 900 then (ix 900 x1).bind fun i2 => (ix 900 (x1 - 45)).bind fun i4 => (some (uh s 159 i4 (s 159 i2))).bind fun s6 => some (.inl (x1 + 1, s6)) else some (.inr (x1, s))
set_option maxRecDepth 100000 in
theorem xm_keepsAct_b12_ok {d : Nat} {P : Option Value → pm_H → Prop} {w : pm_H} {sh : Shp} {w0 : pm_H} {s : Hp} (hS : StM sh) {x1 : Int} (h : Rw sh w0 s w) {o : ((Int × Hp) ⊕ (Int × Hp))} (hx : xm_keepsAct_b12 s x1 = some o) (kn : ∀ (q : Int × Hp) w1, o = .inl q → Rw sh w0 q.2 w1 → wp d 217 12 [(0, .ref 146), (1, .int (Int32.ofInt q.1))] [] w1 P) (kc : ∀ (r : (Int × Hp)), o = .inr r → (∀ w1, Rw sh w0 r.2 w1 → wp d 217 40 [(0, .ref 146), (1, .int (Int32.ofInt r.1))] [] w1 P)) : wp d 217 12 [(0, .ref 146), (1, .int (Int32.ofInt x1))] [] w P := by
  unfold xm_keepsAct_b12 at hx
  refine wp_g 2 (pc1 := 16) (lv1 := [(0, .ref 146), (1, .int (Int32.ofInt x1))]) (st1 := [.int (Int32.ofInt 900), .int (Int32.ofInt x1)]) (w1 := w) rfl ?_
  refine wx_ge (oo := 24) (ln := 3) (a := 40) (b := 0) (zz := 0) (by decide +kernel) (fun h1 => ?_) (fun h1 => ?_)
  · have hx := ite_f h1 hx
    cases hx
    exact kc _ rfl _ h
  · have hx := ite_t h1 hx
    refine wp_g 1 (pc1 := 20) (lv1 := [(0, .ref 146), (1, .int (Int32.ofInt x1))]) (st1 := [.ref 146]) (w1 := w) rfl ?_
    refine wx_gr (o := 13) (kf := 52) (ln := 3) (ci := 12) (b := 25) (zz := 0) (x := 146) (by decide +kernel) h (hS _ _ sm_146) rfl ?_
    show wp _ 217 23 [(0, .ref 146), (1, .int (Int32.ofInt x1))] [.ref 159] w _
    refine wp_g 4 (pc1 := 28) (lv1 := [(0, .ref 146), (1, .int (Int32.ofInt x1))]) (st1 := [.ref 146, .int (Int32.ofInt (x1 - 45)), .ref 159]) (w1 := w) (by simp only [Int32.ofInt_add, Int32.ofInt_sub, Int32.ofInt_mul, Int32.ofInt_neg, p_and, p_or, p_xor, p_shl, p_shr, p_usr, p_w8, p_c16, p_lI, q_and, q_or, q_shl, q_shr, q_w32, Int64.ofInt_add, Int64.ofInt_sub, Int64.ofInt_mul, p_mx, p_mn, q_mx, q_mn]; rfl) ?_
    refine wx_gr (o := 13) (kf := 52) (ln := 3) (ci := 12) (b := 25) (zz := 0) (x := 146) (by decide +kernel) h (hS _ _ sm_146) rfl ?_
    show wp _ 217 31 [(0, .ref 146), (1, .int (Int32.ofInt x1))] [.ref 159, .int (Int32.ofInt (x1 - 45)), .ref 159] w _
    refine wp_g 1 (pc1 := 32) (lv1 := [(0, .ref 146), (1, .int (Int32.ofInt x1))]) (st1 := [.int (Int32.ofInt x1), .ref 159, .int (Int32.ofInt (x1 - 45)), .ref 159]) (w1 := w) rfl ?_
    obtain ⟨i2, e3, hx⟩ := bd hx
    refine wx_ra (x := 159) (n := 900) (ln := 1) (a := 0) (b := 0) (zz := 0) (by decide +kernel) h (hS _ _ sm_159) e3 ?_
    show wp _ 217 33 [(0, .ref 146), (1, .int (Int32.ofInt x1))] [.int (Int32.ofInt (s 159 i2)), .int (Int32.ofInt (x1 - 45)), .ref 159] w _
    obtain ⟨i4, e5, hx⟩ := bd hx
    obtain ⟨s6, e7, hx⟩ := bd hx
    refine wx_wa (x := 159) (n := 900) (ln := 1) (a := 0) (b := 0) (zz := 0) (by decide +kernel) h (hS _ _ sm_159) e5 e7 (fun w8 h9 => ?_)
    refine wp_g 2 (pc1 := 12) (lv1 := [(1, .int (Int32.ofInt (x1 + 1))), (0, .ref 146)]) (st1 := []) (w1 := w8) (by simp only [Int32.ofInt_add, Int32.ofInt_sub, Int32.ofInt_mul, Int32.ofInt_neg, p_and, p_or, p_xor, p_shl, p_shr, p_usr, p_w8, p_c16, p_lI, q_and, q_or, q_shl, q_shr, q_w32, Int64.ofInt_add, Int64.ofInt_sub, Int64.ofInt_mul, p_mx, p_mn, q_mx, q_mn]; rfl) ?_
    refine wp_lv (lv1 := [(0, .ref 146), (1, .int (Int32.ofInt (x1 + 1)))]) (lsub_p [1, 0] rfl rfl rfl) ?_
    cases hx
    exact kn _ _ rfl h9
/-- FoldDeedsModel.keepsAct ()V -/
noncomputable def xm_keepsAct (s : Hp) : Option Hp :=
  if w32 (s 146 26) = w32 20 then (lp (fun (q : Int × Hp) => xm_keepsAct_b12 q.2 q.1) (45, s)).bind fun q2 => (some (uh q2.2 146 26 ((q2.2 146 26) - 1))).bind fun s6 => xm_keepsAct_j50 s6 else xm_keepsAct_j50 s
set_option maxRecDepth 100000 in
theorem xm_keepsAct_ok {d : Nat} {P : Option Value → pm_H → Prop} {w : pm_H} {sh : Shp} {w0 : pm_H} {s : Hp} (hS : StM sh) (h : Rw sh w0 s w) {o : Hp} (hx : xm_keepsAct s = some o) (kr : ∀ w1, Rw sh w0 o w1 → P none w1) : wp d 217 0 (lv_args 0 [.ref 146]) [] w P := by
  show wp _ 217 0 [(0, .ref 146)] [] w _
  unfold xm_keepsAct at hx
  refine wp_g 1 (pc1 := 1) (lv1 := [(0, .ref 146)]) (st1 := [.ref 146]) (w1 := w) rfl ?_
  refine wx_gi (kf := 283) (ln := 3) (ci := 12) (b := 26) (zz := 0) (x := 146) (by decide +kernel) h (hS _ _ sm_146) rfl ?_
  show wp _ 217 4 [(0, .ref 146)] [.int (Int32.ofInt (s 146 26))] w _
  refine wp_g 1 (pc1 := 6) (lv1 := [(0, .ref 146)]) (st1 := [.int (Int32.ofInt 20), .int (Int32.ofInt (s 146 26))]) (w1 := w) rfl ?_
  refine wx_ne (oo := 44) (ln := 3) (a := 50) (b := 0) (zz := 0) (by decide +kernel) (fun h1 => ?_) (fun h1 => ?_)
  · have hx := ite_f h1 hx
    exact xm_keepsAct_j50_ok hS h hx kr
  · have hx := ite_t h1 hx
    refine wp_g 2 (pc1 := 12) (lv1 := [(1, .int (Int32.ofInt 45)), (0, .ref 146)]) (st1 := []) (w1 := w) rfl ?_
    refine wp_lv (lv1 := [(0, .ref 146), (1, .int (Int32.ofInt 45))]) (lsub_p [1, 0] rfl rfl rfl) ?_
    obtain ⟨q2, e3, hx⟩ := bd hx
    refine wp_lp (σ := Int × Hp) (ρ := (Int × Hp)) (B := fun q => xm_keepsAct_b12 q.2 q.1) (R := fun q w' => Rw sh w0 q.2 w') (C := fun r => ∀ w1, Rw sh w0 r.2 w1 → wp d 217 40 [(0, .ref 146), (1, .int (Int32.ofInt r.1))] [] w1 P) (lv := fun q => [(0, .ref 146), (1, .int (Int32.ofInt q.1))]) (hd := 12) (fun q w' o hR hb kn kc => xm_keepsAct_b12_ok hS hR hb kn kc) _ _ _ e3 h ?_
    intro w4 h5
    show wp _ 217 40 [(0, .ref 146), (1, .int (Int32.ofInt q2.1))] [] w4 _
    refine wp_g 2 (pc1 := 42) (lv1 := [(0, .ref 146), (1, .int (Int32.ofInt q2.1))]) (st1 := [.ref 146, .ref 146]) (w1 := w4) rfl ?_
    refine wx_gi (kf := 283) (ln := 3) (ci := 12) (b := 26) (zz := 0) (x := 146) (by decide +kernel) h5 (hS _ _ sm_146) rfl ?_
    show wp _ 217 45 [(0, .ref 146), (1, .int (Int32.ofInt q2.1))] [.int (Int32.ofInt (q2.2 146 26)), .ref 146] w4 _
    refine wp_g 2 (pc1 := 47) (lv1 := [(0, .ref 146), (1, .int (Int32.ofInt q2.1))]) (st1 := [.int (Int32.ofInt ((q2.2 146 26) - 1)), .ref 146]) (w1 := w4) (by simp only [Int32.ofInt_add, Int32.ofInt_sub, Int32.ofInt_mul, Int32.ofInt_neg, p_and, p_or, p_xor, p_shl, p_shr, p_usr, p_w8, p_c16, p_lI, q_and, q_or, q_shl, q_shr, q_w32, Int64.ofInt_add, Int64.ofInt_sub, Int64.ofInt_mul, p_mx, p_mn, q_mx, q_mn]; rfl) ?_
    obtain ⟨s6, e7, hx⟩ := bd hx
    refine wx_pi (kf := 283) (ln := 3) (ci := 12) (b := 26) (zz := 0) (x := 146) (by decide +kernel) h5 (hS _ _ sm_146) rfl (by decide +kernel) e7 (fun w8 h9 => ?_)
    refine wp_lv (lv1 := [(0, .ref 146)]) (lsub_p [0] rfl rfl rfl) ?_
    exact xm_keepsAct_j50_ok hS h9 hx kr
noncomputable def xm_undo_b21 (s : Hp) (x1 : Int) : Option ((Int × Hp) ⊕ (Int × Hp)) :=
  if w32 x1 < w32 45 then (ix 900 ((45 * (s 146 26)) + x1)).bind fun i2 => (ix 130 (10 + x1)).bind fun i4 => (some (uh s 156 i4 (s 159 i2))).bind fun s6 => some (.inl (x1 + 1, s6)) else some (.inr (x1, s))
set_option maxRecDepth 100000 in
theorem xm_undo_b21_ok {d : Nat} {P : Option Value → pm_H → Prop} {w : pm_H} {sh : Shp} {w0 : pm_H} {s : Hp} (hS : StM sh) {x1 : Int} (h : Rw sh w0 s w) {o : ((Int × Hp) ⊕ (Int × Hp))} (hx : xm_undo_b21 s x1 = some o) (kn : ∀ (q : Int × Hp) w1, o = .inl q → Rw sh w0 q.2 w1 → wp d 218 21 [(0, .ref 146), (1, .int (Int32.ofInt q.1))] [] w1 P) (kc : ∀ (r : (Int × Hp)), o = .inr r → (∀ w1, Rw sh w0 r.2 w1 → wp d 218 56 [(0, .ref 146), (1, .int (Int32.ofInt r.1))] [] w1 P)) : wp d 218 21 [(0, .ref 146), (1, .int (Int32.ofInt x1))] [] w P := by
  unfold xm_undo_b21 at hx
  refine wp_g 2 (pc1 := 24) (lv1 := [(0, .ref 146), (1, .int (Int32.ofInt x1))]) (st1 := [.int (Int32.ofInt 45), .int (Int32.ofInt x1)]) (w1 := w) rfl ?_
  refine wx_ge (oo := 32) (ln := 3) (a := 56) (b := 0) (zz := 0) (by decide +kernel) (fun h1 => ?_) (fun h1 => ?_)
  · have hx := ite_f h1 hx
    cases hx
    exact kc _ rfl _ h
  · have hx := ite_t h1 hx
    refine wp_g 1 (pc1 := 28) (lv1 := [(0, .ref 146), (1, .int (Int32.ofInt x1))]) (st1 := [.ref 146]) (w1 := w) rfl ?_
    refine wx_gr (o := 10) (kf := 39) (ln := 3) (ci := 12) (b := 20) (zz := 0) (x := 146) (by decide +kernel) h (hS _ _ sm_146) rfl ?_
    show wp _ 218 31 [(0, .ref 146), (1, .int (Int32.ofInt x1))] [.ref 156] w _
    refine wp_g 4 (pc1 := 36) (lv1 := [(0, .ref 146), (1, .int (Int32.ofInt x1))]) (st1 := [.ref 146, .int (Int32.ofInt (10 + x1)), .ref 156]) (w1 := w) (by simp only [Int32.ofInt_add, Int32.ofInt_sub, Int32.ofInt_mul, Int32.ofInt_neg, p_and, p_or, p_xor, p_shl, p_shr, p_usr, p_w8, p_c16, p_lI, q_and, q_or, q_shl, q_shr, q_w32, Int64.ofInt_add, Int64.ofInt_sub, Int64.ofInt_mul, p_mx, p_mn, q_mx, q_mn]; rfl) ?_
    refine wx_gr (o := 13) (kf := 52) (ln := 3) (ci := 12) (b := 25) (zz := 0) (x := 146) (by decide +kernel) h (hS _ _ sm_146) rfl ?_
    show wp _ 218 39 [(0, .ref 146), (1, .int (Int32.ofInt x1))] [.ref 159, .int (Int32.ofInt (10 + x1)), .ref 156] w _
    refine wp_g 2 (pc1 := 42) (lv1 := [(0, .ref 146), (1, .int (Int32.ofInt x1))]) (st1 := [.ref 146, .int (Int32.ofInt 45), .ref 159, .int (Int32.ofInt (10 + x1)), .ref 156]) (w1 := w) rfl ?_
    refine wx_gi (kf := 283) (ln := 3) (ci := 12) (b := 26) (zz := 0) (x := 146) (by decide +kernel) h (hS _ _ sm_146) rfl ?_
    show wp _ 218 45 [(0, .ref 146), (1, .int (Int32.ofInt x1))] [.int (Int32.ofInt (s 146 26)), .int (Int32.ofInt 45), .ref 159, .int (Int32.ofInt (10 + x1)), .ref 156] w _
    refine wp_g 3 (pc1 := 48) (lv1 := [(0, .ref 146), (1, .int (Int32.ofInt x1))]) (st1 := [.int (Int32.ofInt ((45 * (s 146 26)) + x1)), .ref 159, .int (Int32.ofInt (10 + x1)), .ref 156]) (w1 := w) (by simp only [Int32.ofInt_add, Int32.ofInt_sub, Int32.ofInt_mul, Int32.ofInt_neg, p_and, p_or, p_xor, p_shl, p_shr, p_usr, p_w8, p_c16, p_lI, q_and, q_or, q_shl, q_shr, q_w32, Int64.ofInt_add, Int64.ofInt_sub, Int64.ofInt_mul, p_mx, p_mn, q_mx, q_mn]; rfl) ?_
    obtain ⟨i2, e3, hx⟩ := bd hx
    refine wx_ra (x := 159) (n := 900) (ln := 1) (a := 0) (b := 0) (zz := 0) (by decide +kernel) h (hS _ _ sm_159) e3 ?_
    show wp _ 218 49 [(0, .ref 146), (1, .int (Int32.ofInt x1))] [.int (Int32.ofInt (s 159 i2)), .int (Int32.ofInt (10 + x1)), .ref 156] w _
    obtain ⟨i4, e5, hx⟩ := bd hx
    obtain ⟨s6, e7, hx⟩ := bd hx
    refine wx_wa (x := 156) (n := 130) (ln := 1) (a := 0) (b := 0) (zz := 0) (by decide +kernel) h (hS _ _ sm_156) e5 e7 (fun w8 h9 => ?_)
    refine wp_g 2 (pc1 := 21) (lv1 := [(1, .int (Int32.ofInt (x1 + 1))), (0, .ref 146)]) (st1 := []) (w1 := w8) (by simp only [Int32.ofInt_add, Int32.ofInt_sub, Int32.ofInt_mul, Int32.ofInt_neg, p_and, p_or, p_xor, p_shl, p_shr, p_usr, p_w8, p_c16, p_lI, q_and, q_or, q_shl, q_shr, q_w32, Int64.ofInt_add, Int64.ofInt_sub, Int64.ofInt_mul, p_mx, p_mn, q_mx, q_mn]; rfl) ?_
    refine wp_lv (lv1 := [(0, .ref 146), (1, .int (Int32.ofInt (x1 + 1)))]) (lsub_p [1, 0] rfl rfl rfl) ?_
    cases hx
    exact kn _ _ rfl h9
/-- FoldDeedsModel.undo ()I -/
noncomputable def xm_undo (s : Hp) : Option (Int × Hp) :=
  if w32 (s 146 26) = 0 then some ((-1), s) else (some (uh s 146 26 ((s 146 26) - 1))).bind fun s2 => (lp (fun (q : Int × Hp) => xm_undo_b21 q.2 q.1) (0, s2)).bind fun q6 => some (q6.2 146 26, q6.2)
set_option maxRecDepth 100000 in
theorem xm_undo_ok {d : Nat} {P : Option Value → pm_H → Prop} {w : pm_H} {sh : Shp} {w0 : pm_H} {s : Hp} (hS : StM sh) (h : Rw sh w0 s w) {o : Int × Hp} (hx : xm_undo s = some o) (kr : ∀ w1, Rw sh w0 o.2 w1 → P (some (.int (Int32.ofInt o.1))) w1) : wp d 218 0 (lv_args 0 [.ref 146]) [] w P := by
  show wp _ 218 0 [(0, .ref 146)] [] w _
  unfold xm_undo at hx
  refine wp_g 1 (pc1 := 1) (lv1 := [(0, .ref 146)]) (st1 := [.ref 146]) (w1 := w) rfl ?_
  refine wx_gi (kf := 283) (ln := 3) (ci := 12) (b := 26) (zz := 0) (x := 146) (by decide +kernel) h (hS _ _ sm_146) rfl ?_
  show wp _ 218 4 [(0, .ref 146)] [.int (Int32.ofInt (s 146 26))] w _
  refine wz_ne (oo := 5) (ln := 3) (a := 9) (b := 0) (zz := 0) (by decide +kernel) (fun h1 => ?_) (fun h1 => ?_)
  · have hx := ite_f h1 hx
    refine wp_g 2 (pc1 := 11) (lv1 := [(0, .ref 146)]) (st1 := [.ref 146, .ref 146]) (w1 := w) rfl ?_
    refine wx_gi (kf := 283) (ln := 3) (ci := 12) (b := 26) (zz := 0) (x := 146) (by decide +kernel) h (hS _ _ sm_146) rfl ?_
    show wp _ 218 14 [(0, .ref 146)] [.int (Int32.ofInt (s 146 26)), .ref 146] w _
    refine wp_g 2 (pc1 := 16) (lv1 := [(0, .ref 146)]) (st1 := [.int (Int32.ofInt ((s 146 26) - 1)), .ref 146]) (w1 := w) (by simp only [Int32.ofInt_add, Int32.ofInt_sub, Int32.ofInt_mul, Int32.ofInt_neg, p_and, p_or, p_xor, p_shl, p_shr, p_usr, p_w8, p_c16, p_lI, q_and, q_or, q_shl, q_shr, q_w32, Int64.ofInt_add, Int64.ofInt_sub, Int64.ofInt_mul, p_mx, p_mn, q_mx, q_mn]; rfl) ?_
    obtain ⟨s2, e3, hx⟩ := bd hx
    refine wx_pi (kf := 283) (ln := 3) (ci := 12) (b := 26) (zz := 0) (x := 146) (by decide +kernel) h (hS _ _ sm_146) rfl (by decide +kernel) e3 (fun w4 h5 => ?_)
    refine wp_g 2 (pc1 := 21) (lv1 := [(1, .int (Int32.ofInt 0)), (0, .ref 146)]) (st1 := []) (w1 := w4) rfl ?_
    refine wp_lv (lv1 := [(0, .ref 146), (1, .int (Int32.ofInt 0))]) (lsub_p [1, 0] rfl rfl rfl) ?_
    obtain ⟨q6, e7, hx⟩ := bd hx
    refine wp_lp (σ := Int × Hp) (ρ := (Int × Hp)) (B := fun q => xm_undo_b21 q.2 q.1) (R := fun q w' => Rw sh w0 q.2 w') (C := fun r => ∀ w1, Rw sh w0 r.2 w1 → wp d 218 56 [(0, .ref 146), (1, .int (Int32.ofInt r.1))] [] w1 P) (lv := fun q => [(0, .ref 146), (1, .int (Int32.ofInt q.1))]) (hd := 21) (fun q w' o hR hb kn kc => xm_undo_b21_ok hS hR hb kn kc) _ _ _ e7 h5 ?_
    intro w8 h9
    show wp _ 218 56 [(0, .ref 146), (1, .int (Int32.ofInt q6.1))] [] w8 _
    refine wp_g 1 (pc1 := 57) (lv1 := [(0, .ref 146), (1, .int (Int32.ofInt q6.1))]) (st1 := [.ref 146]) (w1 := w8) rfl ?_
    refine wx_gi (kf := 283) (ln := 3) (ci := 12) (b := 26) (zz := 0) (x := 146) (by decide +kernel) h9 (hS _ _ sm_146) rfl ?_
    show wp _ 218 60 [(0, .ref 146), (1, .int (Int32.ofInt q6.1))] [.int (Int32.ofInt (q6.2 146 26))] w8 _
    refine wp_rt (i := .ireturn) (r := some (.int (Int32.ofInt (q6.2 146 26)))) (ln := 1) (a := 0) (b := 0) (z := 0) (by decide +kernel) rfl (ret_ok (by decide +kernel)) ?_
    cases hx
    exact kr _ h9
  · have hx := ite_t h1 hx
    refine wp_g 1 (pc1 := 8) (lv1 := [(0, .ref 146)]) (st1 := [.int (Int32.ofInt (-1))]) (w1 := w) rfl ?_
    refine wp_rt (i := .ireturn) (r := some (.int (Int32.ofInt (-1)))) (ln := 1) (a := 0) (b := 0) (z := 0) (by decide +kernel) rfl (ret_ok (by decide +kernel)) ?_
    cases hx
    exact kr _ h
/-- FoldDeedsModel.isFold (IIII)Z -/
noncomputable def xm_isFold (s : Hp) (p1 : Int) (p2 : Int) (p3 : Int) (p4 : Int) : Option Int :=
  (xm_isPerson s p1).bind fun o1 => if w32 o1 = 0 then some 0 else (xm_isLine s p2).bind fun o6 => if w32 o6 = 0 then some 0 else (xm_in (w32 p3) 0 1).bind fun o11 => if w32 o11 = 0 then some 0 else (xm_in (w32 p4) 0 1).bind fun o16 => if w32 o16 = 0 then some 0 else some 1
set_option maxRecDepth 100000 in
theorem xm_isFold_ok {d : Nat} {P : Option Value → pm_H → Prop} {w : pm_H} {sh : Shp} {w0 : pm_H} {s : Hp} (hS : StM sh) {p1 : Int} {p2 : Int} {p3 : Int} {p4 : Int} (h : Rw sh w0 s w) {o : Int} (hx : xm_isFold s p1 p2 p3 p4 = some o) (kr : P (some (.int (Int32.ofInt o))) w) : wp (d + 2) 219 0 (lv_args 0 [.ref 146, .int (Int32.ofInt p1), .int (Int32.ofInt p2), .int (Int32.ofInt p3), .int (Int32.ofInt p4)]) [] w P := by
  show wp _ 219 0 [(0, .ref 146), (1, .int (Int32.ofInt p1)), (2, .int (Int32.ofInt p2)), (3, .int (Int32.ofInt p3)), (4, .int (Int32.ofInt p4))] [] w _
  unfold xm_isFold at hx
  refine wp_g 2 (pc1 := 2) (lv1 := [(0, .ref 146), (1, .int (Int32.ofInt p1)), (2, .int (Int32.ofInt p2)), (3, .int (Int32.ofInt p3)), (4, .int (Int32.ofInt p4))]) (st1 := [.int (Int32.ofInt p1), .ref 146]) (w1 := w) rfl ?_
  obtain ⟨o1, e2, hx⟩ := bd hx
  refine wp_cl [.ref 146, .int (Int32.ofInt p1)] [] (i := .invokevirtual 322) (ln := 3) (a := 193) (b := 0) (z := 0) (by decide +kernel) rfl rfl (by decide) rfl (show (2 : Nat) = pm_na 193 by decide +kernel) (Nat.le_of_ble_eq_true rfl) (show (2 : Nat) ≤ pm_n 193 by decide +kernel) (rcv_x 12 h (hS _ _ sm_146) (by decide +kernel)) (xm_isPerson_ok (d := d + 1) hS h e2 ?_)
  show wp _ 219 5 [(0, .ref 146), (1, .int (Int32.ofInt p1)), (2, .int (Int32.ofInt p2)), (3, .int (Int32.ofInt p3)), (4, .int (Int32.ofInt p4))] [.int (Int32.ofInt o1)] w _
  refine wz_eq (oo := 36) (ln := 3) (a := 41) (b := 0) (zz := 0) (by decide +kernel) (fun h5 => ?_) (fun h5 => ?_)
  · have hx := ite_t h5 hx
    refine wp_g 1 (pc1 := 42) (lv1 := [(0, .ref 146), (1, .int (Int32.ofInt p1)), (2, .int (Int32.ofInt p2)), (3, .int (Int32.ofInt p3)), (4, .int (Int32.ofInt p4))]) (st1 := [.int (Int32.ofInt 0)]) (w1 := w) rfl ?_
    refine wp_rt (i := .ireturn) (r := some (.int (Int32.ofInt 0))) (ln := 1) (a := 0) (b := 0) (z := 0) (by decide +kernel) rfl (ret_b (by decide +kernel) (Or.inl rfl)) ?_
    cases hx
    exact kr
  · have hx := ite_f h5 hx
    refine wp_g 2 (pc1 := 10) (lv1 := [(0, .ref 146), (1, .int (Int32.ofInt p1)), (2, .int (Int32.ofInt p2)), (3, .int (Int32.ofInt p3)), (4, .int (Int32.ofInt p4))]) (st1 := [.int (Int32.ofInt p2), .ref 146]) (w1 := w) rfl ?_
    obtain ⟨o6, e7, hx⟩ := bd hx
    refine wp_cl [.ref 146, .int (Int32.ofInt p2)] [] (i := .invokevirtual 375) (ln := 3) (a := 204) (b := 0) (z := 0) (by decide +kernel) rfl rfl (by decide) rfl (show (2 : Nat) = pm_na 204 by decide +kernel) (Nat.le_of_ble_eq_true rfl) (show (2 : Nat) ≤ pm_n 204 by decide +kernel) (rcv_x 12 h (hS _ _ sm_146) (by decide +kernel)) (xm_isLine_ok (d := d) hS h e7 ?_)
    show wp _ 219 13 [(0, .ref 146), (1, .int (Int32.ofInt p1)), (2, .int (Int32.ofInt p2)), (3, .int (Int32.ofInt p3)), (4, .int (Int32.ofInt p4))] [.int (Int32.ofInt o6)] w _
    refine wz_eq (oo := 28) (ln := 3) (a := 41) (b := 0) (zz := 0) (by decide +kernel) (fun h10 => ?_) (fun h10 => ?_)
    · have hx := ite_t h10 hx
      refine wp_g 1 (pc1 := 42) (lv1 := [(0, .ref 146), (1, .int (Int32.ofInt p1)), (2, .int (Int32.ofInt p2)), (3, .int (Int32.ofInt p3)), (4, .int (Int32.ofInt p4))]) (st1 := [.int (Int32.ofInt 0)]) (w1 := w) rfl ?_
      refine wp_rt (i := .ireturn) (r := some (.int (Int32.ofInt 0))) (ln := 1) (a := 0) (b := 0) (z := 0) (by decide +kernel) rfl (ret_b (by decide +kernel) (Or.inl rfl)) ?_
      cases hx
      exact kr
    · have hx := ite_f h10 hx
      refine wp_g 4 (pc1 := 20) (lv1 := [(0, .ref 146), (1, .int (Int32.ofInt p1)), (2, .int (Int32.ofInt p2)), (3, .int (Int32.ofInt p3)), (4, .int (Int32.ofInt p4))]) (st1 := [.long (Int64.ofInt 1), .long (Int64.ofInt 0), .long (Int64.ofInt (w32 p3))]) (w1 := w) (by simp only [Int32.ofInt_add, Int32.ofInt_sub, Int32.ofInt_mul, Int32.ofInt_neg, p_and, p_or, p_xor, p_shl, p_shr, p_usr, p_w8, p_c16, p_lI, q_and, q_or, q_shl, q_shr, q_w32, Int64.ofInt_add, Int64.ofInt_sub, Int64.ofInt_mul, p_mx, p_mn, q_mx, q_mn]; rfl) ?_
      obtain ⟨o11, e12, hx⟩ := bd hx
      refine wp_cl [.long (Int64.ofInt (w32 p3)), .long (Int64.ofInt 0), .long (Int64.ofInt 1)] [] (i := .invokestatic 139) (ln := 3) (a := 147) (b := 1) (z := 0) (by decide +kernel) rfl rfl (by decide) rfl (show (3 : Nat) = pm_na 147 by decide +kernel) (Nat.le_of_ble_eq_true rfl) (show (6 : Nat) ≤ pm_n 147 by decide +kernel) (by rw [show pm_k 147 = 1 by decide +kernel]; rfl) (xm_in_ok (d := d + 1) e12 ?_)
      show wp _ 219 23 [(0, .ref 146), (1, .int (Int32.ofInt p1)), (2, .int (Int32.ofInt p2)), (3, .int (Int32.ofInt p3)), (4, .int (Int32.ofInt p4))] [.int (Int32.ofInt o11)] w _
      refine wz_eq (oo := 18) (ln := 3) (a := 41) (b := 0) (zz := 0) (by decide +kernel) (fun h15 => ?_) (fun h15 => ?_)
      · have hx := ite_t h15 hx
        refine wp_g 1 (pc1 := 42) (lv1 := [(0, .ref 146), (1, .int (Int32.ofInt p1)), (2, .int (Int32.ofInt p2)), (3, .int (Int32.ofInt p3)), (4, .int (Int32.ofInt p4))]) (st1 := [.int (Int32.ofInt 0)]) (w1 := w) rfl ?_
        refine wp_rt (i := .ireturn) (r := some (.int (Int32.ofInt 0))) (ln := 1) (a := 0) (b := 0) (z := 0) (by decide +kernel) rfl (ret_b (by decide +kernel) (Or.inl rfl)) ?_
        cases hx
        exact kr
      · have hx := ite_f h15 hx
        refine wp_g 4 (pc1 := 31) (lv1 := [(0, .ref 146), (1, .int (Int32.ofInt p1)), (2, .int (Int32.ofInt p2)), (3, .int (Int32.ofInt p3)), (4, .int (Int32.ofInt p4))]) (st1 := [.long (Int64.ofInt 1), .long (Int64.ofInt 0), .long (Int64.ofInt (w32 p4))]) (w1 := w) (by simp only [Int32.ofInt_add, Int32.ofInt_sub, Int32.ofInt_mul, Int32.ofInt_neg, p_and, p_or, p_xor, p_shl, p_shr, p_usr, p_w8, p_c16, p_lI, q_and, q_or, q_shl, q_shr, q_w32, Int64.ofInt_add, Int64.ofInt_sub, Int64.ofInt_mul, p_mx, p_mn, q_mx, q_mn]; rfl) ?_
        obtain ⟨o16, e17, hx⟩ := bd hx
        refine wp_cl [.long (Int64.ofInt (w32 p4)), .long (Int64.ofInt 0), .long (Int64.ofInt 1)] [] (i := .invokestatic 139) (ln := 3) (a := 147) (b := 1) (z := 0) (by decide +kernel) rfl rfl (by decide) rfl (show (3 : Nat) = pm_na 147 by decide +kernel) (Nat.le_of_ble_eq_true rfl) (show (6 : Nat) ≤ pm_n 147 by decide +kernel) (by rw [show pm_k 147 = 1 by decide +kernel]; rfl) (xm_in_ok (d := d + 1) e17 ?_)
        show wp _ 219 34 [(0, .ref 146), (1, .int (Int32.ofInt p1)), (2, .int (Int32.ofInt p2)), (3, .int (Int32.ofInt p3)), (4, .int (Int32.ofInt p4))] [.int (Int32.ofInt o16)] w _
        refine wz_eq (oo := 7) (ln := 3) (a := 41) (b := 0) (zz := 0) (by decide +kernel) (fun h20 => ?_) (fun h20 => ?_)
        · have hx := ite_t h20 hx
          refine wp_g 1 (pc1 := 42) (lv1 := [(0, .ref 146), (1, .int (Int32.ofInt p1)), (2, .int (Int32.ofInt p2)), (3, .int (Int32.ofInt p3)), (4, .int (Int32.ofInt p4))]) (st1 := [.int (Int32.ofInt 0)]) (w1 := w) rfl ?_
          refine wp_rt (i := .ireturn) (r := some (.int (Int32.ofInt 0))) (ln := 1) (a := 0) (b := 0) (z := 0) (by decide +kernel) rfl (ret_b (by decide +kernel) (Or.inl rfl)) ?_
          cases hx
          exact kr
        · have hx := ite_f h20 hx
          refine wp_g 2 (pc1 := 42) (lv1 := [(0, .ref 146), (1, .int (Int32.ofInt p1)), (2, .int (Int32.ofInt p2)), (3, .int (Int32.ofInt p3)), (4, .int (Int32.ofInt p4))]) (st1 := [.int (Int32.ofInt 1)]) (w1 := w) rfl ?_
          refine wp_rt (i := .ireturn) (r := some (.int (Int32.ofInt 1))) (ln := 1) (a := 0) (b := 0) (z := 0) (by decide +kernel) rfl (ret_b (by decide +kernel) (Or.inr rfl)) ?_
          cases hx
          exact kr
/-- FoldDeedsModel.fold (IIII)I -/
noncomputable def xm_fold (s : Hp) (p1 : Int) (p2 : Int) (p3 : Int) (p4 : Int) : Option (Int × Hp) :=
  (xm_isFold s p1 p2 p3 p4).bind fun o1 => if w32 o1 = 0 then some ((-1), s) else (xm_canCrease s p2 p4).bind fun o6 => if w32 o6 = 0 then some ((-1), s) else (xm_prices s p1 p2 p3 p4).bind fun o11 => (ix 130 (51 + p1)).bind fun i15 => if w32 (o11.2 156 i15) < w32 o11.1 then some ((-1), o11.2) else (xm_keepsAct o11.2).bind fun o18 => (xm_isFolded o18 p1 (((4 * p2) + (2 * p3)) + p4)).bind fun o22 => some (o11.1, o22.2)
set_option maxRecDepth 100000 in
theorem xm_fold_ok {d : Nat} {P : Option Value → pm_H → Prop} {w : pm_H} {sh : Shp} {w0 : pm_H} {s : Hp} (hS : StM sh) {p1 : Int} {p2 : Int} {p3 : Int} {p4 : Int} (h : Rw sh w0 s w) {o : Int × Hp} (hx : xm_fold s p1 p2 p3 p4 = some o) (kr : ∀ w1, Rw sh w0 o.2 w1 → P (some (.int (Int32.ofInt o.1))) w1) : wp (d + 5) 220 0 (lv_args 0 [.ref 146, .int (Int32.ofInt p1), .int (Int32.ofInt p2), .int (Int32.ofInt p3), .int (Int32.ofInt p4)]) [] w P := by
  show wp _ 220 0 [(0, .ref 146), (1, .int (Int32.ofInt p1)), (2, .int (Int32.ofInt p2)), (3, .int (Int32.ofInt p3)), (4, .int (Int32.ofInt p4))] [] w _
  unfold xm_fold at hx
  refine wp_g 5 (pc1 := 6) (lv1 := [(0, .ref 146), (1, .int (Int32.ofInt p1)), (2, .int (Int32.ofInt p2)), (3, .int (Int32.ofInt p3)), (4, .int (Int32.ofInt p4))]) (st1 := [.int (Int32.ofInt p4), .int (Int32.ofInt p3), .int (Int32.ofInt p2), .int (Int32.ofInt p1), .ref 146]) (w1 := w) rfl ?_
  obtain ⟨o1, e2, hx⟩ := bd hx
  refine wp_cl [.ref 146, .int (Int32.ofInt p1), .int (Int32.ofInt p2), .int (Int32.ofInt p3), .int (Int32.ofInt p4)] [] (i := .invokevirtual 378) (ln := 3) (a := 219) (b := 0) (z := 0) (by decide +kernel) rfl rfl (by decide) rfl (show (5 : Nat) = pm_na 219 by decide +kernel) (Nat.le_of_ble_eq_true rfl) (show (5 : Nat) ≤ pm_n 219 by decide +kernel) (rcv_x 12 h (hS _ _ sm_146) (by decide +kernel)) (xm_isFold_ok (d := d + 2) hS h e2 ?_)
  show wp _ 220 9 [(0, .ref 146), (1, .int (Int32.ofInt p1)), (2, .int (Int32.ofInt p2)), (3, .int (Int32.ofInt p3)), (4, .int (Int32.ofInt p4))] [.int (Int32.ofInt o1)] w _
  refine wz_eq (oo := 13) (ln := 3) (a := 22) (b := 0) (zz := 0) (by decide +kernel) (fun h5 => ?_) (fun h5 => ?_)
  · have hx := ite_t h5 hx
    refine wp_g 1 (pc1 := 23) (lv1 := [(0, .ref 146), (1, .int (Int32.ofInt p1)), (2, .int (Int32.ofInt p2)), (3, .int (Int32.ofInt p3)), (4, .int (Int32.ofInt p4))]) (st1 := [.int (Int32.ofInt (-1))]) (w1 := w) rfl ?_
    refine wp_rt (i := .ireturn) (r := some (.int (Int32.ofInt (-1)))) (ln := 1) (a := 0) (b := 0) (z := 0) (by decide +kernel) rfl (ret_ok (by decide +kernel)) ?_
    cases hx
    exact kr _ h
  · have hx := ite_f h5 hx
    refine wp_g 3 (pc1 := 16) (lv1 := [(0, .ref 146), (1, .int (Int32.ofInt p1)), (2, .int (Int32.ofInt p2)), (3, .int (Int32.ofInt p3)), (4, .int (Int32.ofInt p4))]) (st1 := [.int (Int32.ofInt p4), .int (Int32.ofInt p2), .ref 146]) (w1 := w) rfl ?_
    obtain ⟨o6, e7, hx⟩ := bd hx
    refine wp_cl [.ref 146, .int (Int32.ofInt p2), .int (Int32.ofInt p4)] [] (i := .invokevirtual 358) (ln := 3) (a := 207) (b := 0) (z := 0) (by decide +kernel) rfl rfl (by decide) rfl (show (3 : Nat) = pm_na 207 by decide +kernel) (Nat.le_of_ble_eq_true rfl) (show (3 : Nat) ≤ pm_n 207 by decide +kernel) (rcv_x 12 h (hS _ _ sm_146) (by decide +kernel)) (xm_canCrease_ok (d := d + 2) hS h e7 ?_)
    show wp _ 220 19 [(0, .ref 146), (1, .int (Int32.ofInt p1)), (2, .int (Int32.ofInt p2)), (3, .int (Int32.ofInt p3)), (4, .int (Int32.ofInt p4))] [.int (Int32.ofInt o6)] w _
    refine wz_ne (oo := 5) (ln := 3) (a := 24) (b := 0) (zz := 0) (by decide +kernel) (fun h10 => ?_) (fun h10 => ?_)
    · have hx := ite_f h10 hx
      refine wp_g 5 (pc1 := 30) (lv1 := [(0, .ref 146), (1, .int (Int32.ofInt p1)), (2, .int (Int32.ofInt p2)), (3, .int (Int32.ofInt p3)), (4, .int (Int32.ofInt p4))]) (st1 := [.int (Int32.ofInt p4), .int (Int32.ofInt p3), .int (Int32.ofInt p2), .int (Int32.ofInt p1), .ref 146]) (w1 := w) rfl ?_
      obtain ⟨o11, e12, hx⟩ := bd hx
      refine wp_cl [.ref 146, .int (Int32.ofInt p1), .int (Int32.ofInt p2), .int (Int32.ofInt p3), .int (Int32.ofInt p4)] [] (i := .invokevirtual 364) (ln := 3) (a := 211) (b := 0) (z := 0) (by decide +kernel) rfl rfl (by decide) rfl (show (5 : Nat) = pm_na 211 by decide +kernel) (Nat.le_of_ble_eq_true rfl) (show (5 : Nat) ≤ pm_n 211 by decide +kernel) (rcv_x 12 h (hS _ _ sm_146) (by decide +kernel)) (xm_prices_ok (d := d + 1) hS h e12 (fun w13 h14 => ?_))
      show wp _ 220 33 [(0, .ref 146), (1, .int (Int32.ofInt p1)), (2, .int (Int32.ofInt p2)), (3, .int (Int32.ofInt p3)), (4, .int (Int32.ofInt p4))] [.int (Int32.ofInt o11.1)] w13 _
      refine wp_g 2 (pc1 := 36) (lv1 := [(5, .int (Int32.ofInt o11.1)), (0, .ref 146), (1, .int (Int32.ofInt p1)), (2, .int (Int32.ofInt p2)), (3, .int (Int32.ofInt p3)), (4, .int (Int32.ofInt p4))]) (st1 := [.ref 146]) (w1 := w13) rfl ?_
      refine wx_gr (o := 10) (kf := 39) (ln := 3) (ci := 12) (b := 20) (zz := 0) (x := 146) (by decide +kernel) h14 (hS _ _ sm_146) rfl ?_
      show wp _ 220 39 [(5, .int (Int32.ofInt o11.1)), (0, .ref 146), (1, .int (Int32.ofInt p1)), (2, .int (Int32.ofInt p2)), (3, .int (Int32.ofInt p3)), (4, .int (Int32.ofInt p4))] [.ref 156] w13 _
      refine wp_g 3 (pc1 := 43) (lv1 := [(5, .int (Int32.ofInt o11.1)), (0, .ref 146), (1, .int (Int32.ofInt p1)), (2, .int (Int32.ofInt p2)), (3, .int (Int32.ofInt p3)), (4, .int (Int32.ofInt p4))]) (st1 := [.int (Int32.ofInt (51 + p1)), .ref 156]) (w1 := w13) (by simp only [Int32.ofInt_add, Int32.ofInt_sub, Int32.ofInt_mul, Int32.ofInt_neg, p_and, p_or, p_xor, p_shl, p_shr, p_usr, p_w8, p_c16, p_lI, q_and, q_or, q_shl, q_shr, q_w32, Int64.ofInt_add, Int64.ofInt_sub, Int64.ofInt_mul, p_mx, p_mn, q_mx, q_mn]; rfl) ?_
      obtain ⟨i15, e16, hx⟩ := bd hx
      refine wx_ra (x := 156) (n := 130) (ln := 1) (a := 0) (b := 0) (zz := 0) (by decide +kernel) h14 (hS _ _ sm_156) e16 ?_
      show wp _ 220 44 [(5, .int (Int32.ofInt o11.1)), (0, .ref 146), (1, .int (Int32.ofInt p1)), (2, .int (Int32.ofInt p2)), (3, .int (Int32.ofInt p3)), (4, .int (Int32.ofInt p4))] [.int (Int32.ofInt (o11.2 156 i15))] w13 _
      refine wp_g 1 (pc1 := 46) (lv1 := [(5, .int (Int32.ofInt o11.1)), (0, .ref 146), (1, .int (Int32.ofInt p1)), (2, .int (Int32.ofInt p2)), (3, .int (Int32.ofInt p3)), (4, .int (Int32.ofInt p4))]) (st1 := [.int (Int32.ofInt o11.1), .int (Int32.ofInt (o11.2 156 i15))]) (w1 := w13) rfl ?_
      refine wx_ge (oo := 5) (ln := 3) (a := 51) (b := 0) (zz := 0) (by decide +kernel) (fun h17 => ?_) (fun h17 => ?_)
      · have hx := ite_f h17 hx
        refine wp_g 1 (pc1 := 52) (lv1 := [(5, .int (Int32.ofInt o11.1)), (0, .ref 146), (1, .int (Int32.ofInt p1)), (2, .int (Int32.ofInt p2)), (3, .int (Int32.ofInt p3)), (4, .int (Int32.ofInt p4))]) (st1 := [.ref 146]) (w1 := w13) rfl ?_
        obtain ⟨o18, e19, hx⟩ := bd hx
        refine wp_cl [.ref 146] [] (i := .invokevirtual 381) (ln := 3) (a := 217) (b := 0) (z := 0) (by decide +kernel) rfl rfl (by decide) rfl (show (1 : Nat) = pm_na 217 by decide +kernel) (Nat.le_of_ble_eq_true rfl) (show (1 : Nat) ≤ pm_n 217 by decide +kernel) (rcv_x 12 h14 (hS _ _ sm_146) (by decide +kernel)) (xm_keepsAct_ok (d := d + 4) hS h14 e19 (fun w20 h21 => ?_))
        show wp _ 220 55 [(5, .int (Int32.ofInt o11.1)), (0, .ref 146), (1, .int (Int32.ofInt p1)), (2, .int (Int32.ofInt p2)), (3, .int (Int32.ofInt p3)), (4, .int (Int32.ofInt p4))] [] w20 _
        refine wp_g 11 (pc1 := 67) (lv1 := [(5, .int (Int32.ofInt o11.1)), (0, .ref 146), (1, .int (Int32.ofInt p1)), (2, .int (Int32.ofInt p2)), (3, .int (Int32.ofInt p3)), (4, .int (Int32.ofInt p4))]) (st1 := [.int (Int32.ofInt (((4 * p2) + (2 * p3)) + p4)), .int (Int32.ofInt p1), .ref 146]) (w1 := w20) (by simp only [Int32.ofInt_add, Int32.ofInt_sub, Int32.ofInt_mul, Int32.ofInt_neg, p_and, p_or, p_xor, p_shl, p_shr, p_usr, p_w8, p_c16, p_lI, q_and, q_or, q_shl, q_shr, q_w32, Int64.ofInt_add, Int64.ofInt_sub, Int64.ofInt_mul, p_mx, p_mn, q_mx, q_mn]; rfl) ?_
        obtain ⟨o22, e23, hx⟩ := bd hx
        refine wp_cl [.ref 146, .int (Int32.ofInt p1), .int (Int32.ofInt (((4 * p2) + (2 * p3)) + p4))] [] (i := .invokevirtual 384) (ln := 3) (a := 216) (b := 0) (z := 0) (by decide +kernel) rfl rfl (by decide) rfl (show (3 : Nat) = pm_na 216 by decide +kernel) (Nat.le_of_ble_eq_true rfl) (show (3 : Nat) ≤ pm_n 216 by decide +kernel) (rcv_x 12 h21 (hS _ _ sm_146) (by decide +kernel)) (xm_isFolded_ok (d := d) hS h21 e23 (fun w24 h25 => ?_))
        show wp _ 220 70 [(5, .int (Int32.ofInt o11.1)), (0, .ref 146), (1, .int (Int32.ofInt p1)), (2, .int (Int32.ofInt p2)), (3, .int (Int32.ofInt p3)), (4, .int (Int32.ofInt p4))] [.int (Int32.ofInt o22.1)] w24 _
        refine wp_g 2 (pc1 := 73) (lv1 := [(5, .int (Int32.ofInt o11.1)), (0, .ref 146), (1, .int (Int32.ofInt p1)), (2, .int (Int32.ofInt p2)), (3, .int (Int32.ofInt p3)), (4, .int (Int32.ofInt p4))]) (st1 := [.int (Int32.ofInt o11.1)]) (w1 := w24) rfl ?_
        refine wp_rt (i := .ireturn) (r := some (.int (Int32.ofInt o11.1))) (ln := 1) (a := 0) (b := 0) (z := 0) (by decide +kernel) rfl (ret_ok (by decide +kernel)) ?_
        cases hx
        exact kr _ h25
      · have hx := ite_t h17 hx
        refine wp_g 1 (pc1 := 50) (lv1 := [(5, .int (Int32.ofInt o11.1)), (0, .ref 146), (1, .int (Int32.ofInt p1)), (2, .int (Int32.ofInt p2)), (3, .int (Int32.ofInt p3)), (4, .int (Int32.ofInt p4))]) (st1 := [.int (Int32.ofInt (-1))]) (w1 := w13) rfl ?_
        refine wp_rt (i := .ireturn) (r := some (.int (Int32.ofInt (-1)))) (ln := 1) (a := 0) (b := 0) (z := 0) (by decide +kernel) rfl (ret_ok (by decide +kernel)) ?_
        cases hx
        exact kr _ h14
    · have hx := ite_t h10 hx
      refine wp_g 1 (pc1 := 23) (lv1 := [(0, .ref 146), (1, .int (Int32.ofInt p1)), (2, .int (Int32.ofInt p2)), (3, .int (Int32.ofInt p3)), (4, .int (Int32.ofInt p4))]) (st1 := [.int (Int32.ofInt (-1))]) (w1 := w) rfl ?_
      refine wp_rt (i := .ireturn) (r := some (.int (Int32.ofInt (-1)))) (ln := 1) (a := 0) (b := 0) (z := 0) (by decide +kernel) rfl (ret_ok (by decide +kernel)) ?_
      cases hx
      exact kr _ h
/-- FoldDeedsModel.open ()I -/
noncomputable def xm_open (s : Hp) : Option (Int × Hp) :=
  (xm_isCloth s).bind fun o1 => if w32 o1 = 0 then some ((-1), s) else (ix 130 10).bind fun i6 => (ix 130 0).bind fun i8 => if w32 (s 156 i6) = w32 (s 156 i8) then some ((-1), s) else (xm_keepsAct s).bind fun o11 => (xm_liesOpen o11).bind fun o15 => some (o11 156 i6, o15)
set_option maxRecDepth 100000 in
theorem xm_open_ok {d : Nat} {P : Option Value → pm_H → Prop} {w : pm_H} {sh : Shp} {w0 : pm_H} {s : Hp} (hS : StM sh) (h : Rw sh w0 s w) {o : Int × Hp} (hx : xm_open s = some o) (kr : ∀ w1, Rw sh w0 o.2 w1 → P (some (.int (Int32.ofInt o.1))) w1) : wp (d + 1) 221 0 (lv_args 0 [.ref 146]) [] w P := by
  show wp _ 221 0 [(0, .ref 146)] [] w _
  unfold xm_open at hx
  refine wp_g 1 (pc1 := 1) (lv1 := [(0, .ref 146)]) (st1 := [.ref 146]) (w1 := w) rfl ?_
  obtain ⟨o1, e2, hx⟩ := bd hx
  refine wp_cl [.ref 146] [] (i := .invokevirtual 301) (ln := 3) (a := 190) (b := 0) (z := 0) (by decide +kernel) rfl rfl (by decide) rfl (show (1 : Nat) = pm_na 190 by decide +kernel) (Nat.le_of_ble_eq_true rfl) (show (1 : Nat) ≤ pm_n 190 by decide +kernel) (rcv_x 12 h (hS _ _ sm_146) (by decide +kernel)) (xm_isCloth_ok (d := d) hS h e2 ?_)
  show wp _ 221 4 [(0, .ref 146)] [.int (Int32.ofInt o1)] w _
  refine wz_eq (oo := 19) (ln := 3) (a := 23) (b := 0) (zz := 0) (by decide +kernel) (fun h5 => ?_) (fun h5 => ?_)
  · have hx := ite_t h5 hx
    refine wp_g 1 (pc1 := 24) (lv1 := [(0, .ref 146)]) (st1 := [.int (Int32.ofInt (-1))]) (w1 := w) rfl ?_
    refine wp_rt (i := .ireturn) (r := some (.int (Int32.ofInt (-1)))) (ln := 1) (a := 0) (b := 0) (z := 0) (by decide +kernel) rfl (ret_ok (by decide +kernel)) ?_
    cases hx
    exact kr _ h
  · have hx := ite_f h5 hx
    refine wp_g 1 (pc1 := 8) (lv1 := [(0, .ref 146)]) (st1 := [.ref 146]) (w1 := w) rfl ?_
    refine wx_gr (o := 10) (kf := 39) (ln := 3) (ci := 12) (b := 20) (zz := 0) (x := 146) (by decide +kernel) h (hS _ _ sm_146) rfl ?_
    show wp _ 221 11 [(0, .ref 146)] [.ref 156] w _
    refine wp_g 1 (pc1 := 13) (lv1 := [(0, .ref 146)]) (st1 := [.int (Int32.ofInt 10), .ref 156]) (w1 := w) rfl ?_
    obtain ⟨i6, e7, hx⟩ := bd hx
    refine wx_ra (x := 156) (n := 130) (ln := 1) (a := 0) (b := 0) (zz := 0) (by decide +kernel) h (hS _ _ sm_156) e7 ?_
    show wp _ 221 14 [(0, .ref 146)] [.int (Int32.ofInt (s 156 i6))] w _
    refine wp_g 1 (pc1 := 15) (lv1 := [(0, .ref 146)]) (st1 := [.ref 146, .int (Int32.ofInt (s 156 i6))]) (w1 := w) rfl ?_
    refine wx_gr (o := 10) (kf := 39) (ln := 3) (ci := 12) (b := 20) (zz := 0) (x := 146) (by decide +kernel) h (hS _ _ sm_146) rfl ?_
    show wp _ 221 18 [(0, .ref 146)] [.ref 156, .int (Int32.ofInt (s 156 i6))] w _
    refine wp_g 1 (pc1 := 19) (lv1 := [(0, .ref 146)]) (st1 := [.int (Int32.ofInt 0), .ref 156, .int (Int32.ofInt (s 156 i6))]) (w1 := w) rfl ?_
    obtain ⟨i8, e9, hx⟩ := bd hx
    refine wx_ra (x := 156) (n := 130) (ln := 1) (a := 0) (b := 0) (zz := 0) (by decide +kernel) h (hS _ _ sm_156) e9 ?_
    show wp _ 221 20 [(0, .ref 146)] [.int (Int32.ofInt (s 156 i8)), .int (Int32.ofInt (s 156 i6))] w _
    refine wx_ne (oo := 5) (ln := 3) (a := 25) (b := 0) (zz := 0) (by decide +kernel) (fun h10 => ?_) (fun h10 => ?_)
    · have hx := ite_f h10 hx
      refine wp_g 1 (pc1 := 26) (lv1 := [(0, .ref 146)]) (st1 := [.ref 146]) (w1 := w) rfl ?_
      obtain ⟨o11, e12, hx⟩ := bd hx
      refine wp_cl [.ref 146] [] (i := .invokevirtual 381) (ln := 3) (a := 217) (b := 0) (z := 0) (by decide +kernel) rfl rfl (by decide) rfl (show (1 : Nat) = pm_na 217 by decide +kernel) (Nat.le_of_ble_eq_true rfl) (show (1 : Nat) ≤ pm_n 217 by decide +kernel) (rcv_x 12 h (hS _ _ sm_146) (by decide +kernel)) (xm_keepsAct_ok (d := d) hS h e12 (fun w13 h14 => ?_))
      show wp _ 221 29 [(0, .ref 146)] [] w13 _
      refine wp_g 1 (pc1 := 30) (lv1 := [(0, .ref 146)]) (st1 := [.ref 146]) (w1 := w13) rfl ?_
      refine wx_gr (o := 10) (kf := 39) (ln := 3) (ci := 12) (b := 20) (zz := 0) (x := 146) (by decide +kernel) h14 (hS _ _ sm_146) rfl ?_
      show wp _ 221 33 [(0, .ref 146)] [.ref 156] w13 _
      refine wp_g 1 (pc1 := 35) (lv1 := [(0, .ref 146)]) (st1 := [.int (Int32.ofInt 10), .ref 156]) (w1 := w13) rfl ?_
      refine wx_ra (x := 156) (n := 130) (ln := 1) (a := 0) (b := 0) (zz := 0) (by decide +kernel) h14 (hS _ _ sm_156) e7 ?_
      show wp _ 221 36 [(0, .ref 146)] [.int (Int32.ofInt (o11 156 i6))] w13 _
      refine wp_g 2 (pc1 := 38) (lv1 := [(1, .int (Int32.ofInt (o11 156 i6))), (0, .ref 146)]) (st1 := [.ref 146]) (w1 := w13) rfl ?_
      obtain ⟨o15, e16, hx⟩ := bd hx
      refine wp_cl [.ref 146] [] (i := .invokevirtual 308) (ln := 3) (a := 196) (b := 0) (z := 0) (by decide +kernel) rfl rfl (by decide) rfl (show (1 : Nat) = pm_na 196 by decide +kernel) (Nat.le_of_ble_eq_true rfl) (show (1 : Nat) ≤ pm_n 196 by decide +kernel) (rcv_x 12 h14 (hS _ _ sm_146) (by decide +kernel)) (xm_liesOpen_ok (d := d) hS h14 e16 (fun w17 h18 => ?_))
      show wp _ 221 41 [(1, .int (Int32.ofInt (o11 156 i6))), (0, .ref 146)] [] w17 _
      refine wp_g 1 (pc1 := 42) (lv1 := [(1, .int (Int32.ofInt (o11 156 i6))), (0, .ref 146)]) (st1 := [.int (Int32.ofInt (o11 156 i6))]) (w1 := w17) rfl ?_
      refine wp_rt (i := .ireturn) (r := some (.int (Int32.ofInt (o11 156 i6)))) (ln := 1) (a := 0) (b := 0) (z := 0) (by decide +kernel) rfl (ret_ok (by decide +kernel)) ?_
      cases hx
      exact kr _ h18
    · have hx := ite_t h10 hx
      refine wp_g 1 (pc1 := 24) (lv1 := [(0, .ref 146)]) (st1 := [.int (Int32.ofInt (-1))]) (w1 := w) rfl ?_
      refine wp_rt (i := .ireturn) (r := some (.int (Int32.ofInt (-1)))) (ln := 1) (a := 0) (b := 0) (z := 0) (by decide +kernel) rfl (ret_ok (by decide +kernel)) ?_
      cases hx
      exact kr _ h
/-- FoldDeedsModel.iron (I)I -/
noncomputable def xm_iron (s : Hp) (p1 : Int) : Option (Int × Hp) :=
  (xm_isJoint s p1).bind fun o1 => if w32 o1 = 0 then some ((-1), s) else (ix 130 (44 + p1)).bind fun i6 => if w32 (s 156 i6) = 0 then some ((-1), s) else (ix 130 10).bind fun i9 => (ix 130 0).bind fun i11 => if w32 (s 156 i9) = w32 (s 156 i11) then (xm_keepsAct s).bind fun o14 => (some (uh o14 156 i6 0)).bind fun s18 => some (o14 156 i6, s18) else some ((-1), s)
set_option maxRecDepth 100000 in
theorem xm_iron_ok {d : Nat} {P : Option Value → pm_H → Prop} {w : pm_H} {sh : Shp} {w0 : pm_H} {s : Hp} (hS : StM sh) {p1 : Int} (h : Rw sh w0 s w) {o : Int × Hp} (hx : xm_iron s p1 = some o) (kr : ∀ w1, Rw sh w0 o.2 w1 → P (some (.int (Int32.ofInt o.1))) w1) : wp (d + 2) 222 0 (lv_args 0 [.ref 146, .int (Int32.ofInt p1)]) [] w P := by
  show wp _ 222 0 [(0, .ref 146), (1, .int (Int32.ofInt p1))] [] w _
  unfold xm_iron at hx
  refine wp_g 2 (pc1 := 2) (lv1 := [(0, .ref 146), (1, .int (Int32.ofInt p1))]) (st1 := [.int (Int32.ofInt p1), .ref 146]) (w1 := w) rfl ?_
  obtain ⟨o1, e2, hx⟩ := bd hx
  refine wp_cl [.ref 146, .int (Int32.ofInt p1)] [] (i := .invokevirtual 319) (ln := 3) (a := 192) (b := 0) (z := 0) (by decide +kernel) rfl rfl (by decide) rfl (show (2 : Nat) = pm_na 192 by decide +kernel) (Nat.le_of_ble_eq_true rfl) (show (2 : Nat) ≤ pm_n 192 by decide +kernel) (rcv_x 12 h (hS _ _ sm_146) (by decide +kernel)) (xm_isJoint_ok (d := d) hS h e2 ?_)
  show wp _ 222 5 [(0, .ref 146), (1, .int (Int32.ofInt p1))] [.int (Int32.ofInt o1)] w _
  refine wz_eq (oo := 31) (ln := 3) (a := 36) (b := 0) (zz := 0) (by decide +kernel) (fun h5 => ?_) (fun h5 => ?_)
  · have hx := ite_t h5 hx
    refine wp_g 1 (pc1 := 37) (lv1 := [(0, .ref 146), (1, .int (Int32.ofInt p1))]) (st1 := [.int (Int32.ofInt (-1))]) (w1 := w) rfl ?_
    refine wp_rt (i := .ireturn) (r := some (.int (Int32.ofInt (-1)))) (ln := 1) (a := 0) (b := 0) (z := 0) (by decide +kernel) rfl (ret_ok (by decide +kernel)) ?_
    cases hx
    exact kr _ h
  · have hx := ite_f h5 hx
    refine wp_g 1 (pc1 := 9) (lv1 := [(0, .ref 146), (1, .int (Int32.ofInt p1))]) (st1 := [.ref 146]) (w1 := w) rfl ?_
    refine wx_gr (o := 10) (kf := 39) (ln := 3) (ci := 12) (b := 20) (zz := 0) (x := 146) (by decide +kernel) h (hS _ _ sm_146) rfl ?_
    show wp _ 222 12 [(0, .ref 146), (1, .int (Int32.ofInt p1))] [.ref 156] w _
    refine wp_g 3 (pc1 := 16) (lv1 := [(0, .ref 146), (1, .int (Int32.ofInt p1))]) (st1 := [.int (Int32.ofInt (44 + p1)), .ref 156]) (w1 := w) (by simp only [Int32.ofInt_add, Int32.ofInt_sub, Int32.ofInt_mul, Int32.ofInt_neg, p_and, p_or, p_xor, p_shl, p_shr, p_usr, p_w8, p_c16, p_lI, q_and, q_or, q_shl, q_shr, q_w32, Int64.ofInt_add, Int64.ofInt_sub, Int64.ofInt_mul, p_mx, p_mn, q_mx, q_mn]; rfl) ?_
    obtain ⟨i6, e7, hx⟩ := bd hx
    refine wx_ra (x := 156) (n := 130) (ln := 1) (a := 0) (b := 0) (zz := 0) (by decide +kernel) h (hS _ _ sm_156) e7 ?_
    show wp _ 222 17 [(0, .ref 146), (1, .int (Int32.ofInt p1))] [.int (Int32.ofInt (s 156 i6))] w _
    refine wz_eq (oo := 19) (ln := 3) (a := 36) (b := 0) (zz := 0) (by decide +kernel) (fun h8 => ?_) (fun h8 => ?_)
    · have hx := ite_t h8 hx
      refine wp_g 1 (pc1 := 37) (lv1 := [(0, .ref 146), (1, .int (Int32.ofInt p1))]) (st1 := [.int (Int32.ofInt (-1))]) (w1 := w) rfl ?_
      refine wp_rt (i := .ireturn) (r := some (.int (Int32.ofInt (-1)))) (ln := 1) (a := 0) (b := 0) (z := 0) (by decide +kernel) rfl (ret_ok (by decide +kernel)) ?_
      cases hx
      exact kr _ h
    · have hx := ite_f h8 hx
      refine wp_g 1 (pc1 := 21) (lv1 := [(0, .ref 146), (1, .int (Int32.ofInt p1))]) (st1 := [.ref 146]) (w1 := w) rfl ?_
      refine wx_gr (o := 10) (kf := 39) (ln := 3) (ci := 12) (b := 20) (zz := 0) (x := 146) (by decide +kernel) h (hS _ _ sm_146) rfl ?_
      show wp _ 222 24 [(0, .ref 146), (1, .int (Int32.ofInt p1))] [.ref 156] w _
      refine wp_g 1 (pc1 := 26) (lv1 := [(0, .ref 146), (1, .int (Int32.ofInt p1))]) (st1 := [.int (Int32.ofInt 10), .ref 156]) (w1 := w) rfl ?_
      obtain ⟨i9, e10, hx⟩ := bd hx
      refine wx_ra (x := 156) (n := 130) (ln := 1) (a := 0) (b := 0) (zz := 0) (by decide +kernel) h (hS _ _ sm_156) e10 ?_
      show wp _ 222 27 [(0, .ref 146), (1, .int (Int32.ofInt p1))] [.int (Int32.ofInt (s 156 i9))] w _
      refine wp_g 1 (pc1 := 28) (lv1 := [(0, .ref 146), (1, .int (Int32.ofInt p1))]) (st1 := [.ref 146, .int (Int32.ofInt (s 156 i9))]) (w1 := w) rfl ?_
      refine wx_gr (o := 10) (kf := 39) (ln := 3) (ci := 12) (b := 20) (zz := 0) (x := 146) (by decide +kernel) h (hS _ _ sm_146) rfl ?_
      show wp _ 222 31 [(0, .ref 146), (1, .int (Int32.ofInt p1))] [.ref 156, .int (Int32.ofInt (s 156 i9))] w _
      refine wp_g 1 (pc1 := 32) (lv1 := [(0, .ref 146), (1, .int (Int32.ofInt p1))]) (st1 := [.int (Int32.ofInt 0), .ref 156, .int (Int32.ofInt (s 156 i9))]) (w1 := w) rfl ?_
      obtain ⟨i11, e12, hx⟩ := bd hx
      refine wx_ra (x := 156) (n := 130) (ln := 1) (a := 0) (b := 0) (zz := 0) (by decide +kernel) h (hS _ _ sm_156) e12 ?_
      show wp _ 222 33 [(0, .ref 146), (1, .int (Int32.ofInt p1))] [.int (Int32.ofInt (s 156 i11)), .int (Int32.ofInt (s 156 i9))] w _
      refine wx_eq (oo := 5) (ln := 3) (a := 38) (b := 0) (zz := 0) (by decide +kernel) (fun h13 => ?_) (fun h13 => ?_)
      · have hx := ite_t h13 hx
        refine wp_g 1 (pc1 := 39) (lv1 := [(0, .ref 146), (1, .int (Int32.ofInt p1))]) (st1 := [.ref 146]) (w1 := w) rfl ?_
        obtain ⟨o14, e15, hx⟩ := bd hx
        refine wp_cl [.ref 146] [] (i := .invokevirtual 381) (ln := 3) (a := 217) (b := 0) (z := 0) (by decide +kernel) rfl rfl (by decide) rfl (show (1 : Nat) = pm_na 217 by decide +kernel) (Nat.le_of_ble_eq_true rfl) (show (1 : Nat) ≤ pm_n 217 by decide +kernel) (rcv_x 12 h (hS _ _ sm_146) (by decide +kernel)) (xm_keepsAct_ok (d := d + 1) hS h e15 (fun w16 h17 => ?_))
        show wp _ 222 42 [(0, .ref 146), (1, .int (Int32.ofInt p1))] [] w16 _
        refine wp_g 1 (pc1 := 43) (lv1 := [(0, .ref 146), (1, .int (Int32.ofInt p1))]) (st1 := [.ref 146]) (w1 := w16) rfl ?_
        refine wx_gr (o := 10) (kf := 39) (ln := 3) (ci := 12) (b := 20) (zz := 0) (x := 146) (by decide +kernel) h17 (hS _ _ sm_146) rfl ?_
        show wp _ 222 46 [(0, .ref 146), (1, .int (Int32.ofInt p1))] [.ref 156] w16 _
        refine wp_g 3 (pc1 := 50) (lv1 := [(0, .ref 146), (1, .int (Int32.ofInt p1))]) (st1 := [.int (Int32.ofInt (44 + p1)), .ref 156]) (w1 := w16) (by simp only [Int32.ofInt_add, Int32.ofInt_sub, Int32.ofInt_mul, Int32.ofInt_neg, p_and, p_or, p_xor, p_shl, p_shr, p_usr, p_w8, p_c16, p_lI, q_and, q_or, q_shl, q_shr, q_w32, Int64.ofInt_add, Int64.ofInt_sub, Int64.ofInt_mul, p_mx, p_mn, q_mx, q_mn]; rfl) ?_
        refine wx_ra (x := 156) (n := 130) (ln := 1) (a := 0) (b := 0) (zz := 0) (by decide +kernel) h17 (hS _ _ sm_156) e7 ?_
        show wp _ 222 51 [(0, .ref 146), (1, .int (Int32.ofInt p1))] [.int (Int32.ofInt (o14 156 i6))] w16 _
        refine wp_g 2 (pc1 := 53) (lv1 := [(2, .int (Int32.ofInt (o14 156 i6))), (0, .ref 146), (1, .int (Int32.ofInt p1))]) (st1 := [.ref 146]) (w1 := w16) rfl ?_
        refine wx_gr (o := 10) (kf := 39) (ln := 3) (ci := 12) (b := 20) (zz := 0) (x := 146) (by decide +kernel) h17 (hS _ _ sm_146) rfl ?_
        show wp _ 222 56 [(2, .int (Int32.ofInt (o14 156 i6))), (0, .ref 146), (1, .int (Int32.ofInt p1))] [.ref 156] w16 _
        refine wp_g 4 (pc1 := 61) (lv1 := [(2, .int (Int32.ofInt (o14 156 i6))), (0, .ref 146), (1, .int (Int32.ofInt p1))]) (st1 := [.int (Int32.ofInt 0), .int (Int32.ofInt (44 + p1)), .ref 156]) (w1 := w16) (by simp only [Int32.ofInt_add, Int32.ofInt_sub, Int32.ofInt_mul, Int32.ofInt_neg, p_and, p_or, p_xor, p_shl, p_shr, p_usr, p_w8, p_c16, p_lI, q_and, q_or, q_shl, q_shr, q_w32, Int64.ofInt_add, Int64.ofInt_sub, Int64.ofInt_mul, p_mx, p_mn, q_mx, q_mn]; rfl) ?_
        obtain ⟨s18, e19, hx⟩ := bd hx
        refine wx_wa (x := 156) (n := 130) (ln := 1) (a := 0) (b := 0) (zz := 0) (by decide +kernel) h17 (hS _ _ sm_156) e7 e19 (fun w20 h21 => ?_)
        refine wp_g 1 (pc1 := 63) (lv1 := [(2, .int (Int32.ofInt (o14 156 i6))), (0, .ref 146), (1, .int (Int32.ofInt p1))]) (st1 := [.int (Int32.ofInt (o14 156 i6))]) (w1 := w20) rfl ?_
        refine wp_rt (i := .ireturn) (r := some (.int (Int32.ofInt (o14 156 i6)))) (ln := 1) (a := 0) (b := 0) (z := 0) (by decide +kernel) rfl (ret_ok (by decide +kernel)) ?_
        cases hx
        exact kr _ h21
      · have hx := ite_f h13 hx
        refine wp_g 1 (pc1 := 37) (lv1 := [(0, .ref 146), (1, .int (Int32.ofInt p1))]) (st1 := [.int (Int32.ofInt (-1))]) (w1 := w) rfl ?_
        refine wp_rt (i := .ireturn) (r := some (.int (Int32.ofInt (-1)))) (ln := 1) (a := 0) (b := 0) (z := 0) (by decide +kernel) rfl (ret_ok (by decide +kernel)) ?_
        cases hx
        exact kr _ h
/-- FoldDeedsModel.give (II)I -/
noncomputable def xm_give (s : Hp) (p1 : Int) (p2 : Int) : Option (Int × Hp) :=
  (xm_isCell s p1).bind fun o1 => if w32 o1 = 0 then some ((-1), s) else (xm_isPerson s p2).bind fun o6 => if w32 o6 = 0 then some ((-1), s) else (xm_cellOf s p1 3).bind fun o11 => if w32 o11 < 0 then some ((-1), s) else (xm_cellOf s p1 3).bind fun o16 => if w32 o16 = w32 p2 then some ((-1), s) else (xm_keepsAct s).bind fun o21 => (xm_cellOf o21 p1 3).bind fun o25 => (ix 130 ((12 + (4 * p1)) + 3)).bind fun i29 => (some (uh o21 156 i29 p2)).bind fun s31 => some (o25, s31)
set_option maxRecDepth 100000 in
theorem xm_give_ok {d : Nat} {P : Option Value → pm_H → Prop} {w : pm_H} {sh : Shp} {w0 : pm_H} {s : Hp} (hS : StM sh) {p1 : Int} {p2 : Int} (h : Rw sh w0 s w) {o : Int × Hp} (hx : xm_give s p1 p2 = some o) (kr : ∀ w1, Rw sh w0 o.2 w1 → P (some (.int (Int32.ofInt o.1))) w1) : wp (d + 1) 223 0 (lv_args 0 [.ref 146, .int (Int32.ofInt p1), .int (Int32.ofInt p2)]) [] w P := by
  show wp _ 223 0 [(0, .ref 146), (1, .int (Int32.ofInt p1)), (2, .int (Int32.ofInt p2))] [] w _
  unfold xm_give at hx
  refine wp_g 2 (pc1 := 2) (lv1 := [(0, .ref 146), (1, .int (Int32.ofInt p1)), (2, .int (Int32.ofInt p2))]) (st1 := [.int (Int32.ofInt p1), .ref 146]) (w1 := w) rfl ?_
  obtain ⟨o1, e2, hx⟩ := bd hx
  refine wp_cl [.ref 146, .int (Int32.ofInt p1)] [] (i := .invokevirtual 314) (ln := 3) (a := 191) (b := 0) (z := 0) (by decide +kernel) rfl rfl (by decide) rfl (show (2 : Nat) = pm_na 191 by decide +kernel) (Nat.le_of_ble_eq_true rfl) (show (2 : Nat) ≤ pm_n 191 by decide +kernel) (rcv_x 12 h (hS _ _ sm_146) (by decide +kernel)) (xm_isCell_ok (d := d) hS h e2 ?_)
  show wp _ 223 5 [(0, .ref 146), (1, .int (Int32.ofInt p1)), (2, .int (Int32.ofInt p2))] [.int (Int32.ofInt o1)] w _
  refine wz_eq (oo := 30) (ln := 3) (a := 35) (b := 0) (zz := 0) (by decide +kernel) (fun h5 => ?_) (fun h5 => ?_)
  · have hx := ite_t h5 hx
    refine wp_g 1 (pc1 := 36) (lv1 := [(0, .ref 146), (1, .int (Int32.ofInt p1)), (2, .int (Int32.ofInt p2))]) (st1 := [.int (Int32.ofInt (-1))]) (w1 := w) rfl ?_
    refine wp_rt (i := .ireturn) (r := some (.int (Int32.ofInt (-1)))) (ln := 1) (a := 0) (b := 0) (z := 0) (by decide +kernel) rfl (ret_ok (by decide +kernel)) ?_
    cases hx
    exact kr _ h
  · have hx := ite_f h5 hx
    refine wp_g 2 (pc1 := 10) (lv1 := [(0, .ref 146), (1, .int (Int32.ofInt p1)), (2, .int (Int32.ofInt p2))]) (st1 := [.int (Int32.ofInt p2), .ref 146]) (w1 := w) rfl ?_
    obtain ⟨o6, e7, hx⟩ := bd hx
    refine wp_cl [.ref 146, .int (Int32.ofInt p2)] [] (i := .invokevirtual 322) (ln := 3) (a := 193) (b := 0) (z := 0) (by decide +kernel) rfl rfl (by decide) rfl (show (2 : Nat) = pm_na 193 by decide +kernel) (Nat.le_of_ble_eq_true rfl) (show (2 : Nat) ≤ pm_n 193 by decide +kernel) (rcv_x 12 h (hS _ _ sm_146) (by decide +kernel)) (xm_isPerson_ok (d := d) hS h e7 ?_)
    show wp _ 223 13 [(0, .ref 146), (1, .int (Int32.ofInt p1)), (2, .int (Int32.ofInt p2))] [.int (Int32.ofInt o6)] w _
    refine wz_eq (oo := 22) (ln := 3) (a := 35) (b := 0) (zz := 0) (by decide +kernel) (fun h10 => ?_) (fun h10 => ?_)
    · have hx := ite_t h10 hx
      refine wp_g 1 (pc1 := 36) (lv1 := [(0, .ref 146), (1, .int (Int32.ofInt p1)), (2, .int (Int32.ofInt p2))]) (st1 := [.int (Int32.ofInt (-1))]) (w1 := w) rfl ?_
      refine wp_rt (i := .ireturn) (r := some (.int (Int32.ofInt (-1)))) (ln := 1) (a := 0) (b := 0) (z := 0) (by decide +kernel) rfl (ret_ok (by decide +kernel)) ?_
      cases hx
      exact kr _ h
    · have hx := ite_f h10 hx
      refine wp_g 3 (pc1 := 19) (lv1 := [(0, .ref 146), (1, .int (Int32.ofInt p1)), (2, .int (Int32.ofInt p2))]) (st1 := [.int (Int32.ofInt 3), .int (Int32.ofInt p1), .ref 146]) (w1 := w) rfl ?_
      obtain ⟨o11, e12, hx⟩ := bd hx
      refine wp_cl [.ref 146, .int (Int32.ofInt p1), .int (Int32.ofInt 3)] [] (i := .invokevirtual 304) (ln := 3) (a := 194) (b := 0) (z := 0) (by decide +kernel) rfl rfl (by decide) rfl (show (3 : Nat) = pm_na 194 by decide +kernel) (Nat.le_of_ble_eq_true rfl) (show (3 : Nat) ≤ pm_n 194 by decide +kernel) (rcv_x 12 h (hS _ _ sm_146) (by decide +kernel)) (xm_cellOf_ok (d := d) hS h e12 ?_)
      show wp _ 223 22 [(0, .ref 146), (1, .int (Int32.ofInt p1)), (2, .int (Int32.ofInt p2))] [.int (Int32.ofInt o11)] w _
      refine wz_lt (oo := 13) (ln := 3) (a := 35) (b := 0) (zz := 0) (by decide +kernel) (fun h15 => ?_) (fun h15 => ?_)
      · have hx := ite_t h15 hx
        refine wp_g 1 (pc1 := 36) (lv1 := [(0, .ref 146), (1, .int (Int32.ofInt p1)), (2, .int (Int32.ofInt p2))]) (st1 := [.int (Int32.ofInt (-1))]) (w1 := w) rfl ?_
        refine wp_rt (i := .ireturn) (r := some (.int (Int32.ofInt (-1)))) (ln := 1) (a := 0) (b := 0) (z := 0) (by decide +kernel) rfl (ret_ok (by decide +kernel)) ?_
        cases hx
        exact kr _ h
      · have hx := ite_f h15 hx
        refine wp_g 3 (pc1 := 28) (lv1 := [(0, .ref 146), (1, .int (Int32.ofInt p1)), (2, .int (Int32.ofInt p2))]) (st1 := [.int (Int32.ofInt 3), .int (Int32.ofInt p1), .ref 146]) (w1 := w) rfl ?_
        obtain ⟨o16, e17, hx⟩ := bd hx
        refine wp_cl [.ref 146, .int (Int32.ofInt p1), .int (Int32.ofInt 3)] [] (i := .invokevirtual 304) (ln := 3) (a := 194) (b := 0) (z := 0) (by decide +kernel) rfl rfl (by decide) rfl (show (3 : Nat) = pm_na 194 by decide +kernel) (Nat.le_of_ble_eq_true rfl) (show (3 : Nat) ≤ pm_n 194 by decide +kernel) (rcv_x 12 h (hS _ _ sm_146) (by decide +kernel)) (xm_cellOf_ok (d := d) hS h e17 ?_)
        show wp _ 223 31 [(0, .ref 146), (1, .int (Int32.ofInt p1)), (2, .int (Int32.ofInt p2))] [.int (Int32.ofInt o16)] w _
        refine wp_g 1 (pc1 := 32) (lv1 := [(0, .ref 146), (1, .int (Int32.ofInt p1)), (2, .int (Int32.ofInt p2))]) (st1 := [.int (Int32.ofInt p2), .int (Int32.ofInt o16)]) (w1 := w) rfl ?_
        refine wx_ne (oo := 5) (ln := 3) (a := 37) (b := 0) (zz := 0) (by decide +kernel) (fun h20 => ?_) (fun h20 => ?_)
        · have hx := ite_f h20 hx
          refine wp_g 1 (pc1 := 38) (lv1 := [(0, .ref 146), (1, .int (Int32.ofInt p1)), (2, .int (Int32.ofInt p2))]) (st1 := [.ref 146]) (w1 := w) rfl ?_
          obtain ⟨o21, e22, hx⟩ := bd hx
          refine wp_cl [.ref 146] [] (i := .invokevirtual 381) (ln := 3) (a := 217) (b := 0) (z := 0) (by decide +kernel) rfl rfl (by decide) rfl (show (1 : Nat) = pm_na 217 by decide +kernel) (Nat.le_of_ble_eq_true rfl) (show (1 : Nat) ≤ pm_n 217 by decide +kernel) (rcv_x 12 h (hS _ _ sm_146) (by decide +kernel)) (xm_keepsAct_ok (d := d) hS h e22 (fun w23 h24 => ?_))
          show wp _ 223 41 [(0, .ref 146), (1, .int (Int32.ofInt p1)), (2, .int (Int32.ofInt p2))] [] w23 _
          refine wp_g 3 (pc1 := 44) (lv1 := [(0, .ref 146), (1, .int (Int32.ofInt p1)), (2, .int (Int32.ofInt p2))]) (st1 := [.int (Int32.ofInt 3), .int (Int32.ofInt p1), .ref 146]) (w1 := w23) rfl ?_
          obtain ⟨o25, e26, hx⟩ := bd hx
          refine wp_cl [.ref 146, .int (Int32.ofInt p1), .int (Int32.ofInt 3)] [] (i := .invokevirtual 304) (ln := 3) (a := 194) (b := 0) (z := 0) (by decide +kernel) rfl rfl (by decide) rfl (show (3 : Nat) = pm_na 194 by decide +kernel) (Nat.le_of_ble_eq_true rfl) (show (3 : Nat) ≤ pm_n 194 by decide +kernel) (rcv_x 12 h24 (hS _ _ sm_146) (by decide +kernel)) (xm_cellOf_ok (d := d) hS h24 e26 ?_)
          show wp _ 223 47 [(0, .ref 146), (1, .int (Int32.ofInt p1)), (2, .int (Int32.ofInt p2))] [.int (Int32.ofInt o25)] w23 _
          refine wp_g 2 (pc1 := 49) (lv1 := [(3, .int (Int32.ofInt o25)), (0, .ref 146), (1, .int (Int32.ofInt p1)), (2, .int (Int32.ofInt p2))]) (st1 := [.ref 146]) (w1 := w23) rfl ?_
          refine wx_gr (o := 10) (kf := 39) (ln := 3) (ci := 12) (b := 20) (zz := 0) (x := 146) (by decide +kernel) h24 (hS _ _ sm_146) rfl ?_
          show wp _ 223 52 [(3, .int (Int32.ofInt o25)), (0, .ref 146), (1, .int (Int32.ofInt p1)), (2, .int (Int32.ofInt p2))] [.ref 156] w23 _
          refine wp_g 8 (pc1 := 61) (lv1 := [(3, .int (Int32.ofInt o25)), (0, .ref 146), (1, .int (Int32.ofInt p1)), (2, .int (Int32.ofInt p2))]) (st1 := [.int (Int32.ofInt p2), .int (Int32.ofInt ((12 + (4 * p1)) + 3)), .ref 156]) (w1 := w23) (by simp only [Int32.ofInt_add, Int32.ofInt_sub, Int32.ofInt_mul, Int32.ofInt_neg, p_and, p_or, p_xor, p_shl, p_shr, p_usr, p_w8, p_c16, p_lI, q_and, q_or, q_shl, q_shr, q_w32, Int64.ofInt_add, Int64.ofInt_sub, Int64.ofInt_mul, p_mx, p_mn, q_mx, q_mn]; rfl) ?_
          obtain ⟨i29, e30, hx⟩ := bd hx
          obtain ⟨s31, e32, hx⟩ := bd hx
          refine wx_wa (x := 156) (n := 130) (ln := 1) (a := 0) (b := 0) (zz := 0) (by decide +kernel) h24 (hS _ _ sm_156) e30 e32 (fun w33 h34 => ?_)
          refine wp_g 1 (pc1 := 63) (lv1 := [(3, .int (Int32.ofInt o25)), (0, .ref 146), (1, .int (Int32.ofInt p1)), (2, .int (Int32.ofInt p2))]) (st1 := [.int (Int32.ofInt o25)]) (w1 := w33) rfl ?_
          refine wp_rt (i := .ireturn) (r := some (.int (Int32.ofInt o25))) (ln := 1) (a := 0) (b := 0) (z := 0) (by decide +kernel) rfl (ret_ok (by decide +kernel)) ?_
          cases hx
          exact kr _ h34
        · have hx := ite_t h20 hx
          refine wp_g 1 (pc1 := 36) (lv1 := [(0, .ref 146), (1, .int (Int32.ofInt p1)), (2, .int (Int32.ofInt p2))]) (st1 := [.int (Int32.ofInt (-1))]) (w1 := w) rfl ?_
          refine wp_rt (i := .ireturn) (r := some (.int (Int32.ofInt (-1)))) (ln := 1) (a := 0) (b := 0) (z := 0) (by decide +kernel) rfl (ret_ok (by decide +kernel)) ?_
          cases hx
          exact kr _ h
/-- FoldDeedsModel.cost (IIII)I -/
noncomputable def xm_cost (s : Hp) (p1 : Int) (p2 : Int) (p3 : Int) (p4 : Int) : Option (Int × Hp) :=
  (xm_isFold s p1 p2 p3 p4).bind fun o1 => if w32 o1 = 0 then some ((-1), s) else (xm_canCrease s p2 p4).bind fun o6 => if w32 o6 = 0 then some ((-2), s) else (xm_prices s p1 p2 p3 p4).bind fun o11 => some (o11.1, o11.2)
set_option maxRecDepth 100000 in
theorem xm_cost_ok {d : Nat} {P : Option Value → pm_H → Prop} {w : pm_H} {sh : Shp} {w0 : pm_H} {s : Hp} (hS : StM sh) {p1 : Int} {p2 : Int} {p3 : Int} {p4 : Int} (h : Rw sh w0 s w) {o : Int × Hp} (hx : xm_cost s p1 p2 p3 p4 = some o) (kr : ∀ w1, Rw sh w0 o.2 w1 → P (some (.int (Int32.ofInt o.1))) w1) : wp (d + 4) 224 0 (lv_args 0 [.ref 146, .int (Int32.ofInt p1), .int (Int32.ofInt p2), .int (Int32.ofInt p3), .int (Int32.ofInt p4)]) [] w P := by
  show wp _ 224 0 [(0, .ref 146), (1, .int (Int32.ofInt p1)), (2, .int (Int32.ofInt p2)), (3, .int (Int32.ofInt p3)), (4, .int (Int32.ofInt p4))] [] w _
  unfold xm_cost at hx
  refine wp_g 5 (pc1 := 6) (lv1 := [(0, .ref 146), (1, .int (Int32.ofInt p1)), (2, .int (Int32.ofInt p2)), (3, .int (Int32.ofInt p3)), (4, .int (Int32.ofInt p4))]) (st1 := [.int (Int32.ofInt p4), .int (Int32.ofInt p3), .int (Int32.ofInt p2), .int (Int32.ofInt p1), .ref 146]) (w1 := w) rfl ?_
  obtain ⟨o1, e2, hx⟩ := bd hx
  refine wp_cl [.ref 146, .int (Int32.ofInt p1), .int (Int32.ofInt p2), .int (Int32.ofInt p3), .int (Int32.ofInt p4)] [] (i := .invokevirtual 378) (ln := 3) (a := 219) (b := 0) (z := 0) (by decide +kernel) rfl rfl (by decide) rfl (show (5 : Nat) = pm_na 219 by decide +kernel) (Nat.le_of_ble_eq_true rfl) (show (5 : Nat) ≤ pm_n 219 by decide +kernel) (rcv_x 12 h (hS _ _ sm_146) (by decide +kernel)) (xm_isFold_ok (d := d + 1) hS h e2 ?_)
  show wp _ 224 9 [(0, .ref 146), (1, .int (Int32.ofInt p1)), (2, .int (Int32.ofInt p2)), (3, .int (Int32.ofInt p3)), (4, .int (Int32.ofInt p4))] [.int (Int32.ofInt o1)] w _
  refine wz_ne (oo := 5) (ln := 3) (a := 14) (b := 0) (zz := 0) (by decide +kernel) (fun h5 => ?_) (fun h5 => ?_)
  · have hx := ite_f h5 hx
    refine wp_g 3 (pc1 := 18) (lv1 := [(0, .ref 146), (1, .int (Int32.ofInt p1)), (2, .int (Int32.ofInt p2)), (3, .int (Int32.ofInt p3)), (4, .int (Int32.ofInt p4))]) (st1 := [.int (Int32.ofInt p4), .int (Int32.ofInt p2), .ref 146]) (w1 := w) rfl ?_
    obtain ⟨o6, e7, hx⟩ := bd hx
    refine wp_cl [.ref 146, .int (Int32.ofInt p2), .int (Int32.ofInt p4)] [] (i := .invokevirtual 358) (ln := 3) (a := 207) (b := 0) (z := 0) (by decide +kernel) rfl rfl (by decide) rfl (show (3 : Nat) = pm_na 207 by decide +kernel) (Nat.le_of_ble_eq_true rfl) (show (3 : Nat) ≤ pm_n 207 by decide +kernel) (rcv_x 12 h (hS _ _ sm_146) (by decide +kernel)) (xm_canCrease_ok (d := d + 1) hS h e7 ?_)
    show wp _ 224 21 [(0, .ref 146), (1, .int (Int32.ofInt p1)), (2, .int (Int32.ofInt p2)), (3, .int (Int32.ofInt p3)), (4, .int (Int32.ofInt p4))] [.int (Int32.ofInt o6)] w _
    refine wz_eq (oo := 15) (ln := 3) (a := 36) (b := 0) (zz := 0) (by decide +kernel) (fun h10 => ?_) (fun h10 => ?_)
    · have hx := ite_t h10 hx
      refine wp_g 1 (pc1 := 38) (lv1 := [(0, .ref 146), (1, .int (Int32.ofInt p1)), (2, .int (Int32.ofInt p2)), (3, .int (Int32.ofInt p3)), (4, .int (Int32.ofInt p4))]) (st1 := [.int (Int32.ofInt (-2))]) (w1 := w) rfl ?_
      refine wp_rt (i := .ireturn) (r := some (.int (Int32.ofInt (-2)))) (ln := 1) (a := 0) (b := 0) (z := 0) (by decide +kernel) rfl (ret_ok (by decide +kernel)) ?_
      cases hx
      exact kr _ h
    · have hx := ite_f h10 hx
      refine wp_g 5 (pc1 := 30) (lv1 := [(0, .ref 146), (1, .int (Int32.ofInt p1)), (2, .int (Int32.ofInt p2)), (3, .int (Int32.ofInt p3)), (4, .int (Int32.ofInt p4))]) (st1 := [.int (Int32.ofInt p4), .int (Int32.ofInt p3), .int (Int32.ofInt p2), .int (Int32.ofInt p1), .ref 146]) (w1 := w) rfl ?_
      obtain ⟨o11, e12, hx⟩ := bd hx
      refine wp_cl [.ref 146, .int (Int32.ofInt p1), .int (Int32.ofInt p2), .int (Int32.ofInt p3), .int (Int32.ofInt p4)] [] (i := .invokevirtual 364) (ln := 3) (a := 211) (b := 0) (z := 0) (by decide +kernel) rfl rfl (by decide) rfl (show (5 : Nat) = pm_na 211 by decide +kernel) (Nat.le_of_ble_eq_true rfl) (show (5 : Nat) ≤ pm_n 211 by decide +kernel) (rcv_x 12 h (hS _ _ sm_146) (by decide +kernel)) (xm_prices_ok (d := d) hS h e12 (fun w13 h14 => ?_))
      show wp _ 224 33 [(0, .ref 146), (1, .int (Int32.ofInt p1)), (2, .int (Int32.ofInt p2)), (3, .int (Int32.ofInt p3)), (4, .int (Int32.ofInt p4))] [.int (Int32.ofInt o11.1)] w13 _
      refine wp_g 1 (pc1 := 38) (lv1 := [(0, .ref 146), (1, .int (Int32.ofInt p1)), (2, .int (Int32.ofInt p2)), (3, .int (Int32.ofInt p3)), (4, .int (Int32.ofInt p4))]) (st1 := [.int (Int32.ofInt o11.1)]) (w1 := w13) rfl ?_
      refine wp_rt (i := .ireturn) (r := some (.int (Int32.ofInt o11.1))) (ln := 1) (a := 0) (b := 0) (z := 0) (by decide +kernel) rfl (ret_ok (by decide +kernel)) ?_
      cases hx
      exact kr _ h14
  · have hx := ite_t h5 hx
    refine wp_g 1 (pc1 := 13) (lv1 := [(0, .ref 146), (1, .int (Int32.ofInt p1)), (2, .int (Int32.ofInt p2)), (3, .int (Int32.ofInt p3)), (4, .int (Int32.ofInt p4))]) (st1 := [.int (Int32.ofInt (-1))]) (w1 := w) rfl ?_
    refine wp_rt (i := .ireturn) (r := some (.int (Int32.ofInt (-1)))) (ln := 1) (a := 0) (b := 0) (z := 0) (by decide +kernel) rfl (ret_ok (by decide +kernel)) ?_
    cases hx
    exact kr _ h
/-- FoldDeedsModel.mark (II)I -/
noncomputable def xm_mark (s : Hp) (p1 : Int) (p2 : Int) : Option (Int × Hp) :=
  (xm_isJoint s p1).bind fun o1 => if w32 o1 = 0 then some ((-1), s) else (xm_in (w32 p2) 0 2).bind fun o6 => if w32 o6 = 0 then some ((-1), s) else (ix 130 (82 + p1)).bind fun i11 => (some (uh s 156 i11 p2)).bind fun s13 => some (s 156 i11, s13)
set_option maxRecDepth 100000 in
theorem xm_mark_ok {d : Nat} {P : Option Value → pm_H → Prop} {w : pm_H} {sh : Shp} {w0 : pm_H} {s : Hp} (hS : StM sh) {p1 : Int} {p2 : Int} (h : Rw sh w0 s w) {o : Int × Hp} (hx : xm_mark s p1 p2 = some o) (kr : ∀ w1, Rw sh w0 o.2 w1 → P (some (.int (Int32.ofInt o.1))) w1) : wp (d + 2) 225 0 (lv_args 0 [.ref 146, .int (Int32.ofInt p1), .int (Int32.ofInt p2)]) [] w P := by
  show wp _ 225 0 [(0, .ref 146), (1, .int (Int32.ofInt p1)), (2, .int (Int32.ofInt p2))] [] w _
  unfold xm_mark at hx
  refine wp_g 2 (pc1 := 2) (lv1 := [(0, .ref 146), (1, .int (Int32.ofInt p1)), (2, .int (Int32.ofInt p2))]) (st1 := [.int (Int32.ofInt p1), .ref 146]) (w1 := w) rfl ?_
  obtain ⟨o1, e2, hx⟩ := bd hx
  refine wp_cl [.ref 146, .int (Int32.ofInt p1)] [] (i := .invokevirtual 319) (ln := 3) (a := 192) (b := 0) (z := 0) (by decide +kernel) rfl rfl (by decide) rfl (show (2 : Nat) = pm_na 192 by decide +kernel) (Nat.le_of_ble_eq_true rfl) (show (2 : Nat) ≤ pm_n 192 by decide +kernel) (rcv_x 12 h (hS _ _ sm_146) (by decide +kernel)) (xm_isJoint_ok (d := d) hS h e2 ?_)
  show wp _ 225 5 [(0, .ref 146), (1, .int (Int32.ofInt p1)), (2, .int (Int32.ofInt p2))] [.int (Int32.ofInt o1)] w _
  refine wz_eq (oo := 15) (ln := 3) (a := 20) (b := 0) (zz := 0) (by decide +kernel) (fun h5 => ?_) (fun h5 => ?_)
  · have hx := ite_t h5 hx
    refine wp_g 1 (pc1 := 21) (lv1 := [(0, .ref 146), (1, .int (Int32.ofInt p1)), (2, .int (Int32.ofInt p2))]) (st1 := [.int (Int32.ofInt (-1))]) (w1 := w) rfl ?_
    refine wp_rt (i := .ireturn) (r := some (.int (Int32.ofInt (-1)))) (ln := 1) (a := 0) (b := 0) (z := 0) (by decide +kernel) rfl (ret_ok (by decide +kernel)) ?_
    cases hx
    exact kr _ h
  · have hx := ite_f h5 hx
    refine wp_g 4 (pc1 := 14) (lv1 := [(0, .ref 146), (1, .int (Int32.ofInt p1)), (2, .int (Int32.ofInt p2))]) (st1 := [.long (Int64.ofInt 2), .long (Int64.ofInt 0), .long (Int64.ofInt (w32 p2))]) (w1 := w) (by simp only [Int32.ofInt_add, Int32.ofInt_sub, Int32.ofInt_mul, Int32.ofInt_neg, p_and, p_or, p_xor, p_shl, p_shr, p_usr, p_w8, p_c16, p_lI, q_and, q_or, q_shl, q_shr, q_w32, Int64.ofInt_add, Int64.ofInt_sub, Int64.ofInt_mul, p_mx, p_mn, q_mx, q_mn]; rfl) ?_
    obtain ⟨o6, e7, hx⟩ := bd hx
    refine wp_cl [.long (Int64.ofInt (w32 p2)), .long (Int64.ofInt 0), .long (Int64.ofInt 2)] [] (i := .invokestatic 139) (ln := 3) (a := 147) (b := 1) (z := 0) (by decide +kernel) rfl rfl (by decide) rfl (show (3 : Nat) = pm_na 147 by decide +kernel) (Nat.le_of_ble_eq_true rfl) (show (6 : Nat) ≤ pm_n 147 by decide +kernel) (by rw [show pm_k 147 = 1 by decide +kernel]; rfl) (xm_in_ok (d := d + 1) e7 ?_)
    show wp _ 225 17 [(0, .ref 146), (1, .int (Int32.ofInt p1)), (2, .int (Int32.ofInt p2))] [.int (Int32.ofInt o6)] w _
    refine wz_ne (oo := 5) (ln := 3) (a := 22) (b := 0) (zz := 0) (by decide +kernel) (fun h10 => ?_) (fun h10 => ?_)
    · have hx := ite_f h10 hx
      refine wp_g 1 (pc1 := 23) (lv1 := [(0, .ref 146), (1, .int (Int32.ofInt p1)), (2, .int (Int32.ofInt p2))]) (st1 := [.ref 146]) (w1 := w) rfl ?_
      refine wx_gr (o := 10) (kf := 39) (ln := 3) (ci := 12) (b := 20) (zz := 0) (x := 146) (by decide +kernel) h (hS _ _ sm_146) rfl ?_
      show wp _ 225 26 [(0, .ref 146), (1, .int (Int32.ofInt p1)), (2, .int (Int32.ofInt p2))] [.ref 156] w _
      refine wp_g 3 (pc1 := 30) (lv1 := [(0, .ref 146), (1, .int (Int32.ofInt p1)), (2, .int (Int32.ofInt p2))]) (st1 := [.int (Int32.ofInt (82 + p1)), .ref 156]) (w1 := w) (by simp only [Int32.ofInt_add, Int32.ofInt_sub, Int32.ofInt_mul, Int32.ofInt_neg, p_and, p_or, p_xor, p_shl, p_shr, p_usr, p_w8, p_c16, p_lI, q_and, q_or, q_shl, q_shr, q_w32, Int64.ofInt_add, Int64.ofInt_sub, Int64.ofInt_mul, p_mx, p_mn, q_mx, q_mn]; rfl) ?_
      obtain ⟨i11, e12, hx⟩ := bd hx
      refine wx_ra (x := 156) (n := 130) (ln := 1) (a := 0) (b := 0) (zz := 0) (by decide +kernel) h (hS _ _ sm_156) e12 ?_
      show wp _ 225 31 [(0, .ref 146), (1, .int (Int32.ofInt p1)), (2, .int (Int32.ofInt p2))] [.int (Int32.ofInt (s 156 i11))] w _
      refine wp_g 2 (pc1 := 33) (lv1 := [(3, .int (Int32.ofInt (s 156 i11))), (0, .ref 146), (1, .int (Int32.ofInt p1)), (2, .int (Int32.ofInt p2))]) (st1 := [.ref 146]) (w1 := w) rfl ?_
      refine wx_gr (o := 10) (kf := 39) (ln := 3) (ci := 12) (b := 20) (zz := 0) (x := 146) (by decide +kernel) h (hS _ _ sm_146) rfl ?_
      show wp _ 225 36 [(3, .int (Int32.ofInt (s 156 i11))), (0, .ref 146), (1, .int (Int32.ofInt p1)), (2, .int (Int32.ofInt p2))] [.ref 156] w _
      refine wp_g 4 (pc1 := 41) (lv1 := [(3, .int (Int32.ofInt (s 156 i11))), (0, .ref 146), (1, .int (Int32.ofInt p1)), (2, .int (Int32.ofInt p2))]) (st1 := [.int (Int32.ofInt p2), .int (Int32.ofInt (82 + p1)), .ref 156]) (w1 := w) (by simp only [Int32.ofInt_add, Int32.ofInt_sub, Int32.ofInt_mul, Int32.ofInt_neg, p_and, p_or, p_xor, p_shl, p_shr, p_usr, p_w8, p_c16, p_lI, q_and, q_or, q_shl, q_shr, q_w32, Int64.ofInt_add, Int64.ofInt_sub, Int64.ofInt_mul, p_mx, p_mn, q_mx, q_mn]; rfl) ?_
      obtain ⟨s13, e14, hx⟩ := bd hx
      refine wx_wa (x := 156) (n := 130) (ln := 1) (a := 0) (b := 0) (zz := 0) (by decide +kernel) h (hS _ _ sm_156) e12 e14 (fun w15 h16 => ?_)
      refine wp_g 1 (pc1 := 43) (lv1 := [(3, .int (Int32.ofInt (s 156 i11))), (0, .ref 146), (1, .int (Int32.ofInt p1)), (2, .int (Int32.ofInt p2))]) (st1 := [.int (Int32.ofInt (s 156 i11))]) (w1 := w15) rfl ?_
      refine wp_rt (i := .ireturn) (r := some (.int (Int32.ofInt (s 156 i11)))) (ln := 1) (a := 0) (b := 0) (z := 0) (by decide +kernel) rfl (ret_ok (by decide +kernel)) ?_
      cases hx
      exact kr _ h16
    · have hx := ite_t h10 hx
      refine wp_g 1 (pc1 := 21) (lv1 := [(0, .ref 146), (1, .int (Int32.ofInt p1)), (2, .int (Int32.ofInt p2))]) (st1 := [.int (Int32.ofInt (-1))]) (w1 := w) rfl ?_
      refine wp_rt (i := .ireturn) (r := some (.int (Int32.ofInt (-1)))) (ln := 1) (a := 0) (b := 0) (z := 0) (by decide +kernel) rfl (ret_ok (by decide +kernel)) ?_
      cases hx
      exact kr _ h
