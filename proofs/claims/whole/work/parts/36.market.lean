/-! by program (wip/whole/gx.py) -/
/-- Rule.wordAt ([JI)J -/
noncomputable def xu_wordAt (s : Hp) (p1 : Int) : Option Int :=
  if w32 p1 < 0 then some 0 else if w32 p1 < w32 11 then (ix 11 p1).bind fun i3 => some (s 52 i3) else some 0
set_option maxRecDepth 100000 in
theorem xu_wordAt_ok {d : Nat} {P : Option Value → pm_H → Prop} {w : pm_H} {sh : Shp} {w0 : pm_H} {s : Hp} (hS : St sh) {p1 : Int} (h : Rw sh w0 s w) {o : Int} (hx : xu_wordAt s p1 = some o) (kr : P (some (.long (Int64.ofInt o))) w) : wp d 45 0 (lv_args 0 [.ref 52, .int (Int32.ofInt p1)]) [] w P := by
  show wp _ 45 0 [(0, .ref 52), (1, .int (Int32.ofInt p1))] [] w _
  unfold xu_wordAt at hx
  refine wp_g 1 (pc1 := 1) (lv1 := [(0, .ref 52), (1, .int (Int32.ofInt p1))]) (st1 := [.int (Int32.ofInt p1)]) (w1 := w) rfl ?_
  refine wz_lt (oo := 15) (ln := 3) (a := 16) (b := 0) (zz := 0) (by decide +kernel) (fun h1 => ?_) (fun h1 => ?_)
  · have hx := ite_t h1 hx
    refine wp_g 1 (pc1 := 17) (lv1 := [(0, .ref 52), (1, .int (Int32.ofInt p1))]) (st1 := [.long (Int64.ofInt 0)]) (w1 := w) rfl ?_
    refine wp_rt (i := .lreturn) (r := some (.long (Int64.ofInt 0))) (ln := 1) (a := 0) (b := 0) (z := 0) (by decide +kernel) rfl (ret_l (by decide +kernel)) ?_
    cases hx
    exact kr
  · have hx := ite_f h1 hx
    refine wp_g 2 (pc1 := 6) (lv1 := [(0, .ref 52), (1, .int (Int32.ofInt p1))]) (st1 := [.ref 52, .int (Int32.ofInt p1)]) (w1 := w) rfl ?_
    refine wx_ln (n := 11) (t := 1) (ln := 1) (a := 0) (b := 0) (zz := 0) (by decide +kernel) h (hS _ _ sx_52) ?_
    show wp _ 45 7 [(0, .ref 52), (1, .int (Int32.ofInt p1))] [.int (Int32.ofInt 11), .int (Int32.ofInt p1)] w _
    refine wx_ge (oo := 9) (ln := 3) (a := 16) (b := 0) (zz := 0) (by decide +kernel) (fun h2 => ?_) (fun h2 => ?_)
    · have hx := ite_f h2 hx
      refine wp_g 1 (pc1 := 17) (lv1 := [(0, .ref 52), (1, .int (Int32.ofInt p1))]) (st1 := [.long (Int64.ofInt 0)]) (w1 := w) rfl ?_
      refine wp_rt (i := .lreturn) (r := some (.long (Int64.ofInt 0))) (ln := 1) (a := 0) (b := 0) (z := 0) (by decide +kernel) rfl (ret_l (by decide +kernel)) ?_
      cases hx
      exact kr
    · have hx := ite_t h2 hx
      refine wp_g 2 (pc1 := 12) (lv1 := [(0, .ref 52), (1, .int (Int32.ofInt p1))]) (st1 := [.int (Int32.ofInt p1), .ref 52]) (w1 := w) rfl ?_
      obtain ⟨i3, e4, hx⟩ := bd hx
      refine wx_rl (x := 52) (n := 11) (ln := 1) (a := 0) (b := 0) (zz := 0) (by decide +kernel) h (hS _ _ sx_52) e4 ?_
      show wp _ 45 13 [(0, .ref 52), (1, .int (Int32.ofInt p1))] [.long (Int64.ofInt (s 52 i3))] w _
      refine wp_g 1 (pc1 := 17) (lv1 := [(0, .ref 52), (1, .int (Int32.ofInt p1))]) (st1 := [.long (Int64.ofInt (s 52 i3))]) (w1 := w) rfl ?_
      refine wp_rt (i := .lreturn) (r := some (.long (Int64.ofInt (s 52 i3)))) (ln := 1) (a := 0) (b := 0) (z := 0) (by decide +kernel) rfl (ret_l (by decide +kernel)) ?_
      cases hx
      exact kr
/-- Rule.join (IJJ)J -/
noncomputable def xu_join (p0 : Int) (p1 : Int) (p3 : Int) : Option Int :=
  if w32 p0 = 5 then some (p1 + p3) else if w32 p0 = 6 then some (p1 - p3) else if w32 p0 = 7 then some (p1 * p3) else if w32 p0 = 8 then if w64 p3 = w64 0 then some 0 else if ¬ w64 p3 = 0 then some (lDiv p1 p3) else none else if w32 p0 = 9 then if w64 p3 = w64 0 then some 0 else if ¬ w64 p3 = 0 then some (lRem p1 p3) else none else if w32 p0 = 10 then if w64 p1 < w64 p3 then some 1 else some 0 else if w32 p0 = 11 then if w64 p3 < w64 p1 then some 0 else some 1 else if w32 p0 = 12 then if w64 p1 = w64 p3 then some 1 else some 0 else if w32 p0 = 13 then if w64 p1 < w64 p3 then some 0 else some 1 else if w32 p0 = 14 then if w64 p3 < w64 p1 then some 1 else some 0 else if w32 p0 = 15 then some (lAnd p1 p3) else some (lOr p1 p3)
set_option maxRecDepth 100000 in
theorem xu_join_ok {d : Nat} {P : Option Value → pm_H → Prop} {w : pm_H} {p0 : Int} {p1 : Int} {p3 : Int} {o : Int} (hx : xu_join p0 p1 p3 = some o) (kr : P (some (.long (Int64.ofInt o))) w) : wp d 46 0 (lv_args 0 [.int (Int32.ofInt p0), .long (Int64.ofInt p1), .long (Int64.ofInt p3)]) [] w P := by
  show wp _ 46 0 [(0, .int (Int32.ofInt p0)), (1, .long (Int64.ofInt p1)), (3, .long (Int64.ofInt p3))] [] w _
  unfold xu_join at hx
  refine wp_g 1 (pc1 := 1) (lv1 := [(0, .int (Int32.ofInt p0)), (1, .long (Int64.ofInt p1)), (3, .long (Int64.ofInt p3))]) (st1 := [.int (Int32.ofInt p0)]) (w1 := w) rfl ?_
  by_cases h1 : w32 p0 = 5
  · have hx := ite_t h1 hx
    refine wx_sw (dflt := 163) (lo := 5) (hi := 15) (offs := #[59, 63, 67, 71, 85, 99, 111, 123, 135, 147, 159]) (ln := 59) (a := 0) (b := 0) (zz := 0) (tgt := 60) (q := 59) (by decide +kernel) h1 (by decide) (by decide) (by decide) (by decide) ?_
    refine wp_g 3 (pc1 := 63) (lv1 := [(0, .int (Int32.ofInt p0)), (1, .long (Int64.ofInt p1)), (3, .long (Int64.ofInt p3))]) (st1 := [.long (Int64.ofInt (p1 + p3))]) (w1 := w) (by simp only [Int32.ofInt_add, Int32.ofInt_sub, Int32.ofInt_mul, Int32.ofInt_neg, p_and, p_or, p_xor, p_shl, p_shr, p_usr, p_w8, p_c16, p_lI, q_and, q_or, q_shl, q_shr, q_w32, Int64.ofInt_add, Int64.ofInt_sub, Int64.ofInt_mul, p_mx, p_mn, q_mx, q_mn]; rfl) ?_
    refine wp_rt (i := .lreturn) (r := some (.long (Int64.ofInt (p1 + p3)))) (ln := 1) (a := 0) (b := 0) (z := 0) (by decide +kernel) rfl (ret_l (by decide +kernel)) ?_
    cases hx
    exact kr
  have hx := ite_f h1 hx
  by_cases h2 : w32 p0 = 6
  · have hx := ite_t h2 hx
    refine wx_sw (dflt := 163) (lo := 5) (hi := 15) (offs := #[59, 63, 67, 71, 85, 99, 111, 123, 135, 147, 159]) (ln := 59) (a := 0) (b := 0) (zz := 0) (tgt := 64) (q := 63) (by decide +kernel) h2 (by decide) (by decide) (by decide) (by decide) ?_
    refine wp_g 3 (pc1 := 67) (lv1 := [(0, .int (Int32.ofInt p0)), (1, .long (Int64.ofInt p1)), (3, .long (Int64.ofInt p3))]) (st1 := [.long (Int64.ofInt (p1 - p3))]) (w1 := w) (by simp only [Int32.ofInt_add, Int32.ofInt_sub, Int32.ofInt_mul, Int32.ofInt_neg, p_and, p_or, p_xor, p_shl, p_shr, p_usr, p_w8, p_c16, p_lI, q_and, q_or, q_shl, q_shr, q_w32, Int64.ofInt_add, Int64.ofInt_sub, Int64.ofInt_mul, p_mx, p_mn, q_mx, q_mn]; rfl) ?_
    refine wp_rt (i := .lreturn) (r := some (.long (Int64.ofInt (p1 - p3)))) (ln := 1) (a := 0) (b := 0) (z := 0) (by decide +kernel) rfl (ret_l (by decide +kernel)) ?_
    cases hx
    exact kr
  have hx := ite_f h2 hx
  by_cases h3 : w32 p0 = 7
  · have hx := ite_t h3 hx
    refine wx_sw (dflt := 163) (lo := 5) (hi := 15) (offs := #[59, 63, 67, 71, 85, 99, 111, 123, 135, 147, 159]) (ln := 59) (a := 0) (b := 0) (zz := 0) (tgt := 68) (q := 67) (by decide +kernel) h3 (by decide) (by decide) (by decide) (by decide) ?_
    refine wp_g 3 (pc1 := 71) (lv1 := [(0, .int (Int32.ofInt p0)), (1, .long (Int64.ofInt p1)), (3, .long (Int64.ofInt p3))]) (st1 := [.long (Int64.ofInt (p1 * p3))]) (w1 := w) (by simp only [Int32.ofInt_add, Int32.ofInt_sub, Int32.ofInt_mul, Int32.ofInt_neg, p_and, p_or, p_xor, p_shl, p_shr, p_usr, p_w8, p_c16, p_lI, q_and, q_or, q_shl, q_shr, q_w32, Int64.ofInt_add, Int64.ofInt_sub, Int64.ofInt_mul, p_mx, p_mn, q_mx, q_mn]; rfl) ?_
    refine wp_rt (i := .lreturn) (r := some (.long (Int64.ofInt (p1 * p3)))) (ln := 1) (a := 0) (b := 0) (z := 0) (by decide +kernel) rfl (ret_l (by decide +kernel)) ?_
    cases hx
    exact kr
  have hx := ite_f h3 hx
  by_cases h4 : w32 p0 = 8
  · have hx := ite_t h4 hx
    refine wx_sw (dflt := 163) (lo := 5) (hi := 15) (offs := #[59, 63, 67, 71, 85, 99, 111, 123, 135, 147, 159]) (ln := 59) (a := 0) (b := 0) (zz := 0) (tgt := 72) (q := 71) (by decide +kernel) h4 (by decide) (by decide) (by decide) (by decide) ?_
    refine wp_g 3 (pc1 := 75) (lv1 := [(0, .int (Int32.ofInt p0)), (1, .long (Int64.ofInt p1)), (3, .long (Int64.ofInt p3))]) (st1 := [.int (lg_cmp (Int64.ofInt p3) (Int64.ofInt 0))]) (w1 := w) rfl ?_
    refine wl_ne (oo := 7) (ln := 3) (a := 82) (b := 0) (zz := 0) (by decide +kernel) (fun h5 => ?_) (fun h5 => ?_)
    · have hx := ite_f h5 hx
      refine wp_g 2 (pc1 := 84) (lv1 := [(0, .int (Int32.ofInt p0)), (1, .long (Int64.ofInt p1)), (3, .long (Int64.ofInt p3))]) (st1 := [.long (Int64.ofInt p3), .long (Int64.ofInt p1)]) (w1 := w) rfl ?_
      obtain ⟨h6, hx⟩ := gd hx
      refine wx_ld (ln := 1) (a := 0) (b := 0) (zz := 0) (by decide +kernel) h6 ?_
      refine wp_rt (i := .lreturn) (r := some (.long (Int64.ofInt (lDiv p1 p3)))) (ln := 1) (a := 0) (b := 0) (z := 0) (by decide +kernel) rfl (ret_l (by decide +kernel)) ?_
      cases hx
      exact kr
    · have hx := ite_t h5 hx
      refine wp_g 2 (pc1 := 85) (lv1 := [(0, .int (Int32.ofInt p0)), (1, .long (Int64.ofInt p1)), (3, .long (Int64.ofInt p3))]) (st1 := [.long (Int64.ofInt 0)]) (w1 := w) rfl ?_
      refine wp_rt (i := .lreturn) (r := some (.long (Int64.ofInt 0))) (ln := 1) (a := 0) (b := 0) (z := 0) (by decide +kernel) rfl (ret_l (by decide +kernel)) ?_
      cases hx
      exact kr
  have hx := ite_f h4 hx
  by_cases h7 : w32 p0 = 9
  · have hx := ite_t h7 hx
    refine wx_sw (dflt := 163) (lo := 5) (hi := 15) (offs := #[59, 63, 67, 71, 85, 99, 111, 123, 135, 147, 159]) (ln := 59) (a := 0) (b := 0) (zz := 0) (tgt := 86) (q := 85) (by decide +kernel) h7 (by decide) (by decide) (by decide) (by decide) ?_
    refine wp_g 3 (pc1 := 89) (lv1 := [(0, .int (Int32.ofInt p0)), (1, .long (Int64.ofInt p1)), (3, .long (Int64.ofInt p3))]) (st1 := [.int (lg_cmp (Int64.ofInt p3) (Int64.ofInt 0))]) (w1 := w) rfl ?_
    refine wl_ne (oo := 7) (ln := 3) (a := 96) (b := 0) (zz := 0) (by decide +kernel) (fun h8 => ?_) (fun h8 => ?_)
    · have hx := ite_f h8 hx
      refine wp_g 2 (pc1 := 98) (lv1 := [(0, .int (Int32.ofInt p0)), (1, .long (Int64.ofInt p1)), (3, .long (Int64.ofInt p3))]) (st1 := [.long (Int64.ofInt p3), .long (Int64.ofInt p1)]) (w1 := w) rfl ?_
      obtain ⟨h9, hx⟩ := gd hx
      refine wx_lr (ln := 1) (a := 0) (b := 0) (zz := 0) (by decide +kernel) h9 ?_
      refine wp_rt (i := .lreturn) (r := some (.long (Int64.ofInt (lRem p1 p3)))) (ln := 1) (a := 0) (b := 0) (z := 0) (by decide +kernel) rfl (ret_l (by decide +kernel)) ?_
      cases hx
      exact kr
    · have hx := ite_t h8 hx
      refine wp_g 2 (pc1 := 99) (lv1 := [(0, .int (Int32.ofInt p0)), (1, .long (Int64.ofInt p1)), (3, .long (Int64.ofInt p3))]) (st1 := [.long (Int64.ofInt 0)]) (w1 := w) rfl ?_
      refine wp_rt (i := .lreturn) (r := some (.long (Int64.ofInt 0))) (ln := 1) (a := 0) (b := 0) (z := 0) (by decide +kernel) rfl (ret_l (by decide +kernel)) ?_
      cases hx
      exact kr
  have hx := ite_f h7 hx
  by_cases h10 : w32 p0 = 10
  · have hx := ite_t h10 hx
    refine wx_sw (dflt := 163) (lo := 5) (hi := 15) (offs := #[59, 63, 67, 71, 85, 99, 111, 123, 135, 147, 159]) (ln := 59) (a := 0) (b := 0) (zz := 0) (tgt := 100) (q := 99) (by decide +kernel) h10 (by decide) (by decide) (by decide) (by decide) ?_
    refine wp_g 3 (pc1 := 103) (lv1 := [(0, .int (Int32.ofInt p0)), (1, .long (Int64.ofInt p1)), (3, .long (Int64.ofInt p3))]) (st1 := [.int (lg_cmp (Int64.ofInt p1) (Int64.ofInt p3))]) (w1 := w) rfl ?_
    refine wl_ge (oo := 7) (ln := 3) (a := 110) (b := 0) (zz := 0) (by decide +kernel) (fun h11 => ?_) (fun h11 => ?_)
    · have hx := ite_f h11 hx
      refine wp_g 1 (pc1 := 111) (lv1 := [(0, .int (Int32.ofInt p0)), (1, .long (Int64.ofInt p1)), (3, .long (Int64.ofInt p3))]) (st1 := [.long (Int64.ofInt 0)]) (w1 := w) rfl ?_
      refine wp_rt (i := .lreturn) (r := some (.long (Int64.ofInt 0))) (ln := 1) (a := 0) (b := 0) (z := 0) (by decide +kernel) rfl (ret_l (by decide +kernel)) ?_
      cases hx
      exact kr
    · have hx := ite_t h11 hx
      refine wp_g 2 (pc1 := 111) (lv1 := [(0, .int (Int32.ofInt p0)), (1, .long (Int64.ofInt p1)), (3, .long (Int64.ofInt p3))]) (st1 := [.long (Int64.ofInt 1)]) (w1 := w) rfl ?_
      refine wp_rt (i := .lreturn) (r := some (.long (Int64.ofInt 1))) (ln := 1) (a := 0) (b := 0) (z := 0) (by decide +kernel) rfl (ret_l (by decide +kernel)) ?_
      cases hx
      exact kr
  have hx := ite_f h10 hx
  by_cases h12 : w32 p0 = 11
  · have hx := ite_t h12 hx
    refine wx_sw (dflt := 163) (lo := 5) (hi := 15) (offs := #[59, 63, 67, 71, 85, 99, 111, 123, 135, 147, 159]) (ln := 59) (a := 0) (b := 0) (zz := 0) (tgt := 112) (q := 111) (by decide +kernel) h12 (by decide) (by decide) (by decide) (by decide) ?_
    refine wp_g 3 (pc1 := 115) (lv1 := [(0, .int (Int32.ofInt p0)), (1, .long (Int64.ofInt p1)), (3, .long (Int64.ofInt p3))]) (st1 := [.int (lg_cmp (Int64.ofInt p1) (Int64.ofInt p3))]) (w1 := w) rfl ?_
    refine wl_gt (oo := 7) (ln := 3) (a := 122) (b := 0) (zz := 0) (by decide +kernel) (fun h13 => ?_) (fun h13 => ?_)
    · have hx := ite_t h13 hx
      refine wp_g 1 (pc1 := 123) (lv1 := [(0, .int (Int32.ofInt p0)), (1, .long (Int64.ofInt p1)), (3, .long (Int64.ofInt p3))]) (st1 := [.long (Int64.ofInt 0)]) (w1 := w) rfl ?_
      refine wp_rt (i := .lreturn) (r := some (.long (Int64.ofInt 0))) (ln := 1) (a := 0) (b := 0) (z := 0) (by decide +kernel) rfl (ret_l (by decide +kernel)) ?_
      cases hx
      exact kr
    · have hx := ite_f h13 hx
      refine wp_g 2 (pc1 := 123) (lv1 := [(0, .int (Int32.ofInt p0)), (1, .long (Int64.ofInt p1)), (3, .long (Int64.ofInt p3))]) (st1 := [.long (Int64.ofInt 1)]) (w1 := w) rfl ?_
      refine wp_rt (i := .lreturn) (r := some (.long (Int64.ofInt 1))) (ln := 1) (a := 0) (b := 0) (z := 0) (by decide +kernel) rfl (ret_l (by decide +kernel)) ?_
      cases hx
      exact kr
  have hx := ite_f h12 hx
  by_cases h14 : w32 p0 = 12
  · have hx := ite_t h14 hx
    refine wx_sw (dflt := 163) (lo := 5) (hi := 15) (offs := #[59, 63, 67, 71, 85, 99, 111, 123, 135, 147, 159]) (ln := 59) (a := 0) (b := 0) (zz := 0) (tgt := 124) (q := 123) (by decide +kernel) h14 (by decide) (by decide) (by decide) (by decide) ?_
    refine wp_g 3 (pc1 := 127) (lv1 := [(0, .int (Int32.ofInt p0)), (1, .long (Int64.ofInt p1)), (3, .long (Int64.ofInt p3))]) (st1 := [.int (lg_cmp (Int64.ofInt p1) (Int64.ofInt p3))]) (w1 := w) rfl ?_
    refine wl_ne (oo := 7) (ln := 3) (a := 134) (b := 0) (zz := 0) (by decide +kernel) (fun h15 => ?_) (fun h15 => ?_)
    · have hx := ite_f h15 hx
      refine wp_g 1 (pc1 := 135) (lv1 := [(0, .int (Int32.ofInt p0)), (1, .long (Int64.ofInt p1)), (3, .long (Int64.ofInt p3))]) (st1 := [.long (Int64.ofInt 0)]) (w1 := w) rfl ?_
      refine wp_rt (i := .lreturn) (r := some (.long (Int64.ofInt 0))) (ln := 1) (a := 0) (b := 0) (z := 0) (by decide +kernel) rfl (ret_l (by decide +kernel)) ?_
      cases hx
      exact kr
    · have hx := ite_t h15 hx
      refine wp_g 2 (pc1 := 135) (lv1 := [(0, .int (Int32.ofInt p0)), (1, .long (Int64.ofInt p1)), (3, .long (Int64.ofInt p3))]) (st1 := [.long (Int64.ofInt 1)]) (w1 := w) rfl ?_
      refine wp_rt (i := .lreturn) (r := some (.long (Int64.ofInt 1))) (ln := 1) (a := 0) (b := 0) (z := 0) (by decide +kernel) rfl (ret_l (by decide +kernel)) ?_
      cases hx
      exact kr
  have hx := ite_f h14 hx
  by_cases h16 : w32 p0 = 13
  · have hx := ite_t h16 hx
    refine wx_sw (dflt := 163) (lo := 5) (hi := 15) (offs := #[59, 63, 67, 71, 85, 99, 111, 123, 135, 147, 159]) (ln := 59) (a := 0) (b := 0) (zz := 0) (tgt := 136) (q := 135) (by decide +kernel) h16 (by decide) (by decide) (by decide) (by decide) ?_
    refine wp_g 3 (pc1 := 139) (lv1 := [(0, .int (Int32.ofInt p0)), (1, .long (Int64.ofInt p1)), (3, .long (Int64.ofInt p3))]) (st1 := [.int (lg_cmp (Int64.ofInt p1) (Int64.ofInt p3))]) (w1 := w) rfl ?_
    refine wl_lt (oo := 7) (ln := 3) (a := 146) (b := 0) (zz := 0) (by decide +kernel) (fun h17 => ?_) (fun h17 => ?_)
    · have hx := ite_t h17 hx
      refine wp_g 1 (pc1 := 147) (lv1 := [(0, .int (Int32.ofInt p0)), (1, .long (Int64.ofInt p1)), (3, .long (Int64.ofInt p3))]) (st1 := [.long (Int64.ofInt 0)]) (w1 := w) rfl ?_
      refine wp_rt (i := .lreturn) (r := some (.long (Int64.ofInt 0))) (ln := 1) (a := 0) (b := 0) (z := 0) (by decide +kernel) rfl (ret_l (by decide +kernel)) ?_
      cases hx
      exact kr
    · have hx := ite_f h17 hx
      refine wp_g 2 (pc1 := 147) (lv1 := [(0, .int (Int32.ofInt p0)), (1, .long (Int64.ofInt p1)), (3, .long (Int64.ofInt p3))]) (st1 := [.long (Int64.ofInt 1)]) (w1 := w) rfl ?_
      refine wp_rt (i := .lreturn) (r := some (.long (Int64.ofInt 1))) (ln := 1) (a := 0) (b := 0) (z := 0) (by decide +kernel) rfl (ret_l (by decide +kernel)) ?_
      cases hx
      exact kr
  have hx := ite_f h16 hx
  by_cases h18 : w32 p0 = 14
  · have hx := ite_t h18 hx
    refine wx_sw (dflt := 163) (lo := 5) (hi := 15) (offs := #[59, 63, 67, 71, 85, 99, 111, 123, 135, 147, 159]) (ln := 59) (a := 0) (b := 0) (zz := 0) (tgt := 148) (q := 147) (by decide +kernel) h18 (by decide) (by decide) (by decide) (by decide) ?_
    refine wp_g 3 (pc1 := 151) (lv1 := [(0, .int (Int32.ofInt p0)), (1, .long (Int64.ofInt p1)), (3, .long (Int64.ofInt p3))]) (st1 := [.int (lg_cmp (Int64.ofInt p1) (Int64.ofInt p3))]) (w1 := w) rfl ?_
    refine wl_le (oo := 7) (ln := 3) (a := 158) (b := 0) (zz := 0) (by decide +kernel) (fun h19 => ?_) (fun h19 => ?_)
    · have hx := ite_f h19 hx
      refine wp_g 1 (pc1 := 159) (lv1 := [(0, .int (Int32.ofInt p0)), (1, .long (Int64.ofInt p1)), (3, .long (Int64.ofInt p3))]) (st1 := [.long (Int64.ofInt 0)]) (w1 := w) rfl ?_
      refine wp_rt (i := .lreturn) (r := some (.long (Int64.ofInt 0))) (ln := 1) (a := 0) (b := 0) (z := 0) (by decide +kernel) rfl (ret_l (by decide +kernel)) ?_
      cases hx
      exact kr
    · have hx := ite_t h19 hx
      refine wp_g 2 (pc1 := 159) (lv1 := [(0, .int (Int32.ofInt p0)), (1, .long (Int64.ofInt p1)), (3, .long (Int64.ofInt p3))]) (st1 := [.long (Int64.ofInt 1)]) (w1 := w) rfl ?_
      refine wp_rt (i := .lreturn) (r := some (.long (Int64.ofInt 1))) (ln := 1) (a := 0) (b := 0) (z := 0) (by decide +kernel) rfl (ret_l (by decide +kernel)) ?_
      cases hx
      exact kr
  have hx := ite_f h18 hx
  by_cases h20 : w32 p0 = 15
  · have hx := ite_t h20 hx
    refine wx_sw (dflt := 163) (lo := 5) (hi := 15) (offs := #[59, 63, 67, 71, 85, 99, 111, 123, 135, 147, 159]) (ln := 59) (a := 0) (b := 0) (zz := 0) (tgt := 160) (q := 159) (by decide +kernel) h20 (by decide) (by decide) (by decide) (by decide) ?_
    refine wp_g 3 (pc1 := 163) (lv1 := [(0, .int (Int32.ofInt p0)), (1, .long (Int64.ofInt p1)), (3, .long (Int64.ofInt p3))]) (st1 := [.long (Int64.ofInt (lAnd p1 p3))]) (w1 := w) (by simp only [Int32.ofInt_add, Int32.ofInt_sub, Int32.ofInt_mul, Int32.ofInt_neg, p_and, p_or, p_xor, p_shl, p_shr, p_usr, p_w8, p_c16, p_lI, q_and, q_or, q_shl, q_shr, q_w32, Int64.ofInt_add, Int64.ofInt_sub, Int64.ofInt_mul, p_mx, p_mn, q_mx, q_mn]; rfl) ?_
    refine wp_rt (i := .lreturn) (r := some (.long (Int64.ofInt (lAnd p1 p3)))) (ln := 1) (a := 0) (b := 0) (z := 0) (by decide +kernel) rfl (ret_l (by decide +kernel)) ?_
    cases hx
    exact kr
  have hx := ite_f h20 hx
  refine wx_sd (dflt := 163) (lo := 5) (hi := 15) (offs := #[59, 63, 67, 71, 85, 99, 111, 123, 135, 147, 159]) (ln := 59) (a := 0) (b := 0) (zz := 0) (tgt := 164) (by decide +kernel) (by omega) (by decide) ?_
  refine wp_g 3 (pc1 := 167) (lv1 := [(0, .int (Int32.ofInt p0)), (1, .long (Int64.ofInt p1)), (3, .long (Int64.ofInt p3))]) (st1 := [.long (Int64.ofInt (lOr p1 p3))]) (w1 := w) (by simp only [Int32.ofInt_add, Int32.ofInt_sub, Int32.ofInt_mul, Int32.ofInt_neg, p_and, p_or, p_xor, p_shl, p_shr, p_usr, p_w8, p_c16, p_lI, q_and, q_or, q_shl, q_shr, q_w32, Int64.ofInt_add, Int64.ofInt_sub, Int64.ofInt_mul, p_mx, p_mn, q_mx, q_mn]; rfl) ?_
  refine wp_rt (i := .lreturn) (r := some (.long (Int64.ofInt (lOr p1 p3)))) (ln := 1) (a := 0) (b := 0) (z := 0) (by decide +kernel) rfl (ret_l (by decide +kernel)) ?_
  cases hx
  exact kr
noncomputable def xu_sumFor_b5 (ln : Nat → Nat) (rs : Nat → Int) (s : Hp) (a0 : Nat) (x3 : Int) (x4 : Int) : Option ((Int × Int × Hp) ⊕ ((Int × Int × Hp) ⊕ (Int × Hp))) :=
  if w32 x4 < w32 ((ln a0 : Nat) : Int) then (ix (ln a0) x4).bind fun i2 => if w32 1 < w32 (bAnd (s (a0 + 1) i2) 31) then if w32 x3 < w32 1 then some (.inr (.inr (0, s))) else if w32 32 < w32 x3 then some (.inr (.inr (0, s))) else if w32 (bAnd (s (a0 + 1) i2) 31) = w32 3 then (ix 32 (x3 - 1)).bind fun i34 => some (.inr (.inr (s 53 i34, s))) else if w32 (bAnd (s (a0 + 1) i2) 31) = w32 2 then (ix 32 (x3 - 1)).bind fun i28 => (some (uh s 53 i28 (1 - (s 53 i28)))).bind fun s30 => some (.inl (x3, x4 + 1, s30)) else if w32 x3 < w32 2 then some (.inr (.inr (0, s))) else if w32 (bAnd (s (a0 + 1) i2) 31) = w32 4 then (ix 32 (x3 - 1)).bind fun i23 => if w64 (s 53 i23) = w64 0 then some (.inl (x3 + (-2), x4 + 1, s)) else (ix 32 (x3 - 2)).bind fun i26 => some (.inr (.inr (s 53 i26, s))) else (ix 32 ((x3 + (-1)) - 1)).bind fun i11 => (ix 32 (x3 + (-1))).bind fun i13 => (xu_join (bAnd (s (a0 + 1) i2) 31) (s 53 i11) (s 53 i13)).bind fun o15 => (some (uh s 53 i11 o15)).bind fun s19 => some (.inl (x3 + (-1), x4 + 1, s19)) else if w32 x3 < w32 32 then if w32 (bShr (s (a0 + 1) i2) 5) < 0 then some (.inr (.inr (0, s))) else if w32 (bAnd (s (a0 + 1) i2) 31) = 0 then (ix 32 x3).bind fun i49 => (some (uh s 53 i49 (w32 (bShr (s (a0 + 1) i2) 5)))).bind fun s51 => some (.inl (x3 + 1, x4 + 1, s51)) else (xu_wordAt s (bShr (s (a0 + 1) i2) 5)).bind fun o39 => (ix 32 x3).bind fun i43 => (some (uh s 53 i43 o39)).bind fun s45 => some (.inl (x3 + 1, x4 + 1, s45)) else some (.inr (.inr (0, s))) else some (.inr (.inl (x3, x4, s)))
set_option maxRecDepth 100000 in
theorem xu_sumFor_b5_ok {d : Nat} {P : Option Value → pm_H → Prop} {w : pm_H} {sh : Shp} {w0 : pm_H} {s : Hp} (hS : St sh) {ln : Nat → Nat} {rs : Nat → Int} (hG : ∀ i, okR ln sh (rs i)) {a0 : Nat} (ca0 : okU ln sh a0) {x3 : Int} {x4 : Int} (h : Rw sh w0 s w) {o : ((Int × Int × Hp) ⊕ ((Int × Int × Hp) ⊕ (Int × Hp)))} (hx : xu_sumFor_b5 ln rs s a0 x3 x4 = some o) (kn : ∀ (q : Int × Int × Hp) w1, o = .inl q → Rw sh w0 q.2.2 w1 → wp (d + 1) 44 5 [(0, .ref a0), (1, .ref 52), (2, .ref 53), (3, .int (Int32.ofInt q.1)), (4, .int (Int32.ofInt q.2.1))] [] w1 P) (kc : ∀ (r : ((Int × Int × Hp) ⊕ (Int × Hp))), o = .inr r → ((∀ q1 w1, r = .inl q1 → Rw sh w0 q1.2.2 w1 → wp (d + 1) 44 191 [(0, .ref a0), (1, .ref 52), (2, .ref 53), (3, .int (Int32.ofInt q1.1)), (4, .int (Int32.ofInt q1.2.1))] [] w1 P) ∧ (∀ v1 w1, r = .inr v1 → Rw sh w0 v1.2 w1 → P (some (.long (Int64.ofInt v1.1))) w1))) : wp (d + 1) 44 5 [(0, .ref a0), (1, .ref 52), (2, .ref 53), (3, .int (Int32.ofInt x3)), (4, .int (Int32.ofInt x4))] [] w P := by
  unfold xu_sumFor_b5 at hx
  refine wp_g 2 (pc1 := 8) (lv1 := [(0, .ref a0), (1, .ref 52), (2, .ref 53), (3, .int (Int32.ofInt x3)), (4, .int (Int32.ofInt x4))]) (st1 := [.ref a0, .int (Int32.ofInt x4)]) (w1 := w) rfl ?_
  refine wx_gr (o := 1) (kf := 18) (ln := 3) (ci := 5) (b := 0) (zz := 0) (x := a0) (by decide +kernel) h ca0.1 rfl ?_
  show wp _ 44 11 [(0, .ref a0), (1, .ref 52), (2, .ref 53), (3, .int (Int32.ofInt x3)), (4, .int (Int32.ofInt x4))] [.ref (a0 + 1), .int (Int32.ofInt x4)] w _
  refine wx_ln (n := ln a0) (t := 0) (ln := 1) (a := 0) (b := 0) (zz := 0) (by decide +kernel) h ca0.2 ?_
  show wp _ 44 12 [(0, .ref a0), (1, .ref 52), (2, .ref 53), (3, .int (Int32.ofInt x3)), (4, .int (Int32.ofInt x4))] [.int (Int32.ofInt ((ln a0 : Nat) : Int)), .int (Int32.ofInt x4)] w _
  refine wx_ge (oo := 179) (ln := 3) (a := 191) (b := 0) (zz := 0) (by decide +kernel) (fun h1 => ?_) (fun h1 => ?_)
  · have hx := ite_f h1 hx
    cases hx
    exact (kc _ rfl).1 _ _ rfl h
  · have hx := ite_t h1 hx
    refine wp_g 1 (pc1 := 16) (lv1 := [(0, .ref a0), (1, .ref 52), (2, .ref 53), (3, .int (Int32.ofInt x3)), (4, .int (Int32.ofInt x4))]) (st1 := [.ref a0]) (w1 := w) rfl ?_
    refine wx_gr (o := 1) (kf := 18) (ln := 3) (ci := 5) (b := 0) (zz := 0) (x := a0) (by decide +kernel) h ca0.1 rfl ?_
    show wp _ 44 19 [(0, .ref a0), (1, .ref 52), (2, .ref 53), (3, .int (Int32.ofInt x3)), (4, .int (Int32.ofInt x4))] [.ref (a0 + 1)] w _
    refine wp_g 1 (pc1 := 21) (lv1 := [(0, .ref a0), (1, .ref 52), (2, .ref 53), (3, .int (Int32.ofInt x3)), (4, .int (Int32.ofInt x4))]) (st1 := [.int (Int32.ofInt x4), .ref (a0 + 1)]) (w1 := w) rfl ?_
    obtain ⟨i2, e3, hx⟩ := bd hx
    refine wx_ra (x := (a0 + 1)) (n := (ln a0)) (ln := 1) (a := 0) (b := 0) (zz := 0) (by decide +kernel) h ca0.2 e3 ?_
    show wp _ 44 22 [(0, .ref a0), (1, .ref 52), (2, .ref 53), (3, .int (Int32.ofInt x3)), (4, .int (Int32.ofInt x4))] [.int (Int32.ofInt (s (a0 + 1) i2))] w _
    refine wp_g 4 (pc1 := 28) (lv1 := [(5, .int (Int32.ofInt (bAnd (s (a0 + 1) i2) 31))), (0, .ref a0), (1, .ref 52), (2, .ref 53), (3, .int (Int32.ofInt x3)), (4, .int (Int32.ofInt x4))]) (st1 := [.ref a0]) (w1 := w) (by simp only [Int32.ofInt_add, Int32.ofInt_sub, Int32.ofInt_mul, Int32.ofInt_neg, p_and, p_or, p_xor, p_shl, p_shr, p_usr, p_w8, p_c16, p_lI, q_and, q_or, q_shl, q_shr, q_w32, Int64.ofInt_add, Int64.ofInt_sub, Int64.ofInt_mul, p_mx, p_mn, q_mx, q_mn]; rfl) ?_
    refine wx_gr (o := 1) (kf := 18) (ln := 3) (ci := 5) (b := 0) (zz := 0) (x := a0) (by decide +kernel) h ca0.1 rfl ?_
    show wp _ 44 31 [(5, .int (Int32.ofInt (bAnd (s (a0 + 1) i2) 31))), (0, .ref a0), (1, .ref 52), (2, .ref 53), (3, .int (Int32.ofInt x3)), (4, .int (Int32.ofInt x4))] [.ref (a0 + 1)] w _
    refine wp_g 1 (pc1 := 33) (lv1 := [(5, .int (Int32.ofInt (bAnd (s (a0 + 1) i2) 31))), (0, .ref a0), (1, .ref 52), (2, .ref 53), (3, .int (Int32.ofInt x3)), (4, .int (Int32.ofInt x4))]) (st1 := [.int (Int32.ofInt x4), .ref (a0 + 1)]) (w1 := w) rfl ?_
    refine wx_ra (x := (a0 + 1)) (n := (ln a0)) (ln := 1) (a := 0) (b := 0) (zz := 0) (by decide +kernel) h ca0.2 e3 ?_
    show wp _ 44 34 [(5, .int (Int32.ofInt (bAnd (s (a0 + 1) i2) 31))), (0, .ref a0), (1, .ref 52), (2, .ref 53), (3, .int (Int32.ofInt x3)), (4, .int (Int32.ofInt x4))] [.int (Int32.ofInt (s (a0 + 1) i2))] w _
    refine wp_g 5 (pc1 := 41) (lv1 := [(6, .int (Int32.ofInt (bShr (s (a0 + 1) i2) 5))), (5, .int (Int32.ofInt (bAnd (s (a0 + 1) i2) 31))), (0, .ref a0), (1, .ref 52), (2, .ref 53), (3, .int (Int32.ofInt x3)), (4, .int (Int32.ofInt x4))]) (st1 := [.int (Int32.ofInt 1), .int (Int32.ofInt (bAnd (s (a0 + 1) i2) 31))]) (w1 := w) (by simp only [Int32.ofInt_add, Int32.ofInt_sub, Int32.ofInt_mul, Int32.ofInt_neg, p_and, p_or, p_xor, p_shl, p_shr, p_usr, p_w8, p_c16, p_lI, q_and, q_or, q_shl, q_shr, q_w32, Int64.ofInt_add, Int64.ofInt_sub, Int64.ofInt_mul, p_mx, p_mn, q_mx, q_mn]; rfl) ?_
    refine wx_gt (oo := 42) (ln := 3) (a := 83) (b := 0) (zz := 0) (by decide +kernel) (fun h4 => ?_) (fun h4 => ?_)
    · have hx := ite_t h4 hx
      refine wp_g 2 (pc1 := 85) (lv1 := [(6, .int (Int32.ofInt (bShr (s (a0 + 1) i2) 5))), (5, .int (Int32.ofInt (bAnd (s (a0 + 1) i2) 31))), (0, .ref a0), (1, .ref 52), (2, .ref 53), (3, .int (Int32.ofInt x3)), (4, .int (Int32.ofInt x4))]) (st1 := [.int (Int32.ofInt 1), .int (Int32.ofInt x3)]) (w1 := w) rfl ?_
      refine wx_lt (oo := 9) (ln := 3) (a := 94) (b := 0) (zz := 0) (by decide +kernel) (fun h5 => ?_) (fun h5 => ?_)
      · have hx := ite_t h5 hx
        refine wp_g 1 (pc1 := 95) (lv1 := [(6, .int (Int32.ofInt (bShr (s (a0 + 1) i2) 5))), (5, .int (Int32.ofInt (bAnd (s (a0 + 1) i2) 31))), (0, .ref a0), (1, .ref 52), (2, .ref 53), (3, .int (Int32.ofInt x3)), (4, .int (Int32.ofInt x4))]) (st1 := [.long (Int64.ofInt 0)]) (w1 := w) rfl ?_
        refine wp_rt (i := .lreturn) (r := some (.long (Int64.ofInt 0))) (ln := 1) (a := 0) (b := 0) (z := 0) (by decide +kernel) rfl (ret_l (by decide +kernel)) ?_
        cases hx
        exact (kc _ rfl).2 _ _ rfl h
      · have hx := ite_f h5 hx
        refine wp_g 2 (pc1 := 90) (lv1 := [(6, .int (Int32.ofInt (bShr (s (a0 + 1) i2) 5))), (5, .int (Int32.ofInt (bAnd (s (a0 + 1) i2) 31))), (0, .ref a0), (1, .ref 52), (2, .ref 53), (3, .int (Int32.ofInt x3)), (4, .int (Int32.ofInt x4))]) (st1 := [.ref 53, .int (Int32.ofInt x3)]) (w1 := w) rfl ?_
        refine wx_ln (n := 32) (t := 1) (ln := 1) (a := 0) (b := 0) (zz := 0) (by decide +kernel) h (hS _ _ sx_53) ?_
        show wp _ 44 91 [(6, .int (Int32.ofInt (bShr (s (a0 + 1) i2) 5))), (5, .int (Int32.ofInt (bAnd (s (a0 + 1) i2) 31))), (0, .ref a0), (1, .ref 52), (2, .ref 53), (3, .int (Int32.ofInt x3)), (4, .int (Int32.ofInt x4))] [.int (Int32.ofInt 32), .int (Int32.ofInt x3)] w _
        refine wx_le (oo := 5) (ln := 3) (a := 96) (b := 0) (zz := 0) (by decide +kernel) (fun h6 => ?_) (fun h6 => ?_)
        · have hx := ite_f h6 hx
          refine wp_g 2 (pc1 := 99) (lv1 := [(6, .int (Int32.ofInt (bShr (s (a0 + 1) i2) 5))), (5, .int (Int32.ofInt (bAnd (s (a0 + 1) i2) 31))), (0, .ref a0), (1, .ref 52), (2, .ref 53), (3, .int (Int32.ofInt x3)), (4, .int (Int32.ofInt x4))]) (st1 := [.int (Int32.ofInt 3), .int (Int32.ofInt (bAnd (s (a0 + 1) i2) 31))]) (w1 := w) rfl ?_
          refine wx_ne (oo := 9) (ln := 3) (a := 108) (b := 0) (zz := 0) (by decide +kernel) (fun h7 => ?_) (fun h7 => ?_)
          · have hx := ite_f h7 hx
            refine wp_g 2 (pc1 := 111) (lv1 := [(6, .int (Int32.ofInt (bShr (s (a0 + 1) i2) 5))), (5, .int (Int32.ofInt (bAnd (s (a0 + 1) i2) 31))), (0, .ref a0), (1, .ref 52), (2, .ref 53), (3, .int (Int32.ofInt x3)), (4, .int (Int32.ofInt x4))]) (st1 := [.int (Int32.ofInt 2), .int (Int32.ofInt (bAnd (s (a0 + 1) i2) 31))]) (w1 := w) rfl ?_
            refine wx_ne (oo := 18) (ln := 3) (a := 129) (b := 0) (zz := 0) (by decide +kernel) (fun h8 => ?_) (fun h8 => ?_)
            · have hx := ite_f h8 hx
              refine wp_g 2 (pc1 := 131) (lv1 := [(6, .int (Int32.ofInt (bShr (s (a0 + 1) i2) 5))), (5, .int (Int32.ofInt (bAnd (s (a0 + 1) i2) 31))), (0, .ref a0), (1, .ref 52), (2, .ref 53), (3, .int (Int32.ofInt x3)), (4, .int (Int32.ofInt x4))]) (st1 := [.int (Int32.ofInt 2), .int (Int32.ofInt x3)]) (w1 := w) rfl ?_
              refine wx_ge (oo := 5) (ln := 3) (a := 136) (b := 0) (zz := 0) (by decide +kernel) (fun h9 => ?_) (fun h9 => ?_)
              · have hx := ite_f h9 hx
                refine wp_g 2 (pc1 := 139) (lv1 := [(6, .int (Int32.ofInt (bShr (s (a0 + 1) i2) 5))), (5, .int (Int32.ofInt (bAnd (s (a0 + 1) i2) 31))), (0, .ref a0), (1, .ref 52), (2, .ref 53), (3, .int (Int32.ofInt x3)), (4, .int (Int32.ofInt x4))]) (st1 := [.int (Int32.ofInt 4), .int (Int32.ofInt (bAnd (s (a0 + 1) i2) 31))]) (w1 := w) rfl ?_
                refine wx_ne (oo := 25) (ln := 3) (a := 164) (b := 0) (zz := 0) (by decide +kernel) (fun h10 => ?_) (fun h10 => ?_)
                · have hx := ite_f h10 hx
                  refine wp_g 10 (pc1 := 177) (lv1 := [(3, .int (Int32.ofInt (x3 + (-1)))), (6, .int (Int32.ofInt (bShr (s (a0 + 1) i2) 5))), (5, .int (Int32.ofInt (bAnd (s (a0 + 1) i2) 31))), (0, .ref a0), (1, .ref 52), (2, .ref 53), (4, .int (Int32.ofInt x4))]) (st1 := [.int (Int32.ofInt ((x3 + (-1)) - 1)), .ref 53, .int (Int32.ofInt (bAnd (s (a0 + 1) i2) 31)), .int (Int32.ofInt ((x3 + (-1)) - 1)), .ref 53]) (w1 := w) (by simp only [Int32.ofInt_add, Int32.ofInt_sub, Int32.ofInt_mul, Int32.ofInt_neg, p_and, p_or, p_xor, p_shl, p_shr, p_usr, p_w8, p_c16, p_lI, q_and, q_or, q_shl, q_shr, q_w32, Int64.ofInt_add, Int64.ofInt_sub, Int64.ofInt_mul, p_mx, p_mn, q_mx, q_mn]; rfl) ?_
                  obtain ⟨i11, e12, hx⟩ := bd hx
                  refine wx_rl (x := 53) (n := 32) (ln := 1) (a := 0) (b := 0) (zz := 0) (by decide +kernel) h (hS _ _ sx_53) e12 ?_
                  show wp _ 44 178 [(3, .int (Int32.ofInt (x3 + (-1)))), (6, .int (Int32.ofInt (bShr (s (a0 + 1) i2) 5))), (5, .int (Int32.ofInt (bAnd (s (a0 + 1) i2) 31))), (0, .ref a0), (1, .ref 52), (2, .ref 53), (4, .int (Int32.ofInt x4))] [.long (Int64.ofInt (s 53 i11)), .int (Int32.ofInt (bAnd (s (a0 + 1) i2) 31)), .int (Int32.ofInt ((x3 + (-1)) - 1)), .ref 53] w _
                  refine wp_g 2 (pc1 := 180) (lv1 := [(3, .int (Int32.ofInt (x3 + (-1)))), (6, .int (Int32.ofInt (bShr (s (a0 + 1) i2) 5))), (5, .int (Int32.ofInt (bAnd (s (a0 + 1) i2) 31))), (0, .ref a0), (1, .ref 52), (2, .ref 53), (4, .int (Int32.ofInt x4))]) (st1 := [.int (Int32.ofInt (x3 + (-1))), .ref 53, .long (Int64.ofInt (s 53 i11)), .int (Int32.ofInt (bAnd (s (a0 + 1) i2) 31)), .int (Int32.ofInt ((x3 + (-1)) - 1)), .ref 53]) (w1 := w) rfl ?_
                  obtain ⟨i13, e14, hx⟩ := bd hx
                  refine wx_rl (x := 53) (n := 32) (ln := 1) (a := 0) (b := 0) (zz := 0) (by decide +kernel) h (hS _ _ sx_53) e14 ?_
                  show wp _ 44 181 [(3, .int (Int32.ofInt (x3 + (-1)))), (6, .int (Int32.ofInt (bShr (s (a0 + 1) i2) 5))), (5, .int (Int32.ofInt (bAnd (s (a0 + 1) i2) 31))), (0, .ref a0), (1, .ref 52), (2, .ref 53), (4, .int (Int32.ofInt x4))] [.long (Int64.ofInt (s 53 i13)), .long (Int64.ofInt (s 53 i11)), .int (Int32.ofInt (bAnd (s (a0 + 1) i2) 31)), .int (Int32.ofInt ((x3 + (-1)) - 1)), .ref 53] w _
                  obtain ⟨o15, e16, hx⟩ := bd hx
                  refine wp_cl [.int (Int32.ofInt (bAnd (s (a0 + 1) i2) 31)), .long (Int64.ofInt (s 53 i11)), .long (Int64.ofInt (s 53 i13))] [.int (Int32.ofInt ((x3 + (-1)) - 1)), .ref 53] (i := .invokestatic 34) (ln := 3) (a := 46) (b := 1) (z := 0) (by decide +kernel) rfl rfl (by decide) rfl (show (3 : Nat) = pm_na 46 by decide +kernel) (Nat.le_of_ble_eq_true rfl) (show (5 : Nat) ≤ pm_n 46 by decide +kernel) (by rw [show pm_k 46 = 1 by decide +kernel]; rfl) (xu_join_ok (d := d) e16 ?_)
                  show wp _ 44 184 [(3, .int (Int32.ofInt (x3 + (-1)))), (6, .int (Int32.ofInt (bShr (s (a0 + 1) i2) 5))), (5, .int (Int32.ofInt (bAnd (s (a0 + 1) i2) 31))), (0, .ref a0), (1, .ref 52), (2, .ref 53), (4, .int (Int32.ofInt x4))] [.long (Int64.ofInt o15), .int (Int32.ofInt ((x3 + (-1)) - 1)), .ref 53] w _
                  obtain ⟨s19, e20, hx⟩ := bd hx
                  refine wx_wl (x := 53) (n := 32) (ln := 1) (a := 0) (b := 0) (zz := 0) (by decide +kernel) h (hS _ _ sx_53) e12 e20 (fun w21 h22 => ?_)
                  refine wp_g 2 (pc1 := 5) (lv1 := [(4, .int (Int32.ofInt (x4 + 1))), (3, .int (Int32.ofInt (x3 + (-1)))), (6, .int (Int32.ofInt (bShr (s (a0 + 1) i2) 5))), (5, .int (Int32.ofInt (bAnd (s (a0 + 1) i2) 31))), (0, .ref a0), (1, .ref 52), (2, .ref 53)]) (st1 := []) (w1 := w21) (by simp only [Int32.ofInt_add, Int32.ofInt_sub, Int32.ofInt_mul, Int32.ofInt_neg, p_and, p_or, p_xor, p_shl, p_shr, p_usr, p_w8, p_c16, p_lI, q_and, q_or, q_shl, q_shr, q_w32, Int64.ofInt_add, Int64.ofInt_sub, Int64.ofInt_mul, p_mx, p_mn, q_mx, q_mn]; rfl) ?_
                  refine wp_lv (lv1 := [(0, .ref a0), (1, .ref 52), (2, .ref 53), (3, .int (Int32.ofInt (x3 + (-1)))), (4, .int (Int32.ofInt (x4 + 1)))]) (lsub_p [4, 5, 6, 1, 0] rfl rfl rfl) ?_
                  cases hx
                  exact kn _ _ rfl h22
                · have hx := ite_t h10 hx
                  refine wp_g 4 (pc1 := 146) (lv1 := [(6, .int (Int32.ofInt (bShr (s (a0 + 1) i2) 5))), (5, .int (Int32.ofInt (bAnd (s (a0 + 1) i2) 31))), (0, .ref a0), (1, .ref 52), (2, .ref 53), (3, .int (Int32.ofInt x3)), (4, .int (Int32.ofInt x4))]) (st1 := [.int (Int32.ofInt (x3 - 1)), .ref 53]) (w1 := w) (by simp only [Int32.ofInt_add, Int32.ofInt_sub, Int32.ofInt_mul, Int32.ofInt_neg, p_and, p_or, p_xor, p_shl, p_shr, p_usr, p_w8, p_c16, p_lI, q_and, q_or, q_shl, q_shr, q_w32, Int64.ofInt_add, Int64.ofInt_sub, Int64.ofInt_mul, p_mx, p_mn, q_mx, q_mn]; rfl) ?_
                  obtain ⟨i23, e24, hx⟩ := bd hx
                  refine wx_rl (x := 53) (n := 32) (ln := 1) (a := 0) (b := 0) (zz := 0) (by decide +kernel) h (hS _ _ sx_53) e24 ?_
                  show wp _ 44 147 [(6, .int (Int32.ofInt (bShr (s (a0 + 1) i2) 5))), (5, .int (Int32.ofInt (bAnd (s (a0 + 1) i2) 31))), (0, .ref a0), (1, .ref 52), (2, .ref 53), (3, .int (Int32.ofInt x3)), (4, .int (Int32.ofInt x4))] [.long (Int64.ofInt (s 53 i23))] w _
                  refine wp_g 2 (pc1 := 149) (lv1 := [(6, .int (Int32.ofInt (bShr (s (a0 + 1) i2) 5))), (5, .int (Int32.ofInt (bAnd (s (a0 + 1) i2) 31))), (0, .ref a0), (1, .ref 52), (2, .ref 53), (3, .int (Int32.ofInt x3)), (4, .int (Int32.ofInt x4))]) (st1 := [.int (lg_cmp (Int64.ofInt (s 53 i23)) (Int64.ofInt 0))]) (w1 := w) rfl ?_
                  refine wl_eq (oo := 9) (ln := 3) (a := 158) (b := 0) (zz := 0) (by decide +kernel) (fun h25 => ?_) (fun h25 => ?_)
                  · have hx := ite_t h25 hx
                    refine wp_g 4 (pc1 := 5) (lv1 := [(4, .int (Int32.ofInt (x4 + 1))), (3, .int (Int32.ofInt (x3 + (-2)))), (6, .int (Int32.ofInt (bShr (s (a0 + 1) i2) 5))), (5, .int (Int32.ofInt (bAnd (s (a0 + 1) i2) 31))), (0, .ref a0), (1, .ref 52), (2, .ref 53)]) (st1 := []) (w1 := w) (by simp only [Int32.ofInt_add, Int32.ofInt_sub, Int32.ofInt_mul, Int32.ofInt_neg, p_and, p_or, p_xor, p_shl, p_shr, p_usr, p_w8, p_c16, p_lI, q_and, q_or, q_shl, q_shr, q_w32, Int64.ofInt_add, Int64.ofInt_sub, Int64.ofInt_mul, p_mx, p_mn, q_mx, q_mn]; rfl) ?_
                    refine wp_lv (lv1 := [(0, .ref a0), (1, .ref 52), (2, .ref 53), (3, .int (Int32.ofInt (x3 + (-2)))), (4, .int (Int32.ofInt (x4 + 1)))]) (lsub_p [4, 5, 6, 1, 0] rfl rfl rfl) ?_
                    cases hx
                    exact kn _ _ rfl h
                  · have hx := ite_f h25 hx
                    refine wp_g 4 (pc1 := 156) (lv1 := [(6, .int (Int32.ofInt (bShr (s (a0 + 1) i2) 5))), (5, .int (Int32.ofInt (bAnd (s (a0 + 1) i2) 31))), (0, .ref a0), (1, .ref 52), (2, .ref 53), (3, .int (Int32.ofInt x3)), (4, .int (Int32.ofInt x4))]) (st1 := [.int (Int32.ofInt (x3 - 2)), .ref 53]) (w1 := w) (by simp only [Int32.ofInt_add, Int32.ofInt_sub, Int32.ofInt_mul, Int32.ofInt_neg, p_and, p_or, p_xor, p_shl, p_shr, p_usr, p_w8, p_c16, p_lI, q_and, q_or, q_shl, q_shr, q_w32, Int64.ofInt_add, Int64.ofInt_sub, Int64.ofInt_mul, p_mx, p_mn, q_mx, q_mn]; rfl) ?_
                    obtain ⟨i26, e27, hx⟩ := bd hx
                    refine wx_rl (x := 53) (n := 32) (ln := 1) (a := 0) (b := 0) (zz := 0) (by decide +kernel) h (hS _ _ sx_53) e27 ?_
                    show wp _ 44 157 [(6, .int (Int32.ofInt (bShr (s (a0 + 1) i2) 5))), (5, .int (Int32.ofInt (bAnd (s (a0 + 1) i2) 31))), (0, .ref a0), (1, .ref 52), (2, .ref 53), (3, .int (Int32.ofInt x3)), (4, .int (Int32.ofInt x4))] [.long (Int64.ofInt (s 53 i26))] w _
                    refine wp_rt (i := .lreturn) (r := some (.long (Int64.ofInt (s 53 i26)))) (ln := 1) (a := 0) (b := 0) (z := 0) (by decide +kernel) rfl (ret_l (by decide +kernel)) ?_
                    cases hx
                    exact (kc _ rfl).2 _ _ rfl h
              · have hx := ite_t h9 hx
                refine wp_g 1 (pc1 := 135) (lv1 := [(6, .int (Int32.ofInt (bShr (s (a0 + 1) i2) 5))), (5, .int (Int32.ofInt (bAnd (s (a0 + 1) i2) 31))), (0, .ref a0), (1, .ref 52), (2, .ref 53), (3, .int (Int32.ofInt x3)), (4, .int (Int32.ofInt x4))]) (st1 := [.long (Int64.ofInt 0)]) (w1 := w) rfl ?_
                refine wp_rt (i := .lreturn) (r := some (.long (Int64.ofInt 0))) (ln := 1) (a := 0) (b := 0) (z := 0) (by decide +kernel) rfl (ret_l (by decide +kernel)) ?_
                cases hx
                exact (kc _ rfl).2 _ _ rfl h
            · have hx := ite_t h8 hx
              refine wp_g 9 (pc1 := 123) (lv1 := [(6, .int (Int32.ofInt (bShr (s (a0 + 1) i2) 5))), (5, .int (Int32.ofInt (bAnd (s (a0 + 1) i2) 31))), (0, .ref a0), (1, .ref 52), (2, .ref 53), (3, .int (Int32.ofInt x3)), (4, .int (Int32.ofInt x4))]) (st1 := [.int (Int32.ofInt (x3 - 1)), .ref 53, .long (Int64.ofInt 1), .int (Int32.ofInt (x3 - 1)), .ref 53]) (w1 := w) (by simp only [Int32.ofInt_add, Int32.ofInt_sub, Int32.ofInt_mul, Int32.ofInt_neg, p_and, p_or, p_xor, p_shl, p_shr, p_usr, p_w8, p_c16, p_lI, q_and, q_or, q_shl, q_shr, q_w32, Int64.ofInt_add, Int64.ofInt_sub, Int64.ofInt_mul, p_mx, p_mn, q_mx, q_mn]; rfl) ?_
              obtain ⟨i28, e29, hx⟩ := bd hx
              refine wx_rl (x := 53) (n := 32) (ln := 1) (a := 0) (b := 0) (zz := 0) (by decide +kernel) h (hS _ _ sx_53) e29 ?_
              show wp _ 44 124 [(6, .int (Int32.ofInt (bShr (s (a0 + 1) i2) 5))), (5, .int (Int32.ofInt (bAnd (s (a0 + 1) i2) 31))), (0, .ref a0), (1, .ref 52), (2, .ref 53), (3, .int (Int32.ofInt x3)), (4, .int (Int32.ofInt x4))] [.long (Int64.ofInt (s 53 i28)), .long (Int64.ofInt 1), .int (Int32.ofInt (x3 - 1)), .ref 53] w _
              refine wp_g 1 (pc1 := 125) (lv1 := [(6, .int (Int32.ofInt (bShr (s (a0 + 1) i2) 5))), (5, .int (Int32.ofInt (bAnd (s (a0 + 1) i2) 31))), (0, .ref a0), (1, .ref 52), (2, .ref 53), (3, .int (Int32.ofInt x3)), (4, .int (Int32.ofInt x4))]) (st1 := [.long (Int64.ofInt (1 - (s 53 i28))), .int (Int32.ofInt (x3 - 1)), .ref 53]) (w1 := w) (by simp only [Int32.ofInt_add, Int32.ofInt_sub, Int32.ofInt_mul, Int32.ofInt_neg, p_and, p_or, p_xor, p_shl, p_shr, p_usr, p_w8, p_c16, p_lI, q_and, q_or, q_shl, q_shr, q_w32, Int64.ofInt_add, Int64.ofInt_sub, Int64.ofInt_mul, p_mx, p_mn, q_mx, q_mn]; rfl) ?_
              obtain ⟨s30, e31, hx⟩ := bd hx
              refine wx_wl (x := 53) (n := 32) (ln := 1) (a := 0) (b := 0) (zz := 0) (by decide +kernel) h (hS _ _ sx_53) e29 e31 (fun w32 h33 => ?_)
              refine wp_g 3 (pc1 := 5) (lv1 := [(4, .int (Int32.ofInt (x4 + 1))), (6, .int (Int32.ofInt (bShr (s (a0 + 1) i2) 5))), (5, .int (Int32.ofInt (bAnd (s (a0 + 1) i2) 31))), (0, .ref a0), (1, .ref 52), (2, .ref 53), (3, .int (Int32.ofInt x3))]) (st1 := []) (w1 := w32) (by simp only [Int32.ofInt_add, Int32.ofInt_sub, Int32.ofInt_mul, Int32.ofInt_neg, p_and, p_or, p_xor, p_shl, p_shr, p_usr, p_w8, p_c16, p_lI, q_and, q_or, q_shl, q_shr, q_w32, Int64.ofInt_add, Int64.ofInt_sub, Int64.ofInt_mul, p_mx, p_mn, q_mx, q_mn]; rfl) ?_
              refine wp_lv (lv1 := [(0, .ref a0), (1, .ref 52), (2, .ref 53), (3, .int (Int32.ofInt x3)), (4, .int (Int32.ofInt (x4 + 1)))]) (lsub_p [3, 4, 5, 6, 0] rfl rfl rfl) ?_
              cases hx
              exact kn _ _ rfl h33
          · have hx := ite_t h7 hx
            refine wp_g 4 (pc1 := 106) (lv1 := [(6, .int (Int32.ofInt (bShr (s (a0 + 1) i2) 5))), (5, .int (Int32.ofInt (bAnd (s (a0 + 1) i2) 31))), (0, .ref a0), (1, .ref 52), (2, .ref 53), (3, .int (Int32.ofInt x3)), (4, .int (Int32.ofInt x4))]) (st1 := [.int (Int32.ofInt (x3 - 1)), .ref 53]) (w1 := w) (by simp only [Int32.ofInt_add, Int32.ofInt_sub, Int32.ofInt_mul, Int32.ofInt_neg, p_and, p_or, p_xor, p_shl, p_shr, p_usr, p_w8, p_c16, p_lI, q_and, q_or, q_shl, q_shr, q_w32, Int64.ofInt_add, Int64.ofInt_sub, Int64.ofInt_mul, p_mx, p_mn, q_mx, q_mn]; rfl) ?_
            obtain ⟨i34, e35, hx⟩ := bd hx
            refine wx_rl (x := 53) (n := 32) (ln := 1) (a := 0) (b := 0) (zz := 0) (by decide +kernel) h (hS _ _ sx_53) e35 ?_
            show wp _ 44 107 [(6, .int (Int32.ofInt (bShr (s (a0 + 1) i2) 5))), (5, .int (Int32.ofInt (bAnd (s (a0 + 1) i2) 31))), (0, .ref a0), (1, .ref 52), (2, .ref 53), (3, .int (Int32.ofInt x3)), (4, .int (Int32.ofInt x4))] [.long (Int64.ofInt (s 53 i34))] w _
            refine wp_rt (i := .lreturn) (r := some (.long (Int64.ofInt (s 53 i34)))) (ln := 1) (a := 0) (b := 0) (z := 0) (by decide +kernel) rfl (ret_l (by decide +kernel)) ?_
            cases hx
            exact (kc _ rfl).2 _ _ rfl h
        · have hx := ite_t h6 hx
          refine wp_g 1 (pc1 := 95) (lv1 := [(6, .int (Int32.ofInt (bShr (s (a0 + 1) i2) 5))), (5, .int (Int32.ofInt (bAnd (s (a0 + 1) i2) 31))), (0, .ref a0), (1, .ref 52), (2, .ref 53), (3, .int (Int32.ofInt x3)), (4, .int (Int32.ofInt x4))]) (st1 := [.long (Int64.ofInt 0)]) (w1 := w) rfl ?_
          refine wp_rt (i := .lreturn) (r := some (.long (Int64.ofInt 0))) (ln := 1) (a := 0) (b := 0) (z := 0) (by decide +kernel) rfl (ret_l (by decide +kernel)) ?_
          cases hx
          exact (kc _ rfl).2 _ _ rfl h
    · have hx := ite_f h4 hx
      refine wp_g 2 (pc1 := 46) (lv1 := [(6, .int (Int32.ofInt (bShr (s (a0 + 1) i2) 5))), (5, .int (Int32.ofInt (bAnd (s (a0 + 1) i2) 31))), (0, .ref a0), (1, .ref 52), (2, .ref 53), (3, .int (Int32.ofInt x3)), (4, .int (Int32.ofInt x4))]) (st1 := [.ref 53, .int (Int32.ofInt x3)]) (w1 := w) rfl ?_
      refine wx_ln (n := 32) (t := 1) (ln := 1) (a := 0) (b := 0) (zz := 0) (by decide +kernel) h (hS _ _ sx_53) ?_
      show wp _ 44 47 [(6, .int (Int32.ofInt (bShr (s (a0 + 1) i2) 5))), (5, .int (Int32.ofInt (bAnd (s (a0 + 1) i2) 31))), (0, .ref a0), (1, .ref 52), (2, .ref 53), (3, .int (Int32.ofInt x3)), (4, .int (Int32.ofInt x4))] [.int (Int32.ofInt 32), .int (Int32.ofInt x3)] w _
      refine wx_ge (oo := 8) (ln := 3) (a := 55) (b := 0) (zz := 0) (by decide +kernel) (fun h36 => ?_) (fun h36 => ?_)
      · have hx := ite_f h36 hx
        refine wp_g 1 (pc1 := 56) (lv1 := [(6, .int (Int32.ofInt (bShr (s (a0 + 1) i2) 5))), (5, .int (Int32.ofInt (bAnd (s (a0 + 1) i2) 31))), (0, .ref a0), (1, .ref 52), (2, .ref 53), (3, .int (Int32.ofInt x3)), (4, .int (Int32.ofInt x4))]) (st1 := [.long (Int64.ofInt 0)]) (w1 := w) rfl ?_
        refine wp_rt (i := .lreturn) (r := some (.long (Int64.ofInt 0))) (ln := 1) (a := 0) (b := 0) (z := 0) (by decide +kernel) rfl (ret_l (by decide +kernel)) ?_
        cases hx
        exact (kc _ rfl).2 _ _ rfl h
      · have hx := ite_t h36 hx
        refine wp_g 1 (pc1 := 52) (lv1 := [(6, .int (Int32.ofInt (bShr (s (a0 + 1) i2) 5))), (5, .int (Int32.ofInt (bAnd (s (a0 + 1) i2) 31))), (0, .ref a0), (1, .ref 52), (2, .ref 53), (3, .int (Int32.ofInt x3)), (4, .int (Int32.ofInt x4))]) (st1 := [.int (Int32.ofInt (bShr (s (a0 + 1) i2) 5))]) (w1 := w) rfl ?_
        refine wz_ge (oo := 5) (ln := 3) (a := 57) (b := 0) (zz := 0) (by decide +kernel) (fun h37 => ?_) (fun h37 => ?_)
        · have hx := ite_f h37 hx
          refine wp_g 3 (pc1 := 61) (lv1 := [(6, .int (Int32.ofInt (bShr (s (a0 + 1) i2) 5))), (5, .int (Int32.ofInt (bAnd (s (a0 + 1) i2) 31))), (0, .ref a0), (1, .ref 52), (2, .ref 53), (3, .int (Int32.ofInt x3)), (4, .int (Int32.ofInt x4))]) (st1 := [.int (Int32.ofInt (bAnd (s (a0 + 1) i2) 31)), .int (Int32.ofInt x3), .ref 53]) (w1 := w) rfl ?_
          refine wz_ne (oo := 9) (ln := 3) (a := 70) (b := 0) (zz := 0) (by decide +kernel) (fun h38 => ?_) (fun h38 => ?_)
          · have hx := ite_f h38 hx
            refine wp_g 2 (pc1 := 73) (lv1 := [(6, .int (Int32.ofInt (bShr (s (a0 + 1) i2) 5))), (5, .int (Int32.ofInt (bAnd (s (a0 + 1) i2) 31))), (0, .ref a0), (1, .ref 52), (2, .ref 53), (3, .int (Int32.ofInt x3)), (4, .int (Int32.ofInt x4))]) (st1 := [.int (Int32.ofInt (bShr (s (a0 + 1) i2) 5)), .ref 52, .int (Int32.ofInt x3), .ref 53]) (w1 := w) rfl ?_
            obtain ⟨o39, e40, hx⟩ := bd hx
            refine wp_cl [.ref 52, .int (Int32.ofInt (bShr (s (a0 + 1) i2) 5))] [.int (Int32.ofInt x3), .ref 53] (i := .invokestatic 30) (ln := 3) (a := 45) (b := 1) (z := 0) (by decide +kernel) rfl rfl (by decide) rfl (show (2 : Nat) = pm_na 45 by decide +kernel) (Nat.le_of_ble_eq_true rfl) (show (2 : Nat) ≤ pm_n 45 by decide +kernel) (by rw [show pm_k 45 = 1 by decide +kernel]; rfl) (xu_wordAt_ok (d := d) hS h e40 ?_)
            show wp _ 44 76 [(6, .int (Int32.ofInt (bShr (s (a0 + 1) i2) 5))), (5, .int (Int32.ofInt (bAnd (s (a0 + 1) i2) 31))), (0, .ref a0), (1, .ref 52), (2, .ref 53), (3, .int (Int32.ofInt x3)), (4, .int (Int32.ofInt x4))] [.long (Int64.ofInt o39), .int (Int32.ofInt x3), .ref 53] w _
            obtain ⟨i43, e44, hx⟩ := bd hx
            obtain ⟨s45, e46, hx⟩ := bd hx
            refine wx_wl (x := 53) (n := 32) (ln := 1) (a := 0) (b := 0) (zz := 0) (by decide +kernel) h (hS _ _ sx_53) e44 e46 (fun w47 h48 => ?_)
            refine wp_g 4 (pc1 := 5) (lv1 := [(4, .int (Int32.ofInt (x4 + 1))), (3, .int (Int32.ofInt (x3 + 1))), (6, .int (Int32.ofInt (bShr (s (a0 + 1) i2) 5))), (5, .int (Int32.ofInt (bAnd (s (a0 + 1) i2) 31))), (0, .ref a0), (1, .ref 52), (2, .ref 53)]) (st1 := []) (w1 := w47) (by simp only [Int32.ofInt_add, Int32.ofInt_sub, Int32.ofInt_mul, Int32.ofInt_neg, p_and, p_or, p_xor, p_shl, p_shr, p_usr, p_w8, p_c16, p_lI, q_and, q_or, q_shl, q_shr, q_w32, Int64.ofInt_add, Int64.ofInt_sub, Int64.ofInt_mul, p_mx, p_mn, q_mx, q_mn]; rfl) ?_
            refine wp_lv (lv1 := [(0, .ref a0), (1, .ref 52), (2, .ref 53), (3, .int (Int32.ofInt (x3 + 1))), (4, .int (Int32.ofInt (x4 + 1)))]) (lsub_p [4, 5, 6, 1, 0] rfl rfl rfl) ?_
            cases hx
            exact kn _ _ rfl h48
          · have hx := ite_t h38 hx
            refine wp_g 3 (pc1 := 76) (lv1 := [(6, .int (Int32.ofInt (bShr (s (a0 + 1) i2) 5))), (5, .int (Int32.ofInt (bAnd (s (a0 + 1) i2) 31))), (0, .ref a0), (1, .ref 52), (2, .ref 53), (3, .int (Int32.ofInt x3)), (4, .int (Int32.ofInt x4))]) (st1 := [.long (Int64.ofInt (w32 (bShr (s (a0 + 1) i2) 5))), .int (Int32.ofInt x3), .ref 53]) (w1 := w) (by simp only [Int32.ofInt_add, Int32.ofInt_sub, Int32.ofInt_mul, Int32.ofInt_neg, p_and, p_or, p_xor, p_shl, p_shr, p_usr, p_w8, p_c16, p_lI, q_and, q_or, q_shl, q_shr, q_w32, Int64.ofInt_add, Int64.ofInt_sub, Int64.ofInt_mul, p_mx, p_mn, q_mx, q_mn]; rfl) ?_
            obtain ⟨i49, e50, hx⟩ := bd hx
            obtain ⟨s51, e52, hx⟩ := bd hx
            refine wx_wl (x := 53) (n := 32) (ln := 1) (a := 0) (b := 0) (zz := 0) (by decide +kernel) h (hS _ _ sx_53) e50 e52 (fun w53 h54 => ?_)
            refine wp_g 4 (pc1 := 5) (lv1 := [(4, .int (Int32.ofInt (x4 + 1))), (3, .int (Int32.ofInt (x3 + 1))), (6, .int (Int32.ofInt (bShr (s (a0 + 1) i2) 5))), (5, .int (Int32.ofInt (bAnd (s (a0 + 1) i2) 31))), (0, .ref a0), (1, .ref 52), (2, .ref 53)]) (st1 := []) (w1 := w53) (by simp only [Int32.ofInt_add, Int32.ofInt_sub, Int32.ofInt_mul, Int32.ofInt_neg, p_and, p_or, p_xor, p_shl, p_shr, p_usr, p_w8, p_c16, p_lI, q_and, q_or, q_shl, q_shr, q_w32, Int64.ofInt_add, Int64.ofInt_sub, Int64.ofInt_mul, p_mx, p_mn, q_mx, q_mn]; rfl) ?_
            refine wp_lv (lv1 := [(0, .ref a0), (1, .ref 52), (2, .ref 53), (3, .int (Int32.ofInt (x3 + 1))), (4, .int (Int32.ofInt (x4 + 1)))]) (lsub_p [4, 5, 6, 1, 0] rfl rfl rfl) ?_
            cases hx
            exact kn _ _ rfl h54
        · have hx := ite_t h37 hx
          refine wp_g 1 (pc1 := 56) (lv1 := [(6, .int (Int32.ofInt (bShr (s (a0 + 1) i2) 5))), (5, .int (Int32.ofInt (bAnd (s (a0 + 1) i2) 31))), (0, .ref a0), (1, .ref 52), (2, .ref 53), (3, .int (Int32.ofInt x3)), (4, .int (Int32.ofInt x4))]) (st1 := [.long (Int64.ofInt 0)]) (w1 := w) rfl ?_
          refine wp_rt (i := .lreturn) (r := some (.long (Int64.ofInt 0))) (ln := 1) (a := 0) (b := 0) (z := 0) (by decide +kernel) rfl (ret_l (by decide +kernel)) ?_
          cases hx
          exact (kc _ rfl).2 _ _ rfl h
/-- Rule.sumFor ([J[J)J -/
noncomputable def xu_sumFor (ln : Nat → Nat) (rs : Nat → Int) (s : Hp) (a0 : Nat) : Option (Int × Hp) :=
  (lp (fun (q : Int × Int × Hp) => xu_sumFor_b5 ln rs q.2.2 a0 q.1 q.2.1) (0, 0, s)).bind fun q1 => q1.elim (fun q5 => some (0, q5.2.2)) (fun r => some r)
set_option maxRecDepth 100000 in
theorem xu_sumFor_ok {d : Nat} {P : Option Value → pm_H → Prop} {w : pm_H} {sh : Shp} {w0 : pm_H} {s : Hp} (hS : St sh) {ln : Nat → Nat} {rs : Nat → Int} (hG : ∀ i, okR ln sh (rs i)) {a0 : Nat} (ca0 : okU ln sh a0) (h : Rw sh w0 s w) {o : Int × Hp} (hx : xu_sumFor ln rs s a0 = some o) (kr : ∀ w1, Rw sh w0 o.2 w1 → P (some (.long (Int64.ofInt o.1))) w1) : wp (d + 1) 44 0 (lv_args 0 [.ref a0, .ref 52, .ref 53]) [] w P := by
  show wp _ 44 0 [(0, .ref a0), (1, .ref 52), (2, .ref 53)] [] w _
  unfold xu_sumFor at hx
  refine wp_g 4 (pc1 := 5) (lv1 := [(4, .int (Int32.ofInt 0)), (3, .int (Int32.ofInt 0)), (0, .ref a0), (1, .ref 52), (2, .ref 53)]) (st1 := []) (w1 := w) rfl ?_
  refine wp_lv (lv1 := [(0, .ref a0), (1, .ref 52), (2, .ref 53), (3, .int (Int32.ofInt 0)), (4, .int (Int32.ofInt 0))]) (lsub_p [2, 3, 4, 1, 0] rfl rfl rfl) ?_
  obtain ⟨q1, e2, hx⟩ := bd hx
  refine wp_lp (σ := Int × Int × Hp) (ρ := ((Int × Int × Hp) ⊕ (Int × Hp))) (B := fun q => xu_sumFor_b5 ln rs q.2.2 a0 q.1 q.2.1) (R := fun q w' => Rw sh w0 q.2.2 w') (C := fun r => (∀ q1 w1, r = .inl q1 → Rw sh w0 q1.2.2 w1 → wp (d + 1) 44 191 [(0, .ref a0), (1, .ref 52), (2, .ref 53), (3, .int (Int32.ofInt q1.1)), (4, .int (Int32.ofInt q1.2.1))] [] w1 P) ∧ (∀ v1 w1, r = .inr v1 → Rw sh w0 v1.2 w1 → P (some (.long (Int64.ofInt v1.1))) w1)) (lv := fun q => [(0, .ref a0), (1, .ref 52), (2, .ref 53), (3, .int (Int32.ofInt q.1)), (4, .int (Int32.ofInt q.2.1))]) (hd := 5) (fun q w' o hR hb kn kc => xu_sumFor_b5_ok hS hG ca0 hR hb kn kc) _ _ _ e2 h ?_
  refine ⟨?_, fun v6 w1 hs h1 => by subst hs; cases (se_r hx); exact kr _ h1⟩
  intro q5 w3 hs h4
  subst hs
  replace hx := se_l hx
  show wp _ 44 191 [(0, .ref a0), (1, .ref 52), (2, .ref 53), (3, .int (Int32.ofInt q5.1)), (4, .int (Int32.ofInt q5.2.1))] [] w3 _
  refine wp_g 1 (pc1 := 192) (lv1 := [(0, .ref a0), (1, .ref 52), (2, .ref 53), (3, .int (Int32.ofInt q5.1)), (4, .int (Int32.ofInt q5.2.1))]) (st1 := [.long (Int64.ofInt 0)]) (w1 := w3) rfl ?_
  refine wp_rt (i := .lreturn) (r := some (.long (Int64.ofInt 0))) (ln := 1) (a := 0) (b := 0) (z := 0) (by decide +kernel) rfl (ret_l (by decide +kernel)) ?_
  cases hx
  exact kr _ h4
/-- java/lang/Integer.bitCount (I)I -/
noncomputable def xj_bitCount (p0 : Int) : Option Int :=
  (some ((bAnd (p0 - (bAnd (bUsr p0 1) 1431655765)) 858993459) + (bAnd (bUsr (p0 - (bAnd (bUsr p0 1) 1431655765)) 2) 858993459))).bind fun z1 => (some ((bAnd (z1 + (bUsr z1 4)) 252645135) + (bUsr (bAnd (z1 + (bUsr z1 4)) 252645135) 8))).bind fun z3 => some (bAnd (z3 + (bUsr z3 16)) 63)
set_option maxRecDepth 100000 in
theorem xj_bitCount_ok {d : Nat} {P : Option Value → pm_H → Prop} {w : pm_H} {p0 : Int} {o : Int} (hx : xj_bitCount p0 = some o) (kr : P (some (.int (Int32.ofInt o))) w) : wp d 263 0 (lv_args 0 [.int (Int32.ofInt p0)]) [] w P := by
  show wp _ 263 0 [(0, .int (Int32.ofInt p0))] [] w _
  unfold xj_bitCount at hx
  refine wp_g 18 (pc1 := 24) (lv1 := [(0, .int (Int32.ofInt ((bAnd (p0 - (bAnd (bUsr p0 1) 1431655765)) 858993459) + (bAnd (bUsr (p0 - (bAnd (bUsr p0 1) 1431655765)) 2) 858993459))))]) (st1 := []) (w1 := w) (by simp only [Int32.ofInt_add, Int32.ofInt_sub, Int32.ofInt_mul, Int32.ofInt_neg, p_and, p_or, p_xor, p_shl, p_shr, p_usr, p_w8, p_c16, p_lI, q_and, q_or, q_shl, q_shr, q_w32, Int64.ofInt_add, Int64.ofInt_sub, Int64.ofInt_mul, p_mx, p_mn, q_mx, q_mn]; rfl) ?_
  obtain ⟨z1, e2, hx⟩ := bd hx
  replace e2 := Option.some.inj e2
  rw [e2]
  show wp _ 263 24 [(0, .int (Int32.ofInt z1))] [] w _
  refine wp_g 14 (pc1 := 41) (lv1 := [(0, .int (Int32.ofInt ((bAnd (z1 + (bUsr z1 4)) 252645135) + (bUsr (bAnd (z1 + (bUsr z1 4)) 252645135) 8))))]) (st1 := []) (w1 := w) (by simp only [Int32.ofInt_add, Int32.ofInt_sub, Int32.ofInt_mul, Int32.ofInt_neg, p_and, p_or, p_xor, p_shl, p_shr, p_usr, p_w8, p_c16, p_lI, q_and, q_or, q_shl, q_shr, q_w32, Int64.ofInt_add, Int64.ofInt_sub, Int64.ofInt_mul, p_mx, p_mn, q_mx, q_mn]; rfl) ?_
  obtain ⟨z3, e4, hx⟩ := bd hx
  replace e4 := Option.some.inj e4
  rw [e4]
  show wp _ 263 41 [(0, .int (Int32.ofInt z3))] [] w _
  refine wp_g 9 (pc1 := 52) (lv1 := [(0, .int (Int32.ofInt (z3 + (bUsr z3 16))))]) (st1 := [.int (Int32.ofInt (bAnd (z3 + (bUsr z3 16)) 63))]) (w1 := w) (by simp only [Int32.ofInt_add, Int32.ofInt_sub, Int32.ofInt_mul, Int32.ofInt_neg, p_and, p_or, p_xor, p_shl, p_shr, p_usr, p_w8, p_c16, p_lI, q_and, q_or, q_shl, q_shr, q_w32, Int64.ofInt_add, Int64.ofInt_sub, Int64.ofInt_mul, p_mx, p_mn, q_mx, q_mn]; rfl) ?_
  refine wp_rt (i := .ireturn) (r := some (.int (Int32.ofInt (bAnd (z3 + (bUsr z3 16)) 63)))) (ln := 1) (a := 0) (b := 0) (z := 0) (by decide +kernel) rfl (ret_ok (by decide +kernel)) ?_
  cases hx
  exact kr
/-- Market.priceOf (LCloth;LRule;I)I -/
noncomputable def xk_priceOf (ln : Nat → Nat) (rs : Nat → Int) (s : Hp) (a1 : Nat) (u2 : Int) (p3 : Int) : Option (Int × Hp) :=
  if u2 < 0 then (ix 8 p3).bind fun i38 => some (s (a1 + 5) i38, s) else (ix 11 0).bind fun i2 => (some (uh s 52 i2 (w32 p3))).bind fun s4 => (ix 8 p3).bind fun i8 => (ix 11 1).bind fun i10 => (some (uh s4 52 i10 (w32 (s4 (a1 + 5) i8)))).bind fun s12 => (ix 11 3).bind fun i16 => (some (uh s12 52 i16 (w32 (s12 (a1 + 4) i8)))).bind fun s18 => (ix 11 4).bind fun i22 => (some (uh s18 52 i22 (w32 (s18 (a1 + 2) i8)))).bind fun s24 => (ix 11 5).bind fun i28 => (some (uh s24 52 i28 (w32 (s24 (a1 + 1) i8)))).bind fun s30 => (xu_sumFor ln rs s30 u2.toNat).bind fun o34 => some (lI (mxL 0 (mnL 999 o34.1)), o34.2)
set_option maxRecDepth 100000 in
theorem xk_priceOf_ok {d : Nat} {P : Option Value → pm_H → Prop} {w : pm_H} {sh : Shp} {w0 : pm_H} {s : Hp} (hS : St sh) {ln : Nat → Nat} {rs : Nat → Int} (hG : ∀ i, okR ln sh (rs i)) {a1 r1 : Nat} (ca1 : okC r1 sh a1) {u2 : Int} (hu2 : okR ln sh u2) {p3 : Int} (h : Rw sh w0 s w) {o : Int × Hp} (hx : xk_priceOf ln rs s a1 u2 p3 = some o) (kr : ∀ w1, Rw sh w0 o.2 w1 → P (some (.int (Int32.ofInt o.1))) w1) : wp (d + 6) 37 0 (lv_args 0 [.ref 41, .ref a1, vR u2, .int (Int32.ofInt p3)]) [] w P := by
  rw [show lv_args 0 [.ref 41, .ref a1, vR u2, .int (Int32.ofInt p3)] = [(0, .ref 41), (1, .ref a1), (2, vR u2), (3, .int (Int32.ofInt p3))] from by rcases vR_c u2 with e | ⟨_, e⟩ <;> simp only [e] <;> rfl]
  unfold xk_priceOf at hx
  refine wp_g 1 (pc1 := 1) (lv1 := [(0, .ref 41), (1, .ref a1), (2, vR u2), (3, .int (Int32.ofInt p3))]) (st1 := [vR u2]) (w1 := w) (by rcases vR_c u2 with e | ⟨_, e⟩ <;> simp only [e] <;> rfl) ?_
  refine wx_nn (oo := 10) (ln := 3) (a := 11) (b := 0) (zz := 0) (by decide +kernel) (fun h1 => ?_) (fun h1 => ?_)
  · have hx := ite_f h1 hx
    rw [vR_r h1]
    refine wp_g 1 (pc1 := 12) (lv1 := [(0, .ref 41), (1, .ref a1), (2, .ref u2.toNat), (3, .int (Int32.ofInt p3))]) (st1 := [.ref 41]) (w1 := w) rfl ?_
    refine wx_gr (o := 11) (kf := 22) (ln := 3) (ci := 3) (b := 2) (zz := 0) (x := 41) (by decide +kernel) h (hS _ _ sx_41) rfl ?_
    show wp _ 37 15 [(0, .ref 41), (1, .ref a1), (2, .ref u2.toNat), (3, .int (Int32.ofInt p3))] [.ref 52] w _
    refine wp_g 3 (pc1 := 18) (lv1 := [(0, .ref 41), (1, .ref a1), (2, .ref u2.toNat), (3, .int (Int32.ofInt p3))]) (st1 := [.long (Int64.ofInt (w32 p3)), .int (Int32.ofInt 0), .ref 52]) (w1 := w) (by simp only [Int32.ofInt_add, Int32.ofInt_sub, Int32.ofInt_mul, Int32.ofInt_neg, p_and, p_or, p_xor, p_shl, p_shr, p_usr, p_w8, p_c16, p_lI, q_and, q_or, q_shl, q_shr, q_w32, Int64.ofInt_add, Int64.ofInt_sub, Int64.ofInt_mul, p_mx, p_mn, q_mx, q_mn]; rfl) ?_
    obtain ⟨i2, e3, hx⟩ := bd hx
    obtain ⟨s4, e5, hx⟩ := bd hx
    refine wx_wl (x := 52) (n := 11) (ln := 1) (a := 0) (b := 0) (zz := 0) (by decide +kernel) h (hS _ _ sx_52) e3 e5 (fun w6 h7 => ?_)
    refine wp_g 1 (pc1 := 20) (lv1 := [(0, .ref 41), (1, .ref a1), (2, .ref u2.toNat), (3, .int (Int32.ofInt p3))]) (st1 := [.ref 41]) (w1 := w6) rfl ?_
    refine wx_gr (o := 11) (kf := 22) (ln := 3) (ci := 3) (b := 2) (zz := 0) (x := 41) (by decide +kernel) h7 (hS _ _ sx_41) rfl ?_
    show wp _ 37 23 [(0, .ref 41), (1, .ref a1), (2, .ref u2.toNat), (3, .int (Int32.ofInt p3))] [.ref 52] w6 _
    refine wp_g 2 (pc1 := 25) (lv1 := [(0, .ref 41), (1, .ref a1), (2, .ref u2.toNat), (3, .int (Int32.ofInt p3))]) (st1 := [.ref a1, .int (Int32.ofInt 1), .ref 52]) (w1 := w6) rfl ?_
    refine wx_gr (o := 5) (kf := 65) (ln := 3) (ci := 0) (b := 8) (zz := 0) (x := a1) (by decide +kernel) h7 ca1.1 rfl ?_
    show wp _ 37 28 [(0, .ref 41), (1, .ref a1), (2, .ref u2.toNat), (3, .int (Int32.ofInt p3))] [.ref (a1 + 5), .int (Int32.ofInt 1), .ref 52] w6 _
    refine wp_g 1 (pc1 := 29) (lv1 := [(0, .ref 41), (1, .ref a1), (2, .ref u2.toNat), (3, .int (Int32.ofInt p3))]) (st1 := [.int (Int32.ofInt p3), .ref (a1 + 5), .int (Int32.ofInt 1), .ref 52]) (w1 := w6) rfl ?_
    obtain ⟨i8, e9, hx⟩ := bd hx
    refine wx_ra (x := (a1 + 5)) (n := 8) (ln := 1) (a := 0) (b := 0) (zz := 0) (by decide +kernel) h7 (ca1.2.1 5 (by decide) (by decide)) e9 ?_
    show wp _ 37 30 [(0, .ref 41), (1, .ref a1), (2, .ref u2.toNat), (3, .int (Int32.ofInt p3))] [.int (Int32.ofInt (s4 (a1 + 5) i8)), .int (Int32.ofInt 1), .ref 52] w6 _
    refine wp_g 1 (pc1 := 31) (lv1 := [(0, .ref 41), (1, .ref a1), (2, .ref u2.toNat), (3, .int (Int32.ofInt p3))]) (st1 := [.long (Int64.ofInt (w32 (s4 (a1 + 5) i8))), .int (Int32.ofInt 1), .ref 52]) (w1 := w6) (by simp only [Int32.ofInt_add, Int32.ofInt_sub, Int32.ofInt_mul, Int32.ofInt_neg, p_and, p_or, p_xor, p_shl, p_shr, p_usr, p_w8, p_c16, p_lI, q_and, q_or, q_shl, q_shr, q_w32, Int64.ofInt_add, Int64.ofInt_sub, Int64.ofInt_mul, p_mx, p_mn, q_mx, q_mn]; rfl) ?_
    obtain ⟨i10, e11, hx⟩ := bd hx
    obtain ⟨s12, e13, hx⟩ := bd hx
    refine wx_wl (x := 52) (n := 11) (ln := 1) (a := 0) (b := 0) (zz := 0) (by decide +kernel) h7 (hS _ _ sx_52) e11 e13 (fun w14 h15 => ?_)
    refine wp_g 1 (pc1 := 33) (lv1 := [(0, .ref 41), (1, .ref a1), (2, .ref u2.toNat), (3, .int (Int32.ofInt p3))]) (st1 := [.ref 41]) (w1 := w14) rfl ?_
    refine wx_gr (o := 11) (kf := 22) (ln := 3) (ci := 3) (b := 2) (zz := 0) (x := 41) (by decide +kernel) h15 (hS _ _ sx_41) rfl ?_
    show wp _ 37 36 [(0, .ref 41), (1, .ref a1), (2, .ref u2.toNat), (3, .int (Int32.ofInt p3))] [.ref 52] w14 _
    refine wp_g 2 (pc1 := 38) (lv1 := [(0, .ref 41), (1, .ref a1), (2, .ref u2.toNat), (3, .int (Int32.ofInt p3))]) (st1 := [.ref a1, .int (Int32.ofInt 3), .ref 52]) (w1 := w14) rfl ?_
    refine wx_gr (o := 4) (kf := 58) (ln := 3) (ci := 0) (b := 7) (zz := 0) (x := a1) (by decide +kernel) h15 ca1.1 rfl ?_
    show wp _ 37 41 [(0, .ref 41), (1, .ref a1), (2, .ref u2.toNat), (3, .int (Int32.ofInt p3))] [.ref (a1 + 4), .int (Int32.ofInt 3), .ref 52] w14 _
    refine wp_g 1 (pc1 := 42) (lv1 := [(0, .ref 41), (1, .ref a1), (2, .ref u2.toNat), (3, .int (Int32.ofInt p3))]) (st1 := [.int (Int32.ofInt p3), .ref (a1 + 4), .int (Int32.ofInt 3), .ref 52]) (w1 := w14) rfl ?_
    refine wx_ra (x := (a1 + 4)) (n := 8) (ln := 1) (a := 0) (b := 0) (zz := 0) (by decide +kernel) h15 (ca1.2.1 4 (by decide) (by decide)) e9 ?_
    show wp _ 37 43 [(0, .ref 41), (1, .ref a1), (2, .ref u2.toNat), (3, .int (Int32.ofInt p3))] [.int (Int32.ofInt (s12 (a1 + 4) i8)), .int (Int32.ofInt 3), .ref 52] w14 _
    refine wp_g 1 (pc1 := 44) (lv1 := [(0, .ref 41), (1, .ref a1), (2, .ref u2.toNat), (3, .int (Int32.ofInt p3))]) (st1 := [.long (Int64.ofInt (w32 (s12 (a1 + 4) i8))), .int (Int32.ofInt 3), .ref 52]) (w1 := w14) (by simp only [Int32.ofInt_add, Int32.ofInt_sub, Int32.ofInt_mul, Int32.ofInt_neg, p_and, p_or, p_xor, p_shl, p_shr, p_usr, p_w8, p_c16, p_lI, q_and, q_or, q_shl, q_shr, q_w32, Int64.ofInt_add, Int64.ofInt_sub, Int64.ofInt_mul, p_mx, p_mn, q_mx, q_mn]; rfl) ?_
    obtain ⟨i16, e17, hx⟩ := bd hx
    obtain ⟨s18, e19, hx⟩ := bd hx
    refine wx_wl (x := 52) (n := 11) (ln := 1) (a := 0) (b := 0) (zz := 0) (by decide +kernel) h15 (hS _ _ sx_52) e17 e19 (fun w20 h21 => ?_)
    refine wp_g 1 (pc1 := 46) (lv1 := [(0, .ref 41), (1, .ref a1), (2, .ref u2.toNat), (3, .int (Int32.ofInt p3))]) (st1 := [.ref 41]) (w1 := w20) rfl ?_
    refine wx_gr (o := 11) (kf := 22) (ln := 3) (ci := 3) (b := 2) (zz := 0) (x := 41) (by decide +kernel) h21 (hS _ _ sx_41) rfl ?_
    show wp _ 37 49 [(0, .ref 41), (1, .ref a1), (2, .ref u2.toNat), (3, .int (Int32.ofInt p3))] [.ref 52] w20 _
    refine wp_g 2 (pc1 := 51) (lv1 := [(0, .ref 41), (1, .ref a1), (2, .ref u2.toNat), (3, .int (Int32.ofInt p3))]) (st1 := [.ref a1, .int (Int32.ofInt 4), .ref 52]) (w1 := w20) rfl ?_
    refine wx_gr (o := 2) (kf := 68) (ln := 3) (ci := 0) (b := 5) (zz := 0) (x := a1) (by decide +kernel) h21 ca1.1 rfl ?_
    show wp _ 37 54 [(0, .ref 41), (1, .ref a1), (2, .ref u2.toNat), (3, .int (Int32.ofInt p3))] [.ref (a1 + 2), .int (Int32.ofInt 4), .ref 52] w20 _
    refine wp_g 1 (pc1 := 55) (lv1 := [(0, .ref 41), (1, .ref a1), (2, .ref u2.toNat), (3, .int (Int32.ofInt p3))]) (st1 := [.int (Int32.ofInt p3), .ref (a1 + 2), .int (Int32.ofInt 4), .ref 52]) (w1 := w20) rfl ?_
    refine wx_ra (x := (a1 + 2)) (n := 8) (ln := 1) (a := 0) (b := 0) (zz := 0) (by decide +kernel) h21 (ca1.2.1 2 (by decide) (by decide)) e9 ?_
    show wp _ 37 56 [(0, .ref 41), (1, .ref a1), (2, .ref u2.toNat), (3, .int (Int32.ofInt p3))] [.int (Int32.ofInt (s18 (a1 + 2) i8)), .int (Int32.ofInt 4), .ref 52] w20 _
    refine wp_g 1 (pc1 := 57) (lv1 := [(0, .ref 41), (1, .ref a1), (2, .ref u2.toNat), (3, .int (Int32.ofInt p3))]) (st1 := [.long (Int64.ofInt (w32 (s18 (a1 + 2) i8))), .int (Int32.ofInt 4), .ref 52]) (w1 := w20) (by simp only [Int32.ofInt_add, Int32.ofInt_sub, Int32.ofInt_mul, Int32.ofInt_neg, p_and, p_or, p_xor, p_shl, p_shr, p_usr, p_w8, p_c16, p_lI, q_and, q_or, q_shl, q_shr, q_w32, Int64.ofInt_add, Int64.ofInt_sub, Int64.ofInt_mul, p_mx, p_mn, q_mx, q_mn]; rfl) ?_
    obtain ⟨i22, e23, hx⟩ := bd hx
    obtain ⟨s24, e25, hx⟩ := bd hx
    refine wx_wl (x := 52) (n := 11) (ln := 1) (a := 0) (b := 0) (zz := 0) (by decide +kernel) h21 (hS _ _ sx_52) e23 e25 (fun w26 h27 => ?_)
    refine wp_g 1 (pc1 := 59) (lv1 := [(0, .ref 41), (1, .ref a1), (2, .ref u2.toNat), (3, .int (Int32.ofInt p3))]) (st1 := [.ref 41]) (w1 := w26) rfl ?_
    refine wx_gr (o := 11) (kf := 22) (ln := 3) (ci := 3) (b := 2) (zz := 0) (x := 41) (by decide +kernel) h27 (hS _ _ sx_41) rfl ?_
    show wp _ 37 62 [(0, .ref 41), (1, .ref a1), (2, .ref u2.toNat), (3, .int (Int32.ofInt p3))] [.ref 52] w26 _
    refine wp_g 2 (pc1 := 64) (lv1 := [(0, .ref 41), (1, .ref a1), (2, .ref u2.toNat), (3, .int (Int32.ofInt p3))]) (st1 := [.ref a1, .int (Int32.ofInt 5), .ref 52]) (w1 := w26) rfl ?_
    refine wx_gr (o := 1) (kf := 71) (ln := 3) (ci := 0) (b := 4) (zz := 0) (x := a1) (by decide +kernel) h27 ca1.1 rfl ?_
    show wp _ 37 67 [(0, .ref 41), (1, .ref a1), (2, .ref u2.toNat), (3, .int (Int32.ofInt p3))] [.ref (a1 + 1), .int (Int32.ofInt 5), .ref 52] w26 _
    refine wp_g 1 (pc1 := 68) (lv1 := [(0, .ref 41), (1, .ref a1), (2, .ref u2.toNat), (3, .int (Int32.ofInt p3))]) (st1 := [.int (Int32.ofInt p3), .ref (a1 + 1), .int (Int32.ofInt 5), .ref 52]) (w1 := w26) rfl ?_
    refine wx_ra (x := (a1 + 1)) (n := 8) (ln := 1) (a := 0) (b := 0) (zz := 0) (by decide +kernel) h27 (ca1.2.1 1 (by decide) (by decide)) e9 ?_
    show wp _ 37 69 [(0, .ref 41), (1, .ref a1), (2, .ref u2.toNat), (3, .int (Int32.ofInt p3))] [.int (Int32.ofInt (s24 (a1 + 1) i8)), .int (Int32.ofInt 5), .ref 52] w26 _
    refine wp_g 1 (pc1 := 70) (lv1 := [(0, .ref 41), (1, .ref a1), (2, .ref u2.toNat), (3, .int (Int32.ofInt p3))]) (st1 := [.long (Int64.ofInt (w32 (s24 (a1 + 1) i8))), .int (Int32.ofInt 5), .ref 52]) (w1 := w26) (by simp only [Int32.ofInt_add, Int32.ofInt_sub, Int32.ofInt_mul, Int32.ofInt_neg, p_and, p_or, p_xor, p_shl, p_shr, p_usr, p_w8, p_c16, p_lI, q_and, q_or, q_shl, q_shr, q_w32, Int64.ofInt_add, Int64.ofInt_sub, Int64.ofInt_mul, p_mx, p_mn, q_mx, q_mn]; rfl) ?_
    obtain ⟨i28, e29, hx⟩ := bd hx
    obtain ⟨s30, e31, hx⟩ := bd hx
    refine wx_wl (x := 52) (n := 11) (ln := 1) (a := 0) (b := 0) (zz := 0) (by decide +kernel) h27 (hS _ _ sx_52) e29 e31 (fun w32 h33 => ?_)
    refine wp_g 4 (pc1 := 77) (lv1 := [(0, .ref 41), (1, .ref a1), (2, .ref u2.toNat), (3, .int (Int32.ofInt p3))]) (st1 := [.ref 41, .ref u2.toNat, .long (Int64.ofInt 999), .long (Int64.ofInt 0)]) (w1 := w32) rfl ?_
    refine wx_gr (o := 11) (kf := 22) (ln := 3) (ci := 3) (b := 2) (zz := 0) (x := 41) (by decide +kernel) h33 (hS _ _ sx_41) rfl ?_
    show wp _ 37 80 [(0, .ref 41), (1, .ref a1), (2, .ref u2.toNat), (3, .int (Int32.ofInt p3))] [.ref 52, .ref u2.toNat, .long (Int64.ofInt 999), .long (Int64.ofInt 0)] w32 _
    refine wp_g 1 (pc1 := 81) (lv1 := [(0, .ref 41), (1, .ref a1), (2, .ref u2.toNat), (3, .int (Int32.ofInt p3))]) (st1 := [.ref 41, .ref 52, .ref u2.toNat, .long (Int64.ofInt 999), .long (Int64.ofInt 0)]) (w1 := w32) rfl ?_
    refine wx_gr (o := 12) (kf := 26) (ln := 3) (ci := 3) (b := 3) (zz := 0) (x := 41) (by decide +kernel) h33 (hS _ _ sx_41) rfl ?_
    show wp _ 37 84 [(0, .ref 41), (1, .ref a1), (2, .ref u2.toNat), (3, .int (Int32.ofInt p3))] [.ref 53, .ref 52, .ref u2.toNat, .long (Int64.ofInt 999), .long (Int64.ofInt 0)] w32 _
    obtain ⟨o34, e35, hx⟩ := bd hx
    refine wp_cl [.ref u2.toNat, .ref 52, .ref 53] [.long (Int64.ofInt 999), .long (Int64.ofInt 0)] (i := .invokevirtual 76) (ln := 3) (a := 44) (b := 0) (z := 0) (by decide +kernel) rfl rfl (by decide) rfl (show (3 : Nat) = pm_na 44 by decide +kernel) (Nat.le_of_ble_eq_true rfl) (show (3 : Nat) ≤ pm_n 44 by decide +kernel) (rcv_x 5 h33 (hu2 h1).1 (by decide +kernel)) (xu_sumFor_ok (d := d + 4) hS hG (hu2 h1) h33 e35 (fun w36 h37 => ?_))
    show wp _ 37 87 [(0, .ref 41), (1, .ref a1), (2, .ref u2.toNat), (3, .int (Int32.ofInt p3))] [.long (Int64.ofInt o34.1), .long (Int64.ofInt 999), .long (Int64.ofInt 0)] w36 _
    refine wp_lb (i := .invokestatic 82) (ln := 3) (a := 1004) (b := 9) (z := 0) (st1 := [.long (Int64.ofInt (mnL 999 o34.1)), .long (Int64.ofInt 0)]) (w1 := w36) (by decide +kernel) rfl rfl (by decide) (by simp only [Int32.ofInt_add, Int32.ofInt_sub, Int32.ofInt_mul, Int32.ofInt_neg, p_and, p_or, p_xor, p_shl, p_shr, p_usr, p_w8, p_c16, p_lI, q_and, q_or, q_shl, q_shr, q_w32, Int64.ofInt_add, Int64.ofInt_sub, Int64.ofInt_mul, p_mx, p_mn, q_mx, q_mn]; rfl) (Nat.le_of_ble_eq_true rfl) (by omega) ?_
    refine wp_lb (i := .invokestatic 88) (ln := 3) (a := 1003) (b := 9) (z := 0) (st1 := [.long (Int64.ofInt (mxL 0 (mnL 999 o34.1)))]) (w1 := w36) (by decide +kernel) rfl rfl (by decide) (by simp only [Int32.ofInt_add, Int32.ofInt_sub, Int32.ofInt_mul, Int32.ofInt_neg, p_and, p_or, p_xor, p_shl, p_shr, p_usr, p_w8, p_c16, p_lI, q_and, q_or, q_shl, q_shr, q_w32, Int64.ofInt_add, Int64.ofInt_sub, Int64.ofInt_mul, p_mx, p_mn, q_mx, q_mn]; rfl) (Nat.le_of_ble_eq_true rfl) (by omega) ?_
    refine wp_g 1 (pc1 := 94) (lv1 := [(0, .ref 41), (1, .ref a1), (2, .ref u2.toNat), (3, .int (Int32.ofInt p3))]) (st1 := [.int (Int32.ofInt (lI (mxL 0 (mnL 999 o34.1))))]) (w1 := w36) (by simp only [Int32.ofInt_add, Int32.ofInt_sub, Int32.ofInt_mul, Int32.ofInt_neg, p_and, p_or, p_xor, p_shl, p_shr, p_usr, p_w8, p_c16, p_lI, q_and, q_or, q_shl, q_shr, q_w32, Int64.ofInt_add, Int64.ofInt_sub, Int64.ofInt_mul, p_mx, p_mn, q_mx, q_mn]; rfl) ?_
    refine wp_rt (i := .ireturn) (r := some (.int (Int32.ofInt (lI (mxL 0 (mnL 999 o34.1)))))) (ln := 1) (a := 0) (b := 0) (z := 0) (by decide +kernel) rfl (ret_ok (by decide +kernel)) ?_
    cases hx
    exact kr _ h37
  · have hx := ite_t h1 hx
    refine wp_g 1 (pc1 := 5) (lv1 := [(0, .ref 41), (1, .ref a1), (2, vR u2), (3, .int (Int32.ofInt p3))]) (st1 := [.ref a1]) (w1 := w) (by rcases vR_c u2 with e | ⟨_, e⟩ <;> simp only [e] <;> rfl) ?_
    refine wx_gr (o := 5) (kf := 65) (ln := 3) (ci := 0) (b := 8) (zz := 0) (x := a1) (by decide +kernel) h ca1.1 rfl ?_
    show wp _ 37 8 [(0, .ref 41), (1, .ref a1), (2, vR u2), (3, .int (Int32.ofInt p3))] [.ref (a1 + 5)] w _
    refine wp_g 1 (pc1 := 9) (lv1 := [(0, .ref 41), (1, .ref a1), (2, vR u2), (3, .int (Int32.ofInt p3))]) (st1 := [.int (Int32.ofInt p3), .ref (a1 + 5)]) (w1 := w) (by rcases vR_c u2 with e | ⟨_, e⟩ <;> simp only [e] <;> rfl) ?_
    obtain ⟨i38, e39, hx⟩ := bd hx
    refine wx_ra (x := (a1 + 5)) (n := 8) (ln := 1) (a := 0) (b := 0) (zz := 0) (by decide +kernel) h (ca1.2.1 5 (by decide) (by decide)) e39 ?_
    show wp _ 37 10 [(0, .ref 41), (1, .ref a1), (2, vR u2), (3, .int (Int32.ofInt p3))] [.int (Int32.ofInt (s (a1 + 5) i38))] w _
    refine wp_rt (i := .ireturn) (r := some (.int (Int32.ofInt (s (a1 + 5) i38)))) (ln := 1) (a := 0) (b := 0) (z := 0) (by decide +kernel) rfl (ret_ok (by decide +kernel)) ?_
    cases hx
    exact kr _ h
noncomputable def xk_quote_b105_j166 (ln : Nat → Nat) (rs : Nat → Int) (s : Hp) (a1 : Nat) (u2 : Int) (x3 : Int) (x5 : Int) (x6 : Int) (x7 : Int) (k1 : Int) (k2 : Int) : Option ((Int × Int × Hp) ⊕ (Int × Int × Hp)) :=
  (ix 8 k1).bind fun i1 => (some (uh s 51 i1 k2)).bind fun s3 => (ix 8 x7).bind fun i7 => some (.inl (x6 + (s3 51 i7), x7 + 1, s3))
set_option maxRecDepth 100000 in
theorem xk_quote_b105_j166_ok {d : Nat} {P : Option Value → pm_H → Prop} {w : pm_H} {sh : Shp} {w0 : pm_H} {s : Hp} (hS : St sh) {ln : Nat → Nat} {rs : Nat → Int} (hG : ∀ i, okR ln sh (rs i)) {a1 r1 : Nat} (ca1 : okC r1 sh a1) {u2 : Int} (hu2 : okR ln sh u2) {x3 : Int} {x5 : Int} {x6 : Int} {x7 : Int} {k1 : Int} {k2 : Int} (h : Rw sh w0 s w) {o : ((Int × Int × Hp) ⊕ (Int × Int × Hp))} (hx : xk_quote_b105_j166 ln rs s a1 u2 x3 x5 x6 x7 k1 k2 = some o) (kn : ∀ (q : Int × Int × Hp) w1, o = .inl q → Rw sh w0 q.2.2 w1 → wp (d + 7) 36 105 [(0, .ref 41), (1, .ref a1), (2, vR u2), (3, .int (Int32.ofInt x3)), (5, .int (Int32.ofInt x5)), (6, .int (Int32.ofInt q.1)), (7, .int (Int32.ofInt q.2.1))] [] w1 P) (kc : ∀ (r : (Int × Int × Hp)), o = .inr r → (∀ w1, Rw sh w0 r.2.2 w1 → wp (d + 7) 36 185 [(0, .ref 41), (1, .ref a1), (2, vR u2), (3, .int (Int32.ofInt x3)), (5, .int (Int32.ofInt x5)), (6, .int (Int32.ofInt r.1)), (7, .int (Int32.ofInt r.2.1))] [] w1 P)) : wp (d + 7) 36 166 [(0, .ref 41), (1, .ref a1), (2, vR u2), (3, .int (Int32.ofInt x3)), (5, .int (Int32.ofInt x5)), (6, .int (Int32.ofInt x6)), (7, .int (Int32.ofInt x7))] [.int (Int32.ofInt k2), .int (Int32.ofInt k1), .ref 51] w P := by
  unfold xk_quote_b105_j166 at hx
  obtain ⟨i1, e2, hx⟩ := bd hx
  obtain ⟨s3, e4, hx⟩ := bd hx
  refine wx_wa (x := 51) (n := 8) (ln := 1) (a := 0) (b := 0) (zz := 0) (by decide +kernel) h (hS _ _ sx_51) e2 e4 (fun w5 h6 => ?_)
  refine wp_g 2 (pc1 := 170) (lv1 := [(0, .ref 41), (1, .ref a1), (2, vR u2), (3, .int (Int32.ofInt x3)), (5, .int (Int32.ofInt x5)), (6, .int (Int32.ofInt x6)), (7, .int (Int32.ofInt x7))]) (st1 := [.ref 41, .int (Int32.ofInt x6)]) (w1 := w5) (by rcases vR_c u2 with e | ⟨_, e⟩ <;> simp only [e] <;> rfl) ?_
  refine wx_gr (o := 10) (kf := 18) (ln := 3) (ci := 3) (b := 1) (zz := 0) (x := 41) (by decide +kernel) h6 (hS _ _ sx_41) rfl ?_
  show wp _ 36 173 [(0, .ref 41), (1, .ref a1), (2, vR u2), (3, .int (Int32.ofInt x3)), (5, .int (Int32.ofInt x5)), (6, .int (Int32.ofInt x6)), (7, .int (Int32.ofInt x7))] [.ref 51, .int (Int32.ofInt x6)] w5 _
  refine wp_g 1 (pc1 := 175) (lv1 := [(0, .ref 41), (1, .ref a1), (2, vR u2), (3, .int (Int32.ofInt x3)), (5, .int (Int32.ofInt x5)), (6, .int (Int32.ofInt x6)), (7, .int (Int32.ofInt x7))]) (st1 := [.int (Int32.ofInt x7), .ref 51, .int (Int32.ofInt x6)]) (w1 := w5) (by rcases vR_c u2 with e | ⟨_, e⟩ <;> simp only [e] <;> rfl) ?_
  obtain ⟨i7, e8, hx⟩ := bd hx
  refine wx_ra (x := 51) (n := 8) (ln := 1) (a := 0) (b := 0) (zz := 0) (by decide +kernel) h6 (hS _ _ sx_51) e8 ?_
  show wp _ 36 176 [(0, .ref 41), (1, .ref a1), (2, vR u2), (3, .int (Int32.ofInt x3)), (5, .int (Int32.ofInt x5)), (6, .int (Int32.ofInt x6)), (7, .int (Int32.ofInt x7))] [.int (Int32.ofInt (s3 51 i7)), .int (Int32.ofInt x6)] w5 _
  refine wp_g 4 (pc1 := 105) (lv1 := [(7, .int (Int32.ofInt (x7 + 1))), (6, .int (Int32.ofInt (x6 + (s3 51 i7)))), (0, .ref 41), (1, .ref a1), (2, vR u2), (3, .int (Int32.ofInt x3)), (5, .int (Int32.ofInt x5))]) (st1 := []) (w1 := w5) (by simp only [Int32.ofInt_add, Int32.ofInt_sub, Int32.ofInt_mul, Int32.ofInt_neg, p_and, p_or, p_xor, p_shl, p_shr, p_usr, p_w8, p_c16, p_lI, q_and, q_or, q_shl, q_shr, q_w32, Int64.ofInt_add, Int64.ofInt_sub, Int64.ofInt_mul, p_mx, p_mn, q_mx, q_mn]; rcases vR_c u2 with e | ⟨_, e⟩ <;> simp only [e] <;> rfl) ?_
  refine wp_lv (lv1 := [(0, .ref 41), (1, .ref a1), (2, vR u2), (3, .int (Int32.ofInt x3)), (5, .int (Int32.ofInt x5)), (6, .int (Int32.ofInt (x6 + (s3 51 i7)))), (7, .int (Int32.ofInt (x7 + 1)))]) (lsub_p [2, 3, 4, 5, 6, 1, 0] rfl rfl rfl) ?_
  cases hx
  exact kn _ _ rfl h6
noncomputable def xk_quote_b105_j141 (ln : Nat → Nat) (rs : Nat → Int) (s : Hp) (a1 : Nat) (u2 : Int) (x3 : Int) (x5 : Int) (x6 : Int) (x7 : Int) (k0 : Int) : Option ((Int × Int × Hp) ⊕ (Int × Int × Hp)) :=
  if w32 k0 = 0 then xk_quote_b105_j166 ln rs s a1 u2 x3 x5 x6 x7 x7 0 else (xk_priceOf ln rs s a1 u2 x7).bind fun o2 => xk_quote_b105_j166 ln rs o2.2 a1 u2 x3 x5 x6 x7 x7 o2.1
set_option maxRecDepth 100000 in
theorem xk_quote_b105_j141_ok {d : Nat} {P : Option Value → pm_H → Prop} {w : pm_H} {sh : Shp} {w0 : pm_H} {s : Hp} (hS : St sh) {ln : Nat → Nat} {rs : Nat → Int} (hG : ∀ i, okR ln sh (rs i)) {a1 r1 : Nat} (ca1 : okC r1 sh a1) {u2 : Int} (hu2 : okR ln sh u2) {x3 : Int} {x5 : Int} {x6 : Int} {x7 : Int} {k0 : Int} (h : Rw sh w0 s w) {o : ((Int × Int × Hp) ⊕ (Int × Int × Hp))} (hx : xk_quote_b105_j141 ln rs s a1 u2 x3 x5 x6 x7 k0 = some o) (kn : ∀ (q : Int × Int × Hp) w1, o = .inl q → Rw sh w0 q.2.2 w1 → wp (d + 7) 36 105 [(0, .ref 41), (1, .ref a1), (2, vR u2), (3, .int (Int32.ofInt x3)), (5, .int (Int32.ofInt x5)), (6, .int (Int32.ofInt q.1)), (7, .int (Int32.ofInt q.2.1))] [] w1 P) (kc : ∀ (r : (Int × Int × Hp)), o = .inr r → (∀ w1, Rw sh w0 r.2.2 w1 → wp (d + 7) 36 185 [(0, .ref 41), (1, .ref a1), (2, vR u2), (3, .int (Int32.ofInt x3)), (5, .int (Int32.ofInt x5)), (6, .int (Int32.ofInt r.1)), (7, .int (Int32.ofInt r.2.1))] [] w1 P)) : wp (d + 7) 36 141 [(0, .ref 41), (1, .ref a1), (2, vR u2), (3, .int (Int32.ofInt x3)), (5, .int (Int32.ofInt x5)), (6, .int (Int32.ofInt x6)), (7, .int (Int32.ofInt x7))] [.int (Int32.ofInt k0)] w P := by
  unfold xk_quote_b105_j141 at hx
  refine wp_g 2 (pc1 := 144) (lv1 := [(8, .int (Int32.ofInt k0)), (0, .ref 41), (1, .ref a1), (2, vR u2), (3, .int (Int32.ofInt x3)), (5, .int (Int32.ofInt x5)), (6, .int (Int32.ofInt x6)), (7, .int (Int32.ofInt x7))]) (st1 := [.ref 41]) (w1 := w) (by rcases vR_c u2 with e | ⟨_, e⟩ <;> simp only [e] <;> rfl) ?_
  refine wx_gr (o := 10) (kf := 18) (ln := 3) (ci := 3) (b := 1) (zz := 0) (x := 41) (by decide +kernel) h (hS _ _ sx_41) rfl ?_
  show wp _ 36 147 [(8, .int (Int32.ofInt k0)), (0, .ref 41), (1, .ref a1), (2, vR u2), (3, .int (Int32.ofInt x3)), (5, .int (Int32.ofInt x5)), (6, .int (Int32.ofInt x6)), (7, .int (Int32.ofInt x7))] [.ref 51] w _
  refine wp_g 2 (pc1 := 151) (lv1 := [(8, .int (Int32.ofInt k0)), (0, .ref 41), (1, .ref a1), (2, vR u2), (3, .int (Int32.ofInt x3)), (5, .int (Int32.ofInt x5)), (6, .int (Int32.ofInt x6)), (7, .int (Int32.ofInt x7))]) (st1 := [.int (Int32.ofInt k0), .int (Int32.ofInt x7), .ref 51]) (w1 := w) (by rcases vR_c u2 with e | ⟨_, e⟩ <;> simp only [e] <;> rfl) ?_
  refine wz_eq (oo := 14) (ln := 3) (a := 165) (b := 0) (zz := 0) (by decide +kernel) (fun h1 => ?_) (fun h1 => ?_)
  · have hx := ite_t h1 hx
    refine wp_g 1 (pc1 := 166) (lv1 := [(8, .int (Int32.ofInt k0)), (0, .ref 41), (1, .ref a1), (2, vR u2), (3, .int (Int32.ofInt x3)), (5, .int (Int32.ofInt x5)), (6, .int (Int32.ofInt x6)), (7, .int (Int32.ofInt x7))]) (st1 := [.int (Int32.ofInt 0), .int (Int32.ofInt x7), .ref 51]) (w1 := w) (by rcases vR_c u2 with e | ⟨_, e⟩ <;> simp only [e] <;> rfl) ?_
    refine wp_lv (lv1 := [(0, .ref 41), (1, .ref a1), (2, vR u2), (3, .int (Int32.ofInt x3)), (5, .int (Int32.ofInt x5)), (6, .int (Int32.ofInt x6)), (7, .int (Int32.ofInt x7))]) (lsub_p [1, 2, 3, 4, 5, 6, 7] rfl rfl rfl) ?_
    exact xk_quote_b105_j166_ok hS hG ca1 hu2 h hx kn kc
  · have hx := ite_f h1 hx
    refine wp_g 4 (pc1 := 159) (lv1 := [(8, .int (Int32.ofInt k0)), (0, .ref 41), (1, .ref a1), (2, vR u2), (3, .int (Int32.ofInt x3)), (5, .int (Int32.ofInt x5)), (6, .int (Int32.ofInt x6)), (7, .int (Int32.ofInt x7))]) (st1 := [.int (Int32.ofInt x7), vR u2, .ref a1, .ref 41, .int (Int32.ofInt x7), .ref 51]) (w1 := w) (by rcases vR_c u2 with e | ⟨_, e⟩ <;> simp only [e] <;> rfl) ?_
    obtain ⟨o2, e3, hx⟩ := bd hx
    refine wp_cl [.ref 41, .ref a1, vR u2, .int (Int32.ofInt x7)] [.int (Int32.ofInt x7), .ref 51] (i := .invokevirtual 61) (ln := 3) (a := 37) (b := 0) (z := 0) (by decide +kernel) rfl rfl (by decide) rfl (show (4 : Nat) = pm_na 37 by decide +kernel) (Nat.le_of_ble_eq_true rfl) (by rcases vR_c u2 with e | ⟨_, e⟩ <;> simp only [e] <;> exact (show (4 : Nat) ≤ pm_n 37 by decide +kernel)) (rcv_x 3 h (hS _ _ sx_41) (by decide +kernel)) (xk_priceOf_ok (d := d) hS hG ca1 hu2 h e3 (fun w4 h5 => ?_))
    show wp _ 36 162 [(8, .int (Int32.ofInt k0)), (0, .ref 41), (1, .ref a1), (2, vR u2), (3, .int (Int32.ofInt x3)), (5, .int (Int32.ofInt x5)), (6, .int (Int32.ofInt x6)), (7, .int (Int32.ofInt x7))] [.int (Int32.ofInt o2.1), .int (Int32.ofInt x7), .ref 51] w4 _
    refine wp_g 1 (pc1 := 166) (lv1 := [(8, .int (Int32.ofInt k0)), (0, .ref 41), (1, .ref a1), (2, vR u2), (3, .int (Int32.ofInt x3)), (5, .int (Int32.ofInt x5)), (6, .int (Int32.ofInt x6)), (7, .int (Int32.ofInt x7))]) (st1 := [.int (Int32.ofInt o2.1), .int (Int32.ofInt x7), .ref 51]) (w1 := w4) (by rcases vR_c u2 with e | ⟨_, e⟩ <;> simp only [e] <;> rfl) ?_
    refine wp_lv (lv1 := [(0, .ref 41), (1, .ref a1), (2, vR u2), (3, .int (Int32.ofInt x3)), (5, .int (Int32.ofInt x5)), (6, .int (Int32.ofInt x6)), (7, .int (Int32.ofInt x7))]) (lsub_p [1, 2, 3, 4, 5, 6, 7] rfl rfl rfl) ?_
    exact xk_quote_b105_j166_ok hS hG ca1 hu2 h5 hx kn kc
noncomputable def xk_quote_b105 (ln : Nat → Nat) (rs : Nat → Int) (s : Hp) (a1 : Nat) (u2 : Int) (x3 : Int) (x5 : Int) (x6 : Int) (x7 : Int) : Option ((Int × Int × Hp) ⊕ (Int × Int × Hp)) :=
  if w32 x7 < w32 (s a1 0) then if w32 (bAnd (bShr x5 x7) 1) = w32 1 then (ix 8 x7).bind fun i3 => if w32 (s (a1 + 4) i3) = w32 x3 then xk_quote_b105_j141 ln rs s a1 u2 x3 x5 x6 x7 0 else xk_quote_b105_j141 ln rs s a1 u2 x3 x5 x6 x7 1 else xk_quote_b105_j141 ln rs s a1 u2 x3 x5 x6 x7 0 else some (.inr (x6, x7, s))
set_option maxRecDepth 100000 in
theorem xk_quote_b105_ok {d : Nat} {P : Option Value → pm_H → Prop} {w : pm_H} {sh : Shp} {w0 : pm_H} {s : Hp} (hS : St sh) {ln : Nat → Nat} {rs : Nat → Int} (hG : ∀ i, okR ln sh (rs i)) {a1 r1 : Nat} (ca1 : okC r1 sh a1) {u2 : Int} (hu2 : okR ln sh u2) {x3 : Int} {x5 : Int} {x6 : Int} {x7 : Int} (h : Rw sh w0 s w) {o : ((Int × Int × Hp) ⊕ (Int × Int × Hp))} (hx : xk_quote_b105 ln rs s a1 u2 x3 x5 x6 x7 = some o) (kn : ∀ (q : Int × Int × Hp) w1, o = .inl q → Rw sh w0 q.2.2 w1 → wp (d + 7) 36 105 [(0, .ref 41), (1, .ref a1), (2, vR u2), (3, .int (Int32.ofInt x3)), (5, .int (Int32.ofInt x5)), (6, .int (Int32.ofInt q.1)), (7, .int (Int32.ofInt q.2.1))] [] w1 P) (kc : ∀ (r : (Int × Int × Hp)), o = .inr r → (∀ w1, Rw sh w0 r.2.2 w1 → wp (d + 7) 36 185 [(0, .ref 41), (1, .ref a1), (2, vR u2), (3, .int (Int32.ofInt x3)), (5, .int (Int32.ofInt x5)), (6, .int (Int32.ofInt r.1)), (7, .int (Int32.ofInt r.2.1))] [] w1 P)) : wp (d + 7) 36 105 [(0, .ref 41), (1, .ref a1), (2, vR u2), (3, .int (Int32.ofInt x3)), (5, .int (Int32.ofInt x5)), (6, .int (Int32.ofInt x6)), (7, .int (Int32.ofInt x7))] [] w P := by
  unfold xk_quote_b105 at hx
  refine wp_g 2 (pc1 := 108) (lv1 := [(0, .ref 41), (1, .ref a1), (2, vR u2), (3, .int (Int32.ofInt x3)), (5, .int (Int32.ofInt x5)), (6, .int (Int32.ofInt x6)), (7, .int (Int32.ofInt x7))]) (st1 := [.ref a1, .int (Int32.ofInt x7)]) (w1 := w) (by rcases vR_c u2 with e | ⟨_, e⟩ <;> simp only [e] <;> rfl) ?_
  refine wx_gi (kf := 55) (ln := 3) (ci := 0) (b := 0) (zz := 0) (x := a1) (by decide +kernel) h ca1.1 rfl ?_
  show wp _ 36 111 [(0, .ref 41), (1, .ref a1), (2, vR u2), (3, .int (Int32.ofInt x3)), (5, .int (Int32.ofInt x5)), (6, .int (Int32.ofInt x6)), (7, .int (Int32.ofInt x7))] [.int (Int32.ofInt (s a1 0)), .int (Int32.ofInt x7)] w _
  refine wx_ge (oo := 74) (ln := 3) (a := 185) (b := 0) (zz := 0) (by decide +kernel) (fun h1 => ?_) (fun h1 => ?_)
  · have hx := ite_f h1 hx
    cases hx
    exact kc _ rfl _ h
  · have hx := ite_t h1 hx
    refine wp_g 6 (pc1 := 122) (lv1 := [(0, .ref 41), (1, .ref a1), (2, vR u2), (3, .int (Int32.ofInt x3)), (5, .int (Int32.ofInt x5)), (6, .int (Int32.ofInt x6)), (7, .int (Int32.ofInt x7))]) (st1 := [.int (Int32.ofInt 1), .int (Int32.ofInt (bAnd (bShr x5 x7) 1))]) (w1 := w) (by simp only [Int32.ofInt_add, Int32.ofInt_sub, Int32.ofInt_mul, Int32.ofInt_neg, p_and, p_or, p_xor, p_shl, p_shr, p_usr, p_w8, p_c16, p_lI, q_and, q_or, q_shl, q_shr, q_w32, Int64.ofInt_add, Int64.ofInt_sub, Int64.ofInt_mul, p_mx, p_mn, q_mx, q_mn]; rcases vR_c u2 with e | ⟨_, e⟩ <;> simp only [e] <;> rfl) ?_
    refine wx_ne (oo := 18) (ln := 3) (a := 140) (b := 0) (zz := 0) (by decide +kernel) (fun h2 => ?_) (fun h2 => ?_)
    · have hx := ite_f h2 hx
      refine wp_g 1 (pc1 := 141) (lv1 := [(0, .ref 41), (1, .ref a1), (2, vR u2), (3, .int (Int32.ofInt x3)), (5, .int (Int32.ofInt x5)), (6, .int (Int32.ofInt x6)), (7, .int (Int32.ofInt x7))]) (st1 := [.int (Int32.ofInt 0)]) (w1 := w) (by rcases vR_c u2 with e | ⟨_, e⟩ <;> simp only [e] <;> rfl) ?_
      exact xk_quote_b105_j141_ok hS hG ca1 hu2 h hx kn kc
    · have hx := ite_t h2 hx
      refine wp_g 1 (pc1 := 126) (lv1 := [(0, .ref 41), (1, .ref a1), (2, vR u2), (3, .int (Int32.ofInt x3)), (5, .int (Int32.ofInt x5)), (6, .int (Int32.ofInt x6)), (7, .int (Int32.ofInt x7))]) (st1 := [.ref a1]) (w1 := w) (by rcases vR_c u2 with e | ⟨_, e⟩ <;> simp only [e] <;> rfl) ?_
      refine wx_gr (o := 4) (kf := 58) (ln := 3) (ci := 0) (b := 7) (zz := 0) (x := a1) (by decide +kernel) h ca1.1 rfl ?_
      show wp _ 36 129 [(0, .ref 41), (1, .ref a1), (2, vR u2), (3, .int (Int32.ofInt x3)), (5, .int (Int32.ofInt x5)), (6, .int (Int32.ofInt x6)), (7, .int (Int32.ofInt x7))] [.ref (a1 + 4)] w _
      refine wp_g 1 (pc1 := 131) (lv1 := [(0, .ref 41), (1, .ref a1), (2, vR u2), (3, .int (Int32.ofInt x3)), (5, .int (Int32.ofInt x5)), (6, .int (Int32.ofInt x6)), (7, .int (Int32.ofInt x7))]) (st1 := [.int (Int32.ofInt x7), .ref (a1 + 4)]) (w1 := w) (by rcases vR_c u2 with e | ⟨_, e⟩ <;> simp only [e] <;> rfl) ?_
      obtain ⟨i3, e4, hx⟩ := bd hx
      refine wx_ra (x := (a1 + 4)) (n := 8) (ln := 1) (a := 0) (b := 0) (zz := 0) (by decide +kernel) h (ca1.2.1 4 (by decide) (by decide)) e4 ?_
      show wp _ 36 132 [(0, .ref 41), (1, .ref a1), (2, vR u2), (3, .int (Int32.ofInt x3)), (5, .int (Int32.ofInt x5)), (6, .int (Int32.ofInt x6)), (7, .int (Int32.ofInt x7))] [.int (Int32.ofInt (s (a1 + 4) i3))] w _
      refine wp_g 1 (pc1 := 133) (lv1 := [(0, .ref 41), (1, .ref a1), (2, vR u2), (3, .int (Int32.ofInt x3)), (5, .int (Int32.ofInt x5)), (6, .int (Int32.ofInt x6)), (7, .int (Int32.ofInt x7))]) (st1 := [.int (Int32.ofInt x3), .int (Int32.ofInt (s (a1 + 4) i3))]) (w1 := w) (by rcases vR_c u2 with e | ⟨_, e⟩ <;> simp only [e] <;> rfl) ?_
      refine wx_eq (oo := 7) (ln := 3) (a := 140) (b := 0) (zz := 0) (by decide +kernel) (fun h5 => ?_) (fun h5 => ?_)
      · have hx := ite_t h5 hx
        refine wp_g 1 (pc1 := 141) (lv1 := [(0, .ref 41), (1, .ref a1), (2, vR u2), (3, .int (Int32.ofInt x3)), (5, .int (Int32.ofInt x5)), (6, .int (Int32.ofInt x6)), (7, .int (Int32.ofInt x7))]) (st1 := [.int (Int32.ofInt 0)]) (w1 := w) (by rcases vR_c u2 with e | ⟨_, e⟩ <;> simp only [e] <;> rfl) ?_
        exact xk_quote_b105_j141_ok hS hG ca1 hu2 h hx kn kc
      · have hx := ite_f h5 hx
        refine wp_g 2 (pc1 := 141) (lv1 := [(0, .ref 41), (1, .ref a1), (2, vR u2), (3, .int (Int32.ofInt x3)), (5, .int (Int32.ofInt x5)), (6, .int (Int32.ofInt x6)), (7, .int (Int32.ofInt x7))]) (st1 := [.int (Int32.ofInt 1)]) (w1 := w) (by rcases vR_c u2 with e | ⟨_, e⟩ <;> simp only [e] <;> rfl) ?_
        exact xk_quote_b105_j141_ok hS hG ca1 hu2 h hx kn kc
/-- Market.quote (LCloth;LRule;II)I -/
noncomputable def xk_quote (ln : Nat → Nat) (rs : Nat → Int) (s : Hp) (a1 : Nat) (u2 : Int) (p3 : Int) (p4 : Int) : Option (Int × Hp) :=
  (xl_hasPerson s a1 p3).bind fun o1 => if w32 o1 = 0 then some ((-2), s) else (xl_creasesAllow s a1 p4).bind fun o6 => if w32 o6 = 0 then some ((-2), s) else (xl_movedCells s a1 p4).bind fun o11 => (ix 11 2).bind fun i15 => (some (uh s 52 i15 (w32 p3))).bind fun s17 => (xj_bitCount o11).bind fun o21 => (ix 11 6).bind fun i25 => (some (uh s17 52 i25 (w32 o21))).bind fun s27 => (ix 11 7).bind fun i31 => (some (uh s27 52 i31 (w32 (s27 a1 2)))).bind fun s33 => (ix 11 8).bind fun i37 => (some (uh s33 52 i37 (w32 (bAnd p4 1)))).bind fun s39 => (ix 4 p3).bind fun i43 => (ix 11 9).bind fun i45 => (some (uh s39 52 i45 (w32 (s39 (a1 + 8) i43)))).bind fun s47 => (ix 11 10).bind fun i51 => (some (uh s47 52 i51 (w32 (s47 a1 3)))).bind fun s53 => (lp (fun (q : Int × Int × Hp) => xk_quote_b105 ln rs q.2.2 a1 u2 p3 o11 q.1 q.2.1) (0, 0, s53)).bind fun q57 => some (q57.1, q57.2.2)
set_option maxRecDepth 100000 in
theorem xk_quote_ok {d : Nat} {P : Option Value → pm_H → Prop} {w : pm_H} {sh : Shp} {w0 : pm_H} {s : Hp} (hS : St sh) {ln : Nat → Nat} {rs : Nat → Int} (hG : ∀ i, okR ln sh (rs i)) {a1 r1 : Nat} (ca1 : okC r1 sh a1) {u2 : Int} (hu2 : okR ln sh u2) {p3 : Int} {p4 : Int} (h : Rw sh w0 s w) {o : Int × Hp} (hx : xk_quote ln rs s a1 u2 p3 p4 = some o) (kr : ∀ w1, Rw sh w0 o.2 w1 → P (some (.int (Int32.ofInt o.1))) w1) : wp (d + 7) 36 0 (lv_args 0 [.ref 41, .ref a1, vR u2, .int (Int32.ofInt p3), .int (Int32.ofInt p4)]) [] w P := by
  rw [show lv_args 0 [.ref 41, .ref a1, vR u2, .int (Int32.ofInt p3), .int (Int32.ofInt p4)] = [(0, .ref 41), (1, .ref a1), (2, vR u2), (3, .int (Int32.ofInt p3)), (4, .int (Int32.ofInt p4))] from by rcases vR_c u2 with e | ⟨_, e⟩ <;> simp only [e] <;> rfl]
  unfold xk_quote at hx
  refine wp_g 2 (pc1 := 2) (lv1 := [(0, .ref 41), (1, .ref a1), (2, vR u2), (3, .int (Int32.ofInt p3)), (4, .int (Int32.ofInt p4))]) (st1 := [.int (Int32.ofInt p3), .ref a1]) (w1 := w) (by rcases vR_c u2 with e | ⟨_, e⟩ <;> simp only [e] <;> rfl) ?_
  obtain ⟨o1, e2, hx⟩ := bd hx
  refine wp_cl [.ref a1, .int (Int32.ofInt p3)] [] (i := .invokevirtual 29) (ln := 3) (a := 7) (b := 0) (z := 0) (by decide +kernel) rfl rfl (by decide) rfl (show (2 : Nat) = pm_na 7 by decide +kernel) (Nat.le_of_ble_eq_true rfl) (show (2 : Nat) ≤ pm_n 7 by decide +kernel) (rcv_x 0 h ca1.1 (by decide +kernel)) (xl_hasPerson_ok (d := d + 6) hS ca1 h e2 ?_)
  show wp _ 36 5 [(0, .ref 41), (1, .ref a1), (2, vR u2), (3, .int (Int32.ofInt p3)), (4, .int (Int32.ofInt p4))] [.int (Int32.ofInt o1)] w _
  refine wz_eq (oo := 12) (ln := 3) (a := 17) (b := 0) (zz := 0) (by decide +kernel) (fun h5 => ?_) (fun h5 => ?_)
  · have hx := ite_t h5 hx
    refine wp_g 1 (pc1 := 19) (lv1 := [(0, .ref 41), (1, .ref a1), (2, vR u2), (3, .int (Int32.ofInt p3)), (4, .int (Int32.ofInt p4))]) (st1 := [.int (Int32.ofInt (-2))]) (w1 := w) (by rcases vR_c u2 with e | ⟨_, e⟩ <;> simp only [e] <;> rfl) ?_
    refine wp_rt (i := .ireturn) (r := some (.int (Int32.ofInt (-2)))) (ln := 1) (a := 0) (b := 0) (z := 0) (by decide +kernel) rfl (ret_ok (by decide +kernel)) ?_
    cases hx
    exact kr _ h
  · have hx := ite_f h5 hx
    refine wp_g 2 (pc1 := 11) (lv1 := [(0, .ref 41), (1, .ref a1), (2, vR u2), (3, .int (Int32.ofInt p3)), (4, .int (Int32.ofInt p4))]) (st1 := [.int (Int32.ofInt p4), .ref a1]) (w1 := w) (by rcases vR_c u2 with e | ⟨_, e⟩ <;> simp only [e] <;> rfl) ?_
    obtain ⟨o6, e7, hx⟩ := bd hx
    refine wp_cl [.ref a1, .int (Int32.ofInt p4)] [] (i := .invokevirtual 33) (ln := 3) (a := 15) (b := 0) (z := 0) (by decide +kernel) rfl rfl (by decide) rfl (show (2 : Nat) = pm_na 15 by decide +kernel) (Nat.le_of_ble_eq_true rfl) (show (2 : Nat) ≤ pm_n 15 by decide +kernel) (rcv_x 0 h ca1.1 (by decide +kernel)) (xl_creasesAllow_ok (d := d + 5) hS ca1 h e7 ?_)
    show wp _ 36 14 [(0, .ref 41), (1, .ref a1), (2, vR u2), (3, .int (Int32.ofInt p3)), (4, .int (Int32.ofInt p4))] [.int (Int32.ofInt o6)] w _
    refine wz_ne (oo := 6) (ln := 3) (a := 20) (b := 0) (zz := 0) (by decide +kernel) (fun h10 => ?_) (fun h10 => ?_)
    · have hx := ite_f h10 hx
      refine wp_g 2 (pc1 := 23) (lv1 := [(0, .ref 41), (1, .ref a1), (2, vR u2), (3, .int (Int32.ofInt p3)), (4, .int (Int32.ofInt p4))]) (st1 := [.int (Int32.ofInt p4), .ref a1]) (w1 := w) (by rcases vR_c u2 with e | ⟨_, e⟩ <;> simp only [e] <;> rfl) ?_
      obtain ⟨o11, e12, hx⟩ := bd hx
      refine wp_cl [.ref a1, .int (Int32.ofInt p4)] [] (i := .invokevirtual 36) (ln := 3) (a := 13) (b := 0) (z := 0) (by decide +kernel) rfl rfl (by decide) rfl (show (2 : Nat) = pm_na 13 by decide +kernel) (Nat.le_of_ble_eq_true rfl) (show (2 : Nat) ≤ pm_n 13 by decide +kernel) (rcv_x 0 h ca1.1 (by decide +kernel)) (xl_movedCells_ok (d := d + 5) hS ca1 h e12 ?_)
      show wp _ 36 26 [(0, .ref 41), (1, .ref a1), (2, vR u2), (3, .int (Int32.ofInt p3)), (4, .int (Int32.ofInt p4))] [.int (Int32.ofInt o11)] w _
      refine wp_g 2 (pc1 := 29) (lv1 := [(5, .int (Int32.ofInt o11)), (0, .ref 41), (1, .ref a1), (2, vR u2), (3, .int (Int32.ofInt p3)), (4, .int (Int32.ofInt p4))]) (st1 := [.ref 41]) (w1 := w) (by rcases vR_c u2 with e | ⟨_, e⟩ <;> simp only [e] <;> rfl) ?_
      refine wx_gr (o := 11) (kf := 22) (ln := 3) (ci := 3) (b := 2) (zz := 0) (x := 41) (by decide +kernel) h (hS _ _ sx_41) rfl ?_
      show wp _ 36 32 [(5, .int (Int32.ofInt o11)), (0, .ref 41), (1, .ref a1), (2, vR u2), (3, .int (Int32.ofInt p3)), (4, .int (Int32.ofInt p4))] [.ref 52] w _
      refine wp_g 3 (pc1 := 35) (lv1 := [(5, .int (Int32.ofInt o11)), (0, .ref 41), (1, .ref a1), (2, vR u2), (3, .int (Int32.ofInt p3)), (4, .int (Int32.ofInt p4))]) (st1 := [.long (Int64.ofInt (w32 p3)), .int (Int32.ofInt 2), .ref 52]) (w1 := w) (by simp only [Int32.ofInt_add, Int32.ofInt_sub, Int32.ofInt_mul, Int32.ofInt_neg, p_and, p_or, p_xor, p_shl, p_shr, p_usr, p_w8, p_c16, p_lI, q_and, q_or, q_shl, q_shr, q_w32, Int64.ofInt_add, Int64.ofInt_sub, Int64.ofInt_mul, p_mx, p_mn, q_mx, q_mn]; rcases vR_c u2 with e | ⟨_, e⟩ <;> simp only [e] <;> rfl) ?_
      obtain ⟨i15, e16, hx⟩ := bd hx
      obtain ⟨s17, e18, hx⟩ := bd hx
      refine wx_wl (x := 52) (n := 11) (ln := 1) (a := 0) (b := 0) (zz := 0) (by decide +kernel) h (hS _ _ sx_52) e16 e18 (fun w19 h20 => ?_)
      refine wp_g 1 (pc1 := 37) (lv1 := [(5, .int (Int32.ofInt o11)), (0, .ref 41), (1, .ref a1), (2, vR u2), (3, .int (Int32.ofInt p3)), (4, .int (Int32.ofInt p4))]) (st1 := [.ref 41]) (w1 := w19) (by rcases vR_c u2 with e | ⟨_, e⟩ <;> simp only [e] <;> rfl) ?_
      refine wx_gr (o := 11) (kf := 22) (ln := 3) (ci := 3) (b := 2) (zz := 0) (x := 41) (by decide +kernel) h20 (hS _ _ sx_41) rfl ?_
      show wp _ 36 40 [(5, .int (Int32.ofInt o11)), (0, .ref 41), (1, .ref a1), (2, vR u2), (3, .int (Int32.ofInt p3)), (4, .int (Int32.ofInt p4))] [.ref 52] w19 _
      refine wp_g 2 (pc1 := 44) (lv1 := [(5, .int (Int32.ofInt o11)), (0, .ref 41), (1, .ref a1), (2, vR u2), (3, .int (Int32.ofInt p3)), (4, .int (Int32.ofInt p4))]) (st1 := [.int (Int32.ofInt o11), .int (Int32.ofInt 6), .ref 52]) (w1 := w19) (by rcases vR_c u2 with e | ⟨_, e⟩ <;> simp only [e] <;> rfl) ?_
      obtain ⟨o21, e22, hx⟩ := bd hx
      refine wp_cl [.int (Int32.ofInt o11)] [.int (Int32.ofInt 6), .ref 52] (i := .invokestatic 40) (ln := 3) (a := 263) (b := 1) (z := 0) (by decide +kernel) rfl rfl (by decide) rfl (show (1 : Nat) = pm_na 263 by decide +kernel) (Nat.le_of_ble_eq_true rfl) (show (1 : Nat) ≤ pm_n 263 by decide +kernel) (by rw [show pm_k 263 = 1 by decide +kernel]; rfl) (xj_bitCount_ok (d := d + 6) e22 ?_)
      show wp _ 36 47 [(5, .int (Int32.ofInt o11)), (0, .ref 41), (1, .ref a1), (2, vR u2), (3, .int (Int32.ofInt p3)), (4, .int (Int32.ofInt p4))] [.int (Int32.ofInt o21), .int (Int32.ofInt 6), .ref 52] w19 _
      refine wp_g 1 (pc1 := 48) (lv1 := [(5, .int (Int32.ofInt o11)), (0, .ref 41), (1, .ref a1), (2, vR u2), (3, .int (Int32.ofInt p3)), (4, .int (Int32.ofInt p4))]) (st1 := [.long (Int64.ofInt (w32 o21)), .int (Int32.ofInt 6), .ref 52]) (w1 := w19) (by simp only [Int32.ofInt_add, Int32.ofInt_sub, Int32.ofInt_mul, Int32.ofInt_neg, p_and, p_or, p_xor, p_shl, p_shr, p_usr, p_w8, p_c16, p_lI, q_and, q_or, q_shl, q_shr, q_w32, Int64.ofInt_add, Int64.ofInt_sub, Int64.ofInt_mul, p_mx, p_mn, q_mx, q_mn]; rcases vR_c u2 with e | ⟨_, e⟩ <;> simp only [e] <;> rfl) ?_
      obtain ⟨i25, e26, hx⟩ := bd hx
      obtain ⟨s27, e28, hx⟩ := bd hx
      refine wx_wl (x := 52) (n := 11) (ln := 1) (a := 0) (b := 0) (zz := 0) (by decide +kernel) h20 (hS _ _ sx_52) e26 e28 (fun w29 h30 => ?_)
      refine wp_g 1 (pc1 := 50) (lv1 := [(5, .int (Int32.ofInt o11)), (0, .ref 41), (1, .ref a1), (2, vR u2), (3, .int (Int32.ofInt p3)), (4, .int (Int32.ofInt p4))]) (st1 := [.ref 41]) (w1 := w29) (by rcases vR_c u2 with e | ⟨_, e⟩ <;> simp only [e] <;> rfl) ?_
      refine wx_gr (o := 11) (kf := 22) (ln := 3) (ci := 3) (b := 2) (zz := 0) (x := 41) (by decide +kernel) h30 (hS _ _ sx_41) rfl ?_
      show wp _ 36 53 [(5, .int (Int32.ofInt o11)), (0, .ref 41), (1, .ref a1), (2, vR u2), (3, .int (Int32.ofInt p3)), (4, .int (Int32.ofInt p4))] [.ref 52] w29 _
      refine wp_g 2 (pc1 := 56) (lv1 := [(5, .int (Int32.ofInt o11)), (0, .ref 41), (1, .ref a1), (2, vR u2), (3, .int (Int32.ofInt p3)), (4, .int (Int32.ofInt p4))]) (st1 := [.ref a1, .int (Int32.ofInt 7), .ref 52]) (w1 := w29) (by rcases vR_c u2 with e | ⟨_, e⟩ <;> simp only [e] <;> rfl) ?_
      refine wx_gi (kf := 45) (ln := 3) (ci := 0) (b := 2) (zz := 0) (x := a1) (by decide +kernel) h30 ca1.1 rfl ?_
      show wp _ 36 59 [(5, .int (Int32.ofInt o11)), (0, .ref 41), (1, .ref a1), (2, vR u2), (3, .int (Int32.ofInt p3)), (4, .int (Int32.ofInt p4))] [.int (Int32.ofInt (s27 a1 2)), .int (Int32.ofInt 7), .ref 52] w29 _
      refine wp_g 1 (pc1 := 60) (lv1 := [(5, .int (Int32.ofInt o11)), (0, .ref 41), (1, .ref a1), (2, vR u2), (3, .int (Int32.ofInt p3)), (4, .int (Int32.ofInt p4))]) (st1 := [.long (Int64.ofInt (w32 (s27 a1 2))), .int (Int32.ofInt 7), .ref 52]) (w1 := w29) (by simp only [Int32.ofInt_add, Int32.ofInt_sub, Int32.ofInt_mul, Int32.ofInt_neg, p_and, p_or, p_xor, p_shl, p_shr, p_usr, p_w8, p_c16, p_lI, q_and, q_or, q_shl, q_shr, q_w32, Int64.ofInt_add, Int64.ofInt_sub, Int64.ofInt_mul, p_mx, p_mn, q_mx, q_mn]; rcases vR_c u2 with e | ⟨_, e⟩ <;> simp only [e] <;> rfl) ?_
      obtain ⟨i31, e32, hx⟩ := bd hx
      obtain ⟨s33, e34, hx⟩ := bd hx
      refine wx_wl (x := 52) (n := 11) (ln := 1) (a := 0) (b := 0) (zz := 0) (by decide +kernel) h30 (hS _ _ sx_52) e32 e34 (fun w35 h36 => ?_)
      refine wp_g 1 (pc1 := 62) (lv1 := [(5, .int (Int32.ofInt o11)), (0, .ref 41), (1, .ref a1), (2, vR u2), (3, .int (Int32.ofInt p3)), (4, .int (Int32.ofInt p4))]) (st1 := [.ref 41]) (w1 := w35) (by rcases vR_c u2 with e | ⟨_, e⟩ <;> simp only [e] <;> rfl) ?_
      refine wx_gr (o := 11) (kf := 22) (ln := 3) (ci := 3) (b := 2) (zz := 0) (x := 41) (by decide +kernel) h36 (hS _ _ sx_41) rfl ?_
      show wp _ 36 65 [(5, .int (Int32.ofInt o11)), (0, .ref 41), (1, .ref a1), (2, vR u2), (3, .int (Int32.ofInt p3)), (4, .int (Int32.ofInt p4))] [.ref 52] w35 _
      refine wp_g 5 (pc1 := 72) (lv1 := [(5, .int (Int32.ofInt o11)), (0, .ref 41), (1, .ref a1), (2, vR u2), (3, .int (Int32.ofInt p3)), (4, .int (Int32.ofInt p4))]) (st1 := [.long (Int64.ofInt (w32 (bAnd p4 1))), .int (Int32.ofInt 8), .ref 52]) (w1 := w35) (by simp only [Int32.ofInt_add, Int32.ofInt_sub, Int32.ofInt_mul, Int32.ofInt_neg, p_and, p_or, p_xor, p_shl, p_shr, p_usr, p_w8, p_c16, p_lI, q_and, q_or, q_shl, q_shr, q_w32, Int64.ofInt_add, Int64.ofInt_sub, Int64.ofInt_mul, p_mx, p_mn, q_mx, q_mn]; rcases vR_c u2 with e | ⟨_, e⟩ <;> simp only [e] <;> rfl) ?_
      obtain ⟨i37, e38, hx⟩ := bd hx
      obtain ⟨s39, e40, hx⟩ := bd hx
      refine wx_wl (x := 52) (n := 11) (ln := 1) (a := 0) (b := 0) (zz := 0) (by decide +kernel) h36 (hS _ _ sx_52) e38 e40 (fun w41 h42 => ?_)
      refine wp_g 1 (pc1 := 74) (lv1 := [(5, .int (Int32.ofInt o11)), (0, .ref 41), (1, .ref a1), (2, vR u2), (3, .int (Int32.ofInt p3)), (4, .int (Int32.ofInt p4))]) (st1 := [.ref 41]) (w1 := w41) (by rcases vR_c u2 with e | ⟨_, e⟩ <;> simp only [e] <;> rfl) ?_
      refine wx_gr (o := 11) (kf := 22) (ln := 3) (ci := 3) (b := 2) (zz := 0) (x := 41) (by decide +kernel) h42 (hS _ _ sx_41) rfl ?_
      show wp _ 36 77 [(5, .int (Int32.ofInt o11)), (0, .ref 41), (1, .ref a1), (2, vR u2), (3, .int (Int32.ofInt p3)), (4, .int (Int32.ofInt p4))] [.ref 52] w41 _
      refine wp_g 2 (pc1 := 80) (lv1 := [(5, .int (Int32.ofInt o11)), (0, .ref 41), (1, .ref a1), (2, vR u2), (3, .int (Int32.ofInt p3)), (4, .int (Int32.ofInt p4))]) (st1 := [.ref a1, .int (Int32.ofInt 9), .ref 52]) (w1 := w41) (by rcases vR_c u2 with e | ⟨_, e⟩ <;> simp only [e] <;> rfl) ?_
      refine wx_gr (o := 8) (kf := 49) (ln := 3) (ci := 0) (b := 11) (zz := 0) (x := a1) (by decide +kernel) h42 ca1.1 rfl ?_
      show wp _ 36 83 [(5, .int (Int32.ofInt o11)), (0, .ref 41), (1, .ref a1), (2, vR u2), (3, .int (Int32.ofInt p3)), (4, .int (Int32.ofInt p4))] [.ref (a1 + 8), .int (Int32.ofInt 9), .ref 52] w41 _
      refine wp_g 1 (pc1 := 84) (lv1 := [(5, .int (Int32.ofInt o11)), (0, .ref 41), (1, .ref a1), (2, vR u2), (3, .int (Int32.ofInt p3)), (4, .int (Int32.ofInt p4))]) (st1 := [.int (Int32.ofInt p3), .ref (a1 + 8), .int (Int32.ofInt 9), .ref 52]) (w1 := w41) (by rcases vR_c u2 with e | ⟨_, e⟩ <;> simp only [e] <;> rfl) ?_
      obtain ⟨i43, e44, hx⟩ := bd hx
      refine wx_ra (x := (a1 + 8)) (n := 4) (ln := 1) (a := 0) (b := 0) (zz := 0) (by decide +kernel) h42 ca1.2.2 e44 ?_
      show wp _ 36 85 [(5, .int (Int32.ofInt o11)), (0, .ref 41), (1, .ref a1), (2, vR u2), (3, .int (Int32.ofInt p3)), (4, .int (Int32.ofInt p4))] [.int (Int32.ofInt (s39 (a1 + 8) i43)), .int (Int32.ofInt 9), .ref 52] w41 _
      refine wp_g 1 (pc1 := 86) (lv1 := [(5, .int (Int32.ofInt o11)), (0, .ref 41), (1, .ref a1), (2, vR u2), (3, .int (Int32.ofInt p3)), (4, .int (Int32.ofInt p4))]) (st1 := [.long (Int64.ofInt (w32 (s39 (a1 + 8) i43))), .int (Int32.ofInt 9), .ref 52]) (w1 := w41) (by simp only [Int32.ofInt_add, Int32.ofInt_sub, Int32.ofInt_mul, Int32.ofInt_neg, p_and, p_or, p_xor, p_shl, p_shr, p_usr, p_w8, p_c16, p_lI, q_and, q_or, q_shl, q_shr, q_w32, Int64.ofInt_add, Int64.ofInt_sub, Int64.ofInt_mul, p_mx, p_mn, q_mx, q_mn]; rcases vR_c u2 with e | ⟨_, e⟩ <;> simp only [e] <;> rfl) ?_
      obtain ⟨i45, e46, hx⟩ := bd hx
      obtain ⟨s47, e48, hx⟩ := bd hx
      refine wx_wl (x := 52) (n := 11) (ln := 1) (a := 0) (b := 0) (zz := 0) (by decide +kernel) h42 (hS _ _ sx_52) e46 e48 (fun w49 h50 => ?_)
      refine wp_g 1 (pc1 := 88) (lv1 := [(5, .int (Int32.ofInt o11)), (0, .ref 41), (1, .ref a1), (2, vR u2), (3, .int (Int32.ofInt p3)), (4, .int (Int32.ofInt p4))]) (st1 := [.ref 41]) (w1 := w49) (by rcases vR_c u2 with e | ⟨_, e⟩ <;> simp only [e] <;> rfl) ?_
      refine wx_gr (o := 11) (kf := 22) (ln := 3) (ci := 3) (b := 2) (zz := 0) (x := 41) (by decide +kernel) h50 (hS _ _ sx_41) rfl ?_
      show wp _ 36 91 [(5, .int (Int32.ofInt o11)), (0, .ref 41), (1, .ref a1), (2, vR u2), (3, .int (Int32.ofInt p3)), (4, .int (Int32.ofInt p4))] [.ref 52] w49 _
      refine wp_g 2 (pc1 := 94) (lv1 := [(5, .int (Int32.ofInt o11)), (0, .ref 41), (1, .ref a1), (2, vR u2), (3, .int (Int32.ofInt p3)), (4, .int (Int32.ofInt p4))]) (st1 := [.ref a1, .int (Int32.ofInt 10), .ref 52]) (w1 := w49) (by rcases vR_c u2 with e | ⟨_, e⟩ <;> simp only [e] <;> rfl) ?_
      refine wx_gi (kf := 52) (ln := 3) (ci := 0) (b := 3) (zz := 0) (x := a1) (by decide +kernel) h50 ca1.1 rfl ?_
      show wp _ 36 97 [(5, .int (Int32.ofInt o11)), (0, .ref 41), (1, .ref a1), (2, vR u2), (3, .int (Int32.ofInt p3)), (4, .int (Int32.ofInt p4))] [.int (Int32.ofInt (s47 a1 3)), .int (Int32.ofInt 10), .ref 52] w49 _
      refine wp_g 1 (pc1 := 98) (lv1 := [(5, .int (Int32.ofInt o11)), (0, .ref 41), (1, .ref a1), (2, vR u2), (3, .int (Int32.ofInt p3)), (4, .int (Int32.ofInt p4))]) (st1 := [.long (Int64.ofInt (w32 (s47 a1 3))), .int (Int32.ofInt 10), .ref 52]) (w1 := w49) (by simp only [Int32.ofInt_add, Int32.ofInt_sub, Int32.ofInt_mul, Int32.ofInt_neg, p_and, p_or, p_xor, p_shl, p_shr, p_usr, p_w8, p_c16, p_lI, q_and, q_or, q_shl, q_shr, q_w32, Int64.ofInt_add, Int64.ofInt_sub, Int64.ofInt_mul, p_mx, p_mn, q_mx, q_mn]; rcases vR_c u2 with e | ⟨_, e⟩ <;> simp only [e] <;> rfl) ?_
      obtain ⟨i51, e52, hx⟩ := bd hx
      obtain ⟨s53, e54, hx⟩ := bd hx
      refine wx_wl (x := 52) (n := 11) (ln := 1) (a := 0) (b := 0) (zz := 0) (by decide +kernel) h50 (hS _ _ sx_52) e52 e54 (fun w55 h56 => ?_)
      refine wp_g 4 (pc1 := 105) (lv1 := [(7, .int (Int32.ofInt 0)), (6, .int (Int32.ofInt 0)), (5, .int (Int32.ofInt o11)), (0, .ref 41), (1, .ref a1), (2, vR u2), (3, .int (Int32.ofInt p3)), (4, .int (Int32.ofInt p4))]) (st1 := []) (w1 := w55) (by rcases vR_c u2 with e | ⟨_, e⟩ <;> simp only [e] <;> rfl) ?_
      refine wp_lv (lv1 := [(0, .ref 41), (1, .ref a1), (2, vR u2), (3, .int (Int32.ofInt p3)), (5, .int (Int32.ofInt o11)), (6, .int (Int32.ofInt 0)), (7, .int (Int32.ofInt 0))]) (lsub_p [3, 4, 5, 6, 2, 1, 0] rfl rfl rfl) ?_
      obtain ⟨q57, e58, hx⟩ := bd hx
      refine wp_lp (σ := Int × Int × Hp) (ρ := (Int × Int × Hp)) (B := fun q => xk_quote_b105 ln rs q.2.2 a1 u2 p3 o11 q.1 q.2.1) (R := fun q w' => Rw sh w0 q.2.2 w') (C := fun r => ∀ w1, Rw sh w0 r.2.2 w1 → wp (d + 7) 36 185 [(0, .ref 41), (1, .ref a1), (2, vR u2), (3, .int (Int32.ofInt p3)), (5, .int (Int32.ofInt o11)), (6, .int (Int32.ofInt r.1)), (7, .int (Int32.ofInt r.2.1))] [] w1 P) (lv := fun q => [(0, .ref 41), (1, .ref a1), (2, vR u2), (3, .int (Int32.ofInt p3)), (5, .int (Int32.ofInt o11)), (6, .int (Int32.ofInt q.1)), (7, .int (Int32.ofInt q.2.1))]) (hd := 105) (fun q w' o hR hb kn kc => xk_quote_b105_ok hS hG ca1 hu2 hR hb kn kc) _ _ _ e58 h56 ?_
      intro w59 h60
      show wp _ 36 185 [(0, .ref 41), (1, .ref a1), (2, vR u2), (3, .int (Int32.ofInt p3)), (5, .int (Int32.ofInt o11)), (6, .int (Int32.ofInt q57.1)), (7, .int (Int32.ofInt q57.2.1))] [] w59 _
      refine wp_g 1 (pc1 := 187) (lv1 := [(0, .ref 41), (1, .ref a1), (2, vR u2), (3, .int (Int32.ofInt p3)), (5, .int (Int32.ofInt o11)), (6, .int (Int32.ofInt q57.1)), (7, .int (Int32.ofInt q57.2.1))]) (st1 := [.int (Int32.ofInt q57.1)]) (w1 := w59) (by rcases vR_c u2 with e | ⟨_, e⟩ <;> simp only [e] <;> rfl) ?_
      refine wp_rt (i := .ireturn) (r := some (.int (Int32.ofInt q57.1))) (ln := 1) (a := 0) (b := 0) (z := 0) (by decide +kernel) rfl (ret_ok (by decide +kernel)) ?_
      cases hx
      exact kr _ h60
    · have hx := ite_t h10 hx
      refine wp_g 1 (pc1 := 19) (lv1 := [(0, .ref 41), (1, .ref a1), (2, vR u2), (3, .int (Int32.ofInt p3)), (4, .int (Int32.ofInt p4))]) (st1 := [.int (Int32.ofInt (-2))]) (w1 := w) (by rcases vR_c u2 with e | ⟨_, e⟩ <;> simp only [e] <;> rfl) ?_
      refine wp_rt (i := .ireturn) (r := some (.int (Int32.ofInt (-2)))) (ln := 1) (a := 0) (b := 0) (z := 0) (by decide +kernel) rfl (ret_ok (by decide +kernel)) ?_
      cases hx
      exact kr _ h
noncomputable def xk_settle_b11_j90 (s : Hp) (a1 : Nat) (x2 : Int) (x3 : Int) (x4 : Int) : Option ((Int × Hp) ⊕ (Int × Hp)) :=
  (xl_moves s 42 x4 x3).bind fun o1 => if w32 o1 = 0 then some (.inl (x4 + 1, s)) else (ix 8 x4).bind fun i6 => (some (uh s (a1 + 4) i6 x2)).bind fun s8 => some (.inl (x4 + 1, s8))
set_option maxRecDepth 100000 in
theorem xk_settle_b11_j90_ok {d : Nat} {P : Option Value → pm_H → Prop} {w : pm_H} {sh : Shp} {w0 : pm_H} {s : Hp} (hS : St sh) {a1 r1 : Nat} (ca1 : okC r1 sh a1) {x2 : Int} {x3 : Int} {x4 : Int} (h : Rw sh w0 s w) {o : ((Int × Hp) ⊕ (Int × Hp))} (hx : xk_settle_b11_j90 s a1 x2 x3 x4 = some o) (kn : ∀ (q : Int × Hp) w1, o = .inl q → Rw sh w0 q.2 w1 → wp (d + 8) 38 11 [(0, .ref 41), (1, .ref a1), (2, .int (Int32.ofInt x2)), (3, .int (Int32.ofInt x3)), (4, .int (Int32.ofInt q.1))] [] w1 P) (kc : ∀ (r : (Int × Hp)), o = .inr r → (∀ w1, Rw sh w0 r.2 w1 → wp (d + 8) 38 117 [(0, .ref 41), (1, .ref a1), (2, .int (Int32.ofInt x2)), (3, .int (Int32.ofInt x3)), (4, .int (Int32.ofInt r.1))] [] w1 P)) : wp (d + 8) 38 90 [(0, .ref 41), (1, .ref a1), (2, .int (Int32.ofInt x2)), (3, .int (Int32.ofInt x3)), (4, .int (Int32.ofInt x4))] [] w P := by
  unfold xk_settle_b11_j90 at hx
  refine wp_g 1 (pc1 := 91) (lv1 := [(0, .ref 41), (1, .ref a1), (2, .int (Int32.ofInt x2)), (3, .int (Int32.ofInt x3)), (4, .int (Int32.ofInt x4))]) (st1 := [.ref 41]) (w1 := w) rfl ?_
  refine wx_gr (o := 1) (kf := 12) (ln := 3) (ci := 3) (b := 0) (zz := 0) (x := 41) (by decide +kernel) h (hS _ _ sx_41) rfl ?_
  show wp _ 38 94 [(0, .ref 41), (1, .ref a1), (2, .int (Int32.ofInt x2)), (3, .int (Int32.ofInt x3)), (4, .int (Int32.ofInt x4))] [.ref 42] w _
  refine wp_g 2 (pc1 := 97) (lv1 := [(0, .ref 41), (1, .ref a1), (2, .int (Int32.ofInt x2)), (3, .int (Int32.ofInt x3)), (4, .int (Int32.ofInt x4))]) (st1 := [.int (Int32.ofInt x3), .int (Int32.ofInt x4), .ref 42]) (w1 := w) rfl ?_
  obtain ⟨o1, e2, hx⟩ := bd hx
  refine wp_cl [.ref 42, .int (Int32.ofInt x4), .int (Int32.ofInt x3)] [] (i := .invokevirtual 98) (ln := 3) (a := 12) (b := 0) (z := 0) (by decide +kernel) rfl rfl (by decide) rfl (show (3 : Nat) = pm_na 12 by decide +kernel) (Nat.le_of_ble_eq_true rfl) (show (3 : Nat) ≤ pm_n 12 by decide +kernel) (rcv_x 0 h (hS _ _ sx_42) (by decide +kernel)) (xl_moves_ok (d := d + 7) hS (okC_42 hS) h e2 ?_)
  show wp _ 38 100 [(0, .ref 41), (1, .ref a1), (2, .int (Int32.ofInt x2)), (3, .int (Int32.ofInt x3)), (4, .int (Int32.ofInt x4))] [.int (Int32.ofInt o1)] w _
  refine wz_eq (oo := 11) (ln := 3) (a := 111) (b := 0) (zz := 0) (by decide +kernel) (fun h5 => ?_) (fun h5 => ?_)
  · have hx := ite_t h5 hx
    refine wp_g 2 (pc1 := 11) (lv1 := [(4, .int (Int32.ofInt (x4 + 1))), (0, .ref 41), (1, .ref a1), (2, .int (Int32.ofInt x2)), (3, .int (Int32.ofInt x3))]) (st1 := []) (w1 := w) (by simp only [Int32.ofInt_add, Int32.ofInt_sub, Int32.ofInt_mul, Int32.ofInt_neg, p_and, p_or, p_xor, p_shl, p_shr, p_usr, p_w8, p_c16, p_lI, q_and, q_or, q_shl, q_shr, q_w32, Int64.ofInt_add, Int64.ofInt_sub, Int64.ofInt_mul, p_mx, p_mn, q_mx, q_mn]; rfl) ?_
    refine wp_lv (lv1 := [(0, .ref 41), (1, .ref a1), (2, .int (Int32.ofInt x2)), (3, .int (Int32.ofInt x3)), (4, .int (Int32.ofInt (x4 + 1)))]) (lsub_p [1, 2, 3, 4, 0] rfl rfl rfl) ?_
    cases hx
    exact kn _ _ rfl h
  · have hx := ite_f h5 hx
    refine wp_g 1 (pc1 := 104) (lv1 := [(0, .ref 41), (1, .ref a1), (2, .int (Int32.ofInt x2)), (3, .int (Int32.ofInt x3)), (4, .int (Int32.ofInt x4))]) (st1 := [.ref a1]) (w1 := w) rfl ?_
    refine wx_gr (o := 4) (kf := 58) (ln := 3) (ci := 0) (b := 7) (zz := 0) (x := a1) (by decide +kernel) h ca1.1 rfl ?_
    show wp _ 38 107 [(0, .ref 41), (1, .ref a1), (2, .int (Int32.ofInt x2)), (3, .int (Int32.ofInt x3)), (4, .int (Int32.ofInt x4))] [.ref (a1 + 4)] w _
    refine wp_g 2 (pc1 := 110) (lv1 := [(0, .ref 41), (1, .ref a1), (2, .int (Int32.ofInt x2)), (3, .int (Int32.ofInt x3)), (4, .int (Int32.ofInt x4))]) (st1 := [.int (Int32.ofInt x2), .int (Int32.ofInt x4), .ref (a1 + 4)]) (w1 := w) rfl ?_
    obtain ⟨i6, e7, hx⟩ := bd hx
    obtain ⟨s8, e9, hx⟩ := bd hx
    refine wx_wa (x := (a1 + 4)) (n := 8) (ln := 1) (a := 0) (b := 0) (zz := 0) (by decide +kernel) h (ca1.2.1 4 (by decide) (by decide)) e7 e9 (fun w10 h11 => ?_)
    refine wp_g 2 (pc1 := 11) (lv1 := [(4, .int (Int32.ofInt (x4 + 1))), (0, .ref 41), (1, .ref a1), (2, .int (Int32.ofInt x2)), (3, .int (Int32.ofInt x3))]) (st1 := []) (w1 := w10) (by simp only [Int32.ofInt_add, Int32.ofInt_sub, Int32.ofInt_mul, Int32.ofInt_neg, p_and, p_or, p_xor, p_shl, p_shr, p_usr, p_w8, p_c16, p_lI, q_and, q_or, q_shl, q_shr, q_w32, Int64.ofInt_add, Int64.ofInt_sub, Int64.ofInt_mul, p_mx, p_mn, q_mx, q_mn]; rfl) ?_
    refine wp_lv (lv1 := [(0, .ref 41), (1, .ref a1), (2, .int (Int32.ofInt x2)), (3, .int (Int32.ofInt x3)), (4, .int (Int32.ofInt (x4 + 1)))]) (lsub_p [1, 2, 3, 4, 0] rfl rfl rfl) ?_
    cases hx
    exact kn _ _ rfl h11
noncomputable def xk_settle_b11_j66 (s : Hp) (a1 : Nat) (x2 : Int) (x3 : Int) (x4 : Int) : Option ((Int × Hp) ⊕ (Int × Hp)) :=
  (xl_hasPerson s a1 x2).bind fun o1 => if w32 o1 = 0 then xk_settle_b11_j90 s a1 x2 x3 x4 else (ix 4 x2).bind fun i6 => (ix 8 x4).bind fun i8 => (some (uh s (a1 + 8) i6 ((s (a1 + 8) i6) - (s 51 i8)))).bind fun s10 => xk_settle_b11_j90 s10 a1 x2 x3 x4
set_option maxRecDepth 100000 in
theorem xk_settle_b11_j66_ok {d : Nat} {P : Option Value → pm_H → Prop} {w : pm_H} {sh : Shp} {w0 : pm_H} {s : Hp} (hS : St sh) {a1 r1 : Nat} (ca1 : okC r1 sh a1) {x2 : Int} {x3 : Int} {x4 : Int} (h : Rw sh w0 s w) {o : ((Int × Hp) ⊕ (Int × Hp))} (hx : xk_settle_b11_j66 s a1 x2 x3 x4 = some o) (kn : ∀ (q : Int × Hp) w1, o = .inl q → Rw sh w0 q.2 w1 → wp (d + 8) 38 11 [(0, .ref 41), (1, .ref a1), (2, .int (Int32.ofInt x2)), (3, .int (Int32.ofInt x3)), (4, .int (Int32.ofInt q.1))] [] w1 P) (kc : ∀ (r : (Int × Hp)), o = .inr r → (∀ w1, Rw sh w0 r.2 w1 → wp (d + 8) 38 117 [(0, .ref 41), (1, .ref a1), (2, .int (Int32.ofInt x2)), (3, .int (Int32.ofInt x3)), (4, .int (Int32.ofInt r.1))] [] w1 P)) : wp (d + 8) 38 66 [(0, .ref 41), (1, .ref a1), (2, .int (Int32.ofInt x2)), (3, .int (Int32.ofInt x3)), (4, .int (Int32.ofInt x4))] [] w P := by
  unfold xk_settle_b11_j66 at hx
  refine wp_g 2 (pc1 := 68) (lv1 := [(0, .ref 41), (1, .ref a1), (2, .int (Int32.ofInt x2)), (3, .int (Int32.ofInt x3)), (4, .int (Int32.ofInt x4))]) (st1 := [.int (Int32.ofInt x2), .ref a1]) (w1 := w) rfl ?_
  obtain ⟨o1, e2, hx⟩ := bd hx
  refine wp_cl [.ref a1, .int (Int32.ofInt x2)] [] (i := .invokevirtual 29) (ln := 3) (a := 7) (b := 0) (z := 0) (by decide +kernel) rfl rfl (by decide) rfl (show (2 : Nat) = pm_na 7 by decide +kernel) (Nat.le_of_ble_eq_true rfl) (show (2 : Nat) ≤ pm_n 7 by decide +kernel) (rcv_x 0 h ca1.1 (by decide +kernel)) (xl_hasPerson_ok (d := d + 7) hS ca1 h e2 ?_)
  show wp _ 38 71 [(0, .ref 41), (1, .ref a1), (2, .int (Int32.ofInt x2)), (3, .int (Int32.ofInt x3)), (4, .int (Int32.ofInt x4))] [.int (Int32.ofInt o1)] w _
  refine wz_eq (oo := 19) (ln := 3) (a := 90) (b := 0) (zz := 0) (by decide +kernel) (fun h5 => ?_) (fun h5 => ?_)
  · have hx := ite_t h5 hx
    exact xk_settle_b11_j90_ok hS ca1 h hx kn kc
  · have hx := ite_f h5 hx
    refine wp_g 1 (pc1 := 75) (lv1 := [(0, .ref 41), (1, .ref a1), (2, .int (Int32.ofInt x2)), (3, .int (Int32.ofInt x3)), (4, .int (Int32.ofInt x4))]) (st1 := [.ref a1]) (w1 := w) rfl ?_
    refine wx_gr (o := 8) (kf := 49) (ln := 3) (ci := 0) (b := 11) (zz := 0) (x := a1) (by decide +kernel) h ca1.1 rfl ?_
    show wp _ 38 78 [(0, .ref 41), (1, .ref a1), (2, .int (Int32.ofInt x2)), (3, .int (Int32.ofInt x3)), (4, .int (Int32.ofInt x4))] [.ref (a1 + 8)] w _
    refine wp_g 2 (pc1 := 80) (lv1 := [(0, .ref 41), (1, .ref a1), (2, .int (Int32.ofInt x2)), (3, .int (Int32.ofInt x3)), (4, .int (Int32.ofInt x4))]) (st1 := [.int (Int32.ofInt x2), .ref (a1 + 8), .int (Int32.ofInt x2), .ref (a1 + 8)]) (w1 := w) rfl ?_
    obtain ⟨i6, e7, hx⟩ := bd hx
    refine wx_ra (x := (a1 + 8)) (n := 4) (ln := 1) (a := 0) (b := 0) (zz := 0) (by decide +kernel) h ca1.2.2 e7 ?_
    show wp _ 38 81 [(0, .ref 41), (1, .ref a1), (2, .int (Int32.ofInt x2)), (3, .int (Int32.ofInt x3)), (4, .int (Int32.ofInt x4))] [.int (Int32.ofInt (s (a1 + 8) i6)), .int (Int32.ofInt x2), .ref (a1 + 8)] w _
    refine wp_g 1 (pc1 := 82) (lv1 := [(0, .ref 41), (1, .ref a1), (2, .int (Int32.ofInt x2)), (3, .int (Int32.ofInt x3)), (4, .int (Int32.ofInt x4))]) (st1 := [.ref 41, .int (Int32.ofInt (s (a1 + 8) i6)), .int (Int32.ofInt x2), .ref (a1 + 8)]) (w1 := w) rfl ?_
    refine wx_gr (o := 10) (kf := 18) (ln := 3) (ci := 3) (b := 1) (zz := 0) (x := 41) (by decide +kernel) h (hS _ _ sx_41) rfl ?_
    show wp _ 38 85 [(0, .ref 41), (1, .ref a1), (2, .int (Int32.ofInt x2)), (3, .int (Int32.ofInt x3)), (4, .int (Int32.ofInt x4))] [.ref 51, .int (Int32.ofInt (s (a1 + 8) i6)), .int (Int32.ofInt x2), .ref (a1 + 8)] w _
    refine wp_g 1 (pc1 := 87) (lv1 := [(0, .ref 41), (1, .ref a1), (2, .int (Int32.ofInt x2)), (3, .int (Int32.ofInt x3)), (4, .int (Int32.ofInt x4))]) (st1 := [.int (Int32.ofInt x4), .ref 51, .int (Int32.ofInt (s (a1 + 8) i6)), .int (Int32.ofInt x2), .ref (a1 + 8)]) (w1 := w) rfl ?_
    obtain ⟨i8, e9, hx⟩ := bd hx
    refine wx_ra (x := 51) (n := 8) (ln := 1) (a := 0) (b := 0) (zz := 0) (by decide +kernel) h (hS _ _ sx_51) e9 ?_
    show wp _ 38 88 [(0, .ref 41), (1, .ref a1), (2, .int (Int32.ofInt x2)), (3, .int (Int32.ofInt x3)), (4, .int (Int32.ofInt x4))] [.int (Int32.ofInt (s 51 i8)), .int (Int32.ofInt (s (a1 + 8) i6)), .int (Int32.ofInt x2), .ref (a1 + 8)] w _
    refine wp_g 1 (pc1 := 89) (lv1 := [(0, .ref 41), (1, .ref a1), (2, .int (Int32.ofInt x2)), (3, .int (Int32.ofInt x3)), (4, .int (Int32.ofInt x4))]) (st1 := [.int (Int32.ofInt ((s (a1 + 8) i6) - (s 51 i8))), .int (Int32.ofInt x2), .ref (a1 + 8)]) (w1 := w) (by simp only [Int32.ofInt_add, Int32.ofInt_sub, Int32.ofInt_mul, Int32.ofInt_neg, p_and, p_or, p_xor, p_shl, p_shr, p_usr, p_w8, p_c16, p_lI, q_and, q_or, q_shl, q_shr, q_w32, Int64.ofInt_add, Int64.ofInt_sub, Int64.ofInt_mul, p_mx, p_mn, q_mx, q_mn]; rfl) ?_
    obtain ⟨s10, e11, hx⟩ := bd hx
    refine wx_wa (x := (a1 + 8)) (n := 4) (ln := 1) (a := 0) (b := 0) (zz := 0) (by decide +kernel) h ca1.2.2 e7 e11 (fun w12 h13 => ?_)
    exact xk_settle_b11_j90_ok hS ca1 h13 hx kn kc
noncomputable def xk_settle_b11 (s : Hp) (a1 : Nat) (x2 : Int) (x3 : Int) (x4 : Int) : Option ((Int × Hp) ⊕ (Int × Hp)) :=
  if w32 x4 < w32 (s a1 0) then (ix 8 x4).bind fun i2 => (xl_hasPerson s a1 (s (a1 + 4) i2)).bind fun o4 => if w32 o4 = 0 then xk_settle_b11_j66 s a1 x2 x3 x4 else (ix 4 (s (a1 + 4) i2)).bind fun i9 => (some (uh s (a1 + 8) i9 (mnI 9999 ((s (a1 + 8) i9) + (s 51 i2))))).bind fun s11 => xk_settle_b11_j66 s11 a1 x2 x3 x4 else some (.inr (x4, s))
set_option maxRecDepth 100000 in
theorem xk_settle_b11_ok {d : Nat} {P : Option Value → pm_H → Prop} {w : pm_H} {sh : Shp} {w0 : pm_H} {s : Hp} (hS : St sh) {a1 r1 : Nat} (ca1 : okC r1 sh a1) {x2 : Int} {x3 : Int} {x4 : Int} (h : Rw sh w0 s w) {o : ((Int × Hp) ⊕ (Int × Hp))} (hx : xk_settle_b11 s a1 x2 x3 x4 = some o) (kn : ∀ (q : Int × Hp) w1, o = .inl q → Rw sh w0 q.2 w1 → wp (d + 8) 38 11 [(0, .ref 41), (1, .ref a1), (2, .int (Int32.ofInt x2)), (3, .int (Int32.ofInt x3)), (4, .int (Int32.ofInt q.1))] [] w1 P) (kc : ∀ (r : (Int × Hp)), o = .inr r → (∀ w1, Rw sh w0 r.2 w1 → wp (d + 8) 38 117 [(0, .ref 41), (1, .ref a1), (2, .int (Int32.ofInt x2)), (3, .int (Int32.ofInt x3)), (4, .int (Int32.ofInt r.1))] [] w1 P)) : wp (d + 8) 38 11 [(0, .ref 41), (1, .ref a1), (2, .int (Int32.ofInt x2)), (3, .int (Int32.ofInt x3)), (4, .int (Int32.ofInt x4))] [] w P := by
  unfold xk_settle_b11 at hx
  refine wp_g 2 (pc1 := 14) (lv1 := [(0, .ref 41), (1, .ref a1), (2, .int (Int32.ofInt x2)), (3, .int (Int32.ofInt x3)), (4, .int (Int32.ofInt x4))]) (st1 := [.ref a1, .int (Int32.ofInt x4)]) (w1 := w) rfl ?_
  refine wx_gi (kf := 55) (ln := 3) (ci := 0) (b := 0) (zz := 0) (x := a1) (by decide +kernel) h ca1.1 rfl ?_
  show wp _ 38 17 [(0, .ref 41), (1, .ref a1), (2, .int (Int32.ofInt x2)), (3, .int (Int32.ofInt x3)), (4, .int (Int32.ofInt x4))] [.int (Int32.ofInt (s a1 0)), .int (Int32.ofInt x4)] w _
  refine wx_ge (oo := 100) (ln := 3) (a := 117) (b := 0) (zz := 0) (by decide +kernel) (fun h1 => ?_) (fun h1 => ?_)
  · have hx := ite_f h1 hx
    cases hx
    exact kc _ rfl _ h
  · have hx := ite_t h1 hx
    refine wp_g 1 (pc1 := 21) (lv1 := [(0, .ref 41), (1, .ref a1), (2, .int (Int32.ofInt x2)), (3, .int (Int32.ofInt x3)), (4, .int (Int32.ofInt x4))]) (st1 := [.ref a1]) (w1 := w) rfl ?_
    refine wx_gr (o := 4) (kf := 58) (ln := 3) (ci := 0) (b := 7) (zz := 0) (x := a1) (by decide +kernel) h ca1.1 rfl ?_
    show wp _ 38 24 [(0, .ref 41), (1, .ref a1), (2, .int (Int32.ofInt x2)), (3, .int (Int32.ofInt x3)), (4, .int (Int32.ofInt x4))] [.ref (a1 + 4)] w _
    refine wp_g 1 (pc1 := 26) (lv1 := [(0, .ref 41), (1, .ref a1), (2, .int (Int32.ofInt x2)), (3, .int (Int32.ofInt x3)), (4, .int (Int32.ofInt x4))]) (st1 := [.int (Int32.ofInt x4), .ref (a1 + 4)]) (w1 := w) rfl ?_
    obtain ⟨i2, e3, hx⟩ := bd hx
    refine wx_ra (x := (a1 + 4)) (n := 8) (ln := 1) (a := 0) (b := 0) (zz := 0) (by decide +kernel) h (ca1.2.1 4 (by decide) (by decide)) e3 ?_
    show wp _ 38 27 [(0, .ref 41), (1, .ref a1), (2, .int (Int32.ofInt x2)), (3, .int (Int32.ofInt x3)), (4, .int (Int32.ofInt x4))] [.int (Int32.ofInt (s (a1 + 4) i2))] w _
    refine wp_g 3 (pc1 := 32) (lv1 := [(5, .int (Int32.ofInt (s (a1 + 4) i2))), (0, .ref 41), (1, .ref a1), (2, .int (Int32.ofInt x2)), (3, .int (Int32.ofInt x3)), (4, .int (Int32.ofInt x4))]) (st1 := [.int (Int32.ofInt (s (a1 + 4) i2)), .ref a1]) (w1 := w) rfl ?_
    obtain ⟨o4, e5, hx⟩ := bd hx
    refine wp_cl [.ref a1, .int (Int32.ofInt (s (a1 + 4) i2))] [] (i := .invokevirtual 29) (ln := 3) (a := 7) (b := 0) (z := 0) (by decide +kernel) rfl rfl (by decide) rfl (show (2 : Nat) = pm_na 7 by decide +kernel) (Nat.le_of_ble_eq_true rfl) (show (2 : Nat) ≤ pm_n 7 by decide +kernel) (rcv_x 0 h ca1.1 (by decide +kernel)) (xl_hasPerson_ok (d := d + 7) hS ca1 h e5 ?_)
    show wp _ 38 35 [(5, .int (Int32.ofInt (s (a1 + 4) i2))), (0, .ref 41), (1, .ref a1), (2, .int (Int32.ofInt x2)), (3, .int (Int32.ofInt x3)), (4, .int (Int32.ofInt x4))] [.int (Int32.ofInt o4)] w _
    refine wz_eq (oo := 31) (ln := 3) (a := 66) (b := 0) (zz := 0) (by decide +kernel) (fun h8 => ?_) (fun h8 => ?_)
    · have hx := ite_t h8 hx
      refine wp_lv (lv1 := [(0, .ref 41), (1, .ref a1), (2, .int (Int32.ofInt x2)), (3, .int (Int32.ofInt x3)), (4, .int (Int32.ofInt x4))]) (lsub_p [1, 2, 3, 4, 5] rfl rfl rfl) ?_
      exact xk_settle_b11_j66_ok hS ca1 h hx kn kc
    · have hx := ite_f h8 hx
      refine wp_g 1 (pc1 := 39) (lv1 := [(5, .int (Int32.ofInt (s (a1 + 4) i2))), (0, .ref 41), (1, .ref a1), (2, .int (Int32.ofInt x2)), (3, .int (Int32.ofInt x3)), (4, .int (Int32.ofInt x4))]) (st1 := [.ref a1]) (w1 := w) rfl ?_
      refine wx_gr (o := 8) (kf := 49) (ln := 3) (ci := 0) (b := 11) (zz := 0) (x := a1) (by decide +kernel) h ca1.1 rfl ?_
      show wp _ 38 42 [(5, .int (Int32.ofInt (s (a1 + 4) i2))), (0, .ref 41), (1, .ref a1), (2, .int (Int32.ofInt x2)), (3, .int (Int32.ofInt x3)), (4, .int (Int32.ofInt x4))] [.ref (a1 + 8)] w _
      refine wp_g 3 (pc1 := 48) (lv1 := [(5, .int (Int32.ofInt (s (a1 + 4) i2))), (0, .ref 41), (1, .ref a1), (2, .int (Int32.ofInt x2)), (3, .int (Int32.ofInt x3)), (4, .int (Int32.ofInt x4))]) (st1 := [.ref a1, .int (Int32.ofInt 9999), .int (Int32.ofInt (s (a1 + 4) i2)), .ref (a1 + 8)]) (w1 := w) rfl ?_
      refine wx_gr (o := 8) (kf := 49) (ln := 3) (ci := 0) (b := 11) (zz := 0) (x := a1) (by decide +kernel) h ca1.1 rfl ?_
      show wp _ 38 51 [(5, .int (Int32.ofInt (s (a1 + 4) i2))), (0, .ref 41), (1, .ref a1), (2, .int (Int32.ofInt x2)), (3, .int (Int32.ofInt x3)), (4, .int (Int32.ofInt x4))] [.ref (a1 + 8), .int (Int32.ofInt 9999), .int (Int32.ofInt (s (a1 + 4) i2)), .ref (a1 + 8)] w _
      refine wp_g 1 (pc1 := 53) (lv1 := [(5, .int (Int32.ofInt (s (a1 + 4) i2))), (0, .ref 41), (1, .ref a1), (2, .int (Int32.ofInt x2)), (3, .int (Int32.ofInt x3)), (4, .int (Int32.ofInt x4))]) (st1 := [.int (Int32.ofInt (s (a1 + 4) i2)), .ref (a1 + 8), .int (Int32.ofInt 9999), .int (Int32.ofInt (s (a1 + 4) i2)), .ref (a1 + 8)]) (w1 := w) rfl ?_
      obtain ⟨i9, e10, hx⟩ := bd hx
      refine wx_ra (x := (a1 + 8)) (n := 4) (ln := 1) (a := 0) (b := 0) (zz := 0) (by decide +kernel) h ca1.2.2 e10 ?_
      show wp _ 38 54 [(5, .int (Int32.ofInt (s (a1 + 4) i2))), (0, .ref 41), (1, .ref a1), (2, .int (Int32.ofInt x2)), (3, .int (Int32.ofInt x3)), (4, .int (Int32.ofInt x4))] [.int (Int32.ofInt (s (a1 + 8) i9)), .int (Int32.ofInt 9999), .int (Int32.ofInt (s (a1 + 4) i2)), .ref (a1 + 8)] w _
      refine wp_g 1 (pc1 := 55) (lv1 := [(5, .int (Int32.ofInt (s (a1 + 4) i2))), (0, .ref 41), (1, .ref a1), (2, .int (Int32.ofInt x2)), (3, .int (Int32.ofInt x3)), (4, .int (Int32.ofInt x4))]) (st1 := [.ref 41, .int (Int32.ofInt (s (a1 + 8) i9)), .int (Int32.ofInt 9999), .int (Int32.ofInt (s (a1 + 4) i2)), .ref (a1 + 8)]) (w1 := w) rfl ?_
      refine wx_gr (o := 10) (kf := 18) (ln := 3) (ci := 3) (b := 1) (zz := 0) (x := 41) (by decide +kernel) h (hS _ _ sx_41) rfl ?_
      show wp _ 38 58 [(5, .int (Int32.ofInt (s (a1 + 4) i2))), (0, .ref 41), (1, .ref a1), (2, .int (Int32.ofInt x2)), (3, .int (Int32.ofInt x3)), (4, .int (Int32.ofInt x4))] [.ref 51, .int (Int32.ofInt (s (a1 + 8) i9)), .int (Int32.ofInt 9999), .int (Int32.ofInt (s (a1 + 4) i2)), .ref (a1 + 8)] w _
      refine wp_g 1 (pc1 := 60) (lv1 := [(5, .int (Int32.ofInt (s (a1 + 4) i2))), (0, .ref 41), (1, .ref a1), (2, .int (Int32.ofInt x2)), (3, .int (Int32.ofInt x3)), (4, .int (Int32.ofInt x4))]) (st1 := [.int (Int32.ofInt x4), .ref 51, .int (Int32.ofInt (s (a1 + 8) i9)), .int (Int32.ofInt 9999), .int (Int32.ofInt (s (a1 + 4) i2)), .ref (a1 + 8)]) (w1 := w) rfl ?_
      refine wx_ra (x := 51) (n := 8) (ln := 1) (a := 0) (b := 0) (zz := 0) (by decide +kernel) h (hS _ _ sx_51) e3 ?_
      show wp _ 38 61 [(5, .int (Int32.ofInt (s (a1 + 4) i2))), (0, .ref 41), (1, .ref a1), (2, .int (Int32.ofInt x2)), (3, .int (Int32.ofInt x3)), (4, .int (Int32.ofInt x4))] [.int (Int32.ofInt (s 51 i2)), .int (Int32.ofInt (s (a1 + 8) i9)), .int (Int32.ofInt 9999), .int (Int32.ofInt (s (a1 + 4) i2)), .ref (a1 + 8)] w _
      refine wp_g 1 (pc1 := 62) (lv1 := [(5, .int (Int32.ofInt (s (a1 + 4) i2))), (0, .ref 41), (1, .ref a1), (2, .int (Int32.ofInt x2)), (3, .int (Int32.ofInt x3)), (4, .int (Int32.ofInt x4))]) (st1 := [.int (Int32.ofInt ((s (a1 + 8) i9) + (s 51 i2))), .int (Int32.ofInt 9999), .int (Int32.ofInt (s (a1 + 4) i2)), .ref (a1 + 8)]) (w1 := w) (by simp only [Int32.ofInt_add, Int32.ofInt_sub, Int32.ofInt_mul, Int32.ofInt_neg, p_and, p_or, p_xor, p_shl, p_shr, p_usr, p_w8, p_c16, p_lI, q_and, q_or, q_shl, q_shr, q_w32, Int64.ofInt_add, Int64.ofInt_sub, Int64.ofInt_mul, p_mx, p_mn, q_mx, q_mn]; rfl) ?_
      refine wp_lb (i := .invokestatic 95) (ln := 3) (a := 1002) (b := 9) (z := 0) (st1 := [.int (Int32.ofInt (mnI 9999 ((s (a1 + 8) i9) + (s 51 i2)))), .int (Int32.ofInt (s (a1 + 4) i2)), .ref (a1 + 8)]) (w1 := w) (by decide +kernel) rfl rfl (by decide) (by simp only [Int32.ofInt_add, Int32.ofInt_sub, Int32.ofInt_mul, Int32.ofInt_neg, p_and, p_or, p_xor, p_shl, p_shr, p_usr, p_w8, p_c16, p_lI, q_and, q_or, q_shl, q_shr, q_w32, Int64.ofInt_add, Int64.ofInt_sub, Int64.ofInt_mul, p_mx, p_mn, q_mx, q_mn]; rfl) (Nat.le_of_ble_eq_true rfl) (by omega) ?_
      obtain ⟨s11, e12, hx⟩ := bd hx
      refine wx_wa (x := (a1 + 8)) (n := 4) (ln := 1) (a := 0) (b := 0) (zz := 0) (by decide +kernel) h ca1.2.2 e10 e12 (fun w13 h14 => ?_)
      refine wp_lv (lv1 := [(0, .ref 41), (1, .ref a1), (2, .int (Int32.ofInt x2)), (3, .int (Int32.ofInt x3)), (4, .int (Int32.ofInt x4))]) (lsub_p [1, 2, 3, 4, 5] rfl rfl rfl) ?_
      exact xk_settle_b11_j66_ok hS ca1 h14 hx kn kc
/-- Market.settle (LCloth;II)V -/
noncomputable def xk_settle (s : Hp) (a1 : Nat) (p2 : Int) (p3 : Int) : Option Hp :=
  (xl_copyFrom s 42 a1).bind fun o1 => (lp (fun (q : Int × Hp) => xk_settle_b11 q.2 a1 p2 p3 q.1) (0, o1)).bind fun q5 => (xl_lieFolded q5.2 a1 42 p3).bind fun o9 => (some (uh o9 a1 3 (mnI 9999 ((o9 a1 3) + 1)))).bind fun s13 => some s13
set_option maxRecDepth 100000 in
theorem xk_settle_ok {d : Nat} {P : Option Value → pm_H → Prop} {w : pm_H} {sh : Shp} {w0 : pm_H} {s : Hp} (hS : St sh) {a1 r1 : Nat} (ca1 : okC r1 sh a1) {p2 : Int} {p3 : Int} (h : Rw sh w0 s w) {o : Hp} (hx : xk_settle s a1 p2 p3 = some o) (kr : ∀ w1, Rw sh w0 o w1 → P none w1) : wp (d + 8) 38 0 (lv_args 0 [.ref 41, .ref a1, .int (Int32.ofInt p2), .int (Int32.ofInt p3)]) [] w P := by
  show wp _ 38 0 [(0, .ref 41), (1, .ref a1), (2, .int (Int32.ofInt p2)), (3, .int (Int32.ofInt p3))] [] w _
  unfold xk_settle at hx
  refine wp_g 1 (pc1 := 1) (lv1 := [(0, .ref 41), (1, .ref a1), (2, .int (Int32.ofInt p2)), (3, .int (Int32.ofInt p3))]) (st1 := [.ref 41]) (w1 := w) rfl ?_
  refine wx_gr (o := 1) (kf := 12) (ln := 3) (ci := 3) (b := 0) (zz := 0) (x := 41) (by decide +kernel) h (hS _ _ sx_41) rfl ?_
  show wp _ 38 4 [(0, .ref 41), (1, .ref a1), (2, .int (Int32.ofInt p2)), (3, .int (Int32.ofInt p3))] [.ref 42] w _
  refine wp_g 1 (pc1 := 5) (lv1 := [(0, .ref 41), (1, .ref a1), (2, .int (Int32.ofInt p2)), (3, .int (Int32.ofInt p3))]) (st1 := [.ref a1, .ref 42]) (w1 := w) rfl ?_
  obtain ⟨o1, e2, hx⟩ := bd hx
  refine wp_cl [.ref 42, .ref a1] [] (i := .invokevirtual 91) (ln := 3) (a := 1) (b := 0) (z := 0) (by decide +kernel) rfl rfl (by decide) rfl (show (2 : Nat) = pm_na 1 by decide +kernel) (Nat.le_of_ble_eq_true rfl) (show (2 : Nat) ≤ pm_n 1 by decide +kernel) (rcv_x 0 h (hS _ _ sx_42) (by decide +kernel)) (xl_copyFrom_ok (d := d + 1) hS (okC_42 hS) ca1 h e2 (fun w3 h4 => ?_))
  show wp _ 38 8 [(0, .ref 41), (1, .ref a1), (2, .int (Int32.ofInt p2)), (3, .int (Int32.ofInt p3))] [] w3 _
  refine wp_g 2 (pc1 := 11) (lv1 := [(4, .int (Int32.ofInt 0)), (0, .ref 41), (1, .ref a1), (2, .int (Int32.ofInt p2)), (3, .int (Int32.ofInt p3))]) (st1 := []) (w1 := w3) rfl ?_
  refine wp_lv (lv1 := [(0, .ref 41), (1, .ref a1), (2, .int (Int32.ofInt p2)), (3, .int (Int32.ofInt p3)), (4, .int (Int32.ofInt 0))]) (lsub_p [1, 2, 3, 4, 0] rfl rfl rfl) ?_
  obtain ⟨q5, e6, hx⟩ := bd hx
  refine wp_lp (σ := Int × Hp) (ρ := (Int × Hp)) (B := fun q => xk_settle_b11 q.2 a1 p2 p3 q.1) (R := fun q w' => Rw sh w0 q.2 w') (C := fun r => ∀ w1, Rw sh w0 r.2 w1 → wp (d + 8) 38 117 [(0, .ref 41), (1, .ref a1), (2, .int (Int32.ofInt p2)), (3, .int (Int32.ofInt p3)), (4, .int (Int32.ofInt r.1))] [] w1 P) (lv := fun q => [(0, .ref 41), (1, .ref a1), (2, .int (Int32.ofInt p2)), (3, .int (Int32.ofInt p3)), (4, .int (Int32.ofInt q.1))]) (hd := 11) (fun q w' o hR hb kn kc => xk_settle_b11_ok hS ca1 hR hb kn kc) _ _ _ e6 h4 ?_
  intro w7 h8
  show wp _ 38 117 [(0, .ref 41), (1, .ref a1), (2, .int (Int32.ofInt p2)), (3, .int (Int32.ofInt p3)), (4, .int (Int32.ofInt q5.1))] [] w7 _
  refine wp_g 2 (pc1 := 119) (lv1 := [(0, .ref 41), (1, .ref a1), (2, .int (Int32.ofInt p2)), (3, .int (Int32.ofInt p3)), (4, .int (Int32.ofInt q5.1))]) (st1 := [.ref 41, .ref a1]) (w1 := w7) rfl ?_
  refine wx_gr (o := 1) (kf := 12) (ln := 3) (ci := 3) (b := 0) (zz := 0) (x := 41) (by decide +kernel) h8 (hS _ _ sx_41) rfl ?_
  show wp _ 38 122 [(0, .ref 41), (1, .ref a1), (2, .int (Int32.ofInt p2)), (3, .int (Int32.ofInt p3)), (4, .int (Int32.ofInt q5.1))] [.ref 42, .ref a1] w7 _
  refine wp_g 1 (pc1 := 123) (lv1 := [(0, .ref 41), (1, .ref a1), (2, .int (Int32.ofInt p2)), (3, .int (Int32.ofInt p3)), (4, .int (Int32.ofInt q5.1))]) (st1 := [.int (Int32.ofInt p3), .ref 42, .ref a1]) (w1 := w7) rfl ?_
  obtain ⟨o9, e10, hx⟩ := bd hx
  refine wp_cl [.ref a1, .ref 42, .int (Int32.ofInt p3)] [] (i := .invokevirtual 102) (ln := 3) (a := 18) (b := 0) (z := 0) (by decide +kernel) rfl rfl (by decide) rfl (show (3 : Nat) = pm_na 18 by decide +kernel) (Nat.le_of_ble_eq_true rfl) (show (3 : Nat) ≤ pm_n 18 by decide +kernel) (rcv_x 0 h8 ca1.1 (by decide +kernel)) (xl_lieFolded_ok (d := d) hS ca1 (okC_42 hS) h8 e10 (fun w11 h12 => ?_))
  show wp _ 38 126 [(0, .ref 41), (1, .ref a1), (2, .int (Int32.ofInt p2)), (3, .int (Int32.ofInt p3)), (4, .int (Int32.ofInt q5.1))] [] w11 _
  refine wp_g 3 (pc1 := 131) (lv1 := [(0, .ref 41), (1, .ref a1), (2, .int (Int32.ofInt p2)), (3, .int (Int32.ofInt p3)), (4, .int (Int32.ofInt q5.1))]) (st1 := [.ref a1, .int (Int32.ofInt 9999), .ref a1]) (w1 := w11) rfl ?_
  refine wx_gi (kf := 52) (ln := 3) (ci := 0) (b := 3) (zz := 0) (x := a1) (by decide +kernel) h12 ca1.1 rfl ?_
  show wp _ 38 134 [(0, .ref 41), (1, .ref a1), (2, .int (Int32.ofInt p2)), (3, .int (Int32.ofInt p3)), (4, .int (Int32.ofInt q5.1))] [.int (Int32.ofInt (o9 a1 3)), .int (Int32.ofInt 9999), .ref a1] w11 _
  refine wp_g 2 (pc1 := 136) (lv1 := [(0, .ref 41), (1, .ref a1), (2, .int (Int32.ofInt p2)), (3, .int (Int32.ofInt p3)), (4, .int (Int32.ofInt q5.1))]) (st1 := [.int (Int32.ofInt ((o9 a1 3) + 1)), .int (Int32.ofInt 9999), .ref a1]) (w1 := w11) (by simp only [Int32.ofInt_add, Int32.ofInt_sub, Int32.ofInt_mul, Int32.ofInt_neg, p_and, p_or, p_xor, p_shl, p_shr, p_usr, p_w8, p_c16, p_lI, q_and, q_or, q_shl, q_shr, q_w32, Int64.ofInt_add, Int64.ofInt_sub, Int64.ofInt_mul, p_mx, p_mn, q_mx, q_mn]; rfl) ?_
  refine wp_lb (i := .invokestatic 95) (ln := 3) (a := 1002) (b := 9) (z := 0) (st1 := [.int (Int32.ofInt (mnI 9999 ((o9 a1 3) + 1))), .ref a1]) (w1 := w11) (by decide +kernel) rfl rfl (by decide) (by simp only [Int32.ofInt_add, Int32.ofInt_sub, Int32.ofInt_mul, Int32.ofInt_neg, p_and, p_or, p_xor, p_shl, p_shr, p_usr, p_w8, p_c16, p_lI, q_and, q_or, q_shl, q_shr, q_w32, Int64.ofInt_add, Int64.ofInt_sub, Int64.ofInt_mul, p_mx, p_mn, q_mx, q_mn]; rfl) (Nat.le_of_ble_eq_true rfl) (by omega) ?_
  obtain ⟨s13, e14, hx⟩ := bd hx
  refine wx_pi (kf := 52) (ln := 3) (ci := 0) (b := 3) (zz := 0) (x := a1) (by decide +kernel) h12 ca1.1 rfl (by decide +kernel) e14 (fun w15 h16 => ?_)
  refine wp_rt (i := .return_) (r := none) (ln := 1) (a := 0) (b := 0) (z := 0) (by decide +kernel) rfl (ret_v (by decide +kernel)) ?_
  cases hx
  exact kr _ h16
noncomputable def xs_begin_b23 (s : Hp) (a0 : Nat) (a1 : Nat) (x2 : Int) : Option ((Int × Hp) ⊕ (Int × Hp)) :=
  if w32 x2 < w32 8 then (ix 8 x2).bind fun i2 => (some (uh s (a0 + 19) i2 0)).bind fun s4 => some (.inl (x2 + 1, s4)) else some (.inr (x2, s))
set_option maxRecDepth 100000 in
theorem xs_begin_b23_ok {d : Nat} {P : Option Value → pm_H → Prop} {w : pm_H} {sh : Shp} {w0 : pm_H} {s : Hp} (hS : St sh) {a0 r0 : Nat} (ca0 : okS r0 sh a0) {a1 r1 : Nat} (ca1 : okC r1 sh a1) {x2 : Int} (h : Rw sh w0 s w) {o : ((Int × Hp) ⊕ (Int × Hp))} (hx : xs_begin_b23 s a0 a1 x2 = some o) (kn : ∀ (q : Int × Hp) w1, o = .inl q → Rw sh w0 q.2 w1 → wp (d + 7) 61 23 [(0, .ref a0), (2, .int (Int32.ofInt q.1))] [] w1 P) (kc : ∀ (r : (Int × Hp)), o = .inr r → (∀ w1, Rw sh w0 r.2 w1 → wp (d + 7) 61 42 [(0, .ref a0), (2, .int (Int32.ofInt r.1))] [] w1 P)) : wp (d + 7) 61 23 [(0, .ref a0), (2, .int (Int32.ofInt x2))] [] w P := by
  unfold xs_begin_b23 at hx
  refine wp_g 2 (pc1 := 26) (lv1 := [(0, .ref a0), (2, .int (Int32.ofInt x2))]) (st1 := [.int (Int32.ofInt 8), .int (Int32.ofInt x2)]) (w1 := w) rfl ?_
  refine wx_ge (oo := 16) (ln := 3) (a := 42) (b := 0) (zz := 0) (by decide +kernel) (fun h1 => ?_) (fun h1 => ?_)
  · have hx := ite_f h1 hx
    cases hx
    exact kc _ rfl _ h
  · have hx := ite_t h1 hx
    refine wp_g 1 (pc1 := 30) (lv1 := [(0, .ref a0), (2, .int (Int32.ofInt x2))]) (st1 := [.ref a0]) (w1 := w) rfl ?_
    refine wx_gr (o := 19) (kf := 21) (ln := 3) (ci := 7) (b := 2) (zz := 0) (x := a0) (by decide +kernel) h ca0.1 rfl ?_
    show wp _ 61 33 [(0, .ref a0), (2, .int (Int32.ofInt x2))] [.ref (a0 + 19)] w _
    refine wp_g 2 (pc1 := 35) (lv1 := [(0, .ref a0), (2, .int (Int32.ofInt x2))]) (st1 := [.int (Int32.ofInt 0), .int (Int32.ofInt x2), .ref (a0 + 19)]) (w1 := w) rfl ?_
    obtain ⟨i2, e3, hx⟩ := bd hx
    obtain ⟨s4, e5, hx⟩ := bd hx
    refine wx_wa (x := (a0 + 19)) (n := 8) (ln := 1) (a := 0) (b := 0) (zz := 0) (by decide +kernel) h ca0.2.2.2.1 e3 e5 (fun w6 h7 => ?_)
    refine wp_g 2 (pc1 := 23) (lv1 := [(2, .int (Int32.ofInt (x2 + 1))), (0, .ref a0)]) (st1 := []) (w1 := w6) (by simp only [Int32.ofInt_add, Int32.ofInt_sub, Int32.ofInt_mul, Int32.ofInt_neg, p_and, p_or, p_xor, p_shl, p_shr, p_usr, p_w8, p_c16, p_lI, q_and, q_or, q_shl, q_shr, q_w32, Int64.ofInt_add, Int64.ofInt_sub, Int64.ofInt_mul, p_mx, p_mn, q_mx, q_mn]; rfl) ?_
    refine wp_lv (lv1 := [(0, .ref a0), (2, .int (Int32.ofInt (x2 + 1)))]) (lsub_p [1, 0] rfl rfl rfl) ?_
    cases hx
    exact kn _ _ rfl h7
/-- Sheet.begin (LCloth;)V -/
noncomputable def xs_begin (s : Hp) (a0 : Nat) (a1 : Nat) : Option Hp :=
  (xl_copyFrom s (a0 + 1) a1).bind fun o1 => (xl_copyFrom o1 (a0 + 10) a1).bind fun o5 => (some (uh o5 a0 5 0)).bind fun s9 => (lp (fun (q : Int × Hp) => xs_begin_b23 q.2 a0 a1 q.1) (0, s9)).bind fun q13 => some q13.2
set_option maxRecDepth 100000 in
theorem xs_begin_ok {d : Nat} {P : Option Value → pm_H → Prop} {w : pm_H} {sh : Shp} {w0 : pm_H} {s : Hp} (hS : St sh) {a0 r0 : Nat} (ca0 : okS r0 sh a0) {a1 r1 : Nat} (ca1 : okC r1 sh a1) (h : Rw sh w0 s w) {o : Hp} (hx : xs_begin s a0 a1 = some o) (kr : ∀ w1, Rw sh w0 o w1 → P none w1) : wp (d + 7) 61 0 (lv_args 0 [.ref a0, .ref a1]) [] w P := by
  show wp _ 61 0 [(0, .ref a0), (1, .ref a1)] [] w _
  unfold xs_begin at hx
  refine wp_g 1 (pc1 := 1) (lv1 := [(0, .ref a0), (1, .ref a1)]) (st1 := [.ref a0]) (w1 := w) rfl ?_
  refine wx_gr (o := 1) (kf := 12) (ln := 3) (ci := 7) (b := 0) (zz := 0) (x := a0) (by decide +kernel) h ca0.1 rfl ?_
  show wp _ 61 4 [(0, .ref a0), (1, .ref a1)] [.ref (a0 + 1)] w _
  refine wp_g 1 (pc1 := 5) (lv1 := [(0, .ref a0), (1, .ref a1)]) (st1 := [.ref a1, .ref (a0 + 1)]) (w1 := w) rfl ?_
  obtain ⟨o1, e2, hx⟩ := bd hx
  refine wp_cl [.ref (a0 + 1), .ref a1] [] (i := .invokevirtual 41) (ln := 3) (a := 1) (b := 0) (z := 0) (by decide +kernel) rfl rfl (by decide) rfl (show (2 : Nat) = pm_na 1 by decide +kernel) (Nat.le_of_ble_eq_true rfl) (show (2 : Nat) ≤ pm_n 1 by decide +kernel) (rcv_x 0 h ca0.2.1.1 (by decide +kernel)) (xl_copyFrom_ok (d := d) hS ca0.2.1 ca1 h e2 (fun w3 h4 => ?_))
  show wp _ 61 8 [(0, .ref a0), (1, .ref a1)] [] w3 _
  refine wp_g 1 (pc1 := 9) (lv1 := [(0, .ref a0), (1, .ref a1)]) (st1 := [.ref a0]) (w1 := w3) rfl ?_
  refine wx_gr (o := 10) (kf := 18) (ln := 3) (ci := 7) (b := 1) (zz := 0) (x := a0) (by decide +kernel) h4 ca0.1 rfl ?_
  show wp _ 61 12 [(0, .ref a0), (1, .ref a1)] [.ref (a0 + 10)] w3 _
  refine wp_g 1 (pc1 := 13) (lv1 := [(0, .ref a0), (1, .ref a1)]) (st1 := [.ref a1, .ref (a0 + 10)]) (w1 := w3) rfl ?_
  obtain ⟨o5, e6, hx⟩ := bd hx
  refine wp_cl [.ref (a0 + 10), .ref a1] [] (i := .invokevirtual 41) (ln := 3) (a := 1) (b := 0) (z := 0) (by decide +kernel) rfl rfl (by decide) rfl (show (2 : Nat) = pm_na 1 by decide +kernel) (Nat.le_of_ble_eq_true rfl) (show (2 : Nat) ≤ pm_n 1 by decide +kernel) (rcv_x 0 h4 ca0.2.2.1.1 (by decide +kernel)) (xl_copyFrom_ok (d := d) hS ca0.2.2.1 ca1 h4 e6 (fun w7 h8 => ?_))
  show wp _ 61 16 [(0, .ref a0), (1, .ref a1)] [] w7 _
  refine wp_g 2 (pc1 := 18) (lv1 := [(0, .ref a0), (1, .ref a1)]) (st1 := [.int (Int32.ofInt 0), .ref a0]) (w1 := w7) rfl ?_
  obtain ⟨s9, e10, hx⟩ := bd hx
  refine wx_pi (kf := 31) (ln := 3) (ci := 7) (b := 5) (zz := 0) (x := a0) (by decide +kernel) h8 ca0.1 rfl (by decide +kernel) e10 (fun w11 h12 => ?_)
  refine wp_g 2 (pc1 := 23) (lv1 := [(2, .int (Int32.ofInt 0)), (0, .ref a0), (1, .ref a1)]) (st1 := []) (w1 := w11) rfl ?_
  refine wp_lv (lv1 := [(0, .ref a0), (2, .int (Int32.ofInt 0))]) (lsub_p [1, 0] rfl rfl rfl) ?_
  obtain ⟨q13, e14, hx⟩ := bd hx
  refine wp_lp (σ := Int × Hp) (ρ := (Int × Hp)) (B := fun q => xs_begin_b23 q.2 a0 a1 q.1) (R := fun q w' => Rw sh w0 q.2 w') (C := fun r => ∀ w1, Rw sh w0 r.2 w1 → wp (d + 7) 61 42 [(0, .ref a0), (2, .int (Int32.ofInt r.1))] [] w1 P) (lv := fun q => [(0, .ref a0), (2, .int (Int32.ofInt q.1))]) (hd := 23) (fun q w' o hR hb kn kc => xs_begin_b23_ok hS ca0 ca1 hR hb kn kc) _ _ _ e14 h12 ?_
  intro w15 h16
  show wp _ 61 42 [(0, .ref a0), (2, .int (Int32.ofInt q13.1))] [] w15 _
  refine wp_rt (i := .return_) (r := none) (ln := 1) (a := 0) (b := 0) (z := 0) (by decide +kernel) rfl (ret_v (by decide +kernel)) ?_
  cases hx
  exact kr _ h16
/-- Sheet.copyFrom (LSheet;)V -/
noncomputable def xs_copyFrom (s : Hp) (a0 : Nat) (a1 : Nat) : Option Hp :=
  (xl_copyFrom s (a0 + 1) (a1 + 1)).bind fun o1 => (xl_copyFrom o1 (a0 + 10) (a1 + 10)).bind fun o5 => if ¬ (a1 + 19) = (a0 + 19) then (some (uc o5 (a1 + 19) (a0 + 19) 8)).bind fun s12 => if ¬ (a1 + 20) = (a0 + 20) then (some (uc s12 (a1 + 20) (a0 + 20) 10)).bind fun s17 => if ¬ (a1 + 21) = (a0 + 21) then (some (uc s17 (a1 + 21) (a0 + 21) 10)).bind fun s22 => (some (uh s22 a0 5 (s22 a1 5))).bind fun s24 => (some (uh s24 a0 6 (s24 a1 6))).bind fun s28 => (some (uh s28 a0 7 (s28 a1 7))).bind fun s32 => some s32 else none else none else none
set_option maxRecDepth 100000 in
theorem xs_copyFrom_ok {d : Nat} {P : Option Value → pm_H → Prop} {w : pm_H} {sh : Shp} {w0 : pm_H} {s : Hp} (hS : St sh) {a0 r0 : Nat} (ca0 : okS r0 sh a0) {a1 r1 : Nat} (ca1 : okS r1 sh a1) (h : Rw sh w0 s w) {o : Hp} (hx : xs_copyFrom s a0 a1 = some o) (kr : ∀ w1, Rw sh w0 o w1 → P none w1) : wp (d + 7) 62 0 (lv_args 0 [.ref a0, .ref a1]) [] w P := by
  show wp _ 62 0 [(0, .ref a0), (1, .ref a1)] [] w _
  unfold xs_copyFrom at hx
  refine wp_g 1 (pc1 := 1) (lv1 := [(0, .ref a0), (1, .ref a1)]) (st1 := [.ref a0]) (w1 := w) rfl ?_
  refine wx_gr (o := 1) (kf := 12) (ln := 3) (ci := 7) (b := 0) (zz := 0) (x := a0) (by decide +kernel) h ca0.1 rfl ?_
  show wp _ 62 4 [(0, .ref a0), (1, .ref a1)] [.ref (a0 + 1)] w _
  refine wp_g 1 (pc1 := 5) (lv1 := [(0, .ref a0), (1, .ref a1)]) (st1 := [.ref a1, .ref (a0 + 1)]) (w1 := w) rfl ?_
  refine wx_gr (o := 1) (kf := 12) (ln := 3) (ci := 7) (b := 0) (zz := 0) (x := a1) (by decide +kernel) h ca1.1 rfl ?_
  show wp _ 62 8 [(0, .ref a0), (1, .ref a1)] [.ref (a1 + 1), .ref (a0 + 1)] w _
  obtain ⟨o1, e2, hx⟩ := bd hx
  refine wp_cl [.ref (a0 + 1), .ref (a1 + 1)] [] (i := .invokevirtual 41) (ln := 3) (a := 1) (b := 0) (z := 0) (by decide +kernel) rfl rfl (by decide) rfl (show (2 : Nat) = pm_na 1 by decide +kernel) (Nat.le_of_ble_eq_true rfl) (show (2 : Nat) ≤ pm_n 1 by decide +kernel) (rcv_x 0 h ca0.2.1.1 (by decide +kernel)) (xl_copyFrom_ok (d := d) hS ca0.2.1 ca1.2.1 h e2 (fun w3 h4 => ?_))
  show wp _ 62 11 [(0, .ref a0), (1, .ref a1)] [] w3 _
  refine wp_g 1 (pc1 := 12) (lv1 := [(0, .ref a0), (1, .ref a1)]) (st1 := [.ref a0]) (w1 := w3) rfl ?_
  refine wx_gr (o := 10) (kf := 18) (ln := 3) (ci := 7) (b := 1) (zz := 0) (x := a0) (by decide +kernel) h4 ca0.1 rfl ?_
  show wp _ 62 15 [(0, .ref a0), (1, .ref a1)] [.ref (a0 + 10)] w3 _
  refine wp_g 1 (pc1 := 16) (lv1 := [(0, .ref a0), (1, .ref a1)]) (st1 := [.ref a1, .ref (a0 + 10)]) (w1 := w3) rfl ?_
  refine wx_gr (o := 10) (kf := 18) (ln := 3) (ci := 7) (b := 1) (zz := 0) (x := a1) (by decide +kernel) h4 ca1.1 rfl ?_
  show wp _ 62 19 [(0, .ref a0), (1, .ref a1)] [.ref (a1 + 10), .ref (a0 + 10)] w3 _
  obtain ⟨o5, e6, hx⟩ := bd hx
  refine wp_cl [.ref (a0 + 10), .ref (a1 + 10)] [] (i := .invokevirtual 41) (ln := 3) (a := 1) (b := 0) (z := 0) (by decide +kernel) rfl rfl (by decide) rfl (show (2 : Nat) = pm_na 1 by decide +kernel) (Nat.le_of_ble_eq_true rfl) (show (2 : Nat) ≤ pm_n 1 by decide +kernel) (rcv_x 0 h4 ca0.2.2.1.1 (by decide +kernel)) (xl_copyFrom_ok (d := d) hS ca0.2.2.1 ca1.2.2.1 h4 e6 (fun w7 h8 => ?_))
  show wp _ 62 22 [(0, .ref a0), (1, .ref a1)] [] w7 _
  refine wp_g 1 (pc1 := 23) (lv1 := [(0, .ref a0), (1, .ref a1)]) (st1 := [.ref a1]) (w1 := w7) rfl ?_
  refine wx_gr (o := 19) (kf := 21) (ln := 3) (ci := 7) (b := 2) (zz := 0) (x := a1) (by decide +kernel) h8 ca1.1 rfl ?_
  show wp _ 62 26 [(0, .ref a0), (1, .ref a1)] [.ref (a1 + 19)] w7 _
  refine wp_g 2 (pc1 := 28) (lv1 := [(0, .ref a0), (1, .ref a1)]) (st1 := [.ref a0, .int (Int32.ofInt 0), .ref (a1 + 19)]) (w1 := w7) rfl ?_
  refine wx_gr (o := 19) (kf := 21) (ln := 3) (ci := 7) (b := 2) (zz := 0) (x := a0) (by decide +kernel) h8 ca0.1 rfl ?_
  show wp _ 62 31 [(0, .ref a0), (1, .ref a1)] [.ref (a0 + 19), .int (Int32.ofInt 0), .ref (a1 + 19)] w7 _
  refine wp_g 2 (pc1 := 34) (lv1 := [(0, .ref a0), (1, .ref a1)]) (st1 := [.int (Int32.ofInt 8), .int (Int32.ofInt 0), .ref (a0 + 19), .int (Int32.ofInt 0), .ref (a1 + 19)]) (w1 := w7) rfl ?_
  obtain ⟨h9, hx⟩ := gd hx
  obtain ⟨s12, e13, hx⟩ := bd hx
  refine wx_cp (kf := 45) (x := (a1 + 19)) (y := (a0 + 19)) (m := 8) (n := 8) (n1 := 8) (ln := 3) (b := 9) (zz := 0) (by decide +kernel) h8 ca1.2.2.2.1 ca0.2.2.2.1 h9 (by decide) (by decide) (by decide) e13 (Nat.le_of_ble_eq_true rfl) (by omega) (fun w10 h11 => ?_)
  refine wp_g 1 (pc1 := 38) (lv1 := [(0, .ref a0), (1, .ref a1)]) (st1 := [.ref a1]) (w1 := w10) rfl ?_
  refine wx_gr (o := 20) (kf := 25) (ln := 3) (ci := 7) (b := 3) (zz := 0) (x := a1) (by decide +kernel) h11 ca1.1 rfl ?_
  show wp _ 62 41 [(0, .ref a0), (1, .ref a1)] [.ref (a1 + 20)] w10 _
  refine wp_g 2 (pc1 := 43) (lv1 := [(0, .ref a0), (1, .ref a1)]) (st1 := [.ref a0, .int (Int32.ofInt 0), .ref (a1 + 20)]) (w1 := w10) rfl ?_
  refine wx_gr (o := 20) (kf := 25) (ln := 3) (ci := 7) (b := 3) (zz := 0) (x := a0) (by decide +kernel) h11 ca0.1 rfl ?_
  show wp _ 62 46 [(0, .ref a0), (1, .ref a1)] [.ref (a0 + 20), .int (Int32.ofInt 0), .ref (a1 + 20)] w10 _
  refine wp_g 2 (pc1 := 49) (lv1 := [(0, .ref a0), (1, .ref a1)]) (st1 := [.int (Int32.ofInt 10), .int (Int32.ofInt 0), .ref (a0 + 20), .int (Int32.ofInt 0), .ref (a1 + 20)]) (w1 := w10) rfl ?_
  obtain ⟨h14, hx⟩ := gd hx
  obtain ⟨s17, e18, hx⟩ := bd hx
  refine wx_cp (kf := 45) (x := (a1 + 20)) (y := (a0 + 20)) (m := 10) (n := 10) (n1 := 10) (ln := 3) (b := 9) (zz := 0) (by decide +kernel) h11 ca1.2.2.2.2.1 ca0.2.2.2.2.1 h14 (by decide) (by decide) (by decide) e18 (Nat.le_of_ble_eq_true rfl) (by omega) (fun w15 h16 => ?_)
  refine wp_g 1 (pc1 := 53) (lv1 := [(0, .ref a0), (1, .ref a1)]) (st1 := [.ref a1]) (w1 := w15) rfl ?_
  refine wx_gr (o := 21) (kf := 28) (ln := 3) (ci := 7) (b := 4) (zz := 0) (x := a1) (by decide +kernel) h16 ca1.1 rfl ?_
  show wp _ 62 56 [(0, .ref a0), (1, .ref a1)] [.ref (a1 + 21)] w15 _
  refine wp_g 2 (pc1 := 58) (lv1 := [(0, .ref a0), (1, .ref a1)]) (st1 := [.ref a0, .int (Int32.ofInt 0), .ref (a1 + 21)]) (w1 := w15) rfl ?_
  refine wx_gr (o := 21) (kf := 28) (ln := 3) (ci := 7) (b := 4) (zz := 0) (x := a0) (by decide +kernel) h16 ca0.1 rfl ?_
  show wp _ 62 61 [(0, .ref a0), (1, .ref a1)] [.ref (a0 + 21), .int (Int32.ofInt 0), .ref (a1 + 21)] w15 _
  refine wp_g 2 (pc1 := 64) (lv1 := [(0, .ref a0), (1, .ref a1)]) (st1 := [.int (Int32.ofInt 10), .int (Int32.ofInt 0), .ref (a0 + 21), .int (Int32.ofInt 0), .ref (a1 + 21)]) (w1 := w15) rfl ?_
  obtain ⟨h19, hx⟩ := gd hx
  obtain ⟨s22, e23, hx⟩ := bd hx
  refine wx_cp (kf := 45) (x := (a1 + 21)) (y := (a0 + 21)) (m := 10) (n := 10) (n1 := 10) (ln := 3) (b := 9) (zz := 0) (by decide +kernel) h16 ca1.2.2.2.2.2 ca0.2.2.2.2.2 h19 (by decide) (by decide) (by decide) e23 (Nat.le_of_ble_eq_true rfl) (by omega) (fun w20 h21 => ?_)
  refine wp_g 2 (pc1 := 69) (lv1 := [(0, .ref a0), (1, .ref a1)]) (st1 := [.ref a1, .ref a0]) (w1 := w20) rfl ?_
  refine wx_gi (kf := 31) (ln := 3) (ci := 7) (b := 5) (zz := 0) (x := a1) (by decide +kernel) h21 ca1.1 rfl ?_
  show wp _ 62 72 [(0, .ref a0), (1, .ref a1)] [.int (Int32.ofInt (s22 a1 5)), .ref a0] w20 _
  obtain ⟨s24, e25, hx⟩ := bd hx
  refine wx_pi (kf := 31) (ln := 3) (ci := 7) (b := 5) (zz := 0) (x := a0) (by decide +kernel) h21 ca0.1 rfl (by decide +kernel) e25 (fun w26 h27 => ?_)
  refine wp_g 2 (pc1 := 77) (lv1 := [(0, .ref a0), (1, .ref a1)]) (st1 := [.ref a1, .ref a0]) (w1 := w26) rfl ?_
  refine wx_gi (kf := 35) (ln := 3) (ci := 7) (b := 6) (zz := 0) (x := a1) (by decide +kernel) h27 ca1.1 rfl ?_
  show wp _ 62 80 [(0, .ref a0), (1, .ref a1)] [.int (Int32.ofInt (s24 a1 6)), .ref a0] w26 _
  obtain ⟨s28, e29, hx⟩ := bd hx
  refine wx_pi (kf := 35) (ln := 3) (ci := 7) (b := 6) (zz := 0) (x := a0) (by decide +kernel) h27 ca0.1 rfl (by decide +kernel) e29 (fun w30 h31 => ?_)
  refine wp_g 2 (pc1 := 85) (lv1 := [(0, .ref a0), (1, .ref a1)]) (st1 := [.ref a1, .ref a0]) (w1 := w30) rfl ?_
  refine wx_gi (kf := 38) (ln := 3) (ci := 7) (b := 7) (zz := 0) (x := a1) (by decide +kernel) h31 ca1.1 rfl ?_
  show wp _ 62 88 [(0, .ref a0), (1, .ref a1)] [.int (Int32.ofInt (s28 a1 7)), .ref a0] w30 _
  obtain ⟨s32, e33, hx⟩ := bd hx
  refine wx_pi (kf := 38) (ln := 3) (ci := 7) (b := 7) (zz := 0) (x := a0) (by decide +kernel) h31 ca0.1 rfl (by decide +kernel) e33 (fun w34 h35 => ?_)
  refine wp_rt (i := .return_) (r := none) (ln := 1) (a := 0) (b := 0) (z := 0) (by decide +kernel) rfl (ret_v (by decide +kernel)) ?_
  cases hx
  exact kr _ h35
