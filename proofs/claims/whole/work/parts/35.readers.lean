/-! by program (wip/whole/gx.py) -/
/-- ClothReader.readCells (LText;)V -/
noncomputable def xc_readCells (s : Hp) : Option Hp :=
  (xt_takeNumber s 2 8).bind fun o1 => (xt_failed o1.2).bind fun o5 => if w32 o5 = 0 then (xl_beginFlat o1.2 4 o1.1).bind fun o10 => some o10 else some o1.2
set_option maxRecDepth 100000 in
theorem xc_readCells_ok {d : Nat} {P : Option Value → pm_H → Prop} {w : pm_H} {sh : Shp} {w0 : pm_H} {s : Hp} (hS : St sh) (h : Rw sh w0 s w) {o : Hp} (hx : xc_readCells s = some o) (kr : ∀ w1, Rw sh w0 o w1 → P none w1) : wp (d + 2) 25 0 (lv_args 0 [.ref 3, .ref 1]) [] w P := by
  show wp _ 25 0 [(0, .ref 3), (1, .ref 1)] [] w _
  unfold xc_readCells at hx
  refine wp_g 3 (pc1 := 4) (lv1 := [(0, .ref 3), (1, .ref 1)]) (st1 := [.int (Int32.ofInt 8), .int (Int32.ofInt 2), .ref 1]) (w1 := w) rfl ?_
  obtain ⟨o1, e2, hx⟩ := bd hx
  refine wp_cl [.ref 1, .int (Int32.ofInt 2), .int (Int32.ofInt 8)] [] (i := .invokevirtual 72) (ln := 3) (a := 95) (b := 0) (z := 0) (by decide +kernel) rfl rfl (by decide) rfl (show (3 : Nat) = pm_na 95 by decide +kernel) (Nat.le_of_ble_eq_true rfl) (show (3 : Nat) ≤ pm_n 95 by decide +kernel) (rcv_x 9 h (hS _ _ sx_1) (by decide +kernel)) (xt_takeNumber_ok (d := d) hS h e2 (fun w3 h4 => ?_))
  show wp _ 25 7 [(0, .ref 3), (1, .ref 1)] [.int (Int32.ofInt o1.1)] w3 _
  refine wp_g 2 (pc1 := 9) (lv1 := [(2, .int (Int32.ofInt o1.1)), (0, .ref 3), (1, .ref 1)]) (st1 := [.ref 1]) (w1 := w3) rfl ?_
  obtain ⟨o5, e6, hx⟩ := bd hx
  refine wp_cl [.ref 1] [] (i := .invokevirtual 23) (ln := 3) (a := 86) (b := 0) (z := 0) (by decide +kernel) rfl rfl (by decide) rfl (show (1 : Nat) = pm_na 86 by decide +kernel) (Nat.le_of_ble_eq_true rfl) (show (1 : Nat) ≤ pm_n 86 by decide +kernel) (rcv_x 9 h4 (hS _ _ sx_1) (by decide +kernel)) (xt_failed_ok (d := d + 1) hS h4 e6 ?_)
  show wp _ 25 12 [(2, .int (Int32.ofInt o1.1)), (0, .ref 3), (1, .ref 1)] [.int (Int32.ofInt o5)] w3 _
  refine wz_ne (oo := 11) (ln := 3) (a := 23) (b := 0) (zz := 0) (by decide +kernel) (fun h9 => ?_) (fun h9 => ?_)
  · have hx := ite_f h9 hx
    refine wp_rt (i := .return_) (r := none) (ln := 1) (a := 0) (b := 0) (z := 0) (by decide +kernel) rfl (ret_v (by decide +kernel)) ?_
    cases hx
    exact kr _ h4
  · have hx := ite_t h9 hx
    refine wp_g 1 (pc1 := 16) (lv1 := [(2, .int (Int32.ofInt o1.1)), (0, .ref 3), (1, .ref 1)]) (st1 := [.ref 3]) (w1 := w3) rfl ?_
    refine wx_gr (o := 1) (kf := 12) (ln := 3) (ci := 1) (b := 0) (zz := 0) (x := 3) (by decide +kernel) h4 (hS _ _ sx_3) rfl ?_
    show wp _ 25 19 [(2, .int (Int32.ofInt o1.1)), (0, .ref 3), (1, .ref 1)] [.ref 4] w3 _
    refine wp_g 1 (pc1 := 20) (lv1 := [(2, .int (Int32.ofInt o1.1)), (0, .ref 3), (1, .ref 1)]) (st1 := [.int (Int32.ofInt o1.1), .ref 4]) (w1 := w3) rfl ?_
    obtain ⟨o10, e11, hx⟩ := bd hx
    refine wp_cl [.ref 4, .int (Int32.ofInt o1.1)] [] (i := .invokevirtual 76) (ln := 3) (a := 2) (b := 0) (z := 0) (by decide +kernel) rfl rfl (by decide) rfl (show (2 : Nat) = pm_na 2 by decide +kernel) (Nat.le_of_ble_eq_true rfl) (show (2 : Nat) ≤ pm_n 2 by decide +kernel) (rcv_x 0 h4 (hS _ _ sx_4) (by decide +kernel)) (xl_beginFlat_ok (d := d) hS (okC_4 hS) h4 e11 (fun w12 h13 => ?_))
    show wp _ 25 23 [(2, .int (Int32.ofInt o1.1)), (0, .ref 3), (1, .ref 1)] [] w12 _
    refine wp_rt (i := .return_) (r := none) (ln := 1) (a := 0) (b := 0) (z := 0) (by decide +kernel) rfl (ret_v (by decide +kernel)) ?_
    cases hx
    exact kr _ h13
/-- ClothReader.readPerson (LText;)V -/
noncomputable def xc_readPerson (s : Hp) : Option Hp :=
  (xt_takeNumber s 0 999).bind fun o1 => (xt_failed o1.2).bind fun o5 => if w32 o5 = 0 then if w32 (o1.2 4 1) < w32 4 then (ix 4 (o1.2 4 1)).bind fun i11 => (some (uh o1.2 12 i11 o1.1)).bind fun s13 => (some (uh s13 4 1 ((s13 4 1) + 1))).bind fun s17 => some s17 else some o1.2 else some o1.2
set_option maxRecDepth 100000 in
theorem xc_readPerson_ok {d : Nat} {P : Option Value → pm_H → Prop} {w : pm_H} {sh : Shp} {w0 : pm_H} {s : Hp} (hS : St sh) (h : Rw sh w0 s w) {o : Hp} (hx : xc_readPerson s = some o) (kr : ∀ w1, Rw sh w0 o w1 → P none w1) : wp (d + 2) 26 0 (lv_args 0 [.ref 3, .ref 1]) [] w P := by
  show wp _ 26 0 [(0, .ref 3), (1, .ref 1)] [] w _
  unfold xc_readPerson at hx
  refine wp_g 3 (pc1 := 5) (lv1 := [(0, .ref 3), (1, .ref 1)]) (st1 := [.int (Int32.ofInt 999), .int (Int32.ofInt 0), .ref 1]) (w1 := w) rfl ?_
  obtain ⟨o1, e2, hx⟩ := bd hx
  refine wp_cl [.ref 1, .int (Int32.ofInt 0), .int (Int32.ofInt 999)] [] (i := .invokevirtual 72) (ln := 3) (a := 95) (b := 0) (z := 0) (by decide +kernel) rfl rfl (by decide) rfl (show (3 : Nat) = pm_na 95 by decide +kernel) (Nat.le_of_ble_eq_true rfl) (show (3 : Nat) ≤ pm_n 95 by decide +kernel) (rcv_x 9 h (hS _ _ sx_1) (by decide +kernel)) (xt_takeNumber_ok (d := d) hS h e2 (fun w3 h4 => ?_))
  show wp _ 26 8 [(0, .ref 3), (1, .ref 1)] [.int (Int32.ofInt o1.1)] w3 _
  refine wp_g 2 (pc1 := 10) (lv1 := [(2, .int (Int32.ofInt o1.1)), (0, .ref 3), (1, .ref 1)]) (st1 := [.ref 1]) (w1 := w3) rfl ?_
  obtain ⟨o5, e6, hx⟩ := bd hx
  refine wp_cl [.ref 1] [] (i := .invokevirtual 23) (ln := 3) (a := 86) (b := 0) (z := 0) (by decide +kernel) rfl rfl (by decide) rfl (show (1 : Nat) = pm_na 86 by decide +kernel) (Nat.le_of_ble_eq_true rfl) (show (1 : Nat) ≤ pm_n 86 by decide +kernel) (rcv_x 9 h4 (hS _ _ sx_1) (by decide +kernel)) (xt_failed_ok (d := d + 1) hS h4 e6 ?_)
  show wp _ 26 13 [(2, .int (Int32.ofInt o1.1)), (0, .ref 3), (1, .ref 1)] [.int (Int32.ofInt o5)] w3 _
  refine wz_ne (oo := 43) (ln := 3) (a := 56) (b := 0) (zz := 0) (by decide +kernel) (fun h9 => ?_) (fun h9 => ?_)
  · have hx := ite_f h9 hx
    refine wp_rt (i := .return_) (r := none) (ln := 1) (a := 0) (b := 0) (z := 0) (by decide +kernel) rfl (ret_v (by decide +kernel)) ?_
    cases hx
    exact kr _ h4
  · have hx := ite_t h9 hx
    refine wp_g 1 (pc1 := 17) (lv1 := [(2, .int (Int32.ofInt o1.1)), (0, .ref 3), (1, .ref 1)]) (st1 := [.ref 3]) (w1 := w3) rfl ?_
    refine wx_gr (o := 1) (kf := 12) (ln := 3) (ci := 1) (b := 0) (zz := 0) (x := 3) (by decide +kernel) h4 (hS _ _ sx_3) rfl ?_
    show wp _ 26 20 [(2, .int (Int32.ofInt o1.1)), (0, .ref 3), (1, .ref 1)] [.ref 4] w3 _
    refine wx_gi (kf := 54) (ln := 3) (ci := 0) (b := 1) (zz := 0) (x := 4) (by decide +kernel) h4 (hS _ _ sx_4) rfl ?_
    show wp _ 26 23 [(2, .int (Int32.ofInt o1.1)), (0, .ref 3), (1, .ref 1)] [.int (Int32.ofInt (o1.2 4 1))] w3 _
    refine wp_g 1 (pc1 := 24) (lv1 := [(2, .int (Int32.ofInt o1.1)), (0, .ref 3), (1, .ref 1)]) (st1 := [.int (Int32.ofInt 4), .int (Int32.ofInt (o1.2 4 1))]) (w1 := w3) rfl ?_
    refine wx_ge (oo := 32) (ln := 3) (a := 56) (b := 0) (zz := 0) (by decide +kernel) (fun h10 => ?_) (fun h10 => ?_)
    · have hx := ite_f h10 hx
      refine wp_rt (i := .return_) (r := none) (ln := 1) (a := 0) (b := 0) (z := 0) (by decide +kernel) rfl (ret_v (by decide +kernel)) ?_
      cases hx
      exact kr _ h4
    · have hx := ite_t h10 hx
      refine wp_g 1 (pc1 := 28) (lv1 := [(2, .int (Int32.ofInt o1.1)), (0, .ref 3), (1, .ref 1)]) (st1 := [.ref 3]) (w1 := w3) rfl ?_
      refine wx_gr (o := 1) (kf := 12) (ln := 3) (ci := 1) (b := 0) (zz := 0) (x := 3) (by decide +kernel) h4 (hS _ _ sx_3) rfl ?_
      show wp _ 26 31 [(2, .int (Int32.ofInt o1.1)), (0, .ref 3), (1, .ref 1)] [.ref 4] w3 _
      refine wx_gr (o := 8) (kf := 80) (ln := 3) (ci := 0) (b := 11) (zz := 0) (x := 4) (by decide +kernel) h4 (hS _ _ sx_4) rfl ?_
      show wp _ 26 34 [(2, .int (Int32.ofInt o1.1)), (0, .ref 3), (1, .ref 1)] [.ref 12] w3 _
      refine wp_g 1 (pc1 := 35) (lv1 := [(2, .int (Int32.ofInt o1.1)), (0, .ref 3), (1, .ref 1)]) (st1 := [.ref 3, .ref 12]) (w1 := w3) rfl ?_
      refine wx_gr (o := 1) (kf := 12) (ln := 3) (ci := 1) (b := 0) (zz := 0) (x := 3) (by decide +kernel) h4 (hS _ _ sx_3) rfl ?_
      show wp _ 26 38 [(2, .int (Int32.ofInt o1.1)), (0, .ref 3), (1, .ref 1)] [.ref 4, .ref 12] w3 _
      refine wx_gi (kf := 54) (ln := 3) (ci := 0) (b := 1) (zz := 0) (x := 4) (by decide +kernel) h4 (hS _ _ sx_4) rfl ?_
      show wp _ 26 41 [(2, .int (Int32.ofInt o1.1)), (0, .ref 3), (1, .ref 1)] [.int (Int32.ofInt (o1.2 4 1)), .ref 12] w3 _
      refine wp_g 1 (pc1 := 42) (lv1 := [(2, .int (Int32.ofInt o1.1)), (0, .ref 3), (1, .ref 1)]) (st1 := [.int (Int32.ofInt o1.1), .int (Int32.ofInt (o1.2 4 1)), .ref 12]) (w1 := w3) rfl ?_
      obtain ⟨i11, e12, hx⟩ := bd hx
      obtain ⟨s13, e14, hx⟩ := bd hx
      refine wx_wa (x := 12) (n := 4) (ln := 1) (a := 0) (b := 0) (zz := 0) (by decide +kernel) h4 (hS _ _ sx_12) e12 e14 (fun w15 h16 => ?_)
      refine wp_g 1 (pc1 := 44) (lv1 := [(2, .int (Int32.ofInt o1.1)), (0, .ref 3), (1, .ref 1)]) (st1 := [.ref 3]) (w1 := w15) rfl ?_
      refine wx_gr (o := 1) (kf := 12) (ln := 3) (ci := 1) (b := 0) (zz := 0) (x := 3) (by decide +kernel) h16 (hS _ _ sx_3) rfl ?_
      show wp _ 26 47 [(2, .int (Int32.ofInt o1.1)), (0, .ref 3), (1, .ref 1)] [.ref 4] w15 _
      refine wp_g 1 (pc1 := 48) (lv1 := [(2, .int (Int32.ofInt o1.1)), (0, .ref 3), (1, .ref 1)]) (st1 := [.ref 4, .ref 4]) (w1 := w15) rfl ?_
      refine wx_gi (kf := 54) (ln := 3) (ci := 0) (b := 1) (zz := 0) (x := 4) (by decide +kernel) h16 (hS _ _ sx_4) rfl ?_
      show wp _ 26 51 [(2, .int (Int32.ofInt o1.1)), (0, .ref 3), (1, .ref 1)] [.int (Int32.ofInt (s13 4 1)), .ref 4] w15 _
      refine wp_g 2 (pc1 := 53) (lv1 := [(2, .int (Int32.ofInt o1.1)), (0, .ref 3), (1, .ref 1)]) (st1 := [.int (Int32.ofInt ((s13 4 1) + 1)), .ref 4]) (w1 := w15) (by simp only [Int32.ofInt_add, Int32.ofInt_sub, Int32.ofInt_mul, Int32.ofInt_neg, p_and, p_or, p_xor, p_shl, p_shr, p_usr, p_w8, p_c16, p_lI, q_and, q_or, q_shl, q_shr, q_w32, Int64.ofInt_add, Int64.ofInt_sub, Int64.ofInt_mul, p_mx, p_mn, q_mx, q_mn]; rfl) ?_
      obtain ⟨s17, e18, hx⟩ := bd hx
      refine wx_pi (kf := 54) (ln := 3) (ci := 0) (b := 1) (zz := 0) (x := 4) (by decide +kernel) h16 (hS _ _ sx_4) rfl (by decide +kernel) e18 (fun w19 h20 => ?_)
      refine wp_rt (i := .return_) (r := none) (ln := 1) (a := 0) (b := 0) (z := 0) (by decide +kernel) rfl (ret_v (by decide +kernel)) ?_
      cases hx
      exact kr _ h20
noncomputable def xc_readPair_j92 (s : Hp) (x2 : Int) (x3 : Int) (x4 : Int) (x5 : Int) : Option Hp :=
  (xt_failed s).bind fun o1 => if w32 o1 = 0 then (xl_hasCell s 4 x4).bind fun o6 => if w32 o6 = 0 then some s else if w32 x3 = 0 then if w32 x2 = w32 2 then (ix 8 x4).bind fun i19 => (some (uh s 8 i19 x5)).bind fun s21 => some s21 else (ix 8 x4).bind fun i13 => (some (uh s 9 i13 x5)).bind fun s15 => some s15 else (ix 8 x4).bind fun i25 => (some (uh s 10 i25 x5)).bind fun s27 => some s27 else some s
set_option maxRecDepth 100000 in
theorem xc_readPair_j92_ok {d : Nat} {P : Option Value → pm_H → Prop} {w : pm_H} {sh : Shp} {w0 : pm_H} {s : Hp} (hS : St sh) {x2 : Int} {x3 : Int} {x4 : Int} {x5 : Int} (h : Rw sh w0 s w) {o : Hp} (hx : xc_readPair_j92 s x2 x3 x4 x5 = some o) (kr : ∀ w1, Rw sh w0 o w1 → P none w1) : wp (d + 2) 27 92 [(0, .ref 3), (1, .ref 1), (2, .int (Int32.ofInt x2)), (3, .int (Int32.ofInt x3)), (4, .int (Int32.ofInt x4)), (5, .int (Int32.ofInt x5))] [] w P := by
  unfold xc_readPair_j92 at hx
  refine wp_g 1 (pc1 := 93) (lv1 := [(0, .ref 3), (1, .ref 1), (2, .int (Int32.ofInt x2)), (3, .int (Int32.ofInt x3)), (4, .int (Int32.ofInt x4)), (5, .int (Int32.ofInt x5))]) (st1 := [.ref 1]) (w1 := w) rfl ?_
  obtain ⟨o1, e2, hx⟩ := bd hx
  refine wp_cl [.ref 1] [] (i := .invokevirtual 23) (ln := 3) (a := 86) (b := 0) (z := 0) (by decide +kernel) rfl rfl (by decide) rfl (show (1 : Nat) = pm_na 86 by decide +kernel) (Nat.le_of_ble_eq_true rfl) (show (1 : Nat) ≤ pm_n 86 by decide +kernel) (rcv_x 9 h (hS _ _ sx_1) (by decide +kernel)) (xt_failed_ok (d := d + 1) hS h e2 ?_)
  show wp _ 27 96 [(0, .ref 3), (1, .ref 1), (2, .int (Int32.ofInt x2)), (3, .int (Int32.ofInt x3)), (4, .int (Int32.ofInt x4)), (5, .int (Int32.ofInt x5))] [.int (Int32.ofInt o1)] w _
  refine wz_ne (oo := 15) (ln := 3) (a := 111) (b := 0) (zz := 0) (by decide +kernel) (fun h5 => ?_) (fun h5 => ?_)
  · have hx := ite_f h5 hx
    refine wp_rt (i := .return_) (r := none) (ln := 1) (a := 0) (b := 0) (z := 0) (by decide +kernel) rfl (ret_v (by decide +kernel)) ?_
    cases hx
    exact kr _ h
  · have hx := ite_t h5 hx
    refine wp_g 1 (pc1 := 100) (lv1 := [(0, .ref 3), (1, .ref 1), (2, .int (Int32.ofInt x2)), (3, .int (Int32.ofInt x3)), (4, .int (Int32.ofInt x4)), (5, .int (Int32.ofInt x5))]) (st1 := [.ref 3]) (w1 := w) rfl ?_
    refine wx_gr (o := 1) (kf := 12) (ln := 3) (ci := 1) (b := 0) (zz := 0) (x := 3) (by decide +kernel) h (hS _ _ sx_3) rfl ?_
    show wp _ 27 103 [(0, .ref 3), (1, .ref 1), (2, .int (Int32.ofInt x2)), (3, .int (Int32.ofInt x3)), (4, .int (Int32.ofInt x4)), (5, .int (Int32.ofInt x5))] [.ref 4] w _
    refine wp_g 1 (pc1 := 105) (lv1 := [(0, .ref 3), (1, .ref 1), (2, .int (Int32.ofInt x2)), (3, .int (Int32.ofInt x3)), (4, .int (Int32.ofInt x4)), (5, .int (Int32.ofInt x5))]) (st1 := [.int (Int32.ofInt x4), .ref 4]) (w1 := w) rfl ?_
    obtain ⟨o6, e7, hx⟩ := bd hx
    refine wp_cl [.ref 4, .int (Int32.ofInt x4)] [] (i := .invokevirtual 87) (ln := 3) (a := 5) (b := 0) (z := 0) (by decide +kernel) rfl rfl (by decide) rfl (show (2 : Nat) = pm_na 5 by decide +kernel) (Nat.le_of_ble_eq_true rfl) (show (2 : Nat) ≤ pm_n 5 by decide +kernel) (rcv_x 0 h (hS _ _ sx_4) (by decide +kernel)) (xl_hasCell_ok (d := d + 1) hS (okC_4 hS) h e7 ?_)
    show wp _ 27 108 [(0, .ref 3), (1, .ref 1), (2, .int (Int32.ofInt x2)), (3, .int (Int32.ofInt x3)), (4, .int (Int32.ofInt x4)), (5, .int (Int32.ofInt x5))] [.int (Int32.ofInt o6)] w _
    refine wz_ne (oo := 4) (ln := 3) (a := 112) (b := 0) (zz := 0) (by decide +kernel) (fun h10 => ?_) (fun h10 => ?_)
    · have hx := ite_f h10 hx
      refine wp_g 1 (pc1 := 113) (lv1 := [(0, .ref 3), (1, .ref 1), (2, .int (Int32.ofInt x2)), (3, .int (Int32.ofInt x3)), (4, .int (Int32.ofInt x4)), (5, .int (Int32.ofInt x5))]) (st1 := [.int (Int32.ofInt x3)]) (w1 := w) rfl ?_
      refine wz_eq (oo := 18) (ln := 3) (a := 131) (b := 0) (zz := 0) (by decide +kernel) (fun h11 => ?_) (fun h11 => ?_)
      · have hx := ite_t h11 hx
        refine wp_g 2 (pc1 := 133) (lv1 := [(0, .ref 3), (1, .ref 1), (2, .int (Int32.ofInt x2)), (3, .int (Int32.ofInt x3)), (4, .int (Int32.ofInt x4)), (5, .int (Int32.ofInt x5))]) (st1 := [.int (Int32.ofInt 2), .int (Int32.ofInt x2)]) (w1 := w) rfl ?_
        refine wx_ne (oo := 18) (ln := 3) (a := 151) (b := 0) (zz := 0) (by decide +kernel) (fun h12 => ?_) (fun h12 => ?_)
        · have hx := ite_f h12 hx
          refine wp_g 1 (pc1 := 152) (lv1 := [(0, .ref 3), (1, .ref 1), (2, .int (Int32.ofInt x2)), (3, .int (Int32.ofInt x3)), (4, .int (Int32.ofInt x4)), (5, .int (Int32.ofInt x5))]) (st1 := [.ref 3]) (w1 := w) rfl ?_
          refine wx_gr (o := 1) (kf := 12) (ln := 3) (ci := 1) (b := 0) (zz := 0) (x := 3) (by decide +kernel) h (hS _ _ sx_3) rfl ?_
          show wp _ 27 155 [(0, .ref 3), (1, .ref 1), (2, .int (Int32.ofInt x2)), (3, .int (Int32.ofInt x3)), (4, .int (Int32.ofInt x4)), (5, .int (Int32.ofInt x5))] [.ref 4] w _
          refine wx_gr (o := 5) (kf := 97) (ln := 3) (ci := 0) (b := 8) (zz := 0) (x := 4) (by decide +kernel) h (hS _ _ sx_4) rfl ?_
          show wp _ 27 158 [(0, .ref 3), (1, .ref 1), (2, .int (Int32.ofInt x2)), (3, .int (Int32.ofInt x3)), (4, .int (Int32.ofInt x4)), (5, .int (Int32.ofInt x5))] [.ref 9] w _
          refine wp_g 2 (pc1 := 162) (lv1 := [(0, .ref 3), (1, .ref 1), (2, .int (Int32.ofInt x2)), (3, .int (Int32.ofInt x3)), (4, .int (Int32.ofInt x4)), (5, .int (Int32.ofInt x5))]) (st1 := [.int (Int32.ofInt x5), .int (Int32.ofInt x4), .ref 9]) (w1 := w) rfl ?_
          obtain ⟨i13, e14, hx⟩ := bd hx
          obtain ⟨s15, e16, hx⟩ := bd hx
          refine wx_wa (x := 9) (n := 8) (ln := 1) (a := 0) (b := 0) (zz := 0) (by decide +kernel) h (hS _ _ sx_9) e14 e16 (fun w17 h18 => ?_)
          refine wp_rt (i := .return_) (r := none) (ln := 1) (a := 0) (b := 0) (z := 0) (by decide +kernel) rfl (ret_v (by decide +kernel)) ?_
          cases hx
          exact kr _ h18
        · have hx := ite_t h12 hx
          refine wp_g 1 (pc1 := 137) (lv1 := [(0, .ref 3), (1, .ref 1), (2, .int (Int32.ofInt x2)), (3, .int (Int32.ofInt x3)), (4, .int (Int32.ofInt x4)), (5, .int (Int32.ofInt x5))]) (st1 := [.ref 3]) (w1 := w) rfl ?_
          refine wx_gr (o := 1) (kf := 12) (ln := 3) (ci := 1) (b := 0) (zz := 0) (x := 3) (by decide +kernel) h (hS _ _ sx_3) rfl ?_
          show wp _ 27 140 [(0, .ref 3), (1, .ref 1), (2, .int (Int32.ofInt x2)), (3, .int (Int32.ofInt x3)), (4, .int (Int32.ofInt x4)), (5, .int (Int32.ofInt x5))] [.ref 4] w _
          refine wx_gr (o := 4) (kf := 94) (ln := 3) (ci := 0) (b := 7) (zz := 0) (x := 4) (by decide +kernel) h (hS _ _ sx_4) rfl ?_
          show wp _ 27 143 [(0, .ref 3), (1, .ref 1), (2, .int (Int32.ofInt x2)), (3, .int (Int32.ofInt x3)), (4, .int (Int32.ofInt x4)), (5, .int (Int32.ofInt x5))] [.ref 8] w _
          refine wp_g 2 (pc1 := 147) (lv1 := [(0, .ref 3), (1, .ref 1), (2, .int (Int32.ofInt x2)), (3, .int (Int32.ofInt x3)), (4, .int (Int32.ofInt x4)), (5, .int (Int32.ofInt x5))]) (st1 := [.int (Int32.ofInt x5), .int (Int32.ofInt x4), .ref 8]) (w1 := w) rfl ?_
          obtain ⟨i19, e20, hx⟩ := bd hx
          obtain ⟨s21, e22, hx⟩ := bd hx
          refine wx_wa (x := 8) (n := 8) (ln := 1) (a := 0) (b := 0) (zz := 0) (by decide +kernel) h (hS _ _ sx_8) e20 e22 (fun w23 h24 => ?_)
          refine wp_g 1 (pc1 := 163) (lv1 := [(0, .ref 3), (1, .ref 1), (2, .int (Int32.ofInt x2)), (3, .int (Int32.ofInt x3)), (4, .int (Int32.ofInt x4)), (5, .int (Int32.ofInt x5))]) (st1 := []) (w1 := w23) rfl ?_
          refine wp_rt (i := .return_) (r := none) (ln := 1) (a := 0) (b := 0) (z := 0) (by decide +kernel) rfl (ret_v (by decide +kernel)) ?_
          cases hx
          exact kr _ h24
      · have hx := ite_f h11 hx
        refine wp_g 1 (pc1 := 117) (lv1 := [(0, .ref 3), (1, .ref 1), (2, .int (Int32.ofInt x2)), (3, .int (Int32.ofInt x3)), (4, .int (Int32.ofInt x4)), (5, .int (Int32.ofInt x5))]) (st1 := [.ref 3]) (w1 := w) rfl ?_
        refine wx_gr (o := 1) (kf := 12) (ln := 3) (ci := 1) (b := 0) (zz := 0) (x := 3) (by decide +kernel) h (hS _ _ sx_3) rfl ?_
        show wp _ 27 120 [(0, .ref 3), (1, .ref 1), (2, .int (Int32.ofInt x2)), (3, .int (Int32.ofInt x3)), (4, .int (Int32.ofInt x4)), (5, .int (Int32.ofInt x5))] [.ref 4] w _
        refine wx_gr (o := 6) (kf := 91) (ln := 3) (ci := 0) (b := 9) (zz := 0) (x := 4) (by decide +kernel) h (hS _ _ sx_4) rfl ?_
        show wp _ 27 123 [(0, .ref 3), (1, .ref 1), (2, .int (Int32.ofInt x2)), (3, .int (Int32.ofInt x3)), (4, .int (Int32.ofInt x4)), (5, .int (Int32.ofInt x5))] [.ref 10] w _
        refine wp_g 2 (pc1 := 127) (lv1 := [(0, .ref 3), (1, .ref 1), (2, .int (Int32.ofInt x2)), (3, .int (Int32.ofInt x3)), (4, .int (Int32.ofInt x4)), (5, .int (Int32.ofInt x5))]) (st1 := [.int (Int32.ofInt x5), .int (Int32.ofInt x4), .ref 10]) (w1 := w) rfl ?_
        obtain ⟨i25, e26, hx⟩ := bd hx
        obtain ⟨s27, e28, hx⟩ := bd hx
        refine wx_wa (x := 10) (n := 8) (ln := 1) (a := 0) (b := 0) (zz := 0) (by decide +kernel) h (hS _ _ sx_10) e26 e28 (fun w29 h30 => ?_)
        refine wp_g 1 (pc1 := 163) (lv1 := [(0, .ref 3), (1, .ref 1), (2, .int (Int32.ofInt x2)), (3, .int (Int32.ofInt x3)), (4, .int (Int32.ofInt x4)), (5, .int (Int32.ofInt x5))]) (st1 := []) (w1 := w29) rfl ?_
        refine wp_rt (i := .return_) (r := none) (ln := 1) (a := 0) (b := 0) (z := 0) (by decide +kernel) rfl (ret_v (by decide +kernel)) ?_
        cases hx
        exact kr _ h30
    · have hx := ite_t h10 hx
      refine wp_rt (i := .return_) (r := none) (ln := 1) (a := 0) (b := 0) (z := 0) (by decide +kernel) rfl (ret_v (by decide +kernel)) ?_
      cases hx
      exact kr _ h
noncomputable def xc_readPair_j38 (s : Hp) (x2 : Int) (x3 : Int) (k1 : Int) (k2 : Int) : Option Hp :=
  (xt_takeNumber s k1 k2).bind fun o1 => (xt_failed o1.2).bind fun o5 => if w32 o5 = 0 then if w32 x3 = 0 then if w32 x2 = w32 2 then (xt_takeNumber o1.2 0 ((o1.2 4 1) - 1)).bind fun o16 => xc_readPair_j92 o16.2 x2 x3 o1.1 o16.1 else (xt_takeNumber o1.2 0 99).bind fun o12 => xc_readPair_j92 o12.2 x2 x3 o1.1 o12.1 else (xt_takeNumber o1.2 1 2).bind fun o20 => xc_readPair_j92 o20.2 x2 x3 o1.1 o20.1 else some o1.2
set_option maxRecDepth 100000 in
theorem xc_readPair_j38_ok {d : Nat} {P : Option Value → pm_H → Prop} {w : pm_H} {sh : Shp} {w0 : pm_H} {s : Hp} (hS : St sh) {x2 : Int} {x3 : Int} {k1 : Int} {k2 : Int} (h : Rw sh w0 s w) {o : Hp} (hx : xc_readPair_j38 s x2 x3 k1 k2 = some o) (kr : ∀ w1, Rw sh w0 o w1 → P none w1) : wp (d + 2) 27 38 [(0, .ref 3), (1, .ref 1), (2, .int (Int32.ofInt x2)), (3, .int (Int32.ofInt x3))] [.int (Int32.ofInt k2), .int (Int32.ofInt k1), .ref 1] w P := by
  unfold xc_readPair_j38 at hx
  obtain ⟨o1, e2, hx⟩ := bd hx
  refine wp_cl [.ref 1, .int (Int32.ofInt k1), .int (Int32.ofInt k2)] [] (i := .invokevirtual 72) (ln := 3) (a := 95) (b := 0) (z := 0) (by decide +kernel) rfl rfl (by decide) rfl (show (3 : Nat) = pm_na 95 by decide +kernel) (Nat.le_of_ble_eq_true rfl) (show (3 : Nat) ≤ pm_n 95 by decide +kernel) (rcv_x 9 h (hS _ _ sx_1) (by decide +kernel)) (xt_takeNumber_ok (d := d) hS h e2 (fun w3 h4 => ?_))
  show wp _ 27 41 [(0, .ref 3), (1, .ref 1), (2, .int (Int32.ofInt x2)), (3, .int (Int32.ofInt x3))] [.int (Int32.ofInt o1.1)] w3 _
  refine wp_g 2 (pc1 := 44) (lv1 := [(4, .int (Int32.ofInt o1.1)), (0, .ref 3), (1, .ref 1), (2, .int (Int32.ofInt x2)), (3, .int (Int32.ofInt x3))]) (st1 := [.ref 1]) (w1 := w3) rfl ?_
  obtain ⟨o5, e6, hx⟩ := bd hx
  refine wp_cl [.ref 1] [] (i := .invokevirtual 23) (ln := 3) (a := 86) (b := 0) (z := 0) (by decide +kernel) rfl rfl (by decide) rfl (show (1 : Nat) = pm_na 86 by decide +kernel) (Nat.le_of_ble_eq_true rfl) (show (1 : Nat) ≤ pm_n 86 by decide +kernel) (rcv_x 9 h4 (hS _ _ sx_1) (by decide +kernel)) (xt_failed_ok (d := d + 1) hS h4 e6 ?_)
  show wp _ 27 47 [(4, .int (Int32.ofInt o1.1)), (0, .ref 3), (1, .ref 1), (2, .int (Int32.ofInt x2)), (3, .int (Int32.ofInt x3))] [.int (Int32.ofInt o5)] w3 _
  refine wz_eq (oo := 4) (ln := 3) (a := 51) (b := 0) (zz := 0) (by decide +kernel) (fun h9 => ?_) (fun h9 => ?_)
  · have hx := ite_t h9 hx
    refine wp_g 1 (pc1 := 52) (lv1 := [(4, .int (Int32.ofInt o1.1)), (0, .ref 3), (1, .ref 1), (2, .int (Int32.ofInt x2)), (3, .int (Int32.ofInt x3))]) (st1 := [.int (Int32.ofInt x3)]) (w1 := w3) rfl ?_
    refine wz_eq (oo := 14) (ln := 3) (a := 66) (b := 0) (zz := 0) (by decide +kernel) (fun h10 => ?_) (fun h10 => ?_)
    · have hx := ite_t h10 hx
      refine wp_g 4 (pc1 := 70) (lv1 := [(4, .int (Int32.ofInt o1.1)), (0, .ref 3), (1, .ref 1), (2, .int (Int32.ofInt x2)), (3, .int (Int32.ofInt x3))]) (st1 := [.int (Int32.ofInt 2), .int (Int32.ofInt x2), .int (Int32.ofInt 0), .ref 1]) (w1 := w3) rfl ?_
      refine wx_ne (oo := 15) (ln := 3) (a := 85) (b := 0) (zz := 0) (by decide +kernel) (fun h11 => ?_) (fun h11 => ?_)
      · have hx := ite_f h11 hx
        refine wp_g 1 (pc1 := 87) (lv1 := [(4, .int (Int32.ofInt o1.1)), (0, .ref 3), (1, .ref 1), (2, .int (Int32.ofInt x2)), (3, .int (Int32.ofInt x3))]) (st1 := [.int (Int32.ofInt 99), .int (Int32.ofInt 0), .ref 1]) (w1 := w3) rfl ?_
        obtain ⟨o12, e13, hx⟩ := bd hx
        refine wp_cl [.ref 1, .int (Int32.ofInt 0), .int (Int32.ofInt 99)] [] (i := .invokevirtual 72) (ln := 3) (a := 95) (b := 0) (z := 0) (by decide +kernel) rfl rfl (by decide) rfl (show (3 : Nat) = pm_na 95 by decide +kernel) (Nat.le_of_ble_eq_true rfl) (show (3 : Nat) ≤ pm_n 95 by decide +kernel) (rcv_x 9 h4 (hS _ _ sx_1) (by decide +kernel)) (xt_takeNumber_ok (d := d) hS h4 e13 (fun w14 h15 => ?_))
        show wp _ 27 90 [(4, .int (Int32.ofInt o1.1)), (0, .ref 3), (1, .ref 1), (2, .int (Int32.ofInt x2)), (3, .int (Int32.ofInt x3))] [.int (Int32.ofInt o12.1)] w14 _
        refine wp_g 1 (pc1 := 92) (lv1 := [(5, .int (Int32.ofInt o12.1)), (4, .int (Int32.ofInt o1.1)), (0, .ref 3), (1, .ref 1), (2, .int (Int32.ofInt x2)), (3, .int (Int32.ofInt x3))]) (st1 := []) (w1 := w14) rfl ?_
        refine wp_lv (lv1 := [(0, .ref 3), (1, .ref 1), (2, .int (Int32.ofInt x2)), (3, .int (Int32.ofInt x3)), (4, .int (Int32.ofInt o1.1)), (5, .int (Int32.ofInt o12.1))]) (lsub_p [2, 3, 4, 5, 1, 0] rfl rfl rfl) ?_
        exact xc_readPair_j92_ok hS h15 hx kr
      · have hx := ite_t h11 hx
        refine wp_g 1 (pc1 := 74) (lv1 := [(4, .int (Int32.ofInt o1.1)), (0, .ref 3), (1, .ref 1), (2, .int (Int32.ofInt x2)), (3, .int (Int32.ofInt x3))]) (st1 := [.ref 3, .int (Int32.ofInt 0), .ref 1]) (w1 := w3) rfl ?_
        refine wx_gr (o := 1) (kf := 12) (ln := 3) (ci := 1) (b := 0) (zz := 0) (x := 3) (by decide +kernel) h4 (hS _ _ sx_3) rfl ?_
        show wp _ 27 77 [(4, .int (Int32.ofInt o1.1)), (0, .ref 3), (1, .ref 1), (2, .int (Int32.ofInt x2)), (3, .int (Int32.ofInt x3))] [.ref 4, .int (Int32.ofInt 0), .ref 1] w3 _
        refine wx_gi (kf := 54) (ln := 3) (ci := 0) (b := 1) (zz := 0) (x := 4) (by decide +kernel) h4 (hS _ _ sx_4) rfl ?_
        show wp _ 27 80 [(4, .int (Int32.ofInt o1.1)), (0, .ref 3), (1, .ref 1), (2, .int (Int32.ofInt x2)), (3, .int (Int32.ofInt x3))] [.int (Int32.ofInt (o1.2 4 1)), .int (Int32.ofInt 0), .ref 1] w3 _
        refine wp_g 3 (pc1 := 87) (lv1 := [(4, .int (Int32.ofInt o1.1)), (0, .ref 3), (1, .ref 1), (2, .int (Int32.ofInt x2)), (3, .int (Int32.ofInt x3))]) (st1 := [.int (Int32.ofInt ((o1.2 4 1) - 1)), .int (Int32.ofInt 0), .ref 1]) (w1 := w3) (by simp only [Int32.ofInt_add, Int32.ofInt_sub, Int32.ofInt_mul, Int32.ofInt_neg, p_and, p_or, p_xor, p_shl, p_shr, p_usr, p_w8, p_c16, p_lI, q_and, q_or, q_shl, q_shr, q_w32, Int64.ofInt_add, Int64.ofInt_sub, Int64.ofInt_mul, p_mx, p_mn, q_mx, q_mn]; rfl) ?_
        obtain ⟨o16, e17, hx⟩ := bd hx
        refine wp_cl [.ref 1, .int (Int32.ofInt 0), .int (Int32.ofInt ((o1.2 4 1) - 1))] [] (i := .invokevirtual 72) (ln := 3) (a := 95) (b := 0) (z := 0) (by decide +kernel) rfl rfl (by decide) rfl (show (3 : Nat) = pm_na 95 by decide +kernel) (Nat.le_of_ble_eq_true rfl) (show (3 : Nat) ≤ pm_n 95 by decide +kernel) (rcv_x 9 h4 (hS _ _ sx_1) (by decide +kernel)) (xt_takeNumber_ok (d := d) hS h4 e17 (fun w18 h19 => ?_))
        show wp _ 27 90 [(4, .int (Int32.ofInt o1.1)), (0, .ref 3), (1, .ref 1), (2, .int (Int32.ofInt x2)), (3, .int (Int32.ofInt x3))] [.int (Int32.ofInt o16.1)] w18 _
        refine wp_g 1 (pc1 := 92) (lv1 := [(5, .int (Int32.ofInt o16.1)), (4, .int (Int32.ofInt o1.1)), (0, .ref 3), (1, .ref 1), (2, .int (Int32.ofInt x2)), (3, .int (Int32.ofInt x3))]) (st1 := []) (w1 := w18) rfl ?_
        refine wp_lv (lv1 := [(0, .ref 3), (1, .ref 1), (2, .int (Int32.ofInt x2)), (3, .int (Int32.ofInt x3)), (4, .int (Int32.ofInt o1.1)), (5, .int (Int32.ofInt o16.1))]) (lsub_p [2, 3, 4, 5, 1, 0] rfl rfl rfl) ?_
        exact xc_readPair_j92_ok hS h19 hx kr
    · have hx := ite_f h10 hx
      refine wp_g 3 (pc1 := 58) (lv1 := [(4, .int (Int32.ofInt o1.1)), (0, .ref 3), (1, .ref 1), (2, .int (Int32.ofInt x2)), (3, .int (Int32.ofInt x3))]) (st1 := [.int (Int32.ofInt 2), .int (Int32.ofInt 1), .ref 1]) (w1 := w3) rfl ?_
      obtain ⟨o20, e21, hx⟩ := bd hx
      refine wp_cl [.ref 1, .int (Int32.ofInt 1), .int (Int32.ofInt 2)] [] (i := .invokevirtual 72) (ln := 3) (a := 95) (b := 0) (z := 0) (by decide +kernel) rfl rfl (by decide) rfl (show (3 : Nat) = pm_na 95 by decide +kernel) (Nat.le_of_ble_eq_true rfl) (show (3 : Nat) ≤ pm_n 95 by decide +kernel) (rcv_x 9 h4 (hS _ _ sx_1) (by decide +kernel)) (xt_takeNumber_ok (d := d) hS h4 e21 (fun w22 h23 => ?_))
      show wp _ 27 61 [(4, .int (Int32.ofInt o1.1)), (0, .ref 3), (1, .ref 1), (2, .int (Int32.ofInt x2)), (3, .int (Int32.ofInt x3))] [.int (Int32.ofInt o20.1)] w22 _
      refine wp_g 2 (pc1 := 92) (lv1 := [(5, .int (Int32.ofInt o20.1)), (4, .int (Int32.ofInt o1.1)), (0, .ref 3), (1, .ref 1), (2, .int (Int32.ofInt x2)), (3, .int (Int32.ofInt x3))]) (st1 := []) (w1 := w22) rfl ?_
      refine wp_lv (lv1 := [(0, .ref 3), (1, .ref 1), (2, .int (Int32.ofInt x2)), (3, .int (Int32.ofInt x3)), (4, .int (Int32.ofInt o1.1)), (5, .int (Int32.ofInt o20.1))]) (lsub_p [2, 3, 4, 5, 1, 0] rfl rfl rfl) ?_
      exact xc_readPair_j92_ok hS h23 hx kr
  · have hx := ite_f h9 hx
    refine wp_rt (i := .return_) (r := none) (ln := 1) (a := 0) (b := 0) (z := 0) (by decide +kernel) rfl (ret_v (by decide +kernel)) ?_
    cases hx
    exact kr _ h4
noncomputable def xc_readPair_j10 (s : Hp) (x2 : Int) (k0 : Int) : Option Hp :=
  if w32 k0 = 0 then xc_readPair_j38 s x2 k0 0 ((s 4 0) - 1) else xc_readPair_j38 s x2 k0 0 ((s 4 0) - 2)
set_option maxRecDepth 100000 in
theorem xc_readPair_j10_ok {d : Nat} {P : Option Value → pm_H → Prop} {w : pm_H} {sh : Shp} {w0 : pm_H} {s : Hp} (hS : St sh) {x2 : Int} {k0 : Int} (h : Rw sh w0 s w) {o : Hp} (hx : xc_readPair_j10 s x2 k0 = some o) (kr : ∀ w1, Rw sh w0 o w1 → P none w1) : wp (d + 2) 27 10 [(0, .ref 3), (1, .ref 1), (2, .int (Int32.ofInt x2))] [.int (Int32.ofInt k0)] w P := by
  unfold xc_readPair_j10 at hx
  refine wp_g 4 (pc1 := 14) (lv1 := [(3, .int (Int32.ofInt k0)), (0, .ref 3), (1, .ref 1), (2, .int (Int32.ofInt x2))]) (st1 := [.int (Int32.ofInt k0), .int (Int32.ofInt 0), .ref 1]) (w1 := w) rfl ?_
  refine wz_eq (oo := 15) (ln := 3) (a := 29) (b := 0) (zz := 0) (by decide +kernel) (fun h1 => ?_) (fun h1 => ?_)
  · have hx := ite_t h1 hx
    refine wp_g 1 (pc1 := 30) (lv1 := [(3, .int (Int32.ofInt k0)), (0, .ref 3), (1, .ref 1), (2, .int (Int32.ofInt x2))]) (st1 := [.ref 3, .int (Int32.ofInt 0), .ref 1]) (w1 := w) rfl ?_
    refine wx_gr (o := 1) (kf := 12) (ln := 3) (ci := 1) (b := 0) (zz := 0) (x := 3) (by decide +kernel) h (hS _ _ sx_3) rfl ?_
    show wp _ 27 33 [(3, .int (Int32.ofInt k0)), (0, .ref 3), (1, .ref 1), (2, .int (Int32.ofInt x2))] [.ref 4, .int (Int32.ofInt 0), .ref 1] w _
    refine wx_gi (kf := 84) (ln := 3) (ci := 0) (b := 0) (zz := 0) (x := 4) (by decide +kernel) h (hS _ _ sx_4) rfl ?_
    show wp _ 27 36 [(3, .int (Int32.ofInt k0)), (0, .ref 3), (1, .ref 1), (2, .int (Int32.ofInt x2))] [.int (Int32.ofInt (s 4 0)), .int (Int32.ofInt 0), .ref 1] w _
    refine wp_g 2 (pc1 := 38) (lv1 := [(3, .int (Int32.ofInt k0)), (0, .ref 3), (1, .ref 1), (2, .int (Int32.ofInt x2))]) (st1 := [.int (Int32.ofInt ((s 4 0) - 1)), .int (Int32.ofInt 0), .ref 1]) (w1 := w) (by simp only [Int32.ofInt_add, Int32.ofInt_sub, Int32.ofInt_mul, Int32.ofInt_neg, p_and, p_or, p_xor, p_shl, p_shr, p_usr, p_w8, p_c16, p_lI, q_and, q_or, q_shl, q_shr, q_w32, Int64.ofInt_add, Int64.ofInt_sub, Int64.ofInt_mul, p_mx, p_mn, q_mx, q_mn]; rfl) ?_
    refine wp_lv (lv1 := [(0, .ref 3), (1, .ref 1), (2, .int (Int32.ofInt x2)), (3, .int (Int32.ofInt k0))]) (lsub_p [1, 2, 3, 0] rfl rfl rfl) ?_
    exact xc_readPair_j38_ok hS h hx kr
  · have hx := ite_f h1 hx
    refine wp_g 1 (pc1 := 18) (lv1 := [(3, .int (Int32.ofInt k0)), (0, .ref 3), (1, .ref 1), (2, .int (Int32.ofInt x2))]) (st1 := [.ref 3, .int (Int32.ofInt 0), .ref 1]) (w1 := w) rfl ?_
    refine wx_gr (o := 1) (kf := 12) (ln := 3) (ci := 1) (b := 0) (zz := 0) (x := 3) (by decide +kernel) h (hS _ _ sx_3) rfl ?_
    show wp _ 27 21 [(3, .int (Int32.ofInt k0)), (0, .ref 3), (1, .ref 1), (2, .int (Int32.ofInt x2))] [.ref 4, .int (Int32.ofInt 0), .ref 1] w _
    refine wx_gi (kf := 84) (ln := 3) (ci := 0) (b := 0) (zz := 0) (x := 4) (by decide +kernel) h (hS _ _ sx_4) rfl ?_
    show wp _ 27 24 [(3, .int (Int32.ofInt k0)), (0, .ref 3), (1, .ref 1), (2, .int (Int32.ofInt x2))] [.int (Int32.ofInt (s 4 0)), .int (Int32.ofInt 0), .ref 1] w _
    refine wp_g 3 (pc1 := 38) (lv1 := [(3, .int (Int32.ofInt k0)), (0, .ref 3), (1, .ref 1), (2, .int (Int32.ofInt x2))]) (st1 := [.int (Int32.ofInt ((s 4 0) - 2)), .int (Int32.ofInt 0), .ref 1]) (w1 := w) (by simp only [Int32.ofInt_add, Int32.ofInt_sub, Int32.ofInt_mul, Int32.ofInt_neg, p_and, p_or, p_xor, p_shl, p_shr, p_usr, p_w8, p_c16, p_lI, q_and, q_or, q_shl, q_shr, q_w32, Int64.ofInt_add, Int64.ofInt_sub, Int64.ofInt_mul, p_mx, p_mn, q_mx, q_mn]; rfl) ?_
    refine wp_lv (lv1 := [(0, .ref 3), (1, .ref 1), (2, .int (Int32.ofInt x2)), (3, .int (Int32.ofInt k0))]) (lsub_p [1, 2, 3, 0] rfl rfl rfl) ?_
    exact xc_readPair_j38_ok hS h hx kr
/-- ClothReader.readPair (LText;I)V -/
noncomputable def xc_readPair (s : Hp) (p2 : Int) : Option Hp :=
  if w32 p2 = w32 3 then xc_readPair_j10 s p2 1 else xc_readPair_j10 s p2 0
set_option maxRecDepth 100000 in
theorem xc_readPair_ok {d : Nat} {P : Option Value → pm_H → Prop} {w : pm_H} {sh : Shp} {w0 : pm_H} {s : Hp} (hS : St sh) {p2 : Int} (h : Rw sh w0 s w) {o : Hp} (hx : xc_readPair s p2 = some o) (kr : ∀ w1, Rw sh w0 o w1 → P none w1) : wp (d + 2) 27 0 (lv_args 0 [.ref 3, .ref 1, .int (Int32.ofInt p2)]) [] w P := by
  show wp _ 27 0 [(0, .ref 3), (1, .ref 1), (2, .int (Int32.ofInt p2))] [] w _
  unfold xc_readPair at hx
  refine wp_g 2 (pc1 := 2) (lv1 := [(0, .ref 3), (1, .ref 1), (2, .int (Int32.ofInt p2))]) (st1 := [.int (Int32.ofInt 3), .int (Int32.ofInt p2)]) (w1 := w) rfl ?_
  refine wx_ne (oo := 7) (ln := 3) (a := 9) (b := 0) (zz := 0) (by decide +kernel) (fun h1 => ?_) (fun h1 => ?_)
  · have hx := ite_f h1 hx
    refine wp_g 1 (pc1 := 10) (lv1 := [(0, .ref 3), (1, .ref 1), (2, .int (Int32.ofInt p2))]) (st1 := [.int (Int32.ofInt 0)]) (w1 := w) rfl ?_
    exact xc_readPair_j10_ok hS h hx kr
  · have hx := ite_t h1 hx
    refine wp_g 2 (pc1 := 10) (lv1 := [(0, .ref 3), (1, .ref 1), (2, .int (Int32.ofInt p2))]) (st1 := [.int (Int32.ofInt 1)]) (w1 := w) rfl ?_
    exact xc_readPair_j10_ok hS h hx kr
noncomputable def xc_readClause_j104 (s : Hp) (x4 : Int) : Option Hp :=
  if w32 x4 = 0 then (xc_readCells s).bind fun o11 => some o11 else if w32 x4 = w32 1 then (xc_readPerson s).bind fun o7 => some o7 else (xc_readPair s x4).bind fun o3 => some o3
set_option maxRecDepth 100000 in
theorem xc_readClause_j104_ok {d : Nat} {P : Option Value → pm_H → Prop} {w : pm_H} {sh : Shp} {w0 : pm_H} {s : Hp} (hS : St sh) {x4 : Int} (h : Rw sh w0 s w) {o : Hp} (hx : xc_readClause_j104 s x4 = some o) (kr : ∀ w1, Rw sh w0 o w1 → P none w1) : wp (d + 8) 24 104 [(0, .ref 3), (1, .ref 1), (4, .int (Int32.ofInt x4))] [] w P := by
  unfold xc_readClause_j104 at hx
  refine wp_g 1 (pc1 := 106) (lv1 := [(0, .ref 3), (1, .ref 1), (4, .int (Int32.ofInt x4))]) (st1 := [.int (Int32.ofInt x4)]) (w1 := w) rfl ?_
  refine wz_ne (oo := 11) (ln := 3) (a := 117) (b := 0) (zz := 0) (by decide +kernel) (fun h1 => ?_) (fun h1 => ?_)
  · have hx := ite_f h1 hx
    refine wp_g 2 (pc1 := 120) (lv1 := [(0, .ref 3), (1, .ref 1), (4, .int (Int32.ofInt x4))]) (st1 := [.int (Int32.ofInt 1), .int (Int32.ofInt x4)]) (w1 := w) rfl ?_
    refine wx_ne (oo := 11) (ln := 3) (a := 131) (b := 0) (zz := 0) (by decide +kernel) (fun h2 => ?_) (fun h2 => ?_)
    · have hx := ite_f h2 hx
      refine wp_g 3 (pc1 := 135) (lv1 := [(0, .ref 3), (1, .ref 1), (4, .int (Int32.ofInt x4))]) (st1 := [.int (Int32.ofInt x4), .ref 1, .ref 3]) (w1 := w) rfl ?_
      obtain ⟨o3, e4, hx⟩ := bd hx
      refine wp_cl [.ref 3, .ref 1, .int (Int32.ofInt x4)] [] (i := .invokevirtual 69) (ln := 3) (a := 27) (b := 0) (z := 0) (by decide +kernel) rfl rfl (by decide) rfl (show (3 : Nat) = pm_na 27 by decide +kernel) (Nat.le_of_ble_eq_true rfl) (show (3 : Nat) ≤ pm_n 27 by decide +kernel) (rcv_x 1 h (hS _ _ sx_3) (by decide +kernel)) (xc_readPair_ok (d := d + 5) hS h e4 (fun w5 h6 => ?_))
      show wp _ 24 138 [(0, .ref 3), (1, .ref 1), (4, .int (Int32.ofInt x4))] [] w5 _
      refine wp_rt (i := .return_) (r := none) (ln := 1) (a := 0) (b := 0) (z := 0) (by decide +kernel) rfl (ret_v (by decide +kernel)) ?_
      cases hx
      exact kr _ h6
    · have hx := ite_t h2 hx
      refine wp_g 2 (pc1 := 125) (lv1 := [(0, .ref 3), (1, .ref 1), (4, .int (Int32.ofInt x4))]) (st1 := [.ref 1, .ref 3]) (w1 := w) rfl ?_
      obtain ⟨o7, e8, hx⟩ := bd hx
      refine wp_cl [.ref 3, .ref 1] [] (i := .invokevirtual 66) (ln := 3) (a := 26) (b := 0) (z := 0) (by decide +kernel) rfl rfl (by decide) rfl (show (2 : Nat) = pm_na 26 by decide +kernel) (Nat.le_of_ble_eq_true rfl) (show (2 : Nat) ≤ pm_n 26 by decide +kernel) (rcv_x 1 h (hS _ _ sx_3) (by decide +kernel)) (xc_readPerson_ok (d := d + 5) hS h e8 (fun w9 h10 => ?_))
      show wp _ 24 128 [(0, .ref 3), (1, .ref 1), (4, .int (Int32.ofInt x4))] [] w9 _
      refine wp_g 1 (pc1 := 138) (lv1 := [(0, .ref 3), (1, .ref 1), (4, .int (Int32.ofInt x4))]) (st1 := []) (w1 := w9) rfl ?_
      refine wp_rt (i := .return_) (r := none) (ln := 1) (a := 0) (b := 0) (z := 0) (by decide +kernel) rfl (ret_v (by decide +kernel)) ?_
      cases hx
      exact kr _ h10
  · have hx := ite_t h1 hx
    refine wp_g 2 (pc1 := 111) (lv1 := [(0, .ref 3), (1, .ref 1), (4, .int (Int32.ofInt x4))]) (st1 := [.ref 1, .ref 3]) (w1 := w) rfl ?_
    obtain ⟨o11, e12, hx⟩ := bd hx
    refine wp_cl [.ref 3, .ref 1] [] (i := .invokevirtual 62) (ln := 3) (a := 25) (b := 0) (z := 0) (by decide +kernel) rfl rfl (by decide) rfl (show (2 : Nat) = pm_na 25 by decide +kernel) (Nat.le_of_ble_eq_true rfl) (show (2 : Nat) ≤ pm_n 25 by decide +kernel) (rcv_x 1 h (hS _ _ sx_3) (by decide +kernel)) (xc_readCells_ok (d := d + 5) hS h e12 (fun w13 h14 => ?_))
    show wp _ 24 114 [(0, .ref 3), (1, .ref 1), (4, .int (Int32.ofInt x4))] [] w13 _
    refine wp_g 1 (pc1 := 138) (lv1 := [(0, .ref 3), (1, .ref 1), (4, .int (Int32.ofInt x4))]) (st1 := []) (w1 := w13) rfl ?_
    refine wp_rt (i := .return_) (r := none) (ln := 1) (a := 0) (b := 0) (z := 0) (by decide +kernel) rfl (ret_v (by decide +kernel)) ?_
    cases hx
    exact kr _ h14
noncomputable def xc_readClause_j75 (s : Hp) (x2 : Int) (x3 : Int) (x4 : Int) (x5 : Int) (k0 : Int) : Option Hp :=
  if w32 x5 = 0 then if w32 x2 < w32 40 then if 0 < w32 x2 then if w32 k0 = 0 then xc_readClause_j104 s x4 else (xt_fail s x3 4).bind fun o13 => some o13 else xc_readClause_j104 s x4 else (xt_fail s x3 4).bind fun o7 => some o7 else (xt_fail s x3 4).bind fun o2 => some o2
set_option maxRecDepth 100000 in
theorem xc_readClause_j75_ok {d : Nat} {P : Option Value → pm_H → Prop} {w : pm_H} {sh : Shp} {w0 : pm_H} {s : Hp} (hS : St sh) {x2 : Int} {x3 : Int} {x4 : Int} {x5 : Int} {k0 : Int} (h : Rw sh w0 s w) {o : Hp} (hx : xc_readClause_j75 s x2 x3 x4 x5 k0 = some o) (kr : ∀ w1, Rw sh w0 o w1 → P none w1) : wp (d + 8) 24 75 [(0, .ref 3), (1, .ref 1), (2, .int (Int32.ofInt x2)), (3, .int (Int32.ofInt x3)), (4, .int (Int32.ofInt x4)), (5, .int (Int32.ofInt x5))] [.int (Int32.ofInt k0)] w P := by
  unfold xc_readClause_j75 at hx
  refine wp_g 2 (pc1 := 79) (lv1 := [(6, .int (Int32.ofInt k0)), (0, .ref 3), (1, .ref 1), (2, .int (Int32.ofInt x2)), (3, .int (Int32.ofInt x3)), (4, .int (Int32.ofInt x4)), (5, .int (Int32.ofInt x5))]) (st1 := [.int (Int32.ofInt x5)]) (w1 := w) rfl ?_
  refine wz_ne (oo := 18) (ln := 3) (a := 97) (b := 0) (zz := 0) (by decide +kernel) (fun h1 => ?_) (fun h1 => ?_)
  · have hx := ite_f h1 hx
    refine wp_g 3 (pc1 := 100) (lv1 := [(6, .int (Int32.ofInt k0)), (0, .ref 3), (1, .ref 1), (2, .int (Int32.ofInt x2)), (3, .int (Int32.ofInt x3)), (4, .int (Int32.ofInt x4)), (5, .int (Int32.ofInt x5))]) (st1 := [.int (Int32.ofInt 4), .int (Int32.ofInt x3), .ref 1]) (w1 := w) rfl ?_
    obtain ⟨o2, e3, hx⟩ := bd hx
    refine wp_cl [.ref 1, .int (Int32.ofInt x3), .int (Int32.ofInt 4)] [] (i := .invokevirtual 58) (ln := 3) (a := 87) (b := 0) (z := 0) (by decide +kernel) rfl rfl (by decide) rfl (show (3 : Nat) = pm_na 87 by decide +kernel) (Nat.le_of_ble_eq_true rfl) (show (3 : Nat) ≤ pm_n 87 by decide +kernel) (rcv_x 9 h (hS _ _ sx_1) (by decide +kernel)) (xt_fail_ok (d := d + 7) hS h e3 (fun w4 h5 => ?_))
    show wp _ 24 103 [(6, .int (Int32.ofInt k0)), (0, .ref 3), (1, .ref 1), (2, .int (Int32.ofInt x2)), (3, .int (Int32.ofInt x3)), (4, .int (Int32.ofInt x4)), (5, .int (Int32.ofInt x5))] [] w4 _
    refine wp_rt (i := .return_) (r := none) (ln := 1) (a := 0) (b := 0) (z := 0) (by decide +kernel) rfl (ret_v (by decide +kernel)) ?_
    cases hx
    exact kr _ h5
  · have hx := ite_t h1 hx
    refine wp_g 2 (pc1 := 85) (lv1 := [(6, .int (Int32.ofInt k0)), (0, .ref 3), (1, .ref 1), (2, .int (Int32.ofInt x2)), (3, .int (Int32.ofInt x3)), (4, .int (Int32.ofInt x4)), (5, .int (Int32.ofInt x5))]) (st1 := [.int (Int32.ofInt 40), .int (Int32.ofInt x2)]) (w1 := w) rfl ?_
    refine wx_ge (oo := 12) (ln := 3) (a := 97) (b := 0) (zz := 0) (by decide +kernel) (fun h6 => ?_) (fun h6 => ?_)
    · have hx := ite_f h6 hx
      refine wp_g 3 (pc1 := 100) (lv1 := [(6, .int (Int32.ofInt k0)), (0, .ref 3), (1, .ref 1), (2, .int (Int32.ofInt x2)), (3, .int (Int32.ofInt x3)), (4, .int (Int32.ofInt x4)), (5, .int (Int32.ofInt x5))]) (st1 := [.int (Int32.ofInt 4), .int (Int32.ofInt x3), .ref 1]) (w1 := w) rfl ?_
      obtain ⟨o7, e8, hx⟩ := bd hx
      refine wp_cl [.ref 1, .int (Int32.ofInt x3), .int (Int32.ofInt 4)] [] (i := .invokevirtual 58) (ln := 3) (a := 87) (b := 0) (z := 0) (by decide +kernel) rfl rfl (by decide) rfl (show (3 : Nat) = pm_na 87 by decide +kernel) (Nat.le_of_ble_eq_true rfl) (show (3 : Nat) ≤ pm_n 87 by decide +kernel) (rcv_x 9 h (hS _ _ sx_1) (by decide +kernel)) (xt_fail_ok (d := d + 7) hS h e8 (fun w9 h10 => ?_))
      show wp _ 24 103 [(6, .int (Int32.ofInt k0)), (0, .ref 3), (1, .ref 1), (2, .int (Int32.ofInt x2)), (3, .int (Int32.ofInt x3)), (4, .int (Int32.ofInt x4)), (5, .int (Int32.ofInt x5))] [] w9 _
      refine wp_rt (i := .return_) (r := none) (ln := 1) (a := 0) (b := 0) (z := 0) (by decide +kernel) rfl (ret_v (by decide +kernel)) ?_
      cases hx
      exact kr _ h10
    · have hx := ite_t h6 hx
      refine wp_g 1 (pc1 := 89) (lv1 := [(6, .int (Int32.ofInt k0)), (0, .ref 3), (1, .ref 1), (2, .int (Int32.ofInt x2)), (3, .int (Int32.ofInt x3)), (4, .int (Int32.ofInt x4)), (5, .int (Int32.ofInt x5))]) (st1 := [.int (Int32.ofInt x2)]) (w1 := w) rfl ?_
      refine wz_le (oo := 15) (ln := 3) (a := 104) (b := 0) (zz := 0) (by decide +kernel) (fun h11 => ?_) (fun h11 => ?_)
      · have hx := ite_f h11 hx
        refine wp_lv (lv1 := [(0, .ref 3), (1, .ref 1), (4, .int (Int32.ofInt x4))]) (lsub_p [1, 2, 5] rfl rfl rfl) ?_
        exact xc_readClause_j104_ok hS h hx kr
      · have hx := ite_t h11 hx
        refine wp_g 1 (pc1 := 94) (lv1 := [(6, .int (Int32.ofInt k0)), (0, .ref 3), (1, .ref 1), (2, .int (Int32.ofInt x2)), (3, .int (Int32.ofInt x3)), (4, .int (Int32.ofInt x4)), (5, .int (Int32.ofInt x5))]) (st1 := [.int (Int32.ofInt k0)]) (w1 := w) rfl ?_
        refine wz_eq (oo := 10) (ln := 3) (a := 104) (b := 0) (zz := 0) (by decide +kernel) (fun h12 => ?_) (fun h12 => ?_)
        · have hx := ite_t h12 hx
          refine wp_lv (lv1 := [(0, .ref 3), (1, .ref 1), (4, .int (Int32.ofInt x4))]) (lsub_p [1, 2, 5] rfl rfl rfl) ?_
          exact xc_readClause_j104_ok hS h hx kr
        · have hx := ite_f h12 hx
          refine wp_g 3 (pc1 := 100) (lv1 := [(6, .int (Int32.ofInt k0)), (0, .ref 3), (1, .ref 1), (2, .int (Int32.ofInt x2)), (3, .int (Int32.ofInt x3)), (4, .int (Int32.ofInt x4)), (5, .int (Int32.ofInt x5))]) (st1 := [.int (Int32.ofInt 4), .int (Int32.ofInt x3), .ref 1]) (w1 := w) rfl ?_
          obtain ⟨o13, e14, hx⟩ := bd hx
          refine wp_cl [.ref 1, .int (Int32.ofInt x3), .int (Int32.ofInt 4)] [] (i := .invokevirtual 58) (ln := 3) (a := 87) (b := 0) (z := 0) (by decide +kernel) rfl rfl (by decide) rfl (show (3 : Nat) = pm_na 87 by decide +kernel) (Nat.le_of_ble_eq_true rfl) (show (3 : Nat) ≤ pm_n 87 by decide +kernel) (rcv_x 9 h (hS _ _ sx_1) (by decide +kernel)) (xt_fail_ok (d := d + 7) hS h e14 (fun w15 h16 => ?_))
          show wp _ 24 103 [(6, .int (Int32.ofInt k0)), (0, .ref 3), (1, .ref 1), (2, .int (Int32.ofInt x2)), (3, .int (Int32.ofInt x3)), (4, .int (Int32.ofInt x4)), (5, .int (Int32.ofInt x5))] [] w15 _
          refine wp_rt (i := .return_) (r := none) (ln := 1) (a := 0) (b := 0) (z := 0) (by decide +kernel) rfl (ret_v (by decide +kernel)) ?_
          cases hx
          exact kr _ h16
noncomputable def xc_readClause_j51 (s : Hp) (x2 : Int) (x3 : Int) (x4 : Int) (k0 : Int) : Option Hp :=
  if w32 x4 = w32 1 then if w32 (s 4 1) < w32 4 then xc_readClause_j75 s x2 x3 x4 k0 0 else xc_readClause_j75 s x2 x3 x4 k0 1 else xc_readClause_j75 s x2 x3 x4 k0 0
set_option maxRecDepth 100000 in
theorem xc_readClause_j51_ok {d : Nat} {P : Option Value → pm_H → Prop} {w : pm_H} {sh : Shp} {w0 : pm_H} {s : Hp} (hS : St sh) {x2 : Int} {x3 : Int} {x4 : Int} {k0 : Int} (h : Rw sh w0 s w) {o : Hp} (hx : xc_readClause_j51 s x2 x3 x4 k0 = some o) (kr : ∀ w1, Rw sh w0 o w1 → P none w1) : wp (d + 8) 24 51 [(0, .ref 3), (1, .ref 1), (2, .int (Int32.ofInt x2)), (3, .int (Int32.ofInt x3)), (4, .int (Int32.ofInt x4))] [.int (Int32.ofInt k0)] w P := by
  unfold xc_readClause_j51 at hx
  refine wp_g 3 (pc1 := 56) (lv1 := [(5, .int (Int32.ofInt k0)), (0, .ref 3), (1, .ref 1), (2, .int (Int32.ofInt x2)), (3, .int (Int32.ofInt x3)), (4, .int (Int32.ofInt x4))]) (st1 := [.int (Int32.ofInt 1), .int (Int32.ofInt x4)]) (w1 := w) rfl ?_
  refine wx_ne (oo := 18) (ln := 3) (a := 74) (b := 0) (zz := 0) (by decide +kernel) (fun h1 => ?_) (fun h1 => ?_)
  · have hx := ite_f h1 hx
    refine wp_g 1 (pc1 := 75) (lv1 := [(5, .int (Int32.ofInt k0)), (0, .ref 3), (1, .ref 1), (2, .int (Int32.ofInt x2)), (3, .int (Int32.ofInt x3)), (4, .int (Int32.ofInt x4))]) (st1 := [.int (Int32.ofInt 0)]) (w1 := w) rfl ?_
    refine wp_lv (lv1 := [(0, .ref 3), (1, .ref 1), (2, .int (Int32.ofInt x2)), (3, .int (Int32.ofInt x3)), (4, .int (Int32.ofInt x4)), (5, .int (Int32.ofInt k0))]) (lsub_p [1, 2, 3, 4, 5, 0] rfl rfl rfl) ?_
    exact xc_readClause_j75_ok hS h hx kr
  · have hx := ite_t h1 hx
    refine wp_g 1 (pc1 := 60) (lv1 := [(5, .int (Int32.ofInt k0)), (0, .ref 3), (1, .ref 1), (2, .int (Int32.ofInt x2)), (3, .int (Int32.ofInt x3)), (4, .int (Int32.ofInt x4))]) (st1 := [.ref 3]) (w1 := w) rfl ?_
    refine wx_gr (o := 1) (kf := 12) (ln := 3) (ci := 1) (b := 0) (zz := 0) (x := 3) (by decide +kernel) h (hS _ _ sx_3) rfl ?_
    show wp _ 24 63 [(5, .int (Int32.ofInt k0)), (0, .ref 3), (1, .ref 1), (2, .int (Int32.ofInt x2)), (3, .int (Int32.ofInt x3)), (4, .int (Int32.ofInt x4))] [.ref 4] w _
    refine wx_gi (kf := 54) (ln := 3) (ci := 0) (b := 1) (zz := 0) (x := 4) (by decide +kernel) h (hS _ _ sx_4) rfl ?_
    show wp _ 24 66 [(5, .int (Int32.ofInt k0)), (0, .ref 3), (1, .ref 1), (2, .int (Int32.ofInt x2)), (3, .int (Int32.ofInt x3)), (4, .int (Int32.ofInt x4))] [.int (Int32.ofInt (s 4 1))] w _
    refine wp_g 1 (pc1 := 67) (lv1 := [(5, .int (Int32.ofInt k0)), (0, .ref 3), (1, .ref 1), (2, .int (Int32.ofInt x2)), (3, .int (Int32.ofInt x3)), (4, .int (Int32.ofInt x4))]) (st1 := [.int (Int32.ofInt 4), .int (Int32.ofInt (s 4 1))]) (w1 := w) rfl ?_
    refine wx_lt (oo := 7) (ln := 3) (a := 74) (b := 0) (zz := 0) (by decide +kernel) (fun h2 => ?_) (fun h2 => ?_)
    · have hx := ite_t h2 hx
      refine wp_g 1 (pc1 := 75) (lv1 := [(5, .int (Int32.ofInt k0)), (0, .ref 3), (1, .ref 1), (2, .int (Int32.ofInt x2)), (3, .int (Int32.ofInt x3)), (4, .int (Int32.ofInt x4))]) (st1 := [.int (Int32.ofInt 0)]) (w1 := w) rfl ?_
      refine wp_lv (lv1 := [(0, .ref 3), (1, .ref 1), (2, .int (Int32.ofInt x2)), (3, .int (Int32.ofInt x3)), (4, .int (Int32.ofInt x4)), (5, .int (Int32.ofInt k0))]) (lsub_p [1, 2, 3, 4, 5, 0] rfl rfl rfl) ?_
      exact xc_readClause_j75_ok hS h hx kr
    · have hx := ite_f h2 hx
      refine wp_g 2 (pc1 := 75) (lv1 := [(5, .int (Int32.ofInt k0)), (0, .ref 3), (1, .ref 1), (2, .int (Int32.ofInt x2)), (3, .int (Int32.ofInt x3)), (4, .int (Int32.ofInt x4))]) (st1 := [.int (Int32.ofInt 1)]) (w1 := w) rfl ?_
      refine wp_lv (lv1 := [(0, .ref 3), (1, .ref 1), (2, .int (Int32.ofInt x2)), (3, .int (Int32.ofInt x3)), (4, .int (Int32.ofInt x4)), (5, .int (Int32.ofInt k0))]) (lsub_p [1, 2, 3, 4, 5, 0] rfl rfl rfl) ?_
      exact xc_readClause_j75_ok hS h hx kr
noncomputable def xc_readClause_j34 (s : Hp) (x2 : Int) (x3 : Int) (x4 : Int) (k0 : Int) : Option Hp :=
  if w32 x2 = 0 then if w32 k0 = w32 1 then xc_readClause_j51 s x2 x3 x4 0 else xc_readClause_j51 s x2 x3 x4 1 else if w32 k0 = w32 0 then xc_readClause_j51 s x2 x3 x4 0 else xc_readClause_j51 s x2 x3 x4 1
set_option maxRecDepth 100000 in
theorem xc_readClause_j34_ok {d : Nat} {P : Option Value → pm_H → Prop} {w : pm_H} {sh : Shp} {w0 : pm_H} {s : Hp} (hS : St sh) {x2 : Int} {x3 : Int} {x4 : Int} {k0 : Int} (h : Rw sh w0 s w) {o : Hp} (hx : xc_readClause_j34 s x2 x3 x4 k0 = some o) (kr : ∀ w1, Rw sh w0 o w1 → P none w1) : wp (d + 8) 24 34 [(0, .ref 3), (1, .ref 1), (2, .int (Int32.ofInt x2)), (3, .int (Int32.ofInt x3)), (4, .int (Int32.ofInt x4))] [.int (Int32.ofInt k0)] w P := by
  unfold xc_readClause_j34 at hx
  refine wp_g 1 (pc1 := 35) (lv1 := [(0, .ref 3), (1, .ref 1), (2, .int (Int32.ofInt x2)), (3, .int (Int32.ofInt x3)), (4, .int (Int32.ofInt x4))]) (st1 := [.int (Int32.ofInt x2), .int (Int32.ofInt k0)]) (w1 := w) rfl ?_
  refine wz_ne (oo := 7) (ln := 3) (a := 42) (b := 0) (zz := 0) (by decide +kernel) (fun h1 => ?_) (fun h1 => ?_)
  · have hx := ite_f h1 hx
    refine wp_g 1 (pc1 := 43) (lv1 := [(0, .ref 3), (1, .ref 1), (2, .int (Int32.ofInt x2)), (3, .int (Int32.ofInt x3)), (4, .int (Int32.ofInt x4))]) (st1 := [.int (Int32.ofInt 0), .int (Int32.ofInt k0)]) (w1 := w) rfl ?_
    refine wx_eq (oo := 7) (ln := 3) (a := 50) (b := 0) (zz := 0) (by decide +kernel) (fun h2 => ?_) (fun h2 => ?_)
    · have hx := ite_t h2 hx
      refine wp_g 1 (pc1 := 51) (lv1 := [(0, .ref 3), (1, .ref 1), (2, .int (Int32.ofInt x2)), (3, .int (Int32.ofInt x3)), (4, .int (Int32.ofInt x4))]) (st1 := [.int (Int32.ofInt 0)]) (w1 := w) rfl ?_
      exact xc_readClause_j51_ok hS h hx kr
    · have hx := ite_f h2 hx
      refine wp_g 2 (pc1 := 51) (lv1 := [(0, .ref 3), (1, .ref 1), (2, .int (Int32.ofInt x2)), (3, .int (Int32.ofInt x3)), (4, .int (Int32.ofInt x4))]) (st1 := [.int (Int32.ofInt 1)]) (w1 := w) rfl ?_
      exact xc_readClause_j51_ok hS h hx kr
  · have hx := ite_t h1 hx
    refine wp_g 2 (pc1 := 43) (lv1 := [(0, .ref 3), (1, .ref 1), (2, .int (Int32.ofInt x2)), (3, .int (Int32.ofInt x3)), (4, .int (Int32.ofInt x4))]) (st1 := [.int (Int32.ofInt 1), .int (Int32.ofInt k0)]) (w1 := w) rfl ?_
    refine wx_eq (oo := 7) (ln := 3) (a := 50) (b := 0) (zz := 0) (by decide +kernel) (fun h3 => ?_) (fun h3 => ?_)
    · have hx := ite_t h3 hx
      refine wp_g 1 (pc1 := 51) (lv1 := [(0, .ref 3), (1, .ref 1), (2, .int (Int32.ofInt x2)), (3, .int (Int32.ofInt x3)), (4, .int (Int32.ofInt x4))]) (st1 := [.int (Int32.ofInt 0)]) (w1 := w) rfl ?_
      exact xc_readClause_j51_ok hS h hx kr
    · have hx := ite_f h3 hx
      refine wp_g 2 (pc1 := 51) (lv1 := [(0, .ref 3), (1, .ref 1), (2, .int (Int32.ofInt x2)), (3, .int (Int32.ofInt x3)), (4, .int (Int32.ofInt x4))]) (st1 := [.int (Int32.ofInt 1)]) (w1 := w) rfl ?_
      exact xc_readClause_j51_ok hS h hx kr
/-- ClothReader.readClause (LText;I)V -/
noncomputable def xc_readClause (s : Hp) (p2 : Int) : Option Hp :=
  (xt_where s).bind fun o1 => (xt_takeWord s 0).bind fun o5 => if w32 o5.1 = w32 (-1) then (xt_failHere o5.2).bind fun o11 => some o11 else if w32 o5.1 = 0 then xc_readClause_j34 o5.2 p2 o1 o5.1 1 else xc_readClause_j34 o5.2 p2 o1 o5.1 0
set_option maxRecDepth 100000 in
theorem xc_readClause_ok {d : Nat} {P : Option Value → pm_H → Prop} {w : pm_H} {sh : Shp} {w0 : pm_H} {s : Hp} (hS : St sh) {p2 : Int} (h : Rw sh w0 s w) {o : Hp} (hx : xc_readClause s p2 = some o) (kr : ∀ w1, Rw sh w0 o w1 → P none w1) : wp (d + 8) 24 0 (lv_args 0 [.ref 3, .ref 1, .int (Int32.ofInt p2)]) [] w P := by
  show wp _ 24 0 [(0, .ref 3), (1, .ref 1), (2, .int (Int32.ofInt p2))] [] w _
  unfold xc_readClause at hx
  refine wp_g 1 (pc1 := 1) (lv1 := [(0, .ref 3), (1, .ref 1), (2, .int (Int32.ofInt p2))]) (st1 := [.ref 1]) (w1 := w) rfl ?_
  obtain ⟨o1, e2, hx⟩ := bd hx
  refine wp_cl [.ref 1] [] (i := .invokevirtual 42) (ln := 3) (a := 89) (b := 0) (z := 0) (by decide +kernel) rfl rfl (by decide) rfl (show (1 : Nat) = pm_na 89 by decide +kernel) (Nat.le_of_ble_eq_true rfl) (show (1 : Nat) ≤ pm_n 89 by decide +kernel) (rcv_x 9 h (hS _ _ sx_1) (by decide +kernel)) (xt_where_ok (d := d + 7) hS h e2 ?_)
  show wp _ 24 4 [(0, .ref 3), (1, .ref 1), (2, .int (Int32.ofInt p2))] [.int (Int32.ofInt o1)] w _
  refine wp_g 3 (pc1 := 8) (lv1 := [(3, .int (Int32.ofInt o1)), (0, .ref 3), (1, .ref 1), (2, .int (Int32.ofInt p2))]) (st1 := [.retAddr 0, .ref 1]) (w1 := w) rfl ?_
  obtain ⟨o5, e6, hx⟩ := bd hx
  refine wp_cl [.ref 1, .retAddr 0] [] (i := .invokevirtual 47) (ln := 3) (a := 96) (b := 0) (z := 0) (by decide +kernel) rfl rfl (by decide) rfl (show (2 : Nat) = pm_na 96 by decide +kernel) (Nat.le_of_ble_eq_true rfl) (show (2 : Nat) ≤ pm_n 96 by decide +kernel) (rcv_x 9 h (hS _ _ sx_1) (by decide +kernel)) (xt_takeWord_ok (d := d) hS h e6 (fun w7 h8 => ?_))
  show wp _ 24 11 [(3, .int (Int32.ofInt o1)), (0, .ref 3), (1, .ref 1), (2, .int (Int32.ofInt p2))] [.int (Int32.ofInt o5.1)] w7 _
  refine wp_g 3 (pc1 := 16) (lv1 := [(4, .int (Int32.ofInt o5.1)), (3, .int (Int32.ofInt o1)), (0, .ref 3), (1, .ref 1), (2, .int (Int32.ofInt p2))]) (st1 := [.int (Int32.ofInt (-1)), .int (Int32.ofInt o5.1)]) (w1 := w7) rfl ?_
  refine wx_ne (oo := 8) (ln := 3) (a := 24) (b := 0) (zz := 0) (by decide +kernel) (fun h9 => ?_) (fun h9 => ?_)
  · have hx := ite_f h9 hx
    refine wp_g 1 (pc1 := 26) (lv1 := [(4, .int (Int32.ofInt o5.1)), (3, .int (Int32.ofInt o1)), (0, .ref 3), (1, .ref 1), (2, .int (Int32.ofInt p2))]) (st1 := [.int (Int32.ofInt o5.1)]) (w1 := w7) rfl ?_
    refine wz_ne (oo := 7) (ln := 3) (a := 33) (b := 0) (zz := 0) (by decide +kernel) (fun h10 => ?_) (fun h10 => ?_)
    · have hx := ite_f h10 hx
      refine wp_g 1 (pc1 := 34) (lv1 := [(4, .int (Int32.ofInt o5.1)), (3, .int (Int32.ofInt o1)), (0, .ref 3), (1, .ref 1), (2, .int (Int32.ofInt p2))]) (st1 := [.int (Int32.ofInt 0)]) (w1 := w7) rfl ?_
      refine wp_lv (lv1 := [(0, .ref 3), (1, .ref 1), (2, .int (Int32.ofInt p2)), (3, .int (Int32.ofInt o1)), (4, .int (Int32.ofInt o5.1))]) (lsub_p [2, 3, 4, 1, 0] rfl rfl rfl) ?_
      exact xc_readClause_j34_ok hS h8 hx kr
    · have hx := ite_t h10 hx
      refine wp_g 2 (pc1 := 34) (lv1 := [(4, .int (Int32.ofInt o5.1)), (3, .int (Int32.ofInt o1)), (0, .ref 3), (1, .ref 1), (2, .int (Int32.ofInt p2))]) (st1 := [.int (Int32.ofInt 1)]) (w1 := w7) rfl ?_
      refine wp_lv (lv1 := [(0, .ref 3), (1, .ref 1), (2, .int (Int32.ofInt p2)), (3, .int (Int32.ofInt o1)), (4, .int (Int32.ofInt o5.1))]) (lsub_p [2, 3, 4, 1, 0] rfl rfl rfl) ?_
      exact xc_readClause_j34_ok hS h8 hx kr
  · have hx := ite_t h9 hx
    refine wp_g 1 (pc1 := 20) (lv1 := [(4, .int (Int32.ofInt o5.1)), (3, .int (Int32.ofInt o1)), (0, .ref 3), (1, .ref 1), (2, .int (Int32.ofInt p2))]) (st1 := [.ref 1]) (w1 := w7) rfl ?_
    obtain ⟨o11, e12, hx⟩ := bd hx
    refine wp_cl [.ref 1] [] (i := .invokevirtual 51) (ln := 3) (a := 88) (b := 0) (z := 0) (by decide +kernel) rfl rfl (by decide) rfl (show (1 : Nat) = pm_na 88 by decide +kernel) (Nat.le_of_ble_eq_true rfl) (show (1 : Nat) ≤ pm_n 88 by decide +kernel) (rcv_x 9 h8 (hS _ _ sx_1) (by decide +kernel)) (xt_failHere_ok (d := d + 6) hS h8 e12 (fun w13 h14 => ?_))
    show wp _ 24 23 [(4, .int (Int32.ofInt o5.1)), (3, .int (Int32.ofInt o1)), (0, .ref 3), (1, .ref 1), (2, .int (Int32.ofInt p2))] [] w13 _
    refine wp_rt (i := .return_) (r := none) (ln := 1) (a := 0) (b := 0) (z := 0) (by decide +kernel) rfl (ret_v (by decide +kernel)) ?_
    cases hx
    exact kr _ h14
noncomputable def xc_read_b6 (s : Hp) (x2 : Int) : Option ((Int × Hp) ⊕ ((Int × Hp) ⊕ (Int × Hp))) :=
  if w32 40 < w32 x2 then some (.inr (.inl (x2, s))) else (xt_failed s).bind fun o2 => if w32 o2 = 0 then (xc_readClause s x2).bind fun o7 => (xt_ended o7).bind fun o11 => if w32 o11 = 0 then (xt_needSign o7 59).bind fun o16 => some (.inl (x2 + 1, o16)) else (xt_fault o7).bind fun o20 => some (.inr (.inr (o20, o7))) else some (.inr (.inl (x2, s)))
set_option maxRecDepth 100000 in
theorem xc_read_b6_ok {d : Nat} {P : Option Value → pm_H → Prop} {w : pm_H} {sh : Shp} {w0 : pm_H} {s : Hp} (hS : St sh) {x2 : Int} (h : Rw sh w0 s w) {o : ((Int × Hp) ⊕ ((Int × Hp) ⊕ (Int × Hp)))} (hx : xc_read_b6 s x2 = some o) (kn : ∀ (q : Int × Hp) w1, o = .inl q → Rw sh w0 q.2 w1 → wp (d + 9) 23 6 [(0, .ref 3), (1, .ref 1), (2, .int (Int32.ofInt q.1))] [] w1 P) (kc : ∀ (r : ((Int × Hp) ⊕ (Int × Hp))), o = .inr r → ((∀ q1 w1, r = .inl q1 → Rw sh w0 q1.2 w1 → wp (d + 9) 23 49 [(0, .ref 3), (1, .ref 1), (2, .int (Int32.ofInt q1.1))] [] w1 P) ∧ (∀ v1 w1, r = .inr v1 → Rw sh w0 v1.2 w1 → P (some (.int (Int32.ofInt v1.1))) w1))) : wp (d + 9) 23 6 [(0, .ref 3), (1, .ref 1), (2, .int (Int32.ofInt x2))] [] w P := by
  unfold xc_read_b6 at hx
  refine wp_g 2 (pc1 := 9) (lv1 := [(0, .ref 3), (1, .ref 1), (2, .int (Int32.ofInt x2))]) (st1 := [.int (Int32.ofInt 40), .int (Int32.ofInt x2)]) (w1 := w) rfl ?_
  refine wx_gt (oo := 40) (ln := 3) (a := 49) (b := 0) (zz := 0) (by decide +kernel) (fun h1 => ?_) (fun h1 => ?_)
  · have hx := ite_t h1 hx
    cases hx
    exact (kc _ rfl).1 _ _ rfl h
  · have hx := ite_f h1 hx
    refine wp_g 1 (pc1 := 13) (lv1 := [(0, .ref 3), (1, .ref 1), (2, .int (Int32.ofInt x2))]) (st1 := [.ref 1]) (w1 := w) rfl ?_
    obtain ⟨o2, e3, hx⟩ := bd hx
    refine wp_cl [.ref 1] [] (i := .invokevirtual 23) (ln := 3) (a := 86) (b := 0) (z := 0) (by decide +kernel) rfl rfl (by decide) rfl (show (1 : Nat) = pm_na 86 by decide +kernel) (Nat.le_of_ble_eq_true rfl) (show (1 : Nat) ≤ pm_n 86 by decide +kernel) (rcv_x 9 h (hS _ _ sx_1) (by decide +kernel)) (xt_failed_ok (d := d + 8) hS h e3 ?_)
    show wp _ 23 16 [(0, .ref 3), (1, .ref 1), (2, .int (Int32.ofInt x2))] [.int (Int32.ofInt o2)] w _
    refine wz_ne (oo := 33) (ln := 3) (a := 49) (b := 0) (zz := 0) (by decide +kernel) (fun h6 => ?_) (fun h6 => ?_)
    · have hx := ite_f h6 hx
      cases hx
      exact (kc _ rfl).1 _ _ rfl h
    · have hx := ite_t h6 hx
      refine wp_g 3 (pc1 := 22) (lv1 := [(0, .ref 3), (1, .ref 1), (2, .int (Int32.ofInt x2))]) (st1 := [.int (Int32.ofInt x2), .ref 1, .ref 3]) (w1 := w) rfl ?_
      obtain ⟨o7, e8, hx⟩ := bd hx
      refine wp_cl [.ref 3, .ref 1, .int (Int32.ofInt x2)] [] (i := .invokevirtual 27) (ln := 3) (a := 24) (b := 0) (z := 0) (by decide +kernel) rfl rfl (by decide) rfl (show (3 : Nat) = pm_na 24 by decide +kernel) (Nat.le_of_ble_eq_true rfl) (show (3 : Nat) ≤ pm_n 24 by decide +kernel) (rcv_x 1 h (hS _ _ sx_3) (by decide +kernel)) (xc_readClause_ok (d := d) hS h e8 (fun w9 h10 => ?_))
      show wp _ 23 25 [(0, .ref 3), (1, .ref 1), (2, .int (Int32.ofInt x2))] [] w9 _
      refine wp_g 1 (pc1 := 26) (lv1 := [(0, .ref 3), (1, .ref 1), (2, .int (Int32.ofInt x2))]) (st1 := [.ref 1]) (w1 := w9) rfl ?_
      obtain ⟨o11, e12, hx⟩ := bd hx
      refine wp_cl [.ref 1] [] (i := .invokevirtual 31) (ln := 3) (a := 90) (b := 0) (z := 0) (by decide +kernel) rfl rfl (by decide) rfl (show (1 : Nat) = pm_na 90 by decide +kernel) (Nat.le_of_ble_eq_true rfl) (show (1 : Nat) ≤ pm_n 90 by decide +kernel) (rcv_x 9 h10 (hS _ _ sx_1) (by decide +kernel)) (xt_ended_ok (d := d + 8) hS h10 e12 ?_)
      show wp _ 23 29 [(0, .ref 3), (1, .ref 1), (2, .int (Int32.ofInt x2))] [.int (Int32.ofInt o11)] w9 _
      refine wz_eq (oo := 8) (ln := 3) (a := 37) (b := 0) (zz := 0) (by decide +kernel) (fun h15 => ?_) (fun h15 => ?_)
      · have hx := ite_t h15 hx
        refine wp_g 2 (pc1 := 40) (lv1 := [(0, .ref 3), (1, .ref 1), (2, .int (Int32.ofInt x2))]) (st1 := [.int (Int32.ofInt 59), .ref 1]) (w1 := w9) rfl ?_
        obtain ⟨o16, e17, hx⟩ := bd hx
        refine wp_cl [.ref 1, .int (Int32.ofInt 59)] [] (i := .invokevirtual 38) (ln := 3) (a := 93) (b := 0) (z := 0) (by decide +kernel) rfl rfl (by decide) rfl (show (2 : Nat) = pm_na 93 by decide +kernel) (Nat.le_of_ble_eq_true rfl) (show (2 : Nat) ≤ pm_n 93 by decide +kernel) (rcv_x 9 h10 (hS _ _ sx_1) (by decide +kernel)) (xt_needSign_ok (d := d + 6) hS h10 e17 (fun w18 h19 => ?_))
        show wp _ 23 43 [(0, .ref 3), (1, .ref 1), (2, .int (Int32.ofInt x2))] [] w18 _
        refine wp_g 2 (pc1 := 6) (lv1 := [(2, .int (Int32.ofInt (x2 + 1))), (0, .ref 3), (1, .ref 1)]) (st1 := []) (w1 := w18) (by simp only [Int32.ofInt_add, Int32.ofInt_sub, Int32.ofInt_mul, Int32.ofInt_neg, p_and, p_or, p_xor, p_shl, p_shr, p_usr, p_w8, p_c16, p_lI, q_and, q_or, q_shl, q_shr, q_w32, Int64.ofInt_add, Int64.ofInt_sub, Int64.ofInt_mul, p_mx, p_mn, q_mx, q_mn]; rfl) ?_
        refine wp_lv (lv1 := [(0, .ref 3), (1, .ref 1), (2, .int (Int32.ofInt (x2 + 1)))]) (lsub_p [1, 2, 0] rfl rfl rfl) ?_
        cases hx
        exact kn _ _ rfl h19
      · have hx := ite_f h15 hx
        refine wp_g 1 (pc1 := 33) (lv1 := [(0, .ref 3), (1, .ref 1), (2, .int (Int32.ofInt x2))]) (st1 := [.ref 1]) (w1 := w9) rfl ?_
        obtain ⟨o20, e21, hx⟩ := bd hx
        refine wp_cl [.ref 1] [] (i := .invokevirtual 34) (ln := 3) (a := 85) (b := 0) (z := 0) (by decide +kernel) rfl rfl (by decide) rfl (show (1 : Nat) = pm_na 85 by decide +kernel) (Nat.le_of_ble_eq_true rfl) (show (1 : Nat) ≤ pm_n 85 by decide +kernel) (rcv_x 9 h10 (hS _ _ sx_1) (by decide +kernel)) (xt_fault_ok (d := d + 8) hS h10 e21 ?_)
        show wp _ 23 36 [(0, .ref 3), (1, .ref 1), (2, .int (Int32.ofInt x2))] [.int (Int32.ofInt o20)] w9 _
        refine wp_rt (i := .ireturn) (r := some (.int (Int32.ofInt o20))) (ln := 1) (a := 0) (b := 0) (z := 0) (by decide +kernel) rfl (ret_ok (by decide +kernel)) ?_
        cases hx
        exact (kc _ rfl).2 _ _ rfl h10
/-- ClothReader.read (LText;)I -/
noncomputable def xc_read (s : Hp) : Option (Int × Hp) :=
  (xt_startReading s).bind fun o1 => (lp (fun (q : Int × Hp) => xc_read_b6 q.2 q.1) (0, o1)).bind fun q5 => q5.elim (fun q9 => (xt_fault q9.2).bind fun o11 => some (o11, q9.2)) (fun r => some r)
set_option maxRecDepth 100000 in
theorem xc_read_ok {d : Nat} {P : Option Value → pm_H → Prop} {w : pm_H} {sh : Shp} {w0 : pm_H} {s : Hp} (hS : St sh) (h : Rw sh w0 s w) {o : Int × Hp} (hx : xc_read s = some o) (kr : ∀ w1, Rw sh w0 o.2 w1 → P (some (.int (Int32.ofInt o.1))) w1) : wp (d + 9) 23 0 (lv_args 0 [.ref 3, .ref 1]) [] w P := by
  show wp _ 23 0 [(0, .ref 3), (1, .ref 1)] [] w _
  unfold xc_read at hx
  refine wp_g 1 (pc1 := 1) (lv1 := [(0, .ref 3), (1, .ref 1)]) (st1 := [.ref 1]) (w1 := w) rfl ?_
  obtain ⟨o1, e2, hx⟩ := bd hx
  refine wp_cl [.ref 1] [] (i := .invokevirtual 18) (ln := 3) (a := 84) (b := 0) (z := 0) (by decide +kernel) rfl rfl (by decide) rfl (show (1 : Nat) = pm_na 84 by decide +kernel) (Nat.le_of_ble_eq_true rfl) (show (1 : Nat) ≤ pm_n 84 by decide +kernel) (rcv_x 9 h (hS _ _ sx_1) (by decide +kernel)) (xt_startReading_ok (d := d + 7) hS h e2 (fun w3 h4 => ?_))
  show wp _ 23 4 [(0, .ref 3), (1, .ref 1)] [] w3 _
  refine wp_g 2 (pc1 := 6) (lv1 := [(2, .int (Int32.ofInt 0)), (0, .ref 3), (1, .ref 1)]) (st1 := []) (w1 := w3) rfl ?_
  refine wp_lv (lv1 := [(0, .ref 3), (1, .ref 1), (2, .int (Int32.ofInt 0))]) (lsub_p [1, 2, 0] rfl rfl rfl) ?_
  obtain ⟨q5, e6, hx⟩ := bd hx
  refine wp_lp (σ := Int × Hp) (ρ := ((Int × Hp) ⊕ (Int × Hp))) (B := fun q => xc_read_b6 q.2 q.1) (R := fun q w' => Rw sh w0 q.2 w') (C := fun r => (∀ q1 w1, r = .inl q1 → Rw sh w0 q1.2 w1 → wp (d + 9) 23 49 [(0, .ref 3), (1, .ref 1), (2, .int (Int32.ofInt q1.1))] [] w1 P) ∧ (∀ v1 w1, r = .inr v1 → Rw sh w0 v1.2 w1 → P (some (.int (Int32.ofInt v1.1))) w1)) (lv := fun q => [(0, .ref 3), (1, .ref 1), (2, .int (Int32.ofInt q.1))]) (hd := 6) (fun q w' o hR hb kn kc => xc_read_b6_ok hS hR hb kn kc) _ _ _ e6 h4 ?_
  refine ⟨?_, fun v10 w1 hs h1 => by subst hs; cases (se_r hx); exact kr _ h1⟩
  intro q9 w7 hs h8
  subst hs
  replace hx := se_l hx
  show wp _ 23 49 [(0, .ref 3), (1, .ref 1), (2, .int (Int32.ofInt q9.1))] [] w7 _
  refine wp_g 1 (pc1 := 50) (lv1 := [(0, .ref 3), (1, .ref 1), (2, .int (Int32.ofInt q9.1))]) (st1 := [.ref 1]) (w1 := w7) rfl ?_
  obtain ⟨o11, e12, hx⟩ := bd hx
  refine wp_cl [.ref 1] [] (i := .invokevirtual 34) (ln := 3) (a := 85) (b := 0) (z := 0) (by decide +kernel) rfl rfl (by decide) rfl (show (1 : Nat) = pm_na 85 by decide +kernel) (Nat.le_of_ble_eq_true rfl) (show (1 : Nat) ≤ pm_n 85 by decide +kernel) (rcv_x 9 h8 (hS _ _ sx_1) (by decide +kernel)) (xt_fault_ok (d := d + 8) hS h8 e12 ?_)
  show wp _ 23 53 [(0, .ref 3), (1, .ref 1), (2, .int (Int32.ofInt q9.1))] [.int (Int32.ofInt o11)] w7 _
  refine wp_rt (i := .ireturn) (r := some (.int (Int32.ofInt o11))) (ln := 1) (a := 0) (b := 0) (z := 0) (by decide +kernel) rfl (ret_ok (by decide +kernel)) ?_
  cases hx
  exact kr _ h8
/-- RuleReader.addStep (I)V -/
noncomputable def xr_addStep (s : Hp) (p1 : Int) : Option Hp :=
  if w32 (s 13 1) < w32 400 then (ix 400 (s 13 1)).bind fun i2 => (some (uh s 14 i2 p1)).bind fun s4 => (some (uh s4 13 1 ((s4 13 1) + 1))).bind fun s8 => some s8 else some s
set_option maxRecDepth 100000 in
theorem xr_addStep_ok {d : Nat} {P : Option Value → pm_H → Prop} {w : pm_H} {sh : Shp} {w0 : pm_H} {s : Hp} (hS : St sh) {p1 : Int} (h : Rw sh w0 s w) {o : Hp} (hx : xr_addStep s p1 = some o) (kr : ∀ w1, Rw sh w0 o w1 → P none w1) : wp d 59 0 (lv_args 0 [.ref 13, .int (Int32.ofInt p1)]) [] w P := by
  show wp _ 59 0 [(0, .ref 13), (1, .int (Int32.ofInt p1))] [] w _
  unfold xr_addStep at hx
  refine wp_g 1 (pc1 := 1) (lv1 := [(0, .ref 13), (1, .int (Int32.ofInt p1))]) (st1 := [.ref 13]) (w1 := w) rfl ?_
  refine wx_gi (kf := 15) (ln := 3) (ci := 6) (b := 1) (zz := 0) (x := 13) (by decide +kernel) h (hS _ _ sx_13) rfl ?_
  show wp _ 59 4 [(0, .ref 13), (1, .int (Int32.ofInt p1))] [.int (Int32.ofInt (s 13 1))] w _
  refine wp_g 1 (pc1 := 5) (lv1 := [(0, .ref 13), (1, .int (Int32.ofInt p1))]) (st1 := [.ref 13, .int (Int32.ofInt (s 13 1))]) (w1 := w) rfl ?_
  refine wx_gr (o := 1) (kf := 9) (ln := 3) (ci := 6) (b := 0) (zz := 0) (x := 13) (by decide +kernel) h (hS _ _ sx_13) rfl ?_
  show wp _ 59 8 [(0, .ref 13), (1, .int (Int32.ofInt p1))] [.ref 14, .int (Int32.ofInt (s 13 1))] w _
  refine wx_ln (n := 400) (t := 0) (ln := 1) (a := 0) (b := 0) (zz := 0) (by decide +kernel) h (hS _ _ sx_14) ?_
  show wp _ 59 9 [(0, .ref 13), (1, .int (Int32.ofInt p1))] [.int (Int32.ofInt 400), .int (Int32.ofInt (s 13 1))] w _
  refine wx_ge (oo := 23) (ln := 3) (a := 32) (b := 0) (zz := 0) (by decide +kernel) (fun h1 => ?_) (fun h1 => ?_)
  · have hx := ite_f h1 hx
    refine wp_rt (i := .return_) (r := none) (ln := 1) (a := 0) (b := 0) (z := 0) (by decide +kernel) rfl (ret_v (by decide +kernel)) ?_
    cases hx
    exact kr _ h
  · have hx := ite_t h1 hx
    refine wp_g 1 (pc1 := 13) (lv1 := [(0, .ref 13), (1, .int (Int32.ofInt p1))]) (st1 := [.ref 13]) (w1 := w) rfl ?_
    refine wx_gr (o := 1) (kf := 9) (ln := 3) (ci := 6) (b := 0) (zz := 0) (x := 13) (by decide +kernel) h (hS _ _ sx_13) rfl ?_
    show wp _ 59 16 [(0, .ref 13), (1, .int (Int32.ofInt p1))] [.ref 14] w _
    refine wp_g 1 (pc1 := 17) (lv1 := [(0, .ref 13), (1, .int (Int32.ofInt p1))]) (st1 := [.ref 13, .ref 14]) (w1 := w) rfl ?_
    refine wx_gi (kf := 15) (ln := 3) (ci := 6) (b := 1) (zz := 0) (x := 13) (by decide +kernel) h (hS _ _ sx_13) rfl ?_
    show wp _ 59 20 [(0, .ref 13), (1, .int (Int32.ofInt p1))] [.int (Int32.ofInt (s 13 1)), .ref 14] w _
    refine wp_g 1 (pc1 := 21) (lv1 := [(0, .ref 13), (1, .int (Int32.ofInt p1))]) (st1 := [.int (Int32.ofInt p1), .int (Int32.ofInt (s 13 1)), .ref 14]) (w1 := w) rfl ?_
    obtain ⟨i2, e3, hx⟩ := bd hx
    obtain ⟨s4, e5, hx⟩ := bd hx
    refine wx_wa (x := 14) (n := 400) (ln := 1) (a := 0) (b := 0) (zz := 0) (by decide +kernel) h (hS _ _ sx_14) e3 e5 (fun w6 h7 => ?_)
    refine wp_g 2 (pc1 := 24) (lv1 := [(0, .ref 13), (1, .int (Int32.ofInt p1))]) (st1 := [.ref 13, .ref 13]) (w1 := w6) rfl ?_
    refine wx_gi (kf := 15) (ln := 3) (ci := 6) (b := 1) (zz := 0) (x := 13) (by decide +kernel) h7 (hS _ _ sx_13) rfl ?_
    show wp _ 59 27 [(0, .ref 13), (1, .int (Int32.ofInt p1))] [.int (Int32.ofInt (s4 13 1)), .ref 13] w6 _
    refine wp_g 2 (pc1 := 29) (lv1 := [(0, .ref 13), (1, .int (Int32.ofInt p1))]) (st1 := [.int (Int32.ofInt ((s4 13 1) + 1)), .ref 13]) (w1 := w6) (by simp only [Int32.ofInt_add, Int32.ofInt_sub, Int32.ofInt_mul, Int32.ofInt_neg, p_and, p_or, p_xor, p_shl, p_shr, p_usr, p_w8, p_c16, p_lI, q_and, q_or, q_shl, q_shr, q_w32, Int64.ofInt_add, Int64.ofInt_sub, Int64.ofInt_mul, p_mx, p_mn, q_mx, q_mn]; rfl) ?_
    obtain ⟨s8, e9, hx⟩ := bd hx
    refine wx_pi (kf := 15) (ln := 3) (ci := 6) (b := 1) (zz := 0) (x := 13) (by decide +kernel) h7 (hS _ _ sx_13) rfl (by decide +kernel) e9 (fun w10 h11 => ?_)
    refine wp_rt (i := .return_) (r := none) (ln := 1) (a := 0) (b := 0) (z := 0) (by decide +kernel) rfl (ret_v (by decide +kernel)) ?_
    cases hx
    exact kr _ h11
/-- RuleReader.countItem (LText;I)V -/
noncomputable def xr_countItem (s : Hp) (p2 : Int) : Option Hp :=
  (some (uh s 13 2 ((s 13 2) + 1))).bind fun s1 => if w32 60 < w32 (s1 13 2) then (xt_fail s1 p2 3).bind fun o6 => some o6 else some s1
set_option maxRecDepth 100000 in
theorem xr_countItem_ok {d : Nat} {P : Option Value → pm_H → Prop} {w : pm_H} {sh : Shp} {w0 : pm_H} {s : Hp} (hS : St sh) {p2 : Int} (h : Rw sh w0 s w) {o : Hp} (hx : xr_countItem s p2 = some o) (kr : ∀ w1, Rw sh w0 o w1 → P none w1) : wp (d + 1) 58 0 (lv_args 0 [.ref 13, .ref 1, .int (Int32.ofInt p2)]) [] w P := by
  show wp _ 58 0 [(0, .ref 13), (1, .ref 1), (2, .int (Int32.ofInt p2))] [] w _
  unfold xr_countItem at hx
  refine wp_g 2 (pc1 := 2) (lv1 := [(0, .ref 13), (1, .ref 1), (2, .int (Int32.ofInt p2))]) (st1 := [.ref 13, .ref 13]) (w1 := w) rfl ?_
  refine wx_gi (kf := 19) (ln := 3) (ci := 6) (b := 2) (zz := 0) (x := 13) (by decide +kernel) h (hS _ _ sx_13) rfl ?_
  show wp _ 58 5 [(0, .ref 13), (1, .ref 1), (2, .int (Int32.ofInt p2))] [.int (Int32.ofInt (s 13 2)), .ref 13] w _
  refine wp_g 2 (pc1 := 7) (lv1 := [(0, .ref 13), (1, .ref 1), (2, .int (Int32.ofInt p2))]) (st1 := [.int (Int32.ofInt ((s 13 2) + 1)), .ref 13]) (w1 := w) (by simp only [Int32.ofInt_add, Int32.ofInt_sub, Int32.ofInt_mul, Int32.ofInt_neg, p_and, p_or, p_xor, p_shl, p_shr, p_usr, p_w8, p_c16, p_lI, q_and, q_or, q_shl, q_shr, q_w32, Int64.ofInt_add, Int64.ofInt_sub, Int64.ofInt_mul, p_mx, p_mn, q_mx, q_mn]; rfl) ?_
  obtain ⟨s1, e2, hx⟩ := bd hx
  refine wx_pi (kf := 19) (ln := 3) (ci := 6) (b := 2) (zz := 0) (x := 13) (by decide +kernel) h (hS _ _ sx_13) rfl (by decide +kernel) e2 (fun w3 h4 => ?_)
  refine wp_g 1 (pc1 := 11) (lv1 := [(0, .ref 13), (1, .ref 1), (2, .int (Int32.ofInt p2))]) (st1 := [.ref 13]) (w1 := w3) rfl ?_
  refine wx_gi (kf := 19) (ln := 3) (ci := 6) (b := 2) (zz := 0) (x := 13) (by decide +kernel) h4 (hS _ _ sx_13) rfl ?_
  show wp _ 58 14 [(0, .ref 13), (1, .ref 1), (2, .int (Int32.ofInt p2))] [.int (Int32.ofInt (s1 13 2))] w3 _
  refine wp_g 1 (pc1 := 16) (lv1 := [(0, .ref 13), (1, .ref 1), (2, .int (Int32.ofInt p2))]) (st1 := [.int (Int32.ofInt 60), .int (Int32.ofInt (s1 13 2))]) (w1 := w3) rfl ?_
  refine wx_le (oo := 9) (ln := 3) (a := 25) (b := 0) (zz := 0) (by decide +kernel) (fun h5 => ?_) (fun h5 => ?_)
  · have hx := ite_f h5 hx
    refine wp_rt (i := .return_) (r := none) (ln := 1) (a := 0) (b := 0) (z := 0) (by decide +kernel) rfl (ret_v (by decide +kernel)) ?_
    cases hx
    exact kr _ h4
  · have hx := ite_t h5 hx
    refine wp_g 3 (pc1 := 22) (lv1 := [(0, .ref 13), (1, .ref 1), (2, .int (Int32.ofInt p2))]) (st1 := [.int (Int32.ofInt 3), .int (Int32.ofInt p2), .ref 1]) (w1 := w3) rfl ?_
    obtain ⟨o6, e7, hx⟩ := bd hx
    refine wp_cl [.ref 1, .int (Int32.ofInt p2), .int (Int32.ofInt 3)] [] (i := .invokevirtual 63) (ln := 3) (a := 87) (b := 0) (z := 0) (by decide +kernel) rfl rfl (by decide) rfl (show (3 : Nat) = pm_na 87 by decide +kernel) (Nat.le_of_ble_eq_true rfl) (show (3 : Nat) ≤ pm_n 87 by decide +kernel) (rcv_x 9 h4 (hS _ _ sx_1) (by decide +kernel)) (xt_fail_ok (d := d) hS h4 e7 (fun w8 h9 => ?_))
    show wp _ 58 25 [(0, .ref 13), (1, .ref 1), (2, .int (Int32.ofInt p2))] [] w8 _
    refine wp_rt (i := .return_) (r := none) (ln := 1) (a := 0) (b := 0) (z := 0) (by decide +kernel) rfl (ret_v (by decide +kernel)) ?_
    cases hx
    exact kr _ h9
/-- RuleReader.readValue (LText;)V -/
noncomputable def xr_readValue (s : Hp) : Option Hp :=
  (xt_where s).bind fun o1 => (xt_atDigit s).bind fun o5 => if w32 o5 = 0 then (xt_takeWord s 2).bind fun o10 => if w32 o10.1 = w32 (-1) then (xt_failHere o10.2).bind fun o23 => some o23 else (xr_addStep o10.2 (bOr 1 (bShl o10.1 5))).bind fun o15 => (xr_countItem o15 o1).bind fun o19 => some o19 else (xt_takeNumber s 0 99999).bind fun o27 => (xr_addStep o27.2 (bOr 0 (bShl o27.1 5))).bind fun o31 => (xr_countItem o31 o1).bind fun o35 => some o35
set_option maxRecDepth 100000 in
theorem xr_readValue_ok {d : Nat} {P : Option Value → pm_H → Prop} {w : pm_H} {sh : Shp} {w0 : pm_H} {s : Hp} (hS : St sh) (h : Rw sh w0 s w) {o : Hp} (hx : xr_readValue s = some o) (kr : ∀ w1, Rw sh w0 o w1 → P none w1) : wp (d + 8) 57 0 (lv_args 0 [.ref 13, .ref 1]) [] w P := by
  show wp _ 57 0 [(0, .ref 13), (1, .ref 1)] [] w _
  unfold xr_readValue at hx
  refine wp_g 1 (pc1 := 1) (lv1 := [(0, .ref 13), (1, .ref 1)]) (st1 := [.ref 1]) (w1 := w) rfl ?_
  obtain ⟨o1, e2, hx⟩ := bd hx
  refine wp_cl [.ref 1] [] (i := .invokevirtual 51) (ln := 3) (a := 89) (b := 0) (z := 0) (by decide +kernel) rfl rfl (by decide) rfl (show (1 : Nat) = pm_na 89 by decide +kernel) (Nat.le_of_ble_eq_true rfl) (show (1 : Nat) ≤ pm_n 89 by decide +kernel) (rcv_x 9 h (hS _ _ sx_1) (by decide +kernel)) (xt_where_ok (d := d + 7) hS h e2 ?_)
  show wp _ 57 4 [(0, .ref 13), (1, .ref 1)] [.int (Int32.ofInt o1)] w _
  refine wp_g 2 (pc1 := 6) (lv1 := [(2, .int (Int32.ofInt o1)), (0, .ref 13), (1, .ref 1)]) (st1 := [.ref 1]) (w1 := w) rfl ?_
  obtain ⟨o5, e6, hx⟩ := bd hx
  refine wp_cl [.ref 1] [] (i := .invokevirtual 111) (ln := 3) (a := 91) (b := 0) (z := 0) (by decide +kernel) rfl rfl (by decide) rfl (show (1 : Nat) = pm_na 91 by decide +kernel) (Nat.le_of_ble_eq_true rfl) (show (1 : Nat) ≤ pm_n 91 by decide +kernel) (rcv_x 9 h (hS _ _ sx_1) (by decide +kernel)) (xt_atDigit_ok (d := d + 6) hS h e6 ?_)
  show wp _ 57 9 [(2, .int (Int32.ofInt o1)), (0, .ref 13), (1, .ref 1)] [.int (Int32.ofInt o5)] w _
  refine wz_eq (oo := 21) (ln := 3) (a := 30) (b := 0) (zz := 0) (by decide +kernel) (fun h9 => ?_) (fun h9 => ?_)
  · have hx := ite_t h9 hx
    refine wp_g 2 (pc1 := 33) (lv1 := [(2, .int (Int32.ofInt o1)), (0, .ref 13), (1, .ref 1)]) (st1 := [.retAddr 2, .ref 1]) (w1 := w) rfl ?_
    obtain ⟨o10, e11, hx⟩ := bd hx
    refine wp_cl [.ref 1, .retAddr 2] [] (i := .invokevirtual 121) (ln := 3) (a := 96) (b := 0) (z := 0) (by decide +kernel) rfl rfl (by decide) rfl (show (2 : Nat) = pm_na 96 by decide +kernel) (Nat.le_of_ble_eq_true rfl) (show (2 : Nat) ≤ pm_n 96 by decide +kernel) (rcv_x 9 h (hS _ _ sx_1) (by decide +kernel)) (xt_takeWord_ok (d := d) hS h e11 (fun w12 h13 => ?_))
    show wp _ 57 36 [(2, .int (Int32.ofInt o1)), (0, .ref 13), (1, .ref 1)] [.int (Int32.ofInt o10.1)] w12 _
    refine wp_g 3 (pc1 := 39) (lv1 := [(3, .int (Int32.ofInt o10.1)), (2, .int (Int32.ofInt o1)), (0, .ref 13), (1, .ref 1)]) (st1 := [.int (Int32.ofInt (-1)), .int (Int32.ofInt o10.1)]) (w1 := w12) rfl ?_
    refine wx_ne (oo := 8) (ln := 3) (a := 47) (b := 0) (zz := 0) (by decide +kernel) (fun h14 => ?_) (fun h14 => ?_)
    · have hx := ite_f h14 hx
      refine wp_g 6 (pc1 := 53) (lv1 := [(3, .int (Int32.ofInt o10.1)), (2, .int (Int32.ofInt o1)), (0, .ref 13), (1, .ref 1)]) (st1 := [.int (Int32.ofInt (bOr 1 (bShl o10.1 5))), .ref 13]) (w1 := w12) (by simp only [Int32.ofInt_add, Int32.ofInt_sub, Int32.ofInt_mul, Int32.ofInt_neg, p_and, p_or, p_xor, p_shl, p_shr, p_usr, p_w8, p_c16, p_lI, q_and, q_or, q_shl, q_shr, q_w32, Int64.ofInt_add, Int64.ofInt_sub, Int64.ofInt_mul, p_mx, p_mn, q_mx, q_mn]; rfl) ?_
      obtain ⟨o15, e16, hx⟩ := bd hx
      refine wp_cl [.ref 13, .int (Int32.ofInt (bOr 1 (bShl o10.1 5)))] [] (i := .invokevirtual 76) (ln := 3) (a := 59) (b := 0) (z := 0) (by decide +kernel) rfl rfl (by decide) rfl (show (2 : Nat) = pm_na 59 by decide +kernel) (Nat.le_of_ble_eq_true rfl) (show (2 : Nat) ≤ pm_n 59 by decide +kernel) (rcv_x 6 h13 (hS _ _ sx_13) (by decide +kernel)) (xr_addStep_ok (d := d + 7) hS h13 e16 (fun w17 h18 => ?_))
      show wp _ 57 56 [(3, .int (Int32.ofInt o10.1)), (2, .int (Int32.ofInt o1)), (0, .ref 13), (1, .ref 1)] [] w17 _
      refine wp_g 3 (pc1 := 59) (lv1 := [(3, .int (Int32.ofInt o10.1)), (2, .int (Int32.ofInt o1)), (0, .ref 13), (1, .ref 1)]) (st1 := [.int (Int32.ofInt o1), .ref 1, .ref 13]) (w1 := w17) rfl ?_
      obtain ⟨o19, e20, hx⟩ := bd hx
      refine wp_cl [.ref 13, .ref 1, .int (Int32.ofInt o1)] [] (i := .invokevirtual 99) (ln := 3) (a := 58) (b := 0) (z := 0) (by decide +kernel) rfl rfl (by decide) rfl (show (3 : Nat) = pm_na 58 by decide +kernel) (Nat.le_of_ble_eq_true rfl) (show (3 : Nat) ≤ pm_n 58 by decide +kernel) (rcv_x 6 h18 (hS _ _ sx_13) (by decide +kernel)) (xr_countItem_ok (d := d + 6) hS h18 e20 (fun w21 h22 => ?_))
      show wp _ 57 62 [(3, .int (Int32.ofInt o10.1)), (2, .int (Int32.ofInt o1)), (0, .ref 13), (1, .ref 1)] [] w21 _
      refine wp_rt (i := .return_) (r := none) (ln := 1) (a := 0) (b := 0) (z := 0) (by decide +kernel) rfl (ret_v (by decide +kernel)) ?_
      cases hx
      exact kr _ h22
    · have hx := ite_t h14 hx
      refine wp_g 1 (pc1 := 43) (lv1 := [(3, .int (Int32.ofInt o10.1)), (2, .int (Int32.ofInt o1)), (0, .ref 13), (1, .ref 1)]) (st1 := [.ref 1]) (w1 := w12) rfl ?_
      obtain ⟨o23, e24, hx⟩ := bd hx
      refine wp_cl [.ref 1] [] (i := .invokevirtual 60) (ln := 3) (a := 88) (b := 0) (z := 0) (by decide +kernel) rfl rfl (by decide) rfl (show (1 : Nat) = pm_na 88 by decide +kernel) (Nat.le_of_ble_eq_true rfl) (show (1 : Nat) ≤ pm_n 88 by decide +kernel) (rcv_x 9 h13 (hS _ _ sx_1) (by decide +kernel)) (xt_failHere_ok (d := d + 6) hS h13 e24 (fun w25 h26 => ?_))
      show wp _ 57 46 [(3, .int (Int32.ofInt o10.1)), (2, .int (Int32.ofInt o1)), (0, .ref 13), (1, .ref 1)] [] w25 _
      refine wp_rt (i := .return_) (r := none) (ln := 1) (a := 0) (b := 0) (z := 0) (by decide +kernel) rfl (ret_v (by decide +kernel)) ?_
      cases hx
      exact kr _ h26
  · have hx := ite_f h9 hx
    refine wp_g 5 (pc1 := 18) (lv1 := [(2, .int (Int32.ofInt o1)), (0, .ref 13), (1, .ref 1)]) (st1 := [.int (Int32.ofInt 99999), .int (Int32.ofInt 0), .ref 1, .int (Int32.ofInt 0), .ref 13]) (w1 := w) rfl ?_
    obtain ⟨o27, e28, hx⟩ := bd hx
    refine wp_cl [.ref 1, .int (Int32.ofInt 0), .int (Int32.ofInt 99999)] [.int (Int32.ofInt 0), .ref 13] (i := .invokevirtual 115) (ln := 3) (a := 95) (b := 0) (z := 0) (by decide +kernel) rfl rfl (by decide) rfl (show (3 : Nat) = pm_na 95 by decide +kernel) (Nat.le_of_ble_eq_true rfl) (show (3 : Nat) ≤ pm_n 95 by decide +kernel) (rcv_x 9 h (hS _ _ sx_1) (by decide +kernel)) (xt_takeNumber_ok (d := d + 6) hS h e28 (fun w29 h30 => ?_))
    show wp _ 57 21 [(2, .int (Int32.ofInt o1)), (0, .ref 13), (1, .ref 1)] [.int (Int32.ofInt o27.1), .int (Int32.ofInt 0), .ref 13] w29 _
    refine wp_g 3 (pc1 := 24) (lv1 := [(2, .int (Int32.ofInt o1)), (0, .ref 13), (1, .ref 1)]) (st1 := [.int (Int32.ofInt (bOr 0 (bShl o27.1 5))), .ref 13]) (w1 := w29) (by simp only [Int32.ofInt_add, Int32.ofInt_sub, Int32.ofInt_mul, Int32.ofInt_neg, p_and, p_or, p_xor, p_shl, p_shr, p_usr, p_w8, p_c16, p_lI, q_and, q_or, q_shl, q_shr, q_w32, Int64.ofInt_add, Int64.ofInt_sub, Int64.ofInt_mul, p_mx, p_mn, q_mx, q_mn]; rfl) ?_
    obtain ⟨o31, e32, hx⟩ := bd hx
    refine wp_cl [.ref 13, .int (Int32.ofInt (bOr 0 (bShl o27.1 5)))] [] (i := .invokevirtual 76) (ln := 3) (a := 59) (b := 0) (z := 0) (by decide +kernel) rfl rfl (by decide) rfl (show (2 : Nat) = pm_na 59 by decide +kernel) (Nat.le_of_ble_eq_true rfl) (show (2 : Nat) ≤ pm_n 59 by decide +kernel) (rcv_x 6 h30 (hS _ _ sx_13) (by decide +kernel)) (xr_addStep_ok (d := d + 7) hS h30 e32 (fun w33 h34 => ?_))
    show wp _ 57 27 [(2, .int (Int32.ofInt o1)), (0, .ref 13), (1, .ref 1)] [] w33 _
    refine wp_g 4 (pc1 := 59) (lv1 := [(2, .int (Int32.ofInt o1)), (0, .ref 13), (1, .ref 1)]) (st1 := [.int (Int32.ofInt o1), .ref 1, .ref 13]) (w1 := w33) rfl ?_
    obtain ⟨o35, e36, hx⟩ := bd hx
    refine wp_cl [.ref 13, .ref 1, .int (Int32.ofInt o1)] [] (i := .invokevirtual 99) (ln := 3) (a := 58) (b := 0) (z := 0) (by decide +kernel) rfl rfl (by decide) rfl (show (3 : Nat) = pm_na 58 by decide +kernel) (Nat.le_of_ble_eq_true rfl) (show (3 : Nat) ≤ pm_n 58 by decide +kernel) (rcv_x 6 h34 (hS _ _ sx_13) (by decide +kernel)) (xr_countItem_ok (d := d + 6) hS h34 e36 (fun w37 h38 => ?_))
    show wp _ 57 62 [(2, .int (Int32.ofInt o1)), (0, .ref 13), (1, .ref 1)] [] w37 _
    refine wp_rt (i := .return_) (r := none) (ln := 1) (a := 0) (b := 0) (z := 0) (by decide +kernel) rfl (ret_v (by decide +kernel)) ?_
    cases hx
    exact kr _ h38
/-- RuleReader.takeFactorSign (LText;)I -/
noncomputable def xr_takeFactorSign (s : Hp) : Option (Int × Hp) :=
  (xt_takeSign s 42).bind fun o1 => if w32 o1.1 = 0 then (xt_takeSign o1.2 47).bind fun o6 => if w32 o6.1 = 0 then (xt_takeSign o6.2 37).bind fun o11 => if w32 o11.1 = 0 then some ((-1), o11.2) else some (9, o11.2) else some (8, o6.2) else some (7, o1.2)
set_option maxRecDepth 100000 in
theorem xr_takeFactorSign_ok {d : Nat} {P : Option Value → pm_H → Prop} {w : pm_H} {sh : Shp} {w0 : pm_H} {s : Hp} (hS : St sh) (h : Rw sh w0 s w) {o : Int × Hp} (hx : xr_takeFactorSign s = some o) (kr : ∀ w1, Rw sh w0 o.2 w1 → P (some (.int (Int32.ofInt o.1))) w1) : wp (d + 2) 56 0 (lv_args 0 [.ref 1]) [] w P := by
  show wp _ 56 0 [(0, .ref 1)] [] w _
  unfold xr_takeFactorSign at hx
  refine wp_g 2 (pc1 := 3) (lv1 := [(0, .ref 1)]) (st1 := [.int (Int32.ofInt 42), .ref 1]) (w1 := w) rfl ?_
  obtain ⟨o1, e2, hx⟩ := bd hx
  refine wp_cl [.ref 1, .int (Int32.ofInt 42)] [] (i := .invokevirtual 89) (ln := 3) (a := 92) (b := 0) (z := 0) (by decide +kernel) rfl rfl (by decide) rfl (show (2 : Nat) = pm_na 92 by decide +kernel) (Nat.le_of_ble_eq_true rfl) (show (2 : Nat) ≤ pm_n 92 by decide +kernel) (rcv_x 9 h (hS _ _ sx_1) (by decide +kernel)) (xt_takeSign_ok (d := d) hS h e2 (fun w3 h4 => ?_))
  show wp _ 56 6 [(0, .ref 1)] [.int (Int32.ofInt o1.1)] w3 _
  refine wz_eq (oo := 6) (ln := 3) (a := 12) (b := 0) (zz := 0) (by decide +kernel) (fun h5 => ?_) (fun h5 => ?_)
  · have hx := ite_t h5 hx
    refine wp_g 2 (pc1 := 15) (lv1 := [(0, .ref 1)]) (st1 := [.int (Int32.ofInt 47), .ref 1]) (w1 := w3) rfl ?_
    obtain ⟨o6, e7, hx⟩ := bd hx
    refine wp_cl [.ref 1, .int (Int32.ofInt 47)] [] (i := .invokevirtual 89) (ln := 3) (a := 92) (b := 0) (z := 0) (by decide +kernel) rfl rfl (by decide) rfl (show (2 : Nat) = pm_na 92 by decide +kernel) (Nat.le_of_ble_eq_true rfl) (show (2 : Nat) ≤ pm_n 92 by decide +kernel) (rcv_x 9 h4 (hS _ _ sx_1) (by decide +kernel)) (xt_takeSign_ok (d := d) hS h4 e7 (fun w8 h9 => ?_))
    show wp _ 56 18 [(0, .ref 1)] [.int (Int32.ofInt o6.1)] w8 _
    refine wz_eq (oo := 6) (ln := 3) (a := 24) (b := 0) (zz := 0) (by decide +kernel) (fun h10 => ?_) (fun h10 => ?_)
    · have hx := ite_t h10 hx
      refine wp_g 2 (pc1 := 27) (lv1 := [(0, .ref 1)]) (st1 := [.int (Int32.ofInt 37), .ref 1]) (w1 := w8) rfl ?_
      obtain ⟨o11, e12, hx⟩ := bd hx
      refine wp_cl [.ref 1, .int (Int32.ofInt 37)] [] (i := .invokevirtual 89) (ln := 3) (a := 92) (b := 0) (z := 0) (by decide +kernel) rfl rfl (by decide) rfl (show (2 : Nat) = pm_na 92 by decide +kernel) (Nat.le_of_ble_eq_true rfl) (show (2 : Nat) ≤ pm_n 92 by decide +kernel) (rcv_x 9 h9 (hS _ _ sx_1) (by decide +kernel)) (xt_takeSign_ok (d := d) hS h9 e12 (fun w13 h14 => ?_))
      show wp _ 56 30 [(0, .ref 1)] [.int (Int32.ofInt o11.1)] w13 _
      refine wz_eq (oo := 8) (ln := 3) (a := 38) (b := 0) (zz := 0) (by decide +kernel) (fun h15 => ?_) (fun h15 => ?_)
      · have hx := ite_t h15 hx
        refine wp_g 1 (pc1 := 39) (lv1 := [(0, .ref 1)]) (st1 := [.int (Int32.ofInt (-1))]) (w1 := w13) rfl ?_
        refine wp_rt (i := .ireturn) (r := some (.int (Int32.ofInt (-1)))) (ln := 1) (a := 0) (b := 0) (z := 0) (by decide +kernel) rfl (ret_ok (by decide +kernel)) ?_
        cases hx
        exact kr _ h14
      · have hx := ite_f h15 hx
        refine wp_g 2 (pc1 := 39) (lv1 := [(0, .ref 1)]) (st1 := [.int (Int32.ofInt 9)]) (w1 := w13) rfl ?_
        refine wp_rt (i := .ireturn) (r := some (.int (Int32.ofInt 9))) (ln := 1) (a := 0) (b := 0) (z := 0) (by decide +kernel) rfl (ret_ok (by decide +kernel)) ?_
        cases hx
        exact kr _ h14
    · have hx := ite_f h10 hx
      refine wp_g 1 (pc1 := 23) (lv1 := [(0, .ref 1)]) (st1 := [.int (Int32.ofInt 8)]) (w1 := w8) rfl ?_
      refine wp_rt (i := .ireturn) (r := some (.int (Int32.ofInt 8))) (ln := 1) (a := 0) (b := 0) (z := 0) (by decide +kernel) rfl (ret_ok (by decide +kernel)) ?_
      cases hx
      exact kr _ h9
  · have hx := ite_f h5 hx
    refine wp_g 1 (pc1 := 11) (lv1 := [(0, .ref 1)]) (st1 := [.int (Int32.ofInt 7)]) (w1 := w3) rfl ?_
    refine wp_rt (i := .ireturn) (r := some (.int (Int32.ofInt 7))) (ln := 1) (a := 0) (b := 0) (z := 0) (by decide +kernel) rfl (ret_ok (by decide +kernel)) ?_
    cases hx
    exact kr _ h4
/-- RuleReader.takeTermSign (LText;)I -/
noncomputable def xr_takeTermSign (s : Hp) : Option (Int × Hp) :=
  (xt_takeSign s 43).bind fun o1 => if w32 o1.1 = 0 then (xt_takeSign o1.2 45).bind fun o6 => if w32 o6.1 = 0 then some ((-1), o6.2) else some (6, o6.2) else some (5, o1.2)
set_option maxRecDepth 100000 in
theorem xr_takeTermSign_ok {d : Nat} {P : Option Value → pm_H → Prop} {w : pm_H} {sh : Shp} {w0 : pm_H} {s : Hp} (hS : St sh) (h : Rw sh w0 s w) {o : Int × Hp} (hx : xr_takeTermSign s = some o) (kr : ∀ w1, Rw sh w0 o.2 w1 → P (some (.int (Int32.ofInt o.1))) w1) : wp (d + 2) 55 0 (lv_args 0 [.ref 1]) [] w P := by
  show wp _ 55 0 [(0, .ref 1)] [] w _
  unfold xr_takeTermSign at hx
  refine wp_g 2 (pc1 := 3) (lv1 := [(0, .ref 1)]) (st1 := [.int (Int32.ofInt 43), .ref 1]) (w1 := w) rfl ?_
  obtain ⟨o1, e2, hx⟩ := bd hx
  refine wp_cl [.ref 1, .int (Int32.ofInt 43)] [] (i := .invokevirtual 89) (ln := 3) (a := 92) (b := 0) (z := 0) (by decide +kernel) rfl rfl (by decide) rfl (show (2 : Nat) = pm_na 92 by decide +kernel) (Nat.le_of_ble_eq_true rfl) (show (2 : Nat) ≤ pm_n 92 by decide +kernel) (rcv_x 9 h (hS _ _ sx_1) (by decide +kernel)) (xt_takeSign_ok (d := d) hS h e2 (fun w3 h4 => ?_))
  show wp _ 55 6 [(0, .ref 1)] [.int (Int32.ofInt o1.1)] w3 _
  refine wz_eq (oo := 5) (ln := 3) (a := 11) (b := 0) (zz := 0) (by decide +kernel) (fun h5 => ?_) (fun h5 => ?_)
  · have hx := ite_t h5 hx
    refine wp_g 2 (pc1 := 14) (lv1 := [(0, .ref 1)]) (st1 := [.int (Int32.ofInt 45), .ref 1]) (w1 := w3) rfl ?_
    obtain ⟨o6, e7, hx⟩ := bd hx
    refine wp_cl [.ref 1, .int (Int32.ofInt 45)] [] (i := .invokevirtual 89) (ln := 3) (a := 92) (b := 0) (z := 0) (by decide +kernel) rfl rfl (by decide) rfl (show (2 : Nat) = pm_na 92 by decide +kernel) (Nat.le_of_ble_eq_true rfl) (show (2 : Nat) ≤ pm_n 92 by decide +kernel) (rcv_x 9 h4 (hS _ _ sx_1) (by decide +kernel)) (xt_takeSign_ok (d := d) hS h4 e7 (fun w8 h9 => ?_))
    show wp _ 55 17 [(0, .ref 1)] [.int (Int32.ofInt o6.1)] w8 _
    refine wz_eq (oo := 8) (ln := 3) (a := 25) (b := 0) (zz := 0) (by decide +kernel) (fun h10 => ?_) (fun h10 => ?_)
    · have hx := ite_t h10 hx
      refine wp_g 1 (pc1 := 26) (lv1 := [(0, .ref 1)]) (st1 := [.int (Int32.ofInt (-1))]) (w1 := w8) rfl ?_
      refine wp_rt (i := .ireturn) (r := some (.int (Int32.ofInt (-1)))) (ln := 1) (a := 0) (b := 0) (z := 0) (by decide +kernel) rfl (ret_ok (by decide +kernel)) ?_
      cases hx
      exact kr _ h9
    · have hx := ite_f h10 hx
      refine wp_g 2 (pc1 := 26) (lv1 := [(0, .ref 1)]) (st1 := [.int (Int32.ofInt 6)]) (w1 := w8) rfl ?_
      refine wp_rt (i := .ireturn) (r := some (.int (Int32.ofInt 6))) (ln := 1) (a := 0) (b := 0) (z := 0) (by decide +kernel) rfl (ret_ok (by decide +kernel)) ?_
      cases hx
      exact kr _ h9
  · have hx := ite_f h5 hx
    refine wp_g 1 (pc1 := 10) (lv1 := [(0, .ref 1)]) (st1 := [.int (Int32.ofInt 5)]) (w1 := w3) rfl ?_
    refine wp_rt (i := .ireturn) (r := some (.int (Int32.ofInt 5))) (ln := 1) (a := 0) (b := 0) (z := 0) (by decide +kernel) rfl (ret_ok (by decide +kernel)) ?_
    cases hx
    exact kr _ h4
noncomputable def xr_readSum_b7_j59 (s : Hp) (x3 : Int) (x4 : Int) : Option ((Int × Int × Int × Hp) ⊕ ((Int × Int × Int × Hp) ⊕ Hp)) :=
  (xr_takeTermSign s).bind fun o1 => if w32 o1.1 = w32 (-1) then some (.inr (.inr o1.2)) else some (.inl (o1.1, x3, x4 + 1, o1.2))
set_option maxRecDepth 100000 in
theorem xr_readSum_b7_j59_ok {d : Nat} {P : Option Value → pm_H → Prop} {w : pm_H} {sh : Shp} {w0 : pm_H} {s : Hp} (hS : St sh) {x3 : Int} {x4 : Int} (h : Rw sh w0 s w) {o : ((Int × Int × Int × Hp) ⊕ ((Int × Int × Int × Hp) ⊕ Hp))} (hx : xr_readSum_b7_j59 s x3 x4 = some o) (kn : ∀ (q : Int × Int × Int × Hp) w1, o = .inl q → Rw sh w0 q.2.2.2 w1 → wp (d + 9) 54 7 [(0, .ref 13), (1, .ref 1), (2, .int (Int32.ofInt q.1)), (3, .int (Int32.ofInt q.2.1)), (4, .int (Int32.ofInt q.2.2.1))] [] w1 P) (kc : ∀ (r : ((Int × Int × Int × Hp) ⊕ Hp)), o = .inr r → ((∀ q1 w1, r = .inl q1 → Rw sh w0 q1.2.2.2 w1 → wp (d + 9) 54 76 [(0, .ref 13), (1, .ref 1), (2, .int (Int32.ofInt q1.1)), (3, .int (Int32.ofInt q1.2.1)), (4, .int (Int32.ofInt q1.2.2.1))] [] w1 P) ∧ (∀ v1 w1, r = .inr v1 → Rw sh w0 v1 w1 → P none w1))) : wp (d + 9) 54 59 [(0, .ref 13), (1, .ref 1), (3, .int (Int32.ofInt x3)), (4, .int (Int32.ofInt x4))] [] w P := by
  unfold xr_readSum_b7_j59 at hx
  refine wp_g 1 (pc1 := 60) (lv1 := [(0, .ref 13), (1, .ref 1), (3, .int (Int32.ofInt x3)), (4, .int (Int32.ofInt x4))]) (st1 := [.ref 1]) (w1 := w) rfl ?_
  obtain ⟨o1, e2, hx⟩ := bd hx
  refine wp_cl [.ref 1] [] (i := .invokestatic 108) (ln := 3) (a := 55) (b := 1) (z := 0) (by decide +kernel) rfl rfl (by decide) rfl (show (1 : Nat) = pm_na 55 by decide +kernel) (Nat.le_of_ble_eq_true rfl) (show (1 : Nat) ≤ pm_n 55 by decide +kernel) (by rw [show pm_k 55 = 1 by decide +kernel]; rfl) (xr_takeTermSign_ok (d := d + 6) hS h e2 (fun w3 h4 => ?_))
  show wp _ 54 63 [(0, .ref 13), (1, .ref 1), (3, .int (Int32.ofInt x3)), (4, .int (Int32.ofInt x4))] [.int (Int32.ofInt o1.1)] w3 _
  refine wp_g 3 (pc1 := 66) (lv1 := [(2, .int (Int32.ofInt o1.1)), (0, .ref 13), (1, .ref 1), (3, .int (Int32.ofInt x3)), (4, .int (Int32.ofInt x4))]) (st1 := [.int (Int32.ofInt (-1)), .int (Int32.ofInt o1.1)]) (w1 := w3) rfl ?_
  refine wx_ne (oo := 4) (ln := 3) (a := 70) (b := 0) (zz := 0) (by decide +kernel) (fun h5 => ?_) (fun h5 => ?_)
  · have hx := ite_f h5 hx
    refine wp_g 2 (pc1 := 7) (lv1 := [(4, .int (Int32.ofInt (x4 + 1))), (2, .int (Int32.ofInt o1.1)), (0, .ref 13), (1, .ref 1), (3, .int (Int32.ofInt x3))]) (st1 := []) (w1 := w3) (by simp only [Int32.ofInt_add, Int32.ofInt_sub, Int32.ofInt_mul, Int32.ofInt_neg, p_and, p_or, p_xor, p_shl, p_shr, p_usr, p_w8, p_c16, p_lI, q_and, q_or, q_shl, q_shr, q_w32, Int64.ofInt_add, Int64.ofInt_sub, Int64.ofInt_mul, p_mx, p_mn, q_mx, q_mn]; rfl) ?_
    refine wp_lv (lv1 := [(0, .ref 13), (1, .ref 1), (2, .int (Int32.ofInt o1.1)), (3, .int (Int32.ofInt x3)), (4, .int (Int32.ofInt (x4 + 1)))]) (lsub_p [2, 3, 1, 4, 0] rfl rfl rfl) ?_
    cases hx
    exact kn _ _ rfl h4
  · have hx := ite_t h5 hx
    refine wp_rt (i := .return_) (r := none) (ln := 1) (a := 0) (b := 0) (z := 0) (by decide +kernel) rfl (ret_v (by decide +kernel)) ?_
    cases hx
    exact (kc _ rfl).2 _ _ rfl h4
noncomputable def xr_readSum_b7_j36 (s : Hp) (x2 : Int) (x4 : Int) : Option ((Int × Int × Int × Hp) ⊕ ((Int × Int × Int × Hp) ⊕ Hp)) :=
  (xr_takeFactorSign s).bind fun o1 => if w32 o1.1 = w32 (-1) then if w32 x2 = w32 (-1) then xr_readSum_b7_j59 o1.2 o1.1 x4 else (xr_addStep o1.2 x2).bind fun o7 => xr_readSum_b7_j59 o7 o1.1 x4 else some (.inl (x2, o1.1, x4 + 1, o1.2))
set_option maxRecDepth 100000 in
theorem xr_readSum_b7_j36_ok {d : Nat} {P : Option Value → pm_H → Prop} {w : pm_H} {sh : Shp} {w0 : pm_H} {s : Hp} (hS : St sh) {x2 : Int} {x4 : Int} (h : Rw sh w0 s w) {o : ((Int × Int × Int × Hp) ⊕ ((Int × Int × Int × Hp) ⊕ Hp))} (hx : xr_readSum_b7_j36 s x2 x4 = some o) (kn : ∀ (q : Int × Int × Int × Hp) w1, o = .inl q → Rw sh w0 q.2.2.2 w1 → wp (d + 9) 54 7 [(0, .ref 13), (1, .ref 1), (2, .int (Int32.ofInt q.1)), (3, .int (Int32.ofInt q.2.1)), (4, .int (Int32.ofInt q.2.2.1))] [] w1 P) (kc : ∀ (r : ((Int × Int × Int × Hp) ⊕ Hp)), o = .inr r → ((∀ q1 w1, r = .inl q1 → Rw sh w0 q1.2.2.2 w1 → wp (d + 9) 54 76 [(0, .ref 13), (1, .ref 1), (2, .int (Int32.ofInt q1.1)), (3, .int (Int32.ofInt q1.2.1)), (4, .int (Int32.ofInt q1.2.2.1))] [] w1 P) ∧ (∀ v1 w1, r = .inr v1 → Rw sh w0 v1 w1 → P none w1))) : wp (d + 9) 54 36 [(0, .ref 13), (1, .ref 1), (2, .int (Int32.ofInt x2)), (4, .int (Int32.ofInt x4))] [] w P := by
  unfold xr_readSum_b7_j36 at hx
  refine wp_g 1 (pc1 := 37) (lv1 := [(0, .ref 13), (1, .ref 1), (2, .int (Int32.ofInt x2)), (4, .int (Int32.ofInt x4))]) (st1 := [.ref 1]) (w1 := w) rfl ?_
  obtain ⟨o1, e2, hx⟩ := bd hx
  refine wp_cl [.ref 1] [] (i := .invokestatic 105) (ln := 3) (a := 56) (b := 1) (z := 0) (by decide +kernel) rfl rfl (by decide) rfl (show (1 : Nat) = pm_na 56 by decide +kernel) (Nat.le_of_ble_eq_true rfl) (show (1 : Nat) ≤ pm_n 56 by decide +kernel) (by rw [show pm_k 56 = 1 by decide +kernel]; rfl) (xr_takeFactorSign_ok (d := d + 6) hS h e2 (fun w3 h4 => ?_))
  show wp _ 54 40 [(0, .ref 13), (1, .ref 1), (2, .int (Int32.ofInt x2)), (4, .int (Int32.ofInt x4))] [.int (Int32.ofInt o1.1)] w3 _
  refine wp_g 3 (pc1 := 43) (lv1 := [(3, .int (Int32.ofInt o1.1)), (0, .ref 13), (1, .ref 1), (2, .int (Int32.ofInt x2)), (4, .int (Int32.ofInt x4))]) (st1 := [.int (Int32.ofInt (-1)), .int (Int32.ofInt o1.1)]) (w1 := w3) rfl ?_
  refine wx_eq (oo := 6) (ln := 3) (a := 49) (b := 0) (zz := 0) (by decide +kernel) (fun h5 => ?_) (fun h5 => ?_)
  · have hx := ite_t h5 hx
    refine wp_g 2 (pc1 := 51) (lv1 := [(3, .int (Int32.ofInt o1.1)), (0, .ref 13), (1, .ref 1), (2, .int (Int32.ofInt x2)), (4, .int (Int32.ofInt x4))]) (st1 := [.int (Int32.ofInt (-1)), .int (Int32.ofInt x2)]) (w1 := w3) rfl ?_
    refine wx_eq (oo := 8) (ln := 3) (a := 59) (b := 0) (zz := 0) (by decide +kernel) (fun h6 => ?_) (fun h6 => ?_)
    · have hx := ite_t h6 hx
      refine wp_lv (lv1 := [(0, .ref 13), (1, .ref 1), (3, .int (Int32.ofInt o1.1)), (4, .int (Int32.ofInt x4))]) (lsub_p [1, 2, 0, 4] rfl rfl rfl) ?_
      exact xr_readSum_b7_j59_ok hS h4 hx kn kc
    · have hx := ite_f h6 hx
      refine wp_g 2 (pc1 := 56) (lv1 := [(3, .int (Int32.ofInt o1.1)), (0, .ref 13), (1, .ref 1), (2, .int (Int32.ofInt x2)), (4, .int (Int32.ofInt x4))]) (st1 := [.int (Int32.ofInt x2), .ref 13]) (w1 := w3) rfl ?_
      obtain ⟨o7, e8, hx⟩ := bd hx
      refine wp_cl [.ref 13, .int (Int32.ofInt x2)] [] (i := .invokevirtual 76) (ln := 3) (a := 59) (b := 0) (z := 0) (by decide +kernel) rfl rfl (by decide) rfl (show (2 : Nat) = pm_na 59 by decide +kernel) (Nat.le_of_ble_eq_true rfl) (show (2 : Nat) ≤ pm_n 59 by decide +kernel) (rcv_x 6 h4 (hS _ _ sx_13) (by decide +kernel)) (xr_addStep_ok (d := d + 8) hS h4 e8 (fun w9 h10 => ?_))
      show wp _ 54 59 [(3, .int (Int32.ofInt o1.1)), (0, .ref 13), (1, .ref 1), (2, .int (Int32.ofInt x2)), (4, .int (Int32.ofInt x4))] [] w9 _
      refine wp_lv (lv1 := [(0, .ref 13), (1, .ref 1), (3, .int (Int32.ofInt o1.1)), (4, .int (Int32.ofInt x4))]) (lsub_p [1, 2, 0, 4] rfl rfl rfl) ?_
      exact xr_readSum_b7_j59_ok hS h10 hx kn kc
  · have hx := ite_f h5 hx
    refine wp_g 3 (pc1 := 7) (lv1 := [(4, .int (Int32.ofInt (x4 + 1))), (3, .int (Int32.ofInt o1.1)), (0, .ref 13), (1, .ref 1), (2, .int (Int32.ofInt x2))]) (st1 := []) (w1 := w3) (by simp only [Int32.ofInt_add, Int32.ofInt_sub, Int32.ofInt_mul, Int32.ofInt_neg, p_and, p_or, p_xor, p_shl, p_shr, p_usr, p_w8, p_c16, p_lI, q_and, q_or, q_shl, q_shr, q_w32, Int64.ofInt_add, Int64.ofInt_sub, Int64.ofInt_mul, p_mx, p_mn, q_mx, q_mn]; rfl) ?_
    refine wp_lv (lv1 := [(0, .ref 13), (1, .ref 1), (2, .int (Int32.ofInt x2)), (3, .int (Int32.ofInt o1.1)), (4, .int (Int32.ofInt (x4 + 1)))]) (lsub_p [2, 3, 4, 1, 0] rfl rfl rfl) ?_
    cases hx
    exact kn _ _ rfl h4
noncomputable def xr_readSum_b7 (s : Hp) (x2 : Int) (x3 : Int) (x4 : Int) : Option ((Int × Int × Int × Hp) ⊕ ((Int × Int × Int × Hp) ⊕ Hp)) :=
  if w32 60 < w32 x4 then some (.inr (.inl (x2, x3, x4, s))) else (xt_failed s).bind fun o2 => if w32 o2 = 0 then (xr_readValue s).bind fun o7 => if w32 x3 = w32 (-1) then xr_readSum_b7_j36 o7 x2 x4 else (xr_addStep o7 x3).bind fun o12 => xr_readSum_b7_j36 o12 x2 x4 else some (.inr (.inl (x2, x3, x4, s)))
set_option maxRecDepth 100000 in
theorem xr_readSum_b7_ok {d : Nat} {P : Option Value → pm_H → Prop} {w : pm_H} {sh : Shp} {w0 : pm_H} {s : Hp} (hS : St sh) {x2 : Int} {x3 : Int} {x4 : Int} (h : Rw sh w0 s w) {o : ((Int × Int × Int × Hp) ⊕ ((Int × Int × Int × Hp) ⊕ Hp))} (hx : xr_readSum_b7 s x2 x3 x4 = some o) (kn : ∀ (q : Int × Int × Int × Hp) w1, o = .inl q → Rw sh w0 q.2.2.2 w1 → wp (d + 9) 54 7 [(0, .ref 13), (1, .ref 1), (2, .int (Int32.ofInt q.1)), (3, .int (Int32.ofInt q.2.1)), (4, .int (Int32.ofInt q.2.2.1))] [] w1 P) (kc : ∀ (r : ((Int × Int × Int × Hp) ⊕ Hp)), o = .inr r → ((∀ q1 w1, r = .inl q1 → Rw sh w0 q1.2.2.2 w1 → wp (d + 9) 54 76 [(0, .ref 13), (1, .ref 1), (2, .int (Int32.ofInt q1.1)), (3, .int (Int32.ofInt q1.2.1)), (4, .int (Int32.ofInt q1.2.2.1))] [] w1 P) ∧ (∀ v1 w1, r = .inr v1 → Rw sh w0 v1 w1 → P none w1))) : wp (d + 9) 54 7 [(0, .ref 13), (1, .ref 1), (2, .int (Int32.ofInt x2)), (3, .int (Int32.ofInt x3)), (4, .int (Int32.ofInt x4))] [] w P := by
  unfold xr_readSum_b7 at hx
  refine wp_g 2 (pc1 := 11) (lv1 := [(0, .ref 13), (1, .ref 1), (2, .int (Int32.ofInt x2)), (3, .int (Int32.ofInt x3)), (4, .int (Int32.ofInt x4))]) (st1 := [.int (Int32.ofInt 60), .int (Int32.ofInt x4)]) (w1 := w) rfl ?_
  refine wx_gt (oo := 65) (ln := 3) (a := 76) (b := 0) (zz := 0) (by decide +kernel) (fun h1 => ?_) (fun h1 => ?_)
  · have hx := ite_t h1 hx
    cases hx
    exact (kc _ rfl).1 _ _ rfl h
  · have hx := ite_f h1 hx
    refine wp_g 1 (pc1 := 15) (lv1 := [(0, .ref 13), (1, .ref 1), (2, .int (Int32.ofInt x2)), (3, .int (Int32.ofInt x3)), (4, .int (Int32.ofInt x4))]) (st1 := [.ref 1]) (w1 := w) rfl ?_
    obtain ⟨o2, e3, hx⟩ := bd hx
    refine wp_cl [.ref 1] [] (i := .invokevirtual 27) (ln := 3) (a := 86) (b := 0) (z := 0) (by decide +kernel) rfl rfl (by decide) rfl (show (1 : Nat) = pm_na 86 by decide +kernel) (Nat.le_of_ble_eq_true rfl) (show (1 : Nat) ≤ pm_n 86 by decide +kernel) (rcv_x 9 h (hS _ _ sx_1) (by decide +kernel)) (xt_failed_ok (d := d + 8) hS h e3 ?_)
    show wp _ 54 18 [(0, .ref 13), (1, .ref 1), (2, .int (Int32.ofInt x2)), (3, .int (Int32.ofInt x3)), (4, .int (Int32.ofInt x4))] [.int (Int32.ofInt o2)] w _
    refine wz_ne (oo := 58) (ln := 3) (a := 76) (b := 0) (zz := 0) (by decide +kernel) (fun h6 => ?_) (fun h6 => ?_)
    · have hx := ite_f h6 hx
      cases hx
      exact (kc _ rfl).1 _ _ rfl h
    · have hx := ite_t h6 hx
      refine wp_g 2 (pc1 := 23) (lv1 := [(0, .ref 13), (1, .ref 1), (2, .int (Int32.ofInt x2)), (3, .int (Int32.ofInt x3)), (4, .int (Int32.ofInt x4))]) (st1 := [.ref 1, .ref 13]) (w1 := w) rfl ?_
      obtain ⟨o7, e8, hx⟩ := bd hx
      refine wp_cl [.ref 13, .ref 1] [] (i := .invokevirtual 102) (ln := 3) (a := 57) (b := 0) (z := 0) (by decide +kernel) rfl rfl (by decide) rfl (show (2 : Nat) = pm_na 57 by decide +kernel) (Nat.le_of_ble_eq_true rfl) (show (2 : Nat) ≤ pm_n 57 by decide +kernel) (rcv_x 6 h (hS _ _ sx_13) (by decide +kernel)) (xr_readValue_ok (d := d) hS h e8 (fun w9 h10 => ?_))
      show wp _ 54 26 [(0, .ref 13), (1, .ref 1), (2, .int (Int32.ofInt x2)), (3, .int (Int32.ofInt x3)), (4, .int (Int32.ofInt x4))] [] w9 _
      refine wp_g 2 (pc1 := 28) (lv1 := [(0, .ref 13), (1, .ref 1), (2, .int (Int32.ofInt x2)), (3, .int (Int32.ofInt x3)), (4, .int (Int32.ofInt x4))]) (st1 := [.int (Int32.ofInt (-1)), .int (Int32.ofInt x3)]) (w1 := w9) rfl ?_
      refine wx_eq (oo := 8) (ln := 3) (a := 36) (b := 0) (zz := 0) (by decide +kernel) (fun h11 => ?_) (fun h11 => ?_)
      · have hx := ite_t h11 hx
        refine wp_lv (lv1 := [(0, .ref 13), (1, .ref 1), (2, .int (Int32.ofInt x2)), (4, .int (Int32.ofInt x4))]) (lsub_p [0, 1, 2, 4] rfl rfl rfl) ?_
        exact xr_readSum_b7_j36_ok hS h10 hx kn kc
      · have hx := ite_f h11 hx
        refine wp_g 2 (pc1 := 33) (lv1 := [(0, .ref 13), (1, .ref 1), (2, .int (Int32.ofInt x2)), (3, .int (Int32.ofInt x3)), (4, .int (Int32.ofInt x4))]) (st1 := [.int (Int32.ofInt x3), .ref 13]) (w1 := w9) rfl ?_
        obtain ⟨o12, e13, hx⟩ := bd hx
        refine wp_cl [.ref 13, .int (Int32.ofInt x3)] [] (i := .invokevirtual 76) (ln := 3) (a := 59) (b := 0) (z := 0) (by decide +kernel) rfl rfl (by decide) rfl (show (2 : Nat) = pm_na 59 by decide +kernel) (Nat.le_of_ble_eq_true rfl) (show (2 : Nat) ≤ pm_n 59 by decide +kernel) (rcv_x 6 h10 (hS _ _ sx_13) (by decide +kernel)) (xr_addStep_ok (d := d + 8) hS h10 e13 (fun w14 h15 => ?_))
        show wp _ 54 36 [(0, .ref 13), (1, .ref 1), (2, .int (Int32.ofInt x2)), (3, .int (Int32.ofInt x3)), (4, .int (Int32.ofInt x4))] [] w14 _
        refine wp_lv (lv1 := [(0, .ref 13), (1, .ref 1), (2, .int (Int32.ofInt x2)), (4, .int (Int32.ofInt x4))]) (lsub_p [0, 1, 2, 4] rfl rfl rfl) ?_
        exact xr_readSum_b7_j36_ok hS h15 hx kn kc
/-- RuleReader.readSum (LText;)V -/
noncomputable def xr_readSum (s : Hp) : Option Hp :=
  (lp (fun (q : Int × Int × Int × Hp) => xr_readSum_b7 q.2.2.2 q.1 q.2.1 q.2.2.1) ((-1), (-1), 0, s)).bind fun q1 => q1.elim (fun q5 => some q5.2.2.2) (fun r => some r)
set_option maxRecDepth 100000 in
theorem xr_readSum_ok {d : Nat} {P : Option Value → pm_H → Prop} {w : pm_H} {sh : Shp} {w0 : pm_H} {s : Hp} (hS : St sh) (h : Rw sh w0 s w) {o : Hp} (hx : xr_readSum s = some o) (kr : ∀ w1, Rw sh w0 o w1 → P none w1) : wp (d + 9) 54 0 (lv_args 0 [.ref 13, .ref 1]) [] w P := by
  show wp _ 54 0 [(0, .ref 13), (1, .ref 1)] [] w _
  unfold xr_readSum at hx
  refine wp_g 6 (pc1 := 7) (lv1 := [(4, .int (Int32.ofInt 0)), (3, .int (Int32.ofInt (-1))), (2, .int (Int32.ofInt (-1))), (0, .ref 13), (1, .ref 1)]) (st1 := []) (w1 := w) rfl ?_
  refine wp_lv (lv1 := [(0, .ref 13), (1, .ref 1), (2, .int (Int32.ofInt (-1))), (3, .int (Int32.ofInt (-1))), (4, .int (Int32.ofInt 0))]) (lsub_p [3, 4, 2, 1, 0] rfl rfl rfl) ?_
  obtain ⟨q1, e2, hx⟩ := bd hx
  refine wp_lp (σ := Int × Int × Int × Hp) (ρ := ((Int × Int × Int × Hp) ⊕ Hp)) (B := fun q => xr_readSum_b7 q.2.2.2 q.1 q.2.1 q.2.2.1) (R := fun q w' => Rw sh w0 q.2.2.2 w') (C := fun r => (∀ q1 w1, r = .inl q1 → Rw sh w0 q1.2.2.2 w1 → wp (d + 9) 54 76 [(0, .ref 13), (1, .ref 1), (2, .int (Int32.ofInt q1.1)), (3, .int (Int32.ofInt q1.2.1)), (4, .int (Int32.ofInt q1.2.2.1))] [] w1 P) ∧ (∀ v1 w1, r = .inr v1 → Rw sh w0 v1 w1 → P none w1)) (lv := fun q => [(0, .ref 13), (1, .ref 1), (2, .int (Int32.ofInt q.1)), (3, .int (Int32.ofInt q.2.1)), (4, .int (Int32.ofInt q.2.2.1))]) (hd := 7) (fun q w' o hR hb kn kc => xr_readSum_b7_ok hS hR hb kn kc) _ _ _ e2 h ?_
  refine ⟨?_, fun v6 w1 hs h1 => by subst hs; cases (se_r hx); exact kr _ h1⟩
  intro q5 w3 hs h4
  subst hs
  replace hx := se_l hx
  show wp _ 54 76 [(0, .ref 13), (1, .ref 1), (2, .int (Int32.ofInt q5.1)), (3, .int (Int32.ofInt q5.2.1)), (4, .int (Int32.ofInt q5.2.2.1))] [] w3 _
  refine wp_rt (i := .return_) (r := none) (ln := 1) (a := 0) (b := 0) (z := 0) (by decide +kernel) rfl (ret_v (by decide +kernel)) ?_
  cases hx
  exact kr _ h4
/-- RuleReader.takeComparison (LText;)I -/
noncomputable def xr_takeComparison (s : Hp) : Option (Int × Hp) :=
  (xt_where s).bind fun o1 => (xt_takeComparison s).bind fun o5 => if w32 o5.1 = w32 (-1) then (xt_failHere o5.2).bind fun o14 => some (o5.1, o14) else (xr_countItem o5.2 o1).bind fun o10 => some (o5.1, o10)
set_option maxRecDepth 100000 in
theorem xr_takeComparison_ok {d : Nat} {P : Option Value → pm_H → Prop} {w : pm_H} {sh : Shp} {w0 : pm_H} {s : Hp} (hS : St sh) (h : Rw sh w0 s w) {o : Int × Hp} (hx : xr_takeComparison s = some o) (kr : ∀ w1, Rw sh w0 o.2 w1 → P (some (.int (Int32.ofInt o.1))) w1) : wp (d + 2) 53 0 (lv_args 0 [.ref 13, .ref 1]) [] w P := by
  show wp _ 53 0 [(0, .ref 13), (1, .ref 1)] [] w _
  unfold xr_takeComparison at hx
  refine wp_g 1 (pc1 := 1) (lv1 := [(0, .ref 13), (1, .ref 1)]) (st1 := [.ref 1]) (w1 := w) rfl ?_
  obtain ⟨o1, e2, hx⟩ := bd hx
  refine wp_cl [.ref 1] [] (i := .invokevirtual 51) (ln := 3) (a := 89) (b := 0) (z := 0) (by decide +kernel) rfl rfl (by decide) rfl (show (1 : Nat) = pm_na 89 by decide +kernel) (Nat.le_of_ble_eq_true rfl) (show (1 : Nat) ≤ pm_n 89 by decide +kernel) (rcv_x 9 h (hS _ _ sx_1) (by decide +kernel)) (xt_where_ok (d := d + 1) hS h e2 ?_)
  show wp _ 53 4 [(0, .ref 13), (1, .ref 1)] [.int (Int32.ofInt o1)] w _
  refine wp_g 2 (pc1 := 6) (lv1 := [(2, .int (Int32.ofInt o1)), (0, .ref 13), (1, .ref 1)]) (st1 := [.ref 1]) (w1 := w) rfl ?_
  obtain ⟨o5, e6, hx⟩ := bd hx
  refine wp_cl [.ref 1] [] (i := .invokevirtual 97) (ln := 3) (a := 94) (b := 0) (z := 0) (by decide +kernel) rfl rfl (by decide) rfl (show (1 : Nat) = pm_na 94 by decide +kernel) (Nat.le_of_ble_eq_true rfl) (show (1 : Nat) ≤ pm_n 94 by decide +kernel) (rcv_x 9 h (hS _ _ sx_1) (by decide +kernel)) (xt_takeComparison_ok (d := d) hS h e6 (fun w7 h8 => ?_))
  show wp _ 53 9 [(2, .int (Int32.ofInt o1)), (0, .ref 13), (1, .ref 1)] [.int (Int32.ofInt o5.1)] w7 _
  refine wp_g 3 (pc1 := 12) (lv1 := [(3, .int (Int32.ofInt o5.1)), (2, .int (Int32.ofInt o1)), (0, .ref 13), (1, .ref 1)]) (st1 := [.int (Int32.ofInt (-1)), .int (Int32.ofInt o5.1)]) (w1 := w7) rfl ?_
  refine wx_ne (oo := 10) (ln := 3) (a := 22) (b := 0) (zz := 0) (by decide +kernel) (fun h9 => ?_) (fun h9 => ?_)
  · have hx := ite_f h9 hx
    refine wp_g 3 (pc1 := 25) (lv1 := [(3, .int (Int32.ofInt o5.1)), (2, .int (Int32.ofInt o1)), (0, .ref 13), (1, .ref 1)]) (st1 := [.int (Int32.ofInt o1), .ref 1, .ref 13]) (w1 := w7) rfl ?_
    obtain ⟨o10, e11, hx⟩ := bd hx
    refine wp_cl [.ref 13, .ref 1, .int (Int32.ofInt o1)] [] (i := .invokevirtual 99) (ln := 3) (a := 58) (b := 0) (z := 0) (by decide +kernel) rfl rfl (by decide) rfl (show (3 : Nat) = pm_na 58 by decide +kernel) (Nat.le_of_ble_eq_true rfl) (show (3 : Nat) ≤ pm_n 58 by decide +kernel) (rcv_x 6 h8 (hS _ _ sx_13) (by decide +kernel)) (xr_countItem_ok (d := d) hS h8 e11 (fun w12 h13 => ?_))
    show wp _ 53 28 [(3, .int (Int32.ofInt o5.1)), (2, .int (Int32.ofInt o1)), (0, .ref 13), (1, .ref 1)] [] w12 _
    refine wp_g 1 (pc1 := 29) (lv1 := [(3, .int (Int32.ofInt o5.1)), (2, .int (Int32.ofInt o1)), (0, .ref 13), (1, .ref 1)]) (st1 := [.int (Int32.ofInt o5.1)]) (w1 := w12) rfl ?_
    refine wp_rt (i := .ireturn) (r := some (.int (Int32.ofInt o5.1))) (ln := 1) (a := 0) (b := 0) (z := 0) (by decide +kernel) rfl (ret_ok (by decide +kernel)) ?_
    cases hx
    exact kr _ h13
  · have hx := ite_t h9 hx
    refine wp_g 1 (pc1 := 16) (lv1 := [(3, .int (Int32.ofInt o5.1)), (2, .int (Int32.ofInt o1)), (0, .ref 13), (1, .ref 1)]) (st1 := [.ref 1]) (w1 := w7) rfl ?_
    obtain ⟨o14, e15, hx⟩ := bd hx
    refine wp_cl [.ref 1] [] (i := .invokevirtual 60) (ln := 3) (a := 88) (b := 0) (z := 0) (by decide +kernel) rfl rfl (by decide) rfl (show (1 : Nat) = pm_na 88 by decide +kernel) (Nat.le_of_ble_eq_true rfl) (show (1 : Nat) ≤ pm_n 88 by decide +kernel) (rcv_x 9 h8 (hS _ _ sx_1) (by decide +kernel)) (xt_failHere_ok (d := d) hS h8 e15 (fun w16 h17 => ?_))
    show wp _ 53 19 [(3, .int (Int32.ofInt o5.1)), (2, .int (Int32.ofInt o1)), (0, .ref 13), (1, .ref 1)] [] w16 _
    refine wp_g 2 (pc1 := 29) (lv1 := [(3, .int (Int32.ofInt o5.1)), (2, .int (Int32.ofInt o1)), (0, .ref 13), (1, .ref 1)]) (st1 := [.int (Int32.ofInt o5.1)]) (w1 := w16) rfl ?_
    refine wp_rt (i := .ireturn) (r := some (.int (Int32.ofInt o5.1))) (ln := 1) (a := 0) (b := 0) (z := 0) (by decide +kernel) rfl (ret_ok (by decide +kernel)) ?_
    cases hx
    exact kr _ h17
noncomputable def xr_readFact_j59 (F51 : Hp → Int → Option Hp) (F52 : Hp → Int → Option Hp) (s : Hp) (x2 : Int) (x4 : Int) (x5 : Int) : Option Hp :=
  if w32 x4 = 0 then if w32 x5 = 0 then (xr_readSum s).bind fun o3 => (xr_takeComparison o3).bind fun o7 => (xr_readSum o7.2).bind fun o11 => (xr_addStep o11 o7.1).bind fun o15 => some o15 else (F51 s (x2 + 1)).bind fun o19 => (xt_needSign o19 93).bind fun o23 => some o23 else (F52 s (x2 + 1)).bind fun o27 => (xr_addStep o27 2).bind fun o31 => some o31
set_option maxRecDepth 100000 in
theorem xr_readFact_j59_ok {d : Nat} {P : Option Value → pm_H → Prop} {w : pm_H} {sh : Shp} {w0 : pm_H} {s : Hp} (hS : St sh) {F51 : Hp → Int → Option Hp} (hF51 : ∀ (w : pm_H) (s : Hp) (p2 : Int) (o : Hp) (P : Option Value → pm_H → Prop), Rw sh w0 s w → F51 s p2 = some o → (∀ w1, Rw sh w0 o w1 → P none w1) → wp (d + 10) 51 0 (lv_args 0 [.ref 13, .ref 1, .int (Int32.ofInt p2)]) [] w P) {F52 : Hp → Int → Option Hp} (hF52 : ∀ (w : pm_H) (s : Hp) (p2 : Int) (o : Hp) (P : Option Value → pm_H → Prop), Rw sh w0 s w → F52 s p2 = some o → (∀ w1, Rw sh w0 o w1 → P none w1) → wp (d + 10) 52 0 (lv_args 0 [.ref 13, .ref 1, .int (Int32.ofInt p2)]) [] w P) {x2 : Int} {x4 : Int} {x5 : Int} (h : Rw sh w0 s w) {o : Hp} (hx : xr_readFact_j59 F51 F52 s x2 x4 x5 = some o) (kr : ∀ w1, Rw sh w0 o w1 → P none w1) : wp (d + 11) 52 59 [(0, .ref 13), (1, .ref 1), (2, .int (Int32.ofInt x2)), (4, .int (Int32.ofInt x4)), (5, .int (Int32.ofInt x5))] [] w P := by
  unfold xr_readFact_j59 at hx
  refine wp_g 1 (pc1 := 61) (lv1 := [(0, .ref 13), (1, .ref 1), (2, .int (Int32.ofInt x2)), (4, .int (Int32.ofInt x4)), (5, .int (Int32.ofInt x5))]) (st1 := [.int (Int32.ofInt x4)]) (w1 := w) rfl ?_
  refine wz_eq (oo := 19) (ln := 3) (a := 80) (b := 0) (zz := 0) (by decide +kernel) (fun h1 => ?_) (fun h1 => ?_)
  · have hx := ite_t h1 hx
    refine wp_g 1 (pc1 := 82) (lv1 := [(0, .ref 13), (1, .ref 1), (2, .int (Int32.ofInt x2)), (4, .int (Int32.ofInt x4)), (5, .int (Int32.ofInt x5))]) (st1 := [.int (Int32.ofInt x5)]) (w1 := w) rfl ?_
    refine wz_eq (oo := 20) (ln := 3) (a := 102) (b := 0) (zz := 0) (by decide +kernel) (fun h2 => ?_) (fun h2 => ?_)
    · have hx := ite_t h2 hx
      refine wp_g 2 (pc1 := 104) (lv1 := [(0, .ref 13), (1, .ref 1), (2, .int (Int32.ofInt x2)), (4, .int (Int32.ofInt x4)), (5, .int (Int32.ofInt x5))]) (st1 := [.ref 1, .ref 13]) (w1 := w) rfl ?_
      obtain ⟨o3, e4, hx⟩ := bd hx
      refine wp_cl [.ref 13, .ref 1] [] (i := .invokevirtual 67) (ln := 3) (a := 54) (b := 0) (z := 0) (by decide +kernel) rfl rfl (by decide) rfl (show (2 : Nat) = pm_na 54 by decide +kernel) (Nat.le_of_ble_eq_true rfl) (show (2 : Nat) ≤ pm_n 54 by decide +kernel) (rcv_x 6 h (hS _ _ sx_13) (by decide +kernel)) (xr_readSum_ok (d := d + 1) hS h e4 (fun w5 h6 => ?_))
      show wp _ 52 107 [(0, .ref 13), (1, .ref 1), (2, .int (Int32.ofInt x2)), (4, .int (Int32.ofInt x4)), (5, .int (Int32.ofInt x5))] [] w5 _
      refine wp_g 2 (pc1 := 109) (lv1 := [(0, .ref 13), (1, .ref 1), (2, .int (Int32.ofInt x2)), (4, .int (Int32.ofInt x4)), (5, .int (Int32.ofInt x5))]) (st1 := [.ref 1, .ref 13]) (w1 := w5) rfl ?_
      obtain ⟨o7, e8, hx⟩ := bd hx
      refine wp_cl [.ref 13, .ref 1] [] (i := .invokevirtual 93) (ln := 3) (a := 53) (b := 0) (z := 0) (by decide +kernel) rfl rfl (by decide) rfl (show (2 : Nat) = pm_na 53 by decide +kernel) (Nat.le_of_ble_eq_true rfl) (show (2 : Nat) ≤ pm_n 53 by decide +kernel) (rcv_x 6 h6 (hS _ _ sx_13) (by decide +kernel)) (xr_takeComparison_ok (d := d + 8) hS h6 e8 (fun w9 h10 => ?_))
      show wp _ 52 112 [(0, .ref 13), (1, .ref 1), (2, .int (Int32.ofInt x2)), (4, .int (Int32.ofInt x4)), (5, .int (Int32.ofInt x5))] [.int (Int32.ofInt o7.1)] w9 _
      refine wp_g 3 (pc1 := 116) (lv1 := [(6, .int (Int32.ofInt o7.1)), (0, .ref 13), (1, .ref 1), (2, .int (Int32.ofInt x2)), (4, .int (Int32.ofInt x4)), (5, .int (Int32.ofInt x5))]) (st1 := [.ref 1, .ref 13]) (w1 := w9) rfl ?_
      obtain ⟨o11, e12, hx⟩ := bd hx
      refine wp_cl [.ref 13, .ref 1] [] (i := .invokevirtual 67) (ln := 3) (a := 54) (b := 0) (z := 0) (by decide +kernel) rfl rfl (by decide) rfl (show (2 : Nat) = pm_na 54 by decide +kernel) (Nat.le_of_ble_eq_true rfl) (show (2 : Nat) ≤ pm_n 54 by decide +kernel) (rcv_x 6 h10 (hS _ _ sx_13) (by decide +kernel)) (xr_readSum_ok (d := d + 1) hS h10 e12 (fun w13 h14 => ?_))
      show wp _ 52 119 [(6, .int (Int32.ofInt o7.1)), (0, .ref 13), (1, .ref 1), (2, .int (Int32.ofInt x2)), (4, .int (Int32.ofInt x4)), (5, .int (Int32.ofInt x5))] [] w13 _
      refine wp_g 2 (pc1 := 122) (lv1 := [(6, .int (Int32.ofInt o7.1)), (0, .ref 13), (1, .ref 1), (2, .int (Int32.ofInt x2)), (4, .int (Int32.ofInt x4)), (5, .int (Int32.ofInt x5))]) (st1 := [.int (Int32.ofInt o7.1), .ref 13]) (w1 := w13) rfl ?_
      obtain ⟨o15, e16, hx⟩ := bd hx
      refine wp_cl [.ref 13, .int (Int32.ofInt o7.1)] [] (i := .invokevirtual 76) (ln := 3) (a := 59) (b := 0) (z := 0) (by decide +kernel) rfl rfl (by decide) rfl (show (2 : Nat) = pm_na 59 by decide +kernel) (Nat.le_of_ble_eq_true rfl) (show (2 : Nat) ≤ pm_n 59 by decide +kernel) (rcv_x 6 h14 (hS _ _ sx_13) (by decide +kernel)) (xr_addStep_ok (d := d + 10) hS h14 e16 (fun w17 h18 => ?_))
      show wp _ 52 125 [(6, .int (Int32.ofInt o7.1)), (0, .ref 13), (1, .ref 1), (2, .int (Int32.ofInt x2)), (4, .int (Int32.ofInt x4)), (5, .int (Int32.ofInt x5))] [] w17 _
      refine wp_rt (i := .return_) (r := none) (ln := 1) (a := 0) (b := 0) (z := 0) (by decide +kernel) rfl (ret_v (by decide +kernel)) ?_
      cases hx
      exact kr _ h18
    · have hx := ite_f h2 hx
      refine wp_g 5 (pc1 := 90) (lv1 := [(0, .ref 13), (1, .ref 1), (2, .int (Int32.ofInt x2)), (4, .int (Int32.ofInt x4)), (5, .int (Int32.ofInt x5))]) (st1 := [.int (Int32.ofInt (x2 + 1)), .ref 1, .ref 13]) (w1 := w) (by simp only [Int32.ofInt_add, Int32.ofInt_sub, Int32.ofInt_mul, Int32.ofInt_neg, p_and, p_or, p_xor, p_shl, p_shr, p_usr, p_w8, p_c16, p_lI, q_and, q_or, q_shl, q_shr, q_w32, Int64.ofInt_add, Int64.ofInt_sub, Int64.ofInt_mul, p_mx, p_mn, q_mx, q_mn]; rfl) ?_
      obtain ⟨o19, e20, hx⟩ := bd hx
      refine wp_cl [.ref 13, .ref 1, .int (Int32.ofInt (x2 + 1))] [] (i := .invokevirtual 73) (ln := 3) (a := 51) (b := 0) (z := 0) (by decide +kernel) rfl rfl (by decide) rfl (show (3 : Nat) = pm_na 51 by decide +kernel) (Nat.le_of_ble_eq_true rfl) (show (3 : Nat) ≤ pm_n 51 by decide +kernel) (rcv_x 6 h (hS _ _ sx_13) (by decide +kernel)) (hF51 _ _ (x2 + 1) _ _ h e20 (fun w21 h22 => ?_))
      show wp _ 52 93 [(0, .ref 13), (1, .ref 1), (2, .int (Int32.ofInt x2)), (4, .int (Int32.ofInt x4)), (5, .int (Int32.ofInt x5))] [] w21 _
      refine wp_g 2 (pc1 := 96) (lv1 := [(0, .ref 13), (1, .ref 1), (2, .int (Int32.ofInt x2)), (4, .int (Int32.ofInt x4)), (5, .int (Int32.ofInt x5))]) (st1 := [.int (Int32.ofInt 93), .ref 1]) (w1 := w21) rfl ?_
      obtain ⟨o23, e24, hx⟩ := bd hx
      refine wp_cl [.ref 1, .int (Int32.ofInt 93)] [] (i := .invokevirtual 42) (ln := 3) (a := 93) (b := 0) (z := 0) (by decide +kernel) rfl rfl (by decide) rfl (show (2 : Nat) = pm_na 93 by decide +kernel) (Nat.le_of_ble_eq_true rfl) (show (2 : Nat) ≤ pm_n 93 by decide +kernel) (rcv_x 9 h22 (hS _ _ sx_1) (by decide +kernel)) (xt_needSign_ok (d := d + 8) hS h22 e24 (fun w25 h26 => ?_))
      show wp _ 52 99 [(0, .ref 13), (1, .ref 1), (2, .int (Int32.ofInt x2)), (4, .int (Int32.ofInt x4)), (5, .int (Int32.ofInt x5))] [] w25 _
      refine wp_g 1 (pc1 := 125) (lv1 := [(0, .ref 13), (1, .ref 1), (2, .int (Int32.ofInt x2)), (4, .int (Int32.ofInt x4)), (5, .int (Int32.ofInt x5))]) (st1 := []) (w1 := w25) rfl ?_
      refine wp_rt (i := .return_) (r := none) (ln := 1) (a := 0) (b := 0) (z := 0) (by decide +kernel) rfl (ret_v (by decide +kernel)) ?_
      cases hx
      exact kr _ h26
  · have hx := ite_f h1 hx
    refine wp_g 5 (pc1 := 69) (lv1 := [(0, .ref 13), (1, .ref 1), (2, .int (Int32.ofInt x2)), (4, .int (Int32.ofInt x4)), (5, .int (Int32.ofInt x5))]) (st1 := [.int (Int32.ofInt (x2 + 1)), .ref 1, .ref 13]) (w1 := w) (by simp only [Int32.ofInt_add, Int32.ofInt_sub, Int32.ofInt_mul, Int32.ofInt_neg, p_and, p_or, p_xor, p_shl, p_shr, p_usr, p_w8, p_c16, p_lI, q_and, q_or, q_shl, q_shr, q_w32, Int64.ofInt_add, Int64.ofInt_sub, Int64.ofInt_mul, p_mx, p_mn, q_mx, q_mn]; rfl) ?_
    obtain ⟨o27, e28, hx⟩ := bd hx
    refine wp_cl [.ref 13, .ref 1, .int (Int32.ofInt (x2 + 1))] [] (i := .invokevirtual 80) (ln := 3) (a := 52) (b := 0) (z := 0) (by decide +kernel) rfl rfl (by decide) rfl (show (3 : Nat) = pm_na 52 by decide +kernel) (Nat.le_of_ble_eq_true rfl) (show (3 : Nat) ≤ pm_n 52 by decide +kernel) (rcv_x 6 h (hS _ _ sx_13) (by decide +kernel)) (hF52 _ _ (x2 + 1) _ _ h e28 (fun w29 h30 => ?_))
    show wp _ 52 72 [(0, .ref 13), (1, .ref 1), (2, .int (Int32.ofInt x2)), (4, .int (Int32.ofInt x4)), (5, .int (Int32.ofInt x5))] [] w29 _
    refine wp_g 2 (pc1 := 74) (lv1 := [(0, .ref 13), (1, .ref 1), (2, .int (Int32.ofInt x2)), (4, .int (Int32.ofInt x4)), (5, .int (Int32.ofInt x5))]) (st1 := [.int (Int32.ofInt 2), .ref 13]) (w1 := w29) rfl ?_
    obtain ⟨o31, e32, hx⟩ := bd hx
    refine wp_cl [.ref 13, .int (Int32.ofInt 2)] [] (i := .invokevirtual 76) (ln := 3) (a := 59) (b := 0) (z := 0) (by decide +kernel) rfl rfl (by decide) rfl (show (2 : Nat) = pm_na 59 by decide +kernel) (Nat.le_of_ble_eq_true rfl) (show (2 : Nat) ≤ pm_n 59 by decide +kernel) (rcv_x 6 h30 (hS _ _ sx_13) (by decide +kernel)) (xr_addStep_ok (d := d + 10) hS h30 e32 (fun w33 h34 => ?_))
    show wp _ 52 77 [(0, .ref 13), (1, .ref 1), (2, .int (Int32.ofInt x2)), (4, .int (Int32.ofInt x4)), (5, .int (Int32.ofInt x5))] [] w33 _
    refine wp_g 1 (pc1 := 125) (lv1 := [(0, .ref 13), (1, .ref 1), (2, .int (Int32.ofInt x2)), (4, .int (Int32.ofInt x4)), (5, .int (Int32.ofInt x5))]) (st1 := []) (w1 := w33) rfl ?_
    refine wp_rt (i := .return_) (r := none) (ln := 1) (a := 0) (b := 0) (z := 0) (by decide +kernel) rfl (ret_v (by decide +kernel)) ?_
    cases hx
    exact kr _ h34
noncomputable def xr_readFact_j44 (F51 : Hp → Int → Option Hp) (F52 : Hp → Int → Option Hp) (s : Hp) (x2 : Int) (x3 : Int) (x4 : Int) (x5 : Int) : Option Hp :=
  if w32 x2 < w32 10 then xr_readFact_j59 F51 F52 s x2 x4 x5 else (xt_fail s x3 2).bind fun o2 => some o2
set_option maxRecDepth 100000 in
theorem xr_readFact_j44_ok {d : Nat} {P : Option Value → pm_H → Prop} {w : pm_H} {sh : Shp} {w0 : pm_H} {s : Hp} (hS : St sh) {F51 : Hp → Int → Option Hp} (hF51 : ∀ (w : pm_H) (s : Hp) (p2 : Int) (o : Hp) (P : Option Value → pm_H → Prop), Rw sh w0 s w → F51 s p2 = some o → (∀ w1, Rw sh w0 o w1 → P none w1) → wp (d + 10) 51 0 (lv_args 0 [.ref 13, .ref 1, .int (Int32.ofInt p2)]) [] w P) {F52 : Hp → Int → Option Hp} (hF52 : ∀ (w : pm_H) (s : Hp) (p2 : Int) (o : Hp) (P : Option Value → pm_H → Prop), Rw sh w0 s w → F52 s p2 = some o → (∀ w1, Rw sh w0 o w1 → P none w1) → wp (d + 10) 52 0 (lv_args 0 [.ref 13, .ref 1, .int (Int32.ofInt p2)]) [] w P) {x2 : Int} {x3 : Int} {x4 : Int} {x5 : Int} (h : Rw sh w0 s w) {o : Hp} (hx : xr_readFact_j44 F51 F52 s x2 x3 x4 x5 = some o) (kr : ∀ w1, Rw sh w0 o w1 → P none w1) : wp (d + 11) 52 44 [(0, .ref 13), (1, .ref 1), (2, .int (Int32.ofInt x2)), (3, .int (Int32.ofInt x3)), (4, .int (Int32.ofInt x4)), (5, .int (Int32.ofInt x5))] [] w P := by
  unfold xr_readFact_j44 at hx
  refine wp_g 2 (pc1 := 47) (lv1 := [(0, .ref 13), (1, .ref 1), (2, .int (Int32.ofInt x2)), (3, .int (Int32.ofInt x3)), (4, .int (Int32.ofInt x4)), (5, .int (Int32.ofInt x5))]) (st1 := [.int (Int32.ofInt 10), .int (Int32.ofInt x2)]) (w1 := w) rfl ?_
  refine wx_lt (oo := 12) (ln := 3) (a := 59) (b := 0) (zz := 0) (by decide +kernel) (fun h1 => ?_) (fun h1 => ?_)
  · have hx := ite_t h1 hx
    refine wp_lv (lv1 := [(0, .ref 13), (1, .ref 1), (2, .int (Int32.ofInt x2)), (4, .int (Int32.ofInt x4)), (5, .int (Int32.ofInt x5))]) (lsub_p [0, 1, 2, 4, 5] rfl rfl rfl) ?_
    exact xr_readFact_j59_ok hS hF51 hF52 h hx kr
  · have hx := ite_f h1 hx
    refine wp_g 3 (pc1 := 53) (lv1 := [(0, .ref 13), (1, .ref 1), (2, .int (Int32.ofInt x2)), (3, .int (Int32.ofInt x3)), (4, .int (Int32.ofInt x4)), (5, .int (Int32.ofInt x5))]) (st1 := [.int (Int32.ofInt 2), .int (Int32.ofInt x3), .ref 1]) (w1 := w) rfl ?_
    obtain ⟨o2, e3, hx⟩ := bd hx
    refine wp_cl [.ref 1, .int (Int32.ofInt x3), .int (Int32.ofInt 2)] [] (i := .invokevirtual 63) (ln := 3) (a := 87) (b := 0) (z := 0) (by decide +kernel) rfl rfl (by decide) rfl (show (3 : Nat) = pm_na 87 by decide +kernel) (Nat.le_of_ble_eq_true rfl) (show (3 : Nat) ≤ pm_n 87 by decide +kernel) (rcv_x 9 h (hS _ _ sx_1) (by decide +kernel)) (xt_fail_ok (d := d + 10) hS h e3 (fun w4 h5 => ?_))
    show wp _ 52 56 [(0, .ref 13), (1, .ref 1), (2, .int (Int32.ofInt x2)), (3, .int (Int32.ofInt x3)), (4, .int (Int32.ofInt x4)), (5, .int (Int32.ofInt x5))] [] w4 _
    refine wp_g 1 (pc1 := 125) (lv1 := [(0, .ref 13), (1, .ref 1), (2, .int (Int32.ofInt x2)), (3, .int (Int32.ofInt x3)), (4, .int (Int32.ofInt x4)), (5, .int (Int32.ofInt x5))]) (st1 := []) (w1 := w4) rfl ?_
    refine wp_rt (i := .return_) (r := none) (ln := 1) (a := 0) (b := 0) (z := 0) (by decide +kernel) rfl (ret_v (by decide +kernel)) ?_
    cases hx
    exact kr _ h5
/-- RuleReader.readFact (LText;I)V -/
noncomputable def xr_readFact_b (F51 : Hp → Int → Option Hp) (F52 : Hp → Int → Option Hp) (s : Hp) (p2 : Int) : Option Hp :=
  (xt_where s).bind fun o1 => (xt_takesWord s 4).bind fun o5 => if w32 o5.1 = 0 then (xt_takeSign o5.2 91).bind fun o11 => if w32 o11.1 = 0 then if w32 o5.1 = 0 then xr_readFact_j59 F51 F52 o11.2 p2 o5.1 0 else xr_readFact_j44 F51 F52 o11.2 p2 o1 o5.1 0 else if w32 o5.1 = 0 then xr_readFact_j44 F51 F52 o11.2 p2 o1 o5.1 1 else xr_readFact_j44 F51 F52 o11.2 p2 o1 o5.1 1 else if w32 o5.1 = 0 then xr_readFact_j59 F51 F52 o5.2 p2 o5.1 0 else xr_readFact_j44 F51 F52 o5.2 p2 o1 o5.1 0
set_option maxRecDepth 100000 in
theorem xr_readFact_b_ok {d : Nat} {P : Option Value → pm_H → Prop} {w : pm_H} {sh : Shp} {w0 : pm_H} {s : Hp} (hS : St sh) {F51 : Hp → Int → Option Hp} (hF51 : ∀ (w : pm_H) (s : Hp) (p2 : Int) (o : Hp) (P : Option Value → pm_H → Prop), Rw sh w0 s w → F51 s p2 = some o → (∀ w1, Rw sh w0 o w1 → P none w1) → wp (d + 10) 51 0 (lv_args 0 [.ref 13, .ref 1, .int (Int32.ofInt p2)]) [] w P) {F52 : Hp → Int → Option Hp} (hF52 : ∀ (w : pm_H) (s : Hp) (p2 : Int) (o : Hp) (P : Option Value → pm_H → Prop), Rw sh w0 s w → F52 s p2 = some o → (∀ w1, Rw sh w0 o w1 → P none w1) → wp (d + 10) 52 0 (lv_args 0 [.ref 13, .ref 1, .int (Int32.ofInt p2)]) [] w P) {p2 : Int} (h : Rw sh w0 s w) {o : Hp} (hx : xr_readFact_b F51 F52 s p2 = some o) (kr : ∀ w1, Rw sh w0 o w1 → P none w1) : wp (d + 11) 52 0 (lv_args 0 [.ref 13, .ref 1, .int (Int32.ofInt p2)]) [] w P := by
  show wp _ 52 0 [(0, .ref 13), (1, .ref 1), (2, .int (Int32.ofInt p2))] [] w _
  unfold xr_readFact_b at hx
  refine wp_g 1 (pc1 := 1) (lv1 := [(0, .ref 13), (1, .ref 1), (2, .int (Int32.ofInt p2))]) (st1 := [.ref 1]) (w1 := w) rfl ?_
  obtain ⟨o1, e2, hx⟩ := bd hx
  refine wp_cl [.ref 1] [] (i := .invokevirtual 51) (ln := 3) (a := 89) (b := 0) (z := 0) (by decide +kernel) rfl rfl (by decide) rfl (show (1 : Nat) = pm_na 89 by decide +kernel) (Nat.le_of_ble_eq_true rfl) (show (1 : Nat) ≤ pm_n 89 by decide +kernel) (rcv_x 9 h (hS _ _ sx_1) (by decide +kernel)) (xt_where_ok (d := d + 10) hS h e2 ?_)
  show wp _ 52 4 [(0, .ref 13), (1, .ref 1), (2, .int (Int32.ofInt p2))] [.int (Int32.ofInt o1)] w _
  refine wp_g 3 (pc1 := 8) (lv1 := [(3, .int (Int32.ofInt o1)), (0, .ref 13), (1, .ref 1), (2, .int (Int32.ofInt p2))]) (st1 := [.retAddr 4, .ref 1]) (w1 := w) rfl ?_
  obtain ⟨o5, e6, hx⟩ := bd hx
  refine wp_cl [.ref 1, .retAddr 4] [] (i := .invokevirtual 56) (ln := 3) (a := 97) (b := 0) (z := 0) (by decide +kernel) rfl rfl (by decide) rfl (show (2 : Nat) = pm_na 97 by decide +kernel) (Nat.le_of_ble_eq_true rfl) (show (2 : Nat) ≤ pm_n 97 by decide +kernel) (rcv_x 9 h (hS _ _ sx_1) (by decide +kernel)) (xt_takesWord_ok (d := d + 2) hS h e6 (fun w7 h8 => ?_))
  show wp _ 52 11 [(3, .int (Int32.ofInt o1)), (0, .ref 13), (1, .ref 1), (2, .int (Int32.ofInt p2))] [.int (Int32.ofInt o5.1)] w7 _
  refine wp_g 2 (pc1 := 15) (lv1 := [(4, .int (Int32.ofInt o5.1)), (3, .int (Int32.ofInt o1)), (0, .ref 13), (1, .ref 1), (2, .int (Int32.ofInt p2))]) (st1 := [.int (Int32.ofInt o5.1)]) (w1 := w7) rfl ?_
  refine wz_ne (oo := 16) (ln := 3) (a := 31) (b := 0) (zz := 0) (by decide +kernel) (fun h9 => ?_) (fun h9 => ?_)
  · have hx := ite_f h9 hx
    refine wp_g 3 (pc1 := 36) (lv1 := [(5, .int (Int32.ofInt 0)), (4, .int (Int32.ofInt o5.1)), (3, .int (Int32.ofInt o1)), (0, .ref 13), (1, .ref 1), (2, .int (Int32.ofInt p2))]) (st1 := [.int (Int32.ofInt o5.1)]) (w1 := w7) rfl ?_
    refine wz_ne (oo := 8) (ln := 3) (a := 44) (b := 0) (zz := 0) (by decide +kernel) (fun h10 => ?_) (fun h10 => ?_)
    · have hx := ite_f h10 hx
      refine wp_lv (lv1 := [(0, .ref 13), (1, .ref 1), (2, .int (Int32.ofInt p2)), (3, .int (Int32.ofInt o1)), (4, .int (Int32.ofInt o5.1)), (5, .int (Int32.ofInt 0))]) (lsub_p [3, 4, 5, 2, 1, 0] rfl rfl rfl) ?_
      exact xr_readFact_j44_ok hS hF51 hF52 h8 hx kr
    · have hx := ite_t h10 hx
      refine wp_g 2 (pc1 := 59) (lv1 := [(5, .int (Int32.ofInt 0)), (4, .int (Int32.ofInt o5.1)), (3, .int (Int32.ofInt o1)), (0, .ref 13), (1, .ref 1), (2, .int (Int32.ofInt p2))]) (st1 := []) (w1 := w7) rfl ?_
      refine wp_lv (lv1 := [(0, .ref 13), (1, .ref 1), (2, .int (Int32.ofInt p2)), (4, .int (Int32.ofInt o5.1)), (5, .int (Int32.ofInt 0))]) (lsub_p [3, 4, 5, 1, 0] rfl rfl rfl) ?_
      exact xr_readFact_j59_ok hS hF51 hF52 h8 hx kr
  · have hx := ite_t h9 hx
    refine wp_g 2 (pc1 := 21) (lv1 := [(4, .int (Int32.ofInt o5.1)), (3, .int (Int32.ofInt o1)), (0, .ref 13), (1, .ref 1), (2, .int (Int32.ofInt p2))]) (st1 := [.int (Int32.ofInt 91), .ref 1]) (w1 := w7) rfl ?_
    obtain ⟨o11, e12, hx⟩ := bd hx
    refine wp_cl [.ref 1, .int (Int32.ofInt 91)] [] (i := .invokevirtual 89) (ln := 3) (a := 92) (b := 0) (z := 0) (by decide +kernel) rfl rfl (by decide) rfl (show (2 : Nat) = pm_na 92 by decide +kernel) (Nat.le_of_ble_eq_true rfl) (show (2 : Nat) ≤ pm_n 92 by decide +kernel) (rcv_x 9 h8 (hS _ _ sx_1) (by decide +kernel)) (xt_takeSign_ok (d := d + 9) hS h8 e12 (fun w13 h14 => ?_))
    show wp _ 52 24 [(4, .int (Int32.ofInt o5.1)), (3, .int (Int32.ofInt o1)), (0, .ref 13), (1, .ref 1), (2, .int (Int32.ofInt p2))] [.int (Int32.ofInt o11.1)] w13 _
    refine wz_eq (oo := 7) (ln := 3) (a := 31) (b := 0) (zz := 0) (by decide +kernel) (fun h15 => ?_) (fun h15 => ?_)
    · have hx := ite_t h15 hx
      refine wp_g 3 (pc1 := 36) (lv1 := [(5, .int (Int32.ofInt 0)), (4, .int (Int32.ofInt o5.1)), (3, .int (Int32.ofInt o1)), (0, .ref 13), (1, .ref 1), (2, .int (Int32.ofInt p2))]) (st1 := [.int (Int32.ofInt o5.1)]) (w1 := w13) rfl ?_
      refine wz_ne (oo := 8) (ln := 3) (a := 44) (b := 0) (zz := 0) (by decide +kernel) (fun h16 => ?_) (fun h16 => ?_)
      · have hx := ite_f h16 hx
        refine wp_lv (lv1 := [(0, .ref 13), (1, .ref 1), (2, .int (Int32.ofInt p2)), (3, .int (Int32.ofInt o1)), (4, .int (Int32.ofInt o5.1)), (5, .int (Int32.ofInt 0))]) (lsub_p [3, 4, 5, 2, 1, 0] rfl rfl rfl) ?_
        exact xr_readFact_j44_ok hS hF51 hF52 h14 hx kr
      · have hx := ite_t h16 hx
        refine wp_g 2 (pc1 := 59) (lv1 := [(5, .int (Int32.ofInt 0)), (4, .int (Int32.ofInt o5.1)), (3, .int (Int32.ofInt o1)), (0, .ref 13), (1, .ref 1), (2, .int (Int32.ofInt p2))]) (st1 := []) (w1 := w13) rfl ?_
        refine wp_lv (lv1 := [(0, .ref 13), (1, .ref 1), (2, .int (Int32.ofInt p2)), (4, .int (Int32.ofInt o5.1)), (5, .int (Int32.ofInt 0))]) (lsub_p [3, 4, 5, 1, 0] rfl rfl rfl) ?_
        exact xr_readFact_j59_ok hS hF51 hF52 h14 hx kr
    · have hx := ite_f h15 hx
      refine wp_g 4 (pc1 := 36) (lv1 := [(5, .int (Int32.ofInt 1)), (4, .int (Int32.ofInt o5.1)), (3, .int (Int32.ofInt o1)), (0, .ref 13), (1, .ref 1), (2, .int (Int32.ofInt p2))]) (st1 := [.int (Int32.ofInt o5.1)]) (w1 := w13) rfl ?_
      refine wz_ne (oo := 8) (ln := 3) (a := 44) (b := 0) (zz := 0) (by decide +kernel) (fun h17 => ?_) (fun h17 => ?_)
      · have hx := ite_f h17 hx
        refine wp_lv (lv1 := [(0, .ref 13), (1, .ref 1), (2, .int (Int32.ofInt p2)), (3, .int (Int32.ofInt o1)), (4, .int (Int32.ofInt o5.1)), (5, .int (Int32.ofInt 1))]) (lsub_p [3, 4, 5, 2, 1, 0] rfl rfl rfl) ?_
        exact xr_readFact_j44_ok hS hF51 hF52 h14 hx kr
      · have hx := ite_t h17 hx
        refine wp_g 2 (pc1 := 44) (lv1 := [(5, .int (Int32.ofInt 1)), (4, .int (Int32.ofInt o5.1)), (3, .int (Int32.ofInt o1)), (0, .ref 13), (1, .ref 1), (2, .int (Int32.ofInt p2))]) (st1 := []) (w1 := w13) rfl ?_
        refine wp_lv (lv1 := [(0, .ref 13), (1, .ref 1), (2, .int (Int32.ofInt p2)), (3, .int (Int32.ofInt o1)), (4, .int (Int32.ofInt o5.1)), (5, .int (Int32.ofInt 1))]) (lsub_p [3, 4, 5, 2, 1, 0] rfl rfl rfl) ?_
        exact xr_readFact_j44_ok hS hF51 hF52 h14 hx kr
noncomputable def xr_readTest_b8_j65 (F51 : Hp → Int → Option Hp) (F52 : Hp → Int → Option Hp) (s : Hp) (x2 : Int) (x4 : Int) (x5 : Int) : Option ((Int × Int × Int × Hp) ⊕ ((Int × Int × Int × Hp) ⊕ Hp)) :=
  (xt_takesWord s 6).bind fun o1 => if w32 o1.1 = 0 then some (.inr (.inr o1.2)) else some (.inl (o1.1, x4, x5 + 1, o1.2))
set_option maxRecDepth 100000 in
theorem xr_readTest_b8_j65_ok {d : Nat} {P : Option Value → pm_H → Prop} {w : pm_H} {sh : Shp} {w0 : pm_H} {s : Hp} (hS : St sh) {F51 : Hp → Int → Option Hp} (hF51 : ∀ (w : pm_H) (s : Hp) (p2 : Int) (o : Hp) (P : Option Value → pm_H → Prop), Rw sh w0 s w → F51 s p2 = some o → (∀ w1, Rw sh w0 o w1 → P none w1) → wp (d + 10) 51 0 (lv_args 0 [.ref 13, .ref 1, .int (Int32.ofInt p2)]) [] w P) {F52 : Hp → Int → Option Hp} (hF52 : ∀ (w : pm_H) (s : Hp) (p2 : Int) (o : Hp) (P : Option Value → pm_H → Prop), Rw sh w0 s w → F52 s p2 = some o → (∀ w1, Rw sh w0 o w1 → P none w1) → wp (d + 10) 52 0 (lv_args 0 [.ref 13, .ref 1, .int (Int32.ofInt p2)]) [] w P) {x2 : Int} {x4 : Int} {x5 : Int} (h : Rw sh w0 s w) {o : ((Int × Int × Int × Hp) ⊕ ((Int × Int × Int × Hp) ⊕ Hp))} (hx : xr_readTest_b8_j65 F51 F52 s x2 x4 x5 = some o) (kn : ∀ (q : Int × Int × Int × Hp) w1, o = .inl q → Rw sh w0 q.2.2.2 w1 → wp (d + 11) 51 8 [(0, .ref 13), (1, .ref 1), (2, .int (Int32.ofInt x2)), (3, .int (Int32.ofInt q.1)), (4, .int (Int32.ofInt q.2.1)), (5, .int (Int32.ofInt q.2.2.1))] [] w1 P) (kc : ∀ (r : ((Int × Int × Int × Hp) ⊕ Hp)), o = .inr r → ((∀ q1 w1, r = .inl q1 → Rw sh w0 q1.2.2.2 w1 → wp (d + 11) 51 83 [(0, .ref 13), (1, .ref 1), (2, .int (Int32.ofInt x2)), (3, .int (Int32.ofInt q1.1)), (4, .int (Int32.ofInt q1.2.1)), (5, .int (Int32.ofInt q1.2.2.1))] [] w1 P) ∧ (∀ v1 w1, r = .inr v1 → Rw sh w0 v1 w1 → P none w1))) : wp (d + 11) 51 65 [(0, .ref 13), (1, .ref 1), (2, .int (Int32.ofInt x2)), (4, .int (Int32.ofInt x4)), (5, .int (Int32.ofInt x5))] [] w P := by
  unfold xr_readTest_b8_j65 at hx
  refine wp_g 2 (pc1 := 68) (lv1 := [(0, .ref 13), (1, .ref 1), (2, .int (Int32.ofInt x2)), (4, .int (Int32.ofInt x4)), (5, .int (Int32.ofInt x5))]) (st1 := [.retAddr 6, .ref 1]) (w1 := w) rfl ?_
  obtain ⟨o1, e2, hx⟩ := bd hx
  refine wp_cl [.ref 1, .retAddr 6] [] (i := .invokevirtual 56) (ln := 3) (a := 97) (b := 0) (z := 0) (by decide +kernel) rfl rfl (by decide) rfl (show (2 : Nat) = pm_na 97 by decide +kernel) (Nat.le_of_ble_eq_true rfl) (show (2 : Nat) ≤ pm_n 97 by decide +kernel) (rcv_x 9 h (hS _ _ sx_1) (by decide +kernel)) (xt_takesWord_ok (d := d + 2) hS h e2 (fun w3 h4 => ?_))
  show wp _ 51 71 [(0, .ref 13), (1, .ref 1), (2, .int (Int32.ofInt x2)), (4, .int (Int32.ofInt x4)), (5, .int (Int32.ofInt x5))] [.int (Int32.ofInt o1.1)] w3 _
  refine wp_g 2 (pc1 := 73) (lv1 := [(3, .int (Int32.ofInt o1.1)), (0, .ref 13), (1, .ref 1), (2, .int (Int32.ofInt x2)), (4, .int (Int32.ofInt x4)), (5, .int (Int32.ofInt x5))]) (st1 := [.int (Int32.ofInt o1.1)]) (w1 := w3) rfl ?_
  refine wz_ne (oo := 4) (ln := 3) (a := 77) (b := 0) (zz := 0) (by decide +kernel) (fun h5 => ?_) (fun h5 => ?_)
  · have hx := ite_f h5 hx
    refine wp_g 2 (pc1 := 8) (lv1 := [(5, .int (Int32.ofInt (x5 + 1))), (3, .int (Int32.ofInt o1.1)), (0, .ref 13), (1, .ref 1), (2, .int (Int32.ofInt x2)), (4, .int (Int32.ofInt x4))]) (st1 := []) (w1 := w3) (by simp only [Int32.ofInt_add, Int32.ofInt_sub, Int32.ofInt_mul, Int32.ofInt_neg, p_and, p_or, p_xor, p_shl, p_shr, p_usr, p_w8, p_c16, p_lI, q_and, q_or, q_shl, q_shr, q_w32, Int64.ofInt_add, Int64.ofInt_sub, Int64.ofInt_mul, p_mx, p_mn, q_mx, q_mn]; rfl) ?_
    refine wp_lv (lv1 := [(0, .ref 13), (1, .ref 1), (2, .int (Int32.ofInt x2)), (3, .int (Int32.ofInt o1.1)), (4, .int (Int32.ofInt x4)), (5, .int (Int32.ofInt (x5 + 1)))]) (lsub_p [2, 3, 4, 1, 5, 0] rfl rfl rfl) ?_
    cases hx
    exact kn _ _ rfl h4
  · have hx := ite_t h5 hx
    refine wp_rt (i := .return_) (r := none) (ln := 1) (a := 0) (b := 0) (z := 0) (by decide +kernel) rfl (ret_v (by decide +kernel)) ?_
    cases hx
    exact (kc _ rfl).2 _ _ rfl h4
noncomputable def xr_readTest_b8_j39 (F51 : Hp → Int → Option Hp) (F52 : Hp → Int → Option Hp) (s : Hp) (x2 : Int) (x3 : Int) (x5 : Int) : Option ((Int × Int × Int × Hp) ⊕ ((Int × Int × Int × Hp) ⊕ Hp)) :=
  (xt_takesWord s 5).bind fun o1 => if w32 o1.1 = 0 then if w32 x3 = 0 then xr_readTest_b8_j65 F51 F52 o1.2 x2 o1.1 x5 else (xr_addStep o1.2 16).bind fun o7 => xr_readTest_b8_j65 F51 F52 o7 x2 o1.1 x5 else some (.inl (x3, o1.1, x5 + 1, o1.2))
set_option maxRecDepth 100000 in
theorem xr_readTest_b8_j39_ok {d : Nat} {P : Option Value → pm_H → Prop} {w : pm_H} {sh : Shp} {w0 : pm_H} {s : Hp} (hS : St sh) {F51 : Hp → Int → Option Hp} (hF51 : ∀ (w : pm_H) (s : Hp) (p2 : Int) (o : Hp) (P : Option Value → pm_H → Prop), Rw sh w0 s w → F51 s p2 = some o → (∀ w1, Rw sh w0 o w1 → P none w1) → wp (d + 10) 51 0 (lv_args 0 [.ref 13, .ref 1, .int (Int32.ofInt p2)]) [] w P) {F52 : Hp → Int → Option Hp} (hF52 : ∀ (w : pm_H) (s : Hp) (p2 : Int) (o : Hp) (P : Option Value → pm_H → Prop), Rw sh w0 s w → F52 s p2 = some o → (∀ w1, Rw sh w0 o w1 → P none w1) → wp (d + 10) 52 0 (lv_args 0 [.ref 13, .ref 1, .int (Int32.ofInt p2)]) [] w P) {x2 : Int} {x3 : Int} {x5 : Int} (h : Rw sh w0 s w) {o : ((Int × Int × Int × Hp) ⊕ ((Int × Int × Int × Hp) ⊕ Hp))} (hx : xr_readTest_b8_j39 F51 F52 s x2 x3 x5 = some o) (kn : ∀ (q : Int × Int × Int × Hp) w1, o = .inl q → Rw sh w0 q.2.2.2 w1 → wp (d + 11) 51 8 [(0, .ref 13), (1, .ref 1), (2, .int (Int32.ofInt x2)), (3, .int (Int32.ofInt q.1)), (4, .int (Int32.ofInt q.2.1)), (5, .int (Int32.ofInt q.2.2.1))] [] w1 P) (kc : ∀ (r : ((Int × Int × Int × Hp) ⊕ Hp)), o = .inr r → ((∀ q1 w1, r = .inl q1 → Rw sh w0 q1.2.2.2 w1 → wp (d + 11) 51 83 [(0, .ref 13), (1, .ref 1), (2, .int (Int32.ofInt x2)), (3, .int (Int32.ofInt q1.1)), (4, .int (Int32.ofInt q1.2.1)), (5, .int (Int32.ofInt q1.2.2.1))] [] w1 P) ∧ (∀ v1 w1, r = .inr v1 → Rw sh w0 v1 w1 → P none w1))) : wp (d + 11) 51 39 [(0, .ref 13), (1, .ref 1), (2, .int (Int32.ofInt x2)), (3, .int (Int32.ofInt x3)), (5, .int (Int32.ofInt x5))] [] w P := by
  unfold xr_readTest_b8_j39 at hx
  refine wp_g 2 (pc1 := 42) (lv1 := [(0, .ref 13), (1, .ref 1), (2, .int (Int32.ofInt x2)), (3, .int (Int32.ofInt x3)), (5, .int (Int32.ofInt x5))]) (st1 := [.retAddr 5, .ref 1]) (w1 := w) rfl ?_
  obtain ⟨o1, e2, hx⟩ := bd hx
  refine wp_cl [.ref 1, .retAddr 5] [] (i := .invokevirtual 56) (ln := 3) (a := 97) (b := 0) (z := 0) (by decide +kernel) rfl rfl (by decide) rfl (show (2 : Nat) = pm_na 97 by decide +kernel) (Nat.le_of_ble_eq_true rfl) (show (2 : Nat) ≤ pm_n 97 by decide +kernel) (rcv_x 9 h (hS _ _ sx_1) (by decide +kernel)) (xt_takesWord_ok (d := d + 2) hS h e2 (fun w3 h4 => ?_))
  show wp _ 51 45 [(0, .ref 13), (1, .ref 1), (2, .int (Int32.ofInt x2)), (3, .int (Int32.ofInt x3)), (5, .int (Int32.ofInt x5))] [.int (Int32.ofInt o1.1)] w3 _
  refine wp_g 2 (pc1 := 49) (lv1 := [(4, .int (Int32.ofInt o1.1)), (0, .ref 13), (1, .ref 1), (2, .int (Int32.ofInt x2)), (3, .int (Int32.ofInt x3)), (5, .int (Int32.ofInt x5))]) (st1 := [.int (Int32.ofInt o1.1)]) (w1 := w3) rfl ?_
  refine wz_eq (oo := 6) (ln := 3) (a := 55) (b := 0) (zz := 0) (by decide +kernel) (fun h5 => ?_) (fun h5 => ?_)
  · have hx := ite_t h5 hx
    refine wp_g 1 (pc1 := 56) (lv1 := [(4, .int (Int32.ofInt o1.1)), (0, .ref 13), (1, .ref 1), (2, .int (Int32.ofInt x2)), (3, .int (Int32.ofInt x3)), (5, .int (Int32.ofInt x5))]) (st1 := [.int (Int32.ofInt x3)]) (w1 := w3) rfl ?_
    refine wz_eq (oo := 9) (ln := 3) (a := 65) (b := 0) (zz := 0) (by decide +kernel) (fun h6 => ?_) (fun h6 => ?_)
    · have hx := ite_t h6 hx
      refine wp_lv (lv1 := [(0, .ref 13), (1, .ref 1), (2, .int (Int32.ofInt x2)), (4, .int (Int32.ofInt o1.1)), (5, .int (Int32.ofInt x5))]) (lsub_p [1, 2, 3, 0, 5] rfl rfl rfl) ?_
      exact xr_readTest_b8_j65_ok hS hF51 hF52 h4 hx kn kc
    · have hx := ite_f h6 hx
      refine wp_g 2 (pc1 := 62) (lv1 := [(4, .int (Int32.ofInt o1.1)), (0, .ref 13), (1, .ref 1), (2, .int (Int32.ofInt x2)), (3, .int (Int32.ofInt x3)), (5, .int (Int32.ofInt x5))]) (st1 := [.int (Int32.ofInt 16), .ref 13]) (w1 := w3) rfl ?_
      obtain ⟨o7, e8, hx⟩ := bd hx
      refine wp_cl [.ref 13, .int (Int32.ofInt 16)] [] (i := .invokevirtual 76) (ln := 3) (a := 59) (b := 0) (z := 0) (by decide +kernel) rfl rfl (by decide) rfl (show (2 : Nat) = pm_na 59 by decide +kernel) (Nat.le_of_ble_eq_true rfl) (show (2 : Nat) ≤ pm_n 59 by decide +kernel) (rcv_x 6 h4 (hS _ _ sx_13) (by decide +kernel)) (xr_addStep_ok (d := d + 10) hS h4 e8 (fun w9 h10 => ?_))
      show wp _ 51 65 [(4, .int (Int32.ofInt o1.1)), (0, .ref 13), (1, .ref 1), (2, .int (Int32.ofInt x2)), (3, .int (Int32.ofInt x3)), (5, .int (Int32.ofInt x5))] [] w9 _
      refine wp_lv (lv1 := [(0, .ref 13), (1, .ref 1), (2, .int (Int32.ofInt x2)), (4, .int (Int32.ofInt o1.1)), (5, .int (Int32.ofInt x5))]) (lsub_p [1, 2, 3, 0, 5] rfl rfl rfl) ?_
      exact xr_readTest_b8_j65_ok hS hF51 hF52 h10 hx kn kc
  · have hx := ite_f h5 hx
    refine wp_g 3 (pc1 := 8) (lv1 := [(5, .int (Int32.ofInt (x5 + 1))), (4, .int (Int32.ofInt o1.1)), (0, .ref 13), (1, .ref 1), (2, .int (Int32.ofInt x2)), (3, .int (Int32.ofInt x3))]) (st1 := []) (w1 := w3) (by simp only [Int32.ofInt_add, Int32.ofInt_sub, Int32.ofInt_mul, Int32.ofInt_neg, p_and, p_or, p_xor, p_shl, p_shr, p_usr, p_w8, p_c16, p_lI, q_and, q_or, q_shl, q_shr, q_w32, Int64.ofInt_add, Int64.ofInt_sub, Int64.ofInt_mul, p_mx, p_mn, q_mx, q_mn]; rfl) ?_
    refine wp_lv (lv1 := [(0, .ref 13), (1, .ref 1), (2, .int (Int32.ofInt x2)), (3, .int (Int32.ofInt x3)), (4, .int (Int32.ofInt o1.1)), (5, .int (Int32.ofInt (x5 + 1)))]) (lsub_p [2, 3, 4, 5, 1, 0] rfl rfl rfl) ?_
    cases hx
    exact kn _ _ rfl h4
noncomputable def xr_readTest_b8 (F51 : Hp → Int → Option Hp) (F52 : Hp → Int → Option Hp) (s : Hp) (x2 : Int) (x3 : Int) (x4 : Int) (x5 : Int) : Option ((Int × Int × Int × Hp) ⊕ ((Int × Int × Int × Hp) ⊕ Hp)) :=
  if w32 60 < w32 x5 then some (.inr (.inl (x3, x4, x5, s))) else (xt_failed s).bind fun o2 => if w32 o2 = 0 then (F52 s x2).bind fun o7 => if w32 x4 = 0 then xr_readTest_b8_j39 F51 F52 o7 x2 x3 x5 else (xr_addStep o7 15).bind fun o12 => xr_readTest_b8_j39 F51 F52 o12 x2 x3 x5 else some (.inr (.inl (x3, x4, x5, s)))
set_option maxRecDepth 100000 in
theorem xr_readTest_b8_ok {d : Nat} {P : Option Value → pm_H → Prop} {w : pm_H} {sh : Shp} {w0 : pm_H} {s : Hp} (hS : St sh) {F51 : Hp → Int → Option Hp} (hF51 : ∀ (w : pm_H) (s : Hp) (p2 : Int) (o : Hp) (P : Option Value → pm_H → Prop), Rw sh w0 s w → F51 s p2 = some o → (∀ w1, Rw sh w0 o w1 → P none w1) → wp (d + 10) 51 0 (lv_args 0 [.ref 13, .ref 1, .int (Int32.ofInt p2)]) [] w P) {F52 : Hp → Int → Option Hp} (hF52 : ∀ (w : pm_H) (s : Hp) (p2 : Int) (o : Hp) (P : Option Value → pm_H → Prop), Rw sh w0 s w → F52 s p2 = some o → (∀ w1, Rw sh w0 o w1 → P none w1) → wp (d + 10) 52 0 (lv_args 0 [.ref 13, .ref 1, .int (Int32.ofInt p2)]) [] w P) {x2 : Int} {x3 : Int} {x4 : Int} {x5 : Int} (h : Rw sh w0 s w) {o : ((Int × Int × Int × Hp) ⊕ ((Int × Int × Int × Hp) ⊕ Hp))} (hx : xr_readTest_b8 F51 F52 s x2 x3 x4 x5 = some o) (kn : ∀ (q : Int × Int × Int × Hp) w1, o = .inl q → Rw sh w0 q.2.2.2 w1 → wp (d + 11) 51 8 [(0, .ref 13), (1, .ref 1), (2, .int (Int32.ofInt x2)), (3, .int (Int32.ofInt q.1)), (4, .int (Int32.ofInt q.2.1)), (5, .int (Int32.ofInt q.2.2.1))] [] w1 P) (kc : ∀ (r : ((Int × Int × Int × Hp) ⊕ Hp)), o = .inr r → ((∀ q1 w1, r = .inl q1 → Rw sh w0 q1.2.2.2 w1 → wp (d + 11) 51 83 [(0, .ref 13), (1, .ref 1), (2, .int (Int32.ofInt x2)), (3, .int (Int32.ofInt q1.1)), (4, .int (Int32.ofInt q1.2.1)), (5, .int (Int32.ofInt q1.2.2.1))] [] w1 P) ∧ (∀ v1 w1, r = .inr v1 → Rw sh w0 v1 w1 → P none w1))) : wp (d + 11) 51 8 [(0, .ref 13), (1, .ref 1), (2, .int (Int32.ofInt x2)), (3, .int (Int32.ofInt x3)), (4, .int (Int32.ofInt x4)), (5, .int (Int32.ofInt x5))] [] w P := by
  unfold xr_readTest_b8 at hx
  refine wp_g 2 (pc1 := 12) (lv1 := [(0, .ref 13), (1, .ref 1), (2, .int (Int32.ofInt x2)), (3, .int (Int32.ofInt x3)), (4, .int (Int32.ofInt x4)), (5, .int (Int32.ofInt x5))]) (st1 := [.int (Int32.ofInt 60), .int (Int32.ofInt x5)]) (w1 := w) rfl ?_
  refine wx_gt (oo := 71) (ln := 3) (a := 83) (b := 0) (zz := 0) (by decide +kernel) (fun h1 => ?_) (fun h1 => ?_)
  · have hx := ite_t h1 hx
    cases hx
    exact (kc _ rfl).1 _ _ rfl h
  · have hx := ite_f h1 hx
    refine wp_g 1 (pc1 := 16) (lv1 := [(0, .ref 13), (1, .ref 1), (2, .int (Int32.ofInt x2)), (3, .int (Int32.ofInt x3)), (4, .int (Int32.ofInt x4)), (5, .int (Int32.ofInt x5))]) (st1 := [.ref 1]) (w1 := w) rfl ?_
    obtain ⟨o2, e3, hx⟩ := bd hx
    refine wp_cl [.ref 1] [] (i := .invokevirtual 27) (ln := 3) (a := 86) (b := 0) (z := 0) (by decide +kernel) rfl rfl (by decide) rfl (show (1 : Nat) = pm_na 86 by decide +kernel) (Nat.le_of_ble_eq_true rfl) (show (1 : Nat) ≤ pm_n 86 by decide +kernel) (rcv_x 9 h (hS _ _ sx_1) (by decide +kernel)) (xt_failed_ok (d := d + 10) hS h e3 ?_)
    show wp _ 51 19 [(0, .ref 13), (1, .ref 1), (2, .int (Int32.ofInt x2)), (3, .int (Int32.ofInt x3)), (4, .int (Int32.ofInt x4)), (5, .int (Int32.ofInt x5))] [.int (Int32.ofInt o2)] w _
    refine wz_ne (oo := 64) (ln := 3) (a := 83) (b := 0) (zz := 0) (by decide +kernel) (fun h6 => ?_) (fun h6 => ?_)
    · have hx := ite_f h6 hx
      cases hx
      exact (kc _ rfl).1 _ _ rfl h
    · have hx := ite_t h6 hx
      refine wp_g 3 (pc1 := 25) (lv1 := [(0, .ref 13), (1, .ref 1), (2, .int (Int32.ofInt x2)), (3, .int (Int32.ofInt x3)), (4, .int (Int32.ofInt x4)), (5, .int (Int32.ofInt x5))]) (st1 := [.int (Int32.ofInt x2), .ref 1, .ref 13]) (w1 := w) rfl ?_
      obtain ⟨o7, e8, hx⟩ := bd hx
      refine wp_cl [.ref 13, .ref 1, .int (Int32.ofInt x2)] [] (i := .invokevirtual 80) (ln := 3) (a := 52) (b := 0) (z := 0) (by decide +kernel) rfl rfl (by decide) rfl (show (3 : Nat) = pm_na 52 by decide +kernel) (Nat.le_of_ble_eq_true rfl) (show (3 : Nat) ≤ pm_n 52 by decide +kernel) (rcv_x 6 h (hS _ _ sx_13) (by decide +kernel)) (hF52 _ _ x2 _ _ h e8 (fun w9 h10 => ?_))
      show wp _ 51 28 [(0, .ref 13), (1, .ref 1), (2, .int (Int32.ofInt x2)), (3, .int (Int32.ofInt x3)), (4, .int (Int32.ofInt x4)), (5, .int (Int32.ofInt x5))] [] w9 _
      refine wp_g 1 (pc1 := 30) (lv1 := [(0, .ref 13), (1, .ref 1), (2, .int (Int32.ofInt x2)), (3, .int (Int32.ofInt x3)), (4, .int (Int32.ofInt x4)), (5, .int (Int32.ofInt x5))]) (st1 := [.int (Int32.ofInt x4)]) (w1 := w9) rfl ?_
      refine wz_eq (oo := 9) (ln := 3) (a := 39) (b := 0) (zz := 0) (by decide +kernel) (fun h11 => ?_) (fun h11 => ?_)
      · have hx := ite_t h11 hx
        refine wp_lv (lv1 := [(0, .ref 13), (1, .ref 1), (2, .int (Int32.ofInt x2)), (3, .int (Int32.ofInt x3)), (5, .int (Int32.ofInt x5))]) (lsub_p [0, 1, 2, 3, 5] rfl rfl rfl) ?_
        exact xr_readTest_b8_j39_ok hS hF51 hF52 h10 hx kn kc
      · have hx := ite_f h11 hx
        refine wp_g 2 (pc1 := 36) (lv1 := [(0, .ref 13), (1, .ref 1), (2, .int (Int32.ofInt x2)), (3, .int (Int32.ofInt x3)), (4, .int (Int32.ofInt x4)), (5, .int (Int32.ofInt x5))]) (st1 := [.int (Int32.ofInt 15), .ref 13]) (w1 := w9) rfl ?_
        obtain ⟨o12, e13, hx⟩ := bd hx
        refine wp_cl [.ref 13, .int (Int32.ofInt 15)] [] (i := .invokevirtual 76) (ln := 3) (a := 59) (b := 0) (z := 0) (by decide +kernel) rfl rfl (by decide) rfl (show (2 : Nat) = pm_na 59 by decide +kernel) (Nat.le_of_ble_eq_true rfl) (show (2 : Nat) ≤ pm_n 59 by decide +kernel) (rcv_x 6 h10 (hS _ _ sx_13) (by decide +kernel)) (xr_addStep_ok (d := d + 10) hS h10 e13 (fun w14 h15 => ?_))
        show wp _ 51 39 [(0, .ref 13), (1, .ref 1), (2, .int (Int32.ofInt x2)), (3, .int (Int32.ofInt x3)), (4, .int (Int32.ofInt x4)), (5, .int (Int32.ofInt x5))] [] w14 _
        refine wp_lv (lv1 := [(0, .ref 13), (1, .ref 1), (2, .int (Int32.ofInt x2)), (3, .int (Int32.ofInt x3)), (5, .int (Int32.ofInt x5))]) (lsub_p [0, 1, 2, 3, 5] rfl rfl rfl) ?_
        exact xr_readTest_b8_j39_ok hS hF51 hF52 h15 hx kn kc
/-- RuleReader.readTest (LText;I)V -/
noncomputable def xr_readTest_b (F51 : Hp → Int → Option Hp) (F52 : Hp → Int → Option Hp) (s : Hp) (p2 : Int) : Option Hp :=
  (lp (fun (q : Int × Int × Int × Hp) => xr_readTest_b8 F51 F52 q.2.2.2 p2 q.1 q.2.1 q.2.2.1) (0, 0, 0, s)).bind fun q1 => q1.elim (fun q5 => some q5.2.2.2) (fun r => some r)
set_option maxRecDepth 100000 in
theorem xr_readTest_b_ok {d : Nat} {P : Option Value → pm_H → Prop} {w : pm_H} {sh : Shp} {w0 : pm_H} {s : Hp} (hS : St sh) {F51 : Hp → Int → Option Hp} (hF51 : ∀ (w : pm_H) (s : Hp) (p2 : Int) (o : Hp) (P : Option Value → pm_H → Prop), Rw sh w0 s w → F51 s p2 = some o → (∀ w1, Rw sh w0 o w1 → P none w1) → wp (d + 10) 51 0 (lv_args 0 [.ref 13, .ref 1, .int (Int32.ofInt p2)]) [] w P) {F52 : Hp → Int → Option Hp} (hF52 : ∀ (w : pm_H) (s : Hp) (p2 : Int) (o : Hp) (P : Option Value → pm_H → Prop), Rw sh w0 s w → F52 s p2 = some o → (∀ w1, Rw sh w0 o w1 → P none w1) → wp (d + 10) 52 0 (lv_args 0 [.ref 13, .ref 1, .int (Int32.ofInt p2)]) [] w P) {p2 : Int} (h : Rw sh w0 s w) {o : Hp} (hx : xr_readTest_b F51 F52 s p2 = some o) (kr : ∀ w1, Rw sh w0 o w1 → P none w1) : wp (d + 11) 51 0 (lv_args 0 [.ref 13, .ref 1, .int (Int32.ofInt p2)]) [] w P := by
  show wp _ 51 0 [(0, .ref 13), (1, .ref 1), (2, .int (Int32.ofInt p2))] [] w _
  unfold xr_readTest_b at hx
  refine wp_g 6 (pc1 := 8) (lv1 := [(5, .int (Int32.ofInt 0)), (4, .int (Int32.ofInt 0)), (3, .int (Int32.ofInt 0)), (0, .ref 13), (1, .ref 1), (2, .int (Int32.ofInt p2))]) (st1 := []) (w1 := w) rfl ?_
  refine wp_lv (lv1 := [(0, .ref 13), (1, .ref 1), (2, .int (Int32.ofInt p2)), (3, .int (Int32.ofInt 0)), (4, .int (Int32.ofInt 0)), (5, .int (Int32.ofInt 0))]) (lsub_p [3, 4, 5, 2, 1, 0] rfl rfl rfl) ?_
  obtain ⟨q1, e2, hx⟩ := bd hx
  refine wp_lp (σ := Int × Int × Int × Hp) (ρ := ((Int × Int × Int × Hp) ⊕ Hp)) (B := fun q => xr_readTest_b8 F51 F52 q.2.2.2 p2 q.1 q.2.1 q.2.2.1) (R := fun q w' => Rw sh w0 q.2.2.2 w') (C := fun r => (∀ q1 w1, r = .inl q1 → Rw sh w0 q1.2.2.2 w1 → wp (d + 11) 51 83 [(0, .ref 13), (1, .ref 1), (2, .int (Int32.ofInt p2)), (3, .int (Int32.ofInt q1.1)), (4, .int (Int32.ofInt q1.2.1)), (5, .int (Int32.ofInt q1.2.2.1))] [] w1 P) ∧ (∀ v1 w1, r = .inr v1 → Rw sh w0 v1 w1 → P none w1)) (lv := fun q => [(0, .ref 13), (1, .ref 1), (2, .int (Int32.ofInt p2)), (3, .int (Int32.ofInt q.1)), (4, .int (Int32.ofInt q.2.1)), (5, .int (Int32.ofInt q.2.2.1))]) (hd := 8) (fun q w' o hR hb kn kc => xr_readTest_b8_ok hS hF51 hF52 hR hb kn kc) _ _ _ e2 h ?_
  refine ⟨?_, fun v6 w1 hs h1 => by subst hs; cases (se_r hx); exact kr _ h1⟩
  intro q5 w3 hs h4
  subst hs
  replace hx := se_l hx
  show wp _ 51 83 [(0, .ref 13), (1, .ref 1), (2, .int (Int32.ofInt p2)), (3, .int (Int32.ofInt q5.1)), (4, .int (Int32.ofInt q5.2.1)), (5, .int (Int32.ofInt q5.2.2.1))] [] w3 _
  refine wp_rt (i := .return_) (r := none) (ln := 1) (a := 0) (b := 0) (z := 0) (by decide +kernel) rfl (ret_v (by decide +kernel)) ?_
  cases hx
  exact kr _ h4
noncomputable def RC51  : Nat → ((Hp → Int → Option Hp) × (Hp → Int → Option Hp))
  | 0 => (fun _ _ => none, fun _ _ => none)
  | n + 1 => (fun s p2 => xr_readTest_b (RC51 n).1 (RC51 n).2  s p2, fun s p2 => xr_readFact_b (RC51 n).1 (RC51 n).2  s p2)
theorem RC51_ok {sh : Shp} {w0 : pm_H} (hS : St sh) : ∀ n d : Nat, (∀ (w : pm_H) (s : Hp) (p2 : Int) (o : Hp) (P : Option Value → pm_H → Prop), Rw sh w0 s w → (RC51 n).1 s p2 = some o → (∀ w1, Rw sh w0 o w1 → P none w1) → wp (d + 10 + n) 51 0 (lv_args 0 [.ref 13, .ref 1, .int (Int32.ofInt p2)]) [] w P) ∧ (∀ (w : pm_H) (s : Hp) (p2 : Int) (o : Hp) (P : Option Value → pm_H → Prop), Rw sh w0 s w → (RC51 n).2 s p2 = some o → (∀ w1, Rw sh w0 o w1 → P none w1) → wp (d + 10 + n) 52 0 (lv_args 0 [.ref 13, .ref 1, .int (Int32.ofInt p2)]) [] w P)
  | 0, d => ⟨fun w s p2 o P h hx kr => (by cases hx), fun w s p2 o P h hx kr => (by cases hx)⟩
  | n + 1, d => by
    have ih := RC51_ok (w0 := w0) hS n d
    have e : d + 10 + n = d + n + 10 := by omega
    have e2 : d + 10 + (n + 1) = d + n + (10 + 1) := by omega
    rw [e] at ih
    rw [e2]
    exact ⟨fun w s p2 o P h hx kr => xr_readTest_b_ok (d := d + n) hS ih.1 ih.2 h hx kr, fun w s p2 o P h hx kr => xr_readFact_b_ok (d := d + n) hS ih.1 ih.2 h hx kr⟩
/-- RuleReader.readTest (LText;I)V -/
noncomputable def xr_readTest (s : Hp) (p2 : Int) : Option Hp := (RC51 40).1 s p2
theorem xr_readTest_ok {d : Nat} {P : Option Value → pm_H → Prop} {w : pm_H} {sh : Shp} {w0 : pm_H} {s : Hp} (hS : St sh) {p2 : Int} (h : Rw sh w0 s w) {o : Hp} (hx : xr_readTest s p2 = some o) (kr : ∀ w1, Rw sh w0 o w1 → P none w1) : wp (d + 50) 51 0 (lv_args 0 [.ref 13, .ref 1, .int (Int32.ofInt p2)]) [] w P := (RC51_ok hS 40 d).1 w s p2 _ P h hx kr
/-- RuleReader.readFact (LText;I)V -/
noncomputable def xr_readFact (s : Hp) (p2 : Int) : Option Hp := (RC51 40).2 s p2
theorem xr_readFact_ok {d : Nat} {P : Option Value → pm_H → Prop} {w : pm_H} {sh : Shp} {w0 : pm_H} {s : Hp} (hS : St sh) {p2 : Int} (h : Rw sh w0 s w) {o : Hp} (hx : xr_readFact s p2 = some o) (kr : ∀ w1, Rw sh w0 o w1 → P none w1) : wp (d + 50) 52 0 (lv_args 0 [.ref 13, .ref 1, .int (Int32.ofInt p2)]) [] w P := (RC51_ok hS 40 d).2 w s p2 _ P h hx kr
/-- RuleReader.readClause (LText;I)V -/
noncomputable def xr_readClause (s : Hp) (p2 : Int) : Option Hp :=
  (xt_where s).bind fun o1 => (xt_takesWord s 1).bind fun o5 => if w32 o5.1 = 0 then (xt_failHere o5.2).bind fun o36 => some o36 else if w32 p2 < w32 12 then (xr_readSum o5.2).bind fun o11 => (xt_takesWord o11 3).bind fun o15 => if w32 o15.1 = 0 then (xr_addStep o15.2 3).bind fun o20 => some o20 else (xr_readTest o15.2 0).bind fun o24 => (xr_addStep o24 4).bind fun o28 => some o28 else (xt_fail o5.2 o1 4).bind fun o32 => some o32
set_option maxRecDepth 100000 in
theorem xr_readClause_ok {d : Nat} {P : Option Value → pm_H → Prop} {w : pm_H} {sh : Shp} {w0 : pm_H} {s : Hp} (hS : St sh) {p2 : Int} (h : Rw sh w0 s w) {o : Hp} (hx : xr_readClause s p2 = some o) (kr : ∀ w1, Rw sh w0 o w1 → P none w1) : wp (d + 51) 50 0 (lv_args 0 [.ref 13, .ref 1, .int (Int32.ofInt p2)]) [] w P := by
  show wp _ 50 0 [(0, .ref 13), (1, .ref 1), (2, .int (Int32.ofInt p2))] [] w _
  unfold xr_readClause at hx
  refine wp_g 1 (pc1 := 1) (lv1 := [(0, .ref 13), (1, .ref 1), (2, .int (Int32.ofInt p2))]) (st1 := [.ref 1]) (w1 := w) rfl ?_
  obtain ⟨o1, e2, hx⟩ := bd hx
  refine wp_cl [.ref 1] [] (i := .invokevirtual 51) (ln := 3) (a := 89) (b := 0) (z := 0) (by decide +kernel) rfl rfl (by decide) rfl (show (1 : Nat) = pm_na 89 by decide +kernel) (Nat.le_of_ble_eq_true rfl) (show (1 : Nat) ≤ pm_n 89 by decide +kernel) (rcv_x 9 h (hS _ _ sx_1) (by decide +kernel)) (xt_where_ok (d := d + 50) hS h e2 ?_)
  show wp _ 50 4 [(0, .ref 13), (1, .ref 1), (2, .int (Int32.ofInt p2))] [.int (Int32.ofInt o1)] w _
  refine wp_g 3 (pc1 := 8) (lv1 := [(3, .int (Int32.ofInt o1)), (0, .ref 13), (1, .ref 1), (2, .int (Int32.ofInt p2))]) (st1 := [.retAddr 1, .ref 1]) (w1 := w) rfl ?_
  obtain ⟨o5, e6, hx⟩ := bd hx
  refine wp_cl [.ref 1, .retAddr 1] [] (i := .invokevirtual 56) (ln := 3) (a := 97) (b := 0) (z := 0) (by decide +kernel) rfl rfl (by decide) rfl (show (2 : Nat) = pm_na 97 by decide +kernel) (Nat.le_of_ble_eq_true rfl) (show (2 : Nat) ≤ pm_n 97 by decide +kernel) (rcv_x 9 h (hS _ _ sx_1) (by decide +kernel)) (xt_takesWord_ok (d := d + 42) hS h e6 (fun w7 h8 => ?_))
  show wp _ 50 11 [(3, .int (Int32.ofInt o1)), (0, .ref 13), (1, .ref 1), (2, .int (Int32.ofInt p2))] [.int (Int32.ofInt o5.1)] w7 _
  refine wz_ne (oo := 8) (ln := 3) (a := 19) (b := 0) (zz := 0) (by decide +kernel) (fun h9 => ?_) (fun h9 => ?_)
  · have hx := ite_f h9 hx
    refine wp_g 2 (pc1 := 22) (lv1 := [(3, .int (Int32.ofInt o1)), (0, .ref 13), (1, .ref 1), (2, .int (Int32.ofInt p2))]) (st1 := [.int (Int32.ofInt 12), .int (Int32.ofInt p2)]) (w1 := w7) rfl ?_
    refine wx_lt (oo := 10) (ln := 3) (a := 32) (b := 0) (zz := 0) (by decide +kernel) (fun h10 => ?_) (fun h10 => ?_)
    · have hx := ite_t h10 hx
      refine wp_g 2 (pc1 := 34) (lv1 := [(3, .int (Int32.ofInt o1)), (0, .ref 13), (1, .ref 1), (2, .int (Int32.ofInt p2))]) (st1 := [.ref 1, .ref 13]) (w1 := w7) rfl ?_
      obtain ⟨o11, e12, hx⟩ := bd hx
      refine wp_cl [.ref 13, .ref 1] [] (i := .invokevirtual 67) (ln := 3) (a := 54) (b := 0) (z := 0) (by decide +kernel) rfl rfl (by decide) rfl (show (2 : Nat) = pm_na 54 by decide +kernel) (Nat.le_of_ble_eq_true rfl) (show (2 : Nat) ≤ pm_n 54 by decide +kernel) (rcv_x 6 h8 (hS _ _ sx_13) (by decide +kernel)) (xr_readSum_ok (d := d + 41) hS h8 e12 (fun w13 h14 => ?_))
      show wp _ 50 37 [(3, .int (Int32.ofInt o1)), (0, .ref 13), (1, .ref 1), (2, .int (Int32.ofInt p2))] [] w13 _
      refine wp_g 2 (pc1 := 40) (lv1 := [(3, .int (Int32.ofInt o1)), (0, .ref 13), (1, .ref 1), (2, .int (Int32.ofInt p2))]) (st1 := [.retAddr 3, .ref 1]) (w1 := w13) rfl ?_
      obtain ⟨o15, e16, hx⟩ := bd hx
      refine wp_cl [.ref 1, .retAddr 3] [] (i := .invokevirtual 56) (ln := 3) (a := 97) (b := 0) (z := 0) (by decide +kernel) rfl rfl (by decide) rfl (show (2 : Nat) = pm_na 97 by decide +kernel) (Nat.le_of_ble_eq_true rfl) (show (2 : Nat) ≤ pm_n 97 by decide +kernel) (rcv_x 9 h14 (hS _ _ sx_1) (by decide +kernel)) (xt_takesWord_ok (d := d + 42) hS h14 e16 (fun w17 h18 => ?_))
      show wp _ 50 43 [(3, .int (Int32.ofInt o1)), (0, .ref 13), (1, .ref 1), (2, .int (Int32.ofInt p2))] [.int (Int32.ofInt o15.1)] w17 _
      refine wz_eq (oo := 17) (ln := 3) (a := 60) (b := 0) (zz := 0) (by decide +kernel) (fun h19 => ?_) (fun h19 => ?_)
      · have hx := ite_t h19 hx
        refine wp_g 2 (pc1 := 62) (lv1 := [(3, .int (Int32.ofInt o1)), (0, .ref 13), (1, .ref 1), (2, .int (Int32.ofInt p2))]) (st1 := [.int (Int32.ofInt 3), .ref 13]) (w1 := w17) rfl ?_
        obtain ⟨o20, e21, hx⟩ := bd hx
        refine wp_cl [.ref 13, .int (Int32.ofInt 3)] [] (i := .invokevirtual 76) (ln := 3) (a := 59) (b := 0) (z := 0) (by decide +kernel) rfl rfl (by decide) rfl (show (2 : Nat) = pm_na 59 by decide +kernel) (Nat.le_of_ble_eq_true rfl) (show (2 : Nat) ≤ pm_n 59 by decide +kernel) (rcv_x 6 h18 (hS _ _ sx_13) (by decide +kernel)) (xr_addStep_ok (d := d + 50) hS h18 e21 (fun w22 h23 => ?_))
        show wp _ 50 65 [(3, .int (Int32.ofInt o1)), (0, .ref 13), (1, .ref 1), (2, .int (Int32.ofInt p2))] [] w22 _
        refine wp_rt (i := .return_) (r := none) (ln := 1) (a := 0) (b := 0) (z := 0) (by decide +kernel) rfl (ret_v (by decide +kernel)) ?_
        cases hx
        exact kr _ h23
      · have hx := ite_f h19 hx
        refine wp_g 3 (pc1 := 49) (lv1 := [(3, .int (Int32.ofInt o1)), (0, .ref 13), (1, .ref 1), (2, .int (Int32.ofInt p2))]) (st1 := [.int (Int32.ofInt 0), .ref 1, .ref 13]) (w1 := w17) rfl ?_
        obtain ⟨o24, e25, hx⟩ := bd hx
        refine wp_cl [.ref 13, .ref 1, .int (Int32.ofInt 0)] [] (i := .invokevirtual 73) (ln := 3) (a := 51) (b := 0) (z := 0) (by decide +kernel) rfl rfl (by decide) rfl (show (3 : Nat) = pm_na 51 by decide +kernel) (Nat.le_of_ble_eq_true rfl) (show (3 : Nat) ≤ pm_n 51 by decide +kernel) (rcv_x 6 h18 (hS _ _ sx_13) (by decide +kernel)) (xr_readTest_ok (d := d) hS h18 e25 (fun w26 h27 => ?_))
        show wp _ 50 52 [(3, .int (Int32.ofInt o1)), (0, .ref 13), (1, .ref 1), (2, .int (Int32.ofInt p2))] [] w26 _
        refine wp_g 2 (pc1 := 54) (lv1 := [(3, .int (Int32.ofInt o1)), (0, .ref 13), (1, .ref 1), (2, .int (Int32.ofInt p2))]) (st1 := [.int (Int32.ofInt 4), .ref 13]) (w1 := w26) rfl ?_
        obtain ⟨o28, e29, hx⟩ := bd hx
        refine wp_cl [.ref 13, .int (Int32.ofInt 4)] [] (i := .invokevirtual 76) (ln := 3) (a := 59) (b := 0) (z := 0) (by decide +kernel) rfl rfl (by decide) rfl (show (2 : Nat) = pm_na 59 by decide +kernel) (Nat.le_of_ble_eq_true rfl) (show (2 : Nat) ≤ pm_n 59 by decide +kernel) (rcv_x 6 h27 (hS _ _ sx_13) (by decide +kernel)) (xr_addStep_ok (d := d + 50) hS h27 e29 (fun w30 h31 => ?_))
        show wp _ 50 57 [(3, .int (Int32.ofInt o1)), (0, .ref 13), (1, .ref 1), (2, .int (Int32.ofInt p2))] [] w30 _
        refine wp_g 1 (pc1 := 65) (lv1 := [(3, .int (Int32.ofInt o1)), (0, .ref 13), (1, .ref 1), (2, .int (Int32.ofInt p2))]) (st1 := []) (w1 := w30) rfl ?_
        refine wp_rt (i := .return_) (r := none) (ln := 1) (a := 0) (b := 0) (z := 0) (by decide +kernel) rfl (ret_v (by decide +kernel)) ?_
        cases hx
        exact kr _ h31
    · have hx := ite_f h10 hx
      refine wp_g 3 (pc1 := 28) (lv1 := [(3, .int (Int32.ofInt o1)), (0, .ref 13), (1, .ref 1), (2, .int (Int32.ofInt p2))]) (st1 := [.int (Int32.ofInt 4), .int (Int32.ofInt o1), .ref 1]) (w1 := w7) rfl ?_
      obtain ⟨o32, e33, hx⟩ := bd hx
      refine wp_cl [.ref 1, .int (Int32.ofInt o1), .int (Int32.ofInt 4)] [] (i := .invokevirtual 63) (ln := 3) (a := 87) (b := 0) (z := 0) (by decide +kernel) rfl rfl (by decide) rfl (show (3 : Nat) = pm_na 87 by decide +kernel) (Nat.le_of_ble_eq_true rfl) (show (3 : Nat) ≤ pm_n 87 by decide +kernel) (rcv_x 9 h8 (hS _ _ sx_1) (by decide +kernel)) (xt_fail_ok (d := d + 50) hS h8 e33 (fun w34 h35 => ?_))
      show wp _ 50 31 [(3, .int (Int32.ofInt o1)), (0, .ref 13), (1, .ref 1), (2, .int (Int32.ofInt p2))] [] w34 _
      refine wp_rt (i := .return_) (r := none) (ln := 1) (a := 0) (b := 0) (z := 0) (by decide +kernel) rfl (ret_v (by decide +kernel)) ?_
      cases hx
      exact kr _ h35
  · have hx := ite_t h9 hx
    refine wp_g 1 (pc1 := 15) (lv1 := [(3, .int (Int32.ofInt o1)), (0, .ref 13), (1, .ref 1), (2, .int (Int32.ofInt p2))]) (st1 := [.ref 1]) (w1 := w7) rfl ?_
    obtain ⟨o36, e37, hx⟩ := bd hx
    refine wp_cl [.ref 1] [] (i := .invokevirtual 60) (ln := 3) (a := 88) (b := 0) (z := 0) (by decide +kernel) rfl rfl (by decide) rfl (show (1 : Nat) = pm_na 88 by decide +kernel) (Nat.le_of_ble_eq_true rfl) (show (1 : Nat) ≤ pm_n 88 by decide +kernel) (rcv_x 9 h8 (hS _ _ sx_1) (by decide +kernel)) (xt_failHere_ok (d := d + 49) hS h8 e37 (fun w38 h39 => ?_))
    show wp _ 50 18 [(3, .int (Int32.ofInt o1)), (0, .ref 13), (1, .ref 1), (2, .int (Int32.ofInt p2))] [] w38 _
    refine wp_rt (i := .return_) (r := none) (ln := 1) (a := 0) (b := 0) (z := 0) (by decide +kernel) rfl (ret_v (by decide +kernel)) ?_
    cases hx
    exact kr _ h39
noncomputable def xr_read_b16 (s : Hp) (x2 : Int) : Option ((Int × Hp) ⊕ ((Int × Hp) ⊕ (Int × Hp))) :=
  if w32 12 < w32 x2 then some (.inr (.inl (x2, s))) else (xt_failed s).bind fun o2 => if w32 o2 = 0 then (xr_readClause s x2).bind fun o7 => (xt_ended o7).bind fun o11 => if w32 o11 = 0 then (xt_needSign o7 59).bind fun o16 => some (.inl (x2 + 1, o16)) else (xt_fault o7).bind fun o20 => some (.inr (.inr (o20, o7))) else some (.inr (.inl (x2, s)))
set_option maxRecDepth 100000 in
theorem xr_read_b16_ok {d : Nat} {P : Option Value → pm_H → Prop} {w : pm_H} {sh : Shp} {w0 : pm_H} {s : Hp} (hS : St sh) {x2 : Int} (h : Rw sh w0 s w) {o : ((Int × Hp) ⊕ ((Int × Hp) ⊕ (Int × Hp)))} (hx : xr_read_b16 s x2 = some o) (kn : ∀ (q : Int × Hp) w1, o = .inl q → Rw sh w0 q.2 w1 → wp (d + 52) 48 16 [(0, .ref 13), (1, .ref 1), (2, .int (Int32.ofInt q.1))] [] w1 P) (kc : ∀ (r : ((Int × Hp) ⊕ (Int × Hp))), o = .inr r → ((∀ q1 w1, r = .inl q1 → Rw sh w0 q1.2 w1 → wp (d + 52) 48 59 [(0, .ref 13), (1, .ref 1), (2, .int (Int32.ofInt q1.1))] [] w1 P) ∧ (∀ v1 w1, r = .inr v1 → Rw sh w0 v1.2 w1 → P (some (.int (Int32.ofInt v1.1))) w1))) : wp (d + 52) 48 16 [(0, .ref 13), (1, .ref 1), (2, .int (Int32.ofInt x2))] [] w P := by
  unfold xr_read_b16 at hx
  refine wp_g 2 (pc1 := 19) (lv1 := [(0, .ref 13), (1, .ref 1), (2, .int (Int32.ofInt x2))]) (st1 := [.int (Int32.ofInt 12), .int (Int32.ofInt x2)]) (w1 := w) rfl ?_
  refine wx_gt (oo := 40) (ln := 3) (a := 59) (b := 0) (zz := 0) (by decide +kernel) (fun h1 => ?_) (fun h1 => ?_)
  · have hx := ite_t h1 hx
    cases hx
    exact (kc _ rfl).1 _ _ rfl h
  · have hx := ite_f h1 hx
    refine wp_g 1 (pc1 := 23) (lv1 := [(0, .ref 13), (1, .ref 1), (2, .int (Int32.ofInt x2))]) (st1 := [.ref 1]) (w1 := w) rfl ?_
    obtain ⟨o2, e3, hx⟩ := bd hx
    refine wp_cl [.ref 1] [] (i := .invokevirtual 27) (ln := 3) (a := 86) (b := 0) (z := 0) (by decide +kernel) rfl rfl (by decide) rfl (show (1 : Nat) = pm_na 86 by decide +kernel) (Nat.le_of_ble_eq_true rfl) (show (1 : Nat) ≤ pm_n 86 by decide +kernel) (rcv_x 9 h (hS _ _ sx_1) (by decide +kernel)) (xt_failed_ok (d := d + 51) hS h e3 ?_)
    show wp _ 48 26 [(0, .ref 13), (1, .ref 1), (2, .int (Int32.ofInt x2))] [.int (Int32.ofInt o2)] w _
    refine wz_ne (oo := 33) (ln := 3) (a := 59) (b := 0) (zz := 0) (by decide +kernel) (fun h6 => ?_) (fun h6 => ?_)
    · have hx := ite_f h6 hx
      cases hx
      exact (kc _ rfl).1 _ _ rfl h
    · have hx := ite_t h6 hx
      refine wp_g 3 (pc1 := 32) (lv1 := [(0, .ref 13), (1, .ref 1), (2, .int (Int32.ofInt x2))]) (st1 := [.int (Int32.ofInt x2), .ref 1, .ref 13]) (w1 := w) rfl ?_
      obtain ⟨o7, e8, hx⟩ := bd hx
      refine wp_cl [.ref 13, .ref 1, .int (Int32.ofInt x2)] [] (i := .invokevirtual 31) (ln := 3) (a := 50) (b := 0) (z := 0) (by decide +kernel) rfl rfl (by decide) rfl (show (3 : Nat) = pm_na 50 by decide +kernel) (Nat.le_of_ble_eq_true rfl) (show (3 : Nat) ≤ pm_n 50 by decide +kernel) (rcv_x 6 h (hS _ _ sx_13) (by decide +kernel)) (xr_readClause_ok (d := d) hS h e8 (fun w9 h10 => ?_))
      show wp _ 48 35 [(0, .ref 13), (1, .ref 1), (2, .int (Int32.ofInt x2))] [] w9 _
      refine wp_g 1 (pc1 := 36) (lv1 := [(0, .ref 13), (1, .ref 1), (2, .int (Int32.ofInt x2))]) (st1 := [.ref 1]) (w1 := w9) rfl ?_
      obtain ⟨o11, e12, hx⟩ := bd hx
      refine wp_cl [.ref 1] [] (i := .invokevirtual 35) (ln := 3) (a := 90) (b := 0) (z := 0) (by decide +kernel) rfl rfl (by decide) rfl (show (1 : Nat) = pm_na 90 by decide +kernel) (Nat.le_of_ble_eq_true rfl) (show (1 : Nat) ≤ pm_n 90 by decide +kernel) (rcv_x 9 h10 (hS _ _ sx_1) (by decide +kernel)) (xt_ended_ok (d := d + 51) hS h10 e12 ?_)
      show wp _ 48 39 [(0, .ref 13), (1, .ref 1), (2, .int (Int32.ofInt x2))] [.int (Int32.ofInt o11)] w9 _
      refine wz_eq (oo := 8) (ln := 3) (a := 47) (b := 0) (zz := 0) (by decide +kernel) (fun h15 => ?_) (fun h15 => ?_)
      · have hx := ite_t h15 hx
        refine wp_g 2 (pc1 := 50) (lv1 := [(0, .ref 13), (1, .ref 1), (2, .int (Int32.ofInt x2))]) (st1 := [.int (Int32.ofInt 59), .ref 1]) (w1 := w9) rfl ?_
        obtain ⟨o16, e17, hx⟩ := bd hx
        refine wp_cl [.ref 1, .int (Int32.ofInt 59)] [] (i := .invokevirtual 42) (ln := 3) (a := 93) (b := 0) (z := 0) (by decide +kernel) rfl rfl (by decide) rfl (show (2 : Nat) = pm_na 93 by decide +kernel) (Nat.le_of_ble_eq_true rfl) (show (2 : Nat) ≤ pm_n 93 by decide +kernel) (rcv_x 9 h10 (hS _ _ sx_1) (by decide +kernel)) (xt_needSign_ok (d := d + 49) hS h10 e17 (fun w18 h19 => ?_))
        show wp _ 48 53 [(0, .ref 13), (1, .ref 1), (2, .int (Int32.ofInt x2))] [] w18 _
        refine wp_g 2 (pc1 := 16) (lv1 := [(2, .int (Int32.ofInt (x2 + 1))), (0, .ref 13), (1, .ref 1)]) (st1 := []) (w1 := w18) (by simp only [Int32.ofInt_add, Int32.ofInt_sub, Int32.ofInt_mul, Int32.ofInt_neg, p_and, p_or, p_xor, p_shl, p_shr, p_usr, p_w8, p_c16, p_lI, q_and, q_or, q_shl, q_shr, q_w32, Int64.ofInt_add, Int64.ofInt_sub, Int64.ofInt_mul, p_mx, p_mn, q_mx, q_mn]; rfl) ?_
        refine wp_lv (lv1 := [(0, .ref 13), (1, .ref 1), (2, .int (Int32.ofInt (x2 + 1)))]) (lsub_p [1, 2, 0] rfl rfl rfl) ?_
        cases hx
        exact kn _ _ rfl h19
      · have hx := ite_f h15 hx
        refine wp_g 1 (pc1 := 43) (lv1 := [(0, .ref 13), (1, .ref 1), (2, .int (Int32.ofInt x2))]) (st1 := [.ref 1]) (w1 := w9) rfl ?_
        obtain ⟨o20, e21, hx⟩ := bd hx
        refine wp_cl [.ref 1] [] (i := .invokevirtual 38) (ln := 3) (a := 85) (b := 0) (z := 0) (by decide +kernel) rfl rfl (by decide) rfl (show (1 : Nat) = pm_na 85 by decide +kernel) (Nat.le_of_ble_eq_true rfl) (show (1 : Nat) ≤ pm_n 85 by decide +kernel) (rcv_x 9 h10 (hS _ _ sx_1) (by decide +kernel)) (xt_fault_ok (d := d + 51) hS h10 e21 ?_)
        show wp _ 48 46 [(0, .ref 13), (1, .ref 1), (2, .int (Int32.ofInt x2))] [.int (Int32.ofInt o20)] w9 _
        refine wp_rt (i := .ireturn) (r := some (.int (Int32.ofInt o20))) (ln := 1) (a := 0) (b := 0) (z := 0) (by decide +kernel) rfl (ret_ok (by decide +kernel)) ?_
        cases hx
        exact (kc _ rfl).2 _ _ rfl h10
/-- RuleReader.read (LText;)I -/
noncomputable def xr_read (s : Hp) : Option (Int × Hp) :=
  (some (uh s 13 1 0)).bind fun s1 => (some (uh s1 13 2 0)).bind fun s5 => (xt_startReading s5).bind fun o9 => (lp (fun (q : Int × Hp) => xr_read_b16 q.2 q.1) (0, o9)).bind fun q13 => q13.elim (fun q17 => (xt_fault q17.2).bind fun o19 => some (o19, q17.2)) (fun r => some r)
set_option maxRecDepth 100000 in
theorem xr_read_ok {d : Nat} {P : Option Value → pm_H → Prop} {w : pm_H} {sh : Shp} {w0 : pm_H} {s : Hp} (hS : St sh) (h : Rw sh w0 s w) {o : Int × Hp} (hx : xr_read s = some o) (kr : ∀ w1, Rw sh w0 o.2 w1 → P (some (.int (Int32.ofInt o.1))) w1) : wp (d + 52) 48 0 (lv_args 0 [.ref 13, .ref 1]) [] w P := by
  show wp _ 48 0 [(0, .ref 13), (1, .ref 1)] [] w _
  unfold xr_read at hx
  refine wp_g 2 (pc1 := 2) (lv1 := [(0, .ref 13), (1, .ref 1)]) (st1 := [.int (Int32.ofInt 0), .ref 13]) (w1 := w) rfl ?_
  obtain ⟨s1, e2, hx⟩ := bd hx
  refine wx_pi (kf := 15) (ln := 3) (ci := 6) (b := 1) (zz := 0) (x := 13) (by decide +kernel) h (hS _ _ sx_13) rfl (by decide +kernel) e2 (fun w3 h4 => ?_)
  refine wp_g 2 (pc1 := 7) (lv1 := [(0, .ref 13), (1, .ref 1)]) (st1 := [.int (Int32.ofInt 0), .ref 13]) (w1 := w3) rfl ?_
  obtain ⟨s5, e6, hx⟩ := bd hx
  refine wx_pi (kf := 19) (ln := 3) (ci := 6) (b := 2) (zz := 0) (x := 13) (by decide +kernel) h4 (hS _ _ sx_13) rfl (by decide +kernel) e6 (fun w7 h8 => ?_)
  refine wp_g 1 (pc1 := 11) (lv1 := [(0, .ref 13), (1, .ref 1)]) (st1 := [.ref 1]) (w1 := w7) rfl ?_
  obtain ⟨o9, e10, hx⟩ := bd hx
  refine wp_cl [.ref 1] [] (i := .invokevirtual 22) (ln := 3) (a := 84) (b := 0) (z := 0) (by decide +kernel) rfl rfl (by decide) rfl (show (1 : Nat) = pm_na 84 by decide +kernel) (Nat.le_of_ble_eq_true rfl) (show (1 : Nat) ≤ pm_n 84 by decide +kernel) (rcv_x 9 h8 (hS _ _ sx_1) (by decide +kernel)) (xt_startReading_ok (d := d + 50) hS h8 e10 (fun w11 h12 => ?_))
  show wp _ 48 14 [(0, .ref 13), (1, .ref 1)] [] w11 _
  refine wp_g 2 (pc1 := 16) (lv1 := [(2, .int (Int32.ofInt 0)), (0, .ref 13), (1, .ref 1)]) (st1 := []) (w1 := w11) rfl ?_
  refine wp_lv (lv1 := [(0, .ref 13), (1, .ref 1), (2, .int (Int32.ofInt 0))]) (lsub_p [1, 2, 0] rfl rfl rfl) ?_
  obtain ⟨q13, e14, hx⟩ := bd hx
  refine wp_lp (σ := Int × Hp) (ρ := ((Int × Hp) ⊕ (Int × Hp))) (B := fun q => xr_read_b16 q.2 q.1) (R := fun q w' => Rw sh w0 q.2 w') (C := fun r => (∀ q1 w1, r = .inl q1 → Rw sh w0 q1.2 w1 → wp (d + 52) 48 59 [(0, .ref 13), (1, .ref 1), (2, .int (Int32.ofInt q1.1))] [] w1 P) ∧ (∀ v1 w1, r = .inr v1 → Rw sh w0 v1.2 w1 → P (some (.int (Int32.ofInt v1.1))) w1)) (lv := fun q => [(0, .ref 13), (1, .ref 1), (2, .int (Int32.ofInt q.1))]) (hd := 16) (fun q w' o hR hb kn kc => xr_read_b16_ok hS hR hb kn kc) _ _ _ e14 h12 ?_
  refine ⟨?_, fun v18 w1 hs h1 => by subst hs; cases (se_r hx); exact kr _ h1⟩
  intro q17 w15 hs h16
  subst hs
  replace hx := se_l hx
  show wp _ 48 59 [(0, .ref 13), (1, .ref 1), (2, .int (Int32.ofInt q17.1))] [] w15 _
  refine wp_g 1 (pc1 := 60) (lv1 := [(0, .ref 13), (1, .ref 1), (2, .int (Int32.ofInt q17.1))]) (st1 := [.ref 1]) (w1 := w15) rfl ?_
  obtain ⟨o19, e20, hx⟩ := bd hx
  refine wp_cl [.ref 1] [] (i := .invokevirtual 38) (ln := 3) (a := 85) (b := 0) (z := 0) (by decide +kernel) rfl rfl (by decide) rfl (show (1 : Nat) = pm_na 85 by decide +kernel) (Nat.le_of_ble_eq_true rfl) (show (1 : Nat) ≤ pm_n 85 by decide +kernel) (rcv_x 9 h16 (hS _ _ sx_1) (by decide +kernel)) (xt_fault_ok (d := d + 51) hS h16 e20 ?_)
  show wp _ 48 63 [(0, .ref 13), (1, .ref 1), (2, .int (Int32.ofInt q17.1))] [.int (Int32.ofInt o19)] w15 _
  refine wp_rt (i := .ireturn) (r := some (.int (Int32.ofInt o19))) (ln := 1) (a := 0) (b := 0) (z := 0) (by decide +kernel) rfl (ret_ok (by decide +kernel)) ?_
  cases hx
  exact kr _ h16
