/-! by program (wip/whole/gx.py) -/
/-- FoldDeeds.feed (IIIII)I -/
noncomputable def xf_feed (s : Hp) (p1 : Int) (p2 : Int) (p3 : Int) (p4 : Int) (p5 : Int) : Option (Int × Hp) :=
  if w32 380 < w32 (s 1 1) then some ((-1), s) else (xt_append s p1).bind fun o2 => (xt_append o2 p2).bind fun o6 => (xt_append o6 p3).bind fun o10 => (xt_append o10 p4).bind fun o14 => (xt_append o14 p5).bind fun o18 => some (o18 1 1, o18)
set_option maxRecDepth 100000 in
theorem xf_feed_ok {d : Nat} {P : Option Value → pm_H → Prop} {w : pm_H} {sh : Shp} {w0 : pm_H} {s : Hp} (hS : St sh) {p1 : Int} {p2 : Int} {p3 : Int} {p4 : Int} {p5 : Int} (h : Rw sh w0 s w) {o : Int × Hp} (hx : xf_feed s p1 p2 p3 p4 p5 = some o) (kr : ∀ w1, Rw sh w0 o.2 w1 → P (some (.int (Int32.ofInt o.1))) w1) : wp (d + 1) 107 0 (lv_args 0 [.ref 0, .int (Int32.ofInt p1), .int (Int32.ofInt p2), .int (Int32.ofInt p3), .int (Int32.ofInt p4), .int (Int32.ofInt p5)]) [] w P := by
  show wp _ 107 0 [(0, .ref 0), (1, .int (Int32.ofInt p1)), (2, .int (Int32.ofInt p2)), (3, .int (Int32.ofInt p3)), (4, .int (Int32.ofInt p4)), (5, .int (Int32.ofInt p5))] [] w _
  unfold xf_feed at hx
  refine wp_g 1 (pc1 := 1) (lv1 := [(0, .ref 0), (1, .int (Int32.ofInt p1)), (2, .int (Int32.ofInt p2)), (3, .int (Int32.ofInt p3)), (4, .int (Int32.ofInt p4)), (5, .int (Int32.ofInt p5))]) (st1 := [.ref 0]) (w1 := w) rfl ?_
  refine wx_gr (o := 1) (kf := 10) (ln := 3) (ci := 11) (b := 0) (zz := 0) (x := 0) (by decide +kernel) h (hS _ _ sx_0) rfl ?_
  show wp _ 107 4 [(0, .ref 0), (1, .int (Int32.ofInt p1)), (2, .int (Int32.ofInt p2)), (3, .int (Int32.ofInt p3)), (4, .int (Int32.ofInt p4)), (5, .int (Int32.ofInt p5))] [.ref 1] w _
  refine wx_gi (kf := 94) (ln := 3) (ci := 9) (b := 1) (zz := 0) (x := 1) (by decide +kernel) h (hS _ _ sx_1) rfl ?_
  show wp _ 107 7 [(0, .ref 0), (1, .int (Int32.ofInt p1)), (2, .int (Int32.ofInt p2)), (3, .int (Int32.ofInt p3)), (4, .int (Int32.ofInt p4)), (5, .int (Int32.ofInt p5))] [.int (Int32.ofInt (s 1 1))] w _
  refine wp_g 1 (pc1 := 10) (lv1 := [(0, .ref 0), (1, .int (Int32.ofInt p1)), (2, .int (Int32.ofInt p2)), (3, .int (Int32.ofInt p3)), (4, .int (Int32.ofInt p4)), (5, .int (Int32.ofInt p5))]) (st1 := [.int (Int32.ofInt 380), .int (Int32.ofInt (s 1 1))]) (w1 := w) rfl ?_
  refine wx_le (oo := 5) (ln := 3) (a := 15) (b := 0) (zz := 0) (by decide +kernel) (fun h1 => ?_) (fun h1 => ?_)
  · have hx := ite_f h1 hx
    refine wp_g 1 (pc1 := 16) (lv1 := [(0, .ref 0), (1, .int (Int32.ofInt p1)), (2, .int (Int32.ofInt p2)), (3, .int (Int32.ofInt p3)), (4, .int (Int32.ofInt p4)), (5, .int (Int32.ofInt p5))]) (st1 := [.ref 0]) (w1 := w) rfl ?_
    refine wx_gr (o := 1) (kf := 10) (ln := 3) (ci := 11) (b := 0) (zz := 0) (x := 0) (by decide +kernel) h (hS _ _ sx_0) rfl ?_
    show wp _ 107 19 [(0, .ref 0), (1, .int (Int32.ofInt p1)), (2, .int (Int32.ofInt p2)), (3, .int (Int32.ofInt p3)), (4, .int (Int32.ofInt p4)), (5, .int (Int32.ofInt p5))] [.ref 1] w _
    refine wp_g 1 (pc1 := 20) (lv1 := [(0, .ref 0), (1, .int (Int32.ofInt p1)), (2, .int (Int32.ofInt p2)), (3, .int (Int32.ofInt p3)), (4, .int (Int32.ofInt p4)), (5, .int (Int32.ofInt p5))]) (st1 := [.int (Int32.ofInt p1), .ref 1]) (w1 := w) rfl ?_
    obtain ⟨o2, e3, hx⟩ := bd hx
    refine wp_cl [.ref 1, .int (Int32.ofInt p1)] [] (i := .invokevirtual 97) (ln := 3) (a := 83) (b := 0) (z := 0) (by decide +kernel) rfl rfl (by decide) rfl (show (2 : Nat) = pm_na 83 by decide +kernel) (Nat.le_of_ble_eq_true rfl) (show (2 : Nat) ≤ pm_n 83 by decide +kernel) (rcv_x 9 h (hS _ _ sx_1) (by decide +kernel)) (xt_append_ok (d := d) hS h e3 (fun w4 h5 => ?_))
    show wp _ 107 23 [(0, .ref 0), (1, .int (Int32.ofInt p1)), (2, .int (Int32.ofInt p2)), (3, .int (Int32.ofInt p3)), (4, .int (Int32.ofInt p4)), (5, .int (Int32.ofInt p5))] [] w4 _
    refine wp_g 1 (pc1 := 24) (lv1 := [(0, .ref 0), (1, .int (Int32.ofInt p1)), (2, .int (Int32.ofInt p2)), (3, .int (Int32.ofInt p3)), (4, .int (Int32.ofInt p4)), (5, .int (Int32.ofInt p5))]) (st1 := [.ref 0]) (w1 := w4) rfl ?_
    refine wx_gr (o := 1) (kf := 10) (ln := 3) (ci := 11) (b := 0) (zz := 0) (x := 0) (by decide +kernel) h5 (hS _ _ sx_0) rfl ?_
    show wp _ 107 27 [(0, .ref 0), (1, .int (Int32.ofInt p1)), (2, .int (Int32.ofInt p2)), (3, .int (Int32.ofInt p3)), (4, .int (Int32.ofInt p4)), (5, .int (Int32.ofInt p5))] [.ref 1] w4 _
    refine wp_g 1 (pc1 := 28) (lv1 := [(0, .ref 0), (1, .int (Int32.ofInt p1)), (2, .int (Int32.ofInt p2)), (3, .int (Int32.ofInt p3)), (4, .int (Int32.ofInt p4)), (5, .int (Int32.ofInt p5))]) (st1 := [.int (Int32.ofInt p2), .ref 1]) (w1 := w4) rfl ?_
    obtain ⟨o6, e7, hx⟩ := bd hx
    refine wp_cl [.ref 1, .int (Int32.ofInt p2)] [] (i := .invokevirtual 97) (ln := 3) (a := 83) (b := 0) (z := 0) (by decide +kernel) rfl rfl (by decide) rfl (show (2 : Nat) = pm_na 83 by decide +kernel) (Nat.le_of_ble_eq_true rfl) (show (2 : Nat) ≤ pm_n 83 by decide +kernel) (rcv_x 9 h5 (hS _ _ sx_1) (by decide +kernel)) (xt_append_ok (d := d) hS h5 e7 (fun w8 h9 => ?_))
    show wp _ 107 31 [(0, .ref 0), (1, .int (Int32.ofInt p1)), (2, .int (Int32.ofInt p2)), (3, .int (Int32.ofInt p3)), (4, .int (Int32.ofInt p4)), (5, .int (Int32.ofInt p5))] [] w8 _
    refine wp_g 1 (pc1 := 32) (lv1 := [(0, .ref 0), (1, .int (Int32.ofInt p1)), (2, .int (Int32.ofInt p2)), (3, .int (Int32.ofInt p3)), (4, .int (Int32.ofInt p4)), (5, .int (Int32.ofInt p5))]) (st1 := [.ref 0]) (w1 := w8) rfl ?_
    refine wx_gr (o := 1) (kf := 10) (ln := 3) (ci := 11) (b := 0) (zz := 0) (x := 0) (by decide +kernel) h9 (hS _ _ sx_0) rfl ?_
    show wp _ 107 35 [(0, .ref 0), (1, .int (Int32.ofInt p1)), (2, .int (Int32.ofInt p2)), (3, .int (Int32.ofInt p3)), (4, .int (Int32.ofInt p4)), (5, .int (Int32.ofInt p5))] [.ref 1] w8 _
    refine wp_g 1 (pc1 := 36) (lv1 := [(0, .ref 0), (1, .int (Int32.ofInt p1)), (2, .int (Int32.ofInt p2)), (3, .int (Int32.ofInt p3)), (4, .int (Int32.ofInt p4)), (5, .int (Int32.ofInt p5))]) (st1 := [.int (Int32.ofInt p3), .ref 1]) (w1 := w8) rfl ?_
    obtain ⟨o10, e11, hx⟩ := bd hx
    refine wp_cl [.ref 1, .int (Int32.ofInt p3)] [] (i := .invokevirtual 97) (ln := 3) (a := 83) (b := 0) (z := 0) (by decide +kernel) rfl rfl (by decide) rfl (show (2 : Nat) = pm_na 83 by decide +kernel) (Nat.le_of_ble_eq_true rfl) (show (2 : Nat) ≤ pm_n 83 by decide +kernel) (rcv_x 9 h9 (hS _ _ sx_1) (by decide +kernel)) (xt_append_ok (d := d) hS h9 e11 (fun w12 h13 => ?_))
    show wp _ 107 39 [(0, .ref 0), (1, .int (Int32.ofInt p1)), (2, .int (Int32.ofInt p2)), (3, .int (Int32.ofInt p3)), (4, .int (Int32.ofInt p4)), (5, .int (Int32.ofInt p5))] [] w12 _
    refine wp_g 1 (pc1 := 40) (lv1 := [(0, .ref 0), (1, .int (Int32.ofInt p1)), (2, .int (Int32.ofInt p2)), (3, .int (Int32.ofInt p3)), (4, .int (Int32.ofInt p4)), (5, .int (Int32.ofInt p5))]) (st1 := [.ref 0]) (w1 := w12) rfl ?_
    refine wx_gr (o := 1) (kf := 10) (ln := 3) (ci := 11) (b := 0) (zz := 0) (x := 0) (by decide +kernel) h13 (hS _ _ sx_0) rfl ?_
    show wp _ 107 43 [(0, .ref 0), (1, .int (Int32.ofInt p1)), (2, .int (Int32.ofInt p2)), (3, .int (Int32.ofInt p3)), (4, .int (Int32.ofInt p4)), (5, .int (Int32.ofInt p5))] [.ref 1] w12 _
    refine wp_g 1 (pc1 := 45) (lv1 := [(0, .ref 0), (1, .int (Int32.ofInt p1)), (2, .int (Int32.ofInt p2)), (3, .int (Int32.ofInt p3)), (4, .int (Int32.ofInt p4)), (5, .int (Int32.ofInt p5))]) (st1 := [.int (Int32.ofInt p4), .ref 1]) (w1 := w12) rfl ?_
    obtain ⟨o14, e15, hx⟩ := bd hx
    refine wp_cl [.ref 1, .int (Int32.ofInt p4)] [] (i := .invokevirtual 97) (ln := 3) (a := 83) (b := 0) (z := 0) (by decide +kernel) rfl rfl (by decide) rfl (show (2 : Nat) = pm_na 83 by decide +kernel) (Nat.le_of_ble_eq_true rfl) (show (2 : Nat) ≤ pm_n 83 by decide +kernel) (rcv_x 9 h13 (hS _ _ sx_1) (by decide +kernel)) (xt_append_ok (d := d) hS h13 e15 (fun w16 h17 => ?_))
    show wp _ 107 48 [(0, .ref 0), (1, .int (Int32.ofInt p1)), (2, .int (Int32.ofInt p2)), (3, .int (Int32.ofInt p3)), (4, .int (Int32.ofInt p4)), (5, .int (Int32.ofInt p5))] [] w16 _
    refine wp_g 1 (pc1 := 49) (lv1 := [(0, .ref 0), (1, .int (Int32.ofInt p1)), (2, .int (Int32.ofInt p2)), (3, .int (Int32.ofInt p3)), (4, .int (Int32.ofInt p4)), (5, .int (Int32.ofInt p5))]) (st1 := [.ref 0]) (w1 := w16) rfl ?_
    refine wx_gr (o := 1) (kf := 10) (ln := 3) (ci := 11) (b := 0) (zz := 0) (x := 0) (by decide +kernel) h17 (hS _ _ sx_0) rfl ?_
    show wp _ 107 52 [(0, .ref 0), (1, .int (Int32.ofInt p1)), (2, .int (Int32.ofInt p2)), (3, .int (Int32.ofInt p3)), (4, .int (Int32.ofInt p4)), (5, .int (Int32.ofInt p5))] [.ref 1] w16 _
    refine wp_g 1 (pc1 := 54) (lv1 := [(0, .ref 0), (1, .int (Int32.ofInt p1)), (2, .int (Int32.ofInt p2)), (3, .int (Int32.ofInt p3)), (4, .int (Int32.ofInt p4)), (5, .int (Int32.ofInt p5))]) (st1 := [.int (Int32.ofInt p5), .ref 1]) (w1 := w16) rfl ?_
    obtain ⟨o18, e19, hx⟩ := bd hx
    refine wp_cl [.ref 1, .int (Int32.ofInt p5)] [] (i := .invokevirtual 97) (ln := 3) (a := 83) (b := 0) (z := 0) (by decide +kernel) rfl rfl (by decide) rfl (show (2 : Nat) = pm_na 83 by decide +kernel) (Nat.le_of_ble_eq_true rfl) (show (2 : Nat) ≤ pm_n 83 by decide +kernel) (rcv_x 9 h17 (hS _ _ sx_1) (by decide +kernel)) (xt_append_ok (d := d) hS h17 e19 (fun w20 h21 => ?_))
    show wp _ 107 57 [(0, .ref 0), (1, .int (Int32.ofInt p1)), (2, .int (Int32.ofInt p2)), (3, .int (Int32.ofInt p3)), (4, .int (Int32.ofInt p4)), (5, .int (Int32.ofInt p5))] [] w20 _
    refine wp_g 1 (pc1 := 58) (lv1 := [(0, .ref 0), (1, .int (Int32.ofInt p1)), (2, .int (Int32.ofInt p2)), (3, .int (Int32.ofInt p3)), (4, .int (Int32.ofInt p4)), (5, .int (Int32.ofInt p5))]) (st1 := [.ref 0]) (w1 := w20) rfl ?_
    refine wx_gr (o := 1) (kf := 10) (ln := 3) (ci := 11) (b := 0) (zz := 0) (x := 0) (by decide +kernel) h21 (hS _ _ sx_0) rfl ?_
    show wp _ 107 61 [(0, .ref 0), (1, .int (Int32.ofInt p1)), (2, .int (Int32.ofInt p2)), (3, .int (Int32.ofInt p3)), (4, .int (Int32.ofInt p4)), (5, .int (Int32.ofInt p5))] [.ref 1] w20 _
    refine wx_gi (kf := 94) (ln := 3) (ci := 9) (b := 1) (zz := 0) (x := 1) (by decide +kernel) h21 (hS _ _ sx_1) rfl ?_
    show wp _ 107 64 [(0, .ref 0), (1, .int (Int32.ofInt p1)), (2, .int (Int32.ofInt p2)), (3, .int (Int32.ofInt p3)), (4, .int (Int32.ofInt p4)), (5, .int (Int32.ofInt p5))] [.int (Int32.ofInt (o18 1 1))] w20 _
    refine wp_rt (i := .ireturn) (r := some (.int (Int32.ofInt (o18 1 1)))) (ln := 1) (a := 0) (b := 0) (z := 0) (by decide +kernel) rfl (ret_ok (by decide +kernel)) ?_
    cases hx
    exact kr _ h21
  · have hx := ite_t h1 hx
    refine wp_g 1 (pc1 := 14) (lv1 := [(0, .ref 0), (1, .int (Int32.ofInt p1)), (2, .int (Int32.ofInt p2)), (3, .int (Int32.ofInt p3)), (4, .int (Int32.ofInt p4)), (5, .int (Int32.ofInt p5))]) (st1 := [.int (Int32.ofInt (-1))]) (w1 := w) rfl ?_
    refine wp_rt (i := .ireturn) (r := some (.int (Int32.ofInt (-1)))) (ln := 1) (a := 0) (b := 0) (z := 0) (by decide +kernel) rfl (ret_ok (by decide +kernel)) ?_
    cases hx
    exact kr _ h
/-- FoldDeeds.end (I)I -/
noncomputable def xf_end (s : Hp) (p1 : Int) : Option (Int × Hp) :=
  if w32 p1 < 0 then some ((-1), s) else if w32 (s 1 1) < w32 p1 then some ((-1), s) else (some (uh s 1 1 p1)).bind fun s3 => some (p1, s3)
set_option maxRecDepth 100000 in
theorem xf_end_ok {d : Nat} {P : Option Value → pm_H → Prop} {w : pm_H} {sh : Shp} {w0 : pm_H} {s : Hp} (hS : St sh) {p1 : Int} (h : Rw sh w0 s w) {o : Int × Hp} (hx : xf_end s p1 = some o) (kr : ∀ w1, Rw sh w0 o.2 w1 → P (some (.int (Int32.ofInt o.1))) w1) : wp d 108 0 (lv_args 0 [.ref 0, .int (Int32.ofInt p1)]) [] w P := by
  show wp _ 108 0 [(0, .ref 0), (1, .int (Int32.ofInt p1))] [] w _
  unfold xf_end at hx
  refine wp_g 1 (pc1 := 1) (lv1 := [(0, .ref 0), (1, .int (Int32.ofInt p1))]) (st1 := [.int (Int32.ofInt p1)]) (w1 := w) rfl ?_
  refine wz_lt (oo := 14) (ln := 3) (a := 15) (b := 0) (zz := 0) (by decide +kernel) (fun h1 => ?_) (fun h1 => ?_)
  · have hx := ite_t h1 hx
    refine wp_g 1 (pc1 := 16) (lv1 := [(0, .ref 0), (1, .int (Int32.ofInt p1))]) (st1 := [.int (Int32.ofInt (-1))]) (w1 := w) rfl ?_
    refine wp_rt (i := .ireturn) (r := some (.int (Int32.ofInt (-1)))) (ln := 1) (a := 0) (b := 0) (z := 0) (by decide +kernel) rfl (ret_ok (by decide +kernel)) ?_
    cases hx
    exact kr _ h
  · have hx := ite_f h1 hx
    refine wp_g 2 (pc1 := 6) (lv1 := [(0, .ref 0), (1, .int (Int32.ofInt p1))]) (st1 := [.ref 0, .int (Int32.ofInt p1)]) (w1 := w) rfl ?_
    refine wx_gr (o := 1) (kf := 10) (ln := 3) (ci := 11) (b := 0) (zz := 0) (x := 0) (by decide +kernel) h (hS _ _ sx_0) rfl ?_
    show wp _ 108 9 [(0, .ref 0), (1, .int (Int32.ofInt p1))] [.ref 1, .int (Int32.ofInt p1)] w _
    refine wx_gi (kf := 94) (ln := 3) (ci := 9) (b := 1) (zz := 0) (x := 1) (by decide +kernel) h (hS _ _ sx_1) rfl ?_
    show wp _ 108 12 [(0, .ref 0), (1, .int (Int32.ofInt p1))] [.int (Int32.ofInt (s 1 1)), .int (Int32.ofInt p1)] w _
    refine wx_le (oo := 5) (ln := 3) (a := 17) (b := 0) (zz := 0) (by decide +kernel) (fun h2 => ?_) (fun h2 => ?_)
    · have hx := ite_f h2 hx
      refine wp_g 1 (pc1 := 18) (lv1 := [(0, .ref 0), (1, .int (Int32.ofInt p1))]) (st1 := [.ref 0]) (w1 := w) rfl ?_
      refine wx_gr (o := 1) (kf := 10) (ln := 3) (ci := 11) (b := 0) (zz := 0) (x := 0) (by decide +kernel) h (hS _ _ sx_0) rfl ?_
      show wp _ 108 21 [(0, .ref 0), (1, .int (Int32.ofInt p1))] [.ref 1] w _
      refine wp_g 1 (pc1 := 22) (lv1 := [(0, .ref 0), (1, .int (Int32.ofInt p1))]) (st1 := [.int (Int32.ofInt p1), .ref 1]) (w1 := w) rfl ?_
      obtain ⟨s3, e4, hx⟩ := bd hx
      refine wx_pi (kf := 94) (ln := 3) (ci := 9) (b := 1) (zz := 0) (x := 1) (by decide +kernel) h (hS _ _ sx_1) rfl (by decide +kernel) e4 (fun w5 h6 => ?_)
      refine wp_g 1 (pc1 := 26) (lv1 := [(0, .ref 0), (1, .int (Int32.ofInt p1))]) (st1 := [.int (Int32.ofInt p1)]) (w1 := w5) rfl ?_
      refine wp_rt (i := .ireturn) (r := some (.int (Int32.ofInt p1))) (ln := 1) (a := 0) (b := 0) (z := 0) (by decide +kernel) rfl (ret_ok (by decide +kernel)) ?_
      cases hx
      exact kr _ h6
    · have hx := ite_t h2 hx
      refine wp_g 1 (pc1 := 16) (lv1 := [(0, .ref 0), (1, .int (Int32.ofInt p1))]) (st1 := [.int (Int32.ofInt (-1))]) (w1 := w) rfl ?_
      refine wp_rt (i := .ireturn) (r := some (.int (Int32.ofInt (-1)))) (ln := 1) (a := 0) (b := 0) (z := 0) (by decide +kernel) rfl (ret_ok (by decide +kernel)) ?_
      cases hx
      exact kr _ h
/-- Past.forget ()V -/
noncomputable def xp_forget (s : Hp) : Option Hp :=
  (some (uh s 39 2 0)).bind fun s1 => some s1
set_option maxRecDepth 100000 in
theorem xp_forget_ok {d : Nat} {P : Option Value → pm_H → Prop} {w : pm_H} {sh : Shp} {w0 : pm_H} {s : Hp} (hS : St sh) (h : Rw sh w0 s w) {o : Hp} (hx : xp_forget s = some o) (kr : ∀ w1, Rw sh w0 o w1 → P none w1) : wp d 42 0 (lv_args 0 [.ref 39]) [] w P := by
  show wp _ 42 0 [(0, .ref 39)] [] w _
  unfold xp_forget at hx
  refine wp_g 2 (pc1 := 2) (lv1 := [(0, .ref 39)]) (st1 := [.int (Int32.ofInt 0), .ref 39]) (w1 := w) rfl ?_
  obtain ⟨s1, e2, hx⟩ := bd hx
  refine wx_pi (kf := 21) (ln := 3) (ci := 4) (b := 2) (zz := 0) (x := 39) (by decide +kernel) h (hS _ _ sx_39) rfl (by decide +kernel) e2 (fun w3 h4 => ?_)
  refine wp_rt (i := .return_) (r := none) (ln := 1) (a := 0) (b := 0) (z := 0) (by decide +kernel) rfl (ret_v (by decide +kernel)) ?_
  cases hx
  exact kr _ h4
/-- FoldDeeds.cloth ()I -/
noncomputable def xf_cloth (s : Hp) : Option (Int × Hp) :=
  (xc_read s).bind fun o1 => (some (uh o1.2 1 1 0)).bind fun s5 => if w32 o1.1 = 0 then (xs_begin s5 16 4).bind fun o10 => (xp_forget o10).bind fun o14 => some (o14 17 0, o14) else some ((-2) - o1.1, s5)
set_option maxRecDepth 100000 in
theorem xf_cloth_ok {d : Nat} {P : Option Value → pm_H → Prop} {w : pm_H} {sh : Shp} {w0 : pm_H} {s : Hp} (hS : St sh) (h : Rw sh w0 s w) {o : Int × Hp} (hx : xf_cloth s = some o) (kr : ∀ w1, Rw sh w0 o.2 w1 → P (some (.int (Int32.ofInt o.1))) w1) : wp (d + 10) 109 0 (lv_args 0 [.ref 0]) [] w P := by
  show wp _ 109 0 [(0, .ref 0)] [] w _
  unfold xf_cloth at hx
  refine wp_g 1 (pc1 := 1) (lv1 := [(0, .ref 0)]) (st1 := [.ref 0]) (w1 := w) rfl ?_
  refine wx_gr (o := 3) (kf := 19) (ln := 3) (ci := 11) (b := 1) (zz := 0) (x := 0) (by decide +kernel) h (hS _ _ sx_0) rfl ?_
  show wp _ 109 4 [(0, .ref 0)] [.ref 3] w _
  refine wp_g 1 (pc1 := 5) (lv1 := [(0, .ref 0)]) (st1 := [.ref 0, .ref 3]) (w1 := w) rfl ?_
  refine wx_gr (o := 1) (kf := 10) (ln := 3) (ci := 11) (b := 0) (zz := 0) (x := 0) (by decide +kernel) h (hS _ _ sx_0) rfl ?_
  show wp _ 109 8 [(0, .ref 0)] [.ref 1, .ref 3] w _
  obtain ⟨o1, e2, hx⟩ := bd hx
  refine wp_cl [.ref 3, .ref 1] [] (i := .invokevirtual 101) (ln := 3) (a := 23) (b := 0) (z := 0) (by decide +kernel) rfl rfl (by decide) rfl (show (2 : Nat) = pm_na 23 by decide +kernel) (Nat.le_of_ble_eq_true rfl) (show (2 : Nat) ≤ pm_n 23 by decide +kernel) (rcv_x 1 h (hS _ _ sx_3) (by decide +kernel)) (xc_read_ok (d := d) hS h e2 (fun w3 h4 => ?_))
  show wp _ 109 11 [(0, .ref 0)] [.int (Int32.ofInt o1.1)] w3 _
  refine wp_g 2 (pc1 := 13) (lv1 := [(1, .int (Int32.ofInt o1.1)), (0, .ref 0)]) (st1 := [.ref 0]) (w1 := w3) rfl ?_
  refine wx_gr (o := 1) (kf := 10) (ln := 3) (ci := 11) (b := 0) (zz := 0) (x := 0) (by decide +kernel) h4 (hS _ _ sx_0) rfl ?_
  show wp _ 109 16 [(1, .int (Int32.ofInt o1.1)), (0, .ref 0)] [.ref 1] w3 _
  refine wp_g 1 (pc1 := 17) (lv1 := [(1, .int (Int32.ofInt o1.1)), (0, .ref 0)]) (st1 := [.int (Int32.ofInt 0), .ref 1]) (w1 := w3) rfl ?_
  obtain ⟨s5, e6, hx⟩ := bd hx
  refine wx_pi (kf := 94) (ln := 3) (ci := 9) (b := 1) (zz := 0) (x := 1) (by decide +kernel) h4 (hS _ _ sx_1) rfl (by decide +kernel) e6 (fun w7 h8 => ?_)
  refine wp_g 1 (pc1 := 21) (lv1 := [(1, .int (Int32.ofInt o1.1)), (0, .ref 0)]) (st1 := [.int (Int32.ofInt o1.1)]) (w1 := w7) rfl ?_
  refine wz_eq (oo := 8) (ln := 3) (a := 29) (b := 0) (zz := 0) (by decide +kernel) (fun h9 => ?_) (fun h9 => ?_)
  · have hx := ite_t h9 hx
    refine wp_g 1 (pc1 := 30) (lv1 := [(1, .int (Int32.ofInt o1.1)), (0, .ref 0)]) (st1 := [.ref 0]) (w1 := w7) rfl ?_
    refine wx_gr (o := 16) (kf := 43) (ln := 3) (ci := 11) (b := 5) (zz := 0) (x := 0) (by decide +kernel) h8 (hS _ _ sx_0) rfl ?_
    show wp _ 109 33 [(1, .int (Int32.ofInt o1.1)), (0, .ref 0)] [.ref 16] w7 _
    refine wp_g 1 (pc1 := 34) (lv1 := [(1, .int (Int32.ofInt o1.1)), (0, .ref 0)]) (st1 := [.ref 0, .ref 16]) (w1 := w7) rfl ?_
    refine wx_gr (o := 3) (kf := 19) (ln := 3) (ci := 11) (b := 1) (zz := 0) (x := 0) (by decide +kernel) h8 (hS _ _ sx_0) rfl ?_
    show wp _ 109 37 [(1, .int (Int32.ofInt o1.1)), (0, .ref 0)] [.ref 3, .ref 16] w7 _
    refine wx_gr (o := 1) (kf := 105) (ln := 3) (ci := 1) (b := 0) (zz := 0) (x := 3) (by decide +kernel) h8 (hS _ _ sx_3) rfl ?_
    show wp _ 109 40 [(1, .int (Int32.ofInt o1.1)), (0, .ref 0)] [.ref 4, .ref 16] w7 _
    obtain ⟨o10, e11, hx⟩ := bd hx
    refine wp_cl [.ref 16, .ref 4] [] (i := .invokevirtual 109) (ln := 3) (a := 61) (b := 0) (z := 0) (by decide +kernel) rfl rfl (by decide) rfl (show (2 : Nat) = pm_na 61 by decide +kernel) (Nat.le_of_ble_eq_true rfl) (show (2 : Nat) ≤ pm_n 61 by decide +kernel) (rcv_x 7 h8 (hS _ _ sx_16) (by decide +kernel)) (xs_begin_ok (d := d + 2) hS (okS_16 hS) (okC_4 hS) h8 e11 (fun w12 h13 => ?_))
    show wp _ 109 43 [(1, .int (Int32.ofInt o1.1)), (0, .ref 0)] [] w12 _
    refine wp_g 1 (pc1 := 44) (lv1 := [(1, .int (Int32.ofInt o1.1)), (0, .ref 0)]) (st1 := [.ref 0]) (w1 := w12) rfl ?_
    refine wx_gr (o := 39) (kf := 54) (ln := 3) (ci := 11) (b := 7) (zz := 0) (x := 0) (by decide +kernel) h13 (hS _ _ sx_0) rfl ?_
    show wp _ 109 47 [(1, .int (Int32.ofInt o1.1)), (0, .ref 0)] [.ref 39] w12 _
    obtain ⟨o14, e15, hx⟩ := bd hx
    refine wp_cl [.ref 39] [] (i := .invokevirtual 113) (ln := 3) (a := 42) (b := 0) (z := 0) (by decide +kernel) rfl rfl (by decide) rfl (show (1 : Nat) = pm_na 42 by decide +kernel) (Nat.le_of_ble_eq_true rfl) (show (1 : Nat) ≤ pm_n 42 by decide +kernel) (rcv_x 4 h13 (hS _ _ sx_39) (by decide +kernel)) (xp_forget_ok (d := d + 9) hS h13 e15 (fun w16 h17 => ?_))
    show wp _ 109 50 [(1, .int (Int32.ofInt o1.1)), (0, .ref 0)] [] w16 _
    refine wp_g 1 (pc1 := 51) (lv1 := [(1, .int (Int32.ofInt o1.1)), (0, .ref 0)]) (st1 := [.ref 0]) (w1 := w16) rfl ?_
    refine wx_gr (o := 16) (kf := 43) (ln := 3) (ci := 11) (b := 5) (zz := 0) (x := 0) (by decide +kernel) h17 (hS _ _ sx_0) rfl ?_
    show wp _ 109 54 [(1, .int (Int32.ofInt o1.1)), (0, .ref 0)] [.ref 16] w16 _
    refine wx_gr (o := 1) (kf := 116) (ln := 3) (ci := 7) (b := 0) (zz := 0) (x := 16) (by decide +kernel) h17 (hS _ _ sx_16) rfl ?_
    show wp _ 109 57 [(1, .int (Int32.ofInt o1.1)), (0, .ref 0)] [.ref 17] w16 _
    refine wx_gi (kf := 119) (ln := 3) (ci := 0) (b := 0) (zz := 0) (x := 17) (by decide +kernel) h17 (hS _ _ sx_17) rfl ?_
    show wp _ 109 60 [(1, .int (Int32.ofInt o1.1)), (0, .ref 0)] [.int (Int32.ofInt (o14 17 0))] w16 _
    refine wp_rt (i := .ireturn) (r := some (.int (Int32.ofInt (o14 17 0)))) (ln := 1) (a := 0) (b := 0) (z := 0) (by decide +kernel) rfl (ret_ok (by decide +kernel)) ?_
    cases hx
    exact kr _ h17
  · have hx := ite_f h9 hx
    refine wp_g 3 (pc1 := 28) (lv1 := [(1, .int (Int32.ofInt o1.1)), (0, .ref 0)]) (st1 := [.int (Int32.ofInt ((-2) - o1.1))]) (w1 := w7) (by simp only [Int32.ofInt_add, Int32.ofInt_sub, Int32.ofInt_mul, Int32.ofInt_neg, p_and, p_or, p_xor, p_shl, p_shr, p_usr, p_w8, p_c16, p_lI, q_and, q_or, q_shl, q_shr, q_w32, Int64.ofInt_add, Int64.ofInt_sub, Int64.ofInt_mul, p_mx, p_mn, q_mx, q_mn]; rfl) ?_
    refine wp_rt (i := .ireturn) (r := some (.int (Int32.ofInt ((-2) - o1.1)))) (ln := 1) (a := 0) (b := 0) (z := 0) (by decide +kernel) rfl (ret_ok (by decide +kernel)) ?_
    cases hx
    exact kr _ h8
/-- FoldDeeds.force (I)I -/
noncomputable def xf_force (s : Hp) (p1 : Int) : Option (Int × Hp) :=
  if w32 p1 < w32 (-1) then some ((-2), s) else if w32 p1 < w32 (s 0 4) then (some (uh s 16 6 p1)).bind fun s3 => some (s 16 6, s3) else some ((-2), s)
set_option maxRecDepth 100000 in
theorem xf_force_ok {d : Nat} {P : Option Value → pm_H → Prop} {w : pm_H} {sh : Shp} {w0 : pm_H} {s : Hp} (hS : St sh) {p1 : Int} (h : Rw sh w0 s w) {o : Int × Hp} (hx : xf_force s p1 = some o) (kr : ∀ w1, Rw sh w0 o.2 w1 → P (some (.int (Int32.ofInt o.1))) w1) : wp d 111 0 (lv_args 0 [.ref 0, .int (Int32.ofInt p1)]) [] w P := by
  show wp _ 111 0 [(0, .ref 0), (1, .int (Int32.ofInt p1))] [] w _
  unfold xf_force at hx
  refine wp_g 2 (pc1 := 2) (lv1 := [(0, .ref 0), (1, .int (Int32.ofInt p1))]) (st1 := [.int (Int32.ofInt (-1)), .int (Int32.ofInt p1)]) (w1 := w) rfl ?_
  refine wx_lt (oo := 11) (ln := 3) (a := 13) (b := 0) (zz := 0) (by decide +kernel) (fun h1 => ?_) (fun h1 => ?_)
  · have hx := ite_t h1 hx
    refine wp_g 1 (pc1 := 15) (lv1 := [(0, .ref 0), (1, .int (Int32.ofInt p1))]) (st1 := [.int (Int32.ofInt (-2))]) (w1 := w) rfl ?_
    refine wp_rt (i := .ireturn) (r := some (.int (Int32.ofInt (-2)))) (ln := 1) (a := 0) (b := 0) (z := 0) (by decide +kernel) rfl (ret_ok (by decide +kernel)) ?_
    cases hx
    exact kr _ h
  · have hx := ite_f h1 hx
    refine wp_g 2 (pc1 := 7) (lv1 := [(0, .ref 0), (1, .int (Int32.ofInt p1))]) (st1 := [.ref 0, .int (Int32.ofInt p1)]) (w1 := w) rfl ?_
    refine wx_gi (kf := 36) (ln := 3) (ci := 11) (b := 4) (zz := 0) (x := 0) (by decide +kernel) h (hS _ _ sx_0) rfl ?_
    show wp _ 111 10 [(0, .ref 0), (1, .int (Int32.ofInt p1))] [.int (Int32.ofInt (s 0 4)), .int (Int32.ofInt p1)] w _
    refine wx_lt (oo := 6) (ln := 3) (a := 16) (b := 0) (zz := 0) (by decide +kernel) (fun h2 => ?_) (fun h2 => ?_)
    · have hx := ite_t h2 hx
      refine wp_g 1 (pc1 := 17) (lv1 := [(0, .ref 0), (1, .int (Int32.ofInt p1))]) (st1 := [.ref 0]) (w1 := w) rfl ?_
      refine wx_gr (o := 16) (kf := 43) (ln := 3) (ci := 11) (b := 5) (zz := 0) (x := 0) (by decide +kernel) h (hS _ _ sx_0) rfl ?_
      show wp _ 111 20 [(0, .ref 0), (1, .int (Int32.ofInt p1))] [.ref 16] w _
      refine wx_gi (kf := 129) (ln := 3) (ci := 7) (b := 6) (zz := 0) (x := 16) (by decide +kernel) h (hS _ _ sx_16) rfl ?_
      show wp _ 111 23 [(0, .ref 0), (1, .int (Int32.ofInt p1))] [.int (Int32.ofInt (s 16 6))] w _
      refine wp_g 2 (pc1 := 25) (lv1 := [(2, .int (Int32.ofInt (s 16 6))), (0, .ref 0), (1, .int (Int32.ofInt p1))]) (st1 := [.ref 0]) (w1 := w) rfl ?_
      refine wx_gr (o := 16) (kf := 43) (ln := 3) (ci := 11) (b := 5) (zz := 0) (x := 0) (by decide +kernel) h (hS _ _ sx_0) rfl ?_
      show wp _ 111 28 [(2, .int (Int32.ofInt (s 16 6))), (0, .ref 0), (1, .int (Int32.ofInt p1))] [.ref 16] w _
      refine wp_g 1 (pc1 := 29) (lv1 := [(2, .int (Int32.ofInt (s 16 6))), (0, .ref 0), (1, .int (Int32.ofInt p1))]) (st1 := [.int (Int32.ofInt p1), .ref 16]) (w1 := w) rfl ?_
      obtain ⟨s3, e4, hx⟩ := bd hx
      refine wx_pi (kf := 129) (ln := 3) (ci := 7) (b := 6) (zz := 0) (x := 16) (by decide +kernel) h (hS _ _ sx_16) rfl (by decide +kernel) e4 (fun w5 h6 => ?_)
      refine wp_g 1 (pc1 := 33) (lv1 := [(2, .int (Int32.ofInt (s 16 6))), (0, .ref 0), (1, .int (Int32.ofInt p1))]) (st1 := [.int (Int32.ofInt (s 16 6))]) (w1 := w5) rfl ?_
      refine wp_rt (i := .ireturn) (r := some (.int (Int32.ofInt (s 16 6)))) (ln := 1) (a := 0) (b := 0) (z := 0) (by decide +kernel) rfl (ret_ok (by decide +kernel)) ?_
      cases hx
      exact kr _ h6
    · have hx := ite_f h2 hx
      refine wp_g 1 (pc1 := 15) (lv1 := [(0, .ref 0), (1, .int (Int32.ofInt p1))]) (st1 := [.int (Int32.ofInt (-2))]) (w1 := w) rfl ?_
      refine wp_rt (i := .ireturn) (r := some (.int (Int32.ofInt (-2)))) (ln := 1) (a := 0) (b := 0) (z := 0) (by decide +kernel) rfl (ret_ok (by decide +kernel)) ?_
      cases hx
      exact kr _ h
/-- FoldDeeds.cell (II)I -/
noncomputable def xf_cell (s : Hp) (p1 : Int) (p2 : Int) : Option Int :=
  (xl_hasCell s 17 p1).bind fun o1 => if w32 o1 = 0 then some (-2) else if w32 p2 = 0 then (ix 8 p1).bind fun i7 => some (s 18 i7) else if w32 p2 = 1 then (ix 8 p1).bind fun i10 => some (s 19 i10) else if w32 p2 = 2 then (ix 8 p1).bind fun i13 => some (s 20 i13) else if w32 p2 = 3 then (ix 8 p1).bind fun i16 => some (s 21 i16) else if w32 p2 = 4 then (ix 8 p1).bind fun i19 => some (s 22 i19) else some (-2)
set_option maxRecDepth 100000 in
theorem xf_cell_ok {d : Nat} {P : Option Value → pm_H → Prop} {w : pm_H} {sh : Shp} {w0 : pm_H} {s : Hp} (hS : St sh) {p1 : Int} {p2 : Int} (h : Rw sh w0 s w) {o : Int} (hx : xf_cell s p1 p2 = some o) (kr : P (some (.int (Int32.ofInt o))) w) : wp (d + 1) 112 0 (lv_args 0 [.ref 0, .int (Int32.ofInt p1), .int (Int32.ofInt p2)]) [] w P := by
  show wp _ 112 0 [(0, .ref 0), (1, .int (Int32.ofInt p1)), (2, .int (Int32.ofInt p2))] [] w _
  unfold xf_cell at hx
  refine wp_g 1 (pc1 := 1) (lv1 := [(0, .ref 0), (1, .int (Int32.ofInt p1)), (2, .int (Int32.ofInt p2))]) (st1 := [.ref 0]) (w1 := w) rfl ?_
  refine wx_gr (o := 16) (kf := 43) (ln := 3) (ci := 11) (b := 5) (zz := 0) (x := 0) (by decide +kernel) h (hS _ _ sx_0) rfl ?_
  show wp _ 112 4 [(0, .ref 0), (1, .int (Int32.ofInt p1)), (2, .int (Int32.ofInt p2))] [.ref 16] w _
  refine wx_gr (o := 1) (kf := 116) (ln := 3) (ci := 7) (b := 0) (zz := 0) (x := 16) (by decide +kernel) h (hS _ _ sx_16) rfl ?_
  show wp _ 112 7 [(0, .ref 0), (1, .int (Int32.ofInt p1)), (2, .int (Int32.ofInt p2))] [.ref 17] w _
  refine wp_g 3 (pc1 := 10) (lv1 := [(3, .ref 17), (0, .ref 0), (1, .int (Int32.ofInt p1)), (2, .int (Int32.ofInt p2))]) (st1 := [.int (Int32.ofInt p1), .ref 17]) (w1 := w) rfl ?_
  obtain ⟨o1, e2, hx⟩ := bd hx
  refine wp_cl [.ref 17, .int (Int32.ofInt p1)] [] (i := .invokevirtual 132) (ln := 3) (a := 5) (b := 0) (z := 0) (by decide +kernel) rfl rfl (by decide) rfl (show (2 : Nat) = pm_na 5 by decide +kernel) (Nat.le_of_ble_eq_true rfl) (show (2 : Nat) ≤ pm_n 5 by decide +kernel) (rcv_x 0 h (hS _ _ sx_17) (by decide +kernel)) (xl_hasCell_ok (d := d) hS (okC_17 hS) h e2 ?_)
  show wp _ 112 13 [(3, .ref 17), (0, .ref 0), (1, .int (Int32.ofInt p1)), (2, .int (Int32.ofInt p2))] [.int (Int32.ofInt o1)] w _
  refine wz_ne (oo := 6) (ln := 3) (a := 19) (b := 0) (zz := 0) (by decide +kernel) (fun h5 => ?_) (fun h5 => ?_)
  · have hx := ite_f h5 hx
    refine wp_g 1 (pc1 := 20) (lv1 := [(3, .ref 17), (0, .ref 0), (1, .int (Int32.ofInt p1)), (2, .int (Int32.ofInt p2))]) (st1 := [.int (Int32.ofInt p2)]) (w1 := w) rfl ?_
    by_cases h6 : w32 p2 = 0
    · have hx := ite_t h6 hx
      refine wx_sw (dflt := 71) (lo := 0) (hi := 4) (offs := #[36, 43, 50, 57, 64]) (ln := 36) (a := 0) (b := 0) (zz := 0) (tgt := 56) (q := 36) (by decide +kernel) h6 (by decide) (by decide) (by decide) (by decide) ?_
      refine wp_g 1 (pc1 := 57) (lv1 := [(3, .ref 17), (0, .ref 0), (1, .int (Int32.ofInt p1)), (2, .int (Int32.ofInt p2))]) (st1 := [.ref 17]) (w1 := w) rfl ?_
      refine wx_gr (o := 1) (kf := 136) (ln := 3) (ci := 0) (b := 4) (zz := 0) (x := 17) (by decide +kernel) h (hS _ _ sx_17) rfl ?_
      show wp _ 112 60 [(3, .ref 17), (0, .ref 0), (1, .int (Int32.ofInt p1)), (2, .int (Int32.ofInt p2))] [.ref 18] w _
      refine wp_g 1 (pc1 := 61) (lv1 := [(3, .ref 17), (0, .ref 0), (1, .int (Int32.ofInt p1)), (2, .int (Int32.ofInt p2))]) (st1 := [.int (Int32.ofInt p1), .ref 18]) (w1 := w) rfl ?_
      obtain ⟨i7, e8, hx⟩ := bd hx
      refine wx_ra (x := 18) (n := 8) (ln := 1) (a := 0) (b := 0) (zz := 0) (by decide +kernel) h (hS _ _ sx_18) e8 ?_
      show wp _ 112 62 [(3, .ref 17), (0, .ref 0), (1, .int (Int32.ofInt p1)), (2, .int (Int32.ofInt p2))] [.int (Int32.ofInt (s 18 i7))] w _
      refine wp_rt (i := .ireturn) (r := some (.int (Int32.ofInt (s 18 i7)))) (ln := 1) (a := 0) (b := 0) (z := 0) (by decide +kernel) rfl (ret_ok (by decide +kernel)) ?_
      cases hx
      exact kr
    have hx := ite_f h6 hx
    by_cases h9 : w32 p2 = 1
    · have hx := ite_t h9 hx
      refine wx_sw (dflt := 71) (lo := 0) (hi := 4) (offs := #[36, 43, 50, 57, 64]) (ln := 36) (a := 0) (b := 0) (zz := 0) (tgt := 63) (q := 43) (by decide +kernel) h9 (by decide) (by decide) (by decide) (by decide) ?_
      refine wp_g 1 (pc1 := 64) (lv1 := [(3, .ref 17), (0, .ref 0), (1, .int (Int32.ofInt p1)), (2, .int (Int32.ofInt p2))]) (st1 := [.ref 17]) (w1 := w) rfl ?_
      refine wx_gr (o := 2) (kf := 139) (ln := 3) (ci := 0) (b := 5) (zz := 0) (x := 17) (by decide +kernel) h (hS _ _ sx_17) rfl ?_
      show wp _ 112 67 [(3, .ref 17), (0, .ref 0), (1, .int (Int32.ofInt p1)), (2, .int (Int32.ofInt p2))] [.ref 19] w _
      refine wp_g 1 (pc1 := 68) (lv1 := [(3, .ref 17), (0, .ref 0), (1, .int (Int32.ofInt p1)), (2, .int (Int32.ofInt p2))]) (st1 := [.int (Int32.ofInt p1), .ref 19]) (w1 := w) rfl ?_
      obtain ⟨i10, e11, hx⟩ := bd hx
      refine wx_ra (x := 19) (n := 8) (ln := 1) (a := 0) (b := 0) (zz := 0) (by decide +kernel) h (hS _ _ sx_19) e11 ?_
      show wp _ 112 69 [(3, .ref 17), (0, .ref 0), (1, .int (Int32.ofInt p1)), (2, .int (Int32.ofInt p2))] [.int (Int32.ofInt (s 19 i10))] w _
      refine wp_rt (i := .ireturn) (r := some (.int (Int32.ofInt (s 19 i10)))) (ln := 1) (a := 0) (b := 0) (z := 0) (by decide +kernel) rfl (ret_ok (by decide +kernel)) ?_
      cases hx
      exact kr
    have hx := ite_f h9 hx
    by_cases h12 : w32 p2 = 2
    · have hx := ite_t h12 hx
      refine wx_sw (dflt := 71) (lo := 0) (hi := 4) (offs := #[36, 43, 50, 57, 64]) (ln := 36) (a := 0) (b := 0) (zz := 0) (tgt := 70) (q := 50) (by decide +kernel) h12 (by decide) (by decide) (by decide) (by decide) ?_
      refine wp_g 1 (pc1 := 71) (lv1 := [(3, .ref 17), (0, .ref 0), (1, .int (Int32.ofInt p1)), (2, .int (Int32.ofInt p2))]) (st1 := [.ref 17]) (w1 := w) rfl ?_
      refine wx_gr (o := 3) (kf := 142) (ln := 3) (ci := 0) (b := 6) (zz := 0) (x := 17) (by decide +kernel) h (hS _ _ sx_17) rfl ?_
      show wp _ 112 74 [(3, .ref 17), (0, .ref 0), (1, .int (Int32.ofInt p1)), (2, .int (Int32.ofInt p2))] [.ref 20] w _
      refine wp_g 1 (pc1 := 75) (lv1 := [(3, .ref 17), (0, .ref 0), (1, .int (Int32.ofInt p1)), (2, .int (Int32.ofInt p2))]) (st1 := [.int (Int32.ofInt p1), .ref 20]) (w1 := w) rfl ?_
      obtain ⟨i13, e14, hx⟩ := bd hx
      refine wx_ra (x := 20) (n := 8) (ln := 1) (a := 0) (b := 0) (zz := 0) (by decide +kernel) h (hS _ _ sx_20) e14 ?_
      show wp _ 112 76 [(3, .ref 17), (0, .ref 0), (1, .int (Int32.ofInt p1)), (2, .int (Int32.ofInt p2))] [.int (Int32.ofInt (s 20 i13))] w _
      refine wp_rt (i := .ireturn) (r := some (.int (Int32.ofInt (s 20 i13)))) (ln := 1) (a := 0) (b := 0) (z := 0) (by decide +kernel) rfl (ret_ok (by decide +kernel)) ?_
      cases hx
      exact kr
    have hx := ite_f h12 hx
    by_cases h15 : w32 p2 = 3
    · have hx := ite_t h15 hx
      refine wx_sw (dflt := 71) (lo := 0) (hi := 4) (offs := #[36, 43, 50, 57, 64]) (ln := 36) (a := 0) (b := 0) (zz := 0) (tgt := 77) (q := 57) (by decide +kernel) h15 (by decide) (by decide) (by decide) (by decide) ?_
      refine wp_g 1 (pc1 := 78) (lv1 := [(3, .ref 17), (0, .ref 0), (1, .int (Int32.ofInt p1)), (2, .int (Int32.ofInt p2))]) (st1 := [.ref 17]) (w1 := w) rfl ?_
      refine wx_gr (o := 4) (kf := 145) (ln := 3) (ci := 0) (b := 7) (zz := 0) (x := 17) (by decide +kernel) h (hS _ _ sx_17) rfl ?_
      show wp _ 112 81 [(3, .ref 17), (0, .ref 0), (1, .int (Int32.ofInt p1)), (2, .int (Int32.ofInt p2))] [.ref 21] w _
      refine wp_g 1 (pc1 := 82) (lv1 := [(3, .ref 17), (0, .ref 0), (1, .int (Int32.ofInt p1)), (2, .int (Int32.ofInt p2))]) (st1 := [.int (Int32.ofInt p1), .ref 21]) (w1 := w) rfl ?_
      obtain ⟨i16, e17, hx⟩ := bd hx
      refine wx_ra (x := 21) (n := 8) (ln := 1) (a := 0) (b := 0) (zz := 0) (by decide +kernel) h (hS _ _ sx_21) e17 ?_
      show wp _ 112 83 [(3, .ref 17), (0, .ref 0), (1, .int (Int32.ofInt p1)), (2, .int (Int32.ofInt p2))] [.int (Int32.ofInt (s 21 i16))] w _
      refine wp_rt (i := .ireturn) (r := some (.int (Int32.ofInt (s 21 i16)))) (ln := 1) (a := 0) (b := 0) (z := 0) (by decide +kernel) rfl (ret_ok (by decide +kernel)) ?_
      cases hx
      exact kr
    have hx := ite_f h15 hx
    by_cases h18 : w32 p2 = 4
    · have hx := ite_t h18 hx
      refine wx_sw (dflt := 71) (lo := 0) (hi := 4) (offs := #[36, 43, 50, 57, 64]) (ln := 36) (a := 0) (b := 0) (zz := 0) (tgt := 84) (q := 64) (by decide +kernel) h18 (by decide) (by decide) (by decide) (by decide) ?_
      refine wp_g 1 (pc1 := 85) (lv1 := [(3, .ref 17), (0, .ref 0), (1, .int (Int32.ofInt p1)), (2, .int (Int32.ofInt p2))]) (st1 := [.ref 17]) (w1 := w) rfl ?_
      refine wx_gr (o := 5) (kf := 148) (ln := 3) (ci := 0) (b := 8) (zz := 0) (x := 17) (by decide +kernel) h (hS _ _ sx_17) rfl ?_
      show wp _ 112 88 [(3, .ref 17), (0, .ref 0), (1, .int (Int32.ofInt p1)), (2, .int (Int32.ofInt p2))] [.ref 22] w _
      refine wp_g 1 (pc1 := 89) (lv1 := [(3, .ref 17), (0, .ref 0), (1, .int (Int32.ofInt p1)), (2, .int (Int32.ofInt p2))]) (st1 := [.int (Int32.ofInt p1), .ref 22]) (w1 := w) rfl ?_
      obtain ⟨i19, e20, hx⟩ := bd hx
      refine wx_ra (x := 22) (n := 8) (ln := 1) (a := 0) (b := 0) (zz := 0) (by decide +kernel) h (hS _ _ sx_22) e20 ?_
      show wp _ 112 90 [(3, .ref 17), (0, .ref 0), (1, .int (Int32.ofInt p1)), (2, .int (Int32.ofInt p2))] [.int (Int32.ofInt (s 22 i19))] w _
      refine wp_rt (i := .ireturn) (r := some (.int (Int32.ofInt (s 22 i19)))) (ln := 1) (a := 0) (b := 0) (z := 0) (by decide +kernel) rfl (ret_ok (by decide +kernel)) ?_
      cases hx
      exact kr
    have hx := ite_f h18 hx
    refine wx_sd (dflt := 71) (lo := 0) (hi := 4) (offs := #[36, 43, 50, 57, 64]) (ln := 36) (a := 0) (b := 0) (zz := 0) (tgt := 91) (by decide +kernel) (by omega) (by decide) ?_
    refine wp_g 1 (pc1 := 93) (lv1 := [(3, .ref 17), (0, .ref 0), (1, .int (Int32.ofInt p1)), (2, .int (Int32.ofInt p2))]) (st1 := [.int (Int32.ofInt (-2))]) (w1 := w) rfl ?_
    refine wp_rt (i := .ireturn) (r := some (.int (Int32.ofInt (-2)))) (ln := 1) (a := 0) (b := 0) (z := 0) (by decide +kernel) rfl (ret_ok (by decide +kernel)) ?_
    cases hx
    exact kr
  · have hx := ite_t h5 hx
    refine wp_g 1 (pc1 := 18) (lv1 := [(3, .ref 17), (0, .ref 0), (1, .int (Int32.ofInt p1)), (2, .int (Int32.ofInt p2))]) (st1 := [.int (Int32.ofInt (-2))]) (w1 := w) rfl ?_
    refine wp_rt (i := .ireturn) (r := some (.int (Int32.ofInt (-2)))) (ln := 1) (a := 0) (b := 0) (z := 0) (by decide +kernel) rfl (ret_ok (by decide +kernel)) ?_
    cases hx
    exact kr
/-- FoldDeeds.joint (II)I -/
noncomputable def xf_joint (s : Hp) (p1 : Int) (p2 : Int) : Option Int :=
  (xl_hasJoint s 17 p1).bind fun o1 => if w32 o1 = 0 then some (-1) else if w32 p2 = 0 then (ix 8 p1).bind fun i10 => some (s 23 i10) else if w32 p2 = w32 1 then (ix 8 p1).bind fun i8 => some (s 35 i8) else some (-1)
set_option maxRecDepth 100000 in
theorem xf_joint_ok {d : Nat} {P : Option Value → pm_H → Prop} {w : pm_H} {sh : Shp} {w0 : pm_H} {s : Hp} (hS : St sh) {p1 : Int} {p2 : Int} (h : Rw sh w0 s w) {o : Int} (hx : xf_joint s p1 p2 = some o) (kr : P (some (.int (Int32.ofInt o))) w) : wp (d + 1) 113 0 (lv_args 0 [.ref 0, .int (Int32.ofInt p1), .int (Int32.ofInt p2)]) [] w P := by
  show wp _ 113 0 [(0, .ref 0), (1, .int (Int32.ofInt p1)), (2, .int (Int32.ofInt p2))] [] w _
  unfold xf_joint at hx
  refine wp_g 1 (pc1 := 1) (lv1 := [(0, .ref 0), (1, .int (Int32.ofInt p1)), (2, .int (Int32.ofInt p2))]) (st1 := [.ref 0]) (w1 := w) rfl ?_
  refine wx_gr (o := 16) (kf := 43) (ln := 3) (ci := 11) (b := 5) (zz := 0) (x := 0) (by decide +kernel) h (hS _ _ sx_0) rfl ?_
  show wp _ 113 4 [(0, .ref 0), (1, .int (Int32.ofInt p1)), (2, .int (Int32.ofInt p2))] [.ref 16] w _
  refine wx_gr (o := 1) (kf := 116) (ln := 3) (ci := 7) (b := 0) (zz := 0) (x := 16) (by decide +kernel) h (hS _ _ sx_16) rfl ?_
  show wp _ 113 7 [(0, .ref 0), (1, .int (Int32.ofInt p1)), (2, .int (Int32.ofInt p2))] [.ref 17] w _
  refine wp_g 1 (pc1 := 8) (lv1 := [(0, .ref 0), (1, .int (Int32.ofInt p1)), (2, .int (Int32.ofInt p2))]) (st1 := [.int (Int32.ofInt p1), .ref 17]) (w1 := w) rfl ?_
  obtain ⟨o1, e2, hx⟩ := bd hx
  refine wp_cl [.ref 17, .int (Int32.ofInt p1)] [] (i := .invokevirtual 151) (ln := 3) (a := 6) (b := 0) (z := 0) (by decide +kernel) rfl rfl (by decide) rfl (show (2 : Nat) = pm_na 6 by decide +kernel) (Nat.le_of_ble_eq_true rfl) (show (2 : Nat) ≤ pm_n 6 by decide +kernel) (rcv_x 0 h (hS _ _ sx_17) (by decide +kernel)) (xl_hasJoint_ok (d := d) hS (okC_17 hS) h e2 ?_)
  show wp _ 113 11 [(0, .ref 0), (1, .int (Int32.ofInt p1)), (2, .int (Int32.ofInt p2))] [.int (Int32.ofInt o1)] w _
  refine wz_ne (oo := 5) (ln := 3) (a := 16) (b := 0) (zz := 0) (by decide +kernel) (fun h5 => ?_) (fun h5 => ?_)
  · have hx := ite_f h5 hx
    refine wp_g 1 (pc1 := 17) (lv1 := [(0, .ref 0), (1, .int (Int32.ofInt p1)), (2, .int (Int32.ofInt p2))]) (st1 := [.int (Int32.ofInt p2)]) (w1 := w) rfl ?_
    refine wz_ne (oo := 16) (ln := 3) (a := 33) (b := 0) (zz := 0) (by decide +kernel) (fun h6 => ?_) (fun h6 => ?_)
    · have hx := ite_f h6 hx
      refine wp_g 2 (pc1 := 35) (lv1 := [(0, .ref 0), (1, .int (Int32.ofInt p1)), (2, .int (Int32.ofInt p2))]) (st1 := [.int (Int32.ofInt 1), .int (Int32.ofInt p2)]) (w1 := w) rfl ?_
      refine wx_ne (oo := 15) (ln := 3) (a := 50) (b := 0) (zz := 0) (by decide +kernel) (fun h7 => ?_) (fun h7 => ?_)
      · have hx := ite_f h7 hx
        refine wp_g 1 (pc1 := 51) (lv1 := [(0, .ref 0), (1, .int (Int32.ofInt p1)), (2, .int (Int32.ofInt p2))]) (st1 := [.int (Int32.ofInt (-1))]) (w1 := w) rfl ?_
        refine wp_rt (i := .ireturn) (r := some (.int (Int32.ofInt (-1)))) (ln := 1) (a := 0) (b := 0) (z := 0) (by decide +kernel) rfl (ret_ok (by decide +kernel)) ?_
        cases hx
        exact kr
      · have hx := ite_t h7 hx
        refine wp_g 1 (pc1 := 39) (lv1 := [(0, .ref 0), (1, .int (Int32.ofInt p1)), (2, .int (Int32.ofInt p2))]) (st1 := [.ref 0]) (w1 := w) rfl ?_
        refine wx_gr (o := 16) (kf := 43) (ln := 3) (ci := 11) (b := 5) (zz := 0) (x := 0) (by decide +kernel) h (hS _ _ sx_0) rfl ?_
        show wp _ 113 42 [(0, .ref 0), (1, .int (Int32.ofInt p1)), (2, .int (Int32.ofInt p2))] [.ref 16] w _
        refine wx_gr (o := 19) (kf := 157) (ln := 3) (ci := 7) (b := 2) (zz := 0) (x := 16) (by decide +kernel) h (hS _ _ sx_16) rfl ?_
        show wp _ 113 45 [(0, .ref 0), (1, .int (Int32.ofInt p1)), (2, .int (Int32.ofInt p2))] [.ref 35] w _
        refine wp_g 1 (pc1 := 46) (lv1 := [(0, .ref 0), (1, .int (Int32.ofInt p1)), (2, .int (Int32.ofInt p2))]) (st1 := [.int (Int32.ofInt p1), .ref 35]) (w1 := w) rfl ?_
        obtain ⟨i8, e9, hx⟩ := bd hx
        refine wx_ra (x := 35) (n := 8) (ln := 1) (a := 0) (b := 0) (zz := 0) (by decide +kernel) h (hS _ _ sx_35) e9 ?_
        show wp _ 113 47 [(0, .ref 0), (1, .int (Int32.ofInt p1)), (2, .int (Int32.ofInt p2))] [.int (Int32.ofInt (s 35 i8))] w _
        refine wp_g 1 (pc1 := 51) (lv1 := [(0, .ref 0), (1, .int (Int32.ofInt p1)), (2, .int (Int32.ofInt p2))]) (st1 := [.int (Int32.ofInt (s 35 i8))]) (w1 := w) rfl ?_
        refine wp_rt (i := .ireturn) (r := some (.int (Int32.ofInt (s 35 i8)))) (ln := 1) (a := 0) (b := 0) (z := 0) (by decide +kernel) rfl (ret_ok (by decide +kernel)) ?_
        cases hx
        exact kr
    · have hx := ite_t h6 hx
      refine wp_g 1 (pc1 := 21) (lv1 := [(0, .ref 0), (1, .int (Int32.ofInt p1)), (2, .int (Int32.ofInt p2))]) (st1 := [.ref 0]) (w1 := w) rfl ?_
      refine wx_gr (o := 16) (kf := 43) (ln := 3) (ci := 11) (b := 5) (zz := 0) (x := 0) (by decide +kernel) h (hS _ _ sx_0) rfl ?_
      show wp _ 113 24 [(0, .ref 0), (1, .int (Int32.ofInt p1)), (2, .int (Int32.ofInt p2))] [.ref 16] w _
      refine wx_gr (o := 1) (kf := 116) (ln := 3) (ci := 7) (b := 0) (zz := 0) (x := 16) (by decide +kernel) h (hS _ _ sx_16) rfl ?_
      show wp _ 113 27 [(0, .ref 0), (1, .int (Int32.ofInt p1)), (2, .int (Int32.ofInt p2))] [.ref 17] w _
      refine wx_gr (o := 6) (kf := 154) (ln := 3) (ci := 0) (b := 9) (zz := 0) (x := 17) (by decide +kernel) h (hS _ _ sx_17) rfl ?_
      show wp _ 113 30 [(0, .ref 0), (1, .int (Int32.ofInt p1)), (2, .int (Int32.ofInt p2))] [.ref 23] w _
      refine wp_g 1 (pc1 := 31) (lv1 := [(0, .ref 0), (1, .int (Int32.ofInt p1)), (2, .int (Int32.ofInt p2))]) (st1 := [.int (Int32.ofInt p1), .ref 23]) (w1 := w) rfl ?_
      obtain ⟨i10, e11, hx⟩ := bd hx
      refine wx_ra (x := 23) (n := 8) (ln := 1) (a := 0) (b := 0) (zz := 0) (by decide +kernel) h (hS _ _ sx_23) e11 ?_
      show wp _ 113 32 [(0, .ref 0), (1, .int (Int32.ofInt p1)), (2, .int (Int32.ofInt p2))] [.int (Int32.ofInt (s 23 i10))] w _
      refine wp_rt (i := .ireturn) (r := some (.int (Int32.ofInt (s 23 i10)))) (ln := 1) (a := 0) (b := 0) (z := 0) (by decide +kernel) rfl (ret_ok (by decide +kernel)) ?_
      cases hx
      exact kr
  · have hx := ite_t h5 hx
    refine wp_g 1 (pc1 := 15) (lv1 := [(0, .ref 0), (1, .int (Int32.ofInt p1)), (2, .int (Int32.ofInt p2))]) (st1 := [.int (Int32.ofInt (-1))]) (w1 := w) rfl ?_
    refine wp_rt (i := .ireturn) (r := some (.int (Int32.ofInt (-1)))) (ln := 1) (a := 0) (b := 0) (z := 0) (by decide +kernel) rfl (ret_ok (by decide +kernel)) ?_
    cases hx
    exact kr
/-- FoldDeeds.person (II)I -/
noncomputable def xf_person (s : Hp) (p1 : Int) (p2 : Int) : Option Int :=
  (xl_hasPerson s 17 p1).bind fun o1 => if w32 o1 = 0 then some (-1) else if w32 p2 = 0 then (ix 4 p1).bind fun i12 => some (s 25 i12) else if w32 p2 = w32 1 then (xl_cellsOf s 17 p1).bind fun o8 => some o8 else some (-1)
set_option maxRecDepth 100000 in
theorem xf_person_ok {d : Nat} {P : Option Value → pm_H → Prop} {w : pm_H} {sh : Shp} {w0 : pm_H} {s : Hp} (hS : St sh) {p1 : Int} {p2 : Int} (h : Rw sh w0 s w) {o : Int} (hx : xf_person s p1 p2 = some o) (kr : P (some (.int (Int32.ofInt o))) w) : wp (d + 1) 114 0 (lv_args 0 [.ref 0, .int (Int32.ofInt p1), .int (Int32.ofInt p2)]) [] w P := by
  show wp _ 114 0 [(0, .ref 0), (1, .int (Int32.ofInt p1)), (2, .int (Int32.ofInt p2))] [] w _
  unfold xf_person at hx
  refine wp_g 1 (pc1 := 1) (lv1 := [(0, .ref 0), (1, .int (Int32.ofInt p1)), (2, .int (Int32.ofInt p2))]) (st1 := [.ref 0]) (w1 := w) rfl ?_
  refine wx_gr (o := 16) (kf := 43) (ln := 3) (ci := 11) (b := 5) (zz := 0) (x := 0) (by decide +kernel) h (hS _ _ sx_0) rfl ?_
  show wp _ 114 4 [(0, .ref 0), (1, .int (Int32.ofInt p1)), (2, .int (Int32.ofInt p2))] [.ref 16] w _
  refine wx_gr (o := 1) (kf := 116) (ln := 3) (ci := 7) (b := 0) (zz := 0) (x := 16) (by decide +kernel) h (hS _ _ sx_16) rfl ?_
  show wp _ 114 7 [(0, .ref 0), (1, .int (Int32.ofInt p1)), (2, .int (Int32.ofInt p2))] [.ref 17] w _
  refine wp_g 1 (pc1 := 8) (lv1 := [(0, .ref 0), (1, .int (Int32.ofInt p1)), (2, .int (Int32.ofInt p2))]) (st1 := [.int (Int32.ofInt p1), .ref 17]) (w1 := w) rfl ?_
  obtain ⟨o1, e2, hx⟩ := bd hx
  refine wp_cl [.ref 17, .int (Int32.ofInt p1)] [] (i := .invokevirtual 160) (ln := 3) (a := 7) (b := 0) (z := 0) (by decide +kernel) rfl rfl (by decide) rfl (show (2 : Nat) = pm_na 7 by decide +kernel) (Nat.le_of_ble_eq_true rfl) (show (2 : Nat) ≤ pm_n 7 by decide +kernel) (rcv_x 0 h (hS _ _ sx_17) (by decide +kernel)) (xl_hasPerson_ok (d := d) hS (okC_17 hS) h e2 ?_)
  show wp _ 114 11 [(0, .ref 0), (1, .int (Int32.ofInt p1)), (2, .int (Int32.ofInt p2))] [.int (Int32.ofInt o1)] w _
  refine wz_ne (oo := 5) (ln := 3) (a := 16) (b := 0) (zz := 0) (by decide +kernel) (fun h5 => ?_) (fun h5 => ?_)
  · have hx := ite_f h5 hx
    refine wp_g 1 (pc1 := 17) (lv1 := [(0, .ref 0), (1, .int (Int32.ofInt p1)), (2, .int (Int32.ofInt p2))]) (st1 := [.int (Int32.ofInt p2)]) (w1 := w) rfl ?_
    refine wz_ne (oo := 16) (ln := 3) (a := 33) (b := 0) (zz := 0) (by decide +kernel) (fun h6 => ?_) (fun h6 => ?_)
    · have hx := ite_f h6 hx
      refine wp_g 2 (pc1 := 35) (lv1 := [(0, .ref 0), (1, .int (Int32.ofInt p1)), (2, .int (Int32.ofInt p2))]) (st1 := [.int (Int32.ofInt 1), .int (Int32.ofInt p2)]) (w1 := w) rfl ?_
      refine wx_ne (oo := 17) (ln := 3) (a := 52) (b := 0) (zz := 0) (by decide +kernel) (fun h7 => ?_) (fun h7 => ?_)
      · have hx := ite_f h7 hx
        refine wp_g 1 (pc1 := 53) (lv1 := [(0, .ref 0), (1, .int (Int32.ofInt p1)), (2, .int (Int32.ofInt p2))]) (st1 := [.int (Int32.ofInt (-1))]) (w1 := w) rfl ?_
        refine wp_rt (i := .ireturn) (r := some (.int (Int32.ofInt (-1)))) (ln := 1) (a := 0) (b := 0) (z := 0) (by decide +kernel) rfl (ret_ok (by decide +kernel)) ?_
        cases hx
        exact kr
      · have hx := ite_t h7 hx
        refine wp_g 1 (pc1 := 39) (lv1 := [(0, .ref 0), (1, .int (Int32.ofInt p1)), (2, .int (Int32.ofInt p2))]) (st1 := [.ref 0]) (w1 := w) rfl ?_
        refine wx_gr (o := 16) (kf := 43) (ln := 3) (ci := 11) (b := 5) (zz := 0) (x := 0) (by decide +kernel) h (hS _ _ sx_0) rfl ?_
        show wp _ 114 42 [(0, .ref 0), (1, .int (Int32.ofInt p1)), (2, .int (Int32.ofInt p2))] [.ref 16] w _
        refine wx_gr (o := 1) (kf := 116) (ln := 3) (ci := 7) (b := 0) (zz := 0) (x := 16) (by decide +kernel) h (hS _ _ sx_16) rfl ?_
        show wp _ 114 45 [(0, .ref 0), (1, .int (Int32.ofInt p1)), (2, .int (Int32.ofInt p2))] [.ref 17] w _
        refine wp_g 1 (pc1 := 46) (lv1 := [(0, .ref 0), (1, .int (Int32.ofInt p1)), (2, .int (Int32.ofInt p2))]) (st1 := [.int (Int32.ofInt p1), .ref 17]) (w1 := w) rfl ?_
        obtain ⟨o8, e9, hx⟩ := bd hx
        refine wp_cl [.ref 17, .int (Int32.ofInt p1)] [] (i := .invokevirtual 166) (ln := 3) (a := 10) (b := 0) (z := 0) (by decide +kernel) rfl rfl (by decide) rfl (show (2 : Nat) = pm_na 10 by decide +kernel) (Nat.le_of_ble_eq_true rfl) (show (2 : Nat) ≤ pm_n 10 by decide +kernel) (rcv_x 0 h (hS _ _ sx_17) (by decide +kernel)) (xl_cellsOf_ok (d := d) hS (okC_17 hS) h e9 ?_)
        show wp _ 114 49 [(0, .ref 0), (1, .int (Int32.ofInt p1)), (2, .int (Int32.ofInt p2))] [.int (Int32.ofInt o8)] w _
        refine wp_g 1 (pc1 := 53) (lv1 := [(0, .ref 0), (1, .int (Int32.ofInt p1)), (2, .int (Int32.ofInt p2))]) (st1 := [.int (Int32.ofInt o8)]) (w1 := w) rfl ?_
        refine wp_rt (i := .ireturn) (r := some (.int (Int32.ofInt o8))) (ln := 1) (a := 0) (b := 0) (z := 0) (by decide +kernel) rfl (ret_ok (by decide +kernel)) ?_
        cases hx
        exact kr
    · have hx := ite_t h6 hx
      refine wp_g 1 (pc1 := 21) (lv1 := [(0, .ref 0), (1, .int (Int32.ofInt p1)), (2, .int (Int32.ofInt p2))]) (st1 := [.ref 0]) (w1 := w) rfl ?_
      refine wx_gr (o := 16) (kf := 43) (ln := 3) (ci := 11) (b := 5) (zz := 0) (x := 0) (by decide +kernel) h (hS _ _ sx_0) rfl ?_
      show wp _ 114 24 [(0, .ref 0), (1, .int (Int32.ofInt p1)), (2, .int (Int32.ofInt p2))] [.ref 16] w _
      refine wx_gr (o := 1) (kf := 116) (ln := 3) (ci := 7) (b := 0) (zz := 0) (x := 16) (by decide +kernel) h (hS _ _ sx_16) rfl ?_
      show wp _ 114 27 [(0, .ref 0), (1, .int (Int32.ofInt p1)), (2, .int (Int32.ofInt p2))] [.ref 17] w _
      refine wx_gr (o := 8) (kf := 163) (ln := 3) (ci := 0) (b := 11) (zz := 0) (x := 17) (by decide +kernel) h (hS _ _ sx_17) rfl ?_
      show wp _ 114 30 [(0, .ref 0), (1, .int (Int32.ofInt p1)), (2, .int (Int32.ofInt p2))] [.ref 25] w _
      refine wp_g 1 (pc1 := 31) (lv1 := [(0, .ref 0), (1, .int (Int32.ofInt p1)), (2, .int (Int32.ofInt p2))]) (st1 := [.int (Int32.ofInt p1), .ref 25]) (w1 := w) rfl ?_
      obtain ⟨i12, e13, hx⟩ := bd hx
      refine wx_ra (x := 25) (n := 4) (ln := 1) (a := 0) (b := 0) (zz := 0) (by decide +kernel) h (hS _ _ sx_25) e13 ?_
      show wp _ 114 32 [(0, .ref 0), (1, .int (Int32.ofInt p1)), (2, .int (Int32.ofInt p2))] [.int (Int32.ofInt (s 25 i12))] w _
      refine wp_rt (i := .ireturn) (r := some (.int (Int32.ofInt (s 25 i12)))) (ln := 1) (a := 0) (b := 0) (z := 0) (by decide +kernel) rfl (ret_ok (by decide +kernel)) ?_
      cases hx
      exact kr
  · have hx := ite_t h5 hx
    refine wp_g 1 (pc1 := 15) (lv1 := [(0, .ref 0), (1, .int (Int32.ofInt p1)), (2, .int (Int32.ofInt p2))]) (st1 := [.int (Int32.ofInt (-1))]) (w1 := w) rfl ?_
    refine wp_rt (i := .ireturn) (r := some (.int (Int32.ofInt (-1)))) (ln := 1) (a := 0) (b := 0) (z := 0) (by decide +kernel) rfl (ret_ok (by decide +kernel)) ?_
    cases hx
    exact kr
/-- FoldDeeds.thick (I)I -/
noncomputable def xf_thick (s : Hp) (p1 : Int) : Option Int :=
  if w32 p1 < 0 then some (-1) else if w32 p1 < w32 (s 17 2) then (ix 8 p1).bind fun i3 => some (s 24 i3) else some (-1)
set_option maxRecDepth 100000 in
theorem xf_thick_ok {d : Nat} {P : Option Value → pm_H → Prop} {w : pm_H} {sh : Shp} {w0 : pm_H} {s : Hp} (hS : St sh) {p1 : Int} (h : Rw sh w0 s w) {o : Int} (hx : xf_thick s p1 = some o) (kr : P (some (.int (Int32.ofInt o))) w) : wp d 115 0 (lv_args 0 [.ref 0, .int (Int32.ofInt p1)]) [] w P := by
  show wp _ 115 0 [(0, .ref 0), (1, .int (Int32.ofInt p1))] [] w _
  unfold xf_thick at hx
  refine wp_g 1 (pc1 := 1) (lv1 := [(0, .ref 0), (1, .int (Int32.ofInt p1))]) (st1 := [.int (Int32.ofInt p1)]) (w1 := w) rfl ?_
  refine wz_lt (oo := 17) (ln := 3) (a := 18) (b := 0) (zz := 0) (by decide +kernel) (fun h1 => ?_) (fun h1 => ?_)
  · have hx := ite_t h1 hx
    refine wp_g 1 (pc1 := 19) (lv1 := [(0, .ref 0), (1, .int (Int32.ofInt p1))]) (st1 := [.int (Int32.ofInt (-1))]) (w1 := w) rfl ?_
    refine wp_rt (i := .ireturn) (r := some (.int (Int32.ofInt (-1)))) (ln := 1) (a := 0) (b := 0) (z := 0) (by decide +kernel) rfl (ret_ok (by decide +kernel)) ?_
    cases hx
    exact kr
  · have hx := ite_f h1 hx
    refine wp_g 2 (pc1 := 6) (lv1 := [(0, .ref 0), (1, .int (Int32.ofInt p1))]) (st1 := [.ref 0, .int (Int32.ofInt p1)]) (w1 := w) rfl ?_
    refine wx_gr (o := 16) (kf := 43) (ln := 3) (ci := 11) (b := 5) (zz := 0) (x := 0) (by decide +kernel) h (hS _ _ sx_0) rfl ?_
    show wp _ 115 9 [(0, .ref 0), (1, .int (Int32.ofInt p1))] [.ref 16, .int (Int32.ofInt p1)] w _
    refine wx_gr (o := 1) (kf := 116) (ln := 3) (ci := 7) (b := 0) (zz := 0) (x := 16) (by decide +kernel) h (hS _ _ sx_16) rfl ?_
    show wp _ 115 12 [(0, .ref 0), (1, .int (Int32.ofInt p1))] [.ref 17, .int (Int32.ofInt p1)] w _
    refine wx_gi (kf := 170) (ln := 3) (ci := 0) (b := 2) (zz := 0) (x := 17) (by decide +kernel) h (hS _ _ sx_17) rfl ?_
    show wp _ 115 15 [(0, .ref 0), (1, .int (Int32.ofInt p1))] [.int (Int32.ofInt (s 17 2)), .int (Int32.ofInt p1)] w _
    refine wx_lt (oo := 5) (ln := 3) (a := 20) (b := 0) (zz := 0) (by decide +kernel) (fun h2 => ?_) (fun h2 => ?_)
    · have hx := ite_t h2 hx
      refine wp_g 1 (pc1 := 21) (lv1 := [(0, .ref 0), (1, .int (Int32.ofInt p1))]) (st1 := [.ref 0]) (w1 := w) rfl ?_
      refine wx_gr (o := 16) (kf := 43) (ln := 3) (ci := 11) (b := 5) (zz := 0) (x := 0) (by decide +kernel) h (hS _ _ sx_0) rfl ?_
      show wp _ 115 24 [(0, .ref 0), (1, .int (Int32.ofInt p1))] [.ref 16] w _
      refine wx_gr (o := 1) (kf := 116) (ln := 3) (ci := 7) (b := 0) (zz := 0) (x := 16) (by decide +kernel) h (hS _ _ sx_16) rfl ?_
      show wp _ 115 27 [(0, .ref 0), (1, .int (Int32.ofInt p1))] [.ref 17] w _
      refine wx_gr (o := 7) (kf := 173) (ln := 3) (ci := 0) (b := 10) (zz := 0) (x := 17) (by decide +kernel) h (hS _ _ sx_17) rfl ?_
      show wp _ 115 30 [(0, .ref 0), (1, .int (Int32.ofInt p1))] [.ref 24] w _
      refine wp_g 1 (pc1 := 31) (lv1 := [(0, .ref 0), (1, .int (Int32.ofInt p1))]) (st1 := [.int (Int32.ofInt p1), .ref 24]) (w1 := w) rfl ?_
      obtain ⟨i3, e4, hx⟩ := bd hx
      refine wx_ra (x := 24) (n := 8) (ln := 1) (a := 0) (b := 0) (zz := 0) (by decide +kernel) h (hS _ _ sx_24) e4 ?_
      show wp _ 115 32 [(0, .ref 0), (1, .int (Int32.ofInt p1))] [.int (Int32.ofInt (s 24 i3))] w _
      refine wp_rt (i := .ireturn) (r := some (.int (Int32.ofInt (s 24 i3)))) (ln := 1) (a := 0) (b := 0) (z := 0) (by decide +kernel) rfl (ret_ok (by decide +kernel)) ?_
      cases hx
      exact kr
    · have hx := ite_f h2 hx
      refine wp_g 1 (pc1 := 19) (lv1 := [(0, .ref 0), (1, .int (Int32.ofInt p1))]) (st1 := [.int (Int32.ofInt (-1))]) (w1 := w) rfl ?_
      refine wp_rt (i := .ireturn) (r := some (.int (Int32.ofInt (-1)))) (ln := 1) (a := 0) (b := 0) (z := 0) (by decide +kernel) rfl (ret_ok (by decide +kernel)) ?_
      cases hx
      exact kr
/-- FoldDeeds.ruleOf (I)LRule; -/
noncomputable def xf_ruleOf (ln : Nat → Nat) (rs : Nat → Int) (s : Hp) (p1 : Int) : Option Int :=
  if w32 p1 < 0 then some (-1) else if w32 p1 < w32 (s 0 4) then (ix 6 p1).bind fun i3 => (rsA (s 15 i3) (rs i3)).bind fun y5 => some y5 else some (-1)
set_option maxRecDepth 100000 in
theorem xf_ruleOf_ok {d : Nat} {P : Option Value → pm_H → Prop} {w : pm_H} {sh : Shp} {w0 : pm_H} {s : Hp} (hS : St sh) {ln : Nat → Nat} {rs : Nat → Int} (hG : ∀ i, okR ln sh (rs i)) {p1 : Int} (h : Rw sh w0 s w) {o : Int} (hx : xf_ruleOf ln rs s p1 = some o) (kr : okR ln sh o → P (some (vR o)) w) : wp d 139 0 (lv_args 0 [.ref 0, .int (Int32.ofInt p1)]) [] w P := by
  show wp _ 139 0 [(0, .ref 0), (1, .int (Int32.ofInt p1))] [] w _
  unfold xf_ruleOf at hx
  refine wp_g 1 (pc1 := 1) (lv1 := [(0, .ref 0), (1, .int (Int32.ofInt p1))]) (st1 := [.int (Int32.ofInt p1)]) (w1 := w) rfl ?_
  refine wz_lt (oo := 20) (ln := 3) (a := 21) (b := 0) (zz := 0) (by decide +kernel) (fun h1 => ?_) (fun h1 => ?_)
  · have hx := ite_t h1 hx
    refine wp_g 1 (pc1 := 22) (lv1 := [(0, .ref 0), (1, .int (Int32.ofInt p1))]) (st1 := [.null]) (w1 := w) rfl ?_
    rw [← vR_m1]
    refine wp_rt (i := .areturn) (r := some (vR (-1))) (ln := 1) (a := 0) (b := 0) (z := 0) (by decide +kernel) rfl ret_a ?_
    cases hx
    exact kr (okR_n (by decide))
  · have hx := ite_f h1 hx
    refine wp_g 2 (pc1 := 6) (lv1 := [(0, .ref 0), (1, .int (Int32.ofInt p1))]) (st1 := [.ref 0, .int (Int32.ofInt p1)]) (w1 := w) rfl ?_
    refine wx_gi (kf := 36) (ln := 3) (ci := 11) (b := 4) (zz := 0) (x := 0) (by decide +kernel) h (hS _ _ sx_0) rfl ?_
    show wp _ 139 9 [(0, .ref 0), (1, .int (Int32.ofInt p1))] [.int (Int32.ofInt (s 0 4)), .int (Int32.ofInt p1)] w _
    refine wx_ge (oo := 12) (ln := 3) (a := 21) (b := 0) (zz := 0) (by decide +kernel) (fun h2 => ?_) (fun h2 => ?_)
    · have hx := ite_f h2 hx
      refine wp_g 1 (pc1 := 22) (lv1 := [(0, .ref 0), (1, .int (Int32.ofInt p1))]) (st1 := [.null]) (w1 := w) rfl ?_
      rw [← vR_m1]
      refine wp_rt (i := .areturn) (r := some (vR (-1))) (ln := 1) (a := 0) (b := 0) (z := 0) (by decide +kernel) rfl ret_a ?_
      cases hx
      exact kr (okR_n (by decide))
    · have hx := ite_t h2 hx
      refine wp_g 1 (pc1 := 13) (lv1 := [(0, .ref 0), (1, .int (Int32.ofInt p1))]) (st1 := [.ref 0]) (w1 := w) rfl ?_
      refine wx_gr (o := 15) (kf := 32) (ln := 3) (ci := 11) (b := 3) (zz := 0) (x := 0) (by decide +kernel) h (hS _ _ sx_0) rfl ?_
      show wp _ 139 16 [(0, .ref 0), (1, .int (Int32.ofInt p1))] [.ref 15] w _
      refine wp_g 1 (pc1 := 17) (lv1 := [(0, .ref 0), (1, .int (Int32.ofInt p1))]) (st1 := [.int (Int32.ofInt p1), .ref 15]) (w1 := w) rfl ?_
      obtain ⟨i3, e4, hx⟩ := bd hx
      refine wx_rr (x := 15) (n := 6) (ln := 1) (a := 0) (b := 0) (zz := 0) (by decide +kernel) h (hS _ _ sx_15) (by decide) e4 ?_
      obtain ⟨y5, e6, hx⟩ := bd hx
      have cy5 : okR ln sh y5 := by rw [(rsA_e e6).2]; exact hG _
      rw [(rsA_e e6).1, ← (rsA_e e6).2]
      show wp _ 139 18 [(0, .ref 0), (1, .int (Int32.ofInt p1))] [vR y5] w _
      refine wp_g 1 (pc1 := 22) (lv1 := [(0, .ref 0), (1, .int (Int32.ofInt p1))]) (st1 := [vR y5]) (w1 := w) (by rcases vR_c y5 with e | ⟨_, e⟩ <;> simp only [e] <;> rfl) ?_
      refine wp_rt (i := .areturn) (r := some (vR y5)) (ln := 1) (a := 0) (b := 0) (z := 0) (by decide +kernel) rfl ret_a ?_
      cases hx
      exact kr cy5
/-- FoldDeeds.ruleInForce ()LRule; -/
noncomputable def xf_ruleInForce (ln : Nat → Nat) (rs : Nat → Int) (s : Hp) : Option Int :=
  (xf_ruleOf ln rs s (s 16 6)).bind fun o1 => some o1
set_option maxRecDepth 100000 in
theorem xf_ruleInForce_ok {d : Nat} {P : Option Value → pm_H → Prop} {w : pm_H} {sh : Shp} {w0 : pm_H} {s : Hp} (hS : St sh) {ln : Nat → Nat} {rs : Nat → Int} (hG : ∀ i, okR ln sh (rs i)) (h : Rw sh w0 s w) {o : Int} (hx : xf_ruleInForce ln rs s = some o) (kr : okR ln sh o → P (some (vR o)) w) : wp (d + 1) 138 0 (lv_args 0 [.ref 0]) [] w P := by
  show wp _ 138 0 [(0, .ref 0)] [] w _
  unfold xf_ruleInForce at hx
  refine wp_g 2 (pc1 := 2) (lv1 := [(0, .ref 0)]) (st1 := [.ref 0, .ref 0]) (w1 := w) rfl ?_
  refine wx_gr (o := 16) (kf := 43) (ln := 3) (ci := 11) (b := 5) (zz := 0) (x := 0) (by decide +kernel) h (hS _ _ sx_0) rfl ?_
  show wp _ 138 5 [(0, .ref 0)] [.ref 16, .ref 0] w _
  refine wx_gi (kf := 129) (ln := 3) (ci := 7) (b := 6) (zz := 0) (x := 16) (by decide +kernel) h (hS _ _ sx_16) rfl ?_
  show wp _ 138 8 [(0, .ref 0)] [.int (Int32.ofInt (s 16 6)), .ref 0] w _
  obtain ⟨o1, e2, hx⟩ := bd hx
  refine wp_cl [.ref 0, .int (Int32.ofInt (s 16 6))] [] (i := .invokevirtual 293) (ln := 3) (a := 139) (b := 0) (z := 0) (by decide +kernel) rfl rfl (by decide) rfl (show (2 : Nat) = pm_na 139 by decide +kernel) (Nat.le_of_ble_eq_true rfl) (show (2 : Nat) ≤ pm_n 139 by decide +kernel) (rcv_x 11 h (hS _ _ sx_0) (by decide +kernel)) (xf_ruleOf_ok (d := d) hS hG h e2 (fun h5 => ?_))
  show wp _ 138 11 [(0, .ref 0)] [vR o1] w _
  refine wp_rt (i := .areturn) (r := some (vR o1)) (ln := 1) (a := 0) (b := 0) (z := 0) (by decide +kernel) rfl ret_a ?_
  cases hx
  exact kr h5
/-- FoldDeeds.cost (IIII)I -/
noncomputable def xf_cost (ln : Nat → Nat) (rs : Nat → Int) (s : Hp) (p1 : Int) (p2 : Int) (p3 : Int) (p4 : Int) : Option (Int × Hp) :=
  (xl_hasPerson s 17 p1).bind fun o1 => if w32 o1 = 0 then some ((-1), s) else (xl_hasFold s 17 p2 p3 p4).bind fun o6 => if w32 o6 = 0 then some ((-1), s) else (xf_ruleInForce ln rs s).bind fun o11 => (xk_quote ln rs s 17 o11 p1 (((4 * p2) + (2 * p3)) + p4)).bind fun o16 => some (o16.1, o16.2)
set_option maxRecDepth 100000 in
theorem xf_cost_ok {d : Nat} {P : Option Value → pm_H → Prop} {w : pm_H} {sh : Shp} {w0 : pm_H} {s : Hp} (hS : St sh) {ln : Nat → Nat} {rs : Nat → Int} (hG : ∀ i, okR ln sh (rs i)) {p1 : Int} {p2 : Int} {p3 : Int} {p4 : Int} (h : Rw sh w0 s w) {o : Int × Hp} (hx : xf_cost ln rs s p1 p2 p3 p4 = some o) (kr : ∀ w1, Rw sh w0 o.2 w1 → P (some (.int (Int32.ofInt o.1))) w1) : wp (d + 8) 121 0 (lv_args 0 [.ref 0, .int (Int32.ofInt p1), .int (Int32.ofInt p2), .int (Int32.ofInt p3), .int (Int32.ofInt p4)]) [] w P := by
  show wp _ 121 0 [(0, .ref 0), (1, .int (Int32.ofInt p1)), (2, .int (Int32.ofInt p2)), (3, .int (Int32.ofInt p3)), (4, .int (Int32.ofInt p4))] [] w _
  unfold xf_cost at hx
  refine wp_g 1 (pc1 := 1) (lv1 := [(0, .ref 0), (1, .int (Int32.ofInt p1)), (2, .int (Int32.ofInt p2)), (3, .int (Int32.ofInt p3)), (4, .int (Int32.ofInt p4))]) (st1 := [.ref 0]) (w1 := w) rfl ?_
  refine wx_gr (o := 16) (kf := 43) (ln := 3) (ci := 11) (b := 5) (zz := 0) (x := 0) (by decide +kernel) h (hS _ _ sx_0) rfl ?_
  show wp _ 121 4 [(0, .ref 0), (1, .int (Int32.ofInt p1)), (2, .int (Int32.ofInt p2)), (3, .int (Int32.ofInt p3)), (4, .int (Int32.ofInt p4))] [.ref 16] w _
  refine wx_gr (o := 1) (kf := 116) (ln := 3) (ci := 7) (b := 0) (zz := 0) (x := 16) (by decide +kernel) h (hS _ _ sx_16) rfl ?_
  show wp _ 121 7 [(0, .ref 0), (1, .int (Int32.ofInt p1)), (2, .int (Int32.ofInt p2)), (3, .int (Int32.ofInt p3)), (4, .int (Int32.ofInt p4))] [.ref 17] w _
  refine wp_g 3 (pc1 := 12) (lv1 := [(5, .ref 17), (0, .ref 0), (1, .int (Int32.ofInt p1)), (2, .int (Int32.ofInt p2)), (3, .int (Int32.ofInt p3)), (4, .int (Int32.ofInt p4))]) (st1 := [.int (Int32.ofInt p1), .ref 17]) (w1 := w) rfl ?_
  obtain ⟨o1, e2, hx⟩ := bd hx
  refine wp_cl [.ref 17, .int (Int32.ofInt p1)] [] (i := .invokevirtual 160) (ln := 3) (a := 7) (b := 0) (z := 0) (by decide +kernel) rfl rfl (by decide) rfl (show (2 : Nat) = pm_na 7 by decide +kernel) (Nat.le_of_ble_eq_true rfl) (show (2 : Nat) ≤ pm_n 7 by decide +kernel) (rcv_x 0 h (hS _ _ sx_17) (by decide +kernel)) (xl_hasPerson_ok (d := d + 7) hS (okC_17 hS) h e2 ?_)
  show wp _ 121 15 [(5, .ref 17), (0, .ref 0), (1, .int (Int32.ofInt p1)), (2, .int (Int32.ofInt p2)), (3, .int (Int32.ofInt p3)), (4, .int (Int32.ofInt p4))] [.int (Int32.ofInt o1)] w _
  refine wz_eq (oo := 15) (ln := 3) (a := 30) (b := 0) (zz := 0) (by decide +kernel) (fun h5 => ?_) (fun h5 => ?_)
  · have hx := ite_t h5 hx
    refine wp_g 1 (pc1 := 31) (lv1 := [(5, .ref 17), (0, .ref 0), (1, .int (Int32.ofInt p1)), (2, .int (Int32.ofInt p2)), (3, .int (Int32.ofInt p3)), (4, .int (Int32.ofInt p4))]) (st1 := [.int (Int32.ofInt (-1))]) (w1 := w) rfl ?_
    refine wp_rt (i := .ireturn) (r := some (.int (Int32.ofInt (-1)))) (ln := 1) (a := 0) (b := 0) (z := 0) (by decide +kernel) rfl (ret_ok (by decide +kernel)) ?_
    cases hx
    exact kr _ h
  · have hx := ite_f h5 hx
    refine wp_g 4 (pc1 := 24) (lv1 := [(5, .ref 17), (0, .ref 0), (1, .int (Int32.ofInt p1)), (2, .int (Int32.ofInt p2)), (3, .int (Int32.ofInt p3)), (4, .int (Int32.ofInt p4))]) (st1 := [.int (Int32.ofInt p4), .int (Int32.ofInt p3), .int (Int32.ofInt p2), .ref 17]) (w1 := w) rfl ?_
    obtain ⟨o6, e7, hx⟩ := bd hx
    refine wp_cl [.ref 17, .int (Int32.ofInt p2), .int (Int32.ofInt p3), .int (Int32.ofInt p4)] [] (i := .invokevirtual 176) (ln := 3) (a := 8) (b := 0) (z := 0) (by decide +kernel) rfl rfl (by decide) rfl (show (4 : Nat) = pm_na 8 by decide +kernel) (Nat.le_of_ble_eq_true rfl) (show (4 : Nat) ≤ pm_n 8 by decide +kernel) (rcv_x 0 h (hS _ _ sx_17) (by decide +kernel)) (xl_hasFold_ok (d := d + 7) hS (okC_17 hS) h e7 ?_)
    show wp _ 121 27 [(5, .ref 17), (0, .ref 0), (1, .int (Int32.ofInt p1)), (2, .int (Int32.ofInt p2)), (3, .int (Int32.ofInt p3)), (4, .int (Int32.ofInt p4))] [.int (Int32.ofInt o6)] w _
    refine wz_ne (oo := 5) (ln := 3) (a := 32) (b := 0) (zz := 0) (by decide +kernel) (fun h10 => ?_) (fun h10 => ?_)
    · have hx := ite_f h10 hx
      refine wp_g 1 (pc1 := 33) (lv1 := [(5, .ref 17), (0, .ref 0), (1, .int (Int32.ofInt p1)), (2, .int (Int32.ofInt p2)), (3, .int (Int32.ofInt p3)), (4, .int (Int32.ofInt p4))]) (st1 := [.ref 0]) (w1 := w) rfl ?_
      refine wx_gr (o := 41) (kf := 61) (ln := 3) (ci := 11) (b := 8) (zz := 0) (x := 0) (by decide +kernel) h (hS _ _ sx_0) rfl ?_
      show wp _ 121 36 [(5, .ref 17), (0, .ref 0), (1, .int (Int32.ofInt p1)), (2, .int (Int32.ofInt p2)), (3, .int (Int32.ofInt p3)), (4, .int (Int32.ofInt p4))] [.ref 41] w _
      refine wp_g 2 (pc1 := 39) (lv1 := [(5, .ref 17), (0, .ref 0), (1, .int (Int32.ofInt p1)), (2, .int (Int32.ofInt p2)), (3, .int (Int32.ofInt p3)), (4, .int (Int32.ofInt p4))]) (st1 := [.ref 0, .ref 17, .ref 41]) (w1 := w) rfl ?_
      obtain ⟨o11, e12, hx⟩ := bd hx
      refine wp_cl [.ref 0] [.ref 17, .ref 41] (i := .invokevirtual 180) (ln := 3) (a := 138) (b := 0) (z := 0) (by decide +kernel) rfl rfl (by decide) rfl (show (1 : Nat) = pm_na 138 by decide +kernel) (Nat.le_of_ble_eq_true rfl) (show (1 : Nat) ≤ pm_n 138 by decide +kernel) (rcv_x 11 h (hS _ _ sx_0) (by decide +kernel)) (xf_ruleInForce_ok (d := d + 6) hS hG h e12 (fun h15 => ?_))
      show wp _ 121 42 [(5, .ref 17), (0, .ref 0), (1, .int (Int32.ofInt p1)), (2, .int (Int32.ofInt p2)), (3, .int (Int32.ofInt p3)), (4, .int (Int32.ofInt p4))] [vR o11, .ref 17, .ref 41] w _
      refine wp_g 10 (pc1 := 53) (lv1 := [(5, .ref 17), (0, .ref 0), (1, .int (Int32.ofInt p1)), (2, .int (Int32.ofInt p2)), (3, .int (Int32.ofInt p3)), (4, .int (Int32.ofInt p4))]) (st1 := [.int (Int32.ofInt (((4 * p2) + (2 * p3)) + p4)), .int (Int32.ofInt p1), vR o11, .ref 17, .ref 41]) (w1 := w) (by simp only [Int32.ofInt_add, Int32.ofInt_sub, Int32.ofInt_mul, Int32.ofInt_neg, p_and, p_or, p_xor, p_shl, p_shr, p_usr, p_w8, p_c16, p_lI, q_and, q_or, q_shl, q_shr, q_w32, Int64.ofInt_add, Int64.ofInt_sub, Int64.ofInt_mul, p_mx, p_mn, q_mx, q_mn]; rcases vR_c o11 with e | ⟨_, e⟩ <;> simp only [e] <;> rfl) ?_
      obtain ⟨o16, e17, hx⟩ := bd hx
      refine wp_cl [.ref 41, .ref 17, vR o11, .int (Int32.ofInt p1), .int (Int32.ofInt (((4 * p2) + (2 * p3)) + p4))] [] (i := .invokevirtual 183) (ln := 3) (a := 36) (b := 0) (z := 0) (by decide +kernel) rfl rfl (by decide) rfl (show (5 : Nat) = pm_na 36 by decide +kernel) (Nat.le_of_ble_eq_true rfl) (by rcases vR_c o11 with e | ⟨_, e⟩ <;> simp only [e] <;> exact (show (5 : Nat) ≤ pm_n 36 by decide +kernel)) (rcv_x 3 h (hS _ _ sx_41) (by decide +kernel)) (xk_quote_ok (d := d) hS hG (okC_17 hS) h15 h e17 (fun w18 h19 => ?_))
      show wp _ 121 56 [(5, .ref 17), (0, .ref 0), (1, .int (Int32.ofInt p1)), (2, .int (Int32.ofInt p2)), (3, .int (Int32.ofInt p3)), (4, .int (Int32.ofInt p4))] [.int (Int32.ofInt o16.1)] w18 _
      refine wp_rt (i := .ireturn) (r := some (.int (Int32.ofInt o16.1))) (ln := 1) (a := 0) (b := 0) (z := 0) (by decide +kernel) rfl (ret_ok (by decide +kernel)) ?_
      cases hx
      exact kr _ h19
    · have hx := ite_t h10 hx
      refine wp_g 1 (pc1 := 31) (lv1 := [(5, .ref 17), (0, .ref 0), (1, .int (Int32.ofInt p1)), (2, .int (Int32.ofInt p2)), (3, .int (Int32.ofInt p3)), (4, .int (Int32.ofInt p4))]) (st1 := [.int (Int32.ofInt (-1))]) (w1 := w) rfl ?_
      refine wp_rt (i := .ireturn) (r := some (.int (Int32.ofInt (-1)))) (ln := 1) (a := 0) (b := 0) (z := 0) (by decide +kernel) rfl (ret_ok (by decide +kernel)) ?_
      cases hx
      exact kr _ h
/-- FoldDeeds.mark (II)I -/
noncomputable def xf_mark (s : Hp) (p1 : Int) (p2 : Int) : Option (Int × Hp) :=
  (xl_hasJoint s 17 p1).bind fun o1 => if w32 o1 = 0 then some ((-1), s) else if w32 p2 < 0 then some ((-1), s) else if w32 2 < w32 p2 then some ((-1), s) else (ix 8 p1).bind fun i8 => (some (uh s 35 i8 p2)).bind fun s10 => some (s 35 i8, s10)
set_option maxRecDepth 100000 in
theorem xf_mark_ok {d : Nat} {P : Option Value → pm_H → Prop} {w : pm_H} {sh : Shp} {w0 : pm_H} {s : Hp} (hS : St sh) {p1 : Int} {p2 : Int} (h : Rw sh w0 s w) {o : Int × Hp} (hx : xf_mark s p1 p2 = some o) (kr : ∀ w1, Rw sh w0 o.2 w1 → P (some (.int (Int32.ofInt o.1))) w1) : wp (d + 1) 122 0 (lv_args 0 [.ref 0, .int (Int32.ofInt p1), .int (Int32.ofInt p2)]) [] w P := by
  show wp _ 122 0 [(0, .ref 0), (1, .int (Int32.ofInt p1)), (2, .int (Int32.ofInt p2))] [] w _
  unfold xf_mark at hx
  refine wp_g 1 (pc1 := 1) (lv1 := [(0, .ref 0), (1, .int (Int32.ofInt p1)), (2, .int (Int32.ofInt p2))]) (st1 := [.ref 0]) (w1 := w) rfl ?_
  refine wx_gr (o := 16) (kf := 43) (ln := 3) (ci := 11) (b := 5) (zz := 0) (x := 0) (by decide +kernel) h (hS _ _ sx_0) rfl ?_
  show wp _ 122 4 [(0, .ref 0), (1, .int (Int32.ofInt p1)), (2, .int (Int32.ofInt p2))] [.ref 16] w _
  refine wx_gr (o := 1) (kf := 116) (ln := 3) (ci := 7) (b := 0) (zz := 0) (x := 16) (by decide +kernel) h (hS _ _ sx_16) rfl ?_
  show wp _ 122 7 [(0, .ref 0), (1, .int (Int32.ofInt p1)), (2, .int (Int32.ofInt p2))] [.ref 17] w _
  refine wp_g 1 (pc1 := 8) (lv1 := [(0, .ref 0), (1, .int (Int32.ofInt p1)), (2, .int (Int32.ofInt p2))]) (st1 := [.int (Int32.ofInt p1), .ref 17]) (w1 := w) rfl ?_
  obtain ⟨o1, e2, hx⟩ := bd hx
  refine wp_cl [.ref 17, .int (Int32.ofInt p1)] [] (i := .invokevirtual 151) (ln := 3) (a := 6) (b := 0) (z := 0) (by decide +kernel) rfl rfl (by decide) rfl (show (2 : Nat) = pm_na 6 by decide +kernel) (Nat.le_of_ble_eq_true rfl) (show (2 : Nat) ≤ pm_n 6 by decide +kernel) (rcv_x 0 h (hS _ _ sx_17) (by decide +kernel)) (xl_hasJoint_ok (d := d) hS (okC_17 hS) h e2 ?_)
  show wp _ 122 11 [(0, .ref 0), (1, .int (Int32.ofInt p1)), (2, .int (Int32.ofInt p2))] [.int (Int32.ofInt o1)] w _
  refine wz_eq (oo := 12) (ln := 3) (a := 23) (b := 0) (zz := 0) (by decide +kernel) (fun h5 => ?_) (fun h5 => ?_)
  · have hx := ite_t h5 hx
    refine wp_g 1 (pc1 := 24) (lv1 := [(0, .ref 0), (1, .int (Int32.ofInt p1)), (2, .int (Int32.ofInt p2))]) (st1 := [.int (Int32.ofInt (-1))]) (w1 := w) rfl ?_
    refine wp_rt (i := .ireturn) (r := some (.int (Int32.ofInt (-1)))) (ln := 1) (a := 0) (b := 0) (z := 0) (by decide +kernel) rfl (ret_ok (by decide +kernel)) ?_
    cases hx
    exact kr _ h
  · have hx := ite_f h5 hx
    refine wp_g 1 (pc1 := 15) (lv1 := [(0, .ref 0), (1, .int (Int32.ofInt p1)), (2, .int (Int32.ofInt p2))]) (st1 := [.int (Int32.ofInt p2)]) (w1 := w) rfl ?_
    refine wz_lt (oo := 8) (ln := 3) (a := 23) (b := 0) (zz := 0) (by decide +kernel) (fun h6 => ?_) (fun h6 => ?_)
    · have hx := ite_t h6 hx
      refine wp_g 1 (pc1 := 24) (lv1 := [(0, .ref 0), (1, .int (Int32.ofInt p1)), (2, .int (Int32.ofInt p2))]) (st1 := [.int (Int32.ofInt (-1))]) (w1 := w) rfl ?_
      refine wp_rt (i := .ireturn) (r := some (.int (Int32.ofInt (-1)))) (ln := 1) (a := 0) (b := 0) (z := 0) (by decide +kernel) rfl (ret_ok (by decide +kernel)) ?_
      cases hx
      exact kr _ h
    · have hx := ite_f h6 hx
      refine wp_g 2 (pc1 := 20) (lv1 := [(0, .ref 0), (1, .int (Int32.ofInt p1)), (2, .int (Int32.ofInt p2))]) (st1 := [.int (Int32.ofInt 2), .int (Int32.ofInt p2)]) (w1 := w) rfl ?_
      refine wx_le (oo := 5) (ln := 3) (a := 25) (b := 0) (zz := 0) (by decide +kernel) (fun h7 => ?_) (fun h7 => ?_)
      · have hx := ite_f h7 hx
        refine wp_g 1 (pc1 := 26) (lv1 := [(0, .ref 0), (1, .int (Int32.ofInt p1)), (2, .int (Int32.ofInt p2))]) (st1 := [.ref 0]) (w1 := w) rfl ?_
        refine wx_gr (o := 16) (kf := 43) (ln := 3) (ci := 11) (b := 5) (zz := 0) (x := 0) (by decide +kernel) h (hS _ _ sx_0) rfl ?_
        show wp _ 122 29 [(0, .ref 0), (1, .int (Int32.ofInt p1)), (2, .int (Int32.ofInt p2))] [.ref 16] w _
        refine wx_gr (o := 19) (kf := 157) (ln := 3) (ci := 7) (b := 2) (zz := 0) (x := 16) (by decide +kernel) h (hS _ _ sx_16) rfl ?_
        show wp _ 122 32 [(0, .ref 0), (1, .int (Int32.ofInt p1)), (2, .int (Int32.ofInt p2))] [.ref 35] w _
        refine wp_g 1 (pc1 := 33) (lv1 := [(0, .ref 0), (1, .int (Int32.ofInt p1)), (2, .int (Int32.ofInt p2))]) (st1 := [.int (Int32.ofInt p1), .ref 35]) (w1 := w) rfl ?_
        obtain ⟨i8, e9, hx⟩ := bd hx
        refine wx_ra (x := 35) (n := 8) (ln := 1) (a := 0) (b := 0) (zz := 0) (by decide +kernel) h (hS _ _ sx_35) e9 ?_
        show wp _ 122 34 [(0, .ref 0), (1, .int (Int32.ofInt p1)), (2, .int (Int32.ofInt p2))] [.int (Int32.ofInt (s 35 i8))] w _
        refine wp_g 2 (pc1 := 36) (lv1 := [(3, .int (Int32.ofInt (s 35 i8))), (0, .ref 0), (1, .int (Int32.ofInt p1)), (2, .int (Int32.ofInt p2))]) (st1 := [.ref 0]) (w1 := w) rfl ?_
        refine wx_gr (o := 16) (kf := 43) (ln := 3) (ci := 11) (b := 5) (zz := 0) (x := 0) (by decide +kernel) h (hS _ _ sx_0) rfl ?_
        show wp _ 122 39 [(3, .int (Int32.ofInt (s 35 i8))), (0, .ref 0), (1, .int (Int32.ofInt p1)), (2, .int (Int32.ofInt p2))] [.ref 16] w _
        refine wx_gr (o := 19) (kf := 157) (ln := 3) (ci := 7) (b := 2) (zz := 0) (x := 16) (by decide +kernel) h (hS _ _ sx_16) rfl ?_
        show wp _ 122 42 [(3, .int (Int32.ofInt (s 35 i8))), (0, .ref 0), (1, .int (Int32.ofInt p1)), (2, .int (Int32.ofInt p2))] [.ref 35] w _
        refine wp_g 2 (pc1 := 44) (lv1 := [(3, .int (Int32.ofInt (s 35 i8))), (0, .ref 0), (1, .int (Int32.ofInt p1)), (2, .int (Int32.ofInt p2))]) (st1 := [.int (Int32.ofInt p2), .int (Int32.ofInt p1), .ref 35]) (w1 := w) rfl ?_
        obtain ⟨s10, e11, hx⟩ := bd hx
        refine wx_wa (x := 35) (n := 8) (ln := 1) (a := 0) (b := 0) (zz := 0) (by decide +kernel) h (hS _ _ sx_35) e9 e11 (fun w12 h13 => ?_)
        refine wp_g 1 (pc1 := 46) (lv1 := [(3, .int (Int32.ofInt (s 35 i8))), (0, .ref 0), (1, .int (Int32.ofInt p1)), (2, .int (Int32.ofInt p2))]) (st1 := [.int (Int32.ofInt (s 35 i8))]) (w1 := w12) rfl ?_
        refine wp_rt (i := .ireturn) (r := some (.int (Int32.ofInt (s 35 i8)))) (ln := 1) (a := 0) (b := 0) (z := 0) (by decide +kernel) rfl (ret_ok (by decide +kernel)) ?_
        cases hx
        exact kr _ h13
      · have hx := ite_t h7 hx
        refine wp_g 1 (pc1 := 24) (lv1 := [(0, .ref 0), (1, .int (Int32.ofInt p1)), (2, .int (Int32.ofInt p2))]) (st1 := [.int (Int32.ofInt (-1))]) (w1 := w) rfl ?_
        refine wp_rt (i := .ireturn) (r := some (.int (Int32.ofInt (-1)))) (ln := 1) (a := 0) (b := 0) (z := 0) (by decide +kernel) rfl (ret_ok (by decide +kernel)) ?_
        cases hx
        exact kr _ h
/-- FoldDeeds.folds (I)I -/
noncomputable def xf_folds (s : Hp) (p1 : Int) : Option (Int × Hp) :=
  if w32 p1 < w32 (-1) then some ((-3), s) else if w32 6 < w32 p1 then some ((-3), s) else if w32 (s 17 0) = 0 then some ((-3), s) else (xg_seekMarks s (s 17 0)).bind fun o4 => (xg_answer o4 p1).bind fun o8 => some (o8, o4)
set_option maxRecDepth 100000 in
theorem xf_folds_ok {d : Nat} {P : Option Value → pm_H → Prop} {w : pm_H} {sh : Shp} {w0 : pm_H} {s : Hp} (hS : St sh) {p1 : Int} (h : Rw sh w0 s w) {o : Int × Hp} (hx : xf_folds s p1 = some o) (kr : ∀ w1, Rw sh w0 o.2 w1 → P (some (.int (Int32.ofInt o.1))) w1) : wp (d + 22) 123 0 (lv_args 0 [.ref 0, .int (Int32.ofInt p1)]) [] w P := by
  show wp _ 123 0 [(0, .ref 0), (1, .int (Int32.ofInt p1))] [] w _
  unfold xf_folds at hx
  refine wp_g 2 (pc1 := 2) (lv1 := [(0, .ref 0), (1, .int (Int32.ofInt p1))]) (st1 := [.int (Int32.ofInt (-1)), .int (Int32.ofInt p1)]) (w1 := w) rfl ?_
  refine wx_lt (oo := 22) (ln := 3) (a := 24) (b := 0) (zz := 0) (by decide +kernel) (fun h1 => ?_) (fun h1 => ?_)
  · have hx := ite_t h1 hx
    refine wp_g 1 (pc1 := 26) (lv1 := [(0, .ref 0), (1, .int (Int32.ofInt p1))]) (st1 := [.int (Int32.ofInt (-3))]) (w1 := w) rfl ?_
    refine wp_rt (i := .ireturn) (r := some (.int (Int32.ofInt (-3)))) (ln := 1) (a := 0) (b := 0) (z := 0) (by decide +kernel) rfl (ret_ok (by decide +kernel)) ?_
    cases hx
    exact kr _ h
  · have hx := ite_f h1 hx
    refine wp_g 2 (pc1 := 8) (lv1 := [(0, .ref 0), (1, .int (Int32.ofInt p1))]) (st1 := [.int (Int32.ofInt 6), .int (Int32.ofInt p1)]) (w1 := w) rfl ?_
    refine wx_gt (oo := 16) (ln := 3) (a := 24) (b := 0) (zz := 0) (by decide +kernel) (fun h2 => ?_) (fun h2 => ?_)
    · have hx := ite_t h2 hx
      refine wp_g 1 (pc1 := 26) (lv1 := [(0, .ref 0), (1, .int (Int32.ofInt p1))]) (st1 := [.int (Int32.ofInt (-3))]) (w1 := w) rfl ?_
      refine wp_rt (i := .ireturn) (r := some (.int (Int32.ofInt (-3)))) (ln := 1) (a := 0) (b := 0) (z := 0) (by decide +kernel) rfl (ret_ok (by decide +kernel)) ?_
      cases hx
      exact kr _ h
    · have hx := ite_f h2 hx
      refine wp_g 1 (pc1 := 12) (lv1 := [(0, .ref 0), (1, .int (Int32.ofInt p1))]) (st1 := [.ref 0]) (w1 := w) rfl ?_
      refine wx_gr (o := 16) (kf := 43) (ln := 3) (ci := 11) (b := 5) (zz := 0) (x := 0) (by decide +kernel) h (hS _ _ sx_0) rfl ?_
      show wp _ 123 15 [(0, .ref 0), (1, .int (Int32.ofInt p1))] [.ref 16] w _
      refine wx_gr (o := 1) (kf := 116) (ln := 3) (ci := 7) (b := 0) (zz := 0) (x := 16) (by decide +kernel) h (hS _ _ sx_16) rfl ?_
      show wp _ 123 18 [(0, .ref 0), (1, .int (Int32.ofInt p1))] [.ref 17] w _
      refine wx_gi (kf := 119) (ln := 3) (ci := 0) (b := 0) (zz := 0) (x := 17) (by decide +kernel) h (hS _ _ sx_17) rfl ?_
      show wp _ 123 21 [(0, .ref 0), (1, .int (Int32.ofInt p1))] [.int (Int32.ofInt (s 17 0))] w _
      refine wz_ne (oo := 6) (ln := 3) (a := 27) (b := 0) (zz := 0) (by decide +kernel) (fun h3 => ?_) (fun h3 => ?_)
      · have hx := ite_f h3 hx
        refine wp_g 1 (pc1 := 28) (lv1 := [(0, .ref 0), (1, .int (Int32.ofInt p1))]) (st1 := [.ref 0]) (w1 := w) rfl ?_
        refine wx_gr (o := 54) (kf := 68) (ln := 3) (ci := 11) (b := 9) (zz := 0) (x := 0) (by decide +kernel) h (hS _ _ sx_0) rfl ?_
        show wp _ 123 31 [(0, .ref 0), (1, .int (Int32.ofInt p1))] [.ref 54] w _
        refine wp_g 1 (pc1 := 32) (lv1 := [(0, .ref 0), (1, .int (Int32.ofInt p1))]) (st1 := [.ref 0, .ref 54]) (w1 := w) rfl ?_
        refine wx_gr (o := 16) (kf := 43) (ln := 3) (ci := 11) (b := 5) (zz := 0) (x := 0) (by decide +kernel) h (hS _ _ sx_0) rfl ?_
        show wp _ 123 35 [(0, .ref 0), (1, .int (Int32.ofInt p1))] [.ref 16, .ref 54] w _
        refine wx_gr (o := 1) (kf := 116) (ln := 3) (ci := 7) (b := 0) (zz := 0) (x := 16) (by decide +kernel) h (hS _ _ sx_16) rfl ?_
        show wp _ 123 38 [(0, .ref 0), (1, .int (Int32.ofInt p1))] [.ref 17, .ref 54] w _
        refine wx_gi (kf := 119) (ln := 3) (ci := 0) (b := 0) (zz := 0) (x := 17) (by decide +kernel) h (hS _ _ sx_17) rfl ?_
        show wp _ 123 41 [(0, .ref 0), (1, .int (Int32.ofInt p1))] [.int (Int32.ofInt (s 17 0)), .ref 54] w _
        refine wp_g 1 (pc1 := 42) (lv1 := [(0, .ref 0), (1, .int (Int32.ofInt p1))]) (st1 := [.ref 0, .int (Int32.ofInt (s 17 0)), .ref 54]) (w1 := w) rfl ?_
        refine wx_gr (o := 16) (kf := 43) (ln := 3) (ci := 11) (b := 5) (zz := 0) (x := 0) (by decide +kernel) h (hS _ _ sx_0) rfl ?_
        show wp _ 123 45 [(0, .ref 0), (1, .int (Int32.ofInt p1))] [.ref 16, .int (Int32.ofInt (s 17 0)), .ref 54] w _
        refine wx_gr (o := 19) (kf := 157) (ln := 3) (ci := 7) (b := 2) (zz := 0) (x := 16) (by decide +kernel) h (hS _ _ sx_16) rfl ?_
        show wp _ 123 48 [(0, .ref 0), (1, .int (Int32.ofInt p1))] [.ref 35, .int (Int32.ofInt (s 17 0)), .ref 54] w _
        obtain ⟨o4, e5, hx⟩ := bd hx
        refine wp_cl [.ref 54, .int (Int32.ofInt (s 17 0)), .ref 35] [] (i := .invokevirtual 205) (ln := 3) (a := 30) (b := 0) (z := 0) (by decide +kernel) rfl rfl (by decide) rfl (show (3 : Nat) = pm_na 30 by decide +kernel) (Nat.le_of_ble_eq_true rfl) (show (3 : Nat) ≤ pm_n 30 by decide +kernel) (rcv_x 2 h (hS _ _ sx_54) (by decide +kernel)) (xg_seekMarks_ok (d := d) hS h e5 (fun w6 h7 => ?_))
        show wp _ 123 51 [(0, .ref 0), (1, .int (Int32.ofInt p1))] [] w6 _
        refine wp_g 1 (pc1 := 52) (lv1 := [(0, .ref 0), (1, .int (Int32.ofInt p1))]) (st1 := [.ref 0]) (w1 := w6) rfl ?_
        refine wx_gr (o := 54) (kf := 68) (ln := 3) (ci := 11) (b := 9) (zz := 0) (x := 0) (by decide +kernel) h7 (hS _ _ sx_0) rfl ?_
        show wp _ 123 55 [(0, .ref 0), (1, .int (Int32.ofInt p1))] [.ref 54] w6 _
        refine wp_g 1 (pc1 := 56) (lv1 := [(0, .ref 0), (1, .int (Int32.ofInt p1))]) (st1 := [.int (Int32.ofInt p1), .ref 54]) (w1 := w6) rfl ?_
        obtain ⟨o8, e9, hx⟩ := bd hx
        refine wp_cl [.ref 54, .int (Int32.ofInt p1)] [] (i := .invokevirtual 209) (ln := 3) (a := 29) (b := 0) (z := 0) (by decide +kernel) rfl rfl (by decide) rfl (show (2 : Nat) = pm_na 29 by decide +kernel) (Nat.le_of_ble_eq_true rfl) (show (2 : Nat) ≤ pm_n 29 by decide +kernel) (rcv_x 2 h7 (hS _ _ sx_54) (by decide +kernel)) (xg_answer_ok (d := d + 21) hS h7 e9 ?_)
        show wp _ 123 59 [(0, .ref 0), (1, .int (Int32.ofInt p1))] [.int (Int32.ofInt o8)] w6 _
        refine wp_rt (i := .ireturn) (r := some (.int (Int32.ofInt o8))) (ln := 1) (a := 0) (b := 0) (z := 0) (by decide +kernel) rfl (ret_ok (by decide +kernel)) ?_
        cases hx
        exact kr _ h7
      · have hx := ite_t h3 hx
        refine wp_g 1 (pc1 := 26) (lv1 := [(0, .ref 0), (1, .int (Int32.ofInt p1))]) (st1 := [.int (Int32.ofInt (-3))]) (w1 := w) rfl ?_
        refine wp_rt (i := .ireturn) (r := some (.int (Int32.ofInt (-3)))) (ln := 1) (a := 0) (b := 0) (z := 0) (by decide +kernel) rfl (ret_ok (by decide +kernel)) ?_
        cases hx
        exact kr _ h
noncomputable def xf_stacks_j117 (s : Hp) (x1 : Int) (x2 : Int) (x3 : Int) (k0 : Int) : Option (Int × Hp) :=
  if w32 k0 < w32 x2 then if w32 x3 = 0 then (xb_layersOf s (x1 - 10)).bind fun o3 => some (o3, s) else (xb_firstAt s x1).bind fun o7 => some (o7, s) else some ((-2), s)
set_option maxRecDepth 100000 in
theorem xf_stacks_j117_ok {d : Nat} {P : Option Value → pm_H → Prop} {w : pm_H} {sh : Shp} {w0 : pm_H} {s : Hp} (hS : St sh) {x1 : Int} {x2 : Int} {x3 : Int} {k0 : Int} (h : Rw sh w0 s w) {o : (Int × Hp)} (hx : xf_stacks_j117 s x1 x2 x3 k0 = some o) (kr : ∀ w1, Rw sh w0 o.2 w1 → P (some (.int (Int32.ofInt o.1))) w1) : wp (d + 17) 124 117 [(0, .ref 0), (1, .int (Int32.ofInt x1)), (2, .int (Int32.ofInt x2)), (3, .int (Int32.ofInt x3))] [.int (Int32.ofInt k0)] w P := by
  unfold xf_stacks_j117 at hx
  refine wp_g 1 (pc1 := 118) (lv1 := [(0, .ref 0), (1, .int (Int32.ofInt x1)), (2, .int (Int32.ofInt x2)), (3, .int (Int32.ofInt x3))]) (st1 := [.int (Int32.ofInt x2), .int (Int32.ofInt k0)]) (w1 := w) rfl ?_
  refine wx_lt (oo := 6) (ln := 3) (a := 124) (b := 0) (zz := 0) (by decide +kernel) (fun h1 => ?_) (fun h1 => ?_)
  · have hx := ite_t h1 hx
    refine wp_g 1 (pc1 := 125) (lv1 := [(0, .ref 0), (1, .int (Int32.ofInt x1)), (2, .int (Int32.ofInt x2)), (3, .int (Int32.ofInt x3))]) (st1 := [.int (Int32.ofInt x3)]) (w1 := w) rfl ?_
    refine wz_eq (oo := 14) (ln := 3) (a := 139) (b := 0) (zz := 0) (by decide +kernel) (fun h2 => ?_) (fun h2 => ?_)
    · have hx := ite_t h2 hx
      refine wp_g 1 (pc1 := 140) (lv1 := [(0, .ref 0), (1, .int (Int32.ofInt x1)), (2, .int (Int32.ofInt x2)), (3, .int (Int32.ofInt x3))]) (st1 := [.ref 0]) (w1 := w) rfl ?_
      refine wx_gr (o := 130) (kf := 75) (ln := 3) (ci := 11) (b := 10) (zz := 0) (x := 0) (by decide +kernel) h (hS _ _ sx_0) rfl ?_
      show wp _ 124 143 [(0, .ref 0), (1, .int (Int32.ofInt x1)), (2, .int (Int32.ofInt x2)), (3, .int (Int32.ofInt x3))] [.ref 130] w _
      refine wp_g 3 (pc1 := 147) (lv1 := [(0, .ref 0), (1, .int (Int32.ofInt x1)), (2, .int (Int32.ofInt x2)), (3, .int (Int32.ofInt x3))]) (st1 := [.int (Int32.ofInt (x1 - 10)), .ref 130]) (w1 := w) (by simp only [Int32.ofInt_add, Int32.ofInt_sub, Int32.ofInt_mul, Int32.ofInt_neg, p_and, p_or, p_xor, p_shl, p_shr, p_usr, p_w8, p_c16, p_lI, q_and, q_or, q_shl, q_shr, q_w32, Int64.ofInt_add, Int64.ofInt_sub, Int64.ofInt_mul, p_mx, p_mn, q_mx, q_mn]; rfl) ?_
      obtain ⟨o3, e4, hx⟩ := bd hx
      refine wp_cl [.ref 130, .int (Int32.ofInt (x1 - 10))] [] (i := .invokevirtual 221) (ln := 3) (a := 68) (b := 0) (z := 0) (by decide +kernel) rfl rfl (by decide) rfl (show (2 : Nat) = pm_na 68 by decide +kernel) (Nat.le_of_ble_eq_true rfl) (show (2 : Nat) ≤ pm_n 68 by decide +kernel) (rcv_x 8 h (hS _ _ sx_130) (by decide +kernel)) (xb_layersOf_ok (d := d + 15) hS h e4 ?_)
      show wp _ 124 150 [(0, .ref 0), (1, .int (Int32.ofInt x1)), (2, .int (Int32.ofInt x2)), (3, .int (Int32.ofInt x3))] [.int (Int32.ofInt o3)] w _
      refine wp_rt (i := .ireturn) (r := some (.int (Int32.ofInt o3))) (ln := 1) (a := 0) (b := 0) (z := 0) (by decide +kernel) rfl (ret_ok (by decide +kernel)) ?_
      cases hx
      exact kr _ h
    · have hx := ite_f h2 hx
      refine wp_g 1 (pc1 := 129) (lv1 := [(0, .ref 0), (1, .int (Int32.ofInt x1)), (2, .int (Int32.ofInt x2)), (3, .int (Int32.ofInt x3))]) (st1 := [.ref 0]) (w1 := w) rfl ?_
      refine wx_gr (o := 130) (kf := 75) (ln := 3) (ci := 11) (b := 10) (zz := 0) (x := 0) (by decide +kernel) h (hS _ _ sx_0) rfl ?_
      show wp _ 124 132 [(0, .ref 0), (1, .int (Int32.ofInt x1)), (2, .int (Int32.ofInt x2)), (3, .int (Int32.ofInt x3))] [.ref 130] w _
      refine wp_g 1 (pc1 := 133) (lv1 := [(0, .ref 0), (1, .int (Int32.ofInt x1)), (2, .int (Int32.ofInt x2)), (3, .int (Int32.ofInt x3))]) (st1 := [.int (Int32.ofInt x1), .ref 130]) (w1 := w) rfl ?_
      obtain ⟨o7, e8, hx⟩ := bd hx
      refine wp_cl [.ref 130, .int (Int32.ofInt x1)] [] (i := .invokevirtual 218) (ln := 3) (a := 67) (b := 0) (z := 0) (by decide +kernel) rfl rfl (by decide) rfl (show (2 : Nat) = pm_na 67 by decide +kernel) (Nat.le_of_ble_eq_true rfl) (show (2 : Nat) ≤ pm_n 67 by decide +kernel) (rcv_x 8 h (hS _ _ sx_130) (by decide +kernel)) (xb_firstAt_ok (d := d + 14) hS h e8 ?_)
      show wp _ 124 136 [(0, .ref 0), (1, .int (Int32.ofInt x1)), (2, .int (Int32.ofInt x2)), (3, .int (Int32.ofInt x3))] [.int (Int32.ofInt o7)] w _
      refine wp_g 1 (pc1 := 150) (lv1 := [(0, .ref 0), (1, .int (Int32.ofInt x1)), (2, .int (Int32.ofInt x2)), (3, .int (Int32.ofInt x3))]) (st1 := [.int (Int32.ofInt o7)]) (w1 := w) rfl ?_
      refine wp_rt (i := .ireturn) (r := some (.int (Int32.ofInt o7))) (ln := 1) (a := 0) (b := 0) (z := 0) (by decide +kernel) rfl (ret_ok (by decide +kernel)) ?_
      cases hx
      exact kr _ h
  · have hx := ite_f h1 hx
    refine wp_g 1 (pc1 := 123) (lv1 := [(0, .ref 0), (1, .int (Int32.ofInt x1)), (2, .int (Int32.ofInt x2)), (3, .int (Int32.ofInt x3))]) (st1 := [.int (Int32.ofInt (-2))]) (w1 := w) rfl ?_
    refine wp_rt (i := .ireturn) (r := some (.int (Int32.ofInt (-2)))) (ln := 1) (a := 0) (b := 0) (z := 0) (by decide +kernel) rfl (ret_ok (by decide +kernel)) ?_
    cases hx
    exact kr _ h
noncomputable def xf_stacks_j67 (s : Hp) (x1 : Int) (x2 : Int) (x3 : Int) : Option (Int × Hp) :=
  (xb_choose s x2).bind fun o1 => if w32 x1 = w32 (-1) then some (o1 130 5, o1) else if w32 (o1 130 5) = 0 then some ((-2), o1) else if w32 x3 = 0 then xf_stacks_j117 o1 x1 x2 x3 (x1 - 10) else xf_stacks_j117 o1 x1 x2 x3 x1
set_option maxRecDepth 100000 in
theorem xf_stacks_j67_ok {d : Nat} {P : Option Value → pm_H → Prop} {w : pm_H} {sh : Shp} {w0 : pm_H} {s : Hp} (hS : St sh) {x1 : Int} {x2 : Int} {x3 : Int} (h : Rw sh w0 s w) {o : (Int × Hp)} (hx : xf_stacks_j67 s x1 x2 x3 = some o) (kr : ∀ w1, Rw sh w0 o.2 w1 → P (some (.int (Int32.ofInt o.1))) w1) : wp (d + 17) 124 67 [(0, .ref 0), (1, .int (Int32.ofInt x1)), (2, .int (Int32.ofInt x2)), (3, .int (Int32.ofInt x3))] [] w P := by
  unfold xf_stacks_j67 at hx
  refine wp_g 1 (pc1 := 68) (lv1 := [(0, .ref 0), (1, .int (Int32.ofInt x1)), (2, .int (Int32.ofInt x2)), (3, .int (Int32.ofInt x3))]) (st1 := [.ref 0]) (w1 := w) rfl ?_
  refine wx_gr (o := 130) (kf := 75) (ln := 3) (ci := 11) (b := 10) (zz := 0) (x := 0) (by decide +kernel) h (hS _ _ sx_0) rfl ?_
  show wp _ 124 71 [(0, .ref 0), (1, .int (Int32.ofInt x1)), (2, .int (Int32.ofInt x2)), (3, .int (Int32.ofInt x3))] [.ref 130] w _
  refine wp_g 2 (pc1 := 73) (lv1 := [(0, .ref 0), (1, .int (Int32.ofInt x1)), (2, .int (Int32.ofInt x2)), (3, .int (Int32.ofInt x3))]) (st1 := [.ref 0, .int (Int32.ofInt x2), .ref 130]) (w1 := w) rfl ?_
  refine wx_gr (o := 16) (kf := 43) (ln := 3) (ci := 11) (b := 5) (zz := 0) (x := 0) (by decide +kernel) h (hS _ _ sx_0) rfl ?_
  show wp _ 124 76 [(0, .ref 0), (1, .int (Int32.ofInt x1)), (2, .int (Int32.ofInt x2)), (3, .int (Int32.ofInt x3))] [.ref 16, .int (Int32.ofInt x2), .ref 130] w _
  refine wx_gr (o := 19) (kf := 157) (ln := 3) (ci := 7) (b := 2) (zz := 0) (x := 16) (by decide +kernel) h (hS _ _ sx_16) rfl ?_
  show wp _ 124 79 [(0, .ref 0), (1, .int (Int32.ofInt x1)), (2, .int (Int32.ofInt x2)), (3, .int (Int32.ofInt x3))] [.ref 35, .int (Int32.ofInt x2), .ref 130] w _
  obtain ⟨o1, e2, hx⟩ := bd hx
  refine wp_cl [.ref 130, .int (Int32.ofInt x2), .ref 35] [] (i := .invokevirtual 212) (ln := 3) (a := 64) (b := 0) (z := 0) (by decide +kernel) rfl rfl (by decide) rfl (show (3 : Nat) = pm_na 64 by decide +kernel) (Nat.le_of_ble_eq_true rfl) (show (3 : Nat) ≤ pm_n 64 by decide +kernel) (rcv_x 8 h (hS _ _ sx_130) (by decide +kernel)) (xb_choose_ok (d := d) hS h e2 (fun w3 h4 => ?_))
  show wp _ 124 82 [(0, .ref 0), (1, .int (Int32.ofInt x1)), (2, .int (Int32.ofInt x2)), (3, .int (Int32.ofInt x3))] [] w3 _
  refine wp_g 2 (pc1 := 84) (lv1 := [(0, .ref 0), (1, .int (Int32.ofInt x1)), (2, .int (Int32.ofInt x2)), (3, .int (Int32.ofInt x3))]) (st1 := [.int (Int32.ofInt (-1)), .int (Int32.ofInt x1)]) (w1 := w3) rfl ?_
  refine wx_ne (oo := 11) (ln := 3) (a := 95) (b := 0) (zz := 0) (by decide +kernel) (fun h5 => ?_) (fun h5 => ?_)
  · have hx := ite_f h5 hx
    refine wp_g 1 (pc1 := 96) (lv1 := [(0, .ref 0), (1, .int (Int32.ofInt x1)), (2, .int (Int32.ofInt x2)), (3, .int (Int32.ofInt x3))]) (st1 := [.ref 0]) (w1 := w3) rfl ?_
    refine wx_gr (o := 130) (kf := 75) (ln := 3) (ci := 11) (b := 10) (zz := 0) (x := 0) (by decide +kernel) h4 (hS _ _ sx_0) rfl ?_
    show wp _ 124 99 [(0, .ref 0), (1, .int (Int32.ofInt x1)), (2, .int (Int32.ofInt x2)), (3, .int (Int32.ofInt x3))] [.ref 130] w3 _
    refine wx_gi (kf := 215) (ln := 3) (ci := 8) (b := 5) (zz := 0) (x := 130) (by decide +kernel) h4 (hS _ _ sx_130) rfl ?_
    show wp _ 124 102 [(0, .ref 0), (1, .int (Int32.ofInt x1)), (2, .int (Int32.ofInt x2)), (3, .int (Int32.ofInt x3))] [.int (Int32.ofInt (o1 130 5))] w3 _
    refine wz_eq (oo := 19) (ln := 3) (a := 121) (b := 0) (zz := 0) (by decide +kernel) (fun h6 => ?_) (fun h6 => ?_)
    · have hx := ite_t h6 hx
      refine wp_g 1 (pc1 := 123) (lv1 := [(0, .ref 0), (1, .int (Int32.ofInt x1)), (2, .int (Int32.ofInt x2)), (3, .int (Int32.ofInt x3))]) (st1 := [.int (Int32.ofInt (-2))]) (w1 := w3) rfl ?_
      refine wp_rt (i := .ireturn) (r := some (.int (Int32.ofInt (-2)))) (ln := 1) (a := 0) (b := 0) (z := 0) (by decide +kernel) rfl (ret_ok (by decide +kernel)) ?_
      cases hx
      exact kr _ h4
    · have hx := ite_f h6 hx
      refine wp_g 1 (pc1 := 106) (lv1 := [(0, .ref 0), (1, .int (Int32.ofInt x1)), (2, .int (Int32.ofInt x2)), (3, .int (Int32.ofInt x3))]) (st1 := [.int (Int32.ofInt x3)]) (w1 := w3) rfl ?_
      refine wz_eq (oo := 7) (ln := 3) (a := 113) (b := 0) (zz := 0) (by decide +kernel) (fun h7 => ?_) (fun h7 => ?_)
      · have hx := ite_t h7 hx
        refine wp_g 3 (pc1 := 117) (lv1 := [(0, .ref 0), (1, .int (Int32.ofInt x1)), (2, .int (Int32.ofInt x2)), (3, .int (Int32.ofInt x3))]) (st1 := [.int (Int32.ofInt (x1 - 10))]) (w1 := w3) (by simp only [Int32.ofInt_add, Int32.ofInt_sub, Int32.ofInt_mul, Int32.ofInt_neg, p_and, p_or, p_xor, p_shl, p_shr, p_usr, p_w8, p_c16, p_lI, q_and, q_or, q_shl, q_shr, q_w32, Int64.ofInt_add, Int64.ofInt_sub, Int64.ofInt_mul, p_mx, p_mn, q_mx, q_mn]; rfl) ?_
        exact xf_stacks_j117_ok hS h4 hx kr
      · have hx := ite_f h7 hx
        refine wp_g 2 (pc1 := 117) (lv1 := [(0, .ref 0), (1, .int (Int32.ofInt x1)), (2, .int (Int32.ofInt x2)), (3, .int (Int32.ofInt x3))]) (st1 := [.int (Int32.ofInt x1)]) (w1 := w3) rfl ?_
        exact xf_stacks_j117_ok hS h4 hx kr
  · have hx := ite_t h5 hx
    refine wp_g 1 (pc1 := 88) (lv1 := [(0, .ref 0), (1, .int (Int32.ofInt x1)), (2, .int (Int32.ofInt x2)), (3, .int (Int32.ofInt x3))]) (st1 := [.ref 0]) (w1 := w3) rfl ?_
    refine wx_gr (o := 130) (kf := 75) (ln := 3) (ci := 11) (b := 10) (zz := 0) (x := 0) (by decide +kernel) h4 (hS _ _ sx_0) rfl ?_
    show wp _ 124 91 [(0, .ref 0), (1, .int (Int32.ofInt x1)), (2, .int (Int32.ofInt x2)), (3, .int (Int32.ofInt x3))] [.ref 130] w3 _
    refine wx_gi (kf := 215) (ln := 3) (ci := 8) (b := 5) (zz := 0) (x := 130) (by decide +kernel) h4 (hS _ _ sx_130) rfl ?_
    show wp _ 124 94 [(0, .ref 0), (1, .int (Int32.ofInt x1)), (2, .int (Int32.ofInt x2)), (3, .int (Int32.ofInt x3))] [.int (Int32.ofInt (o1 130 5))] w3 _
    refine wp_rt (i := .ireturn) (r := some (.int (Int32.ofInt (o1 130 5)))) (ln := 1) (a := 0) (b := 0) (z := 0) (by decide +kernel) rfl (ret_ok (by decide +kernel)) ?_
    cases hx
    exact kr _ h4
noncomputable def xf_stacks_j44 (s : Hp) (x1 : Int) (x2 : Int) (x3 : Int) (k0 : Int) : Option (Int × Hp) :=
  if w32 x2 = 0 then some ((-3), s) else if w32 x1 = w32 (-1) then xf_stacks_j67 s x1 x2 x3 else if w32 x3 = 0 then if w32 k0 = 0 then some ((-3), s) else xf_stacks_j67 s x1 x2 x3 else xf_stacks_j67 s x1 x2 x3
set_option maxRecDepth 100000 in
theorem xf_stacks_j44_ok {d : Nat} {P : Option Value → pm_H → Prop} {w : pm_H} {sh : Shp} {w0 : pm_H} {s : Hp} (hS : St sh) {x1 : Int} {x2 : Int} {x3 : Int} {k0 : Int} (h : Rw sh w0 s w) {o : (Int × Hp)} (hx : xf_stacks_j44 s x1 x2 x3 k0 = some o) (kr : ∀ w1, Rw sh w0 o.2 w1 → P (some (.int (Int32.ofInt o.1))) w1) : wp (d + 17) 124 44 [(0, .ref 0), (1, .int (Int32.ofInt x1)), (2, .int (Int32.ofInt x2)), (3, .int (Int32.ofInt x3))] [.int (Int32.ofInt k0)] w P := by
  unfold xf_stacks_j44 at hx
  refine wp_g 2 (pc1 := 47) (lv1 := [(4, .int (Int32.ofInt k0)), (0, .ref 0), (1, .int (Int32.ofInt x1)), (2, .int (Int32.ofInt x2)), (3, .int (Int32.ofInt x3))]) (st1 := [.int (Int32.ofInt x2)]) (w1 := w) rfl ?_
  refine wz_eq (oo := 17) (ln := 3) (a := 64) (b := 0) (zz := 0) (by decide +kernel) (fun h1 => ?_) (fun h1 => ?_)
  · have hx := ite_t h1 hx
    refine wp_g 1 (pc1 := 66) (lv1 := [(4, .int (Int32.ofInt k0)), (0, .ref 0), (1, .int (Int32.ofInt x1)), (2, .int (Int32.ofInt x2)), (3, .int (Int32.ofInt x3))]) (st1 := [.int (Int32.ofInt (-3))]) (w1 := w) rfl ?_
    refine wp_rt (i := .ireturn) (r := some (.int (Int32.ofInt (-3)))) (ln := 1) (a := 0) (b := 0) (z := 0) (by decide +kernel) rfl (ret_ok (by decide +kernel)) ?_
    cases hx
    exact kr _ h
  · have hx := ite_f h1 hx
    refine wp_g 2 (pc1 := 52) (lv1 := [(4, .int (Int32.ofInt k0)), (0, .ref 0), (1, .int (Int32.ofInt x1)), (2, .int (Int32.ofInt x2)), (3, .int (Int32.ofInt x3))]) (st1 := [.int (Int32.ofInt (-1)), .int (Int32.ofInt x1)]) (w1 := w) rfl ?_
    refine wx_eq (oo := 15) (ln := 3) (a := 67) (b := 0) (zz := 0) (by decide +kernel) (fun h2 => ?_) (fun h2 => ?_)
    · have hx := ite_t h2 hx
      refine wp_lv (lv1 := [(0, .ref 0), (1, .int (Int32.ofInt x1)), (2, .int (Int32.ofInt x2)), (3, .int (Int32.ofInt x3))]) (lsub_p [1, 2, 3, 4] rfl rfl rfl) ?_
      exact xf_stacks_j67_ok hS h hx kr
    · have hx := ite_f h2 hx
      refine wp_g 1 (pc1 := 56) (lv1 := [(4, .int (Int32.ofInt k0)), (0, .ref 0), (1, .int (Int32.ofInt x1)), (2, .int (Int32.ofInt x2)), (3, .int (Int32.ofInt x3))]) (st1 := [.int (Int32.ofInt x3)]) (w1 := w) rfl ?_
      refine wz_ne (oo := 11) (ln := 3) (a := 67) (b := 0) (zz := 0) (by decide +kernel) (fun h3 => ?_) (fun h3 => ?_)
      · have hx := ite_f h3 hx
        refine wp_lv (lv1 := [(0, .ref 0), (1, .int (Int32.ofInt x1)), (2, .int (Int32.ofInt x2)), (3, .int (Int32.ofInt x3))]) (lsub_p [1, 2, 3, 4] rfl rfl rfl) ?_
        exact xf_stacks_j67_ok hS h hx kr
      · have hx := ite_t h3 hx
        refine wp_g 1 (pc1 := 61) (lv1 := [(4, .int (Int32.ofInt k0)), (0, .ref 0), (1, .int (Int32.ofInt x1)), (2, .int (Int32.ofInt x2)), (3, .int (Int32.ofInt x3))]) (st1 := [.int (Int32.ofInt k0)]) (w1 := w) rfl ?_
        refine wz_ne (oo := 6) (ln := 3) (a := 67) (b := 0) (zz := 0) (by decide +kernel) (fun h4 => ?_) (fun h4 => ?_)
        · have hx := ite_f h4 hx
          refine wp_lv (lv1 := [(0, .ref 0), (1, .int (Int32.ofInt x1)), (2, .int (Int32.ofInt x2)), (3, .int (Int32.ofInt x3))]) (lsub_p [1, 2, 3, 4] rfl rfl rfl) ?_
          exact xf_stacks_j67_ok hS h hx kr
        · have hx := ite_t h4 hx
          refine wp_g 1 (pc1 := 66) (lv1 := [(4, .int (Int32.ofInt k0)), (0, .ref 0), (1, .int (Int32.ofInt x1)), (2, .int (Int32.ofInt x2)), (3, .int (Int32.ofInt x3))]) (st1 := [.int (Int32.ofInt (-3))]) (w1 := w) rfl ?_
          refine wp_rt (i := .ireturn) (r := some (.int (Int32.ofInt (-3)))) (ln := 1) (a := 0) (b := 0) (z := 0) (by decide +kernel) rfl (ret_ok (by decide +kernel)) ?_
          cases hx
          exact kr _ h
noncomputable def xf_stacks_j26 (s : Hp) (x1 : Int) (x2 : Int) (k0 : Int) : Option (Int × Hp) :=
  if w32 x1 < w32 10 then xf_stacks_j44 s x1 x2 k0 0 else if w32 x1 < w32 18 then xf_stacks_j44 s x1 x2 k0 1 else xf_stacks_j44 s x1 x2 k0 0
set_option maxRecDepth 100000 in
theorem xf_stacks_j26_ok {d : Nat} {P : Option Value → pm_H → Prop} {w : pm_H} {sh : Shp} {w0 : pm_H} {s : Hp} (hS : St sh) {x1 : Int} {x2 : Int} {k0 : Int} (h : Rw sh w0 s w) {o : (Int × Hp)} (hx : xf_stacks_j26 s x1 x2 k0 = some o) (kr : ∀ w1, Rw sh w0 o.2 w1 → P (some (.int (Int32.ofInt o.1))) w1) : wp (d + 17) 124 26 [(0, .ref 0), (1, .int (Int32.ofInt x1)), (2, .int (Int32.ofInt x2))] [.int (Int32.ofInt k0)] w P := by
  unfold xf_stacks_j26 at hx
  refine wp_g 3 (pc1 := 30) (lv1 := [(3, .int (Int32.ofInt k0)), (0, .ref 0), (1, .int (Int32.ofInt x1)), (2, .int (Int32.ofInt x2))]) (st1 := [.int (Int32.ofInt 10), .int (Int32.ofInt x1)]) (w1 := w) rfl ?_
  refine wx_lt (oo := 13) (ln := 3) (a := 43) (b := 0) (zz := 0) (by decide +kernel) (fun h1 => ?_) (fun h1 => ?_)
  · have hx := ite_t h1 hx
    refine wp_g 1 (pc1 := 44) (lv1 := [(3, .int (Int32.ofInt k0)), (0, .ref 0), (1, .int (Int32.ofInt x1)), (2, .int (Int32.ofInt x2))]) (st1 := [.int (Int32.ofInt 0)]) (w1 := w) rfl ?_
    refine wp_lv (lv1 := [(0, .ref 0), (1, .int (Int32.ofInt x1)), (2, .int (Int32.ofInt x2)), (3, .int (Int32.ofInt k0))]) (lsub_p [1, 2, 3, 0] rfl rfl rfl) ?_
    exact xf_stacks_j44_ok hS h hx kr
  · have hx := ite_f h1 hx
    refine wp_g 2 (pc1 := 36) (lv1 := [(3, .int (Int32.ofInt k0)), (0, .ref 0), (1, .int (Int32.ofInt x1)), (2, .int (Int32.ofInt x2))]) (st1 := [.int (Int32.ofInt 18), .int (Int32.ofInt x1)]) (w1 := w) rfl ?_
    refine wx_ge (oo := 7) (ln := 3) (a := 43) (b := 0) (zz := 0) (by decide +kernel) (fun h2 => ?_) (fun h2 => ?_)
    · have hx := ite_f h2 hx
      refine wp_g 1 (pc1 := 44) (lv1 := [(3, .int (Int32.ofInt k0)), (0, .ref 0), (1, .int (Int32.ofInt x1)), (2, .int (Int32.ofInt x2))]) (st1 := [.int (Int32.ofInt 0)]) (w1 := w) rfl ?_
      refine wp_lv (lv1 := [(0, .ref 0), (1, .int (Int32.ofInt x1)), (2, .int (Int32.ofInt x2)), (3, .int (Int32.ofInt k0))]) (lsub_p [1, 2, 3, 0] rfl rfl rfl) ?_
      exact xf_stacks_j44_ok hS h hx kr
    · have hx := ite_t h2 hx
      refine wp_g 2 (pc1 := 44) (lv1 := [(3, .int (Int32.ofInt k0)), (0, .ref 0), (1, .int (Int32.ofInt x1)), (2, .int (Int32.ofInt x2))]) (st1 := [.int (Int32.ofInt 1)]) (w1 := w) rfl ?_
      refine wp_lv (lv1 := [(0, .ref 0), (1, .int (Int32.ofInt x1)), (2, .int (Int32.ofInt x2)), (3, .int (Int32.ofInt k0))]) (lsub_p [1, 2, 3, 0] rfl rfl rfl) ?_
      exact xf_stacks_j44_ok hS h hx kr
/-- FoldDeeds.stacks (I)I -/
noncomputable def xf_stacks (s : Hp) (p1 : Int) : Option (Int × Hp) :=
  if w32 p1 < 0 then xf_stacks_j26 s p1 (s 17 0) 0 else if w32 p1 < w32 8 then xf_stacks_j26 s p1 (s 17 0) 1 else xf_stacks_j26 s p1 (s 17 0) 0
set_option maxRecDepth 100000 in
theorem xf_stacks_ok {d : Nat} {P : Option Value → pm_H → Prop} {w : pm_H} {sh : Shp} {w0 : pm_H} {s : Hp} (hS : St sh) {p1 : Int} (h : Rw sh w0 s w) {o : Int × Hp} (hx : xf_stacks s p1 = some o) (kr : ∀ w1, Rw sh w0 o.2 w1 → P (some (.int (Int32.ofInt o.1))) w1) : wp (d + 17) 124 0 (lv_args 0 [.ref 0, .int (Int32.ofInt p1)]) [] w P := by
  show wp _ 124 0 [(0, .ref 0), (1, .int (Int32.ofInt p1))] [] w _
  unfold xf_stacks at hx
  refine wp_g 1 (pc1 := 1) (lv1 := [(0, .ref 0), (1, .int (Int32.ofInt p1))]) (st1 := [.ref 0]) (w1 := w) rfl ?_
  refine wx_gr (o := 16) (kf := 43) (ln := 3) (ci := 11) (b := 5) (zz := 0) (x := 0) (by decide +kernel) h (hS _ _ sx_0) rfl ?_
  show wp _ 124 4 [(0, .ref 0), (1, .int (Int32.ofInt p1))] [.ref 16] w _
  refine wx_gr (o := 1) (kf := 116) (ln := 3) (ci := 7) (b := 0) (zz := 0) (x := 16) (by decide +kernel) h (hS _ _ sx_16) rfl ?_
  show wp _ 124 7 [(0, .ref 0), (1, .int (Int32.ofInt p1))] [.ref 17] w _
  refine wx_gi (kf := 119) (ln := 3) (ci := 0) (b := 0) (zz := 0) (x := 17) (by decide +kernel) h (hS _ _ sx_17) rfl ?_
  show wp _ 124 10 [(0, .ref 0), (1, .int (Int32.ofInt p1))] [.int (Int32.ofInt (s 17 0))] w _
  refine wp_g 2 (pc1 := 12) (lv1 := [(2, .int (Int32.ofInt (s 17 0))), (0, .ref 0), (1, .int (Int32.ofInt p1))]) (st1 := [.int (Int32.ofInt p1)]) (w1 := w) rfl ?_
  refine wz_lt (oo := 13) (ln := 3) (a := 25) (b := 0) (zz := 0) (by decide +kernel) (fun h1 => ?_) (fun h1 => ?_)
  · have hx := ite_t h1 hx
    refine wp_g 1 (pc1 := 26) (lv1 := [(2, .int (Int32.ofInt (s 17 0))), (0, .ref 0), (1, .int (Int32.ofInt p1))]) (st1 := [.int (Int32.ofInt 0)]) (w1 := w) rfl ?_
    refine wp_lv (lv1 := [(0, .ref 0), (1, .int (Int32.ofInt p1)), (2, .int (Int32.ofInt (s 17 0)))]) (lsub_p [1, 2, 0] rfl rfl rfl) ?_
    exact xf_stacks_j26_ok hS h hx kr
  · have hx := ite_f h1 hx
    refine wp_g 2 (pc1 := 18) (lv1 := [(2, .int (Int32.ofInt (s 17 0))), (0, .ref 0), (1, .int (Int32.ofInt p1))]) (st1 := [.int (Int32.ofInt 8), .int (Int32.ofInt p1)]) (w1 := w) rfl ?_
    refine wx_ge (oo := 7) (ln := 3) (a := 25) (b := 0) (zz := 0) (by decide +kernel) (fun h2 => ?_) (fun h2 => ?_)
    · have hx := ite_f h2 hx
      refine wp_g 1 (pc1 := 26) (lv1 := [(2, .int (Int32.ofInt (s 17 0))), (0, .ref 0), (1, .int (Int32.ofInt p1))]) (st1 := [.int (Int32.ofInt 0)]) (w1 := w) rfl ?_
      refine wp_lv (lv1 := [(0, .ref 0), (1, .int (Int32.ofInt p1)), (2, .int (Int32.ofInt (s 17 0)))]) (lsub_p [1, 2, 0] rfl rfl rfl) ?_
      exact xf_stacks_j26_ok hS h hx kr
    · have hx := ite_t h2 hx
      refine wp_g 2 (pc1 := 26) (lv1 := [(2, .int (Int32.ofInt (s 17 0))), (0, .ref 0), (1, .int (Int32.ofInt p1))]) (st1 := [.int (Int32.ofInt 1)]) (w1 := w) rfl ?_
      refine wp_lv (lv1 := [(0, .ref 0), (1, .int (Int32.ofInt p1)), (2, .int (Int32.ofInt (s 17 0)))]) (lsub_p [1, 2, 0] rfl rfl rfl) ?_
      exact xf_stacks_j26_ok hS h hx kr
/-- FoldDeeds.peek (I)I -/
noncomputable def xf_peek (s : Hp) (p1 : Int) : Option (Int × Hp) :=
  if w32 p1 < 0 then some ((-1), s) else if w32 1 < w32 p1 then some ((-1), s) else if w32 (s 17 0) = 0 then some ((-1), s) else (xb_choose s (s 17 0)).bind fun o4 => if w32 (o4 130 5) = 0 then some ((-2), o4) else (xb_bestCell o4).bind fun o9 => if w32 p1 = 0 then some (o9, o4) else (xb_mostAlike o4 o9).bind fun o14 => some (o14, o4)
set_option maxRecDepth 100000 in
theorem xf_peek_ok {d : Nat} {P : Option Value → pm_H → Prop} {w : pm_H} {sh : Shp} {w0 : pm_H} {s : Hp} (hS : St sh) {p1 : Int} (h : Rw sh w0 s w) {o : Int × Hp} (hx : xf_peek s p1 = some o) (kr : ∀ w1, Rw sh w0 o.2 w1 → P (some (.int (Int32.ofInt o.1))) w1) : wp (d + 17) 125 0 (lv_args 0 [.ref 0, .int (Int32.ofInt p1)]) [] w P := by
  show wp _ 125 0 [(0, .ref 0), (1, .int (Int32.ofInt p1))] [] w _
  unfold xf_peek at hx
  refine wp_g 1 (pc1 := 1) (lv1 := [(0, .ref 0), (1, .int (Int32.ofInt p1))]) (st1 := [.int (Int32.ofInt p1)]) (w1 := w) rfl ?_
  refine wz_lt (oo := 21) (ln := 3) (a := 22) (b := 0) (zz := 0) (by decide +kernel) (fun h1 => ?_) (fun h1 => ?_)
  · have hx := ite_t h1 hx
    refine wp_g 1 (pc1 := 23) (lv1 := [(0, .ref 0), (1, .int (Int32.ofInt p1))]) (st1 := [.int (Int32.ofInt (-1))]) (w1 := w) rfl ?_
    refine wp_rt (i := .ireturn) (r := some (.int (Int32.ofInt (-1)))) (ln := 1) (a := 0) (b := 0) (z := 0) (by decide +kernel) rfl (ret_ok (by decide +kernel)) ?_
    cases hx
    exact kr _ h
  · have hx := ite_f h1 hx
    refine wp_g 2 (pc1 := 6) (lv1 := [(0, .ref 0), (1, .int (Int32.ofInt p1))]) (st1 := [.int (Int32.ofInt 1), .int (Int32.ofInt p1)]) (w1 := w) rfl ?_
    refine wx_gt (oo := 16) (ln := 3) (a := 22) (b := 0) (zz := 0) (by decide +kernel) (fun h2 => ?_) (fun h2 => ?_)
    · have hx := ite_t h2 hx
      refine wp_g 1 (pc1 := 23) (lv1 := [(0, .ref 0), (1, .int (Int32.ofInt p1))]) (st1 := [.int (Int32.ofInt (-1))]) (w1 := w) rfl ?_
      refine wp_rt (i := .ireturn) (r := some (.int (Int32.ofInt (-1)))) (ln := 1) (a := 0) (b := 0) (z := 0) (by decide +kernel) rfl (ret_ok (by decide +kernel)) ?_
      cases hx
      exact kr _ h
    · have hx := ite_f h2 hx
      refine wp_g 1 (pc1 := 10) (lv1 := [(0, .ref 0), (1, .int (Int32.ofInt p1))]) (st1 := [.ref 0]) (w1 := w) rfl ?_
      refine wx_gr (o := 16) (kf := 43) (ln := 3) (ci := 11) (b := 5) (zz := 0) (x := 0) (by decide +kernel) h (hS _ _ sx_0) rfl ?_
      show wp _ 125 13 [(0, .ref 0), (1, .int (Int32.ofInt p1))] [.ref 16] w _
      refine wx_gr (o := 1) (kf := 116) (ln := 3) (ci := 7) (b := 0) (zz := 0) (x := 16) (by decide +kernel) h (hS _ _ sx_16) rfl ?_
      show wp _ 125 16 [(0, .ref 0), (1, .int (Int32.ofInt p1))] [.ref 17] w _
      refine wx_gi (kf := 119) (ln := 3) (ci := 0) (b := 0) (zz := 0) (x := 17) (by decide +kernel) h (hS _ _ sx_17) rfl ?_
      show wp _ 125 19 [(0, .ref 0), (1, .int (Int32.ofInt p1))] [.int (Int32.ofInt (s 17 0))] w _
      refine wz_ne (oo := 5) (ln := 3) (a := 24) (b := 0) (zz := 0) (by decide +kernel) (fun h3 => ?_) (fun h3 => ?_)
      · have hx := ite_f h3 hx
        refine wp_g 1 (pc1 := 25) (lv1 := [(0, .ref 0), (1, .int (Int32.ofInt p1))]) (st1 := [.ref 0]) (w1 := w) rfl ?_
        refine wx_gr (o := 130) (kf := 75) (ln := 3) (ci := 11) (b := 10) (zz := 0) (x := 0) (by decide +kernel) h (hS _ _ sx_0) rfl ?_
        show wp _ 125 28 [(0, .ref 0), (1, .int (Int32.ofInt p1))] [.ref 130] w _
        refine wp_g 1 (pc1 := 29) (lv1 := [(0, .ref 0), (1, .int (Int32.ofInt p1))]) (st1 := [.ref 0, .ref 130]) (w1 := w) rfl ?_
        refine wx_gr (o := 16) (kf := 43) (ln := 3) (ci := 11) (b := 5) (zz := 0) (x := 0) (by decide +kernel) h (hS _ _ sx_0) rfl ?_
        show wp _ 125 32 [(0, .ref 0), (1, .int (Int32.ofInt p1))] [.ref 16, .ref 130] w _
        refine wx_gr (o := 1) (kf := 116) (ln := 3) (ci := 7) (b := 0) (zz := 0) (x := 16) (by decide +kernel) h (hS _ _ sx_16) rfl ?_
        show wp _ 125 35 [(0, .ref 0), (1, .int (Int32.ofInt p1))] [.ref 17, .ref 130] w _
        refine wx_gi (kf := 119) (ln := 3) (ci := 0) (b := 0) (zz := 0) (x := 17) (by decide +kernel) h (hS _ _ sx_17) rfl ?_
        show wp _ 125 38 [(0, .ref 0), (1, .int (Int32.ofInt p1))] [.int (Int32.ofInt (s 17 0)), .ref 130] w _
        refine wp_g 1 (pc1 := 39) (lv1 := [(0, .ref 0), (1, .int (Int32.ofInt p1))]) (st1 := [.ref 0, .int (Int32.ofInt (s 17 0)), .ref 130]) (w1 := w) rfl ?_
        refine wx_gr (o := 16) (kf := 43) (ln := 3) (ci := 11) (b := 5) (zz := 0) (x := 0) (by decide +kernel) h (hS _ _ sx_0) rfl ?_
        show wp _ 125 42 [(0, .ref 0), (1, .int (Int32.ofInt p1))] [.ref 16, .int (Int32.ofInt (s 17 0)), .ref 130] w _
        refine wx_gr (o := 19) (kf := 157) (ln := 3) (ci := 7) (b := 2) (zz := 0) (x := 16) (by decide +kernel) h (hS _ _ sx_16) rfl ?_
        show wp _ 125 45 [(0, .ref 0), (1, .int (Int32.ofInt p1))] [.ref 35, .int (Int32.ofInt (s 17 0)), .ref 130] w _
        obtain ⟨o4, e5, hx⟩ := bd hx
        refine wp_cl [.ref 130, .int (Int32.ofInt (s 17 0)), .ref 35] [] (i := .invokevirtual 212) (ln := 3) (a := 64) (b := 0) (z := 0) (by decide +kernel) rfl rfl (by decide) rfl (show (3 : Nat) = pm_na 64 by decide +kernel) (Nat.le_of_ble_eq_true rfl) (show (3 : Nat) ≤ pm_n 64 by decide +kernel) (rcv_x 8 h (hS _ _ sx_130) (by decide +kernel)) (xb_choose_ok (d := d) hS h e5 (fun w6 h7 => ?_))
        show wp _ 125 48 [(0, .ref 0), (1, .int (Int32.ofInt p1))] [] w6 _
        refine wp_g 1 (pc1 := 49) (lv1 := [(0, .ref 0), (1, .int (Int32.ofInt p1))]) (st1 := [.ref 0]) (w1 := w6) rfl ?_
        refine wx_gr (o := 130) (kf := 75) (ln := 3) (ci := 11) (b := 10) (zz := 0) (x := 0) (by decide +kernel) h7 (hS _ _ sx_0) rfl ?_
        show wp _ 125 52 [(0, .ref 0), (1, .int (Int32.ofInt p1))] [.ref 130] w6 _
        refine wx_gi (kf := 215) (ln := 3) (ci := 8) (b := 5) (zz := 0) (x := 130) (by decide +kernel) h7 (hS _ _ sx_130) rfl ?_
        show wp _ 125 55 [(0, .ref 0), (1, .int (Int32.ofInt p1))] [.int (Int32.ofInt (o4 130 5))] w6 _
        refine wz_ne (oo := 6) (ln := 3) (a := 61) (b := 0) (zz := 0) (by decide +kernel) (fun h8 => ?_) (fun h8 => ?_)
        · have hx := ite_f h8 hx
          refine wp_g 1 (pc1 := 62) (lv1 := [(0, .ref 0), (1, .int (Int32.ofInt p1))]) (st1 := [.ref 0]) (w1 := w6) rfl ?_
          refine wx_gr (o := 130) (kf := 75) (ln := 3) (ci := 11) (b := 10) (zz := 0) (x := 0) (by decide +kernel) h7 (hS _ _ sx_0) rfl ?_
          show wp _ 125 65 [(0, .ref 0), (1, .int (Int32.ofInt p1))] [.ref 130] w6 _
          obtain ⟨o9, e10, hx⟩ := bd hx
          refine wp_cl [.ref 130] [] (i := .invokevirtual 224) (ln := 3) (a := 69) (b := 0) (z := 0) (by decide +kernel) rfl rfl (by decide) rfl (show (1 : Nat) = pm_na 69 by decide +kernel) (Nat.le_of_ble_eq_true rfl) (show (1 : Nat) ≤ pm_n 69 by decide +kernel) (rcv_x 8 h7 (hS _ _ sx_130) (by decide +kernel)) (xb_bestCell_ok (d := d + 9) hS h7 e10 ?_)
          show wp _ 125 68 [(0, .ref 0), (1, .int (Int32.ofInt p1))] [.int (Int32.ofInt o9)] w6 _
          refine wp_g 2 (pc1 := 70) (lv1 := [(2, .int (Int32.ofInt o9)), (0, .ref 0), (1, .int (Int32.ofInt p1))]) (st1 := [.int (Int32.ofInt p1)]) (w1 := w6) rfl ?_
          refine wz_ne (oo := 7) (ln := 3) (a := 77) (b := 0) (zz := 0) (by decide +kernel) (fun h13 => ?_) (fun h13 => ?_)
          · have hx := ite_f h13 hx
            refine wp_g 1 (pc1 := 78) (lv1 := [(2, .int (Int32.ofInt o9)), (0, .ref 0), (1, .int (Int32.ofInt p1))]) (st1 := [.ref 0]) (w1 := w6) rfl ?_
            refine wx_gr (o := 130) (kf := 75) (ln := 3) (ci := 11) (b := 10) (zz := 0) (x := 0) (by decide +kernel) h7 (hS _ _ sx_0) rfl ?_
            show wp _ 125 81 [(2, .int (Int32.ofInt o9)), (0, .ref 0), (1, .int (Int32.ofInt p1))] [.ref 130] w6 _
            refine wp_g 1 (pc1 := 82) (lv1 := [(2, .int (Int32.ofInt o9)), (0, .ref 0), (1, .int (Int32.ofInt p1))]) (st1 := [.int (Int32.ofInt o9), .ref 130]) (w1 := w6) rfl ?_
            obtain ⟨o14, e15, hx⟩ := bd hx
            refine wp_cl [.ref 130, .int (Int32.ofInt o9)] [] (i := .invokevirtual 228) (ln := 3) (a := 70) (b := 0) (z := 0) (by decide +kernel) rfl rfl (by decide) rfl (show (2 : Nat) = pm_na 70 by decide +kernel) (Nat.le_of_ble_eq_true rfl) (show (2 : Nat) ≤ pm_n 70 by decide +kernel) (rcv_x 8 h7 (hS _ _ sx_130) (by decide +kernel)) (xb_mostAlike_ok (d := d + 10) hS h7 e15 ?_)
            show wp _ 125 85 [(2, .int (Int32.ofInt o9)), (0, .ref 0), (1, .int (Int32.ofInt p1))] [.int (Int32.ofInt o14)] w6 _
            refine wp_rt (i := .ireturn) (r := some (.int (Int32.ofInt o14))) (ln := 1) (a := 0) (b := 0) (z := 0) (by decide +kernel) rfl (ret_ok (by decide +kernel)) ?_
            cases hx
            exact kr _ h7
          · have hx := ite_t h13 hx
            refine wp_g 2 (pc1 := 85) (lv1 := [(2, .int (Int32.ofInt o9)), (0, .ref 0), (1, .int (Int32.ofInt p1))]) (st1 := [.int (Int32.ofInt o9)]) (w1 := w6) rfl ?_
            refine wp_rt (i := .ireturn) (r := some (.int (Int32.ofInt o9))) (ln := 1) (a := 0) (b := 0) (z := 0) (by decide +kernel) rfl (ret_ok (by decide +kernel)) ?_
            cases hx
            exact kr _ h7
        · have hx := ite_t h8 hx
          refine wp_g 1 (pc1 := 60) (lv1 := [(0, .ref 0), (1, .int (Int32.ofInt p1))]) (st1 := [.int (Int32.ofInt (-2))]) (w1 := w6) rfl ?_
          refine wp_rt (i := .ireturn) (r := some (.int (Int32.ofInt (-2)))) (ln := 1) (a := 0) (b := 0) (z := 0) (by decide +kernel) rfl (ret_ok (by decide +kernel)) ?_
          cases hx
          exact kr _ h7
      · have hx := ite_t h3 hx
        refine wp_g 1 (pc1 := 23) (lv1 := [(0, .ref 0), (1, .int (Int32.ofInt p1))]) (st1 := [.int (Int32.ofInt (-1))]) (w1 := w) rfl ?_
        refine wp_rt (i := .ireturn) (r := some (.int (Int32.ofInt (-1)))) (ln := 1) (a := 0) (b := 0) (z := 0) (by decide +kernel) rfl (ret_ok (by decide +kernel)) ?_
        cases hx
        exact kr _ h
/-- FoldDeeds.richest (I)I -/
noncomputable def xf_richest (s : Hp) (p1 : Int) : Option (Int × Hp) :=
  if w32 p1 < 0 then some ((-1), s) else if w32 1 < w32 p1 then some ((-1), s) else if w32 (s 17 0) = 0 then some ((-1), s) else (xb_richestHills s (s 17 0)).bind fun o4 => if w32 p1 = 0 then (xb_countOf o4.2 o4.1).bind fun o9 => some (o9, o4.2) else some (o4.1, o4.2)
set_option maxRecDepth 100000 in
theorem xf_richest_ok {d : Nat} {P : Option Value → pm_H → Prop} {w : pm_H} {sh : Shp} {w0 : pm_H} {s : Hp} (hS : St sh) {p1 : Int} (h : Rw sh w0 s w) {o : Int × Hp} (hx : xf_richest s p1 = some o) (kr : ∀ w1, Rw sh w0 o.2 w1 → P (some (.int (Int32.ofInt o.1))) w1) : wp (d + 17) 126 0 (lv_args 0 [.ref 0, .int (Int32.ofInt p1)]) [] w P := by
  show wp _ 126 0 [(0, .ref 0), (1, .int (Int32.ofInt p1))] [] w _
  unfold xf_richest at hx
  refine wp_g 1 (pc1 := 1) (lv1 := [(0, .ref 0), (1, .int (Int32.ofInt p1))]) (st1 := [.int (Int32.ofInt p1)]) (w1 := w) rfl ?_
  refine wz_lt (oo := 21) (ln := 3) (a := 22) (b := 0) (zz := 0) (by decide +kernel) (fun h1 => ?_) (fun h1 => ?_)
  · have hx := ite_t h1 hx
    refine wp_g 1 (pc1 := 23) (lv1 := [(0, .ref 0), (1, .int (Int32.ofInt p1))]) (st1 := [.int (Int32.ofInt (-1))]) (w1 := w) rfl ?_
    refine wp_rt (i := .ireturn) (r := some (.int (Int32.ofInt (-1)))) (ln := 1) (a := 0) (b := 0) (z := 0) (by decide +kernel) rfl (ret_ok (by decide +kernel)) ?_
    cases hx
    exact kr _ h
  · have hx := ite_f h1 hx
    refine wp_g 2 (pc1 := 6) (lv1 := [(0, .ref 0), (1, .int (Int32.ofInt p1))]) (st1 := [.int (Int32.ofInt 1), .int (Int32.ofInt p1)]) (w1 := w) rfl ?_
    refine wx_gt (oo := 16) (ln := 3) (a := 22) (b := 0) (zz := 0) (by decide +kernel) (fun h2 => ?_) (fun h2 => ?_)
    · have hx := ite_t h2 hx
      refine wp_g 1 (pc1 := 23) (lv1 := [(0, .ref 0), (1, .int (Int32.ofInt p1))]) (st1 := [.int (Int32.ofInt (-1))]) (w1 := w) rfl ?_
      refine wp_rt (i := .ireturn) (r := some (.int (Int32.ofInt (-1)))) (ln := 1) (a := 0) (b := 0) (z := 0) (by decide +kernel) rfl (ret_ok (by decide +kernel)) ?_
      cases hx
      exact kr _ h
    · have hx := ite_f h2 hx
      refine wp_g 1 (pc1 := 10) (lv1 := [(0, .ref 0), (1, .int (Int32.ofInt p1))]) (st1 := [.ref 0]) (w1 := w) rfl ?_
      refine wx_gr (o := 16) (kf := 43) (ln := 3) (ci := 11) (b := 5) (zz := 0) (x := 0) (by decide +kernel) h (hS _ _ sx_0) rfl ?_
      show wp _ 126 13 [(0, .ref 0), (1, .int (Int32.ofInt p1))] [.ref 16] w _
      refine wx_gr (o := 1) (kf := 116) (ln := 3) (ci := 7) (b := 0) (zz := 0) (x := 16) (by decide +kernel) h (hS _ _ sx_16) rfl ?_
      show wp _ 126 16 [(0, .ref 0), (1, .int (Int32.ofInt p1))] [.ref 17] w _
      refine wx_gi (kf := 119) (ln := 3) (ci := 0) (b := 0) (zz := 0) (x := 17) (by decide +kernel) h (hS _ _ sx_17) rfl ?_
      show wp _ 126 19 [(0, .ref 0), (1, .int (Int32.ofInt p1))] [.int (Int32.ofInt (s 17 0))] w _
      refine wz_ne (oo := 5) (ln := 3) (a := 24) (b := 0) (zz := 0) (by decide +kernel) (fun h3 => ?_) (fun h3 => ?_)
      · have hx := ite_f h3 hx
        refine wp_g 1 (pc1 := 25) (lv1 := [(0, .ref 0), (1, .int (Int32.ofInt p1))]) (st1 := [.ref 0]) (w1 := w) rfl ?_
        refine wx_gr (o := 130) (kf := 75) (ln := 3) (ci := 11) (b := 10) (zz := 0) (x := 0) (by decide +kernel) h (hS _ _ sx_0) rfl ?_
        show wp _ 126 28 [(0, .ref 0), (1, .int (Int32.ofInt p1))] [.ref 130] w _
        refine wp_g 1 (pc1 := 29) (lv1 := [(0, .ref 0), (1, .int (Int32.ofInt p1))]) (st1 := [.ref 0, .ref 130]) (w1 := w) rfl ?_
        refine wx_gr (o := 16) (kf := 43) (ln := 3) (ci := 11) (b := 5) (zz := 0) (x := 0) (by decide +kernel) h (hS _ _ sx_0) rfl ?_
        show wp _ 126 32 [(0, .ref 0), (1, .int (Int32.ofInt p1))] [.ref 16, .ref 130] w _
        refine wx_gr (o := 1) (kf := 116) (ln := 3) (ci := 7) (b := 0) (zz := 0) (x := 16) (by decide +kernel) h (hS _ _ sx_16) rfl ?_
        show wp _ 126 35 [(0, .ref 0), (1, .int (Int32.ofInt p1))] [.ref 17, .ref 130] w _
        refine wx_gi (kf := 119) (ln := 3) (ci := 0) (b := 0) (zz := 0) (x := 17) (by decide +kernel) h (hS _ _ sx_17) rfl ?_
        show wp _ 126 38 [(0, .ref 0), (1, .int (Int32.ofInt p1))] [.int (Int32.ofInt (s 17 0)), .ref 130] w _
        obtain ⟨o4, e5, hx⟩ := bd hx
        refine wp_cl [.ref 130, .int (Int32.ofInt (s 17 0))] [] (i := .invokevirtual 231) (ln := 3) (a := 71) (b := 0) (z := 0) (by decide +kernel) rfl rfl (by decide) rfl (show (2 : Nat) = pm_na 71 by decide +kernel) (Nat.le_of_ble_eq_true rfl) (show (2 : Nat) ≤ pm_n 71 by decide +kernel) (rcv_x 8 h (hS _ _ sx_130) (by decide +kernel)) (xb_richestHills_ok (d := d) hS h e5 (fun w6 h7 => ?_))
        show wp _ 126 41 [(0, .ref 0), (1, .int (Int32.ofInt p1))] [.int (Int32.ofInt o4.1)] w6 _
        refine wp_g 2 (pc1 := 43) (lv1 := [(2, .int (Int32.ofInt o4.1)), (0, .ref 0), (1, .int (Int32.ofInt p1))]) (st1 := [.int (Int32.ofInt p1)]) (w1 := w6) rfl ?_
        refine wz_ne (oo := 14) (ln := 3) (a := 57) (b := 0) (zz := 0) (by decide +kernel) (fun h8 => ?_) (fun h8 => ?_)
        · have hx := ite_f h8 hx
          refine wp_g 1 (pc1 := 58) (lv1 := [(2, .int (Int32.ofInt o4.1)), (0, .ref 0), (1, .int (Int32.ofInt p1))]) (st1 := [.int (Int32.ofInt o4.1)]) (w1 := w6) rfl ?_
          refine wp_rt (i := .ireturn) (r := some (.int (Int32.ofInt o4.1))) (ln := 1) (a := 0) (b := 0) (z := 0) (by decide +kernel) rfl (ret_ok (by decide +kernel)) ?_
          cases hx
          exact kr _ h7
        · have hx := ite_t h8 hx
          refine wp_g 1 (pc1 := 47) (lv1 := [(2, .int (Int32.ofInt o4.1)), (0, .ref 0), (1, .int (Int32.ofInt p1))]) (st1 := [.ref 0]) (w1 := w6) rfl ?_
          refine wx_gr (o := 130) (kf := 75) (ln := 3) (ci := 11) (b := 10) (zz := 0) (x := 0) (by decide +kernel) h7 (hS _ _ sx_0) rfl ?_
          show wp _ 126 50 [(2, .int (Int32.ofInt o4.1)), (0, .ref 0), (1, .int (Int32.ofInt p1))] [.ref 130] w6 _
          refine wp_g 1 (pc1 := 51) (lv1 := [(2, .int (Int32.ofInt o4.1)), (0, .ref 0), (1, .int (Int32.ofInt p1))]) (st1 := [.int (Int32.ofInt o4.1), .ref 130]) (w1 := w6) rfl ?_
          obtain ⟨o9, e10, hx⟩ := bd hx
          refine wp_cl [.ref 130, .int (Int32.ofInt o4.1)] [] (i := .invokevirtual 234) (ln := 3) (a := 72) (b := 0) (z := 0) (by decide +kernel) rfl rfl (by decide) rfl (show (2 : Nat) = pm_na 72 by decide +kernel) (Nat.le_of_ble_eq_true rfl) (show (2 : Nat) ≤ pm_n 72 by decide +kernel) (rcv_x 8 h7 (hS _ _ sx_130) (by decide +kernel)) (xb_countOf_ok (d := d + 16) hS h7 e10 ?_)
          show wp _ 126 54 [(2, .int (Int32.ofInt o4.1)), (0, .ref 0), (1, .int (Int32.ofInt p1))] [.int (Int32.ofInt o9)] w6 _
          refine wp_g 1 (pc1 := 58) (lv1 := [(2, .int (Int32.ofInt o4.1)), (0, .ref 0), (1, .int (Int32.ofInt p1))]) (st1 := [.int (Int32.ofInt o9)]) (w1 := w6) rfl ?_
          refine wp_rt (i := .ireturn) (r := some (.int (Int32.ofInt o9))) (ln := 1) (a := 0) (b := 0) (z := 0) (by decide +kernel) rfl (ret_ok (by decide +kernel)) ?_
          cases hx
          exact kr _ h7
      · have hx := ite_t h3 hx
        refine wp_g 1 (pc1 := 23) (lv1 := [(0, .ref 0), (1, .int (Int32.ofInt p1))]) (st1 := [.int (Int32.ofInt (-1))]) (w1 := w) rfl ?_
        refine wp_rt (i := .ireturn) (r := some (.int (Int32.ofInt (-1)))) (ln := 1) (a := 0) (b := 0) (z := 0) (by decide +kernel) rfl (ret_ok (by decide +kernel)) ?_
        cases hx
        exact kr _ h
/-- FoldDeeds.own (III)I -/
noncomputable def xf_own (ln : Nat → Nat) (rs : Nat → Int) (s : Hp) (p1 : Int) (p2 : Int) (p3 : Int) : Option (Int × Hp) :=
  (xl_hasPerson s 17 p1).bind fun o1 => if w32 o1 = 0 then some ((-3), s) else if w32 p2 < w32 1 then some ((-3), s) else if w32 p2 < w32 (bShl 1 (s 17 0)) then if w32 p3 < w32 (-1) then some ((-3), s) else if w32 p3 < w32 3 then (xf_ruleInForce ln rs s).bind fun o10 => (xg_seekOwned ln rs s o10 17 p1 p2).bind fun o15 => (xg_answer o15 p3).bind fun o19 => some (o19, o15) else some ((-3), s) else some ((-3), s)
set_option maxRecDepth 100000 in
theorem xf_own_ok {d : Nat} {P : Option Value → pm_H → Prop} {w : pm_H} {sh : Shp} {w0 : pm_H} {s : Hp} (hS : St sh) {ln : Nat → Nat} {rs : Nat → Int} (hG : ∀ i, okR ln sh (rs i)) {p1 : Int} {p2 : Int} {p3 : Int} (h : Rw sh w0 s w) {o : Int × Hp} (hx : xf_own ln rs s p1 p2 p3 = some o) (kr : ∀ w1, Rw sh w0 o.2 w1 → P (some (.int (Int32.ofInt o.1))) w1) : wp (d + 17) 127 0 (lv_args 0 [.ref 0, .int (Int32.ofInt p1), .int (Int32.ofInt p2), .int (Int32.ofInt p3)]) [] w P := by
  show wp _ 127 0 [(0, .ref 0), (1, .int (Int32.ofInt p1)), (2, .int (Int32.ofInt p2)), (3, .int (Int32.ofInt p3))] [] w _
  unfold xf_own at hx
  refine wp_g 1 (pc1 := 1) (lv1 := [(0, .ref 0), (1, .int (Int32.ofInt p1)), (2, .int (Int32.ofInt p2)), (3, .int (Int32.ofInt p3))]) (st1 := [.ref 0]) (w1 := w) rfl ?_
  refine wx_gr (o := 16) (kf := 43) (ln := 3) (ci := 11) (b := 5) (zz := 0) (x := 0) (by decide +kernel) h (hS _ _ sx_0) rfl ?_
  show wp _ 127 4 [(0, .ref 0), (1, .int (Int32.ofInt p1)), (2, .int (Int32.ofInt p2)), (3, .int (Int32.ofInt p3))] [.ref 16] w _
  refine wx_gr (o := 1) (kf := 116) (ln := 3) (ci := 7) (b := 0) (zz := 0) (x := 16) (by decide +kernel) h (hS _ _ sx_16) rfl ?_
  show wp _ 127 7 [(0, .ref 0), (1, .int (Int32.ofInt p1)), (2, .int (Int32.ofInt p2)), (3, .int (Int32.ofInt p3))] [.ref 17] w _
  refine wp_g 3 (pc1 := 12) (lv1 := [(4, .ref 17), (0, .ref 0), (1, .int (Int32.ofInt p1)), (2, .int (Int32.ofInt p2)), (3, .int (Int32.ofInt p3))]) (st1 := [.int (Int32.ofInt p1), .ref 17]) (w1 := w) rfl ?_
  obtain ⟨o1, e2, hx⟩ := bd hx
  refine wp_cl [.ref 17, .int (Int32.ofInt p1)] [] (i := .invokevirtual 160) (ln := 3) (a := 7) (b := 0) (z := 0) (by decide +kernel) rfl rfl (by decide) rfl (show (2 : Nat) = pm_na 7 by decide +kernel) (Nat.le_of_ble_eq_true rfl) (show (2 : Nat) ≤ pm_n 7 by decide +kernel) (rcv_x 0 h (hS _ _ sx_17) (by decide +kernel)) (xl_hasPerson_ok (d := d + 16) hS (okC_17 hS) h e2 ?_)
  show wp _ 127 15 [(4, .ref 17), (0, .ref 0), (1, .int (Int32.ofInt p1)), (2, .int (Int32.ofInt p2)), (3, .int (Int32.ofInt p3))] [.int (Int32.ofInt o1)] w _
  refine wz_eq (oo := 29) (ln := 3) (a := 44) (b := 0) (zz := 0) (by decide +kernel) (fun h5 => ?_) (fun h5 => ?_)
  · have hx := ite_t h5 hx
    refine wp_g 1 (pc1 := 46) (lv1 := [(4, .ref 17), (0, .ref 0), (1, .int (Int32.ofInt p1)), (2, .int (Int32.ofInt p2)), (3, .int (Int32.ofInt p3))]) (st1 := [.int (Int32.ofInt (-3))]) (w1 := w) rfl ?_
    refine wp_rt (i := .ireturn) (r := some (.int (Int32.ofInt (-3)))) (ln := 1) (a := 0) (b := 0) (z := 0) (by decide +kernel) rfl (ret_ok (by decide +kernel)) ?_
    cases hx
    exact kr _ h
  · have hx := ite_f h5 hx
    refine wp_g 2 (pc1 := 20) (lv1 := [(4, .ref 17), (0, .ref 0), (1, .int (Int32.ofInt p1)), (2, .int (Int32.ofInt p2)), (3, .int (Int32.ofInt p3))]) (st1 := [.int (Int32.ofInt 1), .int (Int32.ofInt p2)]) (w1 := w) rfl ?_
    refine wx_lt (oo := 24) (ln := 3) (a := 44) (b := 0) (zz := 0) (by decide +kernel) (fun h6 => ?_) (fun h6 => ?_)
    · have hx := ite_t h6 hx
      refine wp_g 1 (pc1 := 46) (lv1 := [(4, .ref 17), (0, .ref 0), (1, .int (Int32.ofInt p1)), (2, .int (Int32.ofInt p2)), (3, .int (Int32.ofInt p3))]) (st1 := [.int (Int32.ofInt (-3))]) (w1 := w) rfl ?_
      refine wp_rt (i := .ireturn) (r := some (.int (Int32.ofInt (-3)))) (ln := 1) (a := 0) (b := 0) (z := 0) (by decide +kernel) rfl (ret_ok (by decide +kernel)) ?_
      cases hx
      exact kr _ h
    · have hx := ite_f h6 hx
      refine wp_g 3 (pc1 := 27) (lv1 := [(4, .ref 17), (0, .ref 0), (1, .int (Int32.ofInt p1)), (2, .int (Int32.ofInt p2)), (3, .int (Int32.ofInt p3))]) (st1 := [.ref 17, .int (Int32.ofInt 1), .int (Int32.ofInt p2)]) (w1 := w) rfl ?_
      refine wx_gi (kf := 119) (ln := 3) (ci := 0) (b := 0) (zz := 0) (x := 17) (by decide +kernel) h (hS _ _ sx_17) rfl ?_
      show wp _ 127 30 [(4, .ref 17), (0, .ref 0), (1, .int (Int32.ofInt p1)), (2, .int (Int32.ofInt p2)), (3, .int (Int32.ofInt p3))] [.int (Int32.ofInt (s 17 0)), .int (Int32.ofInt 1), .int (Int32.ofInt p2)] w _
      refine wp_g 1 (pc1 := 31) (lv1 := [(4, .ref 17), (0, .ref 0), (1, .int (Int32.ofInt p1)), (2, .int (Int32.ofInt p2)), (3, .int (Int32.ofInt p3))]) (st1 := [.int (Int32.ofInt (bShl 1 (s 17 0))), .int (Int32.ofInt p2)]) (w1 := w) (by simp only [Int32.ofInt_add, Int32.ofInt_sub, Int32.ofInt_mul, Int32.ofInt_neg, p_and, p_or, p_xor, p_shl, p_shr, p_usr, p_w8, p_c16, p_lI, q_and, q_or, q_shl, q_shr, q_w32, Int64.ofInt_add, Int64.ofInt_sub, Int64.ofInt_mul, p_mx, p_mn, q_mx, q_mn]; rfl) ?_
      refine wx_ge (oo := 13) (ln := 3) (a := 44) (b := 0) (zz := 0) (by decide +kernel) (fun h7 => ?_) (fun h7 => ?_)
      · have hx := ite_f h7 hx
        refine wp_g 1 (pc1 := 46) (lv1 := [(4, .ref 17), (0, .ref 0), (1, .int (Int32.ofInt p1)), (2, .int (Int32.ofInt p2)), (3, .int (Int32.ofInt p3))]) (st1 := [.int (Int32.ofInt (-3))]) (w1 := w) rfl ?_
        refine wp_rt (i := .ireturn) (r := some (.int (Int32.ofInt (-3)))) (ln := 1) (a := 0) (b := 0) (z := 0) (by decide +kernel) rfl (ret_ok (by decide +kernel)) ?_
        cases hx
        exact kr _ h
      · have hx := ite_t h7 hx
        refine wp_g 2 (pc1 := 36) (lv1 := [(4, .ref 17), (0, .ref 0), (1, .int (Int32.ofInt p1)), (2, .int (Int32.ofInt p2)), (3, .int (Int32.ofInt p3))]) (st1 := [.int (Int32.ofInt (-1)), .int (Int32.ofInt p3)]) (w1 := w) rfl ?_
        refine wx_lt (oo := 8) (ln := 3) (a := 44) (b := 0) (zz := 0) (by decide +kernel) (fun h8 => ?_) (fun h8 => ?_)
        · have hx := ite_t h8 hx
          refine wp_g 1 (pc1 := 46) (lv1 := [(4, .ref 17), (0, .ref 0), (1, .int (Int32.ofInt p1)), (2, .int (Int32.ofInt p2)), (3, .int (Int32.ofInt p3))]) (st1 := [.int (Int32.ofInt (-3))]) (w1 := w) rfl ?_
          refine wp_rt (i := .ireturn) (r := some (.int (Int32.ofInt (-3)))) (ln := 1) (a := 0) (b := 0) (z := 0) (by decide +kernel) rfl (ret_ok (by decide +kernel)) ?_
          cases hx
          exact kr _ h
        · have hx := ite_f h8 hx
          refine wp_g 2 (pc1 := 41) (lv1 := [(4, .ref 17), (0, .ref 0), (1, .int (Int32.ofInt p1)), (2, .int (Int32.ofInt p2)), (3, .int (Int32.ofInt p3))]) (st1 := [.int (Int32.ofInt 3), .int (Int32.ofInt p3)]) (w1 := w) rfl ?_
          refine wx_lt (oo := 6) (ln := 3) (a := 47) (b := 0) (zz := 0) (by decide +kernel) (fun h9 => ?_) (fun h9 => ?_)
          · have hx := ite_t h9 hx
            refine wp_g 1 (pc1 := 48) (lv1 := [(4, .ref 17), (0, .ref 0), (1, .int (Int32.ofInt p1)), (2, .int (Int32.ofInt p2)), (3, .int (Int32.ofInt p3))]) (st1 := [.ref 0]) (w1 := w) rfl ?_
            refine wx_gr (o := 54) (kf := 68) (ln := 3) (ci := 11) (b := 9) (zz := 0) (x := 0) (by decide +kernel) h (hS _ _ sx_0) rfl ?_
            show wp _ 127 51 [(4, .ref 17), (0, .ref 0), (1, .int (Int32.ofInt p1)), (2, .int (Int32.ofInt p2)), (3, .int (Int32.ofInt p3))] [.ref 54] w _
            refine wp_g 1 (pc1 := 52) (lv1 := [(4, .ref 17), (0, .ref 0), (1, .int (Int32.ofInt p1)), (2, .int (Int32.ofInt p2)), (3, .int (Int32.ofInt p3))]) (st1 := [.ref 0, .ref 54]) (w1 := w) rfl ?_
            refine wx_gr (o := 41) (kf := 61) (ln := 3) (ci := 11) (b := 8) (zz := 0) (x := 0) (by decide +kernel) h (hS _ _ sx_0) rfl ?_
            show wp _ 127 55 [(4, .ref 17), (0, .ref 0), (1, .int (Int32.ofInt p1)), (2, .int (Int32.ofInt p2)), (3, .int (Int32.ofInt p3))] [.ref 41, .ref 54] w _
            refine wp_g 1 (pc1 := 56) (lv1 := [(4, .ref 17), (0, .ref 0), (1, .int (Int32.ofInt p1)), (2, .int (Int32.ofInt p2)), (3, .int (Int32.ofInt p3))]) (st1 := [.ref 0, .ref 41, .ref 54]) (w1 := w) rfl ?_
            obtain ⟨o10, e11, hx⟩ := bd hx
            refine wp_cl [.ref 0] [.ref 41, .ref 54] (i := .invokevirtual 180) (ln := 3) (a := 138) (b := 0) (z := 0) (by decide +kernel) rfl rfl (by decide) rfl (show (1 : Nat) = pm_na 138 by decide +kernel) (Nat.le_of_ble_eq_true rfl) (show (1 : Nat) ≤ pm_n 138 by decide +kernel) (rcv_x 11 h (hS _ _ sx_0) (by decide +kernel)) (xf_ruleInForce_ok (d := d + 15) hS hG h e11 (fun h14 => ?_))
            show wp _ 127 59 [(4, .ref 17), (0, .ref 0), (1, .int (Int32.ofInt p1)), (2, .int (Int32.ofInt p2)), (3, .int (Int32.ofInt p3))] [vR o10, .ref 41, .ref 54] w _
            refine wp_g 3 (pc1 := 63) (lv1 := [(4, .ref 17), (0, .ref 0), (1, .int (Int32.ofInt p1)), (2, .int (Int32.ofInt p2)), (3, .int (Int32.ofInt p3))]) (st1 := [.int (Int32.ofInt p2), .int (Int32.ofInt p1), .ref 17, vR o10, .ref 41, .ref 54]) (w1 := w) (by rcases vR_c o10 with e | ⟨_, e⟩ <;> simp only [e] <;> rfl) ?_
            obtain ⟨o15, e16, hx⟩ := bd hx
            refine wp_cl [.ref 54, .ref 41, vR o10, .ref 17, .int (Int32.ofInt p1), .int (Int32.ofInt p2)] [] (i := .invokevirtual 237) (ln := 3) (a := 33) (b := 0) (z := 0) (by decide +kernel) rfl rfl (by decide) rfl (show (6 : Nat) = pm_na 33 by decide +kernel) (Nat.le_of_ble_eq_true rfl) (by rcases vR_c o10 with e | ⟨_, e⟩ <;> simp only [e] <;> exact (show (6 : Nat) ≤ pm_n 33 by decide +kernel)) (rcv_x 2 h (hS _ _ sx_54) (by decide +kernel)) (xg_seekOwned_ok (d := d) hS hG h14 (okC_17 hS) h e16 (fun w17 h18 => ?_))
            show wp _ 127 66 [(4, .ref 17), (0, .ref 0), (1, .int (Int32.ofInt p1)), (2, .int (Int32.ofInt p2)), (3, .int (Int32.ofInt p3))] [] w17 _
            refine wp_g 1 (pc1 := 67) (lv1 := [(4, .ref 17), (0, .ref 0), (1, .int (Int32.ofInt p1)), (2, .int (Int32.ofInt p2)), (3, .int (Int32.ofInt p3))]) (st1 := [.ref 0]) (w1 := w17) rfl ?_
            refine wx_gr (o := 54) (kf := 68) (ln := 3) (ci := 11) (b := 9) (zz := 0) (x := 0) (by decide +kernel) h18 (hS _ _ sx_0) rfl ?_
            show wp _ 127 70 [(4, .ref 17), (0, .ref 0), (1, .int (Int32.ofInt p1)), (2, .int (Int32.ofInt p2)), (3, .int (Int32.ofInt p3))] [.ref 54] w17 _
            refine wp_g 1 (pc1 := 71) (lv1 := [(4, .ref 17), (0, .ref 0), (1, .int (Int32.ofInt p1)), (2, .int (Int32.ofInt p2)), (3, .int (Int32.ofInt p3))]) (st1 := [.int (Int32.ofInt p3), .ref 54]) (w1 := w17) rfl ?_
            obtain ⟨o19, e20, hx⟩ := bd hx
            refine wp_cl [.ref 54, .int (Int32.ofInt p3)] [] (i := .invokevirtual 209) (ln := 3) (a := 29) (b := 0) (z := 0) (by decide +kernel) rfl rfl (by decide) rfl (show (2 : Nat) = pm_na 29 by decide +kernel) (Nat.le_of_ble_eq_true rfl) (show (2 : Nat) ≤ pm_n 29 by decide +kernel) (rcv_x 2 h18 (hS _ _ sx_54) (by decide +kernel)) (xg_answer_ok (d := d + 16) hS h18 e20 ?_)
            show wp _ 127 74 [(4, .ref 17), (0, .ref 0), (1, .int (Int32.ofInt p1)), (2, .int (Int32.ofInt p2)), (3, .int (Int32.ofInt p3))] [.int (Int32.ofInt o19)] w17 _
            refine wp_rt (i := .ireturn) (r := some (.int (Int32.ofInt o19))) (ln := 1) (a := 0) (b := 0) (z := 0) (by decide +kernel) rfl (ret_ok (by decide +kernel)) ?_
            cases hx
            exact kr _ h18
          · have hx := ite_f h9 hx
            refine wp_g 1 (pc1 := 46) (lv1 := [(4, .ref 17), (0, .ref 0), (1, .int (Int32.ofInt p1)), (2, .int (Int32.ofInt p2)), (3, .int (Int32.ofInt p3))]) (st1 := [.int (Int32.ofInt (-3))]) (w1 := w) rfl ?_
            refine wp_rt (i := .ireturn) (r := some (.int (Int32.ofInt (-3)))) (ln := 1) (a := 0) (b := 0) (z := 0) (by decide +kernel) rfl (ret_ok (by decide +kernel)) ?_
            cases hx
            exact kr _ h
noncomputable def xf_winningPlace_b24 (x0 : Int) (x1 : Int) (x2 : Int) (x3 : Int) (x4 : Int) : Option ((Int × Int) ⊕ (Int × Int)) :=
  if w32 x4 < 0 then some (.inr (x2, x4)) else (xf_widthAfter x3 x4).bind fun o2 => if w32 (bAnd (bShr x1 o2) 1) = 0 then some (.inl (x4, x4 + (-1))) else some (.inl (x2, x4 + (-1)))
set_option maxRecDepth 100000 in
theorem xf_winningPlace_b24_ok {d : Nat} {P : Option Value → pm_H → Prop} {w : pm_H} {x0 : Int} {x1 : Int} {x2 : Int} {x3 : Int} {x4 : Int} {o : ((Int × Int) ⊕ (Int × Int))} (hx : xf_winningPlace_b24 x0 x1 x2 x3 x4 = some o) (kn : ∀ (q : Int × Int) w1, o = .inl q → w = w1 → wp (d + 7) 144 24 [(0, .int (Int32.ofInt x0)), (1, .int (Int32.ofInt x1)), (2, .int (Int32.ofInt q.1)), (3, .int (Int32.ofInt x3)), (4, .int (Int32.ofInt q.2))] [] w1 P) (kc : ∀ (r : (Int × Int)), o = .inr r → (∀ w1, w = w1 → wp (d + 7) 144 51 [(0, .int (Int32.ofInt x0)), (1, .int (Int32.ofInt x1)), (2, .int (Int32.ofInt r.1)), (3, .int (Int32.ofInt x3)), (4, .int (Int32.ofInt r.2))] [] w1 P)) : wp (d + 7) 144 24 [(0, .int (Int32.ofInt x0)), (1, .int (Int32.ofInt x1)), (2, .int (Int32.ofInt x2)), (3, .int (Int32.ofInt x3)), (4, .int (Int32.ofInt x4))] [] w P := by
  unfold xf_winningPlace_b24 at hx
  refine wp_g 1 (pc1 := 26) (lv1 := [(0, .int (Int32.ofInt x0)), (1, .int (Int32.ofInt x1)), (2, .int (Int32.ofInt x2)), (3, .int (Int32.ofInt x3)), (4, .int (Int32.ofInt x4))]) (st1 := [.int (Int32.ofInt x4)]) (w1 := w) rfl ?_
  refine wz_lt (oo := 25) (ln := 3) (a := 51) (b := 0) (zz := 0) (by decide +kernel) (fun h1 => ?_) (fun h1 => ?_)
  · have hx := ite_t h1 hx
    cases hx
    exact kc _ rfl _ rfl
  · have hx := ite_f h1 hx
    refine wp_g 3 (pc1 := 33) (lv1 := [(0, .int (Int32.ofInt x0)), (1, .int (Int32.ofInt x1)), (2, .int (Int32.ofInt x2)), (3, .int (Int32.ofInt x3)), (4, .int (Int32.ofInt x4))]) (st1 := [.int (Int32.ofInt x4), .int (Int32.ofInt x3), .int (Int32.ofInt x1)]) (w1 := w) rfl ?_
    obtain ⟨o2, e3, hx⟩ := bd hx
    refine wp_cl [.int (Int32.ofInt x3), .int (Int32.ofInt x4)] [.int (Int32.ofInt x1)] (i := .invokestatic 310) (ln := 3) (a := 145) (b := 1) (z := 0) (by decide +kernel) rfl rfl (by decide) rfl (show (2 : Nat) = pm_na 145 by decide +kernel) (Nat.le_of_ble_eq_true rfl) (show (2 : Nat) ≤ pm_n 145 by decide +kernel) (by rw [show pm_k 145 = 1 by decide +kernel]; rfl) (xf_widthAfter_ok (d := d) e3 ?_)
    show wp _ 144 36 [(0, .int (Int32.ofInt x0)), (1, .int (Int32.ofInt x1)), (2, .int (Int32.ofInt x2)), (3, .int (Int32.ofInt x3)), (4, .int (Int32.ofInt x4))] [.int (Int32.ofInt o2), .int (Int32.ofInt x1)] w _
    refine wp_g 3 (pc1 := 39) (lv1 := [(0, .int (Int32.ofInt x0)), (1, .int (Int32.ofInt x1)), (2, .int (Int32.ofInt x2)), (3, .int (Int32.ofInt x3)), (4, .int (Int32.ofInt x4))]) (st1 := [.int (Int32.ofInt (bAnd (bShr x1 o2) 1))]) (w1 := w) (by simp only [Int32.ofInt_add, Int32.ofInt_sub, Int32.ofInt_mul, Int32.ofInt_neg, p_and, p_or, p_xor, p_shl, p_shr, p_usr, p_w8, p_c16, p_lI, q_and, q_or, q_shl, q_shr, q_w32, Int64.ofInt_add, Int64.ofInt_sub, Int64.ofInt_mul, p_mx, p_mn, q_mx, q_mn]; rfl) ?_
    refine wz_ne (oo := 6) (ln := 3) (a := 45) (b := 0) (zz := 0) (by decide +kernel) (fun h6 => ?_) (fun h6 => ?_)
    · have hx := ite_f h6 hx
      refine wp_g 2 (pc1 := 24) (lv1 := [(4, .int (Int32.ofInt (x4 + (-1)))), (0, .int (Int32.ofInt x0)), (1, .int (Int32.ofInt x1)), (2, .int (Int32.ofInt x2)), (3, .int (Int32.ofInt x3))]) (st1 := []) (w1 := w) (by simp only [Int32.ofInt_add, Int32.ofInt_sub, Int32.ofInt_mul, Int32.ofInt_neg, p_and, p_or, p_xor, p_shl, p_shr, p_usr, p_w8, p_c16, p_lI, q_and, q_or, q_shl, q_shr, q_w32, Int64.ofInt_add, Int64.ofInt_sub, Int64.ofInt_mul, p_mx, p_mn, q_mx, q_mn]; rfl) ?_
      refine wp_lv (lv1 := [(0, .int (Int32.ofInt x0)), (1, .int (Int32.ofInt x1)), (2, .int (Int32.ofInt x2)), (3, .int (Int32.ofInt x3)), (4, .int (Int32.ofInt (x4 + (-1))))]) (lsub_p [1, 2, 3, 4, 0] rfl rfl rfl) ?_
      cases hx
      exact kn _ _ rfl rfl
    · have hx := ite_t h6 hx
      refine wp_g 4 (pc1 := 24) (lv1 := [(4, .int (Int32.ofInt (x4 + (-1)))), (2, .int (Int32.ofInt x4)), (0, .int (Int32.ofInt x0)), (1, .int (Int32.ofInt x1)), (3, .int (Int32.ofInt x3))]) (st1 := []) (w1 := w) (by simp only [Int32.ofInt_add, Int32.ofInt_sub, Int32.ofInt_mul, Int32.ofInt_neg, p_and, p_or, p_xor, p_shl, p_shr, p_usr, p_w8, p_c16, p_lI, q_and, q_or, q_shl, q_shr, q_w32, Int64.ofInt_add, Int64.ofInt_sub, Int64.ofInt_mul, p_mx, p_mn, q_mx, q_mn]; rfl) ?_
      refine wp_lv (lv1 := [(0, .int (Int32.ofInt x0)), (1, .int (Int32.ofInt x1)), (2, .int (Int32.ofInt x4)), (3, .int (Int32.ofInt x3)), (4, .int (Int32.ofInt (x4 + (-1))))]) (lsub_p [2, 3, 1, 4, 0] rfl rfl rfl) ?_
      cases hx
      exact kn _ _ rfl rfl
noncomputable def xf_winningPlace_b6 (x0 : Int) (x1 : Int) (x2 : Int) (x3 : Int) : Option ((Int × Int × Int) ⊕ (Int × Int × Int)) :=
  if w32 x0 < w32 x3 then some (.inr (x1, x2, x3)) else if w32 8 < w32 x3 then some (.inr (x1, x2, x3)) else (lp (fun (q : Int × Int) => xf_winningPlace_b24 x0 x1 q.1 x3 q.2) ((-1), x3 - 2)).bind fun q3 => if w32 q3.1 = w32 (-1) then some (.inl (x1, q3.1, x3 + 1)) else some (.inl (bOr x1 (bShl 1 x3), q3.1, x3 + 1))
set_option maxRecDepth 100000 in
theorem xf_winningPlace_b6_ok {d : Nat} {P : Option Value → pm_H → Prop} {w : pm_H} {x0 : Int} {x1 : Int} {x2 : Int} {x3 : Int} {o : ((Int × Int × Int) ⊕ (Int × Int × Int))} (hx : xf_winningPlace_b6 x0 x1 x2 x3 = some o) (kn : ∀ (q : Int × Int × Int) w1, o = .inl q → w = w1 → wp (d + 7) 144 6 [(0, .int (Int32.ofInt x0)), (1, .int (Int32.ofInt q.1)), (2, .int (Int32.ofInt q.2.1)), (3, .int (Int32.ofInt q.2.2))] [] w1 P) (kc : ∀ (r : (Int × Int × Int)), o = .inr r → (∀ w1, w = w1 → wp (d + 7) 144 68 [(0, .int (Int32.ofInt x0)), (1, .int (Int32.ofInt r.1)), (2, .int (Int32.ofInt r.2.1)), (3, .int (Int32.ofInt r.2.2))] [] w1 P)) : wp (d + 7) 144 6 [(0, .int (Int32.ofInt x0)), (1, .int (Int32.ofInt x1)), (2, .int (Int32.ofInt x2)), (3, .int (Int32.ofInt x3))] [] w P := by
  unfold xf_winningPlace_b6 at hx
  refine wp_g 2 (pc1 := 8) (lv1 := [(0, .int (Int32.ofInt x0)), (1, .int (Int32.ofInt x1)), (2, .int (Int32.ofInt x2)), (3, .int (Int32.ofInt x3))]) (st1 := [.int (Int32.ofInt x0), .int (Int32.ofInt x3)]) (w1 := w) rfl ?_
  refine wx_gt (oo := 60) (ln := 3) (a := 68) (b := 0) (zz := 0) (by decide +kernel) (fun h1 => ?_) (fun h1 => ?_)
  · have hx := ite_t h1 hx
    cases hx
    exact kc _ rfl _ rfl
  · have hx := ite_f h1 hx
    refine wp_g 2 (pc1 := 14) (lv1 := [(0, .int (Int32.ofInt x0)), (1, .int (Int32.ofInt x1)), (2, .int (Int32.ofInt x2)), (3, .int (Int32.ofInt x3))]) (st1 := [.int (Int32.ofInt 8), .int (Int32.ofInt x3)]) (w1 := w) rfl ?_
    refine wx_gt (oo := 54) (ln := 3) (a := 68) (b := 0) (zz := 0) (by decide +kernel) (fun h2 => ?_) (fun h2 => ?_)
    · have hx := ite_t h2 hx
      cases hx
      exact kc _ rfl _ rfl
    · have hx := ite_f h2 hx
      refine wp_g 6 (pc1 := 24) (lv1 := [(4, .int (Int32.ofInt (x3 - 2))), (2, .int (Int32.ofInt (-1))), (0, .int (Int32.ofInt x0)), (1, .int (Int32.ofInt x1)), (3, .int (Int32.ofInt x3))]) (st1 := []) (w1 := w) (by simp only [Int32.ofInt_add, Int32.ofInt_sub, Int32.ofInt_mul, Int32.ofInt_neg, p_and, p_or, p_xor, p_shl, p_shr, p_usr, p_w8, p_c16, p_lI, q_and, q_or, q_shl, q_shr, q_w32, Int64.ofInt_add, Int64.ofInt_sub, Int64.ofInt_mul, p_mx, p_mn, q_mx, q_mn]; rfl) ?_
      refine wp_lv (lv1 := [(0, .int (Int32.ofInt x0)), (1, .int (Int32.ofInt x1)), (2, .int (Int32.ofInt (-1))), (3, .int (Int32.ofInt x3)), (4, .int (Int32.ofInt (x3 - 2)))]) (lsub_p [2, 3, 1, 4, 0] rfl rfl rfl) ?_
      obtain ⟨q3, e4, hx⟩ := bd hx
      refine wp_lp (σ := Int × Int) (ρ := (Int × Int)) (B := fun q => xf_winningPlace_b24 x0 x1 q.1 x3 q.2) (R := fun q w' => w = w') (C := fun r => ∀ w1, w = w1 → wp (d + 7) 144 51 [(0, .int (Int32.ofInt x0)), (1, .int (Int32.ofInt x1)), (2, .int (Int32.ofInt r.1)), (3, .int (Int32.ofInt x3)), (4, .int (Int32.ofInt r.2))] [] w1 P) (lv := fun q => [(0, .int (Int32.ofInt x0)), (1, .int (Int32.ofInt x1)), (2, .int (Int32.ofInt q.1)), (3, .int (Int32.ofInt x3)), (4, .int (Int32.ofInt q.2))]) (hd := 24) (fun q w' o hR hb kn kc => by subst hR; exact xf_winningPlace_b24_ok hb kn kc) _ _ _ e4 rfl ?_
      intro w5 h6
      subst h6
      show wp _ 144 51 [(0, .int (Int32.ofInt x0)), (1, .int (Int32.ofInt x1)), (2, .int (Int32.ofInt q3.1)), (3, .int (Int32.ofInt x3)), (4, .int (Int32.ofInt q3.2))] [] w _
      refine wp_g 2 (pc1 := 53) (lv1 := [(0, .int (Int32.ofInt x0)), (1, .int (Int32.ofInt x1)), (2, .int (Int32.ofInt q3.1)), (3, .int (Int32.ofInt x3)), (4, .int (Int32.ofInt q3.2))]) (st1 := [.int (Int32.ofInt (-1)), .int (Int32.ofInt q3.1)]) (w1 := w) rfl ?_
      refine wx_eq (oo := 9) (ln := 3) (a := 62) (b := 0) (zz := 0) (by decide +kernel) (fun h7 => ?_) (fun h7 => ?_)
      · have hx := ite_t h7 hx
        refine wp_g 2 (pc1 := 6) (lv1 := [(3, .int (Int32.ofInt (x3 + 1))), (0, .int (Int32.ofInt x0)), (1, .int (Int32.ofInt x1)), (2, .int (Int32.ofInt q3.1)), (4, .int (Int32.ofInt q3.2))]) (st1 := []) (w1 := w) (by simp only [Int32.ofInt_add, Int32.ofInt_sub, Int32.ofInt_mul, Int32.ofInt_neg, p_and, p_or, p_xor, p_shl, p_shr, p_usr, p_w8, p_c16, p_lI, q_and, q_or, q_shl, q_shr, q_w32, Int64.ofInt_add, Int64.ofInt_sub, Int64.ofInt_mul, p_mx, p_mn, q_mx, q_mn]; rfl) ?_
        refine wp_lv (lv1 := [(0, .int (Int32.ofInt x0)), (1, .int (Int32.ofInt x1)), (2, .int (Int32.ofInt q3.1)), (3, .int (Int32.ofInt (x3 + 1)))]) (lsub_p [1, 2, 3, 0] rfl rfl rfl) ?_
        cases hx
        exact kn _ _ rfl rfl
      · have hx := ite_f h7 hx
        refine wp_g 8 (pc1 := 6) (lv1 := [(3, .int (Int32.ofInt (x3 + 1))), (1, .int (Int32.ofInt (bOr x1 (bShl 1 x3)))), (0, .int (Int32.ofInt x0)), (2, .int (Int32.ofInt q3.1)), (4, .int (Int32.ofInt q3.2))]) (st1 := []) (w1 := w) (by simp only [Int32.ofInt_add, Int32.ofInt_sub, Int32.ofInt_mul, Int32.ofInt_neg, p_and, p_or, p_xor, p_shl, p_shr, p_usr, p_w8, p_c16, p_lI, q_and, q_or, q_shl, q_shr, q_w32, Int64.ofInt_add, Int64.ofInt_sub, Int64.ofInt_mul, p_mx, p_mn, q_mx, q_mn]; rfl) ?_
        refine wp_lv (lv1 := [(0, .int (Int32.ofInt x0)), (1, .int (Int32.ofInt (bOr x1 (bShl 1 x3)))), (2, .int (Int32.ofInt q3.1)), (3, .int (Int32.ofInt (x3 + 1)))]) (lsub_p [2, 1, 3, 0] rfl rfl rfl) ?_
        cases hx
        exact kn _ _ rfl rfl
/-- FoldDeeds.winningPlace (I)I -/
noncomputable def xf_winningPlace (p0 : Int) : Option Int :=
  (lp (fun (q : Int × Int × Int) => xf_winningPlace_b6 p0 q.1 q.2.1 q.2.2) (0, (-1), 1)).bind fun q1 => some q1.2.1
set_option maxRecDepth 100000 in
theorem xf_winningPlace_ok {d : Nat} {P : Option Value → pm_H → Prop} {w : pm_H} {p0 : Int} {o : Int} (hx : xf_winningPlace p0 = some o) (kr : P (some (.int (Int32.ofInt o))) w) : wp (d + 7) 144 0 (lv_args 0 [.int (Int32.ofInt p0)]) [] w P := by
  show wp _ 144 0 [(0, .int (Int32.ofInt p0))] [] w _
  unfold xf_winningPlace at hx
  refine wp_g 6 (pc1 := 6) (lv1 := [(3, .int (Int32.ofInt 1)), (2, .int (Int32.ofInt (-1))), (1, .int (Int32.ofInt 0)), (0, .int (Int32.ofInt p0))]) (st1 := []) (w1 := w) rfl ?_
  refine wp_lv (lv1 := [(0, .int (Int32.ofInt p0)), (1, .int (Int32.ofInt 0)), (2, .int (Int32.ofInt (-1))), (3, .int (Int32.ofInt 1))]) (lsub_p [3, 2, 1, 0] rfl rfl rfl) ?_
  obtain ⟨q1, e2, hx⟩ := bd hx
  refine wp_lp (σ := Int × Int × Int) (ρ := (Int × Int × Int)) (B := fun q => xf_winningPlace_b6 p0 q.1 q.2.1 q.2.2) (R := fun q w' => w = w') (C := fun r => ∀ w1, w = w1 → wp (d + 7) 144 68 [(0, .int (Int32.ofInt p0)), (1, .int (Int32.ofInt r.1)), (2, .int (Int32.ofInt r.2.1)), (3, .int (Int32.ofInt r.2.2))] [] w1 P) (lv := fun q => [(0, .int (Int32.ofInt p0)), (1, .int (Int32.ofInt q.1)), (2, .int (Int32.ofInt q.2.1)), (3, .int (Int32.ofInt q.2.2))]) (hd := 6) (fun q w' o hR hb kn kc => by subst hR; exact xf_winningPlace_b6_ok hb kn kc) _ _ _ e2 rfl ?_
  intro w3 h4
  subst h4
  show wp _ 144 68 [(0, .int (Int32.ofInt p0)), (1, .int (Int32.ofInt q1.1)), (2, .int (Int32.ofInt q1.2.1)), (3, .int (Int32.ofInt q1.2.2))] [] w _
  refine wp_g 1 (pc1 := 69) (lv1 := [(0, .int (Int32.ofInt p0)), (1, .int (Int32.ofInt q1.1)), (2, .int (Int32.ofInt q1.2.1)), (3, .int (Int32.ofInt q1.2.2))]) (st1 := [.int (Int32.ofInt q1.2.1)]) (w1 := w) rfl ?_
  refine wp_rt (i := .ireturn) (r := some (.int (Int32.ofInt q1.2.1))) (ln := 1) (a := 0) (b := 0) (z := 0) (by decide +kernel) rfl (ret_ok (by decide +kernel)) ?_
  cases hx
  exact kr
/-- FoldDeeds.last (I)I -/
noncomputable def xf_last (s : Hp) (p1 : Int) : Option Int :=
  if w32 p1 < 0 then some (-1) else if w32 1 < w32 p1 then some (-1) else if w32 (s 17 0) = 0 then some (-1) else (xf_winningPlace (s 17 2)).bind fun o4 => if w32 p1 = w32 1 then if w32 o4 = w32 (-1) then some (-2) else some o4 else if w32 o4 = w32 (-1) then some 0 else some 1
set_option maxRecDepth 100000 in
theorem xf_last_ok {d : Nat} {P : Option Value → pm_H → Prop} {w : pm_H} {sh : Shp} {w0 : pm_H} {s : Hp} (hS : St sh) {p1 : Int} (h : Rw sh w0 s w) {o : Int} (hx : xf_last s p1 = some o) (kr : P (some (.int (Int32.ofInt o))) w) : wp (d + 8) 128 0 (lv_args 0 [.ref 0, .int (Int32.ofInt p1)]) [] w P := by
  show wp _ 128 0 [(0, .ref 0), (1, .int (Int32.ofInt p1))] [] w _
  unfold xf_last at hx
  refine wp_g 1 (pc1 := 1) (lv1 := [(0, .ref 0), (1, .int (Int32.ofInt p1))]) (st1 := [.int (Int32.ofInt p1)]) (w1 := w) rfl ?_
  refine wz_lt (oo := 21) (ln := 3) (a := 22) (b := 0) (zz := 0) (by decide +kernel) (fun h1 => ?_) (fun h1 => ?_)
  · have hx := ite_t h1 hx
    refine wp_g 1 (pc1 := 23) (lv1 := [(0, .ref 0), (1, .int (Int32.ofInt p1))]) (st1 := [.int (Int32.ofInt (-1))]) (w1 := w) rfl ?_
    refine wp_rt (i := .ireturn) (r := some (.int (Int32.ofInt (-1)))) (ln := 1) (a := 0) (b := 0) (z := 0) (by decide +kernel) rfl (ret_ok (by decide +kernel)) ?_
    cases hx
    exact kr
  · have hx := ite_f h1 hx
    refine wp_g 2 (pc1 := 6) (lv1 := [(0, .ref 0), (1, .int (Int32.ofInt p1))]) (st1 := [.int (Int32.ofInt 1), .int (Int32.ofInt p1)]) (w1 := w) rfl ?_
    refine wx_gt (oo := 16) (ln := 3) (a := 22) (b := 0) (zz := 0) (by decide +kernel) (fun h2 => ?_) (fun h2 => ?_)
    · have hx := ite_t h2 hx
      refine wp_g 1 (pc1 := 23) (lv1 := [(0, .ref 0), (1, .int (Int32.ofInt p1))]) (st1 := [.int (Int32.ofInt (-1))]) (w1 := w) rfl ?_
      refine wp_rt (i := .ireturn) (r := some (.int (Int32.ofInt (-1)))) (ln := 1) (a := 0) (b := 0) (z := 0) (by decide +kernel) rfl (ret_ok (by decide +kernel)) ?_
      cases hx
      exact kr
    · have hx := ite_f h2 hx
      refine wp_g 1 (pc1 := 10) (lv1 := [(0, .ref 0), (1, .int (Int32.ofInt p1))]) (st1 := [.ref 0]) (w1 := w) rfl ?_
      refine wx_gr (o := 16) (kf := 43) (ln := 3) (ci := 11) (b := 5) (zz := 0) (x := 0) (by decide +kernel) h (hS _ _ sx_0) rfl ?_
      show wp _ 128 13 [(0, .ref 0), (1, .int (Int32.ofInt p1))] [.ref 16] w _
      refine wx_gr (o := 1) (kf := 116) (ln := 3) (ci := 7) (b := 0) (zz := 0) (x := 16) (by decide +kernel) h (hS _ _ sx_16) rfl ?_
      show wp _ 128 16 [(0, .ref 0), (1, .int (Int32.ofInt p1))] [.ref 17] w _
      refine wx_gi (kf := 119) (ln := 3) (ci := 0) (b := 0) (zz := 0) (x := 17) (by decide +kernel) h (hS _ _ sx_17) rfl ?_
      show wp _ 128 19 [(0, .ref 0), (1, .int (Int32.ofInt p1))] [.int (Int32.ofInt (s 17 0))] w _
      refine wz_ne (oo := 5) (ln := 3) (a := 24) (b := 0) (zz := 0) (by decide +kernel) (fun h3 => ?_) (fun h3 => ?_)
      · have hx := ite_f h3 hx
        refine wp_g 1 (pc1 := 25) (lv1 := [(0, .ref 0), (1, .int (Int32.ofInt p1))]) (st1 := [.ref 0]) (w1 := w) rfl ?_
        refine wx_gr (o := 16) (kf := 43) (ln := 3) (ci := 11) (b := 5) (zz := 0) (x := 0) (by decide +kernel) h (hS _ _ sx_0) rfl ?_
        show wp _ 128 28 [(0, .ref 0), (1, .int (Int32.ofInt p1))] [.ref 16] w _
        refine wx_gr (o := 1) (kf := 116) (ln := 3) (ci := 7) (b := 0) (zz := 0) (x := 16) (by decide +kernel) h (hS _ _ sx_16) rfl ?_
        show wp _ 128 31 [(0, .ref 0), (1, .int (Int32.ofInt p1))] [.ref 17] w _
        refine wx_gi (kf := 170) (ln := 3) (ci := 0) (b := 2) (zz := 0) (x := 17) (by decide +kernel) h (hS _ _ sx_17) rfl ?_
        show wp _ 128 34 [(0, .ref 0), (1, .int (Int32.ofInt p1))] [.int (Int32.ofInt (s 17 2))] w _
        obtain ⟨o4, e5, hx⟩ := bd hx
        refine wp_cl [.int (Int32.ofInt (s 17 2))] [] (i := .invokestatic 241) (ln := 3) (a := 144) (b := 1) (z := 0) (by decide +kernel) rfl rfl (by decide) rfl (show (1 : Nat) = pm_na 144 by decide +kernel) (Nat.le_of_ble_eq_true rfl) (show (1 : Nat) ≤ pm_n 144 by decide +kernel) (by rw [show pm_k 144 = 1 by decide +kernel]; rfl) (xf_winningPlace_ok (d := d) e5 ?_)
        show wp _ 128 37 [(0, .ref 0), (1, .int (Int32.ofInt p1))] [.int (Int32.ofInt o4)] w _
        refine wp_g 3 (pc1 := 40) (lv1 := [(2, .int (Int32.ofInt o4)), (0, .ref 0), (1, .int (Int32.ofInt p1))]) (st1 := [.int (Int32.ofInt 1), .int (Int32.ofInt p1)]) (w1 := w) rfl ?_
        refine wx_ne (oo := 15) (ln := 3) (a := 55) (b := 0) (zz := 0) (by decide +kernel) (fun h8 => ?_) (fun h8 => ?_)
        · have hx := ite_f h8 hx
          refine wp_g 2 (pc1 := 57) (lv1 := [(2, .int (Int32.ofInt o4)), (0, .ref 0), (1, .int (Int32.ofInt p1))]) (st1 := [.int (Int32.ofInt (-1)), .int (Int32.ofInt o4)]) (w1 := w) rfl ?_
          refine wx_ne (oo := 7) (ln := 3) (a := 64) (b := 0) (zz := 0) (by decide +kernel) (fun h9 => ?_) (fun h9 => ?_)
          · have hx := ite_f h9 hx
            refine wp_g 1 (pc1 := 65) (lv1 := [(2, .int (Int32.ofInt o4)), (0, .ref 0), (1, .int (Int32.ofInt p1))]) (st1 := [.int (Int32.ofInt 1)]) (w1 := w) rfl ?_
            refine wp_rt (i := .ireturn) (r := some (.int (Int32.ofInt 1))) (ln := 1) (a := 0) (b := 0) (z := 0) (by decide +kernel) rfl (ret_ok (by decide +kernel)) ?_
            cases hx
            exact kr
          · have hx := ite_t h9 hx
            refine wp_g 2 (pc1 := 65) (lv1 := [(2, .int (Int32.ofInt o4)), (0, .ref 0), (1, .int (Int32.ofInt p1))]) (st1 := [.int (Int32.ofInt 0)]) (w1 := w) rfl ?_
            refine wp_rt (i := .ireturn) (r := some (.int (Int32.ofInt 0))) (ln := 1) (a := 0) (b := 0) (z := 0) (by decide +kernel) rfl (ret_ok (by decide +kernel)) ?_
            cases hx
            exact kr
        · have hx := ite_t h8 hx
          refine wp_g 2 (pc1 := 45) (lv1 := [(2, .int (Int32.ofInt o4)), (0, .ref 0), (1, .int (Int32.ofInt p1))]) (st1 := [.int (Int32.ofInt (-1)), .int (Int32.ofInt o4)]) (w1 := w) rfl ?_
          refine wx_ne (oo := 8) (ln := 3) (a := 53) (b := 0) (zz := 0) (by decide +kernel) (fun h10 => ?_) (fun h10 => ?_)
          · have hx := ite_f h10 hx
            refine wp_g 1 (pc1 := 54) (lv1 := [(2, .int (Int32.ofInt o4)), (0, .ref 0), (1, .int (Int32.ofInt p1))]) (st1 := [.int (Int32.ofInt o4)]) (w1 := w) rfl ?_
            refine wp_rt (i := .ireturn) (r := some (.int (Int32.ofInt o4))) (ln := 1) (a := 0) (b := 0) (z := 0) (by decide +kernel) rfl (ret_ok (by decide +kernel)) ?_
            cases hx
            exact kr
          · have hx := ite_t h10 hx
            refine wp_g 2 (pc1 := 54) (lv1 := [(2, .int (Int32.ofInt o4)), (0, .ref 0), (1, .int (Int32.ofInt p1))]) (st1 := [.int (Int32.ofInt (-2))]) (w1 := w) rfl ?_
            refine wp_rt (i := .ireturn) (r := some (.int (Int32.ofInt (-2)))) (ln := 1) (a := 0) (b := 0) (z := 0) (by decide +kernel) rfl (ret_ok (by decide +kernel)) ?_
            cases hx
            exact kr
      · have hx := ite_t h3 hx
        refine wp_g 1 (pc1 := 23) (lv1 := [(0, .ref 0), (1, .int (Int32.ofInt p1))]) (st1 := [.int (Int32.ofInt (-1))]) (w1 := w) rfl ?_
        refine wp_rt (i := .ireturn) (r := some (.int (Int32.ofInt (-1)))) (ln := 1) (a := 0) (b := 0) (z := 0) (by decide +kernel) rfl (ret_ok (by decide +kernel)) ?_
        cases hx
        exact kr
noncomputable def xf_dearest_b44 (ln : Nat → Nat) (rs : Nat → Int) (s : Hp) (x1 : Int) (x2 : Int) (x4 : Int) (x5 : Int) (x6 : Int) (x7 : Int) : Option ((Int × Int × Int × Hp) ⊕ (Int × Int × Int × Hp)) :=
  if w32 x7 < w32 x6 then (xf_ruleInForce ln rs s).bind fun o2 => (xk_quote ln rs s 17 o2 x1 x7).bind fun o7 => if w32 x4 < w32 o7.1 then some (.inl (o7.1, x7, x7 + 1, o7.2)) else some (.inl (x4, x5, x7 + 1, o7.2)) else some (.inr (x4, x5, x7, s))
set_option maxRecDepth 100000 in
theorem xf_dearest_b44_ok {d : Nat} {P : Option Value → pm_H → Prop} {w : pm_H} {sh : Shp} {w0 : pm_H} {s : Hp} (hS : St sh) {ln : Nat → Nat} {rs : Nat → Int} (hG : ∀ i, okR ln sh (rs i)) {x1 : Int} {x2 : Int} {x4 : Int} {x5 : Int} {x6 : Int} {x7 : Int} (h : Rw sh w0 s w) {o : ((Int × Int × Int × Hp) ⊕ (Int × Int × Int × Hp))} (hx : xf_dearest_b44 ln rs s x1 x2 x4 x5 x6 x7 = some o) (kn : ∀ (q : Int × Int × Int × Hp) w1, o = .inl q → Rw sh w0 q.2.2.2 w1 → wp (d + 8) 129 44 [(0, .ref 0), (1, .int (Int32.ofInt x1)), (2, .int (Int32.ofInt x2)), (3, .ref 17), (4, .int (Int32.ofInt q.1)), (5, .int (Int32.ofInt q.2.1)), (6, .int (Int32.ofInt x6)), (7, .int (Int32.ofInt q.2.2.1))] [] w1 P) (kc : ∀ (r : (Int × Int × Int × Hp)), o = .inr r → (∀ w1, Rw sh w0 r.2.2.2 w1 → wp (d + 8) 129 89 [(0, .ref 0), (1, .int (Int32.ofInt x1)), (2, .int (Int32.ofInt x2)), (3, .ref 17), (4, .int (Int32.ofInt r.1)), (5, .int (Int32.ofInt r.2.1)), (6, .int (Int32.ofInt x6)), (7, .int (Int32.ofInt r.2.2.1))] [] w1 P)) : wp (d + 8) 129 44 [(0, .ref 0), (1, .int (Int32.ofInt x1)), (2, .int (Int32.ofInt x2)), (3, .ref 17), (4, .int (Int32.ofInt x4)), (5, .int (Int32.ofInt x5)), (6, .int (Int32.ofInt x6)), (7, .int (Int32.ofInt x7))] [] w P := by
  unfold xf_dearest_b44 at hx
  refine wp_g 2 (pc1 := 48) (lv1 := [(0, .ref 0), (1, .int (Int32.ofInt x1)), (2, .int (Int32.ofInt x2)), (3, .ref 17), (4, .int (Int32.ofInt x4)), (5, .int (Int32.ofInt x5)), (6, .int (Int32.ofInt x6)), (7, .int (Int32.ofInt x7))]) (st1 := [.int (Int32.ofInt x6), .int (Int32.ofInt x7)]) (w1 := w) rfl ?_
  refine wx_ge (oo := 41) (ln := 3) (a := 89) (b := 0) (zz := 0) (by decide +kernel) (fun h1 => ?_) (fun h1 => ?_)
  · have hx := ite_f h1 hx
    cases hx
    exact kc _ rfl _ h
  · have hx := ite_t h1 hx
    refine wp_g 1 (pc1 := 52) (lv1 := [(0, .ref 0), (1, .int (Int32.ofInt x1)), (2, .int (Int32.ofInt x2)), (3, .ref 17), (4, .int (Int32.ofInt x4)), (5, .int (Int32.ofInt x5)), (6, .int (Int32.ofInt x6)), (7, .int (Int32.ofInt x7))]) (st1 := [.ref 0]) (w1 := w) rfl ?_
    refine wx_gr (o := 41) (kf := 61) (ln := 3) (ci := 11) (b := 8) (zz := 0) (x := 0) (by decide +kernel) h (hS _ _ sx_0) rfl ?_
    show wp _ 129 55 [(0, .ref 0), (1, .int (Int32.ofInt x1)), (2, .int (Int32.ofInt x2)), (3, .ref 17), (4, .int (Int32.ofInt x4)), (5, .int (Int32.ofInt x5)), (6, .int (Int32.ofInt x6)), (7, .int (Int32.ofInt x7))] [.ref 41] w _
    refine wp_g 2 (pc1 := 57) (lv1 := [(0, .ref 0), (1, .int (Int32.ofInt x1)), (2, .int (Int32.ofInt x2)), (3, .ref 17), (4, .int (Int32.ofInt x4)), (5, .int (Int32.ofInt x5)), (6, .int (Int32.ofInt x6)), (7, .int (Int32.ofInt x7))]) (st1 := [.ref 0, .ref 17, .ref 41]) (w1 := w) rfl ?_
    obtain ⟨o2, e3, hx⟩ := bd hx
    refine wp_cl [.ref 0] [.ref 17, .ref 41] (i := .invokevirtual 180) (ln := 3) (a := 138) (b := 0) (z := 0) (by decide +kernel) rfl rfl (by decide) rfl (show (1 : Nat) = pm_na 138 by decide +kernel) (Nat.le_of_ble_eq_true rfl) (show (1 : Nat) ≤ pm_n 138 by decide +kernel) (rcv_x 11 h (hS _ _ sx_0) (by decide +kernel)) (xf_ruleInForce_ok (d := d + 6) hS hG h e3 (fun h6 => ?_))
    show wp _ 129 60 [(0, .ref 0), (1, .int (Int32.ofInt x1)), (2, .int (Int32.ofInt x2)), (3, .ref 17), (4, .int (Int32.ofInt x4)), (5, .int (Int32.ofInt x5)), (6, .int (Int32.ofInt x6)), (7, .int (Int32.ofInt x7))] [vR o2, .ref 17, .ref 41] w _
    refine wp_g 2 (pc1 := 63) (lv1 := [(0, .ref 0), (1, .int (Int32.ofInt x1)), (2, .int (Int32.ofInt x2)), (3, .ref 17), (4, .int (Int32.ofInt x4)), (5, .int (Int32.ofInt x5)), (6, .int (Int32.ofInt x6)), (7, .int (Int32.ofInt x7))]) (st1 := [.int (Int32.ofInt x7), .int (Int32.ofInt x1), vR o2, .ref 17, .ref 41]) (w1 := w) (by rcases vR_c o2 with e | ⟨_, e⟩ <;> simp only [e] <;> rfl) ?_
    obtain ⟨o7, e8, hx⟩ := bd hx
    refine wp_cl [.ref 41, .ref 17, vR o2, .int (Int32.ofInt x1), .int (Int32.ofInt x7)] [] (i := .invokevirtual 183) (ln := 3) (a := 36) (b := 0) (z := 0) (by decide +kernel) rfl rfl (by decide) rfl (show (5 : Nat) = pm_na 36 by decide +kernel) (Nat.le_of_ble_eq_true rfl) (by rcases vR_c o2 with e | ⟨_, e⟩ <;> simp only [e] <;> exact (show (5 : Nat) ≤ pm_n 36 by decide +kernel)) (rcv_x 3 h (hS _ _ sx_41) (by decide +kernel)) (xk_quote_ok (d := d) hS hG (okC_17 hS) h6 h e8 (fun w9 h10 => ?_))
    show wp _ 129 66 [(0, .ref 0), (1, .int (Int32.ofInt x1)), (2, .int (Int32.ofInt x2)), (3, .ref 17), (4, .int (Int32.ofInt x4)), (5, .int (Int32.ofInt x5)), (6, .int (Int32.ofInt x6)), (7, .int (Int32.ofInt x7))] [.int (Int32.ofInt o7.1)] w9 _
    refine wp_g 3 (pc1 := 72) (lv1 := [(8, .int (Int32.ofInt o7.1)), (0, .ref 0), (1, .int (Int32.ofInt x1)), (2, .int (Int32.ofInt x2)), (3, .ref 17), (4, .int (Int32.ofInt x4)), (5, .int (Int32.ofInt x5)), (6, .int (Int32.ofInt x6)), (7, .int (Int32.ofInt x7))]) (st1 := [.int (Int32.ofInt x4), .int (Int32.ofInt o7.1)]) (w1 := w9) rfl ?_
    refine wx_le (oo := 11) (ln := 3) (a := 83) (b := 0) (zz := 0) (by decide +kernel) (fun h11 => ?_) (fun h11 => ?_)
    · have hx := ite_f h11 hx
      refine wp_g 2 (pc1 := 44) (lv1 := [(7, .int (Int32.ofInt (x7 + 1))), (8, .int (Int32.ofInt o7.1)), (0, .ref 0), (1, .int (Int32.ofInt x1)), (2, .int (Int32.ofInt x2)), (3, .ref 17), (4, .int (Int32.ofInt x4)), (5, .int (Int32.ofInt x5)), (6, .int (Int32.ofInt x6))]) (st1 := []) (w1 := w9) (by simp only [Int32.ofInt_add, Int32.ofInt_sub, Int32.ofInt_mul, Int32.ofInt_neg, p_and, p_or, p_xor, p_shl, p_shr, p_usr, p_w8, p_c16, p_lI, q_and, q_or, q_shl, q_shr, q_w32, Int64.ofInt_add, Int64.ofInt_sub, Int64.ofInt_mul, p_mx, p_mn, q_mx, q_mn]; rfl) ?_
      refine wp_lv (lv1 := [(0, .ref 0), (1, .int (Int32.ofInt x1)), (2, .int (Int32.ofInt x2)), (3, .ref 17), (4, .int (Int32.ofInt x4)), (5, .int (Int32.ofInt x5)), (6, .int (Int32.ofInt x6)), (7, .int (Int32.ofInt (x7 + 1)))]) (lsub_p [2, 3, 4, 5, 6, 7, 8, 0] rfl rfl rfl) ?_
      cases hx
      exact kn _ _ rfl h10
    · have hx := ite_t h11 hx
      refine wp_g 6 (pc1 := 44) (lv1 := [(7, .int (Int32.ofInt (x7 + 1))), (5, .int (Int32.ofInt x7)), (4, .int (Int32.ofInt o7.1)), (8, .int (Int32.ofInt o7.1)), (0, .ref 0), (1, .int (Int32.ofInt x1)), (2, .int (Int32.ofInt x2)), (3, .ref 17), (6, .int (Int32.ofInt x6))]) (st1 := []) (w1 := w9) (by simp only [Int32.ofInt_add, Int32.ofInt_sub, Int32.ofInt_mul, Int32.ofInt_neg, p_and, p_or, p_xor, p_shl, p_shr, p_usr, p_w8, p_c16, p_lI, q_and, q_or, q_shl, q_shr, q_w32, Int64.ofInt_add, Int64.ofInt_sub, Int64.ofInt_mul, p_mx, p_mn, q_mx, q_mn]; rfl) ?_
      refine wp_lv (lv1 := [(0, .ref 0), (1, .int (Int32.ofInt x1)), (2, .int (Int32.ofInt x2)), (3, .ref 17), (4, .int (Int32.ofInt o7.1)), (5, .int (Int32.ofInt x7)), (6, .int (Int32.ofInt x6)), (7, .int (Int32.ofInt (x7 + 1)))]) (lsub_p [4, 5, 6, 7, 2, 1, 8, 0] rfl rfl rfl) ?_
      cases hx
      exact kn _ _ rfl h10
/-- FoldDeeds.dearest (II)I -/
noncomputable def xf_dearest (ln : Nat → Nat) (rs : Nat → Int) (s : Hp) (p1 : Int) (p2 : Int) : Option (Int × Hp) :=
  (xl_hasPerson s 17 p1).bind fun o1 => if w32 o1 = 0 then some ((-1), s) else if w32 p2 < 0 then some ((-1), s) else if w32 1 < w32 p2 then some ((-1), s) else (xl_foldCount s 17).bind fun o8 => (lp (fun (q : Int × Int × Int × Hp) => xf_dearest_b44 ln rs q.2.2.2 p1 p2 q.1 q.2.1 o8 q.2.2.1) ((-2), (-2), 0, s)).bind fun q12 => if w32 p2 = 0 then some (q12.1, q12.2.2.2) else some (q12.2.1, q12.2.2.2)
set_option maxRecDepth 100000 in
theorem xf_dearest_ok {d : Nat} {P : Option Value → pm_H → Prop} {w : pm_H} {sh : Shp} {w0 : pm_H} {s : Hp} (hS : St sh) {ln : Nat → Nat} {rs : Nat → Int} (hG : ∀ i, okR ln sh (rs i)) {p1 : Int} {p2 : Int} (h : Rw sh w0 s w) {o : Int × Hp} (hx : xf_dearest ln rs s p1 p2 = some o) (kr : ∀ w1, Rw sh w0 o.2 w1 → P (some (.int (Int32.ofInt o.1))) w1) : wp (d + 8) 129 0 (lv_args 0 [.ref 0, .int (Int32.ofInt p1), .int (Int32.ofInt p2)]) [] w P := by
  show wp _ 129 0 [(0, .ref 0), (1, .int (Int32.ofInt p1)), (2, .int (Int32.ofInt p2))] [] w _
  unfold xf_dearest at hx
  refine wp_g 1 (pc1 := 1) (lv1 := [(0, .ref 0), (1, .int (Int32.ofInt p1)), (2, .int (Int32.ofInt p2))]) (st1 := [.ref 0]) (w1 := w) rfl ?_
  refine wx_gr (o := 16) (kf := 43) (ln := 3) (ci := 11) (b := 5) (zz := 0) (x := 0) (by decide +kernel) h (hS _ _ sx_0) rfl ?_
  show wp _ 129 4 [(0, .ref 0), (1, .int (Int32.ofInt p1)), (2, .int (Int32.ofInt p2))] [.ref 16] w _
  refine wx_gr (o := 1) (kf := 116) (ln := 3) (ci := 7) (b := 0) (zz := 0) (x := 16) (by decide +kernel) h (hS _ _ sx_16) rfl ?_
  show wp _ 129 7 [(0, .ref 0), (1, .int (Int32.ofInt p1)), (2, .int (Int32.ofInt p2))] [.ref 17] w _
  refine wp_g 3 (pc1 := 10) (lv1 := [(3, .ref 17), (0, .ref 0), (1, .int (Int32.ofInt p1)), (2, .int (Int32.ofInt p2))]) (st1 := [.int (Int32.ofInt p1), .ref 17]) (w1 := w) rfl ?_
  obtain ⟨o1, e2, hx⟩ := bd hx
  refine wp_cl [.ref 17, .int (Int32.ofInt p1)] [] (i := .invokevirtual 160) (ln := 3) (a := 7) (b := 0) (z := 0) (by decide +kernel) rfl rfl (by decide) rfl (show (2 : Nat) = pm_na 7 by decide +kernel) (Nat.le_of_ble_eq_true rfl) (show (2 : Nat) ≤ pm_n 7 by decide +kernel) (rcv_x 0 h (hS _ _ sx_17) (by decide +kernel)) (xl_hasPerson_ok (d := d + 7) hS (okC_17 hS) h e2 ?_)
  show wp _ 129 13 [(3, .ref 17), (0, .ref 0), (1, .int (Int32.ofInt p1)), (2, .int (Int32.ofInt p2))] [.int (Int32.ofInt o1)] w _
  refine wz_eq (oo := 12) (ln := 3) (a := 25) (b := 0) (zz := 0) (by decide +kernel) (fun h5 => ?_) (fun h5 => ?_)
  · have hx := ite_t h5 hx
    refine wp_g 1 (pc1 := 26) (lv1 := [(3, .ref 17), (0, .ref 0), (1, .int (Int32.ofInt p1)), (2, .int (Int32.ofInt p2))]) (st1 := [.int (Int32.ofInt (-1))]) (w1 := w) rfl ?_
    refine wp_rt (i := .ireturn) (r := some (.int (Int32.ofInt (-1)))) (ln := 1) (a := 0) (b := 0) (z := 0) (by decide +kernel) rfl (ret_ok (by decide +kernel)) ?_
    cases hx
    exact kr _ h
  · have hx := ite_f h5 hx
    refine wp_g 1 (pc1 := 17) (lv1 := [(3, .ref 17), (0, .ref 0), (1, .int (Int32.ofInt p1)), (2, .int (Int32.ofInt p2))]) (st1 := [.int (Int32.ofInt p2)]) (w1 := w) rfl ?_
    refine wz_lt (oo := 8) (ln := 3) (a := 25) (b := 0) (zz := 0) (by decide +kernel) (fun h6 => ?_) (fun h6 => ?_)
    · have hx := ite_t h6 hx
      refine wp_g 1 (pc1 := 26) (lv1 := [(3, .ref 17), (0, .ref 0), (1, .int (Int32.ofInt p1)), (2, .int (Int32.ofInt p2))]) (st1 := [.int (Int32.ofInt (-1))]) (w1 := w) rfl ?_
      refine wp_rt (i := .ireturn) (r := some (.int (Int32.ofInt (-1)))) (ln := 1) (a := 0) (b := 0) (z := 0) (by decide +kernel) rfl (ret_ok (by decide +kernel)) ?_
      cases hx
      exact kr _ h
    · have hx := ite_f h6 hx
      refine wp_g 2 (pc1 := 22) (lv1 := [(3, .ref 17), (0, .ref 0), (1, .int (Int32.ofInt p1)), (2, .int (Int32.ofInt p2))]) (st1 := [.int (Int32.ofInt 1), .int (Int32.ofInt p2)]) (w1 := w) rfl ?_
      refine wx_le (oo := 5) (ln := 3) (a := 27) (b := 0) (zz := 0) (by decide +kernel) (fun h7 => ?_) (fun h7 => ?_)
      · have hx := ite_f h7 hx
        refine wp_g 5 (pc1 := 36) (lv1 := [(5, .int (Int32.ofInt (-2))), (4, .int (Int32.ofInt (-2))), (3, .ref 17), (0, .ref 0), (1, .int (Int32.ofInt p1)), (2, .int (Int32.ofInt p2))]) (st1 := [.ref 17]) (w1 := w) rfl ?_
        obtain ⟨o8, e9, hx⟩ := bd hx
        refine wp_cl [.ref 17] [] (i := .invokevirtual 244) (ln := 3) (a := 9) (b := 0) (z := 0) (by decide +kernel) rfl rfl (by decide) rfl (show (1 : Nat) = pm_na 9 by decide +kernel) (Nat.le_of_ble_eq_true rfl) (show (1 : Nat) ≤ pm_n 9 by decide +kernel) (rcv_x 0 h (hS _ _ sx_17) (by decide +kernel)) (xl_foldCount_ok (d := d + 1) hS (okC_17 hS) h e9 ?_)
        show wp _ 129 39 [(5, .int (Int32.ofInt (-2))), (4, .int (Int32.ofInt (-2))), (3, .ref 17), (0, .ref 0), (1, .int (Int32.ofInt p1)), (2, .int (Int32.ofInt p2))] [.int (Int32.ofInt o8)] w _
        refine wp_g 3 (pc1 := 44) (lv1 := [(7, .int (Int32.ofInt 0)), (6, .int (Int32.ofInt o8)), (5, .int (Int32.ofInt (-2))), (4, .int (Int32.ofInt (-2))), (3, .ref 17), (0, .ref 0), (1, .int (Int32.ofInt p1)), (2, .int (Int32.ofInt p2))]) (st1 := []) (w1 := w) rfl ?_
        refine wp_lv (lv1 := [(0, .ref 0), (1, .int (Int32.ofInt p1)), (2, .int (Int32.ofInt p2)), (3, .ref 17), (4, .int (Int32.ofInt (-2))), (5, .int (Int32.ofInt (-2))), (6, .int (Int32.ofInt o8)), (7, .int (Int32.ofInt 0))]) (lsub_p [5, 6, 7, 4, 3, 2, 1, 0] rfl rfl rfl) ?_
        obtain ⟨q12, e13, hx⟩ := bd hx
        refine wp_lp (σ := Int × Int × Int × Hp) (ρ := (Int × Int × Int × Hp)) (B := fun q => xf_dearest_b44 ln rs q.2.2.2 p1 p2 q.1 q.2.1 o8 q.2.2.1) (R := fun q w' => Rw sh w0 q.2.2.2 w') (C := fun r => ∀ w1, Rw sh w0 r.2.2.2 w1 → wp (d + 8) 129 89 [(0, .ref 0), (1, .int (Int32.ofInt p1)), (2, .int (Int32.ofInt p2)), (3, .ref 17), (4, .int (Int32.ofInt r.1)), (5, .int (Int32.ofInt r.2.1)), (6, .int (Int32.ofInt o8)), (7, .int (Int32.ofInt r.2.2.1))] [] w1 P) (lv := fun q => [(0, .ref 0), (1, .int (Int32.ofInt p1)), (2, .int (Int32.ofInt p2)), (3, .ref 17), (4, .int (Int32.ofInt q.1)), (5, .int (Int32.ofInt q.2.1)), (6, .int (Int32.ofInt o8)), (7, .int (Int32.ofInt q.2.2.1))]) (hd := 44) (fun q w' o hR hb kn kc => xf_dearest_b44_ok hS hG hR hb kn kc) _ _ _ e13 h ?_
        intro w14 h15
        show wp _ 129 89 [(0, .ref 0), (1, .int (Int32.ofInt p1)), (2, .int (Int32.ofInt p2)), (3, .ref 17), (4, .int (Int32.ofInt q12.1)), (5, .int (Int32.ofInt q12.2.1)), (6, .int (Int32.ofInt o8)), (7, .int (Int32.ofInt q12.2.2.1))] [] w14 _
        refine wp_g 1 (pc1 := 90) (lv1 := [(0, .ref 0), (1, .int (Int32.ofInt p1)), (2, .int (Int32.ofInt p2)), (3, .ref 17), (4, .int (Int32.ofInt q12.1)), (5, .int (Int32.ofInt q12.2.1)), (6, .int (Int32.ofInt o8)), (7, .int (Int32.ofInt q12.2.2.1))]) (st1 := [.int (Int32.ofInt p2)]) (w1 := w14) rfl ?_
        refine wz_ne (oo := 8) (ln := 3) (a := 98) (b := 0) (zz := 0) (by decide +kernel) (fun h16 => ?_) (fun h16 => ?_)
        · have hx := ite_f h16 hx
          refine wp_g 1 (pc1 := 100) (lv1 := [(0, .ref 0), (1, .int (Int32.ofInt p1)), (2, .int (Int32.ofInt p2)), (3, .ref 17), (4, .int (Int32.ofInt q12.1)), (5, .int (Int32.ofInt q12.2.1)), (6, .int (Int32.ofInt o8)), (7, .int (Int32.ofInt q12.2.2.1))]) (st1 := [.int (Int32.ofInt q12.2.1)]) (w1 := w14) rfl ?_
          refine wp_rt (i := .ireturn) (r := some (.int (Int32.ofInt q12.2.1))) (ln := 1) (a := 0) (b := 0) (z := 0) (by decide +kernel) rfl (ret_ok (by decide +kernel)) ?_
          cases hx
          exact kr _ h15
        · have hx := ite_t h16 hx
          refine wp_g 2 (pc1 := 100) (lv1 := [(0, .ref 0), (1, .int (Int32.ofInt p1)), (2, .int (Int32.ofInt p2)), (3, .ref 17), (4, .int (Int32.ofInt q12.1)), (5, .int (Int32.ofInt q12.2.1)), (6, .int (Int32.ofInt o8)), (7, .int (Int32.ofInt q12.2.2.1))]) (st1 := [.int (Int32.ofInt q12.1)]) (w1 := w14) rfl ?_
          refine wp_rt (i := .ireturn) (r := some (.int (Int32.ofInt q12.1))) (ln := 1) (a := 0) (b := 0) (z := 0) (by decide +kernel) rfl (ret_ok (by decide +kernel)) ?_
          cases hx
          exact kr _ h15
      · have hx := ite_t h7 hx
        refine wp_g 1 (pc1 := 26) (lv1 := [(3, .ref 17), (0, .ref 0), (1, .int (Int32.ofInt p1)), (2, .int (Int32.ofInt p2))]) (st1 := [.int (Int32.ofInt (-1))]) (w1 := w) rfl ?_
        refine wp_rt (i := .ireturn) (r := some (.int (Int32.ofInt (-1)))) (ln := 1) (a := 0) (b := 0) (z := 0) (by decide +kernel) rfl (ret_ok (by decide +kernel)) ?_
        cases hx
        exact kr _ h
/-- FoldDeeds.log (IIII)I -/
noncomputable def xf_log (s : Hp) (p1 : Int) (p2 : Int) (p3 : Int) (p4 : Int) : Option (Int × Hp) :=
  if w32 p1 = w32 (-1) then (some (uh s 16 5 0)).bind fun s31 => some (0, s31) else (xl_hasPerson s 26 0).bind fun o2 => if w32 o2 = 0 then some ((-2), s) else (xl_hasFold s 26 p1 p2 p3).bind fun o7 => if w32 o7 = 0 then some ((-2), s) else if w32 p4 < 0 then some ((-2), s) else if w32 9999 < w32 p4 then some ((-2), s) else if w32 (s 16 5) < w32 10 then (ix 10 (s 16 5)).bind fun i15 => (some (uh s 36 i15 (((4 * p1) + (2 * p2)) + p3))).bind fun s17 => (ix 10 (s17 16 5)).bind fun i21 => (some (uh s17 37 i21 p4)).bind fun s23 => (some (uh s23 16 5 ((s23 16 5) + 1))).bind fun s27 => some (s27 16 5, s27) else some ((-2), s)
set_option maxRecDepth 100000 in
theorem xf_log_ok {d : Nat} {P : Option Value → pm_H → Prop} {w : pm_H} {sh : Shp} {w0 : pm_H} {s : Hp} (hS : St sh) {p1 : Int} {p2 : Int} {p3 : Int} {p4 : Int} (h : Rw sh w0 s w) {o : Int × Hp} (hx : xf_log s p1 p2 p3 p4 = some o) (kr : ∀ w1, Rw sh w0 o.2 w1 → P (some (.int (Int32.ofInt o.1))) w1) : wp (d + 1) 130 0 (lv_args 0 [.ref 0, .int (Int32.ofInt p1), .int (Int32.ofInt p2), .int (Int32.ofInt p3), .int (Int32.ofInt p4)]) [] w P := by
  show wp _ 130 0 [(0, .ref 0), (1, .int (Int32.ofInt p1)), (2, .int (Int32.ofInt p2)), (3, .int (Int32.ofInt p3)), (4, .int (Int32.ofInt p4))] [] w _
  unfold xf_log at hx
  refine wp_g 2 (pc1 := 2) (lv1 := [(0, .ref 0), (1, .int (Int32.ofInt p1)), (2, .int (Int32.ofInt p2)), (3, .int (Int32.ofInt p3)), (4, .int (Int32.ofInt p4))]) (st1 := [.int (Int32.ofInt (-1)), .int (Int32.ofInt p1)]) (w1 := w) rfl ?_
  refine wx_ne (oo := 13) (ln := 3) (a := 15) (b := 0) (zz := 0) (by decide +kernel) (fun h1 => ?_) (fun h1 => ?_)
  · have hx := ite_f h1 hx
    refine wp_g 1 (pc1 := 16) (lv1 := [(0, .ref 0), (1, .int (Int32.ofInt p1)), (2, .int (Int32.ofInt p2)), (3, .int (Int32.ofInt p3)), (4, .int (Int32.ofInt p4))]) (st1 := [.ref 0]) (w1 := w) rfl ?_
    refine wx_gr (o := 16) (kf := 43) (ln := 3) (ci := 11) (b := 5) (zz := 0) (x := 0) (by decide +kernel) h (hS _ _ sx_0) rfl ?_
    show wp _ 130 19 [(0, .ref 0), (1, .int (Int32.ofInt p1)), (2, .int (Int32.ofInt p2)), (3, .int (Int32.ofInt p3)), (4, .int (Int32.ofInt p4))] [.ref 16] w _
    refine wx_gr (o := 10) (kf := 250) (ln := 3) (ci := 7) (b := 1) (zz := 0) (x := 16) (by decide +kernel) h (hS _ _ sx_16) rfl ?_
    show wp _ 130 22 [(0, .ref 0), (1, .int (Int32.ofInt p1)), (2, .int (Int32.ofInt p2)), (3, .int (Int32.ofInt p3)), (4, .int (Int32.ofInt p4))] [.ref 26] w _
    refine wp_g 3 (pc1 := 27) (lv1 := [(5, .ref 26), (0, .ref 0), (1, .int (Int32.ofInt p1)), (2, .int (Int32.ofInt p2)), (3, .int (Int32.ofInt p3)), (4, .int (Int32.ofInt p4))]) (st1 := [.int (Int32.ofInt 0), .ref 26]) (w1 := w) rfl ?_
    obtain ⟨o2, e3, hx⟩ := bd hx
    refine wp_cl [.ref 26, .int (Int32.ofInt 0)] [] (i := .invokevirtual 160) (ln := 3) (a := 7) (b := 0) (z := 0) (by decide +kernel) rfl rfl (by decide) rfl (show (2 : Nat) = pm_na 7 by decide +kernel) (Nat.le_of_ble_eq_true rfl) (show (2 : Nat) ≤ pm_n 7 by decide +kernel) (rcv_x 0 h (hS _ _ sx_26) (by decide +kernel)) (xl_hasPerson_ok (d := d) hS (okC_26 hS) h e3 ?_)
    show wp _ 130 30 [(5, .ref 26), (0, .ref 0), (1, .int (Int32.ofInt p1)), (2, .int (Int32.ofInt p2)), (3, .int (Int32.ofInt p3)), (4, .int (Int32.ofInt p4))] [.int (Int32.ofInt o2)] w _
    refine wz_eq (oo := 39) (ln := 3) (a := 69) (b := 0) (zz := 0) (by decide +kernel) (fun h6 => ?_) (fun h6 => ?_)
    · have hx := ite_t h6 hx
      refine wp_g 1 (pc1 := 71) (lv1 := [(5, .ref 26), (0, .ref 0), (1, .int (Int32.ofInt p1)), (2, .int (Int32.ofInt p2)), (3, .int (Int32.ofInt p3)), (4, .int (Int32.ofInt p4))]) (st1 := [.int (Int32.ofInt (-2))]) (w1 := w) rfl ?_
      refine wp_rt (i := .ireturn) (r := some (.int (Int32.ofInt (-2)))) (ln := 1) (a := 0) (b := 0) (z := 0) (by decide +kernel) rfl (ret_ok (by decide +kernel)) ?_
      cases hx
      exact kr _ h
    · have hx := ite_f h6 hx
      refine wp_g 4 (pc1 := 38) (lv1 := [(5, .ref 26), (0, .ref 0), (1, .int (Int32.ofInt p1)), (2, .int (Int32.ofInt p2)), (3, .int (Int32.ofInt p3)), (4, .int (Int32.ofInt p4))]) (st1 := [.int (Int32.ofInt p3), .int (Int32.ofInt p2), .int (Int32.ofInt p1), .ref 26]) (w1 := w) rfl ?_
      obtain ⟨o7, e8, hx⟩ := bd hx
      refine wp_cl [.ref 26, .int (Int32.ofInt p1), .int (Int32.ofInt p2), .int (Int32.ofInt p3)] [] (i := .invokevirtual 176) (ln := 3) (a := 8) (b := 0) (z := 0) (by decide +kernel) rfl rfl (by decide) rfl (show (4 : Nat) = pm_na 8 by decide +kernel) (Nat.le_of_ble_eq_true rfl) (show (4 : Nat) ≤ pm_n 8 by decide +kernel) (rcv_x 0 h (hS _ _ sx_26) (by decide +kernel)) (xl_hasFold_ok (d := d) hS (okC_26 hS) h e8 ?_)
      show wp _ 130 41 [(5, .ref 26), (0, .ref 0), (1, .int (Int32.ofInt p1)), (2, .int (Int32.ofInt p2)), (3, .int (Int32.ofInt p3)), (4, .int (Int32.ofInt p4))] [.int (Int32.ofInt o7)] w _
      refine wz_eq (oo := 28) (ln := 3) (a := 69) (b := 0) (zz := 0) (by decide +kernel) (fun h11 => ?_) (fun h11 => ?_)
      · have hx := ite_t h11 hx
        refine wp_g 1 (pc1 := 71) (lv1 := [(5, .ref 26), (0, .ref 0), (1, .int (Int32.ofInt p1)), (2, .int (Int32.ofInt p2)), (3, .int (Int32.ofInt p3)), (4, .int (Int32.ofInt p4))]) (st1 := [.int (Int32.ofInt (-2))]) (w1 := w) rfl ?_
        refine wp_rt (i := .ireturn) (r := some (.int (Int32.ofInt (-2)))) (ln := 1) (a := 0) (b := 0) (z := 0) (by decide +kernel) rfl (ret_ok (by decide +kernel)) ?_
        cases hx
        exact kr _ h
      · have hx := ite_f h11 hx
        refine wp_g 1 (pc1 := 46) (lv1 := [(5, .ref 26), (0, .ref 0), (1, .int (Int32.ofInt p1)), (2, .int (Int32.ofInt p2)), (3, .int (Int32.ofInt p3)), (4, .int (Int32.ofInt p4))]) (st1 := [.int (Int32.ofInt p4)]) (w1 := w) rfl ?_
        refine wz_lt (oo := 23) (ln := 3) (a := 69) (b := 0) (zz := 0) (by decide +kernel) (fun h12 => ?_) (fun h12 => ?_)
        · have hx := ite_t h12 hx
          refine wp_g 1 (pc1 := 71) (lv1 := [(5, .ref 26), (0, .ref 0), (1, .int (Int32.ofInt p1)), (2, .int (Int32.ofInt p2)), (3, .int (Int32.ofInt p3)), (4, .int (Int32.ofInt p4))]) (st1 := [.int (Int32.ofInt (-2))]) (w1 := w) rfl ?_
          refine wp_rt (i := .ireturn) (r := some (.int (Int32.ofInt (-2)))) (ln := 1) (a := 0) (b := 0) (z := 0) (by decide +kernel) rfl (ret_ok (by decide +kernel)) ?_
          cases hx
          exact kr _ h
        · have hx := ite_f h12 hx
          refine wp_g 2 (pc1 := 54) (lv1 := [(5, .ref 26), (0, .ref 0), (1, .int (Int32.ofInt p1)), (2, .int (Int32.ofInt p2)), (3, .int (Int32.ofInt p3)), (4, .int (Int32.ofInt p4))]) (st1 := [.int (Int32.ofInt 9999), .int (Int32.ofInt p4)]) (w1 := w) rfl ?_
          refine wx_gt (oo := 15) (ln := 3) (a := 69) (b := 0) (zz := 0) (by decide +kernel) (fun h13 => ?_) (fun h13 => ?_)
          · have hx := ite_t h13 hx
            refine wp_g 1 (pc1 := 71) (lv1 := [(5, .ref 26), (0, .ref 0), (1, .int (Int32.ofInt p1)), (2, .int (Int32.ofInt p2)), (3, .int (Int32.ofInt p3)), (4, .int (Int32.ofInt p4))]) (st1 := [.int (Int32.ofInt (-2))]) (w1 := w) rfl ?_
            refine wp_rt (i := .ireturn) (r := some (.int (Int32.ofInt (-2)))) (ln := 1) (a := 0) (b := 0) (z := 0) (by decide +kernel) rfl (ret_ok (by decide +kernel)) ?_
            cases hx
            exact kr _ h
          · have hx := ite_f h13 hx
            refine wp_g 1 (pc1 := 58) (lv1 := [(5, .ref 26), (0, .ref 0), (1, .int (Int32.ofInt p1)), (2, .int (Int32.ofInt p2)), (3, .int (Int32.ofInt p3)), (4, .int (Int32.ofInt p4))]) (st1 := [.ref 0]) (w1 := w) rfl ?_
            refine wx_gr (o := 16) (kf := 43) (ln := 3) (ci := 11) (b := 5) (zz := 0) (x := 0) (by decide +kernel) h (hS _ _ sx_0) rfl ?_
            show wp _ 130 61 [(5, .ref 26), (0, .ref 0), (1, .int (Int32.ofInt p1)), (2, .int (Int32.ofInt p2)), (3, .int (Int32.ofInt p3)), (4, .int (Int32.ofInt p4))] [.ref 16] w _
            refine wx_gi (kf := 247) (ln := 3) (ci := 7) (b := 5) (zz := 0) (x := 16) (by decide +kernel) h (hS _ _ sx_16) rfl ?_
            show wp _ 130 64 [(5, .ref 26), (0, .ref 0), (1, .int (Int32.ofInt p1)), (2, .int (Int32.ofInt p2)), (3, .int (Int32.ofInt p3)), (4, .int (Int32.ofInt p4))] [.int (Int32.ofInt (s 16 5))] w _
            refine wp_g 1 (pc1 := 66) (lv1 := [(5, .ref 26), (0, .ref 0), (1, .int (Int32.ofInt p1)), (2, .int (Int32.ofInt p2)), (3, .int (Int32.ofInt p3)), (4, .int (Int32.ofInt p4))]) (st1 := [.int (Int32.ofInt 10), .int (Int32.ofInt (s 16 5))]) (w1 := w) rfl ?_
            refine wx_lt (oo := 6) (ln := 3) (a := 72) (b := 0) (zz := 0) (by decide +kernel) (fun h14 => ?_) (fun h14 => ?_)
            · have hx := ite_t h14 hx
              refine wp_g 1 (pc1 := 73) (lv1 := [(5, .ref 26), (0, .ref 0), (1, .int (Int32.ofInt p1)), (2, .int (Int32.ofInt p2)), (3, .int (Int32.ofInt p3)), (4, .int (Int32.ofInt p4))]) (st1 := [.ref 0]) (w1 := w) rfl ?_
              refine wx_gr (o := 16) (kf := 43) (ln := 3) (ci := 11) (b := 5) (zz := 0) (x := 0) (by decide +kernel) h (hS _ _ sx_0) rfl ?_
              show wp _ 130 76 [(5, .ref 26), (0, .ref 0), (1, .int (Int32.ofInt p1)), (2, .int (Int32.ofInt p2)), (3, .int (Int32.ofInt p3)), (4, .int (Int32.ofInt p4))] [.ref 16] w _
              refine wx_gr (o := 20) (kf := 253) (ln := 3) (ci := 7) (b := 3) (zz := 0) (x := 16) (by decide +kernel) h (hS _ _ sx_16) rfl ?_
              show wp _ 130 79 [(5, .ref 26), (0, .ref 0), (1, .int (Int32.ofInt p1)), (2, .int (Int32.ofInt p2)), (3, .int (Int32.ofInt p3)), (4, .int (Int32.ofInt p4))] [.ref 36] w _
              refine wp_g 1 (pc1 := 80) (lv1 := [(5, .ref 26), (0, .ref 0), (1, .int (Int32.ofInt p1)), (2, .int (Int32.ofInt p2)), (3, .int (Int32.ofInt p3)), (4, .int (Int32.ofInt p4))]) (st1 := [.ref 0, .ref 36]) (w1 := w) rfl ?_
              refine wx_gr (o := 16) (kf := 43) (ln := 3) (ci := 11) (b := 5) (zz := 0) (x := 0) (by decide +kernel) h (hS _ _ sx_0) rfl ?_
              show wp _ 130 83 [(5, .ref 26), (0, .ref 0), (1, .int (Int32.ofInt p1)), (2, .int (Int32.ofInt p2)), (3, .int (Int32.ofInt p3)), (4, .int (Int32.ofInt p4))] [.ref 16, .ref 36] w _
              refine wx_gi (kf := 247) (ln := 3) (ci := 7) (b := 5) (zz := 0) (x := 16) (by decide +kernel) h (hS _ _ sx_16) rfl ?_
              show wp _ 130 86 [(5, .ref 26), (0, .ref 0), (1, .int (Int32.ofInt p1)), (2, .int (Int32.ofInt p2)), (3, .int (Int32.ofInt p3)), (4, .int (Int32.ofInt p4))] [.int (Int32.ofInt (s 16 5)), .ref 36] w _
              refine wp_g 9 (pc1 := 95) (lv1 := [(5, .ref 26), (0, .ref 0), (1, .int (Int32.ofInt p1)), (2, .int (Int32.ofInt p2)), (3, .int (Int32.ofInt p3)), (4, .int (Int32.ofInt p4))]) (st1 := [.int (Int32.ofInt (((4 * p1) + (2 * p2)) + p3)), .int (Int32.ofInt (s 16 5)), .ref 36]) (w1 := w) (by simp only [Int32.ofInt_add, Int32.ofInt_sub, Int32.ofInt_mul, Int32.ofInt_neg, p_and, p_or, p_xor, p_shl, p_shr, p_usr, p_w8, p_c16, p_lI, q_and, q_or, q_shl, q_shr, q_w32, Int64.ofInt_add, Int64.ofInt_sub, Int64.ofInt_mul, p_mx, p_mn, q_mx, q_mn]; rfl) ?_
              obtain ⟨i15, e16, hx⟩ := bd hx
              obtain ⟨s17, e18, hx⟩ := bd hx
              refine wx_wa (x := 36) (n := 10) (ln := 1) (a := 0) (b := 0) (zz := 0) (by decide +kernel) h (hS _ _ sx_36) e16 e18 (fun w19 h20 => ?_)
              refine wp_g 1 (pc1 := 97) (lv1 := [(5, .ref 26), (0, .ref 0), (1, .int (Int32.ofInt p1)), (2, .int (Int32.ofInt p2)), (3, .int (Int32.ofInt p3)), (4, .int (Int32.ofInt p4))]) (st1 := [.ref 0]) (w1 := w19) rfl ?_
              refine wx_gr (o := 16) (kf := 43) (ln := 3) (ci := 11) (b := 5) (zz := 0) (x := 0) (by decide +kernel) h20 (hS _ _ sx_0) rfl ?_
              show wp _ 130 100 [(5, .ref 26), (0, .ref 0), (1, .int (Int32.ofInt p1)), (2, .int (Int32.ofInt p2)), (3, .int (Int32.ofInt p3)), (4, .int (Int32.ofInt p4))] [.ref 16] w19 _
              refine wx_gr (o := 21) (kf := 256) (ln := 3) (ci := 7) (b := 4) (zz := 0) (x := 16) (by decide +kernel) h20 (hS _ _ sx_16) rfl ?_
              show wp _ 130 103 [(5, .ref 26), (0, .ref 0), (1, .int (Int32.ofInt p1)), (2, .int (Int32.ofInt p2)), (3, .int (Int32.ofInt p3)), (4, .int (Int32.ofInt p4))] [.ref 37] w19 _
              refine wp_g 1 (pc1 := 104) (lv1 := [(5, .ref 26), (0, .ref 0), (1, .int (Int32.ofInt p1)), (2, .int (Int32.ofInt p2)), (3, .int (Int32.ofInt p3)), (4, .int (Int32.ofInt p4))]) (st1 := [.ref 0, .ref 37]) (w1 := w19) rfl ?_
              refine wx_gr (o := 16) (kf := 43) (ln := 3) (ci := 11) (b := 5) (zz := 0) (x := 0) (by decide +kernel) h20 (hS _ _ sx_0) rfl ?_
              show wp _ 130 107 [(5, .ref 26), (0, .ref 0), (1, .int (Int32.ofInt p1)), (2, .int (Int32.ofInt p2)), (3, .int (Int32.ofInt p3)), (4, .int (Int32.ofInt p4))] [.ref 16, .ref 37] w19 _
              refine wx_gi (kf := 247) (ln := 3) (ci := 7) (b := 5) (zz := 0) (x := 16) (by decide +kernel) h20 (hS _ _ sx_16) rfl ?_
              show wp _ 130 110 [(5, .ref 26), (0, .ref 0), (1, .int (Int32.ofInt p1)), (2, .int (Int32.ofInt p2)), (3, .int (Int32.ofInt p3)), (4, .int (Int32.ofInt p4))] [.int (Int32.ofInt (s17 16 5)), .ref 37] w19 _
              refine wp_g 1 (pc1 := 112) (lv1 := [(5, .ref 26), (0, .ref 0), (1, .int (Int32.ofInt p1)), (2, .int (Int32.ofInt p2)), (3, .int (Int32.ofInt p3)), (4, .int (Int32.ofInt p4))]) (st1 := [.int (Int32.ofInt p4), .int (Int32.ofInt (s17 16 5)), .ref 37]) (w1 := w19) rfl ?_
              obtain ⟨i21, e22, hx⟩ := bd hx
              obtain ⟨s23, e24, hx⟩ := bd hx
              refine wx_wa (x := 37) (n := 10) (ln := 1) (a := 0) (b := 0) (zz := 0) (by decide +kernel) h20 (hS _ _ sx_37) e22 e24 (fun w25 h26 => ?_)
              refine wp_g 1 (pc1 := 114) (lv1 := [(5, .ref 26), (0, .ref 0), (1, .int (Int32.ofInt p1)), (2, .int (Int32.ofInt p2)), (3, .int (Int32.ofInt p3)), (4, .int (Int32.ofInt p4))]) (st1 := [.ref 0]) (w1 := w25) rfl ?_
              refine wx_gr (o := 16) (kf := 43) (ln := 3) (ci := 11) (b := 5) (zz := 0) (x := 0) (by decide +kernel) h26 (hS _ _ sx_0) rfl ?_
              show wp _ 130 117 [(5, .ref 26), (0, .ref 0), (1, .int (Int32.ofInt p1)), (2, .int (Int32.ofInt p2)), (3, .int (Int32.ofInt p3)), (4, .int (Int32.ofInt p4))] [.ref 16] w25 _
              refine wp_g 1 (pc1 := 118) (lv1 := [(5, .ref 26), (0, .ref 0), (1, .int (Int32.ofInt p1)), (2, .int (Int32.ofInt p2)), (3, .int (Int32.ofInt p3)), (4, .int (Int32.ofInt p4))]) (st1 := [.ref 16, .ref 16]) (w1 := w25) rfl ?_
              refine wx_gi (kf := 247) (ln := 3) (ci := 7) (b := 5) (zz := 0) (x := 16) (by decide +kernel) h26 (hS _ _ sx_16) rfl ?_
              show wp _ 130 121 [(5, .ref 26), (0, .ref 0), (1, .int (Int32.ofInt p1)), (2, .int (Int32.ofInt p2)), (3, .int (Int32.ofInt p3)), (4, .int (Int32.ofInt p4))] [.int (Int32.ofInt (s23 16 5)), .ref 16] w25 _
              refine wp_g 2 (pc1 := 123) (lv1 := [(5, .ref 26), (0, .ref 0), (1, .int (Int32.ofInt p1)), (2, .int (Int32.ofInt p2)), (3, .int (Int32.ofInt p3)), (4, .int (Int32.ofInt p4))]) (st1 := [.int (Int32.ofInt ((s23 16 5) + 1)), .ref 16]) (w1 := w25) (by simp only [Int32.ofInt_add, Int32.ofInt_sub, Int32.ofInt_mul, Int32.ofInt_neg, p_and, p_or, p_xor, p_shl, p_shr, p_usr, p_w8, p_c16, p_lI, q_and, q_or, q_shl, q_shr, q_w32, Int64.ofInt_add, Int64.ofInt_sub, Int64.ofInt_mul, p_mx, p_mn, q_mx, q_mn]; rfl) ?_
              obtain ⟨s27, e28, hx⟩ := bd hx
              refine wx_pi (kf := 247) (ln := 3) (ci := 7) (b := 5) (zz := 0) (x := 16) (by decide +kernel) h26 (hS _ _ sx_16) rfl (by decide +kernel) e28 (fun w29 h30 => ?_)
              refine wp_g 1 (pc1 := 127) (lv1 := [(5, .ref 26), (0, .ref 0), (1, .int (Int32.ofInt p1)), (2, .int (Int32.ofInt p2)), (3, .int (Int32.ofInt p3)), (4, .int (Int32.ofInt p4))]) (st1 := [.ref 0]) (w1 := w29) rfl ?_
              refine wx_gr (o := 16) (kf := 43) (ln := 3) (ci := 11) (b := 5) (zz := 0) (x := 0) (by decide +kernel) h30 (hS _ _ sx_0) rfl ?_
              show wp _ 130 130 [(5, .ref 26), (0, .ref 0), (1, .int (Int32.ofInt p1)), (2, .int (Int32.ofInt p2)), (3, .int (Int32.ofInt p3)), (4, .int (Int32.ofInt p4))] [.ref 16] w29 _
              refine wx_gi (kf := 247) (ln := 3) (ci := 7) (b := 5) (zz := 0) (x := 16) (by decide +kernel) h30 (hS _ _ sx_16) rfl ?_
              show wp _ 130 133 [(5, .ref 26), (0, .ref 0), (1, .int (Int32.ofInt p1)), (2, .int (Int32.ofInt p2)), (3, .int (Int32.ofInt p3)), (4, .int (Int32.ofInt p4))] [.int (Int32.ofInt (s27 16 5))] w29 _
              refine wp_rt (i := .ireturn) (r := some (.int (Int32.ofInt (s27 16 5)))) (ln := 1) (a := 0) (b := 0) (z := 0) (by decide +kernel) rfl (ret_ok (by decide +kernel)) ?_
              cases hx
              exact kr _ h30
            · have hx := ite_f h14 hx
              refine wp_g 1 (pc1 := 71) (lv1 := [(5, .ref 26), (0, .ref 0), (1, .int (Int32.ofInt p1)), (2, .int (Int32.ofInt p2)), (3, .int (Int32.ofInt p3)), (4, .int (Int32.ofInt p4))]) (st1 := [.int (Int32.ofInt (-2))]) (w1 := w) rfl ?_
              refine wp_rt (i := .ireturn) (r := some (.int (Int32.ofInt (-2)))) (ln := 1) (a := 0) (b := 0) (z := 0) (by decide +kernel) rfl (ret_ok (by decide +kernel)) ?_
              cases hx
              exact kr _ h
  · have hx := ite_t h1 hx
    refine wp_g 1 (pc1 := 6) (lv1 := [(0, .ref 0), (1, .int (Int32.ofInt p1)), (2, .int (Int32.ofInt p2)), (3, .int (Int32.ofInt p3)), (4, .int (Int32.ofInt p4))]) (st1 := [.ref 0]) (w1 := w) rfl ?_
    refine wx_gr (o := 16) (kf := 43) (ln := 3) (ci := 11) (b := 5) (zz := 0) (x := 0) (by decide +kernel) h (hS _ _ sx_0) rfl ?_
    show wp _ 130 9 [(0, .ref 0), (1, .int (Int32.ofInt p1)), (2, .int (Int32.ofInt p2)), (3, .int (Int32.ofInt p3)), (4, .int (Int32.ofInt p4))] [.ref 16] w _
    refine wp_g 1 (pc1 := 10) (lv1 := [(0, .ref 0), (1, .int (Int32.ofInt p1)), (2, .int (Int32.ofInt p2)), (3, .int (Int32.ofInt p3)), (4, .int (Int32.ofInt p4))]) (st1 := [.int (Int32.ofInt 0), .ref 16]) (w1 := w) rfl ?_
    obtain ⟨s31, e32, hx⟩ := bd hx
    refine wx_pi (kf := 247) (ln := 3) (ci := 7) (b := 5) (zz := 0) (x := 16) (by decide +kernel) h (hS _ _ sx_16) rfl (by decide +kernel) e32 (fun w33 h34 => ?_)
    refine wp_g 1 (pc1 := 14) (lv1 := [(0, .ref 0), (1, .int (Int32.ofInt p1)), (2, .int (Int32.ofInt p2)), (3, .int (Int32.ofInt p3)), (4, .int (Int32.ofInt p4))]) (st1 := [.int (Int32.ofInt 0)]) (w1 := w33) rfl ?_
    refine wp_rt (i := .ireturn) (r := some (.int (Int32.ofInt 0))) (ln := 1) (a := 0) (b := 0) (z := 0) (by decide +kernel) rfl (ret_ok (by decide +kernel)) ?_
    cases hx
    exact kr _ h34
noncomputable def xf_explainsLogs_b2 (ln : Nat → Nat) (rs : Nat → Int) (s : Hp) (u1 : Int) (x2 : Int) : Option ((Int × Hp) ⊕ ((Int × Hp) ⊕ (Int × Hp))) :=
  if w32 x2 < w32 (s 16 5) then (ix 10 x2).bind fun i2 => (xk_quote ln rs s 26 u1 0 (s 36 i2)).bind fun o4 => if w32 o4.1 = w32 (o4.2 37 i2) then some (.inl (x2 + 1, o4.2)) else some (.inr (.inr (0, o4.2))) else some (.inr (.inl (x2, s)))
set_option maxRecDepth 100000 in
theorem xf_explainsLogs_b2_ok {d : Nat} {P : Option Value → pm_H → Prop} {w : pm_H} {sh : Shp} {w0 : pm_H} {s : Hp} (hS : St sh) {ln : Nat → Nat} {rs : Nat → Int} (hG : ∀ i, okR ln sh (rs i)) {u1 : Int} (hu1 : okR ln sh u1) {x2 : Int} (h : Rw sh w0 s w) {o : ((Int × Hp) ⊕ ((Int × Hp) ⊕ (Int × Hp)))} (hx : xf_explainsLogs_b2 ln rs s u1 x2 = some o) (kn : ∀ (q : Int × Hp) w1, o = .inl q → Rw sh w0 q.2 w1 → wp (d + 8) 141 2 [(0, .ref 0), (1, vR u1), (2, .int (Int32.ofInt q.1))] [] w1 P) (kc : ∀ (r : ((Int × Hp) ⊕ (Int × Hp))), o = .inr r → ((∀ q1 w1, r = .inl q1 → Rw sh w0 q1.2 w1 → wp (d + 8) 141 58 [(0, .ref 0), (1, vR u1), (2, .int (Int32.ofInt q1.1))] [] w1 P) ∧ (∀ v1 w1, r = .inr v1 → Rw sh w0 v1.2 w1 → P (some (.int (Int32.ofInt v1.1))) w1))) : wp (d + 8) 141 2 [(0, .ref 0), (1, vR u1), (2, .int (Int32.ofInt x2))] [] w P := by
  unfold xf_explainsLogs_b2 at hx
  refine wp_g 2 (pc1 := 4) (lv1 := [(0, .ref 0), (1, vR u1), (2, .int (Int32.ofInt x2))]) (st1 := [.ref 0, .int (Int32.ofInt x2)]) (w1 := w) (by rcases vR_c u1 with e | ⟨_, e⟩ <;> simp only [e] <;> rfl) ?_
  refine wx_gr (o := 16) (kf := 43) (ln := 3) (ci := 11) (b := 5) (zz := 0) (x := 0) (by decide +kernel) h (hS _ _ sx_0) rfl ?_
  show wp _ 141 7 [(0, .ref 0), (1, vR u1), (2, .int (Int32.ofInt x2))] [.ref 16, .int (Int32.ofInt x2)] w _
  refine wx_gi (kf := 247) (ln := 3) (ci := 7) (b := 5) (zz := 0) (x := 16) (by decide +kernel) h (hS _ _ sx_16) rfl ?_
  show wp _ 141 10 [(0, .ref 0), (1, vR u1), (2, .int (Int32.ofInt x2))] [.int (Int32.ofInt (s 16 5)), .int (Int32.ofInt x2)] w _
  refine wx_ge (oo := 48) (ln := 3) (a := 58) (b := 0) (zz := 0) (by decide +kernel) (fun h1 => ?_) (fun h1 => ?_)
  · have hx := ite_f h1 hx
    cases hx
    exact (kc _ rfl).1 _ _ rfl h
  · have hx := ite_t h1 hx
    refine wp_g 1 (pc1 := 14) (lv1 := [(0, .ref 0), (1, vR u1), (2, .int (Int32.ofInt x2))]) (st1 := [.ref 0]) (w1 := w) (by rcases vR_c u1 with e | ⟨_, e⟩ <;> simp only [e] <;> rfl) ?_
    refine wx_gr (o := 41) (kf := 61) (ln := 3) (ci := 11) (b := 8) (zz := 0) (x := 0) (by decide +kernel) h (hS _ _ sx_0) rfl ?_
    show wp _ 141 17 [(0, .ref 0), (1, vR u1), (2, .int (Int32.ofInt x2))] [.ref 41] w _
    refine wp_g 1 (pc1 := 18) (lv1 := [(0, .ref 0), (1, vR u1), (2, .int (Int32.ofInt x2))]) (st1 := [.ref 0, .ref 41]) (w1 := w) (by rcases vR_c u1 with e | ⟨_, e⟩ <;> simp only [e] <;> rfl) ?_
    refine wx_gr (o := 16) (kf := 43) (ln := 3) (ci := 11) (b := 5) (zz := 0) (x := 0) (by decide +kernel) h (hS _ _ sx_0) rfl ?_
    show wp _ 141 21 [(0, .ref 0), (1, vR u1), (2, .int (Int32.ofInt x2))] [.ref 16, .ref 41] w _
    refine wx_gr (o := 10) (kf := 250) (ln := 3) (ci := 7) (b := 1) (zz := 0) (x := 16) (by decide +kernel) h (hS _ _ sx_16) rfl ?_
    show wp _ 141 24 [(0, .ref 0), (1, vR u1), (2, .int (Int32.ofInt x2))] [.ref 26, .ref 41] w _
    refine wp_g 3 (pc1 := 27) (lv1 := [(0, .ref 0), (1, vR u1), (2, .int (Int32.ofInt x2))]) (st1 := [.ref 0, .int (Int32.ofInt 0), vR u1, .ref 26, .ref 41]) (w1 := w) (by rcases vR_c u1 with e | ⟨_, e⟩ <;> simp only [e] <;> rfl) ?_
    refine wx_gr (o := 16) (kf := 43) (ln := 3) (ci := 11) (b := 5) (zz := 0) (x := 0) (by decide +kernel) h (hS _ _ sx_0) rfl ?_
    show wp _ 141 30 [(0, .ref 0), (1, vR u1), (2, .int (Int32.ofInt x2))] [.ref 16, .int (Int32.ofInt 0), vR u1, .ref 26, .ref 41] w _
    refine wx_gr (o := 20) (kf := 253) (ln := 3) (ci := 7) (b := 3) (zz := 0) (x := 16) (by decide +kernel) h (hS _ _ sx_16) rfl ?_
    show wp _ 141 33 [(0, .ref 0), (1, vR u1), (2, .int (Int32.ofInt x2))] [.ref 36, .int (Int32.ofInt 0), vR u1, .ref 26, .ref 41] w _
    refine wp_g 1 (pc1 := 34) (lv1 := [(0, .ref 0), (1, vR u1), (2, .int (Int32.ofInt x2))]) (st1 := [.int (Int32.ofInt x2), .ref 36, .int (Int32.ofInt 0), vR u1, .ref 26, .ref 41]) (w1 := w) (by rcases vR_c u1 with e | ⟨_, e⟩ <;> simp only [e] <;> rfl) ?_
    obtain ⟨i2, e3, hx⟩ := bd hx
    refine wx_ra (x := 36) (n := 10) (ln := 1) (a := 0) (b := 0) (zz := 0) (by decide +kernel) h (hS _ _ sx_36) e3 ?_
    show wp _ 141 35 [(0, .ref 0), (1, vR u1), (2, .int (Int32.ofInt x2))] [.int (Int32.ofInt (s 36 i2)), .int (Int32.ofInt 0), vR u1, .ref 26, .ref 41] w _
    obtain ⟨o4, e5, hx⟩ := bd hx
    refine wp_cl [.ref 41, .ref 26, vR u1, .int (Int32.ofInt 0), .int (Int32.ofInt (s 36 i2))] [] (i := .invokevirtual 183) (ln := 3) (a := 36) (b := 0) (z := 0) (by decide +kernel) rfl rfl (by decide) rfl (show (5 : Nat) = pm_na 36 by decide +kernel) (Nat.le_of_ble_eq_true rfl) (by rcases vR_c u1 with e | ⟨_, e⟩ <;> simp only [e] <;> exact (show (5 : Nat) ≤ pm_n 36 by decide +kernel)) (rcv_x 3 h (hS _ _ sx_41) (by decide +kernel)) (xk_quote_ok (d := d) hS hG (okC_26 hS) hu1 h e5 (fun w6 h7 => ?_))
    show wp _ 141 38 [(0, .ref 0), (1, vR u1), (2, .int (Int32.ofInt x2))] [.int (Int32.ofInt o4.1)] w6 _
    refine wp_g 1 (pc1 := 39) (lv1 := [(0, .ref 0), (1, vR u1), (2, .int (Int32.ofInt x2))]) (st1 := [.ref 0, .int (Int32.ofInt o4.1)]) (w1 := w6) (by rcases vR_c u1 with e | ⟨_, e⟩ <;> simp only [e] <;> rfl) ?_
    refine wx_gr (o := 16) (kf := 43) (ln := 3) (ci := 11) (b := 5) (zz := 0) (x := 0) (by decide +kernel) h7 (hS _ _ sx_0) rfl ?_
    show wp _ 141 42 [(0, .ref 0), (1, vR u1), (2, .int (Int32.ofInt x2))] [.ref 16, .int (Int32.ofInt o4.1)] w6 _
    refine wx_gr (o := 21) (kf := 256) (ln := 3) (ci := 7) (b := 4) (zz := 0) (x := 16) (by decide +kernel) h7 (hS _ _ sx_16) rfl ?_
    show wp _ 141 45 [(0, .ref 0), (1, vR u1), (2, .int (Int32.ofInt x2))] [.ref 37, .int (Int32.ofInt o4.1)] w6 _
    refine wp_g 1 (pc1 := 46) (lv1 := [(0, .ref 0), (1, vR u1), (2, .int (Int32.ofInt x2))]) (st1 := [.int (Int32.ofInt x2), .ref 37, .int (Int32.ofInt o4.1)]) (w1 := w6) (by rcases vR_c u1 with e | ⟨_, e⟩ <;> simp only [e] <;> rfl) ?_
    refine wx_ra (x := 37) (n := 10) (ln := 1) (a := 0) (b := 0) (zz := 0) (by decide +kernel) h7 (hS _ _ sx_37) e3 ?_
    show wp _ 141 47 [(0, .ref 0), (1, vR u1), (2, .int (Int32.ofInt x2))] [.int (Int32.ofInt (o4.2 37 i2)), .int (Int32.ofInt o4.1)] w6 _
    refine wx_eq (oo := 5) (ln := 3) (a := 52) (b := 0) (zz := 0) (by decide +kernel) (fun h8 => ?_) (fun h8 => ?_)
    · have hx := ite_t h8 hx
      refine wp_g 2 (pc1 := 2) (lv1 := [(2, .int (Int32.ofInt (x2 + 1))), (0, .ref 0), (1, vR u1)]) (st1 := []) (w1 := w6) (by simp only [Int32.ofInt_add, Int32.ofInt_sub, Int32.ofInt_mul, Int32.ofInt_neg, p_and, p_or, p_xor, p_shl, p_shr, p_usr, p_w8, p_c16, p_lI, q_and, q_or, q_shl, q_shr, q_w32, Int64.ofInt_add, Int64.ofInt_sub, Int64.ofInt_mul, p_mx, p_mn, q_mx, q_mn]; rcases vR_c u1 with e | ⟨_, e⟩ <;> simp only [e] <;> rfl) ?_
      refine wp_lv (lv1 := [(0, .ref 0), (1, vR u1), (2, .int (Int32.ofInt (x2 + 1)))]) (lsub_p [1, 2, 0] rfl rfl rfl) ?_
      cases hx
      exact kn _ _ rfl h7
    · have hx := ite_f h8 hx
      refine wp_g 1 (pc1 := 51) (lv1 := [(0, .ref 0), (1, vR u1), (2, .int (Int32.ofInt x2))]) (st1 := [.int (Int32.ofInt 0)]) (w1 := w6) (by rcases vR_c u1 with e | ⟨_, e⟩ <;> simp only [e] <;> rfl) ?_
      refine wp_rt (i := .ireturn) (r := some (.int (Int32.ofInt 0))) (ln := 1) (a := 0) (b := 0) (z := 0) (by decide +kernel) rfl (ret_b (by decide +kernel) (Or.inl rfl)) ?_
      cases hx
      exact (kc _ rfl).2 _ _ rfl h7
/-- FoldDeeds.explainsLogs (LRule;)Z -/
noncomputable def xf_explainsLogs (ln : Nat → Nat) (rs : Nat → Int) (s : Hp) (u1 : Int) : Option (Int × Hp) :=
  (lp (fun (q : Int × Hp) => xf_explainsLogs_b2 ln rs q.2 u1 q.1) (0, s)).bind fun q1 => q1.elim (fun q5 => some (1, q5.2)) (fun r => some r)
set_option maxRecDepth 100000 in
theorem xf_explainsLogs_ok {d : Nat} {P : Option Value → pm_H → Prop} {w : pm_H} {sh : Shp} {w0 : pm_H} {s : Hp} (hS : St sh) {ln : Nat → Nat} {rs : Nat → Int} (hG : ∀ i, okR ln sh (rs i)) {u1 : Int} (hu1 : okR ln sh u1) (h : Rw sh w0 s w) {o : Int × Hp} (hx : xf_explainsLogs ln rs s u1 = some o) (kr : ∀ w1, Rw sh w0 o.2 w1 → P (some (.int (Int32.ofInt o.1))) w1) : wp (d + 8) 141 0 (lv_args 0 [.ref 0, vR u1]) [] w P := by
  rw [show lv_args 0 [.ref 0, vR u1] = [(0, .ref 0), (1, vR u1)] from by rcases vR_c u1 with e | ⟨_, e⟩ <;> simp only [e] <;> rfl]
  unfold xf_explainsLogs at hx
  refine wp_g 2 (pc1 := 2) (lv1 := [(2, .int (Int32.ofInt 0)), (0, .ref 0), (1, vR u1)]) (st1 := []) (w1 := w) (by rcases vR_c u1 with e | ⟨_, e⟩ <;> simp only [e] <;> rfl) ?_
  refine wp_lv (lv1 := [(0, .ref 0), (1, vR u1), (2, .int (Int32.ofInt 0))]) (lsub_p [1, 2, 0] rfl rfl rfl) ?_
  obtain ⟨q1, e2, hx⟩ := bd hx
  refine wp_lp (σ := Int × Hp) (ρ := ((Int × Hp) ⊕ (Int × Hp))) (B := fun q => xf_explainsLogs_b2 ln rs q.2 u1 q.1) (R := fun q w' => Rw sh w0 q.2 w') (C := fun r => (∀ q1 w1, r = .inl q1 → Rw sh w0 q1.2 w1 → wp (d + 8) 141 58 [(0, .ref 0), (1, vR u1), (2, .int (Int32.ofInt q1.1))] [] w1 P) ∧ (∀ v1 w1, r = .inr v1 → Rw sh w0 v1.2 w1 → P (some (.int (Int32.ofInt v1.1))) w1)) (lv := fun q => [(0, .ref 0), (1, vR u1), (2, .int (Int32.ofInt q.1))]) (hd := 2) (fun q w' o hR hb kn kc => xf_explainsLogs_b2_ok hS hG hu1 hR hb kn kc) _ _ _ e2 h ?_
  refine ⟨?_, fun v6 w1 hs h1 => by subst hs; cases (se_r hx); exact kr _ h1⟩
  intro q5 w3 hs h4
  subst hs
  replace hx := se_l hx
  show wp _ 141 58 [(0, .ref 0), (1, vR u1), (2, .int (Int32.ofInt q5.1))] [] w3 _
  refine wp_g 1 (pc1 := 59) (lv1 := [(0, .ref 0), (1, vR u1), (2, .int (Int32.ofInt q5.1))]) (st1 := [.int (Int32.ofInt 1)]) (w1 := w3) (by rcases vR_c u1 with e | ⟨_, e⟩ <;> simp only [e] <;> rfl) ?_
  refine wp_rt (i := .ireturn) (r := some (.int (Int32.ofInt 1))) (ln := 1) (a := 0) (b := 0) (z := 0) (by decide +kernel) rfl (ret_b (by decide +kernel) (Or.inr rfl)) ?_
  cases hx
  exact kr _ h4
noncomputable def xf_findSo_b4 (ln : Nat → Nat) (rs : Nat → Int) (s : Hp) (x1 : Int) (x2 : Int) : Option ((Int × Int × Hp) ⊕ (Int × Int × Hp)) :=
  if w32 (s 0 4) < w32 x2 then some (.inr (x1, x2, s)) else if w32 x2 < w32 7 then (xf_ruleOf ln rs s (x2 - 1)).bind fun o3 => (xf_explainsLogs ln rs s o3).bind fun o8 => (ix 7 x2).bind fun i12 => (some (uh o8.2 144 i12 (nz o8.1))).bind fun s14 => if w32 (s14 144 i12) = 0 then some (.inl (x1, x2 + 1, s14)) else some (.inl (x1 + 1, x2 + 1, s14)) else some (.inr (x1, x2, s))
set_option maxRecDepth 100000 in
theorem xf_findSo_b4_ok {d : Nat} {P : Option Value → pm_H → Prop} {w : pm_H} {sh : Shp} {w0 : pm_H} {s : Hp} (hS : St sh) {ln : Nat → Nat} {rs : Nat → Int} (hG : ∀ i, okR ln sh (rs i)) {x1 : Int} {x2 : Int} (h : Rw sh w0 s w) {o : ((Int × Int × Hp) ⊕ (Int × Int × Hp))} (hx : xf_findSo_b4 ln rs s x1 x2 = some o) (kn : ∀ (q : Int × Int × Hp) w1, o = .inl q → Rw sh w0 q.2.2 w1 → wp (d + 9) 140 4 [(0, .ref 0), (1, .int (Int32.ofInt q.1)), (2, .int (Int32.ofInt q.2.1))] [] w1 P) (kc : ∀ (r : (Int × Int × Hp)), o = .inr r → (∀ w1, Rw sh w0 r.2.2 w1 → wp (d + 9) 140 56 [(0, .ref 0), (1, .int (Int32.ofInt r.1)), (2, .int (Int32.ofInt r.2.1))] [] w1 P)) : wp (d + 9) 140 4 [(0, .ref 0), (1, .int (Int32.ofInt x1)), (2, .int (Int32.ofInt x2))] [] w P := by
  unfold xf_findSo_b4 at hx
  refine wp_g 2 (pc1 := 6) (lv1 := [(0, .ref 0), (1, .int (Int32.ofInt x1)), (2, .int (Int32.ofInt x2))]) (st1 := [.ref 0, .int (Int32.ofInt x2)]) (w1 := w) rfl ?_
  refine wx_gi (kf := 36) (ln := 3) (ci := 11) (b := 4) (zz := 0) (x := 0) (by decide +kernel) h (hS _ _ sx_0) rfl ?_
  show wp _ 140 9 [(0, .ref 0), (1, .int (Int32.ofInt x1)), (2, .int (Int32.ofInt x2))] [.int (Int32.ofInt (s 0 4)), .int (Int32.ofInt x2)] w _
  refine wx_gt (oo := 47) (ln := 3) (a := 56) (b := 0) (zz := 0) (by decide +kernel) (fun h1 => ?_) (fun h1 => ?_)
  · have hx := ite_t h1 hx
    cases hx
    exact kc _ rfl _ h
  · have hx := ite_f h1 hx
    refine wp_g 2 (pc1 := 14) (lv1 := [(0, .ref 0), (1, .int (Int32.ofInt x1)), (2, .int (Int32.ofInt x2))]) (st1 := [.ref 0, .int (Int32.ofInt x2)]) (w1 := w) rfl ?_
    refine wx_gr (o := 144) (kf := 86) (ln := 3) (ci := 11) (b := 12) (zz := 0) (x := 0) (by decide +kernel) h (hS _ _ sx_0) rfl ?_
    show wp _ 140 17 [(0, .ref 0), (1, .int (Int32.ofInt x1)), (2, .int (Int32.ofInt x2))] [.ref 144, .int (Int32.ofInt x2)] w _
    refine wx_ln (n := 7) (t := 3) (ln := 1) (a := 0) (b := 0) (zz := 0) (by decide +kernel) h (hS _ _ sx_144) ?_
    show wp _ 140 18 [(0, .ref 0), (1, .int (Int32.ofInt x1)), (2, .int (Int32.ofInt x2))] [.int (Int32.ofInt 7), .int (Int32.ofInt x2)] w _
    refine wx_ge (oo := 38) (ln := 3) (a := 56) (b := 0) (zz := 0) (by decide +kernel) (fun h2 => ?_) (fun h2 => ?_)
    · have hx := ite_f h2 hx
      cases hx
      exact kc _ rfl _ h
    · have hx := ite_t h2 hx
      refine wp_g 1 (pc1 := 22) (lv1 := [(0, .ref 0), (1, .int (Int32.ofInt x1)), (2, .int (Int32.ofInt x2))]) (st1 := [.ref 0]) (w1 := w) rfl ?_
      refine wx_gr (o := 144) (kf := 86) (ln := 3) (ci := 11) (b := 12) (zz := 0) (x := 0) (by decide +kernel) h (hS _ _ sx_0) rfl ?_
      show wp _ 140 25 [(0, .ref 0), (1, .int (Int32.ofInt x1)), (2, .int (Int32.ofInt x2))] [.ref 144] w _
      refine wp_g 6 (pc1 := 31) (lv1 := [(0, .ref 0), (1, .int (Int32.ofInt x1)), (2, .int (Int32.ofInt x2))]) (st1 := [.int (Int32.ofInt (x2 - 1)), .ref 0, .ref 0, .int (Int32.ofInt x2), .ref 144]) (w1 := w) (by simp only [Int32.ofInt_add, Int32.ofInt_sub, Int32.ofInt_mul, Int32.ofInt_neg, p_and, p_or, p_xor, p_shl, p_shr, p_usr, p_w8, p_c16, p_lI, q_and, q_or, q_shl, q_shr, q_w32, Int64.ofInt_add, Int64.ofInt_sub, Int64.ofInt_mul, p_mx, p_mn, q_mx, q_mn]; rfl) ?_
      obtain ⟨o3, e4, hx⟩ := bd hx
      refine wp_cl [.ref 0, .int (Int32.ofInt (x2 - 1))] [.ref 0, .int (Int32.ofInt x2), .ref 144] (i := .invokevirtual 293) (ln := 3) (a := 139) (b := 0) (z := 0) (by decide +kernel) rfl rfl (by decide) rfl (show (2 : Nat) = pm_na 139 by decide +kernel) (Nat.le_of_ble_eq_true rfl) (show (2 : Nat) ≤ pm_n 139 by decide +kernel) (rcv_x 11 h (hS _ _ sx_0) (by decide +kernel)) (xf_ruleOf_ok (d := d + 8) hS hG h e4 (fun h7 => ?_))
      show wp _ 140 34 [(0, .ref 0), (1, .int (Int32.ofInt x1)), (2, .int (Int32.ofInt x2))] [vR o3, .ref 0, .int (Int32.ofInt x2), .ref 144] w _
      obtain ⟨o8, e9, hx⟩ := bd hx
      refine wp_cl [.ref 0, vR o3] [.int (Int32.ofInt x2), .ref 144] (i := .invokevirtual 297) (ln := 3) (a := 141) (b := 0) (z := 0) (by decide +kernel) rfl rfl (by decide) rfl (show (2 : Nat) = pm_na 141 by decide +kernel) (Nat.le_of_ble_eq_true rfl) (by rcases vR_c o3 with e | ⟨_, e⟩ <;> simp only [e] <;> exact (show (2 : Nat) ≤ pm_n 141 by decide +kernel)) (rcv_x 11 h (hS _ _ sx_0) (by decide +kernel)) (xf_explainsLogs_ok (d := d) hS hG h7 h e9 (fun w10 h11 => ?_))
      show wp _ 140 37 [(0, .ref 0), (1, .int (Int32.ofInt x1)), (2, .int (Int32.ofInt x2))] [.int (Int32.ofInt o8.1), .int (Int32.ofInt x2), .ref 144] w10 _
      obtain ⟨i12, e13, hx⟩ := bd hx
      obtain ⟨s14, e15, hx⟩ := bd hx
      refine wx_wz (x := 144) (n := 7) (ln := 1) (a := 0) (b := 0) (zz := 0) (by decide +kernel) h11 (hS _ _ sx_144) e13 e15 (fun w16 h17 => ?_)
      refine wp_g 1 (pc1 := 39) (lv1 := [(0, .ref 0), (1, .int (Int32.ofInt x1)), (2, .int (Int32.ofInt x2))]) (st1 := [.ref 0]) (w1 := w16) rfl ?_
      refine wx_gr (o := 144) (kf := 86) (ln := 3) (ci := 11) (b := 12) (zz := 0) (x := 0) (by decide +kernel) h17 (hS _ _ sx_0) rfl ?_
      show wp _ 140 42 [(0, .ref 0), (1, .int (Int32.ofInt x1)), (2, .int (Int32.ofInt x2))] [.ref 144] w16 _
      refine wp_g 1 (pc1 := 43) (lv1 := [(0, .ref 0), (1, .int (Int32.ofInt x1)), (2, .int (Int32.ofInt x2))]) (st1 := [.int (Int32.ofInt x2), .ref 144]) (w1 := w16) rfl ?_
      refine wx_rz (x := 144) (n := 7) (ln := 1) (a := 0) (b := 0) (zz := 0) (by decide +kernel) h17 (hS _ _ sx_144) e13 ?_
      show wp _ 140 44 [(0, .ref 0), (1, .int (Int32.ofInt x1)), (2, .int (Int32.ofInt x2))] [.int (Int32.ofInt (s14 144 i12))] w16 _
      refine wz_eq (oo := 6) (ln := 3) (a := 50) (b := 0) (zz := 0) (by decide +kernel) (fun h18 => ?_) (fun h18 => ?_)
      · have hx := ite_t h18 hx
        refine wp_g 2 (pc1 := 4) (lv1 := [(2, .int (Int32.ofInt (x2 + 1))), (0, .ref 0), (1, .int (Int32.ofInt x1))]) (st1 := []) (w1 := w16) (by simp only [Int32.ofInt_add, Int32.ofInt_sub, Int32.ofInt_mul, Int32.ofInt_neg, p_and, p_or, p_xor, p_shl, p_shr, p_usr, p_w8, p_c16, p_lI, q_and, q_or, q_shl, q_shr, q_w32, Int64.ofInt_add, Int64.ofInt_sub, Int64.ofInt_mul, p_mx, p_mn, q_mx, q_mn]; rfl) ?_
        refine wp_lv (lv1 := [(0, .ref 0), (1, .int (Int32.ofInt x1)), (2, .int (Int32.ofInt (x2 + 1)))]) (lsub_p [1, 2, 0] rfl rfl rfl) ?_
        cases hx
        exact kn _ _ rfl h17
      · have hx := ite_f h18 hx
        refine wp_g 3 (pc1 := 4) (lv1 := [(2, .int (Int32.ofInt (x2 + 1))), (1, .int (Int32.ofInt (x1 + 1))), (0, .ref 0)]) (st1 := []) (w1 := w16) (by simp only [Int32.ofInt_add, Int32.ofInt_sub, Int32.ofInt_mul, Int32.ofInt_neg, p_and, p_or, p_xor, p_shl, p_shr, p_usr, p_w8, p_c16, p_lI, q_and, q_or, q_shl, q_shr, q_w32, Int64.ofInt_add, Int64.ofInt_sub, Int64.ofInt_mul, p_mx, p_mn, q_mx, q_mn]; rfl) ?_
        refine wp_lv (lv1 := [(0, .ref 0), (1, .int (Int32.ofInt (x1 + 1))), (2, .int (Int32.ofInt (x2 + 1)))]) (lsub_p [2, 1, 0] rfl rfl rfl) ?_
        cases hx
        exact kn _ _ rfl h17
/-- FoldDeeds.findSo ()I -/
noncomputable def xf_findSo (ln : Nat → Nat) (rs : Nat → Int) (s : Hp) : Option (Int × Hp) :=
  (lp (fun (q : Int × Int × Hp) => xf_findSo_b4 ln rs q.2.2 q.1 q.2.1) (0, 0, s)).bind fun q1 => some (q1.1, q1.2.2)
set_option maxRecDepth 100000 in
theorem xf_findSo_ok {d : Nat} {P : Option Value → pm_H → Prop} {w : pm_H} {sh : Shp} {w0 : pm_H} {s : Hp} (hS : St sh) {ln : Nat → Nat} {rs : Nat → Int} (hG : ∀ i, okR ln sh (rs i)) (h : Rw sh w0 s w) {o : Int × Hp} (hx : xf_findSo ln rs s = some o) (kr : ∀ w1, Rw sh w0 o.2 w1 → P (some (.int (Int32.ofInt o.1))) w1) : wp (d + 9) 140 0 (lv_args 0 [.ref 0]) [] w P := by
  show wp _ 140 0 [(0, .ref 0)] [] w _
  unfold xf_findSo at hx
  refine wp_g 4 (pc1 := 4) (lv1 := [(2, .int (Int32.ofInt 0)), (1, .int (Int32.ofInt 0)), (0, .ref 0)]) (st1 := []) (w1 := w) rfl ?_
  refine wp_lv (lv1 := [(0, .ref 0), (1, .int (Int32.ofInt 0)), (2, .int (Int32.ofInt 0))]) (lsub_p [2, 1, 0] rfl rfl rfl) ?_
  obtain ⟨q1, e2, hx⟩ := bd hx
  refine wp_lp (σ := Int × Int × Hp) (ρ := (Int × Int × Hp)) (B := fun q => xf_findSo_b4 ln rs q.2.2 q.1 q.2.1) (R := fun q w' => Rw sh w0 q.2.2 w') (C := fun r => ∀ w1, Rw sh w0 r.2.2 w1 → wp (d + 9) 140 56 [(0, .ref 0), (1, .int (Int32.ofInt r.1)), (2, .int (Int32.ofInt r.2.1))] [] w1 P) (lv := fun q => [(0, .ref 0), (1, .int (Int32.ofInt q.1)), (2, .int (Int32.ofInt q.2.1))]) (hd := 4) (fun q w' o hR hb kn kc => xf_findSo_b4_ok hS hG hR hb kn kc) _ _ _ e2 h ?_
  intro w3 h4
  show wp _ 140 56 [(0, .ref 0), (1, .int (Int32.ofInt q1.1)), (2, .int (Int32.ofInt q1.2.1))] [] w3 _
  refine wp_g 1 (pc1 := 57) (lv1 := [(0, .ref 0), (1, .int (Int32.ofInt q1.1)), (2, .int (Int32.ofInt q1.2.1))]) (st1 := [.int (Int32.ofInt q1.1)]) (w1 := w3) rfl ?_
  refine wp_rt (i := .ireturn) (r := some (.int (Int32.ofInt q1.1))) (ln := 1) (a := 0) (b := 0) (z := 0) (by decide +kernel) rfl (ret_ok (by decide +kernel)) ?_
  cases hx
  exact kr _ h4
noncomputable def xf_ruled_b38 (ln : Nat → Nat) (rs : Nat → Int) (s : Hp) (x3 : Int) : Option (Int ⊕ (Int ⊕ (Int × Hp))) :=
  if w32 (s 0 4) < w32 x3 then some (.inr (.inl x3)) else if w32 x3 < w32 7 then (ix 7 x3).bind fun i3 => if w32 (s 144 i3) = 0 then some (.inl (x3 + 1)) else some (.inr (.inr (x3 - 1, s))) else some (.inr (.inl x3))
set_option maxRecDepth 100000 in
theorem xf_ruled_b38_ok {d : Nat} {P : Option Value → pm_H → Prop} {w : pm_H} {sh : Shp} {w0 : pm_H} {s : Hp} (hS : St sh) {ln : Nat → Nat} {rs : Nat → Int} (hG : ∀ i, okR ln sh (rs i)) {x3 : Int} (h : Rw sh w0 s w) {o : (Int ⊕ (Int ⊕ (Int × Hp)))} (hx : xf_ruled_b38 ln rs s x3 = some o) (kn : ∀ (q : Int) w1, o = .inl q → w = w1 → wp (d + 10) 131 38 [(0, .ref 0), (3, .int (Int32.ofInt q))] [] w1 P) (kc : ∀ (r : (Int ⊕ (Int × Hp))), o = .inr r → ((∀ q1 w1, r = .inl q1 → w = w1 → wp (d + 10) 131 74 [(0, .ref 0), (3, .int (Int32.ofInt q1))] [] w1 P) ∧ (∀ v1 w1, r = .inr v1 → Rw sh w0 v1.2 w1 → P (some (.int (Int32.ofInt v1.1))) w1))) : wp (d + 10) 131 38 [(0, .ref 0), (3, .int (Int32.ofInt x3))] [] w P := by
  unfold xf_ruled_b38 at hx
  refine wp_g 2 (pc1 := 40) (lv1 := [(0, .ref 0), (3, .int (Int32.ofInt x3))]) (st1 := [.ref 0, .int (Int32.ofInt x3)]) (w1 := w) rfl ?_
  refine wx_gi (kf := 36) (ln := 3) (ci := 11) (b := 4) (zz := 0) (x := 0) (by decide +kernel) h (hS _ _ sx_0) rfl ?_
  show wp _ 131 43 [(0, .ref 0), (3, .int (Int32.ofInt x3))] [.int (Int32.ofInt (s 0 4)), .int (Int32.ofInt x3)] w _
  refine wx_gt (oo := 31) (ln := 3) (a := 74) (b := 0) (zz := 0) (by decide +kernel) (fun h1 => ?_) (fun h1 => ?_)
  · have hx := ite_t h1 hx
    cases hx
    exact (kc _ rfl).1 _ _ rfl rfl
  · have hx := ite_f h1 hx
    refine wp_g 2 (pc1 := 48) (lv1 := [(0, .ref 0), (3, .int (Int32.ofInt x3))]) (st1 := [.ref 0, .int (Int32.ofInt x3)]) (w1 := w) rfl ?_
    refine wx_gr (o := 144) (kf := 86) (ln := 3) (ci := 11) (b := 12) (zz := 0) (x := 0) (by decide +kernel) h (hS _ _ sx_0) rfl ?_
    show wp _ 131 51 [(0, .ref 0), (3, .int (Int32.ofInt x3))] [.ref 144, .int (Int32.ofInt x3)] w _
    refine wx_ln (n := 7) (t := 3) (ln := 1) (a := 0) (b := 0) (zz := 0) (by decide +kernel) h (hS _ _ sx_144) ?_
    show wp _ 131 52 [(0, .ref 0), (3, .int (Int32.ofInt x3))] [.int (Int32.ofInt 7), .int (Int32.ofInt x3)] w _
    refine wx_ge (oo := 22) (ln := 3) (a := 74) (b := 0) (zz := 0) (by decide +kernel) (fun h2 => ?_) (fun h2 => ?_)
    · have hx := ite_f h2 hx
      cases hx
      exact (kc _ rfl).1 _ _ rfl rfl
    · have hx := ite_t h2 hx
      refine wp_g 1 (pc1 := 56) (lv1 := [(0, .ref 0), (3, .int (Int32.ofInt x3))]) (st1 := [.ref 0]) (w1 := w) rfl ?_
      refine wx_gr (o := 144) (kf := 86) (ln := 3) (ci := 11) (b := 12) (zz := 0) (x := 0) (by decide +kernel) h (hS _ _ sx_0) rfl ?_
      show wp _ 131 59 [(0, .ref 0), (3, .int (Int32.ofInt x3))] [.ref 144] w _
      refine wp_g 1 (pc1 := 60) (lv1 := [(0, .ref 0), (3, .int (Int32.ofInt x3))]) (st1 := [.int (Int32.ofInt x3), .ref 144]) (w1 := w) rfl ?_
      obtain ⟨i3, e4, hx⟩ := bd hx
      refine wx_rz (x := 144) (n := 7) (ln := 1) (a := 0) (b := 0) (zz := 0) (by decide +kernel) h (hS _ _ sx_144) e4 ?_
      show wp _ 131 61 [(0, .ref 0), (3, .int (Int32.ofInt x3))] [.int (Int32.ofInt (s 144 i3))] w _
      refine wz_eq (oo := 7) (ln := 3) (a := 68) (b := 0) (zz := 0) (by decide +kernel) (fun h5 => ?_) (fun h5 => ?_)
      · have hx := ite_t h5 hx
        refine wp_g 2 (pc1 := 38) (lv1 := [(3, .int (Int32.ofInt (x3 + 1))), (0, .ref 0)]) (st1 := []) (w1 := w) (by simp only [Int32.ofInt_add, Int32.ofInt_sub, Int32.ofInt_mul, Int32.ofInt_neg, p_and, p_or, p_xor, p_shl, p_shr, p_usr, p_w8, p_c16, p_lI, q_and, q_or, q_shl, q_shr, q_w32, Int64.ofInt_add, Int64.ofInt_sub, Int64.ofInt_mul, p_mx, p_mn, q_mx, q_mn]; rfl) ?_
        refine wp_lv (lv1 := [(0, .ref 0), (3, .int (Int32.ofInt (x3 + 1)))]) (lsub_p [1, 0] rfl rfl rfl) ?_
        cases hx
        exact kn _ _ rfl rfl
      · have hx := ite_f h5 hx
        refine wp_g 3 (pc1 := 67) (lv1 := [(0, .ref 0), (3, .int (Int32.ofInt x3))]) (st1 := [.int (Int32.ofInt (x3 - 1))]) (w1 := w) (by simp only [Int32.ofInt_add, Int32.ofInt_sub, Int32.ofInt_mul, Int32.ofInt_neg, p_and, p_or, p_xor, p_shl, p_shr, p_usr, p_w8, p_c16, p_lI, q_and, q_or, q_shl, q_shr, q_w32, Int64.ofInt_add, Int64.ofInt_sub, Int64.ofInt_mul, p_mx, p_mn, q_mx, q_mn]; rfl) ?_
        refine wp_rt (i := .ireturn) (r := some (.int (Int32.ofInt (x3 - 1)))) (ln := 1) (a := 0) (b := 0) (z := 0) (by decide +kernel) rfl (ret_ok (by decide +kernel)) ?_
        cases hx
        exact (kc _ rfl).2 _ _ rfl h
/-- FoldDeeds.ruled (I)I -/
noncomputable def xf_ruled (ln : Nat → Nat) (rs : Nat → Int) (s : Hp) (p1 : Int) : Option (Int × Hp) :=
  if w32 p1 < 0 then some ((-3), s) else if w32 1 < w32 p1 then some ((-3), s) else if w32 (s 17 0) = 0 then some ((-3), s) else (xf_findSo ln rs s).bind fun o4 => if w32 p1 = 0 then some (o4.1, o4.2) else (lp (fun (q : Int) => xf_ruled_b38 ln rs o4.2 q) 0).bind fun q9 => q9.elim (fun q13 => some ((-2), o4.2)) (fun r => some r)
set_option maxRecDepth 100000 in
theorem xf_ruled_ok {d : Nat} {P : Option Value → pm_H → Prop} {w : pm_H} {sh : Shp} {w0 : pm_H} {s : Hp} (hS : St sh) {ln : Nat → Nat} {rs : Nat → Int} (hG : ∀ i, okR ln sh (rs i)) {p1 : Int} (h : Rw sh w0 s w) {o : Int × Hp} (hx : xf_ruled ln rs s p1 = some o) (kr : ∀ w1, Rw sh w0 o.2 w1 → P (some (.int (Int32.ofInt o.1))) w1) : wp (d + 10) 131 0 (lv_args 0 [.ref 0, .int (Int32.ofInt p1)]) [] w P := by
  show wp _ 131 0 [(0, .ref 0), (1, .int (Int32.ofInt p1))] [] w _
  unfold xf_ruled at hx
  refine wp_g 1 (pc1 := 1) (lv1 := [(0, .ref 0), (1, .int (Int32.ofInt p1))]) (st1 := [.int (Int32.ofInt p1)]) (w1 := w) rfl ?_
  refine wz_lt (oo := 21) (ln := 3) (a := 22) (b := 0) (zz := 0) (by decide +kernel) (fun h1 => ?_) (fun h1 => ?_)
  · have hx := ite_t h1 hx
    refine wp_g 1 (pc1 := 24) (lv1 := [(0, .ref 0), (1, .int (Int32.ofInt p1))]) (st1 := [.int (Int32.ofInt (-3))]) (w1 := w) rfl ?_
    refine wp_rt (i := .ireturn) (r := some (.int (Int32.ofInt (-3)))) (ln := 1) (a := 0) (b := 0) (z := 0) (by decide +kernel) rfl (ret_ok (by decide +kernel)) ?_
    cases hx
    exact kr _ h
  · have hx := ite_f h1 hx
    refine wp_g 2 (pc1 := 6) (lv1 := [(0, .ref 0), (1, .int (Int32.ofInt p1))]) (st1 := [.int (Int32.ofInt 1), .int (Int32.ofInt p1)]) (w1 := w) rfl ?_
    refine wx_gt (oo := 16) (ln := 3) (a := 22) (b := 0) (zz := 0) (by decide +kernel) (fun h2 => ?_) (fun h2 => ?_)
    · have hx := ite_t h2 hx
      refine wp_g 1 (pc1 := 24) (lv1 := [(0, .ref 0), (1, .int (Int32.ofInt p1))]) (st1 := [.int (Int32.ofInt (-3))]) (w1 := w) rfl ?_
      refine wp_rt (i := .ireturn) (r := some (.int (Int32.ofInt (-3)))) (ln := 1) (a := 0) (b := 0) (z := 0) (by decide +kernel) rfl (ret_ok (by decide +kernel)) ?_
      cases hx
      exact kr _ h
    · have hx := ite_f h2 hx
      refine wp_g 1 (pc1 := 10) (lv1 := [(0, .ref 0), (1, .int (Int32.ofInt p1))]) (st1 := [.ref 0]) (w1 := w) rfl ?_
      refine wx_gr (o := 16) (kf := 43) (ln := 3) (ci := 11) (b := 5) (zz := 0) (x := 0) (by decide +kernel) h (hS _ _ sx_0) rfl ?_
      show wp _ 131 13 [(0, .ref 0), (1, .int (Int32.ofInt p1))] [.ref 16] w _
      refine wx_gr (o := 1) (kf := 116) (ln := 3) (ci := 7) (b := 0) (zz := 0) (x := 16) (by decide +kernel) h (hS _ _ sx_16) rfl ?_
      show wp _ 131 16 [(0, .ref 0), (1, .int (Int32.ofInt p1))] [.ref 17] w _
      refine wx_gi (kf := 119) (ln := 3) (ci := 0) (b := 0) (zz := 0) (x := 17) (by decide +kernel) h (hS _ _ sx_17) rfl ?_
      show wp _ 131 19 [(0, .ref 0), (1, .int (Int32.ofInt p1))] [.int (Int32.ofInt (s 17 0))] w _
      refine wz_ne (oo := 6) (ln := 3) (a := 25) (b := 0) (zz := 0) (by decide +kernel) (fun h3 => ?_) (fun h3 => ?_)
      · have hx := ite_f h3 hx
        refine wp_g 1 (pc1 := 26) (lv1 := [(0, .ref 0), (1, .int (Int32.ofInt p1))]) (st1 := [.ref 0]) (w1 := w) rfl ?_
        obtain ⟨o4, e5, hx⟩ := bd hx
        refine wp_cl [.ref 0] [] (i := .invokevirtual 259) (ln := 3) (a := 140) (b := 0) (z := 0) (by decide +kernel) rfl rfl (by decide) rfl (show (1 : Nat) = pm_na 140 by decide +kernel) (Nat.le_of_ble_eq_true rfl) (show (1 : Nat) ≤ pm_n 140 by decide +kernel) (rcv_x 11 h (hS _ _ sx_0) (by decide +kernel)) (xf_findSo_ok (d := d) hS hG h e5 (fun w6 h7 => ?_))
        show wp _ 131 29 [(0, .ref 0), (1, .int (Int32.ofInt p1))] [.int (Int32.ofInt o4.1)] w6 _
        refine wp_g 2 (pc1 := 31) (lv1 := [(2, .int (Int32.ofInt o4.1)), (0, .ref 0), (1, .int (Int32.ofInt p1))]) (st1 := [.int (Int32.ofInt p1)]) (w1 := w6) rfl ?_
        refine wz_ne (oo := 5) (ln := 3) (a := 36) (b := 0) (zz := 0) (by decide +kernel) (fun h8 => ?_) (fun h8 => ?_)
        · have hx := ite_f h8 hx
          refine wp_g 2 (pc1 := 38) (lv1 := [(3, .int (Int32.ofInt 0)), (2, .int (Int32.ofInt o4.1)), (0, .ref 0), (1, .int (Int32.ofInt p1))]) (st1 := []) (w1 := w6) rfl ?_
          refine wp_lv (lv1 := [(0, .ref 0), (3, .int (Int32.ofInt 0))]) (lsub_p [2, 0] rfl rfl rfl) ?_
          obtain ⟨q9, e10, hx⟩ := bd hx
          refine wp_lp (σ := Int) (ρ := (Int ⊕ (Int × Hp))) (B := fun q => xf_ruled_b38 ln rs o4.2 q) (R := fun q w' => w6 = w') (C := fun r => (∀ q1 w1, r = .inl q1 → w6 = w1 → wp (d + 10) 131 74 [(0, .ref 0), (3, .int (Int32.ofInt q1))] [] w1 P) ∧ (∀ v1 w1, r = .inr v1 → Rw sh w0 v1.2 w1 → P (some (.int (Int32.ofInt v1.1))) w1)) (lv := fun q => [(0, .ref 0), (3, .int (Int32.ofInt q))]) (hd := 38) (fun q w' o hR hb kn kc => by subst hR; exact xf_ruled_b38_ok hS hG h7 hb kn kc) _ _ _ e10 rfl ?_
          refine ⟨?_, fun v14 w1 hs h1 => by subst hs; cases (se_r hx); exact kr _ h1⟩
          intro q13 w11 hs h12
          subst hs
          replace hx := se_l hx
          subst h12
          show wp _ 131 74 [(0, .ref 0), (3, .int (Int32.ofInt q13))] [] w6 _
          refine wp_g 1 (pc1 := 76) (lv1 := [(0, .ref 0), (3, .int (Int32.ofInt q13))]) (st1 := [.int (Int32.ofInt (-2))]) (w1 := w6) rfl ?_
          refine wp_rt (i := .ireturn) (r := some (.int (Int32.ofInt (-2)))) (ln := 1) (a := 0) (b := 0) (z := 0) (by decide +kernel) rfl (ret_ok (by decide +kernel)) ?_
          cases hx
          exact kr _ h7
        · have hx := ite_t h8 hx
          refine wp_g 1 (pc1 := 35) (lv1 := [(2, .int (Int32.ofInt o4.1)), (0, .ref 0), (1, .int (Int32.ofInt p1))]) (st1 := [.int (Int32.ofInt o4.1)]) (w1 := w6) rfl ?_
          refine wp_rt (i := .ireturn) (r := some (.int (Int32.ofInt o4.1))) (ln := 1) (a := 0) (b := 0) (z := 0) (by decide +kernel) rfl (ret_ok (by decide +kernel)) ?_
          cases hx
          exact kr _ h7
      · have hx := ite_t h3 hx
        refine wp_g 1 (pc1 := 24) (lv1 := [(0, .ref 0), (1, .int (Int32.ofInt p1))]) (st1 := [.int (Int32.ofInt (-3))]) (w1 := w) rfl ?_
        refine wp_rt (i := .ireturn) (r := some (.int (Int32.ofInt (-3)))) (ln := 1) (a := 0) (b := 0) (z := 0) (by decide +kernel) rfl (ret_ok (by decide +kernel)) ?_
        cases hx
        exact kr _ h
noncomputable def xf_alikeUpTo_b4 (s : Hp) (x1 : Int) (x2 : Int) (x3 : Int) : Option ((Int × Int) ⊕ (Int × Int)) :=
  if w32 x1 < w32 x3 then some (.inr (x2, x3)) else (ix 7 x3).bind fun i2 => if w32 (s 144 i2) = 0 then some (.inl (x2, x3 + 1)) else (ix 7 x1).bind fun i5 => if w32 (s 145 i2) = w32 (s 145 i5) then some (.inl (x2 + 1, x3 + 1)) else some (.inl (x2, x3 + 1))
set_option maxRecDepth 100000 in
theorem xf_alikeUpTo_b4_ok {d : Nat} {P : Option Value → pm_H → Prop} {w : pm_H} {sh : Shp} {w0 : pm_H} {s : Hp} (hS : St sh) {x1 : Int} {x2 : Int} {x3 : Int} (h : Rw sh w0 s w) {o : ((Int × Int) ⊕ (Int × Int))} (hx : xf_alikeUpTo_b4 s x1 x2 x3 = some o) (kn : ∀ (q : Int × Int) w1, o = .inl q → w = w1 → wp d 143 4 [(0, .ref 0), (1, .int (Int32.ofInt x1)), (2, .int (Int32.ofInt q.1)), (3, .int (Int32.ofInt q.2))] [] w1 P) (kc : ∀ (r : (Int × Int)), o = .inr r → (∀ w1, w = w1 → wp d 143 42 [(0, .ref 0), (1, .int (Int32.ofInt x1)), (2, .int (Int32.ofInt r.1)), (3, .int (Int32.ofInt r.2))] [] w1 P)) : wp d 143 4 [(0, .ref 0), (1, .int (Int32.ofInt x1)), (2, .int (Int32.ofInt x2)), (3, .int (Int32.ofInt x3))] [] w P := by
  unfold xf_alikeUpTo_b4 at hx
  refine wp_g 2 (pc1 := 6) (lv1 := [(0, .ref 0), (1, .int (Int32.ofInt x1)), (2, .int (Int32.ofInt x2)), (3, .int (Int32.ofInt x3))]) (st1 := [.int (Int32.ofInt x1), .int (Int32.ofInt x3)]) (w1 := w) rfl ?_
  refine wx_gt (oo := 36) (ln := 3) (a := 42) (b := 0) (zz := 0) (by decide +kernel) (fun h1 => ?_) (fun h1 => ?_)
  · have hx := ite_t h1 hx
    cases hx
    exact kc _ rfl _ rfl
  · have hx := ite_f h1 hx
    refine wp_g 1 (pc1 := 10) (lv1 := [(0, .ref 0), (1, .int (Int32.ofInt x1)), (2, .int (Int32.ofInt x2)), (3, .int (Int32.ofInt x3))]) (st1 := [.ref 0]) (w1 := w) rfl ?_
    refine wx_gr (o := 144) (kf := 86) (ln := 3) (ci := 11) (b := 12) (zz := 0) (x := 0) (by decide +kernel) h (hS _ _ sx_0) rfl ?_
    show wp _ 143 13 [(0, .ref 0), (1, .int (Int32.ofInt x1)), (2, .int (Int32.ofInt x2)), (3, .int (Int32.ofInt x3))] [.ref 144] w _
    refine wp_g 1 (pc1 := 14) (lv1 := [(0, .ref 0), (1, .int (Int32.ofInt x1)), (2, .int (Int32.ofInt x2)), (3, .int (Int32.ofInt x3))]) (st1 := [.int (Int32.ofInt x3), .ref 144]) (w1 := w) rfl ?_
    obtain ⟨i2, e3, hx⟩ := bd hx
    refine wx_rz (x := 144) (n := 7) (ln := 1) (a := 0) (b := 0) (zz := 0) (by decide +kernel) h (hS _ _ sx_144) e3 ?_
    show wp _ 143 15 [(0, .ref 0), (1, .int (Int32.ofInt x1)), (2, .int (Int32.ofInt x2)), (3, .int (Int32.ofInt x3))] [.int (Int32.ofInt (s 144 i2))] w _
    refine wz_eq (oo := 21) (ln := 3) (a := 36) (b := 0) (zz := 0) (by decide +kernel) (fun h4 => ?_) (fun h4 => ?_)
    · have hx := ite_t h4 hx
      refine wp_g 2 (pc1 := 4) (lv1 := [(3, .int (Int32.ofInt (x3 + 1))), (0, .ref 0), (1, .int (Int32.ofInt x1)), (2, .int (Int32.ofInt x2))]) (st1 := []) (w1 := w) (by simp only [Int32.ofInt_add, Int32.ofInt_sub, Int32.ofInt_mul, Int32.ofInt_neg, p_and, p_or, p_xor, p_shl, p_shr, p_usr, p_w8, p_c16, p_lI, q_and, q_or, q_shl, q_shr, q_w32, Int64.ofInt_add, Int64.ofInt_sub, Int64.ofInt_mul, p_mx, p_mn, q_mx, q_mn]; rfl) ?_
      refine wp_lv (lv1 := [(0, .ref 0), (1, .int (Int32.ofInt x1)), (2, .int (Int32.ofInt x2)), (3, .int (Int32.ofInt (x3 + 1)))]) (lsub_p [1, 2, 3, 0] rfl rfl rfl) ?_
      cases hx
      exact kn _ _ rfl rfl
    · have hx := ite_f h4 hx
      refine wp_g 1 (pc1 := 19) (lv1 := [(0, .ref 0), (1, .int (Int32.ofInt x1)), (2, .int (Int32.ofInt x2)), (3, .int (Int32.ofInt x3))]) (st1 := [.ref 0]) (w1 := w) rfl ?_
      refine wx_gr (o := 145) (kf := 90) (ln := 3) (ci := 11) (b := 13) (zz := 0) (x := 0) (by decide +kernel) h (hS _ _ sx_0) rfl ?_
      show wp _ 143 22 [(0, .ref 0), (1, .int (Int32.ofInt x1)), (2, .int (Int32.ofInt x2)), (3, .int (Int32.ofInt x3))] [.ref 145] w _
      refine wp_g 1 (pc1 := 23) (lv1 := [(0, .ref 0), (1, .int (Int32.ofInt x1)), (2, .int (Int32.ofInt x2)), (3, .int (Int32.ofInt x3))]) (st1 := [.int (Int32.ofInt x3), .ref 145]) (w1 := w) rfl ?_
      refine wx_ra (x := 145) (n := 7) (ln := 1) (a := 0) (b := 0) (zz := 0) (by decide +kernel) h (hS _ _ sx_145) e3 ?_
      show wp _ 143 24 [(0, .ref 0), (1, .int (Int32.ofInt x1)), (2, .int (Int32.ofInt x2)), (3, .int (Int32.ofInt x3))] [.int (Int32.ofInt (s 145 i2))] w _
      refine wp_g 1 (pc1 := 25) (lv1 := [(0, .ref 0), (1, .int (Int32.ofInt x1)), (2, .int (Int32.ofInt x2)), (3, .int (Int32.ofInt x3))]) (st1 := [.ref 0, .int (Int32.ofInt (s 145 i2))]) (w1 := w) rfl ?_
      refine wx_gr (o := 145) (kf := 90) (ln := 3) (ci := 11) (b := 13) (zz := 0) (x := 0) (by decide +kernel) h (hS _ _ sx_0) rfl ?_
      show wp _ 143 28 [(0, .ref 0), (1, .int (Int32.ofInt x1)), (2, .int (Int32.ofInt x2)), (3, .int (Int32.ofInt x3))] [.ref 145, .int (Int32.ofInt (s 145 i2))] w _
      refine wp_g 1 (pc1 := 29) (lv1 := [(0, .ref 0), (1, .int (Int32.ofInt x1)), (2, .int (Int32.ofInt x2)), (3, .int (Int32.ofInt x3))]) (st1 := [.int (Int32.ofInt x1), .ref 145, .int (Int32.ofInt (s 145 i2))]) (w1 := w) rfl ?_
      obtain ⟨i5, e6, hx⟩ := bd hx
      refine wx_ra (x := 145) (n := 7) (ln := 1) (a := 0) (b := 0) (zz := 0) (by decide +kernel) h (hS _ _ sx_145) e6 ?_
      show wp _ 143 30 [(0, .ref 0), (1, .int (Int32.ofInt x1)), (2, .int (Int32.ofInt x2)), (3, .int (Int32.ofInt x3))] [.int (Int32.ofInt (s 145 i5)), .int (Int32.ofInt (s 145 i2))] w _
      refine wx_ne (oo := 6) (ln := 3) (a := 36) (b := 0) (zz := 0) (by decide +kernel) (fun h7 => ?_) (fun h7 => ?_)
      · have hx := ite_f h7 hx
        refine wp_g 2 (pc1 := 4) (lv1 := [(3, .int (Int32.ofInt (x3 + 1))), (0, .ref 0), (1, .int (Int32.ofInt x1)), (2, .int (Int32.ofInt x2))]) (st1 := []) (w1 := w) (by simp only [Int32.ofInt_add, Int32.ofInt_sub, Int32.ofInt_mul, Int32.ofInt_neg, p_and, p_or, p_xor, p_shl, p_shr, p_usr, p_w8, p_c16, p_lI, q_and, q_or, q_shl, q_shr, q_w32, Int64.ofInt_add, Int64.ofInt_sub, Int64.ofInt_mul, p_mx, p_mn, q_mx, q_mn]; rfl) ?_
        refine wp_lv (lv1 := [(0, .ref 0), (1, .int (Int32.ofInt x1)), (2, .int (Int32.ofInt x2)), (3, .int (Int32.ofInt (x3 + 1)))]) (lsub_p [1, 2, 3, 0] rfl rfl rfl) ?_
        cases hx
        exact kn _ _ rfl rfl
      · have hx := ite_t h7 hx
        refine wp_g 3 (pc1 := 4) (lv1 := [(3, .int (Int32.ofInt (x3 + 1))), (2, .int (Int32.ofInt (x2 + 1))), (0, .ref 0), (1, .int (Int32.ofInt x1))]) (st1 := []) (w1 := w) (by simp only [Int32.ofInt_add, Int32.ofInt_sub, Int32.ofInt_mul, Int32.ofInt_neg, p_and, p_or, p_xor, p_shl, p_shr, p_usr, p_w8, p_c16, p_lI, q_and, q_or, q_shl, q_shr, q_w32, Int64.ofInt_add, Int64.ofInt_sub, Int64.ofInt_mul, p_mx, p_mn, q_mx, q_mn]; rfl) ?_
        refine wp_lv (lv1 := [(0, .ref 0), (1, .int (Int32.ofInt x1)), (2, .int (Int32.ofInt (x2 + 1))), (3, .int (Int32.ofInt (x3 + 1)))]) (lsub_p [2, 3, 1, 0] rfl rfl rfl) ?_
        cases hx
        exact kn _ _ rfl rfl
/-- FoldDeeds.alikeUpTo (I)I -/
noncomputable def xf_alikeUpTo (s : Hp) (p1 : Int) : Option Int :=
  (lp (fun (q : Int × Int) => xf_alikeUpTo_b4 s p1 q.1 q.2) (0, 0)).bind fun q1 => some q1.1
set_option maxRecDepth 100000 in
theorem xf_alikeUpTo_ok {d : Nat} {P : Option Value → pm_H → Prop} {w : pm_H} {sh : Shp} {w0 : pm_H} {s : Hp} (hS : St sh) {p1 : Int} (h : Rw sh w0 s w) {o : Int} (hx : xf_alikeUpTo s p1 = some o) (kr : P (some (.int (Int32.ofInt o))) w) : wp d 143 0 (lv_args 0 [.ref 0, .int (Int32.ofInt p1)]) [] w P := by
  show wp _ 143 0 [(0, .ref 0), (1, .int (Int32.ofInt p1))] [] w _
  unfold xf_alikeUpTo at hx
  refine wp_g 4 (pc1 := 4) (lv1 := [(3, .int (Int32.ofInt 0)), (2, .int (Int32.ofInt 0)), (0, .ref 0), (1, .int (Int32.ofInt p1))]) (st1 := []) (w1 := w) rfl ?_
  refine wp_lv (lv1 := [(0, .ref 0), (1, .int (Int32.ofInt p1)), (2, .int (Int32.ofInt 0)), (3, .int (Int32.ofInt 0))]) (lsub_p [2, 3, 1, 0] rfl rfl rfl) ?_
  obtain ⟨q1, e2, hx⟩ := bd hx
  refine wp_lp (σ := Int × Int) (ρ := (Int × Int)) (B := fun q => xf_alikeUpTo_b4 s p1 q.1 q.2) (R := fun q w' => w = w') (C := fun r => ∀ w1, w = w1 → wp d 143 42 [(0, .ref 0), (1, .int (Int32.ofInt p1)), (2, .int (Int32.ofInt r.1)), (3, .int (Int32.ofInt r.2))] [] w1 P) (lv := fun q => [(0, .ref 0), (1, .int (Int32.ofInt p1)), (2, .int (Int32.ofInt q.1)), (3, .int (Int32.ofInt q.2))]) (hd := 4) (fun q w' o hR hb kn kc => by subst hR; exact xf_alikeUpTo_b4_ok hS h hb kn kc) _ _ _ e2 rfl ?_
  intro w3 h4
  subst h4
  show wp _ 143 42 [(0, .ref 0), (1, .int (Int32.ofInt p1)), (2, .int (Int32.ofInt q1.1)), (3, .int (Int32.ofInt q1.2))] [] w _
  refine wp_g 1 (pc1 := 43) (lv1 := [(0, .ref 0), (1, .int (Int32.ofInt p1)), (2, .int (Int32.ofInt q1.1)), (3, .int (Int32.ofInt q1.2))]) (st1 := [.int (Int32.ofInt q1.1)]) (w1 := w) rfl ?_
  refine wp_rt (i := .ireturn) (r := some (.int (Int32.ofInt q1.1))) (ln := 1) (a := 0) (b := 0) (z := 0) (by decide +kernel) rfl (ret_ok (by decide +kernel)) ?_
  cases hx
  exact kr
noncomputable def xf_alikeAt_b4 (ln : Nat → Nat) (rs : Nat → Int) (s : Hp) (x1 : Int) (x2 : Int) (x3 : Int) : Option ((Int × Int × Hp) ⊕ (Int × Int × Hp)) :=
  if w32 (s 0 4) < w32 x3 then some (.inr (x2, x3, s)) else if w32 x3 < w32 7 then (ix 7 x3).bind fun i3 => if w32 (s 144 i3) = 0 then some (.inl (x2, x3 + 1, s)) else (xf_ruleOf ln rs s (x3 - 1)).bind fun o6 => (xk_quote ln rs s 26 o6 0 (4 * x1)).bind fun o11 => (some (uh o11.2 145 i3 o11.1)).bind fun s15 => (xf_alikeUpTo s15 x3).bind fun o19 => some (.inl (mxI x2 o19, x3 + 1, s15)) else some (.inr (x2, x3, s))
set_option maxRecDepth 100000 in
theorem xf_alikeAt_b4_ok {d : Nat} {P : Option Value → pm_H → Prop} {w : pm_H} {sh : Shp} {w0 : pm_H} {s : Hp} (hS : St sh) {ln : Nat → Nat} {rs : Nat → Int} (hG : ∀ i, okR ln sh (rs i)) {x1 : Int} {x2 : Int} {x3 : Int} (h : Rw sh w0 s w) {o : ((Int × Int × Hp) ⊕ (Int × Int × Hp))} (hx : xf_alikeAt_b4 ln rs s x1 x2 x3 = some o) (kn : ∀ (q : Int × Int × Hp) w1, o = .inl q → Rw sh w0 q.2.2 w1 → wp (d + 8) 142 4 [(0, .ref 0), (1, .int (Int32.ofInt x1)), (2, .int (Int32.ofInt q.1)), (3, .int (Int32.ofInt q.2.1))] [] w1 P) (kc : ∀ (r : (Int × Int × Hp)), o = .inr r → (∀ w1, Rw sh w0 r.2.2 w1 → wp (d + 8) 142 77 [(0, .ref 0), (1, .int (Int32.ofInt x1)), (2, .int (Int32.ofInt r.1)), (3, .int (Int32.ofInt r.2.1))] [] w1 P)) : wp (d + 8) 142 4 [(0, .ref 0), (1, .int (Int32.ofInt x1)), (2, .int (Int32.ofInt x2)), (3, .int (Int32.ofInt x3))] [] w P := by
  unfold xf_alikeAt_b4 at hx
  refine wp_g 2 (pc1 := 6) (lv1 := [(0, .ref 0), (1, .int (Int32.ofInt x1)), (2, .int (Int32.ofInt x2)), (3, .int (Int32.ofInt x3))]) (st1 := [.ref 0, .int (Int32.ofInt x3)]) (w1 := w) rfl ?_
  refine wx_gi (kf := 36) (ln := 3) (ci := 11) (b := 4) (zz := 0) (x := 0) (by decide +kernel) h (hS _ _ sx_0) rfl ?_
  show wp _ 142 9 [(0, .ref 0), (1, .int (Int32.ofInt x1)), (2, .int (Int32.ofInt x2)), (3, .int (Int32.ofInt x3))] [.int (Int32.ofInt (s 0 4)), .int (Int32.ofInt x3)] w _
  refine wx_gt (oo := 68) (ln := 3) (a := 77) (b := 0) (zz := 0) (by decide +kernel) (fun h1 => ?_) (fun h1 => ?_)
  · have hx := ite_t h1 hx
    cases hx
    exact kc _ rfl _ h
  · have hx := ite_f h1 hx
    refine wp_g 2 (pc1 := 14) (lv1 := [(0, .ref 0), (1, .int (Int32.ofInt x1)), (2, .int (Int32.ofInt x2)), (3, .int (Int32.ofInt x3))]) (st1 := [.ref 0, .int (Int32.ofInt x3)]) (w1 := w) rfl ?_
    refine wx_gr (o := 144) (kf := 86) (ln := 3) (ci := 11) (b := 12) (zz := 0) (x := 0) (by decide +kernel) h (hS _ _ sx_0) rfl ?_
    show wp _ 142 17 [(0, .ref 0), (1, .int (Int32.ofInt x1)), (2, .int (Int32.ofInt x2)), (3, .int (Int32.ofInt x3))] [.ref 144, .int (Int32.ofInt x3)] w _
    refine wx_ln (n := 7) (t := 3) (ln := 1) (a := 0) (b := 0) (zz := 0) (by decide +kernel) h (hS _ _ sx_144) ?_
    show wp _ 142 18 [(0, .ref 0), (1, .int (Int32.ofInt x1)), (2, .int (Int32.ofInt x2)), (3, .int (Int32.ofInt x3))] [.int (Int32.ofInt 7), .int (Int32.ofInt x3)] w _
    refine wx_ge (oo := 59) (ln := 3) (a := 77) (b := 0) (zz := 0) (by decide +kernel) (fun h2 => ?_) (fun h2 => ?_)
    · have hx := ite_f h2 hx
      cases hx
      exact kc _ rfl _ h
    · have hx := ite_t h2 hx
      refine wp_g 1 (pc1 := 22) (lv1 := [(0, .ref 0), (1, .int (Int32.ofInt x1)), (2, .int (Int32.ofInt x2)), (3, .int (Int32.ofInt x3))]) (st1 := [.ref 0]) (w1 := w) rfl ?_
      refine wx_gr (o := 144) (kf := 86) (ln := 3) (ci := 11) (b := 12) (zz := 0) (x := 0) (by decide +kernel) h (hS _ _ sx_0) rfl ?_
      show wp _ 142 25 [(0, .ref 0), (1, .int (Int32.ofInt x1)), (2, .int (Int32.ofInt x2)), (3, .int (Int32.ofInt x3))] [.ref 144] w _
      refine wp_g 1 (pc1 := 26) (lv1 := [(0, .ref 0), (1, .int (Int32.ofInt x1)), (2, .int (Int32.ofInt x2)), (3, .int (Int32.ofInt x3))]) (st1 := [.int (Int32.ofInt x3), .ref 144]) (w1 := w) rfl ?_
      obtain ⟨i3, e4, hx⟩ := bd hx
      refine wx_rz (x := 144) (n := 7) (ln := 1) (a := 0) (b := 0) (zz := 0) (by decide +kernel) h (hS _ _ sx_144) e4 ?_
      show wp _ 142 27 [(0, .ref 0), (1, .int (Int32.ofInt x1)), (2, .int (Int32.ofInt x2)), (3, .int (Int32.ofInt x3))] [.int (Int32.ofInt (s 144 i3))] w _
      refine wz_eq (oo := 44) (ln := 3) (a := 71) (b := 0) (zz := 0) (by decide +kernel) (fun h5 => ?_) (fun h5 => ?_)
      · have hx := ite_t h5 hx
        refine wp_g 2 (pc1 := 4) (lv1 := [(3, .int (Int32.ofInt (x3 + 1))), (0, .ref 0), (1, .int (Int32.ofInt x1)), (2, .int (Int32.ofInt x2))]) (st1 := []) (w1 := w) (by simp only [Int32.ofInt_add, Int32.ofInt_sub, Int32.ofInt_mul, Int32.ofInt_neg, p_and, p_or, p_xor, p_shl, p_shr, p_usr, p_w8, p_c16, p_lI, q_and, q_or, q_shl, q_shr, q_w32, Int64.ofInt_add, Int64.ofInt_sub, Int64.ofInt_mul, p_mx, p_mn, q_mx, q_mn]; rfl) ?_
        refine wp_lv (lv1 := [(0, .ref 0), (1, .int (Int32.ofInt x1)), (2, .int (Int32.ofInt x2)), (3, .int (Int32.ofInt (x3 + 1)))]) (lsub_p [1, 2, 3, 0] rfl rfl rfl) ?_
        cases hx
        exact kn _ _ rfl h
      · have hx := ite_f h5 hx
        refine wp_g 1 (pc1 := 31) (lv1 := [(0, .ref 0), (1, .int (Int32.ofInt x1)), (2, .int (Int32.ofInt x2)), (3, .int (Int32.ofInt x3))]) (st1 := [.ref 0]) (w1 := w) rfl ?_
        refine wx_gr (o := 145) (kf := 90) (ln := 3) (ci := 11) (b := 13) (zz := 0) (x := 0) (by decide +kernel) h (hS _ _ sx_0) rfl ?_
        show wp _ 142 34 [(0, .ref 0), (1, .int (Int32.ofInt x1)), (2, .int (Int32.ofInt x2)), (3, .int (Int32.ofInt x3))] [.ref 145] w _
        refine wp_g 2 (pc1 := 36) (lv1 := [(0, .ref 0), (1, .int (Int32.ofInt x1)), (2, .int (Int32.ofInt x2)), (3, .int (Int32.ofInt x3))]) (st1 := [.ref 0, .int (Int32.ofInt x3), .ref 145]) (w1 := w) rfl ?_
        refine wx_gr (o := 41) (kf := 61) (ln := 3) (ci := 11) (b := 8) (zz := 0) (x := 0) (by decide +kernel) h (hS _ _ sx_0) rfl ?_
        show wp _ 142 39 [(0, .ref 0), (1, .int (Int32.ofInt x1)), (2, .int (Int32.ofInt x2)), (3, .int (Int32.ofInt x3))] [.ref 41, .int (Int32.ofInt x3), .ref 145] w _
        refine wp_g 1 (pc1 := 40) (lv1 := [(0, .ref 0), (1, .int (Int32.ofInt x1)), (2, .int (Int32.ofInt x2)), (3, .int (Int32.ofInt x3))]) (st1 := [.ref 0, .ref 41, .int (Int32.ofInt x3), .ref 145]) (w1 := w) rfl ?_
        refine wx_gr (o := 16) (kf := 43) (ln := 3) (ci := 11) (b := 5) (zz := 0) (x := 0) (by decide +kernel) h (hS _ _ sx_0) rfl ?_
        show wp _ 142 43 [(0, .ref 0), (1, .int (Int32.ofInt x1)), (2, .int (Int32.ofInt x2)), (3, .int (Int32.ofInt x3))] [.ref 16, .ref 41, .int (Int32.ofInt x3), .ref 145] w _
        refine wx_gr (o := 10) (kf := 250) (ln := 3) (ci := 7) (b := 1) (zz := 0) (x := 16) (by decide +kernel) h (hS _ _ sx_16) rfl ?_
        show wp _ 142 46 [(0, .ref 0), (1, .int (Int32.ofInt x1)), (2, .int (Int32.ofInt x2)), (3, .int (Int32.ofInt x3))] [.ref 26, .ref 41, .int (Int32.ofInt x3), .ref 145] w _
        refine wp_g 4 (pc1 := 50) (lv1 := [(0, .ref 0), (1, .int (Int32.ofInt x1)), (2, .int (Int32.ofInt x2)), (3, .int (Int32.ofInt x3))]) (st1 := [.int (Int32.ofInt (x3 - 1)), .ref 0, .ref 26, .ref 41, .int (Int32.ofInt x3), .ref 145]) (w1 := w) (by simp only [Int32.ofInt_add, Int32.ofInt_sub, Int32.ofInt_mul, Int32.ofInt_neg, p_and, p_or, p_xor, p_shl, p_shr, p_usr, p_w8, p_c16, p_lI, q_and, q_or, q_shl, q_shr, q_w32, Int64.ofInt_add, Int64.ofInt_sub, Int64.ofInt_mul, p_mx, p_mn, q_mx, q_mn]; rfl) ?_
        obtain ⟨o6, e7, hx⟩ := bd hx
        refine wp_cl [.ref 0, .int (Int32.ofInt (x3 - 1))] [.ref 26, .ref 41, .int (Int32.ofInt x3), .ref 145] (i := .invokevirtual 293) (ln := 3) (a := 139) (b := 0) (z := 0) (by decide +kernel) rfl rfl (by decide) rfl (show (2 : Nat) = pm_na 139 by decide +kernel) (Nat.le_of_ble_eq_true rfl) (show (2 : Nat) ≤ pm_n 139 by decide +kernel) (rcv_x 11 h (hS _ _ sx_0) (by decide +kernel)) (xf_ruleOf_ok (d := d + 7) hS hG h e7 (fun h10 => ?_))
        show wp _ 142 53 [(0, .ref 0), (1, .int (Int32.ofInt x1)), (2, .int (Int32.ofInt x2)), (3, .int (Int32.ofInt x3))] [vR o6, .ref 26, .ref 41, .int (Int32.ofInt x3), .ref 145] w _
        refine wp_g 4 (pc1 := 57) (lv1 := [(0, .ref 0), (1, .int (Int32.ofInt x1)), (2, .int (Int32.ofInt x2)), (3, .int (Int32.ofInt x3))]) (st1 := [.int (Int32.ofInt (4 * x1)), .int (Int32.ofInt 0), vR o6, .ref 26, .ref 41, .int (Int32.ofInt x3), .ref 145]) (w1 := w) (by simp only [Int32.ofInt_add, Int32.ofInt_sub, Int32.ofInt_mul, Int32.ofInt_neg, p_and, p_or, p_xor, p_shl, p_shr, p_usr, p_w8, p_c16, p_lI, q_and, q_or, q_shl, q_shr, q_w32, Int64.ofInt_add, Int64.ofInt_sub, Int64.ofInt_mul, p_mx, p_mn, q_mx, q_mn]; rcases vR_c o6 with e | ⟨_, e⟩ <;> simp only [e] <;> rfl) ?_
        obtain ⟨o11, e12, hx⟩ := bd hx
        refine wp_cl [.ref 41, .ref 26, vR o6, .int (Int32.ofInt 0), .int (Int32.ofInt (4 * x1))] [.int (Int32.ofInt x3), .ref 145] (i := .invokevirtual 183) (ln := 3) (a := 36) (b := 0) (z := 0) (by decide +kernel) rfl rfl (by decide) rfl (show (5 : Nat) = pm_na 36 by decide +kernel) (Nat.le_of_ble_eq_true rfl) (by rcases vR_c o6 with e | ⟨_, e⟩ <;> simp only [e] <;> exact (show (5 : Nat) ≤ pm_n 36 by decide +kernel)) (rcv_x 3 h (hS _ _ sx_41) (by decide +kernel)) (xk_quote_ok (d := d) hS hG (okC_26 hS) h10 h e12 (fun w13 h14 => ?_))
        show wp _ 142 60 [(0, .ref 0), (1, .int (Int32.ofInt x1)), (2, .int (Int32.ofInt x2)), (3, .int (Int32.ofInt x3))] [.int (Int32.ofInt o11.1), .int (Int32.ofInt x3), .ref 145] w13 _
        obtain ⟨s15, e16, hx⟩ := bd hx
        refine wx_wa (x := 145) (n := 7) (ln := 1) (a := 0) (b := 0) (zz := 0) (by decide +kernel) h14 (hS _ _ sx_145) e4 e16 (fun w17 h18 => ?_)
        refine wp_g 3 (pc1 := 64) (lv1 := [(0, .ref 0), (1, .int (Int32.ofInt x1)), (2, .int (Int32.ofInt x2)), (3, .int (Int32.ofInt x3))]) (st1 := [.int (Int32.ofInt x3), .ref 0, .int (Int32.ofInt x2)]) (w1 := w17) rfl ?_
        obtain ⟨o19, e20, hx⟩ := bd hx
        refine wp_cl [.ref 0, .int (Int32.ofInt x3)] [.int (Int32.ofInt x2)] (i := .invokevirtual 301) (ln := 3) (a := 143) (b := 0) (z := 0) (by decide +kernel) rfl rfl (by decide) rfl (show (2 : Nat) = pm_na 143 by decide +kernel) (Nat.le_of_ble_eq_true rfl) (show (2 : Nat) ≤ pm_n 143 by decide +kernel) (rcv_x 11 h18 (hS _ _ sx_0) (by decide +kernel)) (xf_alikeUpTo_ok (d := d + 7) hS h18 e20 ?_)
        show wp _ 142 67 [(0, .ref 0), (1, .int (Int32.ofInt x1)), (2, .int (Int32.ofInt x2)), (3, .int (Int32.ofInt x3))] [.int (Int32.ofInt o19), .int (Int32.ofInt x2)] w17 _
        refine wp_lb (i := .invokestatic 304) (ln := 3) (a := 1001) (b := 9) (z := 0) (st1 := [.int (Int32.ofInt (mxI x2 o19))]) (w1 := w17) (by decide +kernel) rfl rfl (by decide) (by simp only [Int32.ofInt_add, Int32.ofInt_sub, Int32.ofInt_mul, Int32.ofInt_neg, p_and, p_or, p_xor, p_shl, p_shr, p_usr, p_w8, p_c16, p_lI, q_and, q_or, q_shl, q_shr, q_w32, Int64.ofInt_add, Int64.ofInt_sub, Int64.ofInt_mul, p_mx, p_mn, q_mx, q_mn]; rfl) (Nat.le_of_ble_eq_true rfl) (by omega) ?_
        refine wp_g 3 (pc1 := 4) (lv1 := [(3, .int (Int32.ofInt (x3 + 1))), (2, .int (Int32.ofInt (mxI x2 o19))), (0, .ref 0), (1, .int (Int32.ofInt x1))]) (st1 := []) (w1 := w17) (by simp only [Int32.ofInt_add, Int32.ofInt_sub, Int32.ofInt_mul, Int32.ofInt_neg, p_and, p_or, p_xor, p_shl, p_shr, p_usr, p_w8, p_c16, p_lI, q_and, q_or, q_shl, q_shr, q_w32, Int64.ofInt_add, Int64.ofInt_sub, Int64.ofInt_mul, p_mx, p_mn, q_mx, q_mn]; rfl) ?_
        refine wp_lv (lv1 := [(0, .ref 0), (1, .int (Int32.ofInt x1)), (2, .int (Int32.ofInt (mxI x2 o19))), (3, .int (Int32.ofInt (x3 + 1)))]) (lsub_p [2, 3, 1, 0] rfl rfl rfl) ?_
        cases hx
        exact kn _ _ rfl h18
/-- FoldDeeds.alikeAt (I)I -/
noncomputable def xf_alikeAt (ln : Nat → Nat) (rs : Nat → Int) (s : Hp) (p1 : Int) : Option (Int × Hp) :=
  (lp (fun (q : Int × Int × Hp) => xf_alikeAt_b4 ln rs q.2.2 p1 q.1 q.2.1) (0, 0, s)).bind fun q1 => some (q1.1, q1.2.2)
set_option maxRecDepth 100000 in
theorem xf_alikeAt_ok {d : Nat} {P : Option Value → pm_H → Prop} {w : pm_H} {sh : Shp} {w0 : pm_H} {s : Hp} (hS : St sh) {ln : Nat → Nat} {rs : Nat → Int} (hG : ∀ i, okR ln sh (rs i)) {p1 : Int} (h : Rw sh w0 s w) {o : Int × Hp} (hx : xf_alikeAt ln rs s p1 = some o) (kr : ∀ w1, Rw sh w0 o.2 w1 → P (some (.int (Int32.ofInt o.1))) w1) : wp (d + 8) 142 0 (lv_args 0 [.ref 0, .int (Int32.ofInt p1)]) [] w P := by
  show wp _ 142 0 [(0, .ref 0), (1, .int (Int32.ofInt p1))] [] w _
  unfold xf_alikeAt at hx
  refine wp_g 4 (pc1 := 4) (lv1 := [(3, .int (Int32.ofInt 0)), (2, .int (Int32.ofInt 0)), (0, .ref 0), (1, .int (Int32.ofInt p1))]) (st1 := []) (w1 := w) rfl ?_
  refine wp_lv (lv1 := [(0, .ref 0), (1, .int (Int32.ofInt p1)), (2, .int (Int32.ofInt 0)), (3, .int (Int32.ofInt 0))]) (lsub_p [2, 3, 1, 0] rfl rfl rfl) ?_
  obtain ⟨q1, e2, hx⟩ := bd hx
  refine wp_lp (σ := Int × Int × Hp) (ρ := (Int × Int × Hp)) (B := fun q => xf_alikeAt_b4 ln rs q.2.2 p1 q.1 q.2.1) (R := fun q w' => Rw sh w0 q.2.2 w') (C := fun r => ∀ w1, Rw sh w0 r.2.2 w1 → wp (d + 8) 142 77 [(0, .ref 0), (1, .int (Int32.ofInt p1)), (2, .int (Int32.ofInt r.1)), (3, .int (Int32.ofInt r.2.1))] [] w1 P) (lv := fun q => [(0, .ref 0), (1, .int (Int32.ofInt p1)), (2, .int (Int32.ofInt q.1)), (3, .int (Int32.ofInt q.2.1))]) (hd := 4) (fun q w' o hR hb kn kc => xf_alikeAt_b4_ok hS hG hR hb kn kc) _ _ _ e2 h ?_
  intro w3 h4
  show wp _ 142 77 [(0, .ref 0), (1, .int (Int32.ofInt p1)), (2, .int (Int32.ofInt q1.1)), (3, .int (Int32.ofInt q1.2.1))] [] w3 _
  refine wp_g 1 (pc1 := 78) (lv1 := [(0, .ref 0), (1, .int (Int32.ofInt p1)), (2, .int (Int32.ofInt q1.1)), (3, .int (Int32.ofInt q1.2.1))]) (st1 := [.int (Int32.ofInt q1.1)]) (w1 := w3) rfl ?_
  refine wp_rt (i := .ireturn) (r := some (.int (Int32.ofInt q1.1))) (ln := 1) (a := 0) (b := 0) (z := 0) (by decide +kernel) rfl (ret_ok (by decide +kernel)) ?_
  cases hx
  exact kr _ h4
noncomputable def xf_look_b59 (ln : Nat → Nat) (rs : Nat → Int) (s : Hp) (x1 : Int) (x2 : Int) (x3 : Int) (x4 : Int) : Option ((Int × Int × Int × Hp) ⊕ (Int × Int × Int × Hp)) :=
  if w32 x4 < w32 ((s 26 2) - 1) then (xf_alikeAt ln rs s x4).bind fun o2 => if w32 o2.1 < w32 x3 then some (.inl (x4, o2.1, x4 + 1, o2.2)) else some (.inl (x2, x3, x4 + 1, o2.2)) else some (.inr (x2, x3, x4, s))
set_option maxRecDepth 100000 in
theorem xf_look_b59_ok {d : Nat} {P : Option Value → pm_H → Prop} {w : pm_H} {sh : Shp} {w0 : pm_H} {s : Hp} (hS : St sh) {ln : Nat → Nat} {rs : Nat → Int} (hG : ∀ i, okR ln sh (rs i)) {x1 : Int} {x2 : Int} {x3 : Int} {x4 : Int} (h : Rw sh w0 s w) {o : ((Int × Int × Int × Hp) ⊕ (Int × Int × Int × Hp))} (hx : xf_look_b59 ln rs s x1 x2 x3 x4 = some o) (kn : ∀ (q : Int × Int × Int × Hp) w1, o = .inl q → Rw sh w0 q.2.2.2 w1 → wp (d + 10) 132 59 [(0, .ref 0), (1, .int (Int32.ofInt x1)), (2, .int (Int32.ofInt q.1)), (3, .int (Int32.ofInt q.2.1)), (4, .int (Int32.ofInt q.2.2.1))] [] w1 P) (kc : ∀ (r : (Int × Int × Int × Hp)), o = .inr r → (∀ w1, Rw sh w0 r.2.2.2 w1 → wp (d + 10) 132 102 [(0, .ref 0), (1, .int (Int32.ofInt x1)), (2, .int (Int32.ofInt r.1)), (3, .int (Int32.ofInt r.2.1)), (4, .int (Int32.ofInt r.2.2.1))] [] w1 P)) : wp (d + 10) 132 59 [(0, .ref 0), (1, .int (Int32.ofInt x1)), (2, .int (Int32.ofInt x2)), (3, .int (Int32.ofInt x3)), (4, .int (Int32.ofInt x4))] [] w P := by
  unfold xf_look_b59 at hx
  refine wp_g 2 (pc1 := 62) (lv1 := [(0, .ref 0), (1, .int (Int32.ofInt x1)), (2, .int (Int32.ofInt x2)), (3, .int (Int32.ofInt x3)), (4, .int (Int32.ofInt x4))]) (st1 := [.ref 0, .int (Int32.ofInt x4)]) (w1 := w) rfl ?_
  refine wx_gr (o := 16) (kf := 43) (ln := 3) (ci := 11) (b := 5) (zz := 0) (x := 0) (by decide +kernel) h (hS _ _ sx_0) rfl ?_
  show wp _ 132 65 [(0, .ref 0), (1, .int (Int32.ofInt x1)), (2, .int (Int32.ofInt x2)), (3, .int (Int32.ofInt x3)), (4, .int (Int32.ofInt x4))] [.ref 16, .int (Int32.ofInt x4)] w _
  refine wx_gr (o := 10) (kf := 250) (ln := 3) (ci := 7) (b := 1) (zz := 0) (x := 16) (by decide +kernel) h (hS _ _ sx_16) rfl ?_
  show wp _ 132 68 [(0, .ref 0), (1, .int (Int32.ofInt x1)), (2, .int (Int32.ofInt x2)), (3, .int (Int32.ofInt x3)), (4, .int (Int32.ofInt x4))] [.ref 26, .int (Int32.ofInt x4)] w _
  refine wx_gi (kf := 170) (ln := 3) (ci := 0) (b := 2) (zz := 0) (x := 26) (by decide +kernel) h (hS _ _ sx_26) rfl ?_
  show wp _ 132 71 [(0, .ref 0), (1, .int (Int32.ofInt x1)), (2, .int (Int32.ofInt x2)), (3, .int (Int32.ofInt x3)), (4, .int (Int32.ofInt x4))] [.int (Int32.ofInt (s 26 2)), .int (Int32.ofInt x4)] w _
  refine wp_g 2 (pc1 := 73) (lv1 := [(0, .ref 0), (1, .int (Int32.ofInt x1)), (2, .int (Int32.ofInt x2)), (3, .int (Int32.ofInt x3)), (4, .int (Int32.ofInt x4))]) (st1 := [.int (Int32.ofInt ((s 26 2) - 1)), .int (Int32.ofInt x4)]) (w1 := w) (by simp only [Int32.ofInt_add, Int32.ofInt_sub, Int32.ofInt_mul, Int32.ofInt_neg, p_and, p_or, p_xor, p_shl, p_shr, p_usr, p_w8, p_c16, p_lI, q_and, q_or, q_shl, q_shr, q_w32, Int64.ofInt_add, Int64.ofInt_sub, Int64.ofInt_mul, p_mx, p_mn, q_mx, q_mn]; rfl) ?_
  refine wx_ge (oo := 29) (ln := 3) (a := 102) (b := 0) (zz := 0) (by decide +kernel) (fun h1 => ?_) (fun h1 => ?_)
  · have hx := ite_f h1 hx
    cases hx
    exact kc _ rfl _ h
  · have hx := ite_t h1 hx
    refine wp_g 2 (pc1 := 79) (lv1 := [(0, .ref 0), (1, .int (Int32.ofInt x1)), (2, .int (Int32.ofInt x2)), (3, .int (Int32.ofInt x3)), (4, .int (Int32.ofInt x4))]) (st1 := [.int (Int32.ofInt x4), .ref 0]) (w1 := w) rfl ?_
    obtain ⟨o2, e3, hx⟩ := bd hx
    refine wp_cl [.ref 0, .int (Int32.ofInt x4)] [] (i := .invokevirtual 262) (ln := 3) (a := 142) (b := 0) (z := 0) (by decide +kernel) rfl rfl (by decide) rfl (show (2 : Nat) = pm_na 142 by decide +kernel) (Nat.le_of_ble_eq_true rfl) (show (2 : Nat) ≤ pm_n 142 by decide +kernel) (rcv_x 11 h (hS _ _ sx_0) (by decide +kernel)) (xf_alikeAt_ok (d := d + 1) hS hG h e3 (fun w4 h5 => ?_))
    show wp _ 132 82 [(0, .ref 0), (1, .int (Int32.ofInt x1)), (2, .int (Int32.ofInt x2)), (3, .int (Int32.ofInt x3)), (4, .int (Int32.ofInt x4))] [.int (Int32.ofInt o2.1)] w4 _
    refine wp_g 3 (pc1 := 87) (lv1 := [(5, .int (Int32.ofInt o2.1)), (0, .ref 0), (1, .int (Int32.ofInt x1)), (2, .int (Int32.ofInt x2)), (3, .int (Int32.ofInt x3)), (4, .int (Int32.ofInt x4))]) (st1 := [.int (Int32.ofInt x3), .int (Int32.ofInt o2.1)]) (w1 := w4) rfl ?_
    refine wx_ge (oo := 9) (ln := 3) (a := 96) (b := 0) (zz := 0) (by decide +kernel) (fun h6 => ?_) (fun h6 => ?_)
    · have hx := ite_f h6 hx
      refine wp_g 2 (pc1 := 59) (lv1 := [(4, .int (Int32.ofInt (x4 + 1))), (5, .int (Int32.ofInt o2.1)), (0, .ref 0), (1, .int (Int32.ofInt x1)), (2, .int (Int32.ofInt x2)), (3, .int (Int32.ofInt x3))]) (st1 := []) (w1 := w4) (by simp only [Int32.ofInt_add, Int32.ofInt_sub, Int32.ofInt_mul, Int32.ofInt_neg, p_and, p_or, p_xor, p_shl, p_shr, p_usr, p_w8, p_c16, p_lI, q_and, q_or, q_shl, q_shr, q_w32, Int64.ofInt_add, Int64.ofInt_sub, Int64.ofInt_mul, p_mx, p_mn, q_mx, q_mn]; rfl) ?_
      refine wp_lv (lv1 := [(0, .ref 0), (1, .int (Int32.ofInt x1)), (2, .int (Int32.ofInt x2)), (3, .int (Int32.ofInt x3)), (4, .int (Int32.ofInt (x4 + 1)))]) (lsub_p [2, 3, 4, 5, 0] rfl rfl rfl) ?_
      cases hx
      exact kn _ _ rfl h5
    · have hx := ite_t h6 hx
      refine wp_g 6 (pc1 := 59) (lv1 := [(4, .int (Int32.ofInt (x4 + 1))), (2, .int (Int32.ofInt x4)), (3, .int (Int32.ofInt o2.1)), (5, .int (Int32.ofInt o2.1)), (0, .ref 0), (1, .int (Int32.ofInt x1))]) (st1 := []) (w1 := w4) (by simp only [Int32.ofInt_add, Int32.ofInt_sub, Int32.ofInt_mul, Int32.ofInt_neg, p_and, p_or, p_xor, p_shl, p_shr, p_usr, p_w8, p_c16, p_lI, q_and, q_or, q_shl, q_shr, q_w32, Int64.ofInt_add, Int64.ofInt_sub, Int64.ofInt_mul, p_mx, p_mn, q_mx, q_mn]; rfl) ?_
      refine wp_lv (lv1 := [(0, .ref 0), (1, .int (Int32.ofInt x1)), (2, .int (Int32.ofInt x4)), (3, .int (Int32.ofInt o2.1)), (4, .int (Int32.ofInt (x4 + 1)))]) (lsub_p [4, 5, 1, 2, 0] rfl rfl rfl) ?_
      cases hx
      exact kn _ _ rfl h5
/-- FoldDeeds.look (I)I -/
noncomputable def xf_look (ln : Nat → Nat) (rs : Nat → Int) (s : Hp) (p1 : Int) : Option (Int × Hp) :=
  if w32 p1 < 0 then some ((-1), s) else if w32 1 < w32 p1 then some ((-1), s) else if w32 (s 17 0) = 0 then some ((-1), s) else (xl_hasPerson s 26 0).bind fun o4 => if w32 o4 = 0 then some ((-2), s) else (xf_findSo ln rs s).bind fun o9 => if w32 o9.1 = 0 then some ((-2), o9.2) else (xf_alikeAt ln rs o9.2 0).bind fun o14 => (lp (fun (q : Int × Int × Int × Hp) => xf_look_b59 ln rs q.2.2.2 p1 q.1 q.2.1 q.2.2.1) (0, o14.1, 1, o14.2)).bind fun q18 => if w32 p1 = 0 then some (q18.1, q18.2.2.2) else some (q18.2.1, q18.2.2.2)
set_option maxRecDepth 100000 in
theorem xf_look_ok {d : Nat} {P : Option Value → pm_H → Prop} {w : pm_H} {sh : Shp} {w0 : pm_H} {s : Hp} (hS : St sh) {ln : Nat → Nat} {rs : Nat → Int} (hG : ∀ i, okR ln sh (rs i)) {p1 : Int} (h : Rw sh w0 s w) {o : Int × Hp} (hx : xf_look ln rs s p1 = some o) (kr : ∀ w1, Rw sh w0 o.2 w1 → P (some (.int (Int32.ofInt o.1))) w1) : wp (d + 10) 132 0 (lv_args 0 [.ref 0, .int (Int32.ofInt p1)]) [] w P := by
  show wp _ 132 0 [(0, .ref 0), (1, .int (Int32.ofInt p1))] [] w _
  unfold xf_look at hx
  refine wp_g 1 (pc1 := 1) (lv1 := [(0, .ref 0), (1, .int (Int32.ofInt p1))]) (st1 := [.int (Int32.ofInt p1)]) (w1 := w) rfl ?_
  refine wz_lt (oo := 21) (ln := 3) (a := 22) (b := 0) (zz := 0) (by decide +kernel) (fun h1 => ?_) (fun h1 => ?_)
  · have hx := ite_t h1 hx
    refine wp_g 1 (pc1 := 23) (lv1 := [(0, .ref 0), (1, .int (Int32.ofInt p1))]) (st1 := [.int (Int32.ofInt (-1))]) (w1 := w) rfl ?_
    refine wp_rt (i := .ireturn) (r := some (.int (Int32.ofInt (-1)))) (ln := 1) (a := 0) (b := 0) (z := 0) (by decide +kernel) rfl (ret_ok (by decide +kernel)) ?_
    cases hx
    exact kr _ h
  · have hx := ite_f h1 hx
    refine wp_g 2 (pc1 := 6) (lv1 := [(0, .ref 0), (1, .int (Int32.ofInt p1))]) (st1 := [.int (Int32.ofInt 1), .int (Int32.ofInt p1)]) (w1 := w) rfl ?_
    refine wx_gt (oo := 16) (ln := 3) (a := 22) (b := 0) (zz := 0) (by decide +kernel) (fun h2 => ?_) (fun h2 => ?_)
    · have hx := ite_t h2 hx
      refine wp_g 1 (pc1 := 23) (lv1 := [(0, .ref 0), (1, .int (Int32.ofInt p1))]) (st1 := [.int (Int32.ofInt (-1))]) (w1 := w) rfl ?_
      refine wp_rt (i := .ireturn) (r := some (.int (Int32.ofInt (-1)))) (ln := 1) (a := 0) (b := 0) (z := 0) (by decide +kernel) rfl (ret_ok (by decide +kernel)) ?_
      cases hx
      exact kr _ h
    · have hx := ite_f h2 hx
      refine wp_g 1 (pc1 := 10) (lv1 := [(0, .ref 0), (1, .int (Int32.ofInt p1))]) (st1 := [.ref 0]) (w1 := w) rfl ?_
      refine wx_gr (o := 16) (kf := 43) (ln := 3) (ci := 11) (b := 5) (zz := 0) (x := 0) (by decide +kernel) h (hS _ _ sx_0) rfl ?_
      show wp _ 132 13 [(0, .ref 0), (1, .int (Int32.ofInt p1))] [.ref 16] w _
      refine wx_gr (o := 1) (kf := 116) (ln := 3) (ci := 7) (b := 0) (zz := 0) (x := 16) (by decide +kernel) h (hS _ _ sx_16) rfl ?_
      show wp _ 132 16 [(0, .ref 0), (1, .int (Int32.ofInt p1))] [.ref 17] w _
      refine wx_gi (kf := 119) (ln := 3) (ci := 0) (b := 0) (zz := 0) (x := 17) (by decide +kernel) h (hS _ _ sx_17) rfl ?_
      show wp _ 132 19 [(0, .ref 0), (1, .int (Int32.ofInt p1))] [.int (Int32.ofInt (s 17 0))] w _
      refine wz_ne (oo := 5) (ln := 3) (a := 24) (b := 0) (zz := 0) (by decide +kernel) (fun h3 => ?_) (fun h3 => ?_)
      · have hx := ite_f h3 hx
        refine wp_g 1 (pc1 := 25) (lv1 := [(0, .ref 0), (1, .int (Int32.ofInt p1))]) (st1 := [.ref 0]) (w1 := w) rfl ?_
        refine wx_gr (o := 16) (kf := 43) (ln := 3) (ci := 11) (b := 5) (zz := 0) (x := 0) (by decide +kernel) h (hS _ _ sx_0) rfl ?_
        show wp _ 132 28 [(0, .ref 0), (1, .int (Int32.ofInt p1))] [.ref 16] w _
        refine wx_gr (o := 10) (kf := 250) (ln := 3) (ci := 7) (b := 1) (zz := 0) (x := 16) (by decide +kernel) h (hS _ _ sx_16) rfl ?_
        show wp _ 132 31 [(0, .ref 0), (1, .int (Int32.ofInt p1))] [.ref 26] w _
        refine wp_g 1 (pc1 := 32) (lv1 := [(0, .ref 0), (1, .int (Int32.ofInt p1))]) (st1 := [.int (Int32.ofInt 0), .ref 26]) (w1 := w) rfl ?_
        obtain ⟨o4, e5, hx⟩ := bd hx
        refine wp_cl [.ref 26, .int (Int32.ofInt 0)] [] (i := .invokevirtual 160) (ln := 3) (a := 7) (b := 0) (z := 0) (by decide +kernel) rfl rfl (by decide) rfl (show (2 : Nat) = pm_na 7 by decide +kernel) (Nat.le_of_ble_eq_true rfl) (show (2 : Nat) ≤ pm_n 7 by decide +kernel) (rcv_x 0 h (hS _ _ sx_26) (by decide +kernel)) (xl_hasPerson_ok (d := d + 9) hS (okC_26 hS) h e5 ?_)
        show wp _ 132 35 [(0, .ref 0), (1, .int (Int32.ofInt p1))] [.int (Int32.ofInt o4)] w _
        refine wz_eq (oo := 10) (ln := 3) (a := 45) (b := 0) (zz := 0) (by decide +kernel) (fun h8 => ?_) (fun h8 => ?_)
        · have hx := ite_t h8 hx
          refine wp_g 1 (pc1 := 47) (lv1 := [(0, .ref 0), (1, .int (Int32.ofInt p1))]) (st1 := [.int (Int32.ofInt (-2))]) (w1 := w) rfl ?_
          refine wp_rt (i := .ireturn) (r := some (.int (Int32.ofInt (-2)))) (ln := 1) (a := 0) (b := 0) (z := 0) (by decide +kernel) rfl (ret_ok (by decide +kernel)) ?_
          cases hx
          exact kr _ h
        · have hx := ite_f h8 hx
          refine wp_g 1 (pc1 := 39) (lv1 := [(0, .ref 0), (1, .int (Int32.ofInt p1))]) (st1 := [.ref 0]) (w1 := w) rfl ?_
          obtain ⟨o9, e10, hx⟩ := bd hx
          refine wp_cl [.ref 0] [] (i := .invokevirtual 259) (ln := 3) (a := 140) (b := 0) (z := 0) (by decide +kernel) rfl rfl (by decide) rfl (show (1 : Nat) = pm_na 140 by decide +kernel) (Nat.le_of_ble_eq_true rfl) (show (1 : Nat) ≤ pm_n 140 by decide +kernel) (rcv_x 11 h (hS _ _ sx_0) (by decide +kernel)) (xf_findSo_ok (d := d) hS hG h e10 (fun w11 h12 => ?_))
          show wp _ 132 42 [(0, .ref 0), (1, .int (Int32.ofInt p1))] [.int (Int32.ofInt o9.1)] w11 _
          refine wz_ne (oo := 6) (ln := 3) (a := 48) (b := 0) (zz := 0) (by decide +kernel) (fun h13 => ?_) (fun h13 => ?_)
          · have hx := ite_f h13 hx
            refine wp_g 4 (pc1 := 52) (lv1 := [(2, .int (Int32.ofInt 0)), (0, .ref 0), (1, .int (Int32.ofInt p1))]) (st1 := [.int (Int32.ofInt 0), .ref 0]) (w1 := w11) rfl ?_
            obtain ⟨o14, e15, hx⟩ := bd hx
            refine wp_cl [.ref 0, .int (Int32.ofInt 0)] [] (i := .invokevirtual 262) (ln := 3) (a := 142) (b := 0) (z := 0) (by decide +kernel) rfl rfl (by decide) rfl (show (2 : Nat) = pm_na 142 by decide +kernel) (Nat.le_of_ble_eq_true rfl) (show (2 : Nat) ≤ pm_n 142 by decide +kernel) (rcv_x 11 h12 (hS _ _ sx_0) (by decide +kernel)) (xf_alikeAt_ok (d := d + 1) hS hG h12 e15 (fun w16 h17 => ?_))
            show wp _ 132 55 [(2, .int (Int32.ofInt 0)), (0, .ref 0), (1, .int (Int32.ofInt p1))] [.int (Int32.ofInt o14.1)] w16 _
            refine wp_g 3 (pc1 := 59) (lv1 := [(4, .int (Int32.ofInt 1)), (3, .int (Int32.ofInt o14.1)), (2, .int (Int32.ofInt 0)), (0, .ref 0), (1, .int (Int32.ofInt p1))]) (st1 := []) (w1 := w16) rfl ?_
            refine wp_lv (lv1 := [(0, .ref 0), (1, .int (Int32.ofInt p1)), (2, .int (Int32.ofInt 0)), (3, .int (Int32.ofInt o14.1)), (4, .int (Int32.ofInt 1))]) (lsub_p [3, 4, 2, 1, 0] rfl rfl rfl) ?_
            obtain ⟨q18, e19, hx⟩ := bd hx
            refine wp_lp (σ := Int × Int × Int × Hp) (ρ := (Int × Int × Int × Hp)) (B := fun q => xf_look_b59 ln rs q.2.2.2 p1 q.1 q.2.1 q.2.2.1) (R := fun q w' => Rw sh w0 q.2.2.2 w') (C := fun r => ∀ w1, Rw sh w0 r.2.2.2 w1 → wp (d + 10) 132 102 [(0, .ref 0), (1, .int (Int32.ofInt p1)), (2, .int (Int32.ofInt r.1)), (3, .int (Int32.ofInt r.2.1)), (4, .int (Int32.ofInt r.2.2.1))] [] w1 P) (lv := fun q => [(0, .ref 0), (1, .int (Int32.ofInt p1)), (2, .int (Int32.ofInt q.1)), (3, .int (Int32.ofInt q.2.1)), (4, .int (Int32.ofInt q.2.2.1))]) (hd := 59) (fun q w' o hR hb kn kc => xf_look_b59_ok hS hG hR hb kn kc) _ _ _ e19 h17 ?_
            intro w20 h21
            show wp _ 132 102 [(0, .ref 0), (1, .int (Int32.ofInt p1)), (2, .int (Int32.ofInt q18.1)), (3, .int (Int32.ofInt q18.2.1)), (4, .int (Int32.ofInt q18.2.2.1))] [] w20 _
            refine wp_g 1 (pc1 := 103) (lv1 := [(0, .ref 0), (1, .int (Int32.ofInt p1)), (2, .int (Int32.ofInt q18.1)), (3, .int (Int32.ofInt q18.2.1)), (4, .int (Int32.ofInt q18.2.2.1))]) (st1 := [.int (Int32.ofInt p1)]) (w1 := w20) rfl ?_
            refine wz_ne (oo := 7) (ln := 3) (a := 110) (b := 0) (zz := 0) (by decide +kernel) (fun h22 => ?_) (fun h22 => ?_)
            · have hx := ite_f h22 hx
              refine wp_g 1 (pc1 := 111) (lv1 := [(0, .ref 0), (1, .int (Int32.ofInt p1)), (2, .int (Int32.ofInt q18.1)), (3, .int (Int32.ofInt q18.2.1)), (4, .int (Int32.ofInt q18.2.2.1))]) (st1 := [.int (Int32.ofInt q18.2.1)]) (w1 := w20) rfl ?_
              refine wp_rt (i := .ireturn) (r := some (.int (Int32.ofInt q18.2.1))) (ln := 1) (a := 0) (b := 0) (z := 0) (by decide +kernel) rfl (ret_ok (by decide +kernel)) ?_
              cases hx
              exact kr _ h21
            · have hx := ite_t h22 hx
              refine wp_g 2 (pc1 := 111) (lv1 := [(0, .ref 0), (1, .int (Int32.ofInt p1)), (2, .int (Int32.ofInt q18.1)), (3, .int (Int32.ofInt q18.2.1)), (4, .int (Int32.ofInt q18.2.2.1))]) (st1 := [.int (Int32.ofInt q18.1)]) (w1 := w20) rfl ?_
              refine wp_rt (i := .ireturn) (r := some (.int (Int32.ofInt q18.1))) (ln := 1) (a := 0) (b := 0) (z := 0) (by decide +kernel) rfl (ret_ok (by decide +kernel)) ?_
              cases hx
              exact kr _ h21
          · have hx := ite_t h13 hx
            refine wp_g 1 (pc1 := 47) (lv1 := [(0, .ref 0), (1, .int (Int32.ofInt p1))]) (st1 := [.int (Int32.ofInt (-2))]) (w1 := w11) rfl ?_
            refine wp_rt (i := .ireturn) (r := some (.int (Int32.ofInt (-2)))) (ln := 1) (a := 0) (b := 0) (z := 0) (by decide +kernel) rfl (ret_ok (by decide +kernel)) ?_
            cases hx
            exact kr _ h12
      · have hx := ite_t h3 hx
        refine wp_g 1 (pc1 := 23) (lv1 := [(0, .ref 0), (1, .int (Int32.ofInt p1))]) (st1 := [.int (Int32.ofInt (-1))]) (w1 := w) rfl ?_
        refine wp_rt (i := .ireturn) (r := some (.int (Int32.ofInt (-1)))) (ln := 1) (a := 0) (b := 0) (z := 0) (by decide +kernel) rfl (ret_ok (by decide +kernel)) ?_
        cases hx
        exact kr _ h
/-- FoldDeeds.seed (I)I -/
noncomputable def xf_seed (s : Hp) (p1 : Int) : Option (Int × Hp) :=
  if w32 p1 < 0 then some ((-1), s) else (some (uh s 16 7 p1)).bind fun s2 => some (s 16 7, s2)
set_option maxRecDepth 100000 in
theorem xf_seed_ok {d : Nat} {P : Option Value → pm_H → Prop} {w : pm_H} {sh : Shp} {w0 : pm_H} {s : Hp} (hS : St sh) {p1 : Int} (h : Rw sh w0 s w) {o : Int × Hp} (hx : xf_seed s p1 = some o) (kr : ∀ w1, Rw sh w0 o.2 w1 → P (some (.int (Int32.ofInt o.1))) w1) : wp d 133 0 (lv_args 0 [.ref 0, .int (Int32.ofInt p1)]) [] w P := by
  show wp _ 133 0 [(0, .ref 0), (1, .int (Int32.ofInt p1))] [] w _
  unfold xf_seed at hx
  refine wp_g 1 (pc1 := 1) (lv1 := [(0, .ref 0), (1, .int (Int32.ofInt p1))]) (st1 := [.int (Int32.ofInt p1)]) (w1 := w) rfl ?_
  refine wz_ge (oo := 5) (ln := 3) (a := 6) (b := 0) (zz := 0) (by decide +kernel) (fun h1 => ?_) (fun h1 => ?_)
  · have hx := ite_f h1 hx
    refine wp_g 1 (pc1 := 7) (lv1 := [(0, .ref 0), (1, .int (Int32.ofInt p1))]) (st1 := [.ref 0]) (w1 := w) rfl ?_
    refine wx_gr (o := 16) (kf := 43) (ln := 3) (ci := 11) (b := 5) (zz := 0) (x := 0) (by decide +kernel) h (hS _ _ sx_0) rfl ?_
    show wp _ 133 10 [(0, .ref 0), (1, .int (Int32.ofInt p1))] [.ref 16] w _
    refine wx_gi (kf := 265) (ln := 3) (ci := 7) (b := 7) (zz := 0) (x := 16) (by decide +kernel) h (hS _ _ sx_16) rfl ?_
    show wp _ 133 13 [(0, .ref 0), (1, .int (Int32.ofInt p1))] [.int (Int32.ofInt (s 16 7))] w _
    refine wp_g 2 (pc1 := 15) (lv1 := [(2, .int (Int32.ofInt (s 16 7))), (0, .ref 0), (1, .int (Int32.ofInt p1))]) (st1 := [.ref 0]) (w1 := w) rfl ?_
    refine wx_gr (o := 16) (kf := 43) (ln := 3) (ci := 11) (b := 5) (zz := 0) (x := 0) (by decide +kernel) h (hS _ _ sx_0) rfl ?_
    show wp _ 133 18 [(2, .int (Int32.ofInt (s 16 7))), (0, .ref 0), (1, .int (Int32.ofInt p1))] [.ref 16] w _
    refine wp_g 1 (pc1 := 19) (lv1 := [(2, .int (Int32.ofInt (s 16 7))), (0, .ref 0), (1, .int (Int32.ofInt p1))]) (st1 := [.int (Int32.ofInt p1), .ref 16]) (w1 := w) rfl ?_
    obtain ⟨s2, e3, hx⟩ := bd hx
    refine wx_pi (kf := 265) (ln := 3) (ci := 7) (b := 7) (zz := 0) (x := 16) (by decide +kernel) h (hS _ _ sx_16) rfl (by decide +kernel) e3 (fun w4 h5 => ?_)
    refine wp_g 1 (pc1 := 23) (lv1 := [(2, .int (Int32.ofInt (s 16 7))), (0, .ref 0), (1, .int (Int32.ofInt p1))]) (st1 := [.int (Int32.ofInt (s 16 7))]) (w1 := w4) rfl ?_
    refine wp_rt (i := .ireturn) (r := some (.int (Int32.ofInt (s 16 7)))) (ln := 1) (a := 0) (b := 0) (z := 0) (by decide +kernel) rfl (ret_ok (by decide +kernel)) ?_
    cases hx
    exact kr _ h5
  · have hx := ite_t h1 hx
    refine wp_g 1 (pc1 := 5) (lv1 := [(0, .ref 0), (1, .int (Int32.ofInt p1))]) (st1 := [.int (Int32.ofInt (-1))]) (w1 := w) rfl ?_
    refine wp_rt (i := .ireturn) (r := some (.int (Int32.ofInt (-1)))) (ln := 1) (a := 0) (b := 0) (z := 0) (by decide +kernel) rfl (ret_ok (by decide +kernel)) ?_
    cases hx
    exact kr _ h
noncomputable def xf_days_b63 (ln : Nat → Nat) (rs : Nat → Int) (s : Hp) (x1 : Int) (x2 : Int) (x3 : Int) (x4 : Int) : Option ((Int × Hp) ⊕ (Int × Hp)) :=
  if w32 x4 < w32 x1 then (xf_ruleInForce ln rs s).bind fun o2 => (xd_run ln rs s o2 17 x2).bind fun o7 => some (.inl (x4 + 1, o7)) else some (.inr (x4, s))
set_option maxRecDepth 100000 in
theorem xf_days_b63_ok {d : Nat} {P : Option Value → pm_H → Prop} {w : pm_H} {sh : Shp} {w0 : pm_H} {s : Hp} (hS : St sh) {ln : Nat → Nat} {rs : Nat → Int} (hG : ∀ i, okR ln sh (rs i)) {x1 : Int} {x2 : Int} {x3 : Int} {x4 : Int} (h : Rw sh w0 s w) {o : ((Int × Hp) ⊕ (Int × Hp))} (hx : xf_days_b63 ln rs s x1 x2 x3 x4 = some o) (kn : ∀ (q : Int × Hp) w1, o = .inl q → Rw sh w0 q.2 w1 → wp (d + 11) 134 63 [(0, .ref 0), (1, .int (Int32.ofInt x1)), (2, .int (Int32.ofInt x2)), (3, .int (Int32.ofInt x3)), (4, .int (Int32.ofInt q.1))] [] w1 P) (kc : ∀ (r : (Int × Hp)), o = .inr r → (∀ w1, Rw sh w0 r.2 w1 → wp (d + 11) 134 98 [(0, .ref 0), (1, .int (Int32.ofInt x1)), (2, .int (Int32.ofInt x2)), (3, .int (Int32.ofInt x3)), (4, .int (Int32.ofInt r.1))] [] w1 P)) : wp (d + 11) 134 63 [(0, .ref 0), (1, .int (Int32.ofInt x1)), (2, .int (Int32.ofInt x2)), (3, .int (Int32.ofInt x3)), (4, .int (Int32.ofInt x4))] [] w P := by
  unfold xf_days_b63 at hx
  refine wp_g 2 (pc1 := 66) (lv1 := [(0, .ref 0), (1, .int (Int32.ofInt x1)), (2, .int (Int32.ofInt x2)), (3, .int (Int32.ofInt x3)), (4, .int (Int32.ofInt x4))]) (st1 := [.int (Int32.ofInt x1), .int (Int32.ofInt x4)]) (w1 := w) rfl ?_
  refine wx_ge (oo := 32) (ln := 3) (a := 98) (b := 0) (zz := 0) (by decide +kernel) (fun h1 => ?_) (fun h1 => ?_)
  · have hx := ite_f h1 hx
    cases hx
    exact kc _ rfl _ h
  · have hx := ite_t h1 hx
    refine wp_g 1 (pc1 := 70) (lv1 := [(0, .ref 0), (1, .int (Int32.ofInt x1)), (2, .int (Int32.ofInt x2)), (3, .int (Int32.ofInt x3)), (4, .int (Int32.ofInt x4))]) (st1 := [.ref 0]) (w1 := w) rfl ?_
    refine wx_gr (o := 134) (kf := 82) (ln := 3) (ci := 11) (b := 11) (zz := 0) (x := 0) (by decide +kernel) h (hS _ _ sx_0) rfl ?_
    show wp _ 134 73 [(0, .ref 0), (1, .int (Int32.ofInt x1)), (2, .int (Int32.ofInt x2)), (3, .int (Int32.ofInt x3)), (4, .int (Int32.ofInt x4))] [.ref 134] w _
    refine wp_g 1 (pc1 := 74) (lv1 := [(0, .ref 0), (1, .int (Int32.ofInt x1)), (2, .int (Int32.ofInt x2)), (3, .int (Int32.ofInt x3)), (4, .int (Int32.ofInt x4))]) (st1 := [.ref 0, .ref 134]) (w1 := w) rfl ?_
    refine wx_gr (o := 41) (kf := 61) (ln := 3) (ci := 11) (b := 8) (zz := 0) (x := 0) (by decide +kernel) h (hS _ _ sx_0) rfl ?_
    show wp _ 134 77 [(0, .ref 0), (1, .int (Int32.ofInt x1)), (2, .int (Int32.ofInt x2)), (3, .int (Int32.ofInt x3)), (4, .int (Int32.ofInt x4))] [.ref 41, .ref 134] w _
    refine wp_g 1 (pc1 := 78) (lv1 := [(0, .ref 0), (1, .int (Int32.ofInt x1)), (2, .int (Int32.ofInt x2)), (3, .int (Int32.ofInt x3)), (4, .int (Int32.ofInt x4))]) (st1 := [.ref 0, .ref 41, .ref 134]) (w1 := w) rfl ?_
    obtain ⟨o2, e3, hx⟩ := bd hx
    refine wp_cl [.ref 0] [.ref 41, .ref 134] (i := .invokevirtual 180) (ln := 3) (a := 138) (b := 0) (z := 0) (by decide +kernel) rfl rfl (by decide) rfl (show (1 : Nat) = pm_na 138 by decide +kernel) (Nat.le_of_ble_eq_true rfl) (show (1 : Nat) ≤ pm_n 138 by decide +kernel) (rcv_x 11 h (hS _ _ sx_0) (by decide +kernel)) (xf_ruleInForce_ok (d := d + 9) hS hG h e3 (fun h6 => ?_))
    show wp _ 134 81 [(0, .ref 0), (1, .int (Int32.ofInt x1)), (2, .int (Int32.ofInt x2)), (3, .int (Int32.ofInt x3)), (4, .int (Int32.ofInt x4))] [vR o2, .ref 41, .ref 134] w _
    refine wp_g 1 (pc1 := 82) (lv1 := [(0, .ref 0), (1, .int (Int32.ofInt x1)), (2, .int (Int32.ofInt x2)), (3, .int (Int32.ofInt x3)), (4, .int (Int32.ofInt x4))]) (st1 := [.ref 0, vR o2, .ref 41, .ref 134]) (w1 := w) (by rcases vR_c o2 with e | ⟨_, e⟩ <;> simp only [e] <;> rfl) ?_
    refine wx_gr (o := 16) (kf := 43) (ln := 3) (ci := 11) (b := 5) (zz := 0) (x := 0) (by decide +kernel) h (hS _ _ sx_0) rfl ?_
    show wp _ 134 85 [(0, .ref 0), (1, .int (Int32.ofInt x1)), (2, .int (Int32.ofInt x2)), (3, .int (Int32.ofInt x3)), (4, .int (Int32.ofInt x4))] [.ref 16, vR o2, .ref 41, .ref 134] w _
    refine wx_gr (o := 1) (kf := 116) (ln := 3) (ci := 7) (b := 0) (zz := 0) (x := 16) (by decide +kernel) h (hS _ _ sx_16) rfl ?_
    show wp _ 134 88 [(0, .ref 0), (1, .int (Int32.ofInt x1)), (2, .int (Int32.ofInt x2)), (3, .int (Int32.ofInt x3)), (4, .int (Int32.ofInt x4))] [.ref 17, vR o2, .ref 41, .ref 134] w _
    refine wp_g 1 (pc1 := 89) (lv1 := [(0, .ref 0), (1, .int (Int32.ofInt x1)), (2, .int (Int32.ofInt x2)), (3, .int (Int32.ofInt x3)), (4, .int (Int32.ofInt x4))]) (st1 := [.int (Int32.ofInt x2), .ref 17, vR o2, .ref 41, .ref 134]) (w1 := w) (by rcases vR_c o2 with e | ⟨_, e⟩ <;> simp only [e] <;> rfl) ?_
    obtain ⟨o7, e8, hx⟩ := bd hx
    refine wp_cl [.ref 134, .ref 41, vR o2, .ref 17, .int (Int32.ofInt x2)] [] (i := .invokevirtual 270) (ln := 3) (a := 103) (b := 0) (z := 0) (by decide +kernel) rfl rfl (by decide) rfl (show (5 : Nat) = pm_na 103 by decide +kernel) (Nat.le_of_ble_eq_true rfl) (by rcases vR_c o2 with e | ⟨_, e⟩ <;> simp only [e] <;> exact (show (5 : Nat) ≤ pm_n 103 by decide +kernel)) (rcv_x 10 h (hS _ _ sx_134) (by decide +kernel)) (xd_run_ok (d := d) hS hG h6 (okC_17 hS) h e8 (fun w9 h10 => ?_))
    show wp _ 134 92 [(0, .ref 0), (1, .int (Int32.ofInt x1)), (2, .int (Int32.ofInt x2)), (3, .int (Int32.ofInt x3)), (4, .int (Int32.ofInt x4))] [] w9 _
    refine wp_g 2 (pc1 := 63) (lv1 := [(4, .int (Int32.ofInt (x4 + 1))), (0, .ref 0), (1, .int (Int32.ofInt x1)), (2, .int (Int32.ofInt x2)), (3, .int (Int32.ofInt x3))]) (st1 := []) (w1 := w9) (by simp only [Int32.ofInt_add, Int32.ofInt_sub, Int32.ofInt_mul, Int32.ofInt_neg, p_and, p_or, p_xor, p_shl, p_shr, p_usr, p_w8, p_c16, p_lI, q_and, q_or, q_shl, q_shr, q_w32, Int64.ofInt_add, Int64.ofInt_sub, Int64.ofInt_mul, p_mx, p_mn, q_mx, q_mn]; rfl) ?_
    refine wp_lv (lv1 := [(0, .ref 0), (1, .int (Int32.ofInt x1)), (2, .int (Int32.ofInt x2)), (3, .int (Int32.ofInt x3)), (4, .int (Int32.ofInt (x4 + 1)))]) (lsub_p [1, 2, 3, 4, 0] rfl rfl rfl) ?_
    cases hx
    exact kn _ _ rfl h10
/-- FoldDeeds.days (III)I -/
noncomputable def xf_days (ln : Nat → Nat) (rs : Nat → Int) (s : Hp) (p1 : Int) (p2 : Int) (p3 : Int) : Option (Int × Hp) :=
  if w32 p1 < w32 1 then some ((-1), s) else if w32 10 < w32 p1 then some ((-1), s) else if w32 p2 < w32 1 then some ((-1), s) else if w32 30 < w32 p2 then some ((-1), s) else if w32 p3 < 0 then some ((-1), s) else if w32 1 < w32 p3 then some ((-1), s) else if w32 (s 17 0) = 0 then some ((-1), s) else (xd_begin s (s 16 7)).bind fun o8 => (lp (fun (q : Int × Hp) => xf_days_b63 ln rs q.2 p1 p2 p3 q.1) (0, o8)).bind fun q12 => if w32 p3 = 0 then some (q12.2 134 2, q12.2) else some (q12.2 134 3, q12.2)
set_option maxRecDepth 100000 in
theorem xf_days_ok {d : Nat} {P : Option Value → pm_H → Prop} {w : pm_H} {sh : Shp} {w0 : pm_H} {s : Hp} (hS : St sh) {ln : Nat → Nat} {rs : Nat → Int} (hG : ∀ i, okR ln sh (rs i)) {p1 : Int} {p2 : Int} {p3 : Int} (h : Rw sh w0 s w) {o : Int × Hp} (hx : xf_days ln rs s p1 p2 p3 = some o) (kr : ∀ w1, Rw sh w0 o.2 w1 → P (some (.int (Int32.ofInt o.1))) w1) : wp (d + 11) 134 0 (lv_args 0 [.ref 0, .int (Int32.ofInt p1), .int (Int32.ofInt p2), .int (Int32.ofInt p3)]) [] w P := by
  show wp _ 134 0 [(0, .ref 0), (1, .int (Int32.ofInt p1)), (2, .int (Int32.ofInt p2)), (3, .int (Int32.ofInt p3))] [] w _
  unfold xf_days at hx
  refine wp_g 2 (pc1 := 2) (lv1 := [(0, .ref 0), (1, .int (Int32.ofInt p1)), (2, .int (Int32.ofInt p2)), (3, .int (Int32.ofInt p3))]) (st1 := [.int (Int32.ofInt 1), .int (Int32.ofInt p1)]) (w1 := w) rfl ?_
  refine wx_lt (oo := 42) (ln := 3) (a := 44) (b := 0) (zz := 0) (by decide +kernel) (fun h1 => ?_) (fun h1 => ?_)
  · have hx := ite_t h1 hx
    refine wp_g 1 (pc1 := 45) (lv1 := [(0, .ref 0), (1, .int (Int32.ofInt p1)), (2, .int (Int32.ofInt p2)), (3, .int (Int32.ofInt p3))]) (st1 := [.int (Int32.ofInt (-1))]) (w1 := w) rfl ?_
    refine wp_rt (i := .ireturn) (r := some (.int (Int32.ofInt (-1)))) (ln := 1) (a := 0) (b := 0) (z := 0) (by decide +kernel) rfl (ret_ok (by decide +kernel)) ?_
    cases hx
    exact kr _ h
  · have hx := ite_f h1 hx
    refine wp_g 2 (pc1 := 8) (lv1 := [(0, .ref 0), (1, .int (Int32.ofInt p1)), (2, .int (Int32.ofInt p2)), (3, .int (Int32.ofInt p3))]) (st1 := [.int (Int32.ofInt 10), .int (Int32.ofInt p1)]) (w1 := w) rfl ?_
    refine wx_gt (oo := 36) (ln := 3) (a := 44) (b := 0) (zz := 0) (by decide +kernel) (fun h2 => ?_) (fun h2 => ?_)
    · have hx := ite_t h2 hx
      refine wp_g 1 (pc1 := 45) (lv1 := [(0, .ref 0), (1, .int (Int32.ofInt p1)), (2, .int (Int32.ofInt p2)), (3, .int (Int32.ofInt p3))]) (st1 := [.int (Int32.ofInt (-1))]) (w1 := w) rfl ?_
      refine wp_rt (i := .ireturn) (r := some (.int (Int32.ofInt (-1)))) (ln := 1) (a := 0) (b := 0) (z := 0) (by decide +kernel) rfl (ret_ok (by decide +kernel)) ?_
      cases hx
      exact kr _ h
    · have hx := ite_f h2 hx
      refine wp_g 2 (pc1 := 13) (lv1 := [(0, .ref 0), (1, .int (Int32.ofInt p1)), (2, .int (Int32.ofInt p2)), (3, .int (Int32.ofInt p3))]) (st1 := [.int (Int32.ofInt 1), .int (Int32.ofInt p2)]) (w1 := w) rfl ?_
      refine wx_lt (oo := 31) (ln := 3) (a := 44) (b := 0) (zz := 0) (by decide +kernel) (fun h3 => ?_) (fun h3 => ?_)
      · have hx := ite_t h3 hx
        refine wp_g 1 (pc1 := 45) (lv1 := [(0, .ref 0), (1, .int (Int32.ofInt p1)), (2, .int (Int32.ofInt p2)), (3, .int (Int32.ofInt p3))]) (st1 := [.int (Int32.ofInt (-1))]) (w1 := w) rfl ?_
        refine wp_rt (i := .ireturn) (r := some (.int (Int32.ofInt (-1)))) (ln := 1) (a := 0) (b := 0) (z := 0) (by decide +kernel) rfl (ret_ok (by decide +kernel)) ?_
        cases hx
        exact kr _ h
      · have hx := ite_f h3 hx
        refine wp_g 2 (pc1 := 19) (lv1 := [(0, .ref 0), (1, .int (Int32.ofInt p1)), (2, .int (Int32.ofInt p2)), (3, .int (Int32.ofInt p3))]) (st1 := [.int (Int32.ofInt 30), .int (Int32.ofInt p2)]) (w1 := w) rfl ?_
        refine wx_gt (oo := 25) (ln := 3) (a := 44) (b := 0) (zz := 0) (by decide +kernel) (fun h4 => ?_) (fun h4 => ?_)
        · have hx := ite_t h4 hx
          refine wp_g 1 (pc1 := 45) (lv1 := [(0, .ref 0), (1, .int (Int32.ofInt p1)), (2, .int (Int32.ofInt p2)), (3, .int (Int32.ofInt p3))]) (st1 := [.int (Int32.ofInt (-1))]) (w1 := w) rfl ?_
          refine wp_rt (i := .ireturn) (r := some (.int (Int32.ofInt (-1)))) (ln := 1) (a := 0) (b := 0) (z := 0) (by decide +kernel) rfl (ret_ok (by decide +kernel)) ?_
          cases hx
          exact kr _ h
        · have hx := ite_f h4 hx
          refine wp_g 1 (pc1 := 23) (lv1 := [(0, .ref 0), (1, .int (Int32.ofInt p1)), (2, .int (Int32.ofInt p2)), (3, .int (Int32.ofInt p3))]) (st1 := [.int (Int32.ofInt p3)]) (w1 := w) rfl ?_
          refine wz_lt (oo := 21) (ln := 3) (a := 44) (b := 0) (zz := 0) (by decide +kernel) (fun h5 => ?_) (fun h5 => ?_)
          · have hx := ite_t h5 hx
            refine wp_g 1 (pc1 := 45) (lv1 := [(0, .ref 0), (1, .int (Int32.ofInt p1)), (2, .int (Int32.ofInt p2)), (3, .int (Int32.ofInt p3))]) (st1 := [.int (Int32.ofInt (-1))]) (w1 := w) rfl ?_
            refine wp_rt (i := .ireturn) (r := some (.int (Int32.ofInt (-1)))) (ln := 1) (a := 0) (b := 0) (z := 0) (by decide +kernel) rfl (ret_ok (by decide +kernel)) ?_
            cases hx
            exact kr _ h
          · have hx := ite_f h5 hx
            refine wp_g 2 (pc1 := 28) (lv1 := [(0, .ref 0), (1, .int (Int32.ofInt p1)), (2, .int (Int32.ofInt p2)), (3, .int (Int32.ofInt p3))]) (st1 := [.int (Int32.ofInt 1), .int (Int32.ofInt p3)]) (w1 := w) rfl ?_
            refine wx_gt (oo := 16) (ln := 3) (a := 44) (b := 0) (zz := 0) (by decide +kernel) (fun h6 => ?_) (fun h6 => ?_)
            · have hx := ite_t h6 hx
              refine wp_g 1 (pc1 := 45) (lv1 := [(0, .ref 0), (1, .int (Int32.ofInt p1)), (2, .int (Int32.ofInt p2)), (3, .int (Int32.ofInt p3))]) (st1 := [.int (Int32.ofInt (-1))]) (w1 := w) rfl ?_
              refine wp_rt (i := .ireturn) (r := some (.int (Int32.ofInt (-1)))) (ln := 1) (a := 0) (b := 0) (z := 0) (by decide +kernel) rfl (ret_ok (by decide +kernel)) ?_
              cases hx
              exact kr _ h
            · have hx := ite_f h6 hx
              refine wp_g 1 (pc1 := 32) (lv1 := [(0, .ref 0), (1, .int (Int32.ofInt p1)), (2, .int (Int32.ofInt p2)), (3, .int (Int32.ofInt p3))]) (st1 := [.ref 0]) (w1 := w) rfl ?_
              refine wx_gr (o := 16) (kf := 43) (ln := 3) (ci := 11) (b := 5) (zz := 0) (x := 0) (by decide +kernel) h (hS _ _ sx_0) rfl ?_
              show wp _ 134 35 [(0, .ref 0), (1, .int (Int32.ofInt p1)), (2, .int (Int32.ofInt p2)), (3, .int (Int32.ofInt p3))] [.ref 16] w _
              refine wx_gr (o := 1) (kf := 116) (ln := 3) (ci := 7) (b := 0) (zz := 0) (x := 16) (by decide +kernel) h (hS _ _ sx_16) rfl ?_
              show wp _ 134 38 [(0, .ref 0), (1, .int (Int32.ofInt p1)), (2, .int (Int32.ofInt p2)), (3, .int (Int32.ofInt p3))] [.ref 17] w _
              refine wx_gi (kf := 119) (ln := 3) (ci := 0) (b := 0) (zz := 0) (x := 17) (by decide +kernel) h (hS _ _ sx_17) rfl ?_
              show wp _ 134 41 [(0, .ref 0), (1, .int (Int32.ofInt p1)), (2, .int (Int32.ofInt p2)), (3, .int (Int32.ofInt p3))] [.int (Int32.ofInt (s 17 0))] w _
              refine wz_ne (oo := 5) (ln := 3) (a := 46) (b := 0) (zz := 0) (by decide +kernel) (fun h7 => ?_) (fun h7 => ?_)
              · have hx := ite_f h7 hx
                refine wp_g 1 (pc1 := 47) (lv1 := [(0, .ref 0), (1, .int (Int32.ofInt p1)), (2, .int (Int32.ofInt p2)), (3, .int (Int32.ofInt p3))]) (st1 := [.ref 0]) (w1 := w) rfl ?_
                refine wx_gr (o := 134) (kf := 82) (ln := 3) (ci := 11) (b := 11) (zz := 0) (x := 0) (by decide +kernel) h (hS _ _ sx_0) rfl ?_
                show wp _ 134 50 [(0, .ref 0), (1, .int (Int32.ofInt p1)), (2, .int (Int32.ofInt p2)), (3, .int (Int32.ofInt p3))] [.ref 134] w _
                refine wp_g 1 (pc1 := 51) (lv1 := [(0, .ref 0), (1, .int (Int32.ofInt p1)), (2, .int (Int32.ofInt p2)), (3, .int (Int32.ofInt p3))]) (st1 := [.ref 0, .ref 134]) (w1 := w) rfl ?_
                refine wx_gr (o := 16) (kf := 43) (ln := 3) (ci := 11) (b := 5) (zz := 0) (x := 0) (by decide +kernel) h (hS _ _ sx_0) rfl ?_
                show wp _ 134 54 [(0, .ref 0), (1, .int (Int32.ofInt p1)), (2, .int (Int32.ofInt p2)), (3, .int (Int32.ofInt p3))] [.ref 16, .ref 134] w _
                refine wx_gi (kf := 265) (ln := 3) (ci := 7) (b := 7) (zz := 0) (x := 16) (by decide +kernel) h (hS _ _ sx_16) rfl ?_
                show wp _ 134 57 [(0, .ref 0), (1, .int (Int32.ofInt p1)), (2, .int (Int32.ofInt p2)), (3, .int (Int32.ofInt p3))] [.int (Int32.ofInt (s 16 7)), .ref 134] w _
                obtain ⟨o8, e9, hx⟩ := bd hx
                refine wp_cl [.ref 134, .int (Int32.ofInt (s 16 7))] [] (i := .invokevirtual 268) (ln := 3) (a := 102) (b := 0) (z := 0) (by decide +kernel) rfl rfl (by decide) rfl (show (2 : Nat) = pm_na 102 by decide +kernel) (Nat.le_of_ble_eq_true rfl) (show (2 : Nat) ≤ pm_n 102 by decide +kernel) (rcv_x 10 h (hS _ _ sx_134) (by decide +kernel)) (xd_begin_ok (d := d + 10) hS h e9 (fun w10 h11 => ?_))
                show wp _ 134 60 [(0, .ref 0), (1, .int (Int32.ofInt p1)), (2, .int (Int32.ofInt p2)), (3, .int (Int32.ofInt p3))] [] w10 _
                refine wp_g 2 (pc1 := 63) (lv1 := [(4, .int (Int32.ofInt 0)), (0, .ref 0), (1, .int (Int32.ofInt p1)), (2, .int (Int32.ofInt p2)), (3, .int (Int32.ofInt p3))]) (st1 := []) (w1 := w10) rfl ?_
                refine wp_lv (lv1 := [(0, .ref 0), (1, .int (Int32.ofInt p1)), (2, .int (Int32.ofInt p2)), (3, .int (Int32.ofInt p3)), (4, .int (Int32.ofInt 0))]) (lsub_p [1, 2, 3, 4, 0] rfl rfl rfl) ?_
                obtain ⟨q12, e13, hx⟩ := bd hx
                refine wp_lp (σ := Int × Hp) (ρ := (Int × Hp)) (B := fun q => xf_days_b63 ln rs q.2 p1 p2 p3 q.1) (R := fun q w' => Rw sh w0 q.2 w') (C := fun r => ∀ w1, Rw sh w0 r.2 w1 → wp (d + 11) 134 98 [(0, .ref 0), (1, .int (Int32.ofInt p1)), (2, .int (Int32.ofInt p2)), (3, .int (Int32.ofInt p3)), (4, .int (Int32.ofInt r.1))] [] w1 P) (lv := fun q => [(0, .ref 0), (1, .int (Int32.ofInt p1)), (2, .int (Int32.ofInt p2)), (3, .int (Int32.ofInt p3)), (4, .int (Int32.ofInt q.1))]) (hd := 63) (fun q w' o hR hb kn kc => xf_days_b63_ok hS hG hR hb kn kc) _ _ _ e13 h11 ?_
                intro w14 h15
                show wp _ 134 98 [(0, .ref 0), (1, .int (Int32.ofInt p1)), (2, .int (Int32.ofInt p2)), (3, .int (Int32.ofInt p3)), (4, .int (Int32.ofInt q12.1))] [] w14 _
                refine wp_g 1 (pc1 := 99) (lv1 := [(0, .ref 0), (1, .int (Int32.ofInt p1)), (2, .int (Int32.ofInt p2)), (3, .int (Int32.ofInt p3)), (4, .int (Int32.ofInt q12.1))]) (st1 := [.int (Int32.ofInt p3)]) (w1 := w14) rfl ?_
                refine wz_ne (oo := 13) (ln := 3) (a := 112) (b := 0) (zz := 0) (by decide +kernel) (fun h16 => ?_) (fun h16 => ?_)
                · have hx := ite_f h16 hx
                  refine wp_g 1 (pc1 := 113) (lv1 := [(0, .ref 0), (1, .int (Int32.ofInt p1)), (2, .int (Int32.ofInt p2)), (3, .int (Int32.ofInt p3)), (4, .int (Int32.ofInt q12.1))]) (st1 := [.ref 0]) (w1 := w14) rfl ?_
                  refine wx_gr (o := 134) (kf := 82) (ln := 3) (ci := 11) (b := 11) (zz := 0) (x := 0) (by decide +kernel) h15 (hS _ _ sx_0) rfl ?_
                  show wp _ 134 116 [(0, .ref 0), (1, .int (Int32.ofInt p1)), (2, .int (Int32.ofInt p2)), (3, .int (Int32.ofInt p3)), (4, .int (Int32.ofInt q12.1))] [.ref 134] w14 _
                  refine wx_gi (kf := 277) (ln := 3) (ci := 10) (b := 3) (zz := 0) (x := 134) (by decide +kernel) h15 (hS _ _ sx_134) rfl ?_
                  show wp _ 134 119 [(0, .ref 0), (1, .int (Int32.ofInt p1)), (2, .int (Int32.ofInt p2)), (3, .int (Int32.ofInt p3)), (4, .int (Int32.ofInt q12.1))] [.int (Int32.ofInt (q12.2 134 3))] w14 _
                  refine wp_rt (i := .ireturn) (r := some (.int (Int32.ofInt (q12.2 134 3)))) (ln := 1) (a := 0) (b := 0) (z := 0) (by decide +kernel) rfl (ret_ok (by decide +kernel)) ?_
                  cases hx
                  exact kr _ h15
                · have hx := ite_t h16 hx
                  refine wp_g 1 (pc1 := 103) (lv1 := [(0, .ref 0), (1, .int (Int32.ofInt p1)), (2, .int (Int32.ofInt p2)), (3, .int (Int32.ofInt p3)), (4, .int (Int32.ofInt q12.1))]) (st1 := [.ref 0]) (w1 := w14) rfl ?_
                  refine wx_gr (o := 134) (kf := 82) (ln := 3) (ci := 11) (b := 11) (zz := 0) (x := 0) (by decide +kernel) h15 (hS _ _ sx_0) rfl ?_
                  show wp _ 134 106 [(0, .ref 0), (1, .int (Int32.ofInt p1)), (2, .int (Int32.ofInt p2)), (3, .int (Int32.ofInt p3)), (4, .int (Int32.ofInt q12.1))] [.ref 134] w14 _
                  refine wx_gi (kf := 274) (ln := 3) (ci := 10) (b := 2) (zz := 0) (x := 134) (by decide +kernel) h15 (hS _ _ sx_134) rfl ?_
                  show wp _ 134 109 [(0, .ref 0), (1, .int (Int32.ofInt p1)), (2, .int (Int32.ofInt p2)), (3, .int (Int32.ofInt p3)), (4, .int (Int32.ofInt q12.1))] [.int (Int32.ofInt (q12.2 134 2))] w14 _
                  refine wp_g 1 (pc1 := 119) (lv1 := [(0, .ref 0), (1, .int (Int32.ofInt p1)), (2, .int (Int32.ofInt p2)), (3, .int (Int32.ofInt p3)), (4, .int (Int32.ofInt q12.1))]) (st1 := [.int (Int32.ofInt (q12.2 134 2))]) (w1 := w14) rfl ?_
                  refine wp_rt (i := .ireturn) (r := some (.int (Int32.ofInt (q12.2 134 2)))) (ln := 1) (a := 0) (b := 0) (z := 0) (by decide +kernel) rfl (ret_ok (by decide +kernel)) ?_
                  cases hx
                  exact kr _ h15
              · have hx := ite_t h7 hx
                refine wp_g 1 (pc1 := 45) (lv1 := [(0, .ref 0), (1, .int (Int32.ofInt p1)), (2, .int (Int32.ofInt p2)), (3, .int (Int32.ofInt p3))]) (st1 := [.int (Int32.ofInt (-1))]) (w1 := w) rfl ?_
                refine wp_rt (i := .ireturn) (r := some (.int (Int32.ofInt (-1)))) (ln := 1) (a := 0) (b := 0) (z := 0) (by decide +kernel) rfl (ret_ok (by decide +kernel)) ?_
                cases hx
                exact kr _ h
/-- FoldDeeds.count (I)I -/
noncomputable def xf_count (s : Hp) (p1 : Int) : Option Int :=
  if w32 p1 = 0 then some (s 17 0) else if w32 p1 = 1 then some (s 17 1) else if w32 p1 = 2 then some (s 17 2) else if w32 p1 = 3 then some (s 0 4) else if w32 p1 = 4 then some (s 16 6) else if w32 p1 = 5 then some (s 17 3) else if w32 p1 = 6 then (xl_creasedJoints s 17).bind fun o8 => some o8 else if w32 p1 = 7 then (xl_cellsOf s 17 (-1)).bind fun o13 => some o13 else if w32 p1 = 8 then some (s 16 5) else if w32 p1 = 9 then some (s 39 2) else if w32 p1 = 10 then some (s 16 7) else if w32 p1 = 11 then some (s 1 1) else some (-1)
set_option maxRecDepth 100000 in
theorem xf_count_ok {d : Nat} {P : Option Value → pm_H → Prop} {w : pm_H} {sh : Shp} {w0 : pm_H} {s : Hp} (hS : St sh) {p1 : Int} (h : Rw sh w0 s w) {o : Int} (hx : xf_count s p1 = some o) (kr : P (some (.int (Int32.ofInt o))) w) : wp (d + 1) 135 0 (lv_args 0 [.ref 0, .int (Int32.ofInt p1)]) [] w P := by
  show wp _ 135 0 [(0, .ref 0), (1, .int (Int32.ofInt p1))] [] w _
  unfold xf_count at hx
  refine wp_g 1 (pc1 := 1) (lv1 := [(0, .ref 0), (1, .int (Int32.ofInt p1))]) (st1 := [.ref 0]) (w1 := w) rfl ?_
  refine wx_gr (o := 16) (kf := 43) (ln := 3) (ci := 11) (b := 5) (zz := 0) (x := 0) (by decide +kernel) h (hS _ _ sx_0) rfl ?_
  show wp _ 135 4 [(0, .ref 0), (1, .int (Int32.ofInt p1))] [.ref 16] w _
  refine wx_gr (o := 1) (kf := 116) (ln := 3) (ci := 7) (b := 0) (zz := 0) (x := 16) (by decide +kernel) h (hS _ _ sx_16) rfl ?_
  show wp _ 135 7 [(0, .ref 0), (1, .int (Int32.ofInt p1))] [.ref 17] w _
  refine wp_g 2 (pc1 := 9) (lv1 := [(2, .ref 17), (0, .ref 0), (1, .int (Int32.ofInt p1))]) (st1 := [.int (Int32.ofInt p1)]) (w1 := w) rfl ?_
  by_cases h1 : w32 p1 = 0
  · have hx := ite_t h1 hx
    refine wx_sw (dflt := 139) (lo := 0) (hi := 11) (offs := #[63, 68, 73, 78, 83, 91, 96, 101, 107, 115, 123, 131]) (ln := 63) (a := 0) (b := 0) (zz := 0) (tgt := 72) (q := 63) (by decide +kernel) h1 (by decide) (by decide) (by decide) (by decide) ?_
    refine wp_g 1 (pc1 := 73) (lv1 := [(2, .ref 17), (0, .ref 0), (1, .int (Int32.ofInt p1))]) (st1 := [.ref 17]) (w1 := w) rfl ?_
    refine wx_gi (kf := 119) (ln := 3) (ci := 0) (b := 0) (zz := 0) (x := 17) (by decide +kernel) h (hS _ _ sx_17) rfl ?_
    show wp _ 135 76 [(2, .ref 17), (0, .ref 0), (1, .int (Int32.ofInt p1))] [.int (Int32.ofInt (s 17 0))] w _
    refine wp_rt (i := .ireturn) (r := some (.int (Int32.ofInt (s 17 0)))) (ln := 1) (a := 0) (b := 0) (z := 0) (by decide +kernel) rfl (ret_ok (by decide +kernel)) ?_
    cases hx
    exact kr
  have hx := ite_f h1 hx
  by_cases h2 : w32 p1 = 1
  · have hx := ite_t h2 hx
    refine wx_sw (dflt := 139) (lo := 0) (hi := 11) (offs := #[63, 68, 73, 78, 83, 91, 96, 101, 107, 115, 123, 131]) (ln := 63) (a := 0) (b := 0) (zz := 0) (tgt := 77) (q := 68) (by decide +kernel) h2 (by decide) (by decide) (by decide) (by decide) ?_
    refine wp_g 1 (pc1 := 78) (lv1 := [(2, .ref 17), (0, .ref 0), (1, .int (Int32.ofInt p1))]) (st1 := [.ref 17]) (w1 := w) rfl ?_
    refine wx_gi (kf := 280) (ln := 3) (ci := 0) (b := 1) (zz := 0) (x := 17) (by decide +kernel) h (hS _ _ sx_17) rfl ?_
    show wp _ 135 81 [(2, .ref 17), (0, .ref 0), (1, .int (Int32.ofInt p1))] [.int (Int32.ofInt (s 17 1))] w _
    refine wp_rt (i := .ireturn) (r := some (.int (Int32.ofInt (s 17 1)))) (ln := 1) (a := 0) (b := 0) (z := 0) (by decide +kernel) rfl (ret_ok (by decide +kernel)) ?_
    cases hx
    exact kr
  have hx := ite_f h2 hx
  by_cases h3 : w32 p1 = 2
  · have hx := ite_t h3 hx
    refine wx_sw (dflt := 139) (lo := 0) (hi := 11) (offs := #[63, 68, 73, 78, 83, 91, 96, 101, 107, 115, 123, 131]) (ln := 63) (a := 0) (b := 0) (zz := 0) (tgt := 82) (q := 73) (by decide +kernel) h3 (by decide) (by decide) (by decide) (by decide) ?_
    refine wp_g 1 (pc1 := 83) (lv1 := [(2, .ref 17), (0, .ref 0), (1, .int (Int32.ofInt p1))]) (st1 := [.ref 17]) (w1 := w) rfl ?_
    refine wx_gi (kf := 170) (ln := 3) (ci := 0) (b := 2) (zz := 0) (x := 17) (by decide +kernel) h (hS _ _ sx_17) rfl ?_
    show wp _ 135 86 [(2, .ref 17), (0, .ref 0), (1, .int (Int32.ofInt p1))] [.int (Int32.ofInt (s 17 2))] w _
    refine wp_rt (i := .ireturn) (r := some (.int (Int32.ofInt (s 17 2)))) (ln := 1) (a := 0) (b := 0) (z := 0) (by decide +kernel) rfl (ret_ok (by decide +kernel)) ?_
    cases hx
    exact kr
  have hx := ite_f h3 hx
  by_cases h4 : w32 p1 = 3
  · have hx := ite_t h4 hx
    refine wx_sw (dflt := 139) (lo := 0) (hi := 11) (offs := #[63, 68, 73, 78, 83, 91, 96, 101, 107, 115, 123, 131]) (ln := 63) (a := 0) (b := 0) (zz := 0) (tgt := 87) (q := 78) (by decide +kernel) h4 (by decide) (by decide) (by decide) (by decide) ?_
    refine wp_g 1 (pc1 := 88) (lv1 := [(2, .ref 17), (0, .ref 0), (1, .int (Int32.ofInt p1))]) (st1 := [.ref 0]) (w1 := w) rfl ?_
    refine wx_gi (kf := 36) (ln := 3) (ci := 11) (b := 4) (zz := 0) (x := 0) (by decide +kernel) h (hS _ _ sx_0) rfl ?_
    show wp _ 135 91 [(2, .ref 17), (0, .ref 0), (1, .int (Int32.ofInt p1))] [.int (Int32.ofInt (s 0 4))] w _
    refine wp_rt (i := .ireturn) (r := some (.int (Int32.ofInt (s 0 4)))) (ln := 1) (a := 0) (b := 0) (z := 0) (by decide +kernel) rfl (ret_ok (by decide +kernel)) ?_
    cases hx
    exact kr
  have hx := ite_f h4 hx
  by_cases h5 : w32 p1 = 4
  · have hx := ite_t h5 hx
    refine wx_sw (dflt := 139) (lo := 0) (hi := 11) (offs := #[63, 68, 73, 78, 83, 91, 96, 101, 107, 115, 123, 131]) (ln := 63) (a := 0) (b := 0) (zz := 0) (tgt := 92) (q := 83) (by decide +kernel) h5 (by decide) (by decide) (by decide) (by decide) ?_
    refine wp_g 1 (pc1 := 93) (lv1 := [(2, .ref 17), (0, .ref 0), (1, .int (Int32.ofInt p1))]) (st1 := [.ref 0]) (w1 := w) rfl ?_
    refine wx_gr (o := 16) (kf := 43) (ln := 3) (ci := 11) (b := 5) (zz := 0) (x := 0) (by decide +kernel) h (hS _ _ sx_0) rfl ?_
    show wp _ 135 96 [(2, .ref 17), (0, .ref 0), (1, .int (Int32.ofInt p1))] [.ref 16] w _
    refine wx_gi (kf := 129) (ln := 3) (ci := 7) (b := 6) (zz := 0) (x := 16) (by decide +kernel) h (hS _ _ sx_16) rfl ?_
    show wp _ 135 99 [(2, .ref 17), (0, .ref 0), (1, .int (Int32.ofInt p1))] [.int (Int32.ofInt (s 16 6))] w _
    refine wp_rt (i := .ireturn) (r := some (.int (Int32.ofInt (s 16 6)))) (ln := 1) (a := 0) (b := 0) (z := 0) (by decide +kernel) rfl (ret_ok (by decide +kernel)) ?_
    cases hx
    exact kr
  have hx := ite_f h5 hx
  by_cases h6 : w32 p1 = 5
  · have hx := ite_t h6 hx
    refine wx_sw (dflt := 139) (lo := 0) (hi := 11) (offs := #[63, 68, 73, 78, 83, 91, 96, 101, 107, 115, 123, 131]) (ln := 63) (a := 0) (b := 0) (zz := 0) (tgt := 100) (q := 91) (by decide +kernel) h6 (by decide) (by decide) (by decide) (by decide) ?_
    refine wp_g 1 (pc1 := 101) (lv1 := [(2, .ref 17), (0, .ref 0), (1, .int (Int32.ofInt p1))]) (st1 := [.ref 17]) (w1 := w) rfl ?_
    refine wx_gi (kf := 283) (ln := 3) (ci := 0) (b := 3) (zz := 0) (x := 17) (by decide +kernel) h (hS _ _ sx_17) rfl ?_
    show wp _ 135 104 [(2, .ref 17), (0, .ref 0), (1, .int (Int32.ofInt p1))] [.int (Int32.ofInt (s 17 3))] w _
    refine wp_rt (i := .ireturn) (r := some (.int (Int32.ofInt (s 17 3)))) (ln := 1) (a := 0) (b := 0) (z := 0) (by decide +kernel) rfl (ret_ok (by decide +kernel)) ?_
    cases hx
    exact kr
  have hx := ite_f h6 hx
  by_cases h7 : w32 p1 = 6
  · have hx := ite_t h7 hx
    refine wx_sw (dflt := 139) (lo := 0) (hi := 11) (offs := #[63, 68, 73, 78, 83, 91, 96, 101, 107, 115, 123, 131]) (ln := 63) (a := 0) (b := 0) (zz := 0) (tgt := 105) (q := 96) (by decide +kernel) h7 (by decide) (by decide) (by decide) (by decide) ?_
    refine wp_g 1 (pc1 := 106) (lv1 := [(2, .ref 17), (0, .ref 0), (1, .int (Int32.ofInt p1))]) (st1 := [.ref 17]) (w1 := w) rfl ?_
    obtain ⟨o8, e9, hx⟩ := bd hx
    refine wp_cl [.ref 17] [] (i := .invokevirtual 286) (ln := 3) (a := 11) (b := 0) (z := 0) (by decide +kernel) rfl rfl (by decide) rfl (show (1 : Nat) = pm_na 11 by decide +kernel) (Nat.le_of_ble_eq_true rfl) (show (1 : Nat) ≤ pm_n 11 by decide +kernel) (rcv_x 0 h (hS _ _ sx_17) (by decide +kernel)) (xl_creasedJoints_ok (d := d) hS (okC_17 hS) h e9 ?_)
    show wp _ 135 109 [(2, .ref 17), (0, .ref 0), (1, .int (Int32.ofInt p1))] [.int (Int32.ofInt o8)] w _
    refine wp_rt (i := .ireturn) (r := some (.int (Int32.ofInt o8))) (ln := 1) (a := 0) (b := 0) (z := 0) (by decide +kernel) rfl (ret_ok (by decide +kernel)) ?_
    cases hx
    exact kr
  have hx := ite_f h7 hx
  by_cases h12 : w32 p1 = 7
  · have hx := ite_t h12 hx
    refine wx_sw (dflt := 139) (lo := 0) (hi := 11) (offs := #[63, 68, 73, 78, 83, 91, 96, 101, 107, 115, 123, 131]) (ln := 63) (a := 0) (b := 0) (zz := 0) (tgt := 110) (q := 101) (by decide +kernel) h12 (by decide) (by decide) (by decide) (by decide) ?_
    refine wp_g 2 (pc1 := 112) (lv1 := [(2, .ref 17), (0, .ref 0), (1, .int (Int32.ofInt p1))]) (st1 := [.int (Int32.ofInt (-1)), .ref 17]) (w1 := w) rfl ?_
    obtain ⟨o13, e14, hx⟩ := bd hx
    refine wp_cl [.ref 17, .int (Int32.ofInt (-1))] [] (i := .invokevirtual 166) (ln := 3) (a := 10) (b := 0) (z := 0) (by decide +kernel) rfl rfl (by decide) rfl (show (2 : Nat) = pm_na 10 by decide +kernel) (Nat.le_of_ble_eq_true rfl) (show (2 : Nat) ≤ pm_n 10 by decide +kernel) (rcv_x 0 h (hS _ _ sx_17) (by decide +kernel)) (xl_cellsOf_ok (d := d) hS (okC_17 hS) h e14 ?_)
    show wp _ 135 115 [(2, .ref 17), (0, .ref 0), (1, .int (Int32.ofInt p1))] [.int (Int32.ofInt o13)] w _
    refine wp_rt (i := .ireturn) (r := some (.int (Int32.ofInt o13))) (ln := 1) (a := 0) (b := 0) (z := 0) (by decide +kernel) rfl (ret_ok (by decide +kernel)) ?_
    cases hx
    exact kr
  have hx := ite_f h12 hx
  by_cases h17 : w32 p1 = 8
  · have hx := ite_t h17 hx
    refine wx_sw (dflt := 139) (lo := 0) (hi := 11) (offs := #[63, 68, 73, 78, 83, 91, 96, 101, 107, 115, 123, 131]) (ln := 63) (a := 0) (b := 0) (zz := 0) (tgt := 116) (q := 107) (by decide +kernel) h17 (by decide) (by decide) (by decide) (by decide) ?_
    refine wp_g 1 (pc1 := 117) (lv1 := [(2, .ref 17), (0, .ref 0), (1, .int (Int32.ofInt p1))]) (st1 := [.ref 0]) (w1 := w) rfl ?_
    refine wx_gr (o := 16) (kf := 43) (ln := 3) (ci := 11) (b := 5) (zz := 0) (x := 0) (by decide +kernel) h (hS _ _ sx_0) rfl ?_
    show wp _ 135 120 [(2, .ref 17), (0, .ref 0), (1, .int (Int32.ofInt p1))] [.ref 16] w _
    refine wx_gi (kf := 247) (ln := 3) (ci := 7) (b := 5) (zz := 0) (x := 16) (by decide +kernel) h (hS _ _ sx_16) rfl ?_
    show wp _ 135 123 [(2, .ref 17), (0, .ref 0), (1, .int (Int32.ofInt p1))] [.int (Int32.ofInt (s 16 5))] w _
    refine wp_rt (i := .ireturn) (r := some (.int (Int32.ofInt (s 16 5)))) (ln := 1) (a := 0) (b := 0) (z := 0) (by decide +kernel) rfl (ret_ok (by decide +kernel)) ?_
    cases hx
    exact kr
  have hx := ite_f h17 hx
  by_cases h18 : w32 p1 = 9
  · have hx := ite_t h18 hx
    refine wx_sw (dflt := 139) (lo := 0) (hi := 11) (offs := #[63, 68, 73, 78, 83, 91, 96, 101, 107, 115, 123, 131]) (ln := 63) (a := 0) (b := 0) (zz := 0) (tgt := 124) (q := 115) (by decide +kernel) h18 (by decide) (by decide) (by decide) (by decide) ?_
    refine wp_g 1 (pc1 := 125) (lv1 := [(2, .ref 17), (0, .ref 0), (1, .int (Int32.ofInt p1))]) (st1 := [.ref 0]) (w1 := w) rfl ?_
    refine wx_gr (o := 39) (kf := 54) (ln := 3) (ci := 11) (b := 7) (zz := 0) (x := 0) (by decide +kernel) h (hS _ _ sx_0) rfl ?_
    show wp _ 135 128 [(2, .ref 17), (0, .ref 0), (1, .int (Int32.ofInt p1))] [.ref 39] w _
    refine wx_gi (kf := 201) (ln := 3) (ci := 4) (b := 2) (zz := 0) (x := 39) (by decide +kernel) h (hS _ _ sx_39) rfl ?_
    show wp _ 135 131 [(2, .ref 17), (0, .ref 0), (1, .int (Int32.ofInt p1))] [.int (Int32.ofInt (s 39 2))] w _
    refine wp_rt (i := .ireturn) (r := some (.int (Int32.ofInt (s 39 2)))) (ln := 1) (a := 0) (b := 0) (z := 0) (by decide +kernel) rfl (ret_ok (by decide +kernel)) ?_
    cases hx
    exact kr
  have hx := ite_f h18 hx
  by_cases h19 : w32 p1 = 10
  · have hx := ite_t h19 hx
    refine wx_sw (dflt := 139) (lo := 0) (hi := 11) (offs := #[63, 68, 73, 78, 83, 91, 96, 101, 107, 115, 123, 131]) (ln := 63) (a := 0) (b := 0) (zz := 0) (tgt := 132) (q := 123) (by decide +kernel) h19 (by decide) (by decide) (by decide) (by decide) ?_
    refine wp_g 1 (pc1 := 133) (lv1 := [(2, .ref 17), (0, .ref 0), (1, .int (Int32.ofInt p1))]) (st1 := [.ref 0]) (w1 := w) rfl ?_
    refine wx_gr (o := 16) (kf := 43) (ln := 3) (ci := 11) (b := 5) (zz := 0) (x := 0) (by decide +kernel) h (hS _ _ sx_0) rfl ?_
    show wp _ 135 136 [(2, .ref 17), (0, .ref 0), (1, .int (Int32.ofInt p1))] [.ref 16] w _
    refine wx_gi (kf := 265) (ln := 3) (ci := 7) (b := 7) (zz := 0) (x := 16) (by decide +kernel) h (hS _ _ sx_16) rfl ?_
    show wp _ 135 139 [(2, .ref 17), (0, .ref 0), (1, .int (Int32.ofInt p1))] [.int (Int32.ofInt (s 16 7))] w _
    refine wp_rt (i := .ireturn) (r := some (.int (Int32.ofInt (s 16 7)))) (ln := 1) (a := 0) (b := 0) (z := 0) (by decide +kernel) rfl (ret_ok (by decide +kernel)) ?_
    cases hx
    exact kr
  have hx := ite_f h19 hx
  by_cases h20 : w32 p1 = 11
  · have hx := ite_t h20 hx
    refine wx_sw (dflt := 139) (lo := 0) (hi := 11) (offs := #[63, 68, 73, 78, 83, 91, 96, 101, 107, 115, 123, 131]) (ln := 63) (a := 0) (b := 0) (zz := 0) (tgt := 140) (q := 131) (by decide +kernel) h20 (by decide) (by decide) (by decide) (by decide) ?_
    refine wp_g 1 (pc1 := 141) (lv1 := [(2, .ref 17), (0, .ref 0), (1, .int (Int32.ofInt p1))]) (st1 := [.ref 0]) (w1 := w) rfl ?_
    refine wx_gr (o := 1) (kf := 10) (ln := 3) (ci := 11) (b := 0) (zz := 0) (x := 0) (by decide +kernel) h (hS _ _ sx_0) rfl ?_
    show wp _ 135 144 [(2, .ref 17), (0, .ref 0), (1, .int (Int32.ofInt p1))] [.ref 1] w _
    refine wx_gi (kf := 94) (ln := 3) (ci := 9) (b := 1) (zz := 0) (x := 1) (by decide +kernel) h (hS _ _ sx_1) rfl ?_
    show wp _ 135 147 [(2, .ref 17), (0, .ref 0), (1, .int (Int32.ofInt p1))] [.int (Int32.ofInt (s 1 1))] w _
    refine wp_rt (i := .ireturn) (r := some (.int (Int32.ofInt (s 1 1)))) (ln := 1) (a := 0) (b := 0) (z := 0) (by decide +kernel) rfl (ret_ok (by decide +kernel)) ?_
    cases hx
    exact kr
  have hx := ite_f h20 hx
  refine wx_sd (dflt := 139) (lo := 0) (hi := 11) (offs := #[63, 68, 73, 78, 83, 91, 96, 101, 107, 115, 123, 131]) (ln := 63) (a := 0) (b := 0) (zz := 0) (tgt := 148) (by decide +kernel) (by omega) (by decide) ?_
  refine wp_g 1 (pc1 := 149) (lv1 := [(2, .ref 17), (0, .ref 0), (1, .int (Int32.ofInt p1))]) (st1 := [.int (Int32.ofInt (-1))]) (w1 := w) rfl ?_
  refine wp_rt (i := .ireturn) (r := some (.int (Int32.ofInt (-1)))) (ln := 1) (a := 0) (b := 0) (z := 0) (by decide +kernel) rfl (ret_ok (by decide +kernel)) ?_
  cases hx
  exact kr
