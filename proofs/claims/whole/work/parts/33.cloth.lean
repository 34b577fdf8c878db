/-! by program (wip/whole/gx.py) -/
/-- Cloth.copyFrom (LCloth;)V -/
noncomputable def xl_copyFrom (s : Hp) (a0 : Nat) (a1 : Nat) : Option Hp :=
  (some (uh s a0 0 (s a1 0))).bind fun s1 => (some (uh s1 a0 1 (s1 a1 1))).bind fun s5 => (some (uh s5 a0 2 (s5 a1 2))).bind fun s9 => (some (uh s9 a0 3 (s9 a1 3))).bind fun s13 => if ¬ (a1 + 1) = (a0 + 1) then (some (uc s13 (a1 + 1) (a0 + 1) 8)).bind fun s20 => if ¬ (a1 + 2) = (a0 + 2) then (some (uc s20 (a1 + 2) (a0 + 2) 8)).bind fun s25 => if ¬ (a1 + 3) = (a0 + 3) then (some (uc s25 (a1 + 3) (a0 + 3) 8)).bind fun s30 => if ¬ (a1 + 4) = (a0 + 4) then (some (uc s30 (a1 + 4) (a0 + 4) 8)).bind fun s35 => if ¬ (a1 + 5) = (a0 + 5) then (some (uc s35 (a1 + 5) (a0 + 5) 8)).bind fun s40 => if ¬ (a1 + 6) = (a0 + 6) then (some (uc s40 (a1 + 6) (a0 + 6) 8)).bind fun s45 => if ¬ (a1 + 7) = (a0 + 7) then (some (uc s45 (a1 + 7) (a0 + 7) 8)).bind fun s50 => if ¬ (a1 + 8) = (a0 + 8) then (some (uc s50 (a1 + 8) (a0 + 8) 4)).bind fun s55 => some s55 else none else none else none else none else none else none else none else none
set_option maxRecDepth 100000 in
theorem xl_copyFrom_ok {d : Nat} {P : Option Value → pm_H → Prop} {w : pm_H} {sh : Shp} {w0 : pm_H} {s : Hp} (hS : St sh) {a0 r0 : Nat} (ca0 : okC r0 sh a0) {a1 r1 : Nat} (ca1 : okC r1 sh a1) (h : Rw sh w0 s w) {o : Hp} (hx : xl_copyFrom s a0 a1 = some o) (kr : ∀ w1, Rw sh w0 o w1 → P none w1) : wp (d + 6) 1 0 (lv_args 0 [.ref a0, .ref a1]) [] w P := by
  show wp _ 1 0 [(0, .ref a0), (1, .ref a1)] [] w _
  unfold xl_copyFrom at hx
  refine wp_g 2 (pc1 := 2) (lv1 := [(0, .ref a0), (1, .ref a1)]) (st1 := [.ref a1, .ref a0]) (w1 := w) rfl ?_
  refine wx_gi (kf := 9) (ln := 3) (ci := 0) (b := 0) (zz := 0) (x := a1) (by decide +kernel) h ca1.1 rfl ?_
  show wp _ 1 5 [(0, .ref a0), (1, .ref a1)] [.int (Int32.ofInt (s a1 0)), .ref a0] w _
  obtain ⟨s1, e2, hx⟩ := bd hx
  refine wx_pi (kf := 9) (ln := 3) (ci := 0) (b := 0) (zz := 0) (x := a0) (by decide +kernel) h ca0.1 rfl (by decide +kernel) e2 (fun w3 h4 => ?_)
  refine wp_g 2 (pc1 := 10) (lv1 := [(0, .ref a0), (1, .ref a1)]) (st1 := [.ref a1, .ref a0]) (w1 := w3) rfl ?_
  refine wx_gi (kf := 15) (ln := 3) (ci := 0) (b := 1) (zz := 0) (x := a1) (by decide +kernel) h4 ca1.1 rfl ?_
  show wp _ 1 13 [(0, .ref a0), (1, .ref a1)] [.int (Int32.ofInt (s1 a1 1)), .ref a0] w3 _
  obtain ⟨s5, e6, hx⟩ := bd hx
  refine wx_pi (kf := 15) (ln := 3) (ci := 0) (b := 1) (zz := 0) (x := a0) (by decide +kernel) h4 ca0.1 rfl (by decide +kernel) e6 (fun w7 h8 => ?_)
  refine wp_g 2 (pc1 := 18) (lv1 := [(0, .ref a0), (1, .ref a1)]) (st1 := [.ref a1, .ref a0]) (w1 := w7) rfl ?_
  refine wx_gi (kf := 18) (ln := 3) (ci := 0) (b := 2) (zz := 0) (x := a1) (by decide +kernel) h8 ca1.1 rfl ?_
  show wp _ 1 21 [(0, .ref a0), (1, .ref a1)] [.int (Int32.ofInt (s5 a1 2)), .ref a0] w7 _
  obtain ⟨s9, e10, hx⟩ := bd hx
  refine wx_pi (kf := 18) (ln := 3) (ci := 0) (b := 2) (zz := 0) (x := a0) (by decide +kernel) h8 ca0.1 rfl (by decide +kernel) e10 (fun w11 h12 => ?_)
  refine wp_g 2 (pc1 := 26) (lv1 := [(0, .ref a0), (1, .ref a1)]) (st1 := [.ref a1, .ref a0]) (w1 := w11) rfl ?_
  refine wx_gi (kf := 21) (ln := 3) (ci := 0) (b := 3) (zz := 0) (x := a1) (by decide +kernel) h12 ca1.1 rfl ?_
  show wp _ 1 29 [(0, .ref a0), (1, .ref a1)] [.int (Int32.ofInt (s9 a1 3)), .ref a0] w11 _
  obtain ⟨s13, e14, hx⟩ := bd hx
  refine wx_pi (kf := 21) (ln := 3) (ci := 0) (b := 3) (zz := 0) (x := a0) (by decide +kernel) h12 ca0.1 rfl (by decide +kernel) e14 (fun w15 h16 => ?_)
  refine wp_g 1 (pc1 := 33) (lv1 := [(0, .ref a0), (1, .ref a1)]) (st1 := [.ref a1]) (w1 := w15) rfl ?_
  refine wx_gr (o := 1) (kf := 24) (ln := 3) (ci := 0) (b := 4) (zz := 0) (x := a1) (by decide +kernel) h16 ca1.1 rfl ?_
  show wp _ 1 36 [(0, .ref a0), (1, .ref a1)] [.ref (a1 + 1)] w15 _
  refine wp_g 2 (pc1 := 38) (lv1 := [(0, .ref a0), (1, .ref a1)]) (st1 := [.ref a0, .int (Int32.ofInt 0), .ref (a1 + 1)]) (w1 := w15) rfl ?_
  refine wx_gr (o := 1) (kf := 24) (ln := 3) (ci := 0) (b := 4) (zz := 0) (x := a0) (by decide +kernel) h16 ca0.1 rfl ?_
  show wp _ 1 41 [(0, .ref a0), (1, .ref a1)] [.ref (a0 + 1), .int (Int32.ofInt 0), .ref (a1 + 1)] w15 _
  refine wp_g 2 (pc1 := 44) (lv1 := [(0, .ref a0), (1, .ref a1)]) (st1 := [.int (Int32.ofInt 8), .int (Int32.ofInt 0), .ref (a0 + 1), .int (Int32.ofInt 0), .ref (a1 + 1)]) (w1 := w15) rfl ?_
  obtain ⟨h17, hx⟩ := gd hx
  obtain ⟨s20, e21, hx⟩ := bd hx
  refine wx_cp (kf := 49) (x := (a1 + 1)) (y := (a0 + 1)) (m := 8) (n := 8) (n1 := 8) (ln := 3) (b := 9) (zz := 0) (by decide +kernel) h16 (ca1.2.1 1 (by decide) (by decide)) (ca0.2.1 1 (by decide) (by decide)) h17 (by decide) (by decide) (by decide) e21 (Nat.le_of_ble_eq_true rfl) (by omega) (fun w18 h19 => ?_)
  refine wp_g 1 (pc1 := 48) (lv1 := [(0, .ref a0), (1, .ref a1)]) (st1 := [.ref a1]) (w1 := w18) rfl ?_
  refine wx_gr (o := 2) (kf := 28) (ln := 3) (ci := 0) (b := 5) (zz := 0) (x := a1) (by decide +kernel) h19 ca1.1 rfl ?_
  show wp _ 1 51 [(0, .ref a0), (1, .ref a1)] [.ref (a1 + 2)] w18 _
  refine wp_g 2 (pc1 := 53) (lv1 := [(0, .ref a0), (1, .ref a1)]) (st1 := [.ref a0, .int (Int32.ofInt 0), .ref (a1 + 2)]) (w1 := w18) rfl ?_
  refine wx_gr (o := 2) (kf := 28) (ln := 3) (ci := 0) (b := 5) (zz := 0) (x := a0) (by decide +kernel) h19 ca0.1 rfl ?_
  show wp _ 1 56 [(0, .ref a0), (1, .ref a1)] [.ref (a0 + 2), .int (Int32.ofInt 0), .ref (a1 + 2)] w18 _
  refine wp_g 2 (pc1 := 59) (lv1 := [(0, .ref a0), (1, .ref a1)]) (st1 := [.int (Int32.ofInt 8), .int (Int32.ofInt 0), .ref (a0 + 2), .int (Int32.ofInt 0), .ref (a1 + 2)]) (w1 := w18) rfl ?_
  obtain ⟨h22, hx⟩ := gd hx
  obtain ⟨s25, e26, hx⟩ := bd hx
  refine wx_cp (kf := 49) (x := (a1 + 2)) (y := (a0 + 2)) (m := 8) (n := 8) (n1 := 8) (ln := 3) (b := 9) (zz := 0) (by decide +kernel) h19 (ca1.2.1 2 (by decide) (by decide)) (ca0.2.1 2 (by decide) (by decide)) h22 (by decide) (by decide) (by decide) e26 (Nat.le_of_ble_eq_true rfl) (by omega) (fun w23 h24 => ?_)
  refine wp_g 1 (pc1 := 63) (lv1 := [(0, .ref a0), (1, .ref a1)]) (st1 := [.ref a1]) (w1 := w23) rfl ?_
  refine wx_gr (o := 3) (kf := 31) (ln := 3) (ci := 0) (b := 6) (zz := 0) (x := a1) (by decide +kernel) h24 ca1.1 rfl ?_
  show wp _ 1 66 [(0, .ref a0), (1, .ref a1)] [.ref (a1 + 3)] w23 _
  refine wp_g 2 (pc1 := 68) (lv1 := [(0, .ref a0), (1, .ref a1)]) (st1 := [.ref a0, .int (Int32.ofInt 0), .ref (a1 + 3)]) (w1 := w23) rfl ?_
  refine wx_gr (o := 3) (kf := 31) (ln := 3) (ci := 0) (b := 6) (zz := 0) (x := a0) (by decide +kernel) h24 ca0.1 rfl ?_
  show wp _ 1 71 [(0, .ref a0), (1, .ref a1)] [.ref (a0 + 3), .int (Int32.ofInt 0), .ref (a1 + 3)] w23 _
  refine wp_g 2 (pc1 := 74) (lv1 := [(0, .ref a0), (1, .ref a1)]) (st1 := [.int (Int32.ofInt 8), .int (Int32.ofInt 0), .ref (a0 + 3), .int (Int32.ofInt 0), .ref (a1 + 3)]) (w1 := w23) rfl ?_
  obtain ⟨h27, hx⟩ := gd hx
  obtain ⟨s30, e31, hx⟩ := bd hx
  refine wx_cp (kf := 49) (x := (a1 + 3)) (y := (a0 + 3)) (m := 8) (n := 8) (n1 := 8) (ln := 3) (b := 9) (zz := 0) (by decide +kernel) h24 (ca1.2.1 3 (by decide) (by decide)) (ca0.2.1 3 (by decide) (by decide)) h27 (by decide) (by decide) (by decide) e31 (Nat.le_of_ble_eq_true rfl) (by omega) (fun w28 h29 => ?_)
  refine wp_g 1 (pc1 := 78) (lv1 := [(0, .ref a0), (1, .ref a1)]) (st1 := [.ref a1]) (w1 := w28) rfl ?_
  refine wx_gr (o := 4) (kf := 34) (ln := 3) (ci := 0) (b := 7) (zz := 0) (x := a1) (by decide +kernel) h29 ca1.1 rfl ?_
  show wp _ 1 81 [(0, .ref a0), (1, .ref a1)] [.ref (a1 + 4)] w28 _
  refine wp_g 2 (pc1 := 83) (lv1 := [(0, .ref a0), (1, .ref a1)]) (st1 := [.ref a0, .int (Int32.ofInt 0), .ref (a1 + 4)]) (w1 := w28) rfl ?_
  refine wx_gr (o := 4) (kf := 34) (ln := 3) (ci := 0) (b := 7) (zz := 0) (x := a0) (by decide +kernel) h29 ca0.1 rfl ?_
  show wp _ 1 86 [(0, .ref a0), (1, .ref a1)] [.ref (a0 + 4), .int (Int32.ofInt 0), .ref (a1 + 4)] w28 _
  refine wp_g 2 (pc1 := 89) (lv1 := [(0, .ref a0), (1, .ref a1)]) (st1 := [.int (Int32.ofInt 8), .int (Int32.ofInt 0), .ref (a0 + 4), .int (Int32.ofInt 0), .ref (a1 + 4)]) (w1 := w28) rfl ?_
  obtain ⟨h32, hx⟩ := gd hx
  obtain ⟨s35, e36, hx⟩ := bd hx
  refine wx_cp (kf := 49) (x := (a1 + 4)) (y := (a0 + 4)) (m := 8) (n := 8) (n1 := 8) (ln := 3) (b := 9) (zz := 0) (by decide +kernel) h29 (ca1.2.1 4 (by decide) (by decide)) (ca0.2.1 4 (by decide) (by decide)) h32 (by decide) (by decide) (by decide) e36 (Nat.le_of_ble_eq_true rfl) (by omega) (fun w33 h34 => ?_)
  refine wp_g 1 (pc1 := 93) (lv1 := [(0, .ref a0), (1, .ref a1)]) (st1 := [.ref a1]) (w1 := w33) rfl ?_
  refine wx_gr (o := 5) (kf := 37) (ln := 3) (ci := 0) (b := 8) (zz := 0) (x := a1) (by decide +kernel) h34 ca1.1 rfl ?_
  show wp _ 1 96 [(0, .ref a0), (1, .ref a1)] [.ref (a1 + 5)] w33 _
  refine wp_g 2 (pc1 := 98) (lv1 := [(0, .ref a0), (1, .ref a1)]) (st1 := [.ref a0, .int (Int32.ofInt 0), .ref (a1 + 5)]) (w1 := w33) rfl ?_
  refine wx_gr (o := 5) (kf := 37) (ln := 3) (ci := 0) (b := 8) (zz := 0) (x := a0) (by decide +kernel) h34 ca0.1 rfl ?_
  show wp _ 1 101 [(0, .ref a0), (1, .ref a1)] [.ref (a0 + 5), .int (Int32.ofInt 0), .ref (a1 + 5)] w33 _
  refine wp_g 2 (pc1 := 104) (lv1 := [(0, .ref a0), (1, .ref a1)]) (st1 := [.int (Int32.ofInt 8), .int (Int32.ofInt 0), .ref (a0 + 5), .int (Int32.ofInt 0), .ref (a1 + 5)]) (w1 := w33) rfl ?_
  obtain ⟨h37, hx⟩ := gd hx
  obtain ⟨s40, e41, hx⟩ := bd hx
  refine wx_cp (kf := 49) (x := (a1 + 5)) (y := (a0 + 5)) (m := 8) (n := 8) (n1 := 8) (ln := 3) (b := 9) (zz := 0) (by decide +kernel) h34 (ca1.2.1 5 (by decide) (by decide)) (ca0.2.1 5 (by decide) (by decide)) h37 (by decide) (by decide) (by decide) e41 (Nat.le_of_ble_eq_true rfl) (by omega) (fun w38 h39 => ?_)
  refine wp_g 1 (pc1 := 108) (lv1 := [(0, .ref a0), (1, .ref a1)]) (st1 := [.ref a1]) (w1 := w38) rfl ?_
  refine wx_gr (o := 6) (kf := 40) (ln := 3) (ci := 0) (b := 9) (zz := 0) (x := a1) (by decide +kernel) h39 ca1.1 rfl ?_
  show wp _ 1 111 [(0, .ref a0), (1, .ref a1)] [.ref (a1 + 6)] w38 _
  refine wp_g 2 (pc1 := 113) (lv1 := [(0, .ref a0), (1, .ref a1)]) (st1 := [.ref a0, .int (Int32.ofInt 0), .ref (a1 + 6)]) (w1 := w38) rfl ?_
  refine wx_gr (o := 6) (kf := 40) (ln := 3) (ci := 0) (b := 9) (zz := 0) (x := a0) (by decide +kernel) h39 ca0.1 rfl ?_
  show wp _ 1 116 [(0, .ref a0), (1, .ref a1)] [.ref (a0 + 6), .int (Int32.ofInt 0), .ref (a1 + 6)] w38 _
  refine wp_g 2 (pc1 := 119) (lv1 := [(0, .ref a0), (1, .ref a1)]) (st1 := [.int (Int32.ofInt 8), .int (Int32.ofInt 0), .ref (a0 + 6), .int (Int32.ofInt 0), .ref (a1 + 6)]) (w1 := w38) rfl ?_
  obtain ⟨h42, hx⟩ := gd hx
  obtain ⟨s45, e46, hx⟩ := bd hx
  refine wx_cp (kf := 49) (x := (a1 + 6)) (y := (a0 + 6)) (m := 8) (n := 8) (n1 := 8) (ln := 3) (b := 9) (zz := 0) (by decide +kernel) h39 (ca1.2.1 6 (by decide) (by decide)) (ca0.2.1 6 (by decide) (by decide)) h42 (by decide) (by decide) (by decide) e46 (Nat.le_of_ble_eq_true rfl) (by omega) (fun w43 h44 => ?_)
  refine wp_g 1 (pc1 := 123) (lv1 := [(0, .ref a0), (1, .ref a1)]) (st1 := [.ref a1]) (w1 := w43) rfl ?_
  refine wx_gr (o := 7) (kf := 43) (ln := 3) (ci := 0) (b := 10) (zz := 0) (x := a1) (by decide +kernel) h44 ca1.1 rfl ?_
  show wp _ 1 126 [(0, .ref a0), (1, .ref a1)] [.ref (a1 + 7)] w43 _
  refine wp_g 2 (pc1 := 128) (lv1 := [(0, .ref a0), (1, .ref a1)]) (st1 := [.ref a0, .int (Int32.ofInt 0), .ref (a1 + 7)]) (w1 := w43) rfl ?_
  refine wx_gr (o := 7) (kf := 43) (ln := 3) (ci := 0) (b := 10) (zz := 0) (x := a0) (by decide +kernel) h44 ca0.1 rfl ?_
  show wp _ 1 131 [(0, .ref a0), (1, .ref a1)] [.ref (a0 + 7), .int (Int32.ofInt 0), .ref (a1 + 7)] w43 _
  refine wp_g 2 (pc1 := 134) (lv1 := [(0, .ref a0), (1, .ref a1)]) (st1 := [.int (Int32.ofInt 8), .int (Int32.ofInt 0), .ref (a0 + 7), .int (Int32.ofInt 0), .ref (a1 + 7)]) (w1 := w43) rfl ?_
  obtain ⟨h47, hx⟩ := gd hx
  obtain ⟨s50, e51, hx⟩ := bd hx
  refine wx_cp (kf := 49) (x := (a1 + 7)) (y := (a0 + 7)) (m := 8) (n := 8) (n1 := 8) (ln := 3) (b := 9) (zz := 0) (by decide +kernel) h44 (ca1.2.1 7 (by decide) (by decide)) (ca0.2.1 7 (by decide) (by decide)) h47 (by decide) (by decide) (by decide) e51 (Nat.le_of_ble_eq_true rfl) (by omega) (fun w48 h49 => ?_)
  refine wp_g 1 (pc1 := 138) (lv1 := [(0, .ref a0), (1, .ref a1)]) (st1 := [.ref a1]) (w1 := w48) rfl ?_
  refine wx_gr (o := 8) (kf := 46) (ln := 3) (ci := 0) (b := 11) (zz := 0) (x := a1) (by decide +kernel) h49 ca1.1 rfl ?_
  show wp _ 1 141 [(0, .ref a0), (1, .ref a1)] [.ref (a1 + 8)] w48 _
  refine wp_g 2 (pc1 := 143) (lv1 := [(0, .ref a0), (1, .ref a1)]) (st1 := [.ref a0, .int (Int32.ofInt 0), .ref (a1 + 8)]) (w1 := w48) rfl ?_
  refine wx_gr (o := 8) (kf := 46) (ln := 3) (ci := 0) (b := 11) (zz := 0) (x := a0) (by decide +kernel) h49 ca0.1 rfl ?_
  show wp _ 1 146 [(0, .ref a0), (1, .ref a1)] [.ref (a0 + 8), .int (Int32.ofInt 0), .ref (a1 + 8)] w48 _
  refine wp_g 2 (pc1 := 148) (lv1 := [(0, .ref a0), (1, .ref a1)]) (st1 := [.int (Int32.ofInt 4), .int (Int32.ofInt 0), .ref (a0 + 8), .int (Int32.ofInt 0), .ref (a1 + 8)]) (w1 := w48) rfl ?_
  obtain ⟨h52, hx⟩ := gd hx
  obtain ⟨s55, e56, hx⟩ := bd hx
  refine wx_cp (kf := 49) (x := (a1 + 8)) (y := (a0 + 8)) (m := 4) (n := 4) (n1 := 4) (ln := 3) (b := 9) (zz := 0) (by decide +kernel) h49 ca1.2.2 ca0.2.2 h52 (by decide) (by decide) (by decide) e56 (Nat.le_of_ble_eq_true rfl) (by omega) (fun w53 h54 => ?_)
  refine wp_rt (i := .return_) (r := none) (ln := 1) (a := 0) (b := 0) (z := 0) (by decide +kernel) rfl (ret_v (by decide +kernel)) ?_
  cases hx
  exact kr _ h54
noncomputable def xl_layOpen_b10 (s : Hp) (a0 : Nat) (x1 : Int) : Option ((Int × Hp) ⊕ (Int × Hp)) :=
  if w32 x1 < w32 8 then (ix 8 x1).bind fun i2 => (some (uh s (a0 + 1) i2 x1)).bind fun s4 => (some (uh s4 (a0 + 2) i2 0)).bind fun s8 => (some (uh s8 (a0 + 3) i2 1)).bind fun s12 => if w32 x1 < w32 (s12 a0 0) then (some (uh s12 (a0 + 7) i2 1)).bind fun s21 => some (.inl (x1 + 1, s21)) else (some (uh s12 (a0 + 7) i2 0)).bind fun s17 => some (.inl (x1 + 1, s17)) else some (.inr (x1, s))
set_option maxRecDepth 100000 in
theorem xl_layOpen_b10_ok {d : Nat} {P : Option Value → pm_H → Prop} {w : pm_H} {sh : Shp} {w0 : pm_H} {s : Hp} (hS : St sh) {a0 r0 : Nat} (ca0 : okC r0 sh a0) {x1 : Int} (h : Rw sh w0 s w) {o : ((Int × Hp) ⊕ (Int × Hp))} (hx : xl_layOpen_b10 s a0 x1 = some o) (kn : ∀ (q : Int × Hp) w1, o = .inl q → Rw sh w0 q.2 w1 → wp d 3 10 [(0, .ref a0), (1, .int (Int32.ofInt q.1))] [] w1 P) (kc : ∀ (r : (Int × Hp)), o = .inr r → (∀ w1, Rw sh w0 r.2 w1 → wp d 3 62 [(0, .ref a0), (1, .int (Int32.ofInt r.1))] [] w1 P)) : wp d 3 10 [(0, .ref a0), (1, .int (Int32.ofInt x1))] [] w P := by
  unfold xl_layOpen_b10 at hx
  refine wp_g 2 (pc1 := 13) (lv1 := [(0, .ref a0), (1, .int (Int32.ofInt x1))]) (st1 := [.int (Int32.ofInt 8), .int (Int32.ofInt x1)]) (w1 := w) rfl ?_
  refine wx_ge (oo := 49) (ln := 3) (a := 62) (b := 0) (zz := 0) (by decide +kernel) (fun h1 => ?_) (fun h1 => ?_)
  · have hx := ite_f h1 hx
    cases hx
    exact kc _ rfl _ h
  · have hx := ite_t h1 hx
    refine wp_g 1 (pc1 := 17) (lv1 := [(0, .ref a0), (1, .int (Int32.ofInt x1))]) (st1 := [.ref a0]) (w1 := w) rfl ?_
    refine wx_gr (o := 1) (kf := 24) (ln := 3) (ci := 0) (b := 4) (zz := 0) (x := a0) (by decide +kernel) h ca0.1 rfl ?_
    show wp _ 3 20 [(0, .ref a0), (1, .int (Int32.ofInt x1))] [.ref (a0 + 1)] w _
    refine wp_g 2 (pc1 := 22) (lv1 := [(0, .ref a0), (1, .int (Int32.ofInt x1))]) (st1 := [.int (Int32.ofInt x1), .int (Int32.ofInt x1), .ref (a0 + 1)]) (w1 := w) rfl ?_
    obtain ⟨i2, e3, hx⟩ := bd hx
    obtain ⟨s4, e5, hx⟩ := bd hx
    refine wx_wa (x := (a0 + 1)) (n := 8) (ln := 1) (a := 0) (b := 0) (zz := 0) (by decide +kernel) h (ca0.2.1 1 (by decide) (by decide)) e3 e5 (fun w6 h7 => ?_)
    refine wp_g 1 (pc1 := 24) (lv1 := [(0, .ref a0), (1, .int (Int32.ofInt x1))]) (st1 := [.ref a0]) (w1 := w6) rfl ?_
    refine wx_gr (o := 2) (kf := 28) (ln := 3) (ci := 0) (b := 5) (zz := 0) (x := a0) (by decide +kernel) h7 ca0.1 rfl ?_
    show wp _ 3 27 [(0, .ref a0), (1, .int (Int32.ofInt x1))] [.ref (a0 + 2)] w6 _
    refine wp_g 2 (pc1 := 29) (lv1 := [(0, .ref a0), (1, .int (Int32.ofInt x1))]) (st1 := [.int (Int32.ofInt 0), .int (Int32.ofInt x1), .ref (a0 + 2)]) (w1 := w6) rfl ?_
    obtain ⟨s8, e9, hx⟩ := bd hx
    refine wx_wa (x := (a0 + 2)) (n := 8) (ln := 1) (a := 0) (b := 0) (zz := 0) (by decide +kernel) h7 (ca0.2.1 2 (by decide) (by decide)) e3 e9 (fun w10 h11 => ?_)
    refine wp_g 1 (pc1 := 31) (lv1 := [(0, .ref a0), (1, .int (Int32.ofInt x1))]) (st1 := [.ref a0]) (w1 := w10) rfl ?_
    refine wx_gr (o := 3) (kf := 31) (ln := 3) (ci := 0) (b := 6) (zz := 0) (x := a0) (by decide +kernel) h11 ca0.1 rfl ?_
    show wp _ 3 34 [(0, .ref a0), (1, .int (Int32.ofInt x1))] [.ref (a0 + 3)] w10 _
    refine wp_g 2 (pc1 := 36) (lv1 := [(0, .ref a0), (1, .int (Int32.ofInt x1))]) (st1 := [.int (Int32.ofInt 1), .int (Int32.ofInt x1), .ref (a0 + 3)]) (w1 := w10) rfl ?_
    obtain ⟨s12, e13, hx⟩ := bd hx
    refine wx_wa (x := (a0 + 3)) (n := 8) (ln := 1) (a := 0) (b := 0) (zz := 0) (by decide +kernel) h11 (ca0.2.1 3 (by decide) (by decide)) e3 e13 (fun w14 h15 => ?_)
    refine wp_g 1 (pc1 := 38) (lv1 := [(0, .ref a0), (1, .int (Int32.ofInt x1))]) (st1 := [.ref a0]) (w1 := w14) rfl ?_
    refine wx_gr (o := 7) (kf := 43) (ln := 3) (ci := 0) (b := 10) (zz := 0) (x := a0) (by decide +kernel) h15 ca0.1 rfl ?_
    show wp _ 3 41 [(0, .ref a0), (1, .int (Int32.ofInt x1))] [.ref (a0 + 7)] w14 _
    refine wp_g 3 (pc1 := 44) (lv1 := [(0, .ref a0), (1, .int (Int32.ofInt x1))]) (st1 := [.ref a0, .int (Int32.ofInt x1), .int (Int32.ofInt x1), .ref (a0 + 7)]) (w1 := w14) rfl ?_
    refine wx_gi (kf := 9) (ln := 3) (ci := 0) (b := 0) (zz := 0) (x := a0) (by decide +kernel) h15 ca0.1 rfl ?_
    show wp _ 3 47 [(0, .ref a0), (1, .int (Int32.ofInt x1))] [.int (Int32.ofInt (s12 a0 0)), .int (Int32.ofInt x1), .int (Int32.ofInt x1), .ref (a0 + 7)] w14 _
    refine wx_ge (oo := 7) (ln := 3) (a := 54) (b := 0) (zz := 0) (by decide +kernel) (fun h16 => ?_) (fun h16 => ?_)
    · have hx := ite_f h16 hx
      refine wp_g 1 (pc1 := 55) (lv1 := [(0, .ref a0), (1, .int (Int32.ofInt x1))]) (st1 := [.int (Int32.ofInt 0), .int (Int32.ofInt x1), .ref (a0 + 7)]) (w1 := w14) rfl ?_
      obtain ⟨s17, e18, hx⟩ := bd hx
      refine wx_wa (x := (a0 + 7)) (n := 8) (ln := 1) (a := 0) (b := 0) (zz := 0) (by decide +kernel) h15 (ca0.2.1 7 (by decide) (by decide)) e3 e18 (fun w19 h20 => ?_)
      refine wp_g 2 (pc1 := 10) (lv1 := [(1, .int (Int32.ofInt (x1 + 1))), (0, .ref a0)]) (st1 := []) (w1 := w19) (by simp only [Int32.ofInt_add, Int32.ofInt_sub, Int32.ofInt_mul, Int32.ofInt_neg, p_and, p_or, p_xor, p_shl, p_shr, p_usr, p_w8, p_c16, p_lI, q_and, q_or, q_shl, q_shr, q_w32, Int64.ofInt_add, Int64.ofInt_sub, Int64.ofInt_mul, p_mx, p_mn, q_mx, q_mn]; rfl) ?_
      refine wp_lv (lv1 := [(0, .ref a0), (1, .int (Int32.ofInt (x1 + 1)))]) (lsub_p [1, 0] rfl rfl rfl) ?_
      cases hx
      exact kn _ _ rfl h20
    · have hx := ite_t h16 hx
      refine wp_g 2 (pc1 := 55) (lv1 := [(0, .ref a0), (1, .int (Int32.ofInt x1))]) (st1 := [.int (Int32.ofInt 1), .int (Int32.ofInt x1), .ref (a0 + 7)]) (w1 := w14) rfl ?_
      obtain ⟨s21, e22, hx⟩ := bd hx
      refine wx_wa (x := (a0 + 7)) (n := 8) (ln := 1) (a := 0) (b := 0) (zz := 0) (by decide +kernel) h15 (ca0.2.1 7 (by decide) (by decide)) e3 e22 (fun w23 h24 => ?_)
      refine wp_g 2 (pc1 := 10) (lv1 := [(1, .int (Int32.ofInt (x1 + 1))), (0, .ref a0)]) (st1 := []) (w1 := w23) (by simp only [Int32.ofInt_add, Int32.ofInt_sub, Int32.ofInt_mul, Int32.ofInt_neg, p_and, p_or, p_xor, p_shl, p_shr, p_usr, p_w8, p_c16, p_lI, q_and, q_or, q_shl, q_shr, q_w32, Int64.ofInt_add, Int64.ofInt_sub, Int64.ofInt_mul, p_mx, p_mn, q_mx, q_mn]; rfl) ?_
      refine wp_lv (lv1 := [(0, .ref a0), (1, .int (Int32.ofInt (x1 + 1)))]) (lsub_p [1, 0] rfl rfl rfl) ?_
      cases hx
      exact kn _ _ rfl h24
/-- Cloth.layOpen ()V -/
noncomputable def xl_layOpen (s : Hp) (a0 : Nat) : Option Hp :=
  (some (uh s a0 2 (s a0 0))).bind fun s1 => (lp (fun (q : Int × Hp) => xl_layOpen_b10 q.2 a0 q.1) (0, s1)).bind fun q5 => some q5.2
set_option maxRecDepth 100000 in
theorem xl_layOpen_ok {d : Nat} {P : Option Value → pm_H → Prop} {w : pm_H} {sh : Shp} {w0 : pm_H} {s : Hp} (hS : St sh) {a0 r0 : Nat} (ca0 : okC r0 sh a0) (h : Rw sh w0 s w) {o : Hp} (hx : xl_layOpen s a0 = some o) (kr : ∀ w1, Rw sh w0 o w1 → P none w1) : wp d 3 0 (lv_args 0 [.ref a0]) [] w P := by
  show wp _ 3 0 [(0, .ref a0)] [] w _
  unfold xl_layOpen at hx
  refine wp_g 2 (pc1 := 2) (lv1 := [(0, .ref a0)]) (st1 := [.ref a0, .ref a0]) (w1 := w) rfl ?_
  refine wx_gi (kf := 9) (ln := 3) (ci := 0) (b := 0) (zz := 0) (x := a0) (by decide +kernel) h ca0.1 rfl ?_
  show wp _ 3 5 [(0, .ref a0)] [.int (Int32.ofInt (s a0 0)), .ref a0] w _
  obtain ⟨s1, e2, hx⟩ := bd hx
  refine wx_pi (kf := 18) (ln := 3) (ci := 0) (b := 2) (zz := 0) (x := a0) (by decide +kernel) h ca0.1 rfl (by decide +kernel) e2 (fun w3 h4 => ?_)
  refine wp_g 2 (pc1 := 10) (lv1 := [(1, .int (Int32.ofInt 0)), (0, .ref a0)]) (st1 := []) (w1 := w3) rfl ?_
  refine wp_lv (lv1 := [(0, .ref a0), (1, .int (Int32.ofInt 0))]) (lsub_p [1, 0] rfl rfl rfl) ?_
  obtain ⟨q5, e6, hx⟩ := bd hx
  refine wp_lp (σ := Int × Hp) (ρ := (Int × Hp)) (B := fun q => xl_layOpen_b10 q.2 a0 q.1) (R := fun q w' => Rw sh w0 q.2 w') (C := fun r => ∀ w1, Rw sh w0 r.2 w1 → wp d 3 62 [(0, .ref a0), (1, .int (Int32.ofInt r.1))] [] w1 P) (lv := fun q => [(0, .ref a0), (1, .int (Int32.ofInt q.1))]) (hd := 10) (fun q w' o hR hb kn kc => xl_layOpen_b10_ok hS ca0 hR hb kn kc) _ _ _ e6 h4 ?_
  intro w7 h8
  show wp _ 3 62 [(0, .ref a0), (1, .int (Int32.ofInt q5.1))] [] w7 _
  refine wp_rt (i := .return_) (r := none) (ln := 1) (a := 0) (b := 0) (z := 0) (by decide +kernel) rfl (ret_v (by decide +kernel)) ?_
  cases hx
  exact kr _ h8
noncomputable def xl_beginFlat_b17 (s : Hp) (a0 : Nat) (x2 : Int) : Option ((Int × Hp) ⊕ (Int × Hp)) :=
  if w32 x2 < w32 8 then (ix 8 x2).bind fun i2 => (some (uh s (a0 + 4) i2 (-1))).bind fun s4 => (some (uh s4 (a0 + 5) i2 1)).bind fun s8 => (some (uh s8 (a0 + 6) i2 0)).bind fun s12 => some (.inl (x2 + 1, s12)) else some (.inr (x2, s))
set_option maxRecDepth 100000 in
theorem xl_beginFlat_b17_ok {d : Nat} {P : Option Value → pm_H → Prop} {w : pm_H} {sh : Shp} {w0 : pm_H} {s : Hp} (hS : St sh) {a0 r0 : Nat} (ca0 : okC r0 sh a0) {x2 : Int} (h : Rw sh w0 s w) {o : ((Int × Hp) ⊕ (Int × Hp))} (hx : xl_beginFlat_b17 s a0 x2 = some o) (kn : ∀ (q : Int × Hp) w1, o = .inl q → Rw sh w0 q.2 w1 → wp (d + 1) 2 17 [(0, .ref a0), (2, .int (Int32.ofInt q.1))] [] w1 P) (kc : ∀ (r : (Int × Hp)), o = .inr r → (∀ w1, Rw sh w0 r.2 w1 → wp (d + 1) 2 50 [(0, .ref a0), (2, .int (Int32.ofInt r.1))] [] w1 P)) : wp (d + 1) 2 17 [(0, .ref a0), (2, .int (Int32.ofInt x2))] [] w P := by
  unfold xl_beginFlat_b17 at hx
  refine wp_g 2 (pc1 := 20) (lv1 := [(0, .ref a0), (2, .int (Int32.ofInt x2))]) (st1 := [.int (Int32.ofInt 8), .int (Int32.ofInt x2)]) (w1 := w) rfl ?_
  refine wx_ge (oo := 30) (ln := 3) (a := 50) (b := 0) (zz := 0) (by decide +kernel) (fun h1 => ?_) (fun h1 => ?_)
  · have hx := ite_f h1 hx
    cases hx
    exact kc _ rfl _ h
  · have hx := ite_t h1 hx
    refine wp_g 1 (pc1 := 24) (lv1 := [(0, .ref a0), (2, .int (Int32.ofInt x2))]) (st1 := [.ref a0]) (w1 := w) rfl ?_
    refine wx_gr (o := 4) (kf := 34) (ln := 3) (ci := 0) (b := 7) (zz := 0) (x := a0) (by decide +kernel) h ca0.1 rfl ?_
    show wp _ 2 27 [(0, .ref a0), (2, .int (Int32.ofInt x2))] [.ref (a0 + 4)] w _
    refine wp_g 2 (pc1 := 29) (lv1 := [(0, .ref a0), (2, .int (Int32.ofInt x2))]) (st1 := [.int (Int32.ofInt (-1)), .int (Int32.ofInt x2), .ref (a0 + 4)]) (w1 := w) rfl ?_
    obtain ⟨i2, e3, hx⟩ := bd hx
    obtain ⟨s4, e5, hx⟩ := bd hx
    refine wx_wa (x := (a0 + 4)) (n := 8) (ln := 1) (a := 0) (b := 0) (zz := 0) (by decide +kernel) h (ca0.2.1 4 (by decide) (by decide)) e3 e5 (fun w6 h7 => ?_)
    refine wp_g 1 (pc1 := 31) (lv1 := [(0, .ref a0), (2, .int (Int32.ofInt x2))]) (st1 := [.ref a0]) (w1 := w6) rfl ?_
    refine wx_gr (o := 5) (kf := 37) (ln := 3) (ci := 0) (b := 8) (zz := 0) (x := a0) (by decide +kernel) h7 ca0.1 rfl ?_
    show wp _ 2 34 [(0, .ref a0), (2, .int (Int32.ofInt x2))] [.ref (a0 + 5)] w6 _
    refine wp_g 2 (pc1 := 36) (lv1 := [(0, .ref a0), (2, .int (Int32.ofInt x2))]) (st1 := [.int (Int32.ofInt 1), .int (Int32.ofInt x2), .ref (a0 + 5)]) (w1 := w6) rfl ?_
    obtain ⟨s8, e9, hx⟩ := bd hx
    refine wx_wa (x := (a0 + 5)) (n := 8) (ln := 1) (a := 0) (b := 0) (zz := 0) (by decide +kernel) h7 (ca0.2.1 5 (by decide) (by decide)) e3 e9 (fun w10 h11 => ?_)
    refine wp_g 1 (pc1 := 38) (lv1 := [(0, .ref a0), (2, .int (Int32.ofInt x2))]) (st1 := [.ref a0]) (w1 := w10) rfl ?_
    refine wx_gr (o := 6) (kf := 40) (ln := 3) (ci := 0) (b := 9) (zz := 0) (x := a0) (by decide +kernel) h11 ca0.1 rfl ?_
    show wp _ 2 41 [(0, .ref a0), (2, .int (Int32.ofInt x2))] [.ref (a0 + 6)] w10 _
    refine wp_g 2 (pc1 := 43) (lv1 := [(0, .ref a0), (2, .int (Int32.ofInt x2))]) (st1 := [.int (Int32.ofInt 0), .int (Int32.ofInt x2), .ref (a0 + 6)]) (w1 := w10) rfl ?_
    obtain ⟨s12, e13, hx⟩ := bd hx
    refine wx_wa (x := (a0 + 6)) (n := 8) (ln := 1) (a := 0) (b := 0) (zz := 0) (by decide +kernel) h11 (ca0.2.1 6 (by decide) (by decide)) e3 e13 (fun w14 h15 => ?_)
    refine wp_g 2 (pc1 := 17) (lv1 := [(2, .int (Int32.ofInt (x2 + 1))), (0, .ref a0)]) (st1 := []) (w1 := w14) (by simp only [Int32.ofInt_add, Int32.ofInt_sub, Int32.ofInt_mul, Int32.ofInt_neg, p_and, p_or, p_xor, p_shl, p_shr, p_usr, p_w8, p_c16, p_lI, q_and, q_or, q_shl, q_shr, q_w32, Int64.ofInt_add, Int64.ofInt_sub, Int64.ofInt_mul, p_mx, p_mn, q_mx, q_mn]; rfl) ?_
    refine wp_lv (lv1 := [(0, .ref a0), (2, .int (Int32.ofInt (x2 + 1)))]) (lsub_p [1, 0] rfl rfl rfl) ?_
    cases hx
    exact kn _ _ rfl h15
/-- Cloth.beginFlat (I)V -/
noncomputable def xl_beginFlat (s : Hp) (a0 : Nat) (p1 : Int) : Option Hp :=
  (some (uh s a0 0 p1)).bind fun s1 => (some (uh s1 a0 1 0)).bind fun s5 => (some (uh s5 a0 3 0)).bind fun s9 => (lp (fun (q : Int × Hp) => xl_beginFlat_b17 q.2 a0 q.1) (0, s9)).bind fun q13 => (xl_layOpen q13.2 a0).bind fun o17 => some o17
set_option maxRecDepth 100000 in
theorem xl_beginFlat_ok {d : Nat} {P : Option Value → pm_H → Prop} {w : pm_H} {sh : Shp} {w0 : pm_H} {s : Hp} (hS : St sh) {a0 r0 : Nat} (ca0 : okC r0 sh a0) {p1 : Int} (h : Rw sh w0 s w) {o : Hp} (hx : xl_beginFlat s a0 p1 = some o) (kr : ∀ w1, Rw sh w0 o w1 → P none w1) : wp (d + 1) 2 0 (lv_args 0 [.ref a0, .int (Int32.ofInt p1)]) [] w P := by
  show wp _ 2 0 [(0, .ref a0), (1, .int (Int32.ofInt p1))] [] w _
  unfold xl_beginFlat at hx
  refine wp_g 2 (pc1 := 2) (lv1 := [(0, .ref a0), (1, .int (Int32.ofInt p1))]) (st1 := [.int (Int32.ofInt p1), .ref a0]) (w1 := w) rfl ?_
  obtain ⟨s1, e2, hx⟩ := bd hx
  refine wx_pi (kf := 9) (ln := 3) (ci := 0) (b := 0) (zz := 0) (x := a0) (by decide +kernel) h ca0.1 rfl (by decide +kernel) e2 (fun w3 h4 => ?_)
  refine wp_g 2 (pc1 := 7) (lv1 := [(0, .ref a0), (1, .int (Int32.ofInt p1))]) (st1 := [.int (Int32.ofInt 0), .ref a0]) (w1 := w3) rfl ?_
  obtain ⟨s5, e6, hx⟩ := bd hx
  refine wx_pi (kf := 15) (ln := 3) (ci := 0) (b := 1) (zz := 0) (x := a0) (by decide +kernel) h4 ca0.1 rfl (by decide +kernel) e6 (fun w7 h8 => ?_)
  refine wp_g 2 (pc1 := 12) (lv1 := [(0, .ref a0), (1, .int (Int32.ofInt p1))]) (st1 := [.int (Int32.ofInt 0), .ref a0]) (w1 := w7) rfl ?_
  obtain ⟨s9, e10, hx⟩ := bd hx
  refine wx_pi (kf := 21) (ln := 3) (ci := 0) (b := 3) (zz := 0) (x := a0) (by decide +kernel) h8 ca0.1 rfl (by decide +kernel) e10 (fun w11 h12 => ?_)
  refine wp_g 2 (pc1 := 17) (lv1 := [(2, .int (Int32.ofInt 0)), (0, .ref a0), (1, .int (Int32.ofInt p1))]) (st1 := []) (w1 := w11) rfl ?_
  refine wp_lv (lv1 := [(0, .ref a0), (2, .int (Int32.ofInt 0))]) (lsub_p [1, 0] rfl rfl rfl) ?_
  obtain ⟨q13, e14, hx⟩ := bd hx
  refine wp_lp (σ := Int × Hp) (ρ := (Int × Hp)) (B := fun q => xl_beginFlat_b17 q.2 a0 q.1) (R := fun q w' => Rw sh w0 q.2 w') (C := fun r => ∀ w1, Rw sh w0 r.2 w1 → wp (d + 1) 2 50 [(0, .ref a0), (2, .int (Int32.ofInt r.1))] [] w1 P) (lv := fun q => [(0, .ref a0), (2, .int (Int32.ofInt q.1))]) (hd := 17) (fun q w' o hR hb kn kc => xl_beginFlat_b17_ok hS ca0 hR hb kn kc) _ _ _ e14 h12 ?_
  intro w15 h16
  show wp _ 2 50 [(0, .ref a0), (2, .int (Int32.ofInt q13.1))] [] w15 _
  refine wp_g 1 (pc1 := 51) (lv1 := [(0, .ref a0), (2, .int (Int32.ofInt q13.1))]) (st1 := [.ref a0]) (w1 := w15) rfl ?_
  obtain ⟨o17, e18, hx⟩ := bd hx
  refine wp_cl [.ref a0] [] (i := .invokevirtual 55) (ln := 3) (a := 3) (b := 0) (z := 0) (by decide +kernel) rfl rfl (by decide) rfl (show (1 : Nat) = pm_na 3 by decide +kernel) (Nat.le_of_ble_eq_true rfl) (show (1 : Nat) ≤ pm_n 3 by decide +kernel) (rcv_x 0 h16 ca0.1 (by decide +kernel)) (xl_layOpen_ok (d := d) hS ca0 h16 e18 (fun w19 h20 => ?_))
  show wp _ 2 54 [(0, .ref a0), (2, .int (Int32.ofInt q13.1))] [] w19 _
  refine wp_rt (i := .return_) (r := none) (ln := 1) (a := 0) (b := 0) (z := 0) (by decide +kernel) rfl (ret_v (by decide +kernel)) ?_
  cases hx
  exact kr _ h20
/-- Cloth.liesOpen ()Z -/
noncomputable def xl_liesOpen (s : Hp) (a0 : Nat) : Option Int :=
  if w32 (s a0 2) = w32 (s a0 0) then some 1 else some 0
set_option maxRecDepth 100000 in
theorem xl_liesOpen_ok {d : Nat} {P : Option Value → pm_H → Prop} {w : pm_H} {sh : Shp} {w0 : pm_H} {s : Hp} (hS : St sh) {a0 r0 : Nat} (ca0 : okC r0 sh a0) (h : Rw sh w0 s w) {o : Int} (hx : xl_liesOpen s a0 = some o) (kr : P (some (.int (Int32.ofInt o))) w) : wp d 4 0 (lv_args 0 [.ref a0]) [] w P := by
  show wp _ 4 0 [(0, .ref a0)] [] w _
  unfold xl_liesOpen at hx
  refine wp_g 1 (pc1 := 1) (lv1 := [(0, .ref a0)]) (st1 := [.ref a0]) (w1 := w) rfl ?_
  refine wx_gi (kf := 18) (ln := 3) (ci := 0) (b := 2) (zz := 0) (x := a0) (by decide +kernel) h ca0.1 rfl ?_
  show wp _ 4 4 [(0, .ref a0)] [.int (Int32.ofInt (s a0 2))] w _
  refine wp_g 1 (pc1 := 5) (lv1 := [(0, .ref a0)]) (st1 := [.ref a0, .int (Int32.ofInt (s a0 2))]) (w1 := w) rfl ?_
  refine wx_gi (kf := 9) (ln := 3) (ci := 0) (b := 0) (zz := 0) (x := a0) (by decide +kernel) h ca0.1 rfl ?_
  show wp _ 4 8 [(0, .ref a0)] [.int (Int32.ofInt (s a0 0)), .int (Int32.ofInt (s a0 2))] w _
  refine wx_ne (oo := 7) (ln := 3) (a := 15) (b := 0) (zz := 0) (by decide +kernel) (fun h1 => ?_) (fun h1 => ?_)
  · have hx := ite_f h1 hx
    refine wp_g 1 (pc1 := 16) (lv1 := [(0, .ref a0)]) (st1 := [.int (Int32.ofInt 0)]) (w1 := w) rfl ?_
    refine wp_rt (i := .ireturn) (r := some (.int (Int32.ofInt 0))) (ln := 1) (a := 0) (b := 0) (z := 0) (by decide +kernel) rfl (ret_b (by decide +kernel) (Or.inl rfl)) ?_
    cases hx
    exact kr
  · have hx := ite_t h1 hx
    refine wp_g 2 (pc1 := 16) (lv1 := [(0, .ref a0)]) (st1 := [.int (Int32.ofInt 1)]) (w1 := w) rfl ?_
    refine wp_rt (i := .ireturn) (r := some (.int (Int32.ofInt 1))) (ln := 1) (a := 0) (b := 0) (z := 0) (by decide +kernel) rfl (ret_b (by decide +kernel) (Or.inr rfl)) ?_
    cases hx
    exact kr
/-- Cloth.hasCell (I)Z -/
noncomputable def xl_hasCell (s : Hp) (a0 : Nat) (p1 : Int) : Option Int :=
  if w32 p1 < 0 then some 0 else if w32 p1 < w32 (s a0 0) then some 1 else some 0
set_option maxRecDepth 100000 in
theorem xl_hasCell_ok {d : Nat} {P : Option Value → pm_H → Prop} {w : pm_H} {sh : Shp} {w0 : pm_H} {s : Hp} (hS : St sh) {a0 r0 : Nat} (ca0 : okC r0 sh a0) {p1 : Int} (h : Rw sh w0 s w) {o : Int} (hx : xl_hasCell s a0 p1 = some o) (kr : P (some (.int (Int32.ofInt o))) w) : wp d 5 0 (lv_args 0 [.ref a0, .int (Int32.ofInt p1)]) [] w P := by
  show wp _ 5 0 [(0, .ref a0), (1, .int (Int32.ofInt p1))] [] w _
  unfold xl_hasCell at hx
  refine wp_g 1 (pc1 := 1) (lv1 := [(0, .ref a0), (1, .int (Int32.ofInt p1))]) (st1 := [.int (Int32.ofInt p1)]) (w1 := w) rfl ?_
  refine wz_lt (oo := 15) (ln := 3) (a := 16) (b := 0) (zz := 0) (by decide +kernel) (fun h1 => ?_) (fun h1 => ?_)
  · have hx := ite_t h1 hx
    refine wp_g 1 (pc1 := 17) (lv1 := [(0, .ref a0), (1, .int (Int32.ofInt p1))]) (st1 := [.int (Int32.ofInt 0)]) (w1 := w) rfl ?_
    refine wp_rt (i := .ireturn) (r := some (.int (Int32.ofInt 0))) (ln := 1) (a := 0) (b := 0) (z := 0) (by decide +kernel) rfl (ret_b (by decide +kernel) (Or.inl rfl)) ?_
    cases hx
    exact kr
  · have hx := ite_f h1 hx
    refine wp_g 2 (pc1 := 6) (lv1 := [(0, .ref a0), (1, .int (Int32.ofInt p1))]) (st1 := [.ref a0, .int (Int32.ofInt p1)]) (w1 := w) rfl ?_
    refine wx_gi (kf := 9) (ln := 3) (ci := 0) (b := 0) (zz := 0) (x := a0) (by decide +kernel) h ca0.1 rfl ?_
    show wp _ 5 9 [(0, .ref a0), (1, .int (Int32.ofInt p1))] [.int (Int32.ofInt (s a0 0)), .int (Int32.ofInt p1)] w _
    refine wx_ge (oo := 7) (ln := 3) (a := 16) (b := 0) (zz := 0) (by decide +kernel) (fun h2 => ?_) (fun h2 => ?_)
    · have hx := ite_f h2 hx
      refine wp_g 1 (pc1 := 17) (lv1 := [(0, .ref a0), (1, .int (Int32.ofInt p1))]) (st1 := [.int (Int32.ofInt 0)]) (w1 := w) rfl ?_
      refine wp_rt (i := .ireturn) (r := some (.int (Int32.ofInt 0))) (ln := 1) (a := 0) (b := 0) (z := 0) (by decide +kernel) rfl (ret_b (by decide +kernel) (Or.inl rfl)) ?_
      cases hx
      exact kr
    · have hx := ite_t h2 hx
      refine wp_g 2 (pc1 := 17) (lv1 := [(0, .ref a0), (1, .int (Int32.ofInt p1))]) (st1 := [.int (Int32.ofInt 1)]) (w1 := w) rfl ?_
      refine wp_rt (i := .ireturn) (r := some (.int (Int32.ofInt 1))) (ln := 1) (a := 0) (b := 0) (z := 0) (by decide +kernel) rfl (ret_b (by decide +kernel) (Or.inr rfl)) ?_
      cases hx
      exact kr
/-- Cloth.hasJoint (I)Z -/
noncomputable def xl_hasJoint (s : Hp) (a0 : Nat) (p1 : Int) : Option Int :=
  if w32 p1 < 0 then some 0 else if w32 p1 < w32 ((s a0 0) - 1) then some 1 else some 0
set_option maxRecDepth 100000 in
theorem xl_hasJoint_ok {d : Nat} {P : Option Value → pm_H → Prop} {w : pm_H} {sh : Shp} {w0 : pm_H} {s : Hp} (hS : St sh) {a0 r0 : Nat} (ca0 : okC r0 sh a0) {p1 : Int} (h : Rw sh w0 s w) {o : Int} (hx : xl_hasJoint s a0 p1 = some o) (kr : P (some (.int (Int32.ofInt o))) w) : wp d 6 0 (lv_args 0 [.ref a0, .int (Int32.ofInt p1)]) [] w P := by
  show wp _ 6 0 [(0, .ref a0), (1, .int (Int32.ofInt p1))] [] w _
  unfold xl_hasJoint at hx
  refine wp_g 1 (pc1 := 1) (lv1 := [(0, .ref a0), (1, .int (Int32.ofInt p1))]) (st1 := [.int (Int32.ofInt p1)]) (w1 := w) rfl ?_
  refine wz_lt (oo := 17) (ln := 3) (a := 18) (b := 0) (zz := 0) (by decide +kernel) (fun h1 => ?_) (fun h1 => ?_)
  · have hx := ite_t h1 hx
    refine wp_g 1 (pc1 := 19) (lv1 := [(0, .ref a0), (1, .int (Int32.ofInt p1))]) (st1 := [.int (Int32.ofInt 0)]) (w1 := w) rfl ?_
    refine wp_rt (i := .ireturn) (r := some (.int (Int32.ofInt 0))) (ln := 1) (a := 0) (b := 0) (z := 0) (by decide +kernel) rfl (ret_b (by decide +kernel) (Or.inl rfl)) ?_
    cases hx
    exact kr
  · have hx := ite_f h1 hx
    refine wp_g 2 (pc1 := 6) (lv1 := [(0, .ref a0), (1, .int (Int32.ofInt p1))]) (st1 := [.ref a0, .int (Int32.ofInt p1)]) (w1 := w) rfl ?_
    refine wx_gi (kf := 9) (ln := 3) (ci := 0) (b := 0) (zz := 0) (x := a0) (by decide +kernel) h ca0.1 rfl ?_
    show wp _ 6 9 [(0, .ref a0), (1, .int (Int32.ofInt p1))] [.int (Int32.ofInt (s a0 0)), .int (Int32.ofInt p1)] w _
    refine wp_g 2 (pc1 := 11) (lv1 := [(0, .ref a0), (1, .int (Int32.ofInt p1))]) (st1 := [.int (Int32.ofInt ((s a0 0) - 1)), .int (Int32.ofInt p1)]) (w1 := w) (by simp only [Int32.ofInt_add, Int32.ofInt_sub, Int32.ofInt_mul, Int32.ofInt_neg, p_and, p_or, p_xor, p_shl, p_shr, p_usr, p_w8, p_c16, p_lI, q_and, q_or, q_shl, q_shr, q_w32, Int64.ofInt_add, Int64.ofInt_sub, Int64.ofInt_mul, p_mx, p_mn, q_mx, q_mn]; rfl) ?_
    refine wx_ge (oo := 7) (ln := 3) (a := 18) (b := 0) (zz := 0) (by decide +kernel) (fun h2 => ?_) (fun h2 => ?_)
    · have hx := ite_f h2 hx
      refine wp_g 1 (pc1 := 19) (lv1 := [(0, .ref a0), (1, .int (Int32.ofInt p1))]) (st1 := [.int (Int32.ofInt 0)]) (w1 := w) rfl ?_
      refine wp_rt (i := .ireturn) (r := some (.int (Int32.ofInt 0))) (ln := 1) (a := 0) (b := 0) (z := 0) (by decide +kernel) rfl (ret_b (by decide +kernel) (Or.inl rfl)) ?_
      cases hx
      exact kr
    · have hx := ite_t h2 hx
      refine wp_g 2 (pc1 := 19) (lv1 := [(0, .ref a0), (1, .int (Int32.ofInt p1))]) (st1 := [.int (Int32.ofInt 1)]) (w1 := w) rfl ?_
      refine wp_rt (i := .ireturn) (r := some (.int (Int32.ofInt 1))) (ln := 1) (a := 0) (b := 0) (z := 0) (by decide +kernel) rfl (ret_b (by decide +kernel) (Or.inr rfl)) ?_
      cases hx
      exact kr
/-- Cloth.hasPerson (I)Z -/
noncomputable def xl_hasPerson (s : Hp) (a0 : Nat) (p1 : Int) : Option Int :=
  if w32 p1 < 0 then some 0 else if w32 p1 < w32 (s a0 1) then some 1 else some 0
set_option maxRecDepth 100000 in
theorem xl_hasPerson_ok {d : Nat} {P : Option Value → pm_H → Prop} {w : pm_H} {sh : Shp} {w0 : pm_H} {s : Hp} (hS : St sh) {a0 r0 : Nat} (ca0 : okC r0 sh a0) {p1 : Int} (h : Rw sh w0 s w) {o : Int} (hx : xl_hasPerson s a0 p1 = some o) (kr : P (some (.int (Int32.ofInt o))) w) : wp d 7 0 (lv_args 0 [.ref a0, .int (Int32.ofInt p1)]) [] w P := by
  show wp _ 7 0 [(0, .ref a0), (1, .int (Int32.ofInt p1))] [] w _
  unfold xl_hasPerson at hx
  refine wp_g 1 (pc1 := 1) (lv1 := [(0, .ref a0), (1, .int (Int32.ofInt p1))]) (st1 := [.int (Int32.ofInt p1)]) (w1 := w) rfl ?_
  refine wz_lt (oo := 15) (ln := 3) (a := 16) (b := 0) (zz := 0) (by decide +kernel) (fun h1 => ?_) (fun h1 => ?_)
  · have hx := ite_t h1 hx
    refine wp_g 1 (pc1 := 17) (lv1 := [(0, .ref a0), (1, .int (Int32.ofInt p1))]) (st1 := [.int (Int32.ofInt 0)]) (w1 := w) rfl ?_
    refine wp_rt (i := .ireturn) (r := some (.int (Int32.ofInt 0))) (ln := 1) (a := 0) (b := 0) (z := 0) (by decide +kernel) rfl (ret_b (by decide +kernel) (Or.inl rfl)) ?_
    cases hx
    exact kr
  · have hx := ite_f h1 hx
    refine wp_g 2 (pc1 := 6) (lv1 := [(0, .ref a0), (1, .int (Int32.ofInt p1))]) (st1 := [.ref a0, .int (Int32.ofInt p1)]) (w1 := w) rfl ?_
    refine wx_gi (kf := 15) (ln := 3) (ci := 0) (b := 1) (zz := 0) (x := a0) (by decide +kernel) h ca0.1 rfl ?_
    show wp _ 7 9 [(0, .ref a0), (1, .int (Int32.ofInt p1))] [.int (Int32.ofInt (s a0 1)), .int (Int32.ofInt p1)] w _
    refine wx_ge (oo := 7) (ln := 3) (a := 16) (b := 0) (zz := 0) (by decide +kernel) (fun h2 => ?_) (fun h2 => ?_)
    · have hx := ite_f h2 hx
      refine wp_g 1 (pc1 := 17) (lv1 := [(0, .ref a0), (1, .int (Int32.ofInt p1))]) (st1 := [.int (Int32.ofInt 0)]) (w1 := w) rfl ?_
      refine wp_rt (i := .ireturn) (r := some (.int (Int32.ofInt 0))) (ln := 1) (a := 0) (b := 0) (z := 0) (by decide +kernel) rfl (ret_b (by decide +kernel) (Or.inl rfl)) ?_
      cases hx
      exact kr
    · have hx := ite_t h2 hx
      refine wp_g 2 (pc1 := 17) (lv1 := [(0, .ref a0), (1, .int (Int32.ofInt p1))]) (st1 := [.int (Int32.ofInt 1)]) (w1 := w) rfl ?_
      refine wp_rt (i := .ireturn) (r := some (.int (Int32.ofInt 1))) (ln := 1) (a := 0) (b := 0) (z := 0) (by decide +kernel) rfl (ret_b (by decide +kernel) (Or.inr rfl)) ?_
      cases hx
      exact kr
/-- Cloth.hasFold (III)Z -/
noncomputable def xl_hasFold (s : Hp) (a0 : Nat) (p1 : Int) (p2 : Int) (p3 : Int) : Option Int :=
  if w32 p1 < 0 then some 0 else if w32 p1 < w32 ((s a0 2) - 1) then if w32 p2 < 0 then some 0 else if w32 1 < w32 p2 then some 0 else if w32 p3 < 0 then some 0 else if w32 1 < w32 p3 then some 0 else some 1 else some 0
set_option maxRecDepth 100000 in
theorem xl_hasFold_ok {d : Nat} {P : Option Value → pm_H → Prop} {w : pm_H} {sh : Shp} {w0 : pm_H} {s : Hp} (hS : St sh) {a0 r0 : Nat} (ca0 : okC r0 sh a0) {p1 : Int} {p2 : Int} {p3 : Int} (h : Rw sh w0 s w) {o : Int} (hx : xl_hasFold s a0 p1 p2 p3 = some o) (kr : P (some (.int (Int32.ofInt o))) w) : wp d 8 0 (lv_args 0 [.ref a0, .int (Int32.ofInt p1), .int (Int32.ofInt p2), .int (Int32.ofInt p3)]) [] w P := by
  show wp _ 8 0 [(0, .ref a0), (1, .int (Int32.ofInt p1)), (2, .int (Int32.ofInt p2)), (3, .int (Int32.ofInt p3))] [] w _
  unfold xl_hasFold at hx
  refine wp_g 1 (pc1 := 1) (lv1 := [(0, .ref a0), (1, .int (Int32.ofInt p1)), (2, .int (Int32.ofInt p2)), (3, .int (Int32.ofInt p3))]) (st1 := [.int (Int32.ofInt p1)]) (w1 := w) rfl ?_
  refine wz_lt (oo := 35) (ln := 3) (a := 36) (b := 0) (zz := 0) (by decide +kernel) (fun h1 => ?_) (fun h1 => ?_)
  · have hx := ite_t h1 hx
    refine wp_g 1 (pc1 := 37) (lv1 := [(0, .ref a0), (1, .int (Int32.ofInt p1)), (2, .int (Int32.ofInt p2)), (3, .int (Int32.ofInt p3))]) (st1 := [.int (Int32.ofInt 0)]) (w1 := w) rfl ?_
    refine wp_rt (i := .ireturn) (r := some (.int (Int32.ofInt 0))) (ln := 1) (a := 0) (b := 0) (z := 0) (by decide +kernel) rfl (ret_b (by decide +kernel) (Or.inl rfl)) ?_
    cases hx
    exact kr
  · have hx := ite_f h1 hx
    refine wp_g 2 (pc1 := 6) (lv1 := [(0, .ref a0), (1, .int (Int32.ofInt p1)), (2, .int (Int32.ofInt p2)), (3, .int (Int32.ofInt p3))]) (st1 := [.ref a0, .int (Int32.ofInt p1)]) (w1 := w) rfl ?_
    refine wx_gi (kf := 18) (ln := 3) (ci := 0) (b := 2) (zz := 0) (x := a0) (by decide +kernel) h ca0.1 rfl ?_
    show wp _ 8 9 [(0, .ref a0), (1, .int (Int32.ofInt p1)), (2, .int (Int32.ofInt p2)), (3, .int (Int32.ofInt p3))] [.int (Int32.ofInt (s a0 2)), .int (Int32.ofInt p1)] w _
    refine wp_g 2 (pc1 := 11) (lv1 := [(0, .ref a0), (1, .int (Int32.ofInt p1)), (2, .int (Int32.ofInt p2)), (3, .int (Int32.ofInt p3))]) (st1 := [.int (Int32.ofInt ((s a0 2) - 1)), .int (Int32.ofInt p1)]) (w1 := w) (by simp only [Int32.ofInt_add, Int32.ofInt_sub, Int32.ofInt_mul, Int32.ofInt_neg, p_and, p_or, p_xor, p_shl, p_shr, p_usr, p_w8, p_c16, p_lI, q_and, q_or, q_shl, q_shr, q_w32, Int64.ofInt_add, Int64.ofInt_sub, Int64.ofInt_mul, p_mx, p_mn, q_mx, q_mn]; rfl) ?_
    refine wx_ge (oo := 25) (ln := 3) (a := 36) (b := 0) (zz := 0) (by decide +kernel) (fun h2 => ?_) (fun h2 => ?_)
    · have hx := ite_f h2 hx
      refine wp_g 1 (pc1 := 37) (lv1 := [(0, .ref a0), (1, .int (Int32.ofInt p1)), (2, .int (Int32.ofInt p2)), (3, .int (Int32.ofInt p3))]) (st1 := [.int (Int32.ofInt 0)]) (w1 := w) rfl ?_
      refine wp_rt (i := .ireturn) (r := some (.int (Int32.ofInt 0))) (ln := 1) (a := 0) (b := 0) (z := 0) (by decide +kernel) rfl (ret_b (by decide +kernel) (Or.inl rfl)) ?_
      cases hx
      exact kr
    · have hx := ite_t h2 hx
      refine wp_g 1 (pc1 := 15) (lv1 := [(0, .ref a0), (1, .int (Int32.ofInt p1)), (2, .int (Int32.ofInt p2)), (3, .int (Int32.ofInt p3))]) (st1 := [.int (Int32.ofInt p2)]) (w1 := w) rfl ?_
      refine wz_lt (oo := 21) (ln := 3) (a := 36) (b := 0) (zz := 0) (by decide +kernel) (fun h3 => ?_) (fun h3 => ?_)
      · have hx := ite_t h3 hx
        refine wp_g 1 (pc1 := 37) (lv1 := [(0, .ref a0), (1, .int (Int32.ofInt p1)), (2, .int (Int32.ofInt p2)), (3, .int (Int32.ofInt p3))]) (st1 := [.int (Int32.ofInt 0)]) (w1 := w) rfl ?_
        refine wp_rt (i := .ireturn) (r := some (.int (Int32.ofInt 0))) (ln := 1) (a := 0) (b := 0) (z := 0) (by decide +kernel) rfl (ret_b (by decide +kernel) (Or.inl rfl)) ?_
        cases hx
        exact kr
      · have hx := ite_f h3 hx
        refine wp_g 2 (pc1 := 20) (lv1 := [(0, .ref a0), (1, .int (Int32.ofInt p1)), (2, .int (Int32.ofInt p2)), (3, .int (Int32.ofInt p3))]) (st1 := [.int (Int32.ofInt 1), .int (Int32.ofInt p2)]) (w1 := w) rfl ?_
        refine wx_gt (oo := 16) (ln := 3) (a := 36) (b := 0) (zz := 0) (by decide +kernel) (fun h4 => ?_) (fun h4 => ?_)
        · have hx := ite_t h4 hx
          refine wp_g 1 (pc1 := 37) (lv1 := [(0, .ref a0), (1, .int (Int32.ofInt p1)), (2, .int (Int32.ofInt p2)), (3, .int (Int32.ofInt p3))]) (st1 := [.int (Int32.ofInt 0)]) (w1 := w) rfl ?_
          refine wp_rt (i := .ireturn) (r := some (.int (Int32.ofInt 0))) (ln := 1) (a := 0) (b := 0) (z := 0) (by decide +kernel) rfl (ret_b (by decide +kernel) (Or.inl rfl)) ?_
          cases hx
          exact kr
        · have hx := ite_f h4 hx
          refine wp_g 1 (pc1 := 24) (lv1 := [(0, .ref a0), (1, .int (Int32.ofInt p1)), (2, .int (Int32.ofInt p2)), (3, .int (Int32.ofInt p3))]) (st1 := [.int (Int32.ofInt p3)]) (w1 := w) rfl ?_
          refine wz_lt (oo := 12) (ln := 3) (a := 36) (b := 0) (zz := 0) (by decide +kernel) (fun h5 => ?_) (fun h5 => ?_)
          · have hx := ite_t h5 hx
            refine wp_g 1 (pc1 := 37) (lv1 := [(0, .ref a0), (1, .int (Int32.ofInt p1)), (2, .int (Int32.ofInt p2)), (3, .int (Int32.ofInt p3))]) (st1 := [.int (Int32.ofInt 0)]) (w1 := w) rfl ?_
            refine wp_rt (i := .ireturn) (r := some (.int (Int32.ofInt 0))) (ln := 1) (a := 0) (b := 0) (z := 0) (by decide +kernel) rfl (ret_b (by decide +kernel) (Or.inl rfl)) ?_
            cases hx
            exact kr
          · have hx := ite_f h5 hx
            refine wp_g 2 (pc1 := 29) (lv1 := [(0, .ref a0), (1, .int (Int32.ofInt p1)), (2, .int (Int32.ofInt p2)), (3, .int (Int32.ofInt p3))]) (st1 := [.int (Int32.ofInt 1), .int (Int32.ofInt p3)]) (w1 := w) rfl ?_
            refine wx_gt (oo := 7) (ln := 3) (a := 36) (b := 0) (zz := 0) (by decide +kernel) (fun h6 => ?_) (fun h6 => ?_)
            · have hx := ite_t h6 hx
              refine wp_g 1 (pc1 := 37) (lv1 := [(0, .ref a0), (1, .int (Int32.ofInt p1)), (2, .int (Int32.ofInt p2)), (3, .int (Int32.ofInt p3))]) (st1 := [.int (Int32.ofInt 0)]) (w1 := w) rfl ?_
              refine wp_rt (i := .ireturn) (r := some (.int (Int32.ofInt 0))) (ln := 1) (a := 0) (b := 0) (z := 0) (by decide +kernel) rfl (ret_b (by decide +kernel) (Or.inl rfl)) ?_
              cases hx
              exact kr
            · have hx := ite_f h6 hx
              refine wp_g 2 (pc1 := 37) (lv1 := [(0, .ref a0), (1, .int (Int32.ofInt p1)), (2, .int (Int32.ofInt p2)), (3, .int (Int32.ofInt p3))]) (st1 := [.int (Int32.ofInt 1)]) (w1 := w) rfl ?_
              refine wp_rt (i := .ireturn) (r := some (.int (Int32.ofInt 1))) (ln := 1) (a := 0) (b := 0) (z := 0) (by decide +kernel) rfl (ret_b (by decide +kernel) (Or.inr rfl)) ?_
              cases hx
              exact kr
/-- Cloth.foldCount ()I -/
noncomputable def xl_foldCount (s : Hp) (a0 : Nat) : Option Int :=
  some (mxI 0 (4 * ((s a0 2) - 1)))
set_option maxRecDepth 100000 in
theorem xl_foldCount_ok {d : Nat} {P : Option Value → pm_H → Prop} {w : pm_H} {sh : Shp} {w0 : pm_H} {s : Hp} (hS : St sh) {a0 r0 : Nat} (ca0 : okC r0 sh a0) (h : Rw sh w0 s w) {o : Int} (hx : xl_foldCount s a0 = some o) (kr : P (some (.int (Int32.ofInt o))) w) : wp (d + 6) 9 0 (lv_args 0 [.ref a0]) [] w P := by
  show wp _ 9 0 [(0, .ref a0)] [] w _
  unfold xl_foldCount at hx
  refine wp_g 3 (pc1 := 3) (lv1 := [(0, .ref a0)]) (st1 := [.ref a0, .int (Int32.ofInt 4), .int (Int32.ofInt 0)]) (w1 := w) rfl ?_
  refine wx_gi (kf := 18) (ln := 3) (ci := 0) (b := 2) (zz := 0) (x := a0) (by decide +kernel) h ca0.1 rfl ?_
  show wp _ 9 6 [(0, .ref a0)] [.int (Int32.ofInt (s a0 2)), .int (Int32.ofInt 4), .int (Int32.ofInt 0)] w _
  refine wp_g 3 (pc1 := 9) (lv1 := [(0, .ref a0)]) (st1 := [.int (Int32.ofInt (4 * ((s a0 2) - 1))), .int (Int32.ofInt 0)]) (w1 := w) (by simp only [Int32.ofInt_add, Int32.ofInt_sub, Int32.ofInt_mul, Int32.ofInt_neg, p_and, p_or, p_xor, p_shl, p_shr, p_usr, p_w8, p_c16, p_lI, q_and, q_or, q_shl, q_shr, q_w32, Int64.ofInt_add, Int64.ofInt_sub, Int64.ofInt_mul, p_mx, p_mn, q_mx, q_mn]; rfl) ?_
  refine wp_lb (i := .invokestatic 58) (ln := 3) (a := 1001) (b := 9) (z := 0) (st1 := [.int (Int32.ofInt (mxI 0 (4 * ((s a0 2) - 1))))]) (w1 := w) (by decide +kernel) rfl rfl (by decide) (by simp only [Int32.ofInt_add, Int32.ofInt_sub, Int32.ofInt_mul, Int32.ofInt_neg, p_and, p_or, p_xor, p_shl, p_shr, p_usr, p_w8, p_c16, p_lI, q_and, q_or, q_shl, q_shr, q_w32, Int64.ofInt_add, Int64.ofInt_sub, Int64.ofInt_mul, p_mx, p_mn, q_mx, q_mn]; rfl) (Nat.le_of_ble_eq_true rfl) (by omega) ?_
  refine wp_rt (i := .ireturn) (r := some (.int (Int32.ofInt (mxI 0 (4 * ((s a0 2) - 1)))))) (ln := 1) (a := 0) (b := 0) (z := 0) (by decide +kernel) rfl (ret_ok (by decide +kernel)) ?_
  cases hx
  exact kr
noncomputable def xl_cellsOf_b4 (s : Hp) (a0 : Nat) (x1 : Int) (x2 : Int) (x3 : Int) : Option ((Int × Int) ⊕ (Int × Int)) :=
  if w32 x3 < w32 (s a0 0) then (ix 8 x3).bind fun i2 => if w32 (s (a0 + 4) i2) = w32 x1 then some (.inl (bOr x2 (bShl 1 x3), x3 + 1)) else some (.inl (x2, x3 + 1)) else some (.inr (x2, x3))
set_option maxRecDepth 100000 in
theorem xl_cellsOf_b4_ok {d : Nat} {P : Option Value → pm_H → Prop} {w : pm_H} {sh : Shp} {w0 : pm_H} {s : Hp} (hS : St sh) {a0 r0 : Nat} (ca0 : okC r0 sh a0) {x1 : Int} {x2 : Int} {x3 : Int} (h : Rw sh w0 s w) {o : ((Int × Int) ⊕ (Int × Int))} (hx : xl_cellsOf_b4 s a0 x1 x2 x3 = some o) (kn : ∀ (q : Int × Int) w1, o = .inl q → w = w1 → wp d 10 4 [(0, .ref a0), (1, .int (Int32.ofInt x1)), (2, .int (Int32.ofInt q.1)), (3, .int (Int32.ofInt q.2))] [] w1 P) (kc : ∀ (r : (Int × Int)), o = .inr r → (∀ w1, w = w1 → wp d 10 34 [(0, .ref a0), (1, .int (Int32.ofInt x1)), (2, .int (Int32.ofInt r.1)), (3, .int (Int32.ofInt r.2))] [] w1 P)) : wp d 10 4 [(0, .ref a0), (1, .int (Int32.ofInt x1)), (2, .int (Int32.ofInt x2)), (3, .int (Int32.ofInt x3))] [] w P := by
  unfold xl_cellsOf_b4 at hx
  refine wp_g 2 (pc1 := 6) (lv1 := [(0, .ref a0), (1, .int (Int32.ofInt x1)), (2, .int (Int32.ofInt x2)), (3, .int (Int32.ofInt x3))]) (st1 := [.ref a0, .int (Int32.ofInt x3)]) (w1 := w) rfl ?_
  refine wx_gi (kf := 9) (ln := 3) (ci := 0) (b := 0) (zz := 0) (x := a0) (by decide +kernel) h ca0.1 rfl ?_
  show wp _ 10 9 [(0, .ref a0), (1, .int (Int32.ofInt x1)), (2, .int (Int32.ofInt x2)), (3, .int (Int32.ofInt x3))] [.int (Int32.ofInt (s a0 0)), .int (Int32.ofInt x3)] w _
  refine wx_ge (oo := 25) (ln := 3) (a := 34) (b := 0) (zz := 0) (by decide +kernel) (fun h1 => ?_) (fun h1 => ?_)
  · have hx := ite_f h1 hx
    cases hx
    exact kc _ rfl _ rfl
  · have hx := ite_t h1 hx
    refine wp_g 1 (pc1 := 13) (lv1 := [(0, .ref a0), (1, .int (Int32.ofInt x1)), (2, .int (Int32.ofInt x2)), (3, .int (Int32.ofInt x3))]) (st1 := [.ref a0]) (w1 := w) rfl ?_
    refine wx_gr (o := 4) (kf := 34) (ln := 3) (ci := 0) (b := 7) (zz := 0) (x := a0) (by decide +kernel) h ca0.1 rfl ?_
    show wp _ 10 16 [(0, .ref a0), (1, .int (Int32.ofInt x1)), (2, .int (Int32.ofInt x2)), (3, .int (Int32.ofInt x3))] [.ref (a0 + 4)] w _
    refine wp_g 1 (pc1 := 17) (lv1 := [(0, .ref a0), (1, .int (Int32.ofInt x1)), (2, .int (Int32.ofInt x2)), (3, .int (Int32.ofInt x3))]) (st1 := [.int (Int32.ofInt x3), .ref (a0 + 4)]) (w1 := w) rfl ?_
    obtain ⟨i2, e3, hx⟩ := bd hx
    refine wx_ra (x := (a0 + 4)) (n := 8) (ln := 1) (a := 0) (b := 0) (zz := 0) (by decide +kernel) h (ca0.2.1 4 (by decide) (by decide)) e3 ?_
    show wp _ 10 18 [(0, .ref a0), (1, .int (Int32.ofInt x1)), (2, .int (Int32.ofInt x2)), (3, .int (Int32.ofInt x3))] [.int (Int32.ofInt (s (a0 + 4) i2))] w _
    refine wp_g 1 (pc1 := 19) (lv1 := [(0, .ref a0), (1, .int (Int32.ofInt x1)), (2, .int (Int32.ofInt x2)), (3, .int (Int32.ofInt x3))]) (st1 := [.int (Int32.ofInt x1), .int (Int32.ofInt (s (a0 + 4) i2))]) (w1 := w) rfl ?_
    refine wx_ne (oo := 9) (ln := 3) (a := 28) (b := 0) (zz := 0) (by decide +kernel) (fun h4 => ?_) (fun h4 => ?_)
    · have hx := ite_f h4 hx
      refine wp_g 2 (pc1 := 4) (lv1 := [(3, .int (Int32.ofInt (x3 + 1))), (0, .ref a0), (1, .int (Int32.ofInt x1)), (2, .int (Int32.ofInt x2))]) (st1 := []) (w1 := w) (by simp only [Int32.ofInt_add, Int32.ofInt_sub, Int32.ofInt_mul, Int32.ofInt_neg, p_and, p_or, p_xor, p_shl, p_shr, p_usr, p_w8, p_c16, p_lI, q_and, q_or, q_shl, q_shr, q_w32, Int64.ofInt_add, Int64.ofInt_sub, Int64.ofInt_mul, p_mx, p_mn, q_mx, q_mn]; rfl) ?_
      refine wp_lv (lv1 := [(0, .ref a0), (1, .int (Int32.ofInt x1)), (2, .int (Int32.ofInt x2)), (3, .int (Int32.ofInt (x3 + 1)))]) (lsub_p [1, 2, 3, 0] rfl rfl rfl) ?_
      cases hx
      exact kn _ _ rfl rfl
    · have hx := ite_t h4 hx
      refine wp_g 8 (pc1 := 4) (lv1 := [(3, .int (Int32.ofInt (x3 + 1))), (2, .int (Int32.ofInt (bOr x2 (bShl 1 x3)))), (0, .ref a0), (1, .int (Int32.ofInt x1))]) (st1 := []) (w1 := w) (by simp only [Int32.ofInt_add, Int32.ofInt_sub, Int32.ofInt_mul, Int32.ofInt_neg, p_and, p_or, p_xor, p_shl, p_shr, p_usr, p_w8, p_c16, p_lI, q_and, q_or, q_shl, q_shr, q_w32, Int64.ofInt_add, Int64.ofInt_sub, Int64.ofInt_mul, p_mx, p_mn, q_mx, q_mn]; rfl) ?_
      refine wp_lv (lv1 := [(0, .ref a0), (1, .int (Int32.ofInt x1)), (2, .int (Int32.ofInt (bOr x2 (bShl 1 x3)))), (3, .int (Int32.ofInt (x3 + 1)))]) (lsub_p [2, 3, 1, 0] rfl rfl rfl) ?_
      cases hx
      exact kn _ _ rfl rfl
/-- Cloth.cellsOf (I)I -/
noncomputable def xl_cellsOf (s : Hp) (a0 : Nat) (p1 : Int) : Option Int :=
  (lp (fun (q : Int × Int) => xl_cellsOf_b4 s a0 p1 q.1 q.2) (0, 0)).bind fun q1 => some q1.1
set_option maxRecDepth 100000 in
theorem xl_cellsOf_ok {d : Nat} {P : Option Value → pm_H → Prop} {w : pm_H} {sh : Shp} {w0 : pm_H} {s : Hp} (hS : St sh) {a0 r0 : Nat} (ca0 : okC r0 sh a0) {p1 : Int} (h : Rw sh w0 s w) {o : Int} (hx : xl_cellsOf s a0 p1 = some o) (kr : P (some (.int (Int32.ofInt o))) w) : wp d 10 0 (lv_args 0 [.ref a0, .int (Int32.ofInt p1)]) [] w P := by
  show wp _ 10 0 [(0, .ref a0), (1, .int (Int32.ofInt p1))] [] w _
  unfold xl_cellsOf at hx
  refine wp_g 4 (pc1 := 4) (lv1 := [(3, .int (Int32.ofInt 0)), (2, .int (Int32.ofInt 0)), (0, .ref a0), (1, .int (Int32.ofInt p1))]) (st1 := []) (w1 := w) rfl ?_
  refine wp_lv (lv1 := [(0, .ref a0), (1, .int (Int32.ofInt p1)), (2, .int (Int32.ofInt 0)), (3, .int (Int32.ofInt 0))]) (lsub_p [2, 3, 1, 0] rfl rfl rfl) ?_
  obtain ⟨q1, e2, hx⟩ := bd hx
  refine wp_lp (σ := Int × Int) (ρ := (Int × Int)) (B := fun q => xl_cellsOf_b4 s a0 p1 q.1 q.2) (R := fun q w' => w = w') (C := fun r => ∀ w1, w = w1 → wp d 10 34 [(0, .ref a0), (1, .int (Int32.ofInt p1)), (2, .int (Int32.ofInt r.1)), (3, .int (Int32.ofInt r.2))] [] w1 P) (lv := fun q => [(0, .ref a0), (1, .int (Int32.ofInt p1)), (2, .int (Int32.ofInt q.1)), (3, .int (Int32.ofInt q.2))]) (hd := 4) (fun q w' o hR hb kn kc => by subst hR; exact xl_cellsOf_b4_ok hS ca0 h hb kn kc) _ _ _ e2 rfl ?_
  intro w3 h4
  subst h4
  show wp _ 10 34 [(0, .ref a0), (1, .int (Int32.ofInt p1)), (2, .int (Int32.ofInt q1.1)), (3, .int (Int32.ofInt q1.2))] [] w _
  refine wp_g 1 (pc1 := 35) (lv1 := [(0, .ref a0), (1, .int (Int32.ofInt p1)), (2, .int (Int32.ofInt q1.1)), (3, .int (Int32.ofInt q1.2))]) (st1 := [.int (Int32.ofInt q1.1)]) (w1 := w) rfl ?_
  refine wp_rt (i := .ireturn) (r := some (.int (Int32.ofInt q1.1))) (ln := 1) (a := 0) (b := 0) (z := 0) (by decide +kernel) rfl (ret_ok (by decide +kernel)) ?_
  cases hx
  exact kr
noncomputable def xl_creasedJoints_b4 (s : Hp) (a0 : Nat) (x1 : Int) (x2 : Int) : Option ((Int × Int) ⊕ (Int × Int)) :=
  if w32 x2 < w32 ((s a0 0) - 1) then (ix 8 x2).bind fun i2 => if w32 (s (a0 + 6) i2) = 0 then some (.inl (x1, x2 + 1)) else some (.inl (bOr x1 (bShl 1 x2), x2 + 1)) else some (.inr (x1, x2))
set_option maxRecDepth 100000 in
theorem xl_creasedJoints_b4_ok {d : Nat} {P : Option Value → pm_H → Prop} {w : pm_H} {sh : Shp} {w0 : pm_H} {s : Hp} (hS : St sh) {a0 r0 : Nat} (ca0 : okC r0 sh a0) {x1 : Int} {x2 : Int} (h : Rw sh w0 s w) {o : ((Int × Int) ⊕ (Int × Int))} (hx : xl_creasedJoints_b4 s a0 x1 x2 = some o) (kn : ∀ (q : Int × Int) w1, o = .inl q → w = w1 → wp d 11 4 [(0, .ref a0), (1, .int (Int32.ofInt q.1)), (2, .int (Int32.ofInt q.2))] [] w1 P) (kc : ∀ (r : (Int × Int)), o = .inr r → (∀ w1, w = w1 → wp d 11 35 [(0, .ref a0), (1, .int (Int32.ofInt r.1)), (2, .int (Int32.ofInt r.2))] [] w1 P)) : wp d 11 4 [(0, .ref a0), (1, .int (Int32.ofInt x1)), (2, .int (Int32.ofInt x2))] [] w P := by
  unfold xl_creasedJoints_b4 at hx
  refine wp_g 2 (pc1 := 6) (lv1 := [(0, .ref a0), (1, .int (Int32.ofInt x1)), (2, .int (Int32.ofInt x2))]) (st1 := [.ref a0, .int (Int32.ofInt x2)]) (w1 := w) rfl ?_
  refine wx_gi (kf := 9) (ln := 3) (ci := 0) (b := 0) (zz := 0) (x := a0) (by decide +kernel) h ca0.1 rfl ?_
  show wp _ 11 9 [(0, .ref a0), (1, .int (Int32.ofInt x1)), (2, .int (Int32.ofInt x2))] [.int (Int32.ofInt (s a0 0)), .int (Int32.ofInt x2)] w _
  refine wp_g 2 (pc1 := 11) (lv1 := [(0, .ref a0), (1, .int (Int32.ofInt x1)), (2, .int (Int32.ofInt x2))]) (st1 := [.int (Int32.ofInt ((s a0 0) - 1)), .int (Int32.ofInt x2)]) (w1 := w) (by simp only [Int32.ofInt_add, Int32.ofInt_sub, Int32.ofInt_mul, Int32.ofInt_neg, p_and, p_or, p_xor, p_shl, p_shr, p_usr, p_w8, p_c16, p_lI, q_and, q_or, q_shl, q_shr, q_w32, Int64.ofInt_add, Int64.ofInt_sub, Int64.ofInt_mul, p_mx, p_mn, q_mx, q_mn]; rfl) ?_
  refine wx_ge (oo := 24) (ln := 3) (a := 35) (b := 0) (zz := 0) (by decide +kernel) (fun h1 => ?_) (fun h1 => ?_)
  · have hx := ite_f h1 hx
    cases hx
    exact kc _ rfl _ rfl
  · have hx := ite_t h1 hx
    refine wp_g 1 (pc1 := 15) (lv1 := [(0, .ref a0), (1, .int (Int32.ofInt x1)), (2, .int (Int32.ofInt x2))]) (st1 := [.ref a0]) (w1 := w) rfl ?_
    refine wx_gr (o := 6) (kf := 40) (ln := 3) (ci := 0) (b := 9) (zz := 0) (x := a0) (by decide +kernel) h ca0.1 rfl ?_
    show wp _ 11 18 [(0, .ref a0), (1, .int (Int32.ofInt x1)), (2, .int (Int32.ofInt x2))] [.ref (a0 + 6)] w _
    refine wp_g 1 (pc1 := 19) (lv1 := [(0, .ref a0), (1, .int (Int32.ofInt x1)), (2, .int (Int32.ofInt x2))]) (st1 := [.int (Int32.ofInt x2), .ref (a0 + 6)]) (w1 := w) rfl ?_
    obtain ⟨i2, e3, hx⟩ := bd hx
    refine wx_ra (x := (a0 + 6)) (n := 8) (ln := 1) (a := 0) (b := 0) (zz := 0) (by decide +kernel) h (ca0.2.1 6 (by decide) (by decide)) e3 ?_
    show wp _ 11 20 [(0, .ref a0), (1, .int (Int32.ofInt x1)), (2, .int (Int32.ofInt x2))] [.int (Int32.ofInt (s (a0 + 6) i2))] w _
    refine wz_eq (oo := 9) (ln := 3) (a := 29) (b := 0) (zz := 0) (by decide +kernel) (fun h4 => ?_) (fun h4 => ?_)
    · have hx := ite_t h4 hx
      refine wp_g 2 (pc1 := 4) (lv1 := [(2, .int (Int32.ofInt (x2 + 1))), (0, .ref a0), (1, .int (Int32.ofInt x1))]) (st1 := []) (w1 := w) (by simp only [Int32.ofInt_add, Int32.ofInt_sub, Int32.ofInt_mul, Int32.ofInt_neg, p_and, p_or, p_xor, p_shl, p_shr, p_usr, p_w8, p_c16, p_lI, q_and, q_or, q_shl, q_shr, q_w32, Int64.ofInt_add, Int64.ofInt_sub, Int64.ofInt_mul, p_mx, p_mn, q_mx, q_mn]; rfl) ?_
      refine wp_lv (lv1 := [(0, .ref a0), (1, .int (Int32.ofInt x1)), (2, .int (Int32.ofInt (x2 + 1)))]) (lsub_p [1, 2, 0] rfl rfl rfl) ?_
      cases hx
      exact kn _ _ rfl rfl
    · have hx := ite_f h4 hx
      refine wp_g 8 (pc1 := 4) (lv1 := [(2, .int (Int32.ofInt (x2 + 1))), (1, .int (Int32.ofInt (bOr x1 (bShl 1 x2)))), (0, .ref a0)]) (st1 := []) (w1 := w) (by simp only [Int32.ofInt_add, Int32.ofInt_sub, Int32.ofInt_mul, Int32.ofInt_neg, p_and, p_or, p_xor, p_shl, p_shr, p_usr, p_w8, p_c16, p_lI, q_and, q_or, q_shl, q_shr, q_w32, Int64.ofInt_add, Int64.ofInt_sub, Int64.ofInt_mul, p_mx, p_mn, q_mx, q_mn]; rfl) ?_
      refine wp_lv (lv1 := [(0, .ref a0), (1, .int (Int32.ofInt (bOr x1 (bShl 1 x2)))), (2, .int (Int32.ofInt (x2 + 1)))]) (lsub_p [2, 1, 0] rfl rfl rfl) ?_
      cases hx
      exact kn _ _ rfl rfl
/-- Cloth.creasedJoints ()I -/
noncomputable def xl_creasedJoints (s : Hp) (a0 : Nat) : Option Int :=
  (lp (fun (q : Int × Int) => xl_creasedJoints_b4 s a0 q.1 q.2) (0, 0)).bind fun q1 => some q1.1
set_option maxRecDepth 100000 in
theorem xl_creasedJoints_ok {d : Nat} {P : Option Value → pm_H → Prop} {w : pm_H} {sh : Shp} {w0 : pm_H} {s : Hp} (hS : St sh) {a0 r0 : Nat} (ca0 : okC r0 sh a0) (h : Rw sh w0 s w) {o : Int} (hx : xl_creasedJoints s a0 = some o) (kr : P (some (.int (Int32.ofInt o))) w) : wp d 11 0 (lv_args 0 [.ref a0]) [] w P := by
  show wp _ 11 0 [(0, .ref a0)] [] w _
  unfold xl_creasedJoints at hx
  refine wp_g 4 (pc1 := 4) (lv1 := [(2, .int (Int32.ofInt 0)), (1, .int (Int32.ofInt 0)), (0, .ref a0)]) (st1 := []) (w1 := w) rfl ?_
  refine wp_lv (lv1 := [(0, .ref a0), (1, .int (Int32.ofInt 0)), (2, .int (Int32.ofInt 0))]) (lsub_p [2, 1, 0] rfl rfl rfl) ?_
  obtain ⟨q1, e2, hx⟩ := bd hx
  refine wp_lp (σ := Int × Int) (ρ := (Int × Int)) (B := fun q => xl_creasedJoints_b4 s a0 q.1 q.2) (R := fun q w' => w = w') (C := fun r => ∀ w1, w = w1 → wp d 11 35 [(0, .ref a0), (1, .int (Int32.ofInt r.1)), (2, .int (Int32.ofInt r.2))] [] w1 P) (lv := fun q => [(0, .ref a0), (1, .int (Int32.ofInt q.1)), (2, .int (Int32.ofInt q.2))]) (hd := 4) (fun q w' o hR hb kn kc => by subst hR; exact xl_creasedJoints_b4_ok hS ca0 h hb kn kc) _ _ _ e2 rfl ?_
  intro w3 h4
  subst h4
  show wp _ 11 35 [(0, .ref a0), (1, .int (Int32.ofInt q1.1)), (2, .int (Int32.ofInt q1.2))] [] w _
  refine wp_g 1 (pc1 := 36) (lv1 := [(0, .ref a0), (1, .int (Int32.ofInt q1.1)), (2, .int (Int32.ofInt q1.2))]) (st1 := [.int (Int32.ofInt q1.1)]) (w1 := w) rfl ?_
  refine wp_rt (i := .ireturn) (r := some (.int (Int32.ofInt q1.1))) (ln := 1) (a := 0) (b := 0) (z := 0) (by decide +kernel) rfl (ret_ok (by decide +kernel)) ?_
  cases hx
  exact kr
noncomputable def xl_moves_j17 (s : Hp) (a0 : Nat) (x2 : Int) (k0 : Int) : Option Int :=
  if w32 (bAnd x2 2) = 0 then if w32 k0 = w32 1 then some 1 else some 0 else if w32 k0 = w32 0 then some 1 else some 0
set_option maxRecDepth 100000 in
theorem xl_moves_j17_ok {d : Nat} {P : Option Value → pm_H → Prop} {w : pm_H} {sh : Shp} {w0 : pm_H} {s : Hp} (hS : St sh) {a0 r0 : Nat} (ca0 : okC r0 sh a0) {x2 : Int} {k0 : Int} (h : Rw sh w0 s w) {o : Int} (hx : xl_moves_j17 s a0 x2 k0 = some o) (kr : P (some (.int (Int32.ofInt o))) w) : wp d 12 17 [(2, .int (Int32.ofInt x2))] [.int (Int32.ofInt k0)] w P := by
  unfold xl_moves_j17 at hx
  refine wp_g 5 (pc1 := 22) (lv1 := [(3, .int (Int32.ofInt k0)), (2, .int (Int32.ofInt x2))]) (st1 := [.int (Int32.ofInt (bAnd x2 2)), .int (Int32.ofInt k0)]) (w1 := w) (by simp only [Int32.ofInt_add, Int32.ofInt_sub, Int32.ofInt_mul, Int32.ofInt_neg, p_and, p_or, p_xor, p_shl, p_shr, p_usr, p_w8, p_c16, p_lI, q_and, q_or, q_shl, q_shr, q_w32, Int64.ofInt_add, Int64.ofInt_sub, Int64.ofInt_mul, p_mx, p_mn, q_mx, q_mn]; rfl) ?_
  refine wz_ne (oo := 7) (ln := 3) (a := 29) (b := 0) (zz := 0) (by decide +kernel) (fun h1 => ?_) (fun h1 => ?_)
  · have hx := ite_f h1 hx
    refine wp_g 1 (pc1 := 30) (lv1 := [(3, .int (Int32.ofInt k0)), (2, .int (Int32.ofInt x2))]) (st1 := [.int (Int32.ofInt 0), .int (Int32.ofInt k0)]) (w1 := w) rfl ?_
    refine wx_ne (oo := 7) (ln := 3) (a := 37) (b := 0) (zz := 0) (by decide +kernel) (fun h2 => ?_) (fun h2 => ?_)
    · have hx := ite_f h2 hx
      refine wp_g 1 (pc1 := 38) (lv1 := [(3, .int (Int32.ofInt k0)), (2, .int (Int32.ofInt x2))]) (st1 := [.int (Int32.ofInt 0)]) (w1 := w) rfl ?_
      refine wp_rt (i := .ireturn) (r := some (.int (Int32.ofInt 0))) (ln := 1) (a := 0) (b := 0) (z := 0) (by decide +kernel) rfl (ret_b (by decide +kernel) (Or.inl rfl)) ?_
      cases hx
      exact kr
    · have hx := ite_t h2 hx
      refine wp_g 2 (pc1 := 38) (lv1 := [(3, .int (Int32.ofInt k0)), (2, .int (Int32.ofInt x2))]) (st1 := [.int (Int32.ofInt 1)]) (w1 := w) rfl ?_
      refine wp_rt (i := .ireturn) (r := some (.int (Int32.ofInt 1))) (ln := 1) (a := 0) (b := 0) (z := 0) (by decide +kernel) rfl (ret_b (by decide +kernel) (Or.inr rfl)) ?_
      cases hx
      exact kr
  · have hx := ite_t h1 hx
    refine wp_g 2 (pc1 := 30) (lv1 := [(3, .int (Int32.ofInt k0)), (2, .int (Int32.ofInt x2))]) (st1 := [.int (Int32.ofInt 1), .int (Int32.ofInt k0)]) (w1 := w) rfl ?_
    refine wx_ne (oo := 7) (ln := 3) (a := 37) (b := 0) (zz := 0) (by decide +kernel) (fun h3 => ?_) (fun h3 => ?_)
    · have hx := ite_f h3 hx
      refine wp_g 1 (pc1 := 38) (lv1 := [(3, .int (Int32.ofInt k0)), (2, .int (Int32.ofInt x2))]) (st1 := [.int (Int32.ofInt 0)]) (w1 := w) rfl ?_
      refine wp_rt (i := .ireturn) (r := some (.int (Int32.ofInt 0))) (ln := 1) (a := 0) (b := 0) (z := 0) (by decide +kernel) rfl (ret_b (by decide +kernel) (Or.inl rfl)) ?_
      cases hx
      exact kr
    · have hx := ite_t h3 hx
      refine wp_g 2 (pc1 := 38) (lv1 := [(3, .int (Int32.ofInt k0)), (2, .int (Int32.ofInt x2))]) (st1 := [.int (Int32.ofInt 1)]) (w1 := w) rfl ?_
      refine wp_rt (i := .ireturn) (r := some (.int (Int32.ofInt 1))) (ln := 1) (a := 0) (b := 0) (z := 0) (by decide +kernel) rfl (ret_b (by decide +kernel) (Or.inr rfl)) ?_
      cases hx
      exact kr
/-- Cloth.moves (II)Z -/
noncomputable def xl_moves (s : Hp) (a0 : Nat) (p1 : Int) (p2 : Int) : Option Int :=
  (ix 8 p1).bind fun i1 => if w32 (bShr p2 2) < w32 (s (a0 + 1) i1) then xl_moves_j17 s a0 p2 1 else xl_moves_j17 s a0 p2 0
set_option maxRecDepth 100000 in
theorem xl_moves_ok {d : Nat} {P : Option Value → pm_H → Prop} {w : pm_H} {sh : Shp} {w0 : pm_H} {s : Hp} (hS : St sh) {a0 r0 : Nat} (ca0 : okC r0 sh a0) {p1 : Int} {p2 : Int} (h : Rw sh w0 s w) {o : Int} (hx : xl_moves s a0 p1 p2 = some o) (kr : P (some (.int (Int32.ofInt o))) w) : wp d 12 0 (lv_args 0 [.ref a0, .int (Int32.ofInt p1), .int (Int32.ofInt p2)]) [] w P := by
  show wp _ 12 0 [(0, .ref a0), (1, .int (Int32.ofInt p1)), (2, .int (Int32.ofInt p2))] [] w _
  unfold xl_moves at hx
  refine wp_g 1 (pc1 := 1) (lv1 := [(0, .ref a0), (1, .int (Int32.ofInt p1)), (2, .int (Int32.ofInt p2))]) (st1 := [.ref a0]) (w1 := w) rfl ?_
  refine wx_gr (o := 1) (kf := 24) (ln := 3) (ci := 0) (b := 4) (zz := 0) (x := a0) (by decide +kernel) h ca0.1 rfl ?_
  show wp _ 12 4 [(0, .ref a0), (1, .int (Int32.ofInt p1)), (2, .int (Int32.ofInt p2))] [.ref (a0 + 1)] w _
  refine wp_g 1 (pc1 := 5) (lv1 := [(0, .ref a0), (1, .int (Int32.ofInt p1)), (2, .int (Int32.ofInt p2))]) (st1 := [.int (Int32.ofInt p1), .ref (a0 + 1)]) (w1 := w) rfl ?_
  obtain ⟨i1, e2, hx⟩ := bd hx
  refine wx_ra (x := (a0 + 1)) (n := 8) (ln := 1) (a := 0) (b := 0) (zz := 0) (by decide +kernel) h (ca0.2.1 1 (by decide) (by decide)) e2 ?_
  show wp _ 12 6 [(0, .ref a0), (1, .int (Int32.ofInt p1)), (2, .int (Int32.ofInt p2))] [.int (Int32.ofInt (s (a0 + 1) i1))] w _
  refine wp_g 3 (pc1 := 9) (lv1 := [(0, .ref a0), (1, .int (Int32.ofInt p1)), (2, .int (Int32.ofInt p2))]) (st1 := [.int (Int32.ofInt (bShr p2 2)), .int (Int32.ofInt (s (a0 + 1) i1))]) (w1 := w) (by simp only [Int32.ofInt_add, Int32.ofInt_sub, Int32.ofInt_mul, Int32.ofInt_neg, p_and, p_or, p_xor, p_shl, p_shr, p_usr, p_w8, p_c16, p_lI, q_and, q_or, q_shl, q_shr, q_w32, Int64.ofInt_add, Int64.ofInt_sub, Int64.ofInt_mul, p_mx, p_mn, q_mx, q_mn]; rfl) ?_
  refine wx_le (oo := 7) (ln := 3) (a := 16) (b := 0) (zz := 0) (by decide +kernel) (fun h3 => ?_) (fun h3 => ?_)
  · have hx := ite_f h3 hx
    refine wp_g 1 (pc1 := 17) (lv1 := [(0, .ref a0), (1, .int (Int32.ofInt p1)), (2, .int (Int32.ofInt p2))]) (st1 := [.int (Int32.ofInt 0)]) (w1 := w) rfl ?_
    refine wp_lv (lv1 := [(2, .int (Int32.ofInt p2))]) (lsub_p [2] rfl rfl rfl) ?_
    exact xl_moves_j17_ok hS ca0 h hx kr
  · have hx := ite_t h3 hx
    refine wp_g 2 (pc1 := 17) (lv1 := [(0, .ref a0), (1, .int (Int32.ofInt p1)), (2, .int (Int32.ofInt p2))]) (st1 := [.int (Int32.ofInt 1)]) (w1 := w) rfl ?_
    refine wp_lv (lv1 := [(2, .int (Int32.ofInt p2))]) (lsub_p [2] rfl rfl rfl) ?_
    exact xl_moves_j17_ok hS ca0 h hx kr
noncomputable def xl_movedCells_b4 (s : Hp) (a0 : Nat) (x1 : Int) (x2 : Int) (x3 : Int) : Option ((Int × Int) ⊕ (Int × Int)) :=
  if w32 x3 < w32 (s a0 0) then (xl_moves s a0 x3 x1).bind fun o2 => if w32 o2 = 0 then some (.inl (x2, x3 + 1)) else some (.inl (bOr x2 (bShl 1 x3), x3 + 1)) else some (.inr (x2, x3))
set_option maxRecDepth 100000 in
theorem xl_movedCells_b4_ok {d : Nat} {P : Option Value → pm_H → Prop} {w : pm_H} {sh : Shp} {w0 : pm_H} {s : Hp} (hS : St sh) {a0 r0 : Nat} (ca0 : okC r0 sh a0) {x1 : Int} {x2 : Int} {x3 : Int} (h : Rw sh w0 s w) {o : ((Int × Int) ⊕ (Int × Int))} (hx : xl_movedCells_b4 s a0 x1 x2 x3 = some o) (kn : ∀ (q : Int × Int) w1, o = .inl q → w = w1 → wp (d + 1) 13 4 [(0, .ref a0), (1, .int (Int32.ofInt x1)), (2, .int (Int32.ofInt q.1)), (3, .int (Int32.ofInt q.2))] [] w1 P) (kc : ∀ (r : (Int × Int)), o = .inr r → (∀ w1, w = w1 → wp (d + 1) 13 33 [(0, .ref a0), (1, .int (Int32.ofInt x1)), (2, .int (Int32.ofInt r.1)), (3, .int (Int32.ofInt r.2))] [] w1 P)) : wp (d + 1) 13 4 [(0, .ref a0), (1, .int (Int32.ofInt x1)), (2, .int (Int32.ofInt x2)), (3, .int (Int32.ofInt x3))] [] w P := by
  unfold xl_movedCells_b4 at hx
  refine wp_g 2 (pc1 := 6) (lv1 := [(0, .ref a0), (1, .int (Int32.ofInt x1)), (2, .int (Int32.ofInt x2)), (3, .int (Int32.ofInt x3))]) (st1 := [.ref a0, .int (Int32.ofInt x3)]) (w1 := w) rfl ?_
  refine wx_gi (kf := 9) (ln := 3) (ci := 0) (b := 0) (zz := 0) (x := a0) (by decide +kernel) h ca0.1 rfl ?_
  show wp _ 13 9 [(0, .ref a0), (1, .int (Int32.ofInt x1)), (2, .int (Int32.ofInt x2)), (3, .int (Int32.ofInt x3))] [.int (Int32.ofInt (s a0 0)), .int (Int32.ofInt x3)] w _
  refine wx_ge (oo := 24) (ln := 3) (a := 33) (b := 0) (zz := 0) (by decide +kernel) (fun h1 => ?_) (fun h1 => ?_)
  · have hx := ite_f h1 hx
    cases hx
    exact kc _ rfl _ rfl
  · have hx := ite_t h1 hx
    refine wp_g 3 (pc1 := 15) (lv1 := [(0, .ref a0), (1, .int (Int32.ofInt x1)), (2, .int (Int32.ofInt x2)), (3, .int (Int32.ofInt x3))]) (st1 := [.int (Int32.ofInt x1), .int (Int32.ofInt x3), .ref a0]) (w1 := w) rfl ?_
    obtain ⟨o2, e3, hx⟩ := bd hx
    refine wp_cl [.ref a0, .int (Int32.ofInt x3), .int (Int32.ofInt x1)] [] (i := .invokevirtual 64) (ln := 3) (a := 12) (b := 0) (z := 0) (by decide +kernel) rfl rfl (by decide) rfl (show (3 : Nat) = pm_na 12 by decide +kernel) (Nat.le_of_ble_eq_true rfl) (show (3 : Nat) ≤ pm_n 12 by decide +kernel) (rcv_x 0 h ca0.1 (by decide +kernel)) (xl_moves_ok (d := d) hS ca0 h e3 ?_)
    show wp _ 13 18 [(0, .ref a0), (1, .int (Int32.ofInt x1)), (2, .int (Int32.ofInt x2)), (3, .int (Int32.ofInt x3))] [.int (Int32.ofInt o2)] w _
    refine wz_eq (oo := 9) (ln := 3) (a := 27) (b := 0) (zz := 0) (by decide +kernel) (fun h6 => ?_) (fun h6 => ?_)
    · have hx := ite_t h6 hx
      refine wp_g 2 (pc1 := 4) (lv1 := [(3, .int (Int32.ofInt (x3 + 1))), (0, .ref a0), (1, .int (Int32.ofInt x1)), (2, .int (Int32.ofInt x2))]) (st1 := []) (w1 := w) (by simp only [Int32.ofInt_add, Int32.ofInt_sub, Int32.ofInt_mul, Int32.ofInt_neg, p_and, p_or, p_xor, p_shl, p_shr, p_usr, p_w8, p_c16, p_lI, q_and, q_or, q_shl, q_shr, q_w32, Int64.ofInt_add, Int64.ofInt_sub, Int64.ofInt_mul, p_mx, p_mn, q_mx, q_mn]; rfl) ?_
      refine wp_lv (lv1 := [(0, .ref a0), (1, .int (Int32.ofInt x1)), (2, .int (Int32.ofInt x2)), (3, .int (Int32.ofInt (x3 + 1)))]) (lsub_p [1, 2, 3, 0] rfl rfl rfl) ?_
      cases hx
      exact kn _ _ rfl rfl
    · have hx := ite_f h6 hx
      refine wp_g 8 (pc1 := 4) (lv1 := [(3, .int (Int32.ofInt (x3 + 1))), (2, .int (Int32.ofInt (bOr x2 (bShl 1 x3)))), (0, .ref a0), (1, .int (Int32.ofInt x1))]) (st1 := []) (w1 := w) (by simp only [Int32.ofInt_add, Int32.ofInt_sub, Int32.ofInt_mul, Int32.ofInt_neg, p_and, p_or, p_xor, p_shl, p_shr, p_usr, p_w8, p_c16, p_lI, q_and, q_or, q_shl, q_shr, q_w32, Int64.ofInt_add, Int64.ofInt_sub, Int64.ofInt_mul, p_mx, p_mn, q_mx, q_mn]; rfl) ?_
      refine wp_lv (lv1 := [(0, .ref a0), (1, .int (Int32.ofInt x1)), (2, .int (Int32.ofInt (bOr x2 (bShl 1 x3)))), (3, .int (Int32.ofInt (x3 + 1)))]) (lsub_p [2, 3, 1, 0] rfl rfl rfl) ?_
      cases hx
      exact kn _ _ rfl rfl
/-- Cloth.movedCells (I)I -/
noncomputable def xl_movedCells (s : Hp) (a0 : Nat) (p1 : Int) : Option Int :=
  (lp (fun (q : Int × Int) => xl_movedCells_b4 s a0 p1 q.1 q.2) (0, 0)).bind fun q1 => some q1.1
set_option maxRecDepth 100000 in
theorem xl_movedCells_ok {d : Nat} {P : Option Value → pm_H → Prop} {w : pm_H} {sh : Shp} {w0 : pm_H} {s : Hp} (hS : St sh) {a0 r0 : Nat} (ca0 : okC r0 sh a0) {p1 : Int} (h : Rw sh w0 s w) {o : Int} (hx : xl_movedCells s a0 p1 = some o) (kr : P (some (.int (Int32.ofInt o))) w) : wp (d + 1) 13 0 (lv_args 0 [.ref a0, .int (Int32.ofInt p1)]) [] w P := by
  show wp _ 13 0 [(0, .ref a0), (1, .int (Int32.ofInt p1))] [] w _
  unfold xl_movedCells at hx
  refine wp_g 4 (pc1 := 4) (lv1 := [(3, .int (Int32.ofInt 0)), (2, .int (Int32.ofInt 0)), (0, .ref a0), (1, .int (Int32.ofInt p1))]) (st1 := []) (w1 := w) rfl ?_
  refine wp_lv (lv1 := [(0, .ref a0), (1, .int (Int32.ofInt p1)), (2, .int (Int32.ofInt 0)), (3, .int (Int32.ofInt 0))]) (lsub_p [2, 3, 1, 0] rfl rfl rfl) ?_
  obtain ⟨q1, e2, hx⟩ := bd hx
  refine wp_lp (σ := Int × Int) (ρ := (Int × Int)) (B := fun q => xl_movedCells_b4 s a0 p1 q.1 q.2) (R := fun q w' => w = w') (C := fun r => ∀ w1, w = w1 → wp (d + 1) 13 33 [(0, .ref a0), (1, .int (Int32.ofInt p1)), (2, .int (Int32.ofInt r.1)), (3, .int (Int32.ofInt r.2))] [] w1 P) (lv := fun q => [(0, .ref a0), (1, .int (Int32.ofInt p1)), (2, .int (Int32.ofInt q.1)), (3, .int (Int32.ofInt q.2))]) (hd := 4) (fun q w' o hR hb kn kc => by subst hR; exact xl_movedCells_b4_ok hS ca0 h hb kn kc) _ _ _ e2 rfl ?_
  intro w3 h4
  subst h4
  show wp _ 13 33 [(0, .ref a0), (1, .int (Int32.ofInt p1)), (2, .int (Int32.ofInt q1.1)), (3, .int (Int32.ofInt q1.2))] [] w _
  refine wp_g 1 (pc1 := 34) (lv1 := [(0, .ref a0), (1, .int (Int32.ofInt p1)), (2, .int (Int32.ofInt q1.1)), (3, .int (Int32.ofInt q1.2))]) (st1 := [.int (Int32.ofInt q1.1)]) (w1 := w) rfl ?_
  refine wp_rt (i := .ireturn) (r := some (.int (Int32.ofInt q1.1))) (ln := 1) (a := 0) (b := 0) (z := 0) (by decide +kernel) rfl (ret_ok (by decide +kernel)) ?_
  cases hx
  exact kr
noncomputable def xl_kindMade_j52 (s : Hp) (a0 : Nat) (x1 : Int) (k0 : Int) : Option Int :=
  (ix 8 x1).bind fun i1 => if w32 (s (a0 + 3) i1) = w32 1 then if w32 1 = w32 k0 then some 1 else some 2 else if w32 0 = w32 k0 then some 1 else some 2
set_option maxRecDepth 100000 in
theorem xl_kindMade_j52_ok {d : Nat} {P : Option Value → pm_H → Prop} {w : pm_H} {sh : Shp} {w0 : pm_H} {s : Hp} (hS : St sh) {a0 r0 : Nat} (ca0 : okC r0 sh a0) {x1 : Int} {k0 : Int} (h : Rw sh w0 s w) {o : Int} (hx : xl_kindMade_j52 s a0 x1 k0 = some o) (kr : P (some (.int (Int32.ofInt o))) w) : wp d 14 52 [(0, .ref a0), (1, .int (Int32.ofInt x1))] [.int (Int32.ofInt k0)] w P := by
  unfold xl_kindMade_j52 at hx
  refine wp_g 2 (pc1 := 55) (lv1 := [(4, .int (Int32.ofInt k0)), (0, .ref a0), (1, .int (Int32.ofInt x1))]) (st1 := [.ref a0]) (w1 := w) rfl ?_
  refine wx_gr (o := 3) (kf := 31) (ln := 3) (ci := 0) (b := 6) (zz := 0) (x := a0) (by decide +kernel) h ca0.1 rfl ?_
  show wp _ 14 58 [(4, .int (Int32.ofInt k0)), (0, .ref a0), (1, .int (Int32.ofInt x1))] [.ref (a0 + 3)] w _
  refine wp_g 1 (pc1 := 59) (lv1 := [(4, .int (Int32.ofInt k0)), (0, .ref a0), (1, .int (Int32.ofInt x1))]) (st1 := [.int (Int32.ofInt x1), .ref (a0 + 3)]) (w1 := w) rfl ?_
  obtain ⟨i1, e2, hx⟩ := bd hx
  refine wx_ra (x := (a0 + 3)) (n := 8) (ln := 1) (a := 0) (b := 0) (zz := 0) (by decide +kernel) h (ca0.2.1 3 (by decide) (by decide)) e2 ?_
  show wp _ 14 60 [(4, .int (Int32.ofInt k0)), (0, .ref a0), (1, .int (Int32.ofInt x1))] [.int (Int32.ofInt (s (a0 + 3) i1))] w _
  refine wp_g 1 (pc1 := 61) (lv1 := [(4, .int (Int32.ofInt k0)), (0, .ref a0), (1, .int (Int32.ofInt x1))]) (st1 := [.int (Int32.ofInt 1), .int (Int32.ofInt (s (a0 + 3) i1))]) (w1 := w) rfl ?_
  refine wx_ne (oo := 7) (ln := 3) (a := 68) (b := 0) (zz := 0) (by decide +kernel) (fun h3 => ?_) (fun h3 => ?_)
  · have hx := ite_f h3 hx
    refine wp_g 2 (pc1 := 71) (lv1 := [(4, .int (Int32.ofInt k0)), (0, .ref a0), (1, .int (Int32.ofInt x1))]) (st1 := [.int (Int32.ofInt k0), .int (Int32.ofInt 0)]) (w1 := w) rfl ?_
    refine wx_ne (oo := 7) (ln := 3) (a := 78) (b := 0) (zz := 0) (by decide +kernel) (fun h4 => ?_) (fun h4 => ?_)
    · have hx := ite_f h4 hx
      refine wp_g 1 (pc1 := 79) (lv1 := [(4, .int (Int32.ofInt k0)), (0, .ref a0), (1, .int (Int32.ofInt x1))]) (st1 := [.int (Int32.ofInt 2)]) (w1 := w) rfl ?_
      refine wp_rt (i := .ireturn) (r := some (.int (Int32.ofInt 2))) (ln := 1) (a := 0) (b := 0) (z := 0) (by decide +kernel) rfl (ret_ok (by decide +kernel)) ?_
      cases hx
      exact kr
    · have hx := ite_t h4 hx
      refine wp_g 2 (pc1 := 79) (lv1 := [(4, .int (Int32.ofInt k0)), (0, .ref a0), (1, .int (Int32.ofInt x1))]) (st1 := [.int (Int32.ofInt 1)]) (w1 := w) rfl ?_
      refine wp_rt (i := .ireturn) (r := some (.int (Int32.ofInt 1))) (ln := 1) (a := 0) (b := 0) (z := 0) (by decide +kernel) rfl (ret_ok (by decide +kernel)) ?_
      cases hx
      exact kr
  · have hx := ite_t h3 hx
    refine wp_g 3 (pc1 := 71) (lv1 := [(4, .int (Int32.ofInt k0)), (0, .ref a0), (1, .int (Int32.ofInt x1))]) (st1 := [.int (Int32.ofInt k0), .int (Int32.ofInt 1)]) (w1 := w) rfl ?_
    refine wx_ne (oo := 7) (ln := 3) (a := 78) (b := 0) (zz := 0) (by decide +kernel) (fun h5 => ?_) (fun h5 => ?_)
    · have hx := ite_f h5 hx
      refine wp_g 1 (pc1 := 79) (lv1 := [(4, .int (Int32.ofInt k0)), (0, .ref a0), (1, .int (Int32.ofInt x1))]) (st1 := [.int (Int32.ofInt 2)]) (w1 := w) rfl ?_
      refine wp_rt (i := .ireturn) (r := some (.int (Int32.ofInt 2))) (ln := 1) (a := 0) (b := 0) (z := 0) (by decide +kernel) rfl (ret_ok (by decide +kernel)) ?_
      cases hx
      exact kr
    · have hx := ite_t h5 hx
      refine wp_g 2 (pc1 := 79) (lv1 := [(4, .int (Int32.ofInt k0)), (0, .ref a0), (1, .int (Int32.ofInt x1))]) (st1 := [.int (Int32.ofInt 1)]) (w1 := w) rfl ?_
      refine wp_rt (i := .ireturn) (r := some (.int (Int32.ofInt 1))) (ln := 1) (a := 0) (b := 0) (z := 0) (by decide +kernel) rfl (ret_ok (by decide +kernel)) ?_
      cases hx
      exact kr
noncomputable def xl_kindMade_j36 (s : Hp) (a0 : Nat) (x1 : Int) (x2 : Int) (k0 : Int) (k1 : Int) : Option Int :=
  if w32 k0 = w32 k1 then some 0 else if w32 (bAnd x2 1) = 0 then xl_kindMade_j52 s a0 x1 1 else xl_kindMade_j52 s a0 x1 0
set_option maxRecDepth 100000 in
theorem xl_kindMade_j36_ok {d : Nat} {P : Option Value → pm_H → Prop} {w : pm_H} {sh : Shp} {w0 : pm_H} {s : Hp} (hS : St sh) {a0 r0 : Nat} (ca0 : okC r0 sh a0) {x1 : Int} {x2 : Int} {k0 : Int} {k1 : Int} (h : Rw sh w0 s w) {o : Int} (hx : xl_kindMade_j36 s a0 x1 x2 k0 k1 = some o) (kr : P (some (.int (Int32.ofInt o))) w) : wp d 14 36 [(0, .ref a0), (1, .int (Int32.ofInt x1)), (2, .int (Int32.ofInt x2))] [.int (Int32.ofInt k1), .int (Int32.ofInt k0)] w P := by
  unfold xl_kindMade_j36 at hx
  refine wx_ne (oo := 5) (ln := 3) (a := 41) (b := 0) (zz := 0) (by decide +kernel) (fun h1 => ?_) (fun h1 => ?_)
  · have hx := ite_f h1 hx
    refine wp_g 3 (pc1 := 44) (lv1 := [(0, .ref a0), (1, .int (Int32.ofInt x1)), (2, .int (Int32.ofInt x2))]) (st1 := [.int (Int32.ofInt (bAnd x2 1))]) (w1 := w) (by simp only [Int32.ofInt_add, Int32.ofInt_sub, Int32.ofInt_mul, Int32.ofInt_neg, p_and, p_or, p_xor, p_shl, p_shr, p_usr, p_w8, p_c16, p_lI, q_and, q_or, q_shl, q_shr, q_w32, Int64.ofInt_add, Int64.ofInt_sub, Int64.ofInt_mul, p_mx, p_mn, q_mx, q_mn]; rfl) ?_
    refine wz_ne (oo := 7) (ln := 3) (a := 51) (b := 0) (zz := 0) (by decide +kernel) (fun h2 => ?_) (fun h2 => ?_)
    · have hx := ite_f h2 hx
      refine wp_g 1 (pc1 := 52) (lv1 := [(0, .ref a0), (1, .int (Int32.ofInt x1)), (2, .int (Int32.ofInt x2))]) (st1 := [.int (Int32.ofInt 0)]) (w1 := w) rfl ?_
      refine wp_lv (lv1 := [(0, .ref a0), (1, .int (Int32.ofInt x1))]) (lsub_p [0, 1] rfl rfl rfl) ?_
      exact xl_kindMade_j52_ok hS ca0 h hx kr
    · have hx := ite_t h2 hx
      refine wp_g 2 (pc1 := 52) (lv1 := [(0, .ref a0), (1, .int (Int32.ofInt x1)), (2, .int (Int32.ofInt x2))]) (st1 := [.int (Int32.ofInt 1)]) (w1 := w) rfl ?_
      refine wp_lv (lv1 := [(0, .ref a0), (1, .int (Int32.ofInt x1))]) (lsub_p [0, 1] rfl rfl rfl) ?_
      exact xl_kindMade_j52_ok hS ca0 h hx kr
  · have hx := ite_t h1 hx
    refine wp_g 1 (pc1 := 40) (lv1 := [(0, .ref a0), (1, .int (Int32.ofInt x1)), (2, .int (Int32.ofInt x2))]) (st1 := [.int (Int32.ofInt 0)]) (w1 := w) rfl ?_
    refine wp_rt (i := .ireturn) (r := some (.int (Int32.ofInt 0))) (ln := 1) (a := 0) (b := 0) (z := 0) (by decide +kernel) rfl (ret_ok (by decide +kernel)) ?_
    cases hx
    exact kr
noncomputable def xl_kindMade_j19 (s : Hp) (a0 : Nat) (x1 : Int) (x2 : Int) (x3 : Int) (k0 : Int) : Option Int :=
  (ix 8 (x1 + 1)).bind fun i1 => if w32 x3 < w32 (s (a0 + 1) i1) then xl_kindMade_j36 s a0 x1 x2 k0 0 else xl_kindMade_j36 s a0 x1 x2 k0 1
set_option maxRecDepth 100000 in
theorem xl_kindMade_j19_ok {d : Nat} {P : Option Value → pm_H → Prop} {w : pm_H} {sh : Shp} {w0 : pm_H} {s : Hp} (hS : St sh) {a0 r0 : Nat} (ca0 : okC r0 sh a0) {x1 : Int} {x2 : Int} {x3 : Int} {k0 : Int} (h : Rw sh w0 s w) {o : Int} (hx : xl_kindMade_j19 s a0 x1 x2 x3 k0 = some o) (kr : P (some (.int (Int32.ofInt o))) w) : wp d 14 19 [(0, .ref a0), (1, .int (Int32.ofInt x1)), (2, .int (Int32.ofInt x2)), (3, .int (Int32.ofInt x3))] [.int (Int32.ofInt k0)] w P := by
  unfold xl_kindMade_j19 at hx
  refine wp_g 1 (pc1 := 20) (lv1 := [(0, .ref a0), (1, .int (Int32.ofInt x1)), (2, .int (Int32.ofInt x2)), (3, .int (Int32.ofInt x3))]) (st1 := [.ref a0, .int (Int32.ofInt k0)]) (w1 := w) rfl ?_
  refine wx_gr (o := 1) (kf := 24) (ln := 3) (ci := 0) (b := 4) (zz := 0) (x := a0) (by decide +kernel) h ca0.1 rfl ?_
  show wp _ 14 23 [(0, .ref a0), (1, .int (Int32.ofInt x1)), (2, .int (Int32.ofInt x2)), (3, .int (Int32.ofInt x3))] [.ref (a0 + 1), .int (Int32.ofInt k0)] w _
  refine wp_g 3 (pc1 := 26) (lv1 := [(0, .ref a0), (1, .int (Int32.ofInt x1)), (2, .int (Int32.ofInt x2)), (3, .int (Int32.ofInt x3))]) (st1 := [.int (Int32.ofInt (x1 + 1)), .ref (a0 + 1), .int (Int32.ofInt k0)]) (w1 := w) (by simp only [Int32.ofInt_add, Int32.ofInt_sub, Int32.ofInt_mul, Int32.ofInt_neg, p_and, p_or, p_xor, p_shl, p_shr, p_usr, p_w8, p_c16, p_lI, q_and, q_or, q_shl, q_shr, q_w32, Int64.ofInt_add, Int64.ofInt_sub, Int64.ofInt_mul, p_mx, p_mn, q_mx, q_mn]; rfl) ?_
  obtain ⟨i1, e2, hx⟩ := bd hx
  refine wx_ra (x := (a0 + 1)) (n := 8) (ln := 1) (a := 0) (b := 0) (zz := 0) (by decide +kernel) h (ca0.2.1 1 (by decide) (by decide)) e2 ?_
  show wp _ 14 27 [(0, .ref a0), (1, .int (Int32.ofInt x1)), (2, .int (Int32.ofInt x2)), (3, .int (Int32.ofInt x3))] [.int (Int32.ofInt (s (a0 + 1) i1)), .int (Int32.ofInt k0)] w _
  refine wp_g 1 (pc1 := 28) (lv1 := [(0, .ref a0), (1, .int (Int32.ofInt x1)), (2, .int (Int32.ofInt x2)), (3, .int (Int32.ofInt x3))]) (st1 := [.int (Int32.ofInt x3), .int (Int32.ofInt (s (a0 + 1) i1)), .int (Int32.ofInt k0)]) (w1 := w) rfl ?_
  refine wx_gt (oo := 7) (ln := 3) (a := 35) (b := 0) (zz := 0) (by decide +kernel) (fun h3 => ?_) (fun h3 => ?_)
  · have hx := ite_t h3 hx
    refine wp_g 1 (pc1 := 36) (lv1 := [(0, .ref a0), (1, .int (Int32.ofInt x1)), (2, .int (Int32.ofInt x2)), (3, .int (Int32.ofInt x3))]) (st1 := [.int (Int32.ofInt 0), .int (Int32.ofInt k0)]) (w1 := w) rfl ?_
    refine wp_lv (lv1 := [(0, .ref a0), (1, .int (Int32.ofInt x1)), (2, .int (Int32.ofInt x2))]) (lsub_p [0, 1, 2] rfl rfl rfl) ?_
    exact xl_kindMade_j36_ok hS ca0 h hx kr
  · have hx := ite_f h3 hx
    refine wp_g 2 (pc1 := 36) (lv1 := [(0, .ref a0), (1, .int (Int32.ofInt x1)), (2, .int (Int32.ofInt x2)), (3, .int (Int32.ofInt x3))]) (st1 := [.int (Int32.ofInt 1), .int (Int32.ofInt k0)]) (w1 := w) rfl ?_
    refine wp_lv (lv1 := [(0, .ref a0), (1, .int (Int32.ofInt x1)), (2, .int (Int32.ofInt x2))]) (lsub_p [0, 1, 2] rfl rfl rfl) ?_
    exact xl_kindMade_j36_ok hS ca0 h hx kr
/-- Cloth.kindMade (II)I -/
noncomputable def xl_kindMade (s : Hp) (a0 : Nat) (p1 : Int) (p2 : Int) : Option Int :=
  (ix 8 p1).bind fun i1 => if w32 (bShr p2 2) < w32 (s (a0 + 1) i1) then xl_kindMade_j19 s a0 p1 p2 (bShr p2 2) 0 else xl_kindMade_j19 s a0 p1 p2 (bShr p2 2) 1
set_option maxRecDepth 100000 in
theorem xl_kindMade_ok {d : Nat} {P : Option Value → pm_H → Prop} {w : pm_H} {sh : Shp} {w0 : pm_H} {s : Hp} (hS : St sh) {a0 r0 : Nat} (ca0 : okC r0 sh a0) {p1 : Int} {p2 : Int} (h : Rw sh w0 s w) {o : Int} (hx : xl_kindMade s a0 p1 p2 = some o) (kr : P (some (.int (Int32.ofInt o))) w) : wp d 14 0 (lv_args 0 [.ref a0, .int (Int32.ofInt p1), .int (Int32.ofInt p2)]) [] w P := by
  show wp _ 14 0 [(0, .ref a0), (1, .int (Int32.ofInt p1)), (2, .int (Int32.ofInt p2))] [] w _
  unfold xl_kindMade at hx
  refine wp_g 5 (pc1 := 5) (lv1 := [(3, .int (Int32.ofInt (bShr p2 2))), (0, .ref a0), (1, .int (Int32.ofInt p1)), (2, .int (Int32.ofInt p2))]) (st1 := [.ref a0]) (w1 := w) (by simp only [Int32.ofInt_add, Int32.ofInt_sub, Int32.ofInt_mul, Int32.ofInt_neg, p_and, p_or, p_xor, p_shl, p_shr, p_usr, p_w8, p_c16, p_lI, q_and, q_or, q_shl, q_shr, q_w32, Int64.ofInt_add, Int64.ofInt_sub, Int64.ofInt_mul, p_mx, p_mn, q_mx, q_mn]; rfl) ?_
  refine wx_gr (o := 1) (kf := 24) (ln := 3) (ci := 0) (b := 4) (zz := 0) (x := a0) (by decide +kernel) h ca0.1 rfl ?_
  show wp _ 14 8 [(3, .int (Int32.ofInt (bShr p2 2))), (0, .ref a0), (1, .int (Int32.ofInt p1)), (2, .int (Int32.ofInt p2))] [.ref (a0 + 1)] w _
  refine wp_g 1 (pc1 := 9) (lv1 := [(3, .int (Int32.ofInt (bShr p2 2))), (0, .ref a0), (1, .int (Int32.ofInt p1)), (2, .int (Int32.ofInt p2))]) (st1 := [.int (Int32.ofInt p1), .ref (a0 + 1)]) (w1 := w) rfl ?_
  obtain ⟨i1, e2, hx⟩ := bd hx
  refine wx_ra (x := (a0 + 1)) (n := 8) (ln := 1) (a := 0) (b := 0) (zz := 0) (by decide +kernel) h (ca0.2.1 1 (by decide) (by decide)) e2 ?_
  show wp _ 14 10 [(3, .int (Int32.ofInt (bShr p2 2))), (0, .ref a0), (1, .int (Int32.ofInt p1)), (2, .int (Int32.ofInt p2))] [.int (Int32.ofInt (s (a0 + 1) i1))] w _
  refine wp_g 1 (pc1 := 11) (lv1 := [(3, .int (Int32.ofInt (bShr p2 2))), (0, .ref a0), (1, .int (Int32.ofInt p1)), (2, .int (Int32.ofInt p2))]) (st1 := [.int (Int32.ofInt (bShr p2 2)), .int (Int32.ofInt (s (a0 + 1) i1))]) (w1 := w) rfl ?_
  refine wx_gt (oo := 7) (ln := 3) (a := 18) (b := 0) (zz := 0) (by decide +kernel) (fun h3 => ?_) (fun h3 => ?_)
  · have hx := ite_t h3 hx
    refine wp_g 1 (pc1 := 19) (lv1 := [(3, .int (Int32.ofInt (bShr p2 2))), (0, .ref a0), (1, .int (Int32.ofInt p1)), (2, .int (Int32.ofInt p2))]) (st1 := [.int (Int32.ofInt 0)]) (w1 := w) rfl ?_
    refine wp_lv (lv1 := [(0, .ref a0), (1, .int (Int32.ofInt p1)), (2, .int (Int32.ofInt p2)), (3, .int (Int32.ofInt (bShr p2 2)))]) (lsub_p [1, 2, 3, 0] rfl rfl rfl) ?_
    exact xl_kindMade_j19_ok hS ca0 h hx kr
  · have hx := ite_f h3 hx
    refine wp_g 2 (pc1 := 19) (lv1 := [(3, .int (Int32.ofInt (bShr p2 2))), (0, .ref a0), (1, .int (Int32.ofInt p1)), (2, .int (Int32.ofInt p2))]) (st1 := [.int (Int32.ofInt 1)]) (w1 := w) rfl ?_
    refine wp_lv (lv1 := [(0, .ref a0), (1, .int (Int32.ofInt p1)), (2, .int (Int32.ofInt p2)), (3, .int (Int32.ofInt (bShr p2 2)))]) (lsub_p [1, 2, 3, 0] rfl rfl rfl) ?_
    exact xl_kindMade_j19_ok hS ca0 h hx kr
noncomputable def xl_creasesAllow_b2 (s : Hp) (a0 : Nat) (x1 : Int) (x2 : Int) : Option (Int ⊕ (Int ⊕ Int)) :=
  if w32 x2 < w32 ((s a0 0) - 1) then (xl_kindMade s a0 x2 x1).bind fun o2 => if w32 o2 = 0 then some (.inl (x2 + 1)) else (ix 8 x2).bind fun i7 => if w32 (s (a0 + 6) i7) = 0 then some (.inl (x2 + 1)) else if w32 (s (a0 + 6) i7) = w32 o2 then some (.inl (x2 + 1)) else some (.inr (.inr 0)) else some (.inr (.inl x2))
set_option maxRecDepth 100000 in
theorem xl_creasesAllow_b2_ok {d : Nat} {P : Option Value → pm_H → Prop} {w : pm_H} {sh : Shp} {w0 : pm_H} {s : Hp} (hS : St sh) {a0 r0 : Nat} (ca0 : okC r0 sh a0) {x1 : Int} {x2 : Int} (h : Rw sh w0 s w) {o : (Int ⊕ (Int ⊕ Int))} (hx : xl_creasesAllow_b2 s a0 x1 x2 = some o) (kn : ∀ (q : Int) w1, o = .inl q → w = w1 → wp (d + 1) 15 2 [(0, .ref a0), (1, .int (Int32.ofInt x1)), (2, .int (Int32.ofInt q))] [] w1 P) (kc : ∀ (r : (Int ⊕ Int)), o = .inr r → ((∀ q1 w1, r = .inl q1 → w = w1 → wp (d + 1) 15 50 [(0, .ref a0), (1, .int (Int32.ofInt x1)), (2, .int (Int32.ofInt q1))] [] w1 P) ∧ (∀ v1 w1, r = .inr v1 → w = w1 → P (some (.int (Int32.ofInt v1))) w1))) : wp (d + 1) 15 2 [(0, .ref a0), (1, .int (Int32.ofInt x1)), (2, .int (Int32.ofInt x2))] [] w P := by
  unfold xl_creasesAllow_b2 at hx
  refine wp_g 2 (pc1 := 4) (lv1 := [(0, .ref a0), (1, .int (Int32.ofInt x1)), (2, .int (Int32.ofInt x2))]) (st1 := [.ref a0, .int (Int32.ofInt x2)]) (w1 := w) rfl ?_
  refine wx_gi (kf := 9) (ln := 3) (ci := 0) (b := 0) (zz := 0) (x := a0) (by decide +kernel) h ca0.1 rfl ?_
  show wp _ 15 7 [(0, .ref a0), (1, .int (Int32.ofInt x1)), (2, .int (Int32.ofInt x2))] [.int (Int32.ofInt (s a0 0)), .int (Int32.ofInt x2)] w _
  refine wp_g 2 (pc1 := 9) (lv1 := [(0, .ref a0), (1, .int (Int32.ofInt x1)), (2, .int (Int32.ofInt x2))]) (st1 := [.int (Int32.ofInt ((s a0 0) - 1)), .int (Int32.ofInt x2)]) (w1 := w) (by simp only [Int32.ofInt_add, Int32.ofInt_sub, Int32.ofInt_mul, Int32.ofInt_neg, p_and, p_or, p_xor, p_shl, p_shr, p_usr, p_w8, p_c16, p_lI, q_and, q_or, q_shl, q_shr, q_w32, Int64.ofInt_add, Int64.ofInt_sub, Int64.ofInt_mul, p_mx, p_mn, q_mx, q_mn]; rfl) ?_
  refine wx_ge (oo := 41) (ln := 3) (a := 50) (b := 0) (zz := 0) (by decide +kernel) (fun h1 => ?_) (fun h1 => ?_)
  · have hx := ite_f h1 hx
    cases hx
    exact (kc _ rfl).1 _ _ rfl rfl
  · have hx := ite_t h1 hx
    refine wp_g 3 (pc1 := 15) (lv1 := [(0, .ref a0), (1, .int (Int32.ofInt x1)), (2, .int (Int32.ofInt x2))]) (st1 := [.int (Int32.ofInt x1), .int (Int32.ofInt x2), .ref a0]) (w1 := w) rfl ?_
    obtain ⟨o2, e3, hx⟩ := bd hx
    refine wp_cl [.ref a0, .int (Int32.ofInt x2), .int (Int32.ofInt x1)] [] (i := .invokevirtual 68) (ln := 3) (a := 14) (b := 0) (z := 0) (by decide +kernel) rfl rfl (by decide) rfl (show (3 : Nat) = pm_na 14 by decide +kernel) (Nat.le_of_ble_eq_true rfl) (show (3 : Nat) ≤ pm_n 14 by decide +kernel) (rcv_x 0 h ca0.1 (by decide +kernel)) (xl_kindMade_ok (d := d) hS ca0 h e3 ?_)
    show wp _ 15 18 [(0, .ref a0), (1, .int (Int32.ofInt x1)), (2, .int (Int32.ofInt x2))] [.int (Int32.ofInt o2)] w _
    refine wp_g 2 (pc1 := 20) (lv1 := [(3, .int (Int32.ofInt o2)), (0, .ref a0), (1, .int (Int32.ofInt x1)), (2, .int (Int32.ofInt x2))]) (st1 := [.int (Int32.ofInt o2)]) (w1 := w) rfl ?_
    refine wz_eq (oo := 24) (ln := 3) (a := 44) (b := 0) (zz := 0) (by decide +kernel) (fun h6 => ?_) (fun h6 => ?_)
    · have hx := ite_t h6 hx
      refine wp_g 2 (pc1 := 2) (lv1 := [(2, .int (Int32.ofInt (x2 + 1))), (3, .int (Int32.ofInt o2)), (0, .ref a0), (1, .int (Int32.ofInt x1))]) (st1 := []) (w1 := w) (by simp only [Int32.ofInt_add, Int32.ofInt_sub, Int32.ofInt_mul, Int32.ofInt_neg, p_and, p_or, p_xor, p_shl, p_shr, p_usr, p_w8, p_c16, p_lI, q_and, q_or, q_shl, q_shr, q_w32, Int64.ofInt_add, Int64.ofInt_sub, Int64.ofInt_mul, p_mx, p_mn, q_mx, q_mn]; rfl) ?_
      refine wp_lv (lv1 := [(0, .ref a0), (1, .int (Int32.ofInt x1)), (2, .int (Int32.ofInt (x2 + 1)))]) (lsub_p [2, 3, 0] rfl rfl rfl) ?_
      cases hx
      exact kn _ _ rfl rfl
    · have hx := ite_f h6 hx
      refine wp_g 1 (pc1 := 24) (lv1 := [(3, .int (Int32.ofInt o2)), (0, .ref a0), (1, .int (Int32.ofInt x1)), (2, .int (Int32.ofInt x2))]) (st1 := [.ref a0]) (w1 := w) rfl ?_
      refine wx_gr (o := 6) (kf := 40) (ln := 3) (ci := 0) (b := 9) (zz := 0) (x := a0) (by decide +kernel) h ca0.1 rfl ?_
      show wp _ 15 27 [(3, .int (Int32.ofInt o2)), (0, .ref a0), (1, .int (Int32.ofInt x1)), (2, .int (Int32.ofInt x2))] [.ref (a0 + 6)] w _
      refine wp_g 1 (pc1 := 28) (lv1 := [(3, .int (Int32.ofInt o2)), (0, .ref a0), (1, .int (Int32.ofInt x1)), (2, .int (Int32.ofInt x2))]) (st1 := [.int (Int32.ofInt x2), .ref (a0 + 6)]) (w1 := w) rfl ?_
      obtain ⟨i7, e8, hx⟩ := bd hx
      refine wx_ra (x := (a0 + 6)) (n := 8) (ln := 1) (a := 0) (b := 0) (zz := 0) (by decide +kernel) h (ca0.2.1 6 (by decide) (by decide)) e8 ?_
      show wp _ 15 29 [(3, .int (Int32.ofInt o2)), (0, .ref a0), (1, .int (Int32.ofInt x1)), (2, .int (Int32.ofInt x2))] [.int (Int32.ofInt (s (a0 + 6) i7))] w _
      refine wz_eq (oo := 15) (ln := 3) (a := 44) (b := 0) (zz := 0) (by decide +kernel) (fun h9 => ?_) (fun h9 => ?_)
      · have hx := ite_t h9 hx
        refine wp_g 2 (pc1 := 2) (lv1 := [(2, .int (Int32.ofInt (x2 + 1))), (3, .int (Int32.ofInt o2)), (0, .ref a0), (1, .int (Int32.ofInt x1))]) (st1 := []) (w1 := w) (by simp only [Int32.ofInt_add, Int32.ofInt_sub, Int32.ofInt_mul, Int32.ofInt_neg, p_and, p_or, p_xor, p_shl, p_shr, p_usr, p_w8, p_c16, p_lI, q_and, q_or, q_shl, q_shr, q_w32, Int64.ofInt_add, Int64.ofInt_sub, Int64.ofInt_mul, p_mx, p_mn, q_mx, q_mn]; rfl) ?_
        refine wp_lv (lv1 := [(0, .ref a0), (1, .int (Int32.ofInt x1)), (2, .int (Int32.ofInt (x2 + 1)))]) (lsub_p [2, 3, 0] rfl rfl rfl) ?_
        cases hx
        exact kn _ _ rfl rfl
      · have hx := ite_f h9 hx
        refine wp_g 1 (pc1 := 33) (lv1 := [(3, .int (Int32.ofInt o2)), (0, .ref a0), (1, .int (Int32.ofInt x1)), (2, .int (Int32.ofInt x2))]) (st1 := [.ref a0]) (w1 := w) rfl ?_
        refine wx_gr (o := 6) (kf := 40) (ln := 3) (ci := 0) (b := 9) (zz := 0) (x := a0) (by decide +kernel) h ca0.1 rfl ?_
        show wp _ 15 36 [(3, .int (Int32.ofInt o2)), (0, .ref a0), (1, .int (Int32.ofInt x1)), (2, .int (Int32.ofInt x2))] [.ref (a0 + 6)] w _
        refine wp_g 1 (pc1 := 37) (lv1 := [(3, .int (Int32.ofInt o2)), (0, .ref a0), (1, .int (Int32.ofInt x1)), (2, .int (Int32.ofInt x2))]) (st1 := [.int (Int32.ofInt x2), .ref (a0 + 6)]) (w1 := w) rfl ?_
        refine wx_ra (x := (a0 + 6)) (n := 8) (ln := 1) (a := 0) (b := 0) (zz := 0) (by decide +kernel) h (ca0.2.1 6 (by decide) (by decide)) e8 ?_
        show wp _ 15 38 [(3, .int (Int32.ofInt o2)), (0, .ref a0), (1, .int (Int32.ofInt x1)), (2, .int (Int32.ofInt x2))] [.int (Int32.ofInt (s (a0 + 6) i7))] w _
        refine wp_g 1 (pc1 := 39) (lv1 := [(3, .int (Int32.ofInt o2)), (0, .ref a0), (1, .int (Int32.ofInt x1)), (2, .int (Int32.ofInt x2))]) (st1 := [.int (Int32.ofInt o2), .int (Int32.ofInt (s (a0 + 6) i7))]) (w1 := w) rfl ?_
        refine wx_eq (oo := 5) (ln := 3) (a := 44) (b := 0) (zz := 0) (by decide +kernel) (fun h10 => ?_) (fun h10 => ?_)
        · have hx := ite_t h10 hx
          refine wp_g 2 (pc1 := 2) (lv1 := [(2, .int (Int32.ofInt (x2 + 1))), (3, .int (Int32.ofInt o2)), (0, .ref a0), (1, .int (Int32.ofInt x1))]) (st1 := []) (w1 := w) (by simp only [Int32.ofInt_add, Int32.ofInt_sub, Int32.ofInt_mul, Int32.ofInt_neg, p_and, p_or, p_xor, p_shl, p_shr, p_usr, p_w8, p_c16, p_lI, q_and, q_or, q_shl, q_shr, q_w32, Int64.ofInt_add, Int64.ofInt_sub, Int64.ofInt_mul, p_mx, p_mn, q_mx, q_mn]; rfl) ?_
          refine wp_lv (lv1 := [(0, .ref a0), (1, .int (Int32.ofInt x1)), (2, .int (Int32.ofInt (x2 + 1)))]) (lsub_p [2, 3, 0] rfl rfl rfl) ?_
          cases hx
          exact kn _ _ rfl rfl
        · have hx := ite_f h10 hx
          refine wp_g 1 (pc1 := 43) (lv1 := [(3, .int (Int32.ofInt o2)), (0, .ref a0), (1, .int (Int32.ofInt x1)), (2, .int (Int32.ofInt x2))]) (st1 := [.int (Int32.ofInt 0)]) (w1 := w) rfl ?_
          refine wp_rt (i := .ireturn) (r := some (.int (Int32.ofInt 0))) (ln := 1) (a := 0) (b := 0) (z := 0) (by decide +kernel) rfl (ret_b (by decide +kernel) (Or.inl rfl)) ?_
          cases hx
          exact (kc _ rfl).2 _ _ rfl rfl
/-- Cloth.creasesAllow (I)Z -/
noncomputable def xl_creasesAllow (s : Hp) (a0 : Nat) (p1 : Int) : Option Int :=
  (lp (fun (q : Int) => xl_creasesAllow_b2 s a0 p1 q) 0).bind fun q1 => q1.elim (fun q5 => some 1) (fun r => some r)
set_option maxRecDepth 100000 in
theorem xl_creasesAllow_ok {d : Nat} {P : Option Value → pm_H → Prop} {w : pm_H} {sh : Shp} {w0 : pm_H} {s : Hp} (hS : St sh) {a0 r0 : Nat} (ca0 : okC r0 sh a0) {p1 : Int} (h : Rw sh w0 s w) {o : Int} (hx : xl_creasesAllow s a0 p1 = some o) (kr : P (some (.int (Int32.ofInt o))) w) : wp (d + 1) 15 0 (lv_args 0 [.ref a0, .int (Int32.ofInt p1)]) [] w P := by
  show wp _ 15 0 [(0, .ref a0), (1, .int (Int32.ofInt p1))] [] w _
  unfold xl_creasesAllow at hx
  refine wp_g 2 (pc1 := 2) (lv1 := [(2, .int (Int32.ofInt 0)), (0, .ref a0), (1, .int (Int32.ofInt p1))]) (st1 := []) (w1 := w) rfl ?_
  refine wp_lv (lv1 := [(0, .ref a0), (1, .int (Int32.ofInt p1)), (2, .int (Int32.ofInt 0))]) (lsub_p [1, 2, 0] rfl rfl rfl) ?_
  obtain ⟨q1, e2, hx⟩ := bd hx
  refine wp_lp (σ := Int) (ρ := (Int ⊕ Int)) (B := fun q => xl_creasesAllow_b2 s a0 p1 q) (R := fun q w' => w = w') (C := fun r => (∀ q1 w1, r = .inl q1 → w = w1 → wp (d + 1) 15 50 [(0, .ref a0), (1, .int (Int32.ofInt p1)), (2, .int (Int32.ofInt q1))] [] w1 P) ∧ (∀ v1 w1, r = .inr v1 → w = w1 → P (some (.int (Int32.ofInt v1))) w1)) (lv := fun q => [(0, .ref a0), (1, .int (Int32.ofInt p1)), (2, .int (Int32.ofInt q))]) (hd := 2) (fun q w' o hR hb kn kc => by subst hR; exact xl_creasesAllow_b2_ok hS ca0 h hb kn kc) _ _ _ e2 rfl ?_
  refine ⟨?_, fun v6 w1 hs h1 => by subst hs; cases (se_r hx); subst h1; exact kr⟩
  intro q5 w3 hs h4
  subst hs
  replace hx := se_l hx
  subst h4
  show wp _ 15 50 [(0, .ref a0), (1, .int (Int32.ofInt p1)), (2, .int (Int32.ofInt q5))] [] w _
  refine wp_g 1 (pc1 := 51) (lv1 := [(0, .ref a0), (1, .int (Int32.ofInt p1)), (2, .int (Int32.ofInt q5))]) (st1 := [.int (Int32.ofInt 1)]) (w1 := w) rfl ?_
  refine wp_rt (i := .ireturn) (r := some (.int (Int32.ofInt 1))) (ln := 1) (a := 0) (b := 0) (z := 0) (by decide +kernel) rfl (ret_b (by decide +kernel) (Or.inr rfl)) ?_
  cases hx
  exact kr
noncomputable def xl_keepsToMarks_b2 (s : Hp) (a0 : Nat) (x2 : Int) (x3 : Int) : Option (Int ⊕ (Int ⊕ Int)) :=
  if w32 x3 < w32 ((s a0 0) - 1) then if w32 x3 < w32 8 then (xl_kindMade s a0 x3 x2).bind fun o3 => if w32 o3 = 0 then some (.inl (x3 + 1)) else (ix 8 x3).bind fun i8 => if w32 o3 = w32 (s 35 i8) then some (.inl (x3 + 1)) else some (.inr (.inr 0)) else some (.inr (.inl x3)) else some (.inr (.inl x3))
set_option maxRecDepth 100000 in
theorem xl_keepsToMarks_b2_ok {d : Nat} {P : Option Value → pm_H → Prop} {w : pm_H} {sh : Shp} {w0 : pm_H} {s : Hp} (hS : St sh) {a0 r0 : Nat} (ca0 : okC r0 sh a0) {x2 : Int} {x3 : Int} (h : Rw sh w0 s w) {o : (Int ⊕ (Int ⊕ Int))} (hx : xl_keepsToMarks_b2 s a0 x2 x3 = some o) (kn : ∀ (q : Int) w1, o = .inl q → w = w1 → wp (d + 1) 16 2 [(0, .ref a0), (1, .ref 35), (2, .int (Int32.ofInt x2)), (3, .int (Int32.ofInt q))] [] w1 P) (kc : ∀ (r : (Int ⊕ Int)), o = .inr r → ((∀ q1 w1, r = .inl q1 → w = w1 → wp (d + 1) 16 47 [(0, .ref a0), (1, .ref 35), (2, .int (Int32.ofInt x2)), (3, .int (Int32.ofInt q1))] [] w1 P) ∧ (∀ v1 w1, r = .inr v1 → w = w1 → P (some (.int (Int32.ofInt v1))) w1))) : wp (d + 1) 16 2 [(0, .ref a0), (1, .ref 35), (2, .int (Int32.ofInt x2)), (3, .int (Int32.ofInt x3))] [] w P := by
  unfold xl_keepsToMarks_b2 at hx
  refine wp_g 2 (pc1 := 4) (lv1 := [(0, .ref a0), (1, .ref 35), (2, .int (Int32.ofInt x2)), (3, .int (Int32.ofInt x3))]) (st1 := [.ref a0, .int (Int32.ofInt x3)]) (w1 := w) rfl ?_
  refine wx_gi (kf := 9) (ln := 3) (ci := 0) (b := 0) (zz := 0) (x := a0) (by decide +kernel) h ca0.1 rfl ?_
  show wp _ 16 7 [(0, .ref a0), (1, .ref 35), (2, .int (Int32.ofInt x2)), (3, .int (Int32.ofInt x3))] [.int (Int32.ofInt (s a0 0)), .int (Int32.ofInt x3)] w _
  refine wp_g 2 (pc1 := 9) (lv1 := [(0, .ref a0), (1, .ref 35), (2, .int (Int32.ofInt x2)), (3, .int (Int32.ofInt x3))]) (st1 := [.int (Int32.ofInt ((s a0 0) - 1)), .int (Int32.ofInt x3)]) (w1 := w) (by simp only [Int32.ofInt_add, Int32.ofInt_sub, Int32.ofInt_mul, Int32.ofInt_neg, p_and, p_or, p_xor, p_shl, p_shr, p_usr, p_w8, p_c16, p_lI, q_and, q_or, q_shl, q_shr, q_w32, Int64.ofInt_add, Int64.ofInt_sub, Int64.ofInt_mul, p_mx, p_mn, q_mx, q_mn]; rfl) ?_
  refine wx_ge (oo := 38) (ln := 3) (a := 47) (b := 0) (zz := 0) (by decide +kernel) (fun h1 => ?_) (fun h1 => ?_)
  · have hx := ite_f h1 hx
    cases hx
    exact (kc _ rfl).1 _ _ rfl rfl
  · have hx := ite_t h1 hx
    refine wp_g 2 (pc1 := 14) (lv1 := [(0, .ref a0), (1, .ref 35), (2, .int (Int32.ofInt x2)), (3, .int (Int32.ofInt x3))]) (st1 := [.ref 35, .int (Int32.ofInt x3)]) (w1 := w) rfl ?_
    refine wx_ln (n := 8) (t := 0) (ln := 1) (a := 0) (b := 0) (zz := 0) (by decide +kernel) h (hS _ _ sx_35) ?_
    show wp _ 16 15 [(0, .ref a0), (1, .ref 35), (2, .int (Int32.ofInt x2)), (3, .int (Int32.ofInt x3))] [.int (Int32.ofInt 8), .int (Int32.ofInt x3)] w _
    refine wx_ge (oo := 32) (ln := 3) (a := 47) (b := 0) (zz := 0) (by decide +kernel) (fun h2 => ?_) (fun h2 => ?_)
    · have hx := ite_f h2 hx
      cases hx
      exact (kc _ rfl).1 _ _ rfl rfl
    · have hx := ite_t h2 hx
      refine wp_g 3 (pc1 := 21) (lv1 := [(0, .ref a0), (1, .ref 35), (2, .int (Int32.ofInt x2)), (3, .int (Int32.ofInt x3))]) (st1 := [.int (Int32.ofInt x2), .int (Int32.ofInt x3), .ref a0]) (w1 := w) rfl ?_
      obtain ⟨o3, e4, hx⟩ := bd hx
      refine wp_cl [.ref a0, .int (Int32.ofInt x3), .int (Int32.ofInt x2)] [] (i := .invokevirtual 68) (ln := 3) (a := 14) (b := 0) (z := 0) (by decide +kernel) rfl rfl (by decide) rfl (show (3 : Nat) = pm_na 14 by decide +kernel) (Nat.le_of_ble_eq_true rfl) (show (3 : Nat) ≤ pm_n 14 by decide +kernel) (rcv_x 0 h ca0.1 (by decide +kernel)) (xl_kindMade_ok (d := d) hS ca0 h e4 ?_)
      show wp _ 16 24 [(0, .ref a0), (1, .ref 35), (2, .int (Int32.ofInt x2)), (3, .int (Int32.ofInt x3))] [.int (Int32.ofInt o3)] w _
      refine wp_g 2 (pc1 := 28) (lv1 := [(4, .int (Int32.ofInt o3)), (0, .ref a0), (1, .ref 35), (2, .int (Int32.ofInt x2)), (3, .int (Int32.ofInt x3))]) (st1 := [.int (Int32.ofInt o3)]) (w1 := w) rfl ?_
      refine wz_eq (oo := 13) (ln := 3) (a := 41) (b := 0) (zz := 0) (by decide +kernel) (fun h7 => ?_) (fun h7 => ?_)
      · have hx := ite_t h7 hx
        refine wp_g 2 (pc1 := 2) (lv1 := [(3, .int (Int32.ofInt (x3 + 1))), (4, .int (Int32.ofInt o3)), (0, .ref a0), (1, .ref 35), (2, .int (Int32.ofInt x2))]) (st1 := []) (w1 := w) (by simp only [Int32.ofInt_add, Int32.ofInt_sub, Int32.ofInt_mul, Int32.ofInt_neg, p_and, p_or, p_xor, p_shl, p_shr, p_usr, p_w8, p_c16, p_lI, q_and, q_or, q_shl, q_shr, q_w32, Int64.ofInt_add, Int64.ofInt_sub, Int64.ofInt_mul, p_mx, p_mn, q_mx, q_mn]; rfl) ?_
        refine wp_lv (lv1 := [(0, .ref a0), (1, .ref 35), (2, .int (Int32.ofInt x2)), (3, .int (Int32.ofInt (x3 + 1)))]) (lsub_p [2, 3, 4, 0] rfl rfl rfl) ?_
        cases hx
        exact kn _ _ rfl rfl
      · have hx := ite_f h7 hx
        refine wp_g 3 (pc1 := 35) (lv1 := [(4, .int (Int32.ofInt o3)), (0, .ref a0), (1, .ref 35), (2, .int (Int32.ofInt x2)), (3, .int (Int32.ofInt x3))]) (st1 := [.int (Int32.ofInt x3), .ref 35, .int (Int32.ofInt o3)]) (w1 := w) rfl ?_
        obtain ⟨i8, e9, hx⟩ := bd hx
        refine wx_ra (x := 35) (n := 8) (ln := 1) (a := 0) (b := 0) (zz := 0) (by decide +kernel) h (hS _ _ sx_35) e9 ?_
        show wp _ 16 36 [(4, .int (Int32.ofInt o3)), (0, .ref a0), (1, .ref 35), (2, .int (Int32.ofInt x2)), (3, .int (Int32.ofInt x3))] [.int (Int32.ofInt (s 35 i8)), .int (Int32.ofInt o3)] w _
        refine wx_eq (oo := 5) (ln := 3) (a := 41) (b := 0) (zz := 0) (by decide +kernel) (fun h10 => ?_) (fun h10 => ?_)
        · have hx := ite_t h10 hx
          refine wp_g 2 (pc1 := 2) (lv1 := [(3, .int (Int32.ofInt (x3 + 1))), (4, .int (Int32.ofInt o3)), (0, .ref a0), (1, .ref 35), (2, .int (Int32.ofInt x2))]) (st1 := []) (w1 := w) (by simp only [Int32.ofInt_add, Int32.ofInt_sub, Int32.ofInt_mul, Int32.ofInt_neg, p_and, p_or, p_xor, p_shl, p_shr, p_usr, p_w8, p_c16, p_lI, q_and, q_or, q_shl, q_shr, q_w32, Int64.ofInt_add, Int64.ofInt_sub, Int64.ofInt_mul, p_mx, p_mn, q_mx, q_mn]; rfl) ?_
          refine wp_lv (lv1 := [(0, .ref a0), (1, .ref 35), (2, .int (Int32.ofInt x2)), (3, .int (Int32.ofInt (x3 + 1)))]) (lsub_p [2, 3, 4, 0] rfl rfl rfl) ?_
          cases hx
          exact kn _ _ rfl rfl
        · have hx := ite_f h10 hx
          refine wp_g 1 (pc1 := 40) (lv1 := [(4, .int (Int32.ofInt o3)), (0, .ref a0), (1, .ref 35), (2, .int (Int32.ofInt x2)), (3, .int (Int32.ofInt x3))]) (st1 := [.int (Int32.ofInt 0)]) (w1 := w) rfl ?_
          refine wp_rt (i := .ireturn) (r := some (.int (Int32.ofInt 0))) (ln := 1) (a := 0) (b := 0) (z := 0) (by decide +kernel) rfl (ret_b (by decide +kernel) (Or.inl rfl)) ?_
          cases hx
          exact (kc _ rfl).2 _ _ rfl rfl
/-- Cloth.keepsToMarks ([II)Z -/
noncomputable def xl_keepsToMarks (s : Hp) (a0 : Nat) (p2 : Int) : Option Int :=
  (lp (fun (q : Int) => xl_keepsToMarks_b2 s a0 p2 q) 0).bind fun q1 => q1.elim (fun q5 => some 1) (fun r => some r)
set_option maxRecDepth 100000 in
theorem xl_keepsToMarks_ok {d : Nat} {P : Option Value → pm_H → Prop} {w : pm_H} {sh : Shp} {w0 : pm_H} {s : Hp} (hS : St sh) {a0 r0 : Nat} (ca0 : okC r0 sh a0) {p2 : Int} (h : Rw sh w0 s w) {o : Int} (hx : xl_keepsToMarks s a0 p2 = some o) (kr : P (some (.int (Int32.ofInt o))) w) : wp (d + 1) 16 0 (lv_args 0 [.ref a0, .ref 35, .int (Int32.ofInt p2)]) [] w P := by
  show wp _ 16 0 [(0, .ref a0), (1, .ref 35), (2, .int (Int32.ofInt p2))] [] w _
  unfold xl_keepsToMarks at hx
  refine wp_g 2 (pc1 := 2) (lv1 := [(3, .int (Int32.ofInt 0)), (0, .ref a0), (1, .ref 35), (2, .int (Int32.ofInt p2))]) (st1 := []) (w1 := w) rfl ?_
  refine wp_lv (lv1 := [(0, .ref a0), (1, .ref 35), (2, .int (Int32.ofInt p2)), (3, .int (Int32.ofInt 0))]) (lsub_p [1, 2, 3, 0] rfl rfl rfl) ?_
  obtain ⟨q1, e2, hx⟩ := bd hx
  refine wp_lp (σ := Int) (ρ := (Int ⊕ Int)) (B := fun q => xl_keepsToMarks_b2 s a0 p2 q) (R := fun q w' => w = w') (C := fun r => (∀ q1 w1, r = .inl q1 → w = w1 → wp (d + 1) 16 47 [(0, .ref a0), (1, .ref 35), (2, .int (Int32.ofInt p2)), (3, .int (Int32.ofInt q1))] [] w1 P) ∧ (∀ v1 w1, r = .inr v1 → w = w1 → P (some (.int (Int32.ofInt v1))) w1)) (lv := fun q => [(0, .ref a0), (1, .ref 35), (2, .int (Int32.ofInt p2)), (3, .int (Int32.ofInt q))]) (hd := 2) (fun q w' o hR hb kn kc => by subst hR; exact xl_keepsToMarks_b2_ok hS ca0 h hb kn kc) _ _ _ e2 rfl ?_
  refine ⟨?_, fun v6 w1 hs h1 => by subst hs; cases (se_r hx); subst h1; exact kr⟩
  intro q5 w3 hs h4
  subst hs
  replace hx := se_l hx
  subst h4
  show wp _ 16 47 [(0, .ref a0), (1, .ref 35), (2, .int (Int32.ofInt p2)), (3, .int (Int32.ofInt q5))] [] w _
  refine wp_g 1 (pc1 := 48) (lv1 := [(0, .ref a0), (1, .ref 35), (2, .int (Int32.ofInt p2)), (3, .int (Int32.ofInt q5))]) (st1 := [.int (Int32.ofInt 1)]) (w1 := w) rfl ?_
  refine wp_rt (i := .ireturn) (r := some (.int (Int32.ofInt 1))) (ln := 1) (a := 0) (b := 0) (z := 0) (by decide +kernel) rfl (ret_b (by decide +kernel) (Or.inr rfl)) ?_
  cases hx
  exact kr
noncomputable def xl_hasMarks_b2 (s : Hp) (a0 : Nat) (x2 : Int) : Option (Int ⊕ (Int ⊕ Int)) :=
  if w32 x2 < w32 ((s a0 0) - 1) then if w32 x2 < w32 8 then (ix 8 x2).bind fun i3 => if w32 (s (a0 + 6) i3) = w32 (s 35 i3) then some (.inl (x2 + 1)) else some (.inr (.inr 0)) else some (.inr (.inl x2)) else some (.inr (.inl x2))
set_option maxRecDepth 100000 in
theorem xl_hasMarks_b2_ok {d : Nat} {P : Option Value → pm_H → Prop} {w : pm_H} {sh : Shp} {w0 : pm_H} {s : Hp} (hS : St sh) {a0 r0 : Nat} (ca0 : okC r0 sh a0) {x2 : Int} (h : Rw sh w0 s w) {o : (Int ⊕ (Int ⊕ Int))} (hx : xl_hasMarks_b2 s a0 x2 = some o) (kn : ∀ (q : Int) w1, o = .inl q → w = w1 → wp d 17 2 [(0, .ref a0), (1, .ref 35), (2, .int (Int32.ofInt q))] [] w1 P) (kc : ∀ (r : (Int ⊕ Int)), o = .inr r → ((∀ q1 w1, r = .inl q1 → w = w1 → wp d 17 38 [(0, .ref a0), (1, .ref 35), (2, .int (Int32.ofInt q1))] [] w1 P) ∧ (∀ v1 w1, r = .inr v1 → w = w1 → P (some (.int (Int32.ofInt v1))) w1))) : wp d 17 2 [(0, .ref a0), (1, .ref 35), (2, .int (Int32.ofInt x2))] [] w P := by
  unfold xl_hasMarks_b2 at hx
  refine wp_g 2 (pc1 := 4) (lv1 := [(0, .ref a0), (1, .ref 35), (2, .int (Int32.ofInt x2))]) (st1 := [.ref a0, .int (Int32.ofInt x2)]) (w1 := w) rfl ?_
  refine wx_gi (kf := 9) (ln := 3) (ci := 0) (b := 0) (zz := 0) (x := a0) (by decide +kernel) h ca0.1 rfl ?_
  show wp _ 17 7 [(0, .ref a0), (1, .ref 35), (2, .int (Int32.ofInt x2))] [.int (Int32.ofInt (s a0 0)), .int (Int32.ofInt x2)] w _
  refine wp_g 2 (pc1 := 9) (lv1 := [(0, .ref a0), (1, .ref 35), (2, .int (Int32.ofInt x2))]) (st1 := [.int (Int32.ofInt ((s a0 0) - 1)), .int (Int32.ofInt x2)]) (w1 := w) (by simp only [Int32.ofInt_add, Int32.ofInt_sub, Int32.ofInt_mul, Int32.ofInt_neg, p_and, p_or, p_xor, p_shl, p_shr, p_usr, p_w8, p_c16, p_lI, q_and, q_or, q_shl, q_shr, q_w32, Int64.ofInt_add, Int64.ofInt_sub, Int64.ofInt_mul, p_mx, p_mn, q_mx, q_mn]; rfl) ?_
  refine wx_ge (oo := 29) (ln := 3) (a := 38) (b := 0) (zz := 0) (by decide +kernel) (fun h1 => ?_) (fun h1 => ?_)
  · have hx := ite_f h1 hx
    cases hx
    exact (kc _ rfl).1 _ _ rfl rfl
  · have hx := ite_t h1 hx
    refine wp_g 2 (pc1 := 14) (lv1 := [(0, .ref a0), (1, .ref 35), (2, .int (Int32.ofInt x2))]) (st1 := [.ref 35, .int (Int32.ofInt x2)]) (w1 := w) rfl ?_
    refine wx_ln (n := 8) (t := 0) (ln := 1) (a := 0) (b := 0) (zz := 0) (by decide +kernel) h (hS _ _ sx_35) ?_
    show wp _ 17 15 [(0, .ref a0), (1, .ref 35), (2, .int (Int32.ofInt x2))] [.int (Int32.ofInt 8), .int (Int32.ofInt x2)] w _
    refine wx_ge (oo := 23) (ln := 3) (a := 38) (b := 0) (zz := 0) (by decide +kernel) (fun h2 => ?_) (fun h2 => ?_)
    · have hx := ite_f h2 hx
      cases hx
      exact (kc _ rfl).1 _ _ rfl rfl
    · have hx := ite_t h2 hx
      refine wp_g 1 (pc1 := 19) (lv1 := [(0, .ref a0), (1, .ref 35), (2, .int (Int32.ofInt x2))]) (st1 := [.ref a0]) (w1 := w) rfl ?_
      refine wx_gr (o := 6) (kf := 40) (ln := 3) (ci := 0) (b := 9) (zz := 0) (x := a0) (by decide +kernel) h ca0.1 rfl ?_
      show wp _ 17 22 [(0, .ref a0), (1, .ref 35), (2, .int (Int32.ofInt x2))] [.ref (a0 + 6)] w _
      refine wp_g 1 (pc1 := 23) (lv1 := [(0, .ref a0), (1, .ref 35), (2, .int (Int32.ofInt x2))]) (st1 := [.int (Int32.ofInt x2), .ref (a0 + 6)]) (w1 := w) rfl ?_
      obtain ⟨i3, e4, hx⟩ := bd hx
      refine wx_ra (x := (a0 + 6)) (n := 8) (ln := 1) (a := 0) (b := 0) (zz := 0) (by decide +kernel) h (ca0.2.1 6 (by decide) (by decide)) e4 ?_
      show wp _ 17 24 [(0, .ref a0), (1, .ref 35), (2, .int (Int32.ofInt x2))] [.int (Int32.ofInt (s (a0 + 6) i3))] w _
      refine wp_g 2 (pc1 := 26) (lv1 := [(0, .ref a0), (1, .ref 35), (2, .int (Int32.ofInt x2))]) (st1 := [.int (Int32.ofInt x2), .ref 35, .int (Int32.ofInt (s (a0 + 6) i3))]) (w1 := w) rfl ?_
      refine wx_ra (x := 35) (n := 8) (ln := 1) (a := 0) (b := 0) (zz := 0) (by decide +kernel) h (hS _ _ sx_35) e4 ?_
      show wp _ 17 27 [(0, .ref a0), (1, .ref 35), (2, .int (Int32.ofInt x2))] [.int (Int32.ofInt (s 35 i3)), .int (Int32.ofInt (s (a0 + 6) i3))] w _
      refine wx_eq (oo := 5) (ln := 3) (a := 32) (b := 0) (zz := 0) (by decide +kernel) (fun h5 => ?_) (fun h5 => ?_)
      · have hx := ite_t h5 hx
        refine wp_g 2 (pc1 := 2) (lv1 := [(2, .int (Int32.ofInt (x2 + 1))), (0, .ref a0), (1, .ref 35)]) (st1 := []) (w1 := w) (by simp only [Int32.ofInt_add, Int32.ofInt_sub, Int32.ofInt_mul, Int32.ofInt_neg, p_and, p_or, p_xor, p_shl, p_shr, p_usr, p_w8, p_c16, p_lI, q_and, q_or, q_shl, q_shr, q_w32, Int64.ofInt_add, Int64.ofInt_sub, Int64.ofInt_mul, p_mx, p_mn, q_mx, q_mn]; rfl) ?_
        refine wp_lv (lv1 := [(0, .ref a0), (1, .ref 35), (2, .int (Int32.ofInt (x2 + 1)))]) (lsub_p [1, 2, 0] rfl rfl rfl) ?_
        cases hx
        exact kn _ _ rfl rfl
      · have hx := ite_f h5 hx
        refine wp_g 1 (pc1 := 31) (lv1 := [(0, .ref a0), (1, .ref 35), (2, .int (Int32.ofInt x2))]) (st1 := [.int (Int32.ofInt 0)]) (w1 := w) rfl ?_
        refine wp_rt (i := .ireturn) (r := some (.int (Int32.ofInt 0))) (ln := 1) (a := 0) (b := 0) (z := 0) (by decide +kernel) rfl (ret_b (by decide +kernel) (Or.inl rfl)) ?_
        cases hx
        exact (kc _ rfl).2 _ _ rfl rfl
/-- Cloth.hasMarks ([I)Z -/
noncomputable def xl_hasMarks (s : Hp) (a0 : Nat) : Option Int :=
  (lp (fun (q : Int) => xl_hasMarks_b2 s a0 q) 0).bind fun q1 => q1.elim (fun q5 => some 1) (fun r => some r)
set_option maxRecDepth 100000 in
theorem xl_hasMarks_ok {d : Nat} {P : Option Value → pm_H → Prop} {w : pm_H} {sh : Shp} {w0 : pm_H} {s : Hp} (hS : St sh) {a0 r0 : Nat} (ca0 : okC r0 sh a0) (h : Rw sh w0 s w) {o : Int} (hx : xl_hasMarks s a0 = some o) (kr : P (some (.int (Int32.ofInt o))) w) : wp d 17 0 (lv_args 0 [.ref a0, .ref 35]) [] w P := by
  show wp _ 17 0 [(0, .ref a0), (1, .ref 35)] [] w _
  unfold xl_hasMarks at hx
  refine wp_g 2 (pc1 := 2) (lv1 := [(2, .int (Int32.ofInt 0)), (0, .ref a0), (1, .ref 35)]) (st1 := []) (w1 := w) rfl ?_
  refine wp_lv (lv1 := [(0, .ref a0), (1, .ref 35), (2, .int (Int32.ofInt 0))]) (lsub_p [1, 2, 0] rfl rfl rfl) ?_
  obtain ⟨q1, e2, hx⟩ := bd hx
  refine wp_lp (σ := Int) (ρ := (Int ⊕ Int)) (B := fun q => xl_hasMarks_b2 s a0 q) (R := fun q w' => w = w') (C := fun r => (∀ q1 w1, r = .inl q1 → w = w1 → wp d 17 38 [(0, .ref a0), (1, .ref 35), (2, .int (Int32.ofInt q1))] [] w1 P) ∧ (∀ v1 w1, r = .inr v1 → w = w1 → P (some (.int (Int32.ofInt v1))) w1)) (lv := fun q => [(0, .ref a0), (1, .ref 35), (2, .int (Int32.ofInt q))]) (hd := 2) (fun q w' o hR hb kn kc => by subst hR; exact xl_hasMarks_b2_ok hS ca0 h hb kn kc) _ _ _ e2 rfl ?_
  refine ⟨?_, fun v6 w1 hs h1 => by subst hs; cases (se_r hx); subst h1; exact kr⟩
  intro q5 w3 hs h4
  subst hs
  replace hx := se_l hx
  subst h4
  show wp _ 17 38 [(0, .ref a0), (1, .ref 35), (2, .int (Int32.ofInt q5))] [] w _
  refine wp_g 1 (pc1 := 39) (lv1 := [(0, .ref a0), (1, .ref 35), (2, .int (Int32.ofInt q5))]) (st1 := [.int (Int32.ofInt 1)]) (w1 := w) rfl ?_
  refine wp_rt (i := .ireturn) (r := some (.int (Int32.ofInt 1))) (ln := 1) (a := 0) (b := 0) (z := 0) (by decide +kernel) rfl (ret_b (by decide +kernel) (Or.inr rfl)) ?_
  cases hx
  exact kr
/-- FoldDeeds.widthAfter (II)I -/
noncomputable def xf_widthAfter (p0 : Int) (p1 : Int) : Option Int :=
  some (mxI (p1 + 1) ((p0 - 1) - p1))
set_option maxRecDepth 100000 in
theorem xf_widthAfter_ok {d : Nat} {P : Option Value → pm_H → Prop} {w : pm_H} {p0 : Int} {p1 : Int} {o : Int} (hx : xf_widthAfter p0 p1 = some o) (kr : P (some (.int (Int32.ofInt o))) w) : wp (d + 6) 145 0 (lv_args 0 [.int (Int32.ofInt p0), .int (Int32.ofInt p1)]) [] w P := by
  show wp _ 145 0 [(0, .int (Int32.ofInt p0)), (1, .int (Int32.ofInt p1))] [] w _
  unfold xf_widthAfter at hx
  refine wp_g 8 (pc1 := 8) (lv1 := [(0, .int (Int32.ofInt p0)), (1, .int (Int32.ofInt p1))]) (st1 := [.int (Int32.ofInt ((p0 - 1) - p1)), .int (Int32.ofInt (p1 + 1))]) (w1 := w) (by simp only [Int32.ofInt_add, Int32.ofInt_sub, Int32.ofInt_mul, Int32.ofInt_neg, p_and, p_or, p_xor, p_shl, p_shr, p_usr, p_w8, p_c16, p_lI, q_and, q_or, q_shl, q_shr, q_w32, Int64.ofInt_add, Int64.ofInt_sub, Int64.ofInt_mul, p_mx, p_mn, q_mx, q_mn]; rfl) ?_
  refine wp_lb (i := .invokestatic 304) (ln := 3) (a := 1001) (b := 9) (z := 0) (st1 := [.int (Int32.ofInt (mxI (p1 + 1) ((p0 - 1) - p1)))]) (w1 := w) (by decide +kernel) rfl rfl (by decide) (by simp only [Int32.ofInt_add, Int32.ofInt_sub, Int32.ofInt_mul, Int32.ofInt_neg, p_and, p_or, p_xor, p_shl, p_shr, p_usr, p_w8, p_c16, p_lI, q_and, q_or, q_shl, q_shr, q_w32, Int64.ofInt_add, Int64.ofInt_sub, Int64.ofInt_mul, p_mx, p_mn, q_mx, q_mn]; rfl) (Nat.le_of_ble_eq_true rfl) (by omega) ?_
  refine wp_rt (i := .ireturn) (r := some (.int (Int32.ofInt (mxI (p1 + 1) ((p0 - 1) - p1))))) (ln := 1) (a := 0) (b := 0) (z := 0) (by decide +kernel) rfl (ret_ok (by decide +kernel)) ?_
  cases hx
  exact kr
/-- Cloth.layersOn (I)I -/
noncomputable def xl_layersOn (s : Hp) (a0 : Nat) (p1 : Int) : Option Int :=
  if w32 p1 < 0 then some 0 else if w32 p1 < w32 (s a0 2) then (ix 8 p1).bind fun i3 => some (s (a0 + 7) i3) else some 0
set_option maxRecDepth 100000 in
theorem xl_layersOn_ok {d : Nat} {P : Option Value → pm_H → Prop} {w : pm_H} {sh : Shp} {w0 : pm_H} {s : Hp} (hS : St sh) {a0 r0 : Nat} (ca0 : okC r0 sh a0) {p1 : Int} (h : Rw sh w0 s w) {o : Int} (hx : xl_layersOn s a0 p1 = some o) (kr : P (some (.int (Int32.ofInt o))) w) : wp d 20 0 (lv_args 0 [.ref a0, .int (Int32.ofInt p1)]) [] w P := by
  show wp _ 20 0 [(0, .ref a0), (1, .int (Int32.ofInt p1))] [] w _
  unfold xl_layersOn at hx
  refine wp_g 1 (pc1 := 1) (lv1 := [(0, .ref a0), (1, .int (Int32.ofInt p1))]) (st1 := [.int (Int32.ofInt p1)]) (w1 := w) rfl ?_
  refine wz_lt (oo := 20) (ln := 3) (a := 21) (b := 0) (zz := 0) (by decide +kernel) (fun h1 => ?_) (fun h1 => ?_)
  · have hx := ite_t h1 hx
    refine wp_g 1 (pc1 := 22) (lv1 := [(0, .ref a0), (1, .int (Int32.ofInt p1))]) (st1 := [.int (Int32.ofInt 0)]) (w1 := w) rfl ?_
    refine wp_rt (i := .ireturn) (r := some (.int (Int32.ofInt 0))) (ln := 1) (a := 0) (b := 0) (z := 0) (by decide +kernel) rfl (ret_ok (by decide +kernel)) ?_
    cases hx
    exact kr
  · have hx := ite_f h1 hx
    refine wp_g 2 (pc1 := 6) (lv1 := [(0, .ref a0), (1, .int (Int32.ofInt p1))]) (st1 := [.ref a0, .int (Int32.ofInt p1)]) (w1 := w) rfl ?_
    refine wx_gi (kf := 18) (ln := 3) (ci := 0) (b := 2) (zz := 0) (x := a0) (by decide +kernel) h ca0.1 rfl ?_
    show wp _ 20 9 [(0, .ref a0), (1, .int (Int32.ofInt p1))] [.int (Int32.ofInt (s a0 2)), .int (Int32.ofInt p1)] w _
    refine wx_ge (oo := 12) (ln := 3) (a := 21) (b := 0) (zz := 0) (by decide +kernel) (fun h2 => ?_) (fun h2 => ?_)
    · have hx := ite_f h2 hx
      refine wp_g 1 (pc1 := 22) (lv1 := [(0, .ref a0), (1, .int (Int32.ofInt p1))]) (st1 := [.int (Int32.ofInt 0)]) (w1 := w) rfl ?_
      refine wp_rt (i := .ireturn) (r := some (.int (Int32.ofInt 0))) (ln := 1) (a := 0) (b := 0) (z := 0) (by decide +kernel) rfl (ret_ok (by decide +kernel)) ?_
      cases hx
      exact kr
    · have hx := ite_t h2 hx
      refine wp_g 1 (pc1 := 13) (lv1 := [(0, .ref a0), (1, .int (Int32.ofInt p1))]) (st1 := [.ref a0]) (w1 := w) rfl ?_
      refine wx_gr (o := 7) (kf := 43) (ln := 3) (ci := 0) (b := 10) (zz := 0) (x := a0) (by decide +kernel) h ca0.1 rfl ?_
      show wp _ 20 16 [(0, .ref a0), (1, .int (Int32.ofInt p1))] [.ref (a0 + 7)] w _
      refine wp_g 1 (pc1 := 17) (lv1 := [(0, .ref a0), (1, .int (Int32.ofInt p1))]) (st1 := [.int (Int32.ofInt p1), .ref (a0 + 7)]) (w1 := w) rfl ?_
      obtain ⟨i3, e4, hx⟩ := bd hx
      refine wx_ra (x := (a0 + 7)) (n := 8) (ln := 1) (a := 0) (b := 0) (zz := 0) (by decide +kernel) h (ca0.2.1 7 (by decide) (by decide)) e4 ?_
      show wp _ 20 18 [(0, .ref a0), (1, .int (Int32.ofInt p1))] [.int (Int32.ofInt (s (a0 + 7) i3))] w _
      refine wp_g 1 (pc1 := 22) (lv1 := [(0, .ref a0), (1, .int (Int32.ofInt p1))]) (st1 := [.int (Int32.ofInt (s (a0 + 7) i3))]) (w1 := w) rfl ?_
      refine wp_rt (i := .ireturn) (r := some (.int (Int32.ofInt (s (a0 + 7) i3)))) (ln := 1) (a := 0) (b := 0) (z := 0) (by decide +kernel) rfl (ret_ok (by decide +kernel)) ?_
      cases hx
      exact kr
noncomputable def xl_turnCell_j149 (s : Hp) (a0 : Nat) (a1 : Nat) (x2 : Int) (k1 : Int) (k2 : Int) : Option Hp :=
  (ix 8 k1).bind fun i1 => (some (uh s (a0 + 2) i1 k2)).bind fun s3 => (ix 8 x2).bind fun i7 => (some (uh s3 (a0 + 3) i7 (s3 (a1 + 3) i7))).bind fun s9 => some s9
set_option maxRecDepth 100000 in
theorem xl_turnCell_j149_ok {d : Nat} {P : Option Value → pm_H → Prop} {w : pm_H} {sh : Shp} {w0 : pm_H} {s : Hp} (hS : St sh) {a0 r0 : Nat} (ca0 : okC r0 sh a0) {a1 r1 : Nat} (ca1 : okC r1 sh a1) {x2 : Int} {k1 : Int} {k2 : Int} (h : Rw sh w0 s w) {o : Hp} (hx : xl_turnCell_j149 s a0 a1 x2 k1 k2 = some o) (kr : ∀ w1, Rw sh w0 o w1 → P none w1) : wp (d + 1) 19 149 [(0, .ref a0), (1, .ref a1), (2, .int (Int32.ofInt x2))] [.int (Int32.ofInt k2), .int (Int32.ofInt k1), .ref (a0 + 2)] w P := by
  unfold xl_turnCell_j149 at hx
  obtain ⟨i1, e2, hx⟩ := bd hx
  obtain ⟨s3, e4, hx⟩ := bd hx
  refine wx_wa (x := (a0 + 2)) (n := 8) (ln := 1) (a := 0) (b := 0) (zz := 0) (by decide +kernel) h (ca0.2.1 2 (by decide) (by decide)) e2 e4 (fun w5 h6 => ?_)
  refine wp_g 1 (pc1 := 151) (lv1 := [(0, .ref a0), (1, .ref a1), (2, .int (Int32.ofInt x2))]) (st1 := [.ref a0]) (w1 := w5) rfl ?_
  refine wx_gr (o := 3) (kf := 31) (ln := 3) (ci := 0) (b := 6) (zz := 0) (x := a0) (by decide +kernel) h6 ca0.1 rfl ?_
  show wp _ 19 154 [(0, .ref a0), (1, .ref a1), (2, .int (Int32.ofInt x2))] [.ref (a0 + 3)] w5 _
  refine wp_g 2 (pc1 := 156) (lv1 := [(0, .ref a0), (1, .ref a1), (2, .int (Int32.ofInt x2))]) (st1 := [.ref a1, .int (Int32.ofInt x2), .ref (a0 + 3)]) (w1 := w5) rfl ?_
  refine wx_gr (o := 3) (kf := 31) (ln := 3) (ci := 0) (b := 6) (zz := 0) (x := a1) (by decide +kernel) h6 ca1.1 rfl ?_
  show wp _ 19 159 [(0, .ref a0), (1, .ref a1), (2, .int (Int32.ofInt x2))] [.ref (a1 + 3), .int (Int32.ofInt x2), .ref (a0 + 3)] w5 _
  refine wp_g 1 (pc1 := 160) (lv1 := [(0, .ref a0), (1, .ref a1), (2, .int (Int32.ofInt x2))]) (st1 := [.int (Int32.ofInt x2), .ref (a1 + 3), .int (Int32.ofInt x2), .ref (a0 + 3)]) (w1 := w5) rfl ?_
  obtain ⟨i7, e8, hx⟩ := bd hx
  refine wx_ra (x := (a1 + 3)) (n := 8) (ln := 1) (a := 0) (b := 0) (zz := 0) (by decide +kernel) h6 (ca1.2.1 3 (by decide) (by decide)) e8 ?_
  show wp _ 19 161 [(0, .ref a0), (1, .ref a1), (2, .int (Int32.ofInt x2))] [.int (Int32.ofInt (s3 (a1 + 3) i7)), .int (Int32.ofInt x2), .ref (a0 + 3)] w5 _
  obtain ⟨s9, e10, hx⟩ := bd hx
  refine wx_wa (x := (a0 + 3)) (n := 8) (ln := 1) (a := 0) (b := 0) (zz := 0) (by decide +kernel) h6 (ca0.2.1 3 (by decide) (by decide)) e8 e10 (fun w11 h12 => ?_)
  refine wp_rt (i := .return_) (r := none) (ln := 1) (a := 0) (b := 0) (z := 0) (by decide +kernel) rfl (ret_v (by decide +kernel)) ?_
  cases hx
  exact kr _ h12
noncomputable def xl_turnCell_j95 (s : Hp) (a0 : Nat) (a1 : Nat) (x2 : Int) (k1 : Int) (k2 : Int) : Option Hp :=
  (ix 8 k1).bind fun i1 => (some (uh s (a0 + 2) i1 k2)).bind fun s3 => (ix 8 x2).bind fun i7 => (some (uh s3 (a0 + 3) i7 (1 - (s3 (a1 + 3) i7)))).bind fun s9 => some s9
set_option maxRecDepth 100000 in
theorem xl_turnCell_j95_ok {d : Nat} {P : Option Value → pm_H → Prop} {w : pm_H} {sh : Shp} {w0 : pm_H} {s : Hp} (hS : St sh) {a0 r0 : Nat} (ca0 : okC r0 sh a0) {a1 r1 : Nat} (ca1 : okC r1 sh a1) {x2 : Int} {k1 : Int} {k2 : Int} (h : Rw sh w0 s w) {o : Hp} (hx : xl_turnCell_j95 s a0 a1 x2 k1 k2 = some o) (kr : ∀ w1, Rw sh w0 o w1 → P none w1) : wp (d + 1) 19 95 [(0, .ref a0), (1, .ref a1), (2, .int (Int32.ofInt x2))] [.int (Int32.ofInt k2), .int (Int32.ofInt k1), .ref (a0 + 2)] w P := by
  unfold xl_turnCell_j95 at hx
  obtain ⟨i1, e2, hx⟩ := bd hx
  obtain ⟨s3, e4, hx⟩ := bd hx
  refine wx_wa (x := (a0 + 2)) (n := 8) (ln := 1) (a := 0) (b := 0) (zz := 0) (by decide +kernel) h (ca0.2.1 2 (by decide) (by decide)) e2 e4 (fun w5 h6 => ?_)
  refine wp_g 1 (pc1 := 97) (lv1 := [(0, .ref a0), (1, .ref a1), (2, .int (Int32.ofInt x2))]) (st1 := [.ref a0]) (w1 := w5) rfl ?_
  refine wx_gr (o := 3) (kf := 31) (ln := 3) (ci := 0) (b := 6) (zz := 0) (x := a0) (by decide +kernel) h6 ca0.1 rfl ?_
  show wp _ 19 100 [(0, .ref a0), (1, .ref a1), (2, .int (Int32.ofInt x2))] [.ref (a0 + 3)] w5 _
  refine wp_g 3 (pc1 := 103) (lv1 := [(0, .ref a0), (1, .ref a1), (2, .int (Int32.ofInt x2))]) (st1 := [.ref a1, .int (Int32.ofInt 1), .int (Int32.ofInt x2), .ref (a0 + 3)]) (w1 := w5) rfl ?_
  refine wx_gr (o := 3) (kf := 31) (ln := 3) (ci := 0) (b := 6) (zz := 0) (x := a1) (by decide +kernel) h6 ca1.1 rfl ?_
  show wp _ 19 106 [(0, .ref a0), (1, .ref a1), (2, .int (Int32.ofInt x2))] [.ref (a1 + 3), .int (Int32.ofInt 1), .int (Int32.ofInt x2), .ref (a0 + 3)] w5 _
  refine wp_g 1 (pc1 := 107) (lv1 := [(0, .ref a0), (1, .ref a1), (2, .int (Int32.ofInt x2))]) (st1 := [.int (Int32.ofInt x2), .ref (a1 + 3), .int (Int32.ofInt 1), .int (Int32.ofInt x2), .ref (a0 + 3)]) (w1 := w5) rfl ?_
  obtain ⟨i7, e8, hx⟩ := bd hx
  refine wx_ra (x := (a1 + 3)) (n := 8) (ln := 1) (a := 0) (b := 0) (zz := 0) (by decide +kernel) h6 (ca1.2.1 3 (by decide) (by decide)) e8 ?_
  show wp _ 19 108 [(0, .ref a0), (1, .ref a1), (2, .int (Int32.ofInt x2))] [.int (Int32.ofInt (s3 (a1 + 3) i7)), .int (Int32.ofInt 1), .int (Int32.ofInt x2), .ref (a0 + 3)] w5 _
  refine wp_g 1 (pc1 := 109) (lv1 := [(0, .ref a0), (1, .ref a1), (2, .int (Int32.ofInt x2))]) (st1 := [.int (Int32.ofInt (1 - (s3 (a1 + 3) i7))), .int (Int32.ofInt x2), .ref (a0 + 3)]) (w1 := w5) (by simp only [Int32.ofInt_add, Int32.ofInt_sub, Int32.ofInt_mul, Int32.ofInt_neg, p_and, p_or, p_xor, p_shl, p_shr, p_usr, p_w8, p_c16, p_lI, q_and, q_or, q_shl, q_shr, q_w32, Int64.ofInt_add, Int64.ofInt_sub, Int64.ofInt_mul, p_mx, p_mn, q_mx, q_mn]; rfl) ?_
  obtain ⟨s9, e10, hx⟩ := bd hx
  refine wx_wa (x := (a0 + 3)) (n := 8) (ln := 1) (a := 0) (b := 0) (zz := 0) (by decide +kernel) h6 (ca0.2.1 3 (by decide) (by decide)) e8 e10 (fun w11 h12 => ?_)
  refine wp_g 1 (pc1 := 162) (lv1 := [(0, .ref a0), (1, .ref a1), (2, .int (Int32.ofInt x2))]) (st1 := []) (w1 := w11) rfl ?_
  refine wp_rt (i := .return_) (r := none) (ln := 1) (a := 0) (b := 0) (z := 0) (by decide +kernel) rfl (ret_v (by decide +kernel)) ?_
  cases hx
  exact kr _ h12
noncomputable def xl_turnCell_j31 (s : Hp) (a0 : Nat) (a1 : Nat) (x2 : Int) (x3 : Int) (x4 : Int) (x5 : Int) (k0 : Int) : Option Hp :=
  (xl_layersOn s a1 x5).bind fun o1 => (xl_moves s a1 x2 x3).bind fun o5 => if w32 o5 = 0 then (ix 8 x2).bind fun i10 => (some (uh s (a0 + 1) i10 x4)).bind fun s12 => if w32 k0 = 0 then xl_turnCell_j149 s12 a0 a1 x2 x2 (s12 (a1 + 2) i10) else xl_turnCell_j149 s12 a0 a1 x2 x2 (o1 + (s12 (a1 + 2) i10)) else (xl_layersOn s a1 x4).bind fun o17 => (ix 8 x2).bind fun i21 => (some (uh s (a0 + 1) i21 x5)).bind fun s23 => if w32 k0 = 0 then xl_turnCell_j95 s23 a0 a1 x2 x2 (o1 + ((o17 - 1) - (s (a1 + 2) i21))) else xl_turnCell_j95 s23 a0 a1 x2 x2 ((o17 - 1) - (s (a1 + 2) i21))
set_option maxRecDepth 100000 in
theorem xl_turnCell_j31_ok {d : Nat} {P : Option Value → pm_H → Prop} {w : pm_H} {sh : Shp} {w0 : pm_H} {s : Hp} (hS : St sh) {a0 r0 : Nat} (ca0 : okC r0 sh a0) {a1 r1 : Nat} (ca1 : okC r1 sh a1) {x2 : Int} {x3 : Int} {x4 : Int} {x5 : Int} {k0 : Int} (h : Rw sh w0 s w) {o : Hp} (hx : xl_turnCell_j31 s a0 a1 x2 x3 x4 x5 k0 = some o) (kr : ∀ w1, Rw sh w0 o w1 → P none w1) : wp (d + 1) 19 31 [(0, .ref a0), (1, .ref a1), (2, .int (Int32.ofInt x2)), (3, .int (Int32.ofInt x3)), (4, .int (Int32.ofInt x4)), (5, .int (Int32.ofInt x5))] [.int (Int32.ofInt k0)] w P := by
  unfold xl_turnCell_j31 at hx
  refine wp_g 3 (pc1 := 36) (lv1 := [(6, .int (Int32.ofInt k0)), (0, .ref a0), (1, .ref a1), (2, .int (Int32.ofInt x2)), (3, .int (Int32.ofInt x3)), (4, .int (Int32.ofInt x4)), (5, .int (Int32.ofInt x5))]) (st1 := [.int (Int32.ofInt x5), .ref a1]) (w1 := w) rfl ?_
  obtain ⟨o1, e2, hx⟩ := bd hx
  refine wp_cl [.ref a1, .int (Int32.ofInt x5)] [] (i := .invokevirtual 81) (ln := 3) (a := 20) (b := 0) (z := 0) (by decide +kernel) rfl rfl (by decide) rfl (show (2 : Nat) = pm_na 20 by decide +kernel) (Nat.le_of_ble_eq_true rfl) (show (2 : Nat) ≤ pm_n 20 by decide +kernel) (rcv_x 0 h ca1.1 (by decide +kernel)) (xl_layersOn_ok (d := d) hS ca1 h e2 ?_)
  show wp _ 19 39 [(6, .int (Int32.ofInt k0)), (0, .ref a0), (1, .ref a1), (2, .int (Int32.ofInt x2)), (3, .int (Int32.ofInt x3)), (4, .int (Int32.ofInt x4)), (5, .int (Int32.ofInt x5))] [.int (Int32.ofInt o1)] w _
  refine wp_g 4 (pc1 := 44) (lv1 := [(7, .int (Int32.ofInt o1)), (6, .int (Int32.ofInt k0)), (0, .ref a0), (1, .ref a1), (2, .int (Int32.ofInt x2)), (3, .int (Int32.ofInt x3)), (4, .int (Int32.ofInt x4)), (5, .int (Int32.ofInt x5))]) (st1 := [.int (Int32.ofInt x3), .int (Int32.ofInt x2), .ref a1]) (w1 := w) rfl ?_
  obtain ⟨o5, e6, hx⟩ := bd hx
  refine wp_cl [.ref a1, .int (Int32.ofInt x2), .int (Int32.ofInt x3)] [] (i := .invokevirtual 64) (ln := 3) (a := 12) (b := 0) (z := 0) (by decide +kernel) rfl rfl (by decide) rfl (show (3 : Nat) = pm_na 12 by decide +kernel) (Nat.le_of_ble_eq_true rfl) (show (3 : Nat) ≤ pm_n 12 by decide +kernel) (rcv_x 0 h ca1.1 (by decide +kernel)) (xl_moves_ok (d := d) hS ca1 h e6 ?_)
  show wp _ 19 47 [(7, .int (Int32.ofInt o1)), (6, .int (Int32.ofInt k0)), (0, .ref a0), (1, .ref a1), (2, .int (Int32.ofInt x2)), (3, .int (Int32.ofInt x3)), (4, .int (Int32.ofInt x4)), (5, .int (Int32.ofInt x5))] [.int (Int32.ofInt o5)] w _
  refine wz_eq (oo := 66) (ln := 3) (a := 113) (b := 0) (zz := 0) (by decide +kernel) (fun h9 => ?_) (fun h9 => ?_)
  · have hx := ite_t h9 hx
    refine wp_g 1 (pc1 := 114) (lv1 := [(7, .int (Int32.ofInt o1)), (6, .int (Int32.ofInt k0)), (0, .ref a0), (1, .ref a1), (2, .int (Int32.ofInt x2)), (3, .int (Int32.ofInt x3)), (4, .int (Int32.ofInt x4)), (5, .int (Int32.ofInt x5))]) (st1 := [.ref a0]) (w1 := w) rfl ?_
    refine wx_gr (o := 1) (kf := 24) (ln := 3) (ci := 0) (b := 4) (zz := 0) (x := a0) (by decide +kernel) h ca0.1 rfl ?_
    show wp _ 19 117 [(7, .int (Int32.ofInt o1)), (6, .int (Int32.ofInt k0)), (0, .ref a0), (1, .ref a1), (2, .int (Int32.ofInt x2)), (3, .int (Int32.ofInt x3)), (4, .int (Int32.ofInt x4)), (5, .int (Int32.ofInt x5))] [.ref (a0 + 1)] w _
    refine wp_g 2 (pc1 := 120) (lv1 := [(7, .int (Int32.ofInt o1)), (6, .int (Int32.ofInt k0)), (0, .ref a0), (1, .ref a1), (2, .int (Int32.ofInt x2)), (3, .int (Int32.ofInt x3)), (4, .int (Int32.ofInt x4)), (5, .int (Int32.ofInt x5))]) (st1 := [.int (Int32.ofInt x4), .int (Int32.ofInt x2), .ref (a0 + 1)]) (w1 := w) rfl ?_
    obtain ⟨i10, e11, hx⟩ := bd hx
    obtain ⟨s12, e13, hx⟩ := bd hx
    refine wx_wa (x := (a0 + 1)) (n := 8) (ln := 1) (a := 0) (b := 0) (zz := 0) (by decide +kernel) h (ca0.2.1 1 (by decide) (by decide)) e11 e13 (fun w14 h15 => ?_)
    refine wp_g 1 (pc1 := 122) (lv1 := [(7, .int (Int32.ofInt o1)), (6, .int (Int32.ofInt k0)), (0, .ref a0), (1, .ref a1), (2, .int (Int32.ofInt x2)), (3, .int (Int32.ofInt x3)), (4, .int (Int32.ofInt x4)), (5, .int (Int32.ofInt x5))]) (st1 := [.ref a0]) (w1 := w14) rfl ?_
    refine wx_gr (o := 2) (kf := 28) (ln := 3) (ci := 0) (b := 5) (zz := 0) (x := a0) (by decide +kernel) h15 ca0.1 rfl ?_
    show wp _ 19 125 [(7, .int (Int32.ofInt o1)), (6, .int (Int32.ofInt k0)), (0, .ref a0), (1, .ref a1), (2, .int (Int32.ofInt x2)), (3, .int (Int32.ofInt x3)), (4, .int (Int32.ofInt x4)), (5, .int (Int32.ofInt x5))] [.ref (a0 + 2)] w14 _
    refine wp_g 2 (pc1 := 128) (lv1 := [(7, .int (Int32.ofInt o1)), (6, .int (Int32.ofInt k0)), (0, .ref a0), (1, .ref a1), (2, .int (Int32.ofInt x2)), (3, .int (Int32.ofInt x3)), (4, .int (Int32.ofInt x4)), (5, .int (Int32.ofInt x5))]) (st1 := [.int (Int32.ofInt k0), .int (Int32.ofInt x2), .ref (a0 + 2)]) (w1 := w14) rfl ?_
    refine wz_eq (oo := 15) (ln := 3) (a := 143) (b := 0) (zz := 0) (by decide +kernel) (fun h16 => ?_) (fun h16 => ?_)
    · have hx := ite_t h16 hx
      refine wp_g 1 (pc1 := 144) (lv1 := [(7, .int (Int32.ofInt o1)), (6, .int (Int32.ofInt k0)), (0, .ref a0), (1, .ref a1), (2, .int (Int32.ofInt x2)), (3, .int (Int32.ofInt x3)), (4, .int (Int32.ofInt x4)), (5, .int (Int32.ofInt x5))]) (st1 := [.ref a1, .int (Int32.ofInt x2), .ref (a0 + 2)]) (w1 := w14) rfl ?_
      refine wx_gr (o := 2) (kf := 28) (ln := 3) (ci := 0) (b := 5) (zz := 0) (x := a1) (by decide +kernel) h15 ca1.1 rfl ?_
      show wp _ 19 147 [(7, .int (Int32.ofInt o1)), (6, .int (Int32.ofInt k0)), (0, .ref a0), (1, .ref a1), (2, .int (Int32.ofInt x2)), (3, .int (Int32.ofInt x3)), (4, .int (Int32.ofInt x4)), (5, .int (Int32.ofInt x5))] [.ref (a1 + 2), .int (Int32.ofInt x2), .ref (a0 + 2)] w14 _
      refine wp_g 1 (pc1 := 148) (lv1 := [(7, .int (Int32.ofInt o1)), (6, .int (Int32.ofInt k0)), (0, .ref a0), (1, .ref a1), (2, .int (Int32.ofInt x2)), (3, .int (Int32.ofInt x3)), (4, .int (Int32.ofInt x4)), (5, .int (Int32.ofInt x5))]) (st1 := [.int (Int32.ofInt x2), .ref (a1 + 2), .int (Int32.ofInt x2), .ref (a0 + 2)]) (w1 := w14) rfl ?_
      refine wx_ra (x := (a1 + 2)) (n := 8) (ln := 1) (a := 0) (b := 0) (zz := 0) (by decide +kernel) h15 (ca1.2.1 2 (by decide) (by decide)) e11 ?_
      show wp _ 19 149 [(7, .int (Int32.ofInt o1)), (6, .int (Int32.ofInt k0)), (0, .ref a0), (1, .ref a1), (2, .int (Int32.ofInt x2)), (3, .int (Int32.ofInt x3)), (4, .int (Int32.ofInt x4)), (5, .int (Int32.ofInt x5))] [.int (Int32.ofInt (s12 (a1 + 2) i10)), .int (Int32.ofInt x2), .ref (a0 + 2)] w14 _
      refine wp_lv (lv1 := [(0, .ref a0), (1, .ref a1), (2, .int (Int32.ofInt x2))]) (lsub_p [2, 3, 4] rfl rfl rfl) ?_
      exact xl_turnCell_j149_ok hS ca0 ca1 h15 hx kr
    · have hx := ite_f h16 hx
      refine wp_g 2 (pc1 := 134) (lv1 := [(7, .int (Int32.ofInt o1)), (6, .int (Int32.ofInt k0)), (0, .ref a0), (1, .ref a1), (2, .int (Int32.ofInt x2)), (3, .int (Int32.ofInt x3)), (4, .int (Int32.ofInt x4)), (5, .int (Int32.ofInt x5))]) (st1 := [.ref a1, .int (Int32.ofInt o1), .int (Int32.ofInt x2), .ref (a0 + 2)]) (w1 := w14) rfl ?_
      refine wx_gr (o := 2) (kf := 28) (ln := 3) (ci := 0) (b := 5) (zz := 0) (x := a1) (by decide +kernel) h15 ca1.1 rfl ?_
      show wp _ 19 137 [(7, .int (Int32.ofInt o1)), (6, .int (Int32.ofInt k0)), (0, .ref a0), (1, .ref a1), (2, .int (Int32.ofInt x2)), (3, .int (Int32.ofInt x3)), (4, .int (Int32.ofInt x4)), (5, .int (Int32.ofInt x5))] [.ref (a1 + 2), .int (Int32.ofInt o1), .int (Int32.ofInt x2), .ref (a0 + 2)] w14 _
      refine wp_g 1 (pc1 := 138) (lv1 := [(7, .int (Int32.ofInt o1)), (6, .int (Int32.ofInt k0)), (0, .ref a0), (1, .ref a1), (2, .int (Int32.ofInt x2)), (3, .int (Int32.ofInt x3)), (4, .int (Int32.ofInt x4)), (5, .int (Int32.ofInt x5))]) (st1 := [.int (Int32.ofInt x2), .ref (a1 + 2), .int (Int32.ofInt o1), .int (Int32.ofInt x2), .ref (a0 + 2)]) (w1 := w14) rfl ?_
      refine wx_ra (x := (a1 + 2)) (n := 8) (ln := 1) (a := 0) (b := 0) (zz := 0) (by decide +kernel) h15 (ca1.2.1 2 (by decide) (by decide)) e11 ?_
      show wp _ 19 139 [(7, .int (Int32.ofInt o1)), (6, .int (Int32.ofInt k0)), (0, .ref a0), (1, .ref a1), (2, .int (Int32.ofInt x2)), (3, .int (Int32.ofInt x3)), (4, .int (Int32.ofInt x4)), (5, .int (Int32.ofInt x5))] [.int (Int32.ofInt (s12 (a1 + 2) i10)), .int (Int32.ofInt o1), .int (Int32.ofInt x2), .ref (a0 + 2)] w14 _
      refine wp_g 2 (pc1 := 149) (lv1 := [(7, .int (Int32.ofInt o1)), (6, .int (Int32.ofInt k0)), (0, .ref a0), (1, .ref a1), (2, .int (Int32.ofInt x2)), (3, .int (Int32.ofInt x3)), (4, .int (Int32.ofInt x4)), (5, .int (Int32.ofInt x5))]) (st1 := [.int (Int32.ofInt (o1 + (s12 (a1 + 2) i10))), .int (Int32.ofInt x2), .ref (a0 + 2)]) (w1 := w14) (by simp only [Int32.ofInt_add, Int32.ofInt_sub, Int32.ofInt_mul, Int32.ofInt_neg, p_and, p_or, p_xor, p_shl, p_shr, p_usr, p_w8, p_c16, p_lI, q_and, q_or, q_shl, q_shr, q_w32, Int64.ofInt_add, Int64.ofInt_sub, Int64.ofInt_mul, p_mx, p_mn, q_mx, q_mn]; rfl) ?_
      refine wp_lv (lv1 := [(0, .ref a0), (1, .ref a1), (2, .int (Int32.ofInt x2))]) (lsub_p [2, 3, 4] rfl rfl rfl) ?_
      exact xl_turnCell_j149_ok hS ca0 ca1 h15 hx kr
  · have hx := ite_f h9 hx
    refine wp_g 2 (pc1 := 53) (lv1 := [(7, .int (Int32.ofInt o1)), (6, .int (Int32.ofInt k0)), (0, .ref a0), (1, .ref a1), (2, .int (Int32.ofInt x2)), (3, .int (Int32.ofInt x3)), (4, .int (Int32.ofInt x4)), (5, .int (Int32.ofInt x5))]) (st1 := [.int (Int32.ofInt x4), .ref a1]) (w1 := w) rfl ?_
    obtain ⟨o17, e18, hx⟩ := bd hx
    refine wp_cl [.ref a1, .int (Int32.ofInt x4)] [] (i := .invokevirtual 81) (ln := 3) (a := 20) (b := 0) (z := 0) (by decide +kernel) rfl rfl (by decide) rfl (show (2 : Nat) = pm_na 20 by decide +kernel) (Nat.le_of_ble_eq_true rfl) (show (2 : Nat) ≤ pm_n 20 by decide +kernel) (rcv_x 0 h ca1.1 (by decide +kernel)) (xl_layersOn_ok (d := d) hS ca1 h e18 ?_)
    show wp _ 19 56 [(7, .int (Int32.ofInt o1)), (6, .int (Int32.ofInt k0)), (0, .ref a0), (1, .ref a1), (2, .int (Int32.ofInt x2)), (3, .int (Int32.ofInt x3)), (4, .int (Int32.ofInt x4)), (5, .int (Int32.ofInt x5))] [.int (Int32.ofInt o17)] w _
    refine wp_g 3 (pc1 := 59) (lv1 := [(7, .int (Int32.ofInt o1)), (6, .int (Int32.ofInt k0)), (0, .ref a0), (1, .ref a1), (2, .int (Int32.ofInt x2)), (3, .int (Int32.ofInt x3)), (4, .int (Int32.ofInt x4)), (5, .int (Int32.ofInt x5))]) (st1 := [.ref a1, .int (Int32.ofInt (o17 - 1))]) (w1 := w) (by simp only [Int32.ofInt_add, Int32.ofInt_sub, Int32.ofInt_mul, Int32.ofInt_neg, p_and, p_or, p_xor, p_shl, p_shr, p_usr, p_w8, p_c16, p_lI, q_and, q_or, q_shl, q_shr, q_w32, Int64.ofInt_add, Int64.ofInt_sub, Int64.ofInt_mul, p_mx, p_mn, q_mx, q_mn]; rfl) ?_
    refine wx_gr (o := 2) (kf := 28) (ln := 3) (ci := 0) (b := 5) (zz := 0) (x := a1) (by decide +kernel) h ca1.1 rfl ?_
    show wp _ 19 62 [(7, .int (Int32.ofInt o1)), (6, .int (Int32.ofInt k0)), (0, .ref a0), (1, .ref a1), (2, .int (Int32.ofInt x2)), (3, .int (Int32.ofInt x3)), (4, .int (Int32.ofInt x4)), (5, .int (Int32.ofInt x5))] [.ref (a1 + 2), .int (Int32.ofInt (o17 - 1))] w _
    refine wp_g 1 (pc1 := 63) (lv1 := [(7, .int (Int32.ofInt o1)), (6, .int (Int32.ofInt k0)), (0, .ref a0), (1, .ref a1), (2, .int (Int32.ofInt x2)), (3, .int (Int32.ofInt x3)), (4, .int (Int32.ofInt x4)), (5, .int (Int32.ofInt x5))]) (st1 := [.int (Int32.ofInt x2), .ref (a1 + 2), .int (Int32.ofInt (o17 - 1))]) (w1 := w) rfl ?_
    obtain ⟨i21, e22, hx⟩ := bd hx
    refine wx_ra (x := (a1 + 2)) (n := 8) (ln := 1) (a := 0) (b := 0) (zz := 0) (by decide +kernel) h (ca1.2.1 2 (by decide) (by decide)) e22 ?_
    show wp _ 19 64 [(7, .int (Int32.ofInt o1)), (6, .int (Int32.ofInt k0)), (0, .ref a0), (1, .ref a1), (2, .int (Int32.ofInt x2)), (3, .int (Int32.ofInt x3)), (4, .int (Int32.ofInt x4)), (5, .int (Int32.ofInt x5))] [.int (Int32.ofInt (s (a1 + 2) i21)), .int (Int32.ofInt (o17 - 1))] w _
    refine wp_g 3 (pc1 := 68) (lv1 := [(8, .int (Int32.ofInt ((o17 - 1) - (s (a1 + 2) i21)))), (7, .int (Int32.ofInt o1)), (6, .int (Int32.ofInt k0)), (0, .ref a0), (1, .ref a1), (2, .int (Int32.ofInt x2)), (3, .int (Int32.ofInt x3)), (4, .int (Int32.ofInt x4)), (5, .int (Int32.ofInt x5))]) (st1 := [.ref a0]) (w1 := w) (by simp only [Int32.ofInt_add, Int32.ofInt_sub, Int32.ofInt_mul, Int32.ofInt_neg, p_and, p_or, p_xor, p_shl, p_shr, p_usr, p_w8, p_c16, p_lI, q_and, q_or, q_shl, q_shr, q_w32, Int64.ofInt_add, Int64.ofInt_sub, Int64.ofInt_mul, p_mx, p_mn, q_mx, q_mn]; rfl) ?_
    refine wx_gr (o := 1) (kf := 24) (ln := 3) (ci := 0) (b := 4) (zz := 0) (x := a0) (by decide +kernel) h ca0.1 rfl ?_
    show wp _ 19 71 [(8, .int (Int32.ofInt ((o17 - 1) - (s (a1 + 2) i21)))), (7, .int (Int32.ofInt o1)), (6, .int (Int32.ofInt k0)), (0, .ref a0), (1, .ref a1), (2, .int (Int32.ofInt x2)), (3, .int (Int32.ofInt x3)), (4, .int (Int32.ofInt x4)), (5, .int (Int32.ofInt x5))] [.ref (a0 + 1)] w _
    refine wp_g 2 (pc1 := 74) (lv1 := [(8, .int (Int32.ofInt ((o17 - 1) - (s (a1 + 2) i21)))), (7, .int (Int32.ofInt o1)), (6, .int (Int32.ofInt k0)), (0, .ref a0), (1, .ref a1), (2, .int (Int32.ofInt x2)), (3, .int (Int32.ofInt x3)), (4, .int (Int32.ofInt x4)), (5, .int (Int32.ofInt x5))]) (st1 := [.int (Int32.ofInt x5), .int (Int32.ofInt x2), .ref (a0 + 1)]) (w1 := w) rfl ?_
    obtain ⟨s23, e24, hx⟩ := bd hx
    refine wx_wa (x := (a0 + 1)) (n := 8) (ln := 1) (a := 0) (b := 0) (zz := 0) (by decide +kernel) h (ca0.2.1 1 (by decide) (by decide)) e22 e24 (fun w25 h26 => ?_)
    refine wp_g 1 (pc1 := 76) (lv1 := [(8, .int (Int32.ofInt ((o17 - 1) - (s (a1 + 2) i21)))), (7, .int (Int32.ofInt o1)), (6, .int (Int32.ofInt k0)), (0, .ref a0), (1, .ref a1), (2, .int (Int32.ofInt x2)), (3, .int (Int32.ofInt x3)), (4, .int (Int32.ofInt x4)), (5, .int (Int32.ofInt x5))]) (st1 := [.ref a0]) (w1 := w25) rfl ?_
    refine wx_gr (o := 2) (kf := 28) (ln := 3) (ci := 0) (b := 5) (zz := 0) (x := a0) (by decide +kernel) h26 ca0.1 rfl ?_
    show wp _ 19 79 [(8, .int (Int32.ofInt ((o17 - 1) - (s (a1 + 2) i21)))), (7, .int (Int32.ofInt o1)), (6, .int (Int32.ofInt k0)), (0, .ref a0), (1, .ref a1), (2, .int (Int32.ofInt x2)), (3, .int (Int32.ofInt x3)), (4, .int (Int32.ofInt x4)), (5, .int (Int32.ofInt x5))] [.ref (a0 + 2)] w25 _
    refine wp_g 2 (pc1 := 82) (lv1 := [(8, .int (Int32.ofInt ((o17 - 1) - (s (a1 + 2) i21)))), (7, .int (Int32.ofInt o1)), (6, .int (Int32.ofInt k0)), (0, .ref a0), (1, .ref a1), (2, .int (Int32.ofInt x2)), (3, .int (Int32.ofInt x3)), (4, .int (Int32.ofInt x4)), (5, .int (Int32.ofInt x5))]) (st1 := [.int (Int32.ofInt k0), .int (Int32.ofInt x2), .ref (a0 + 2)]) (w1 := w25) rfl ?_
    refine wz_eq (oo := 8) (ln := 3) (a := 90) (b := 0) (zz := 0) (by decide +kernel) (fun h27 => ?_) (fun h27 => ?_)
    · have hx := ite_t h27 hx
      refine wp_g 3 (pc1 := 95) (lv1 := [(8, .int (Int32.ofInt ((o17 - 1) - (s (a1 + 2) i21)))), (7, .int (Int32.ofInt o1)), (6, .int (Int32.ofInt k0)), (0, .ref a0), (1, .ref a1), (2, .int (Int32.ofInt x2)), (3, .int (Int32.ofInt x3)), (4, .int (Int32.ofInt x4)), (5, .int (Int32.ofInt x5))]) (st1 := [.int (Int32.ofInt (o1 + ((o17 - 1) - (s (a1 + 2) i21)))), .int (Int32.ofInt x2), .ref (a0 + 2)]) (w1 := w25) (by simp only [Int32.ofInt_add, Int32.ofInt_sub, Int32.ofInt_mul, Int32.ofInt_neg, p_and, p_or, p_xor, p_shl, p_shr, p_usr, p_w8, p_c16, p_lI, q_and, q_or, q_shl, q_shr, q_w32, Int64.ofInt_add, Int64.ofInt_sub, Int64.ofInt_mul, p_mx, p_mn, q_mx, q_mn]; rfl) ?_
      refine wp_lv (lv1 := [(0, .ref a0), (1, .ref a1), (2, .int (Int32.ofInt x2))]) (lsub_p [3, 4, 5] rfl rfl rfl) ?_
      exact xl_turnCell_j95_ok hS ca0 ca1 h26 hx kr
    · have hx := ite_f h27 hx
      refine wp_g 2 (pc1 := 95) (lv1 := [(8, .int (Int32.ofInt ((o17 - 1) - (s (a1 + 2) i21)))), (7, .int (Int32.ofInt o1)), (6, .int (Int32.ofInt k0)), (0, .ref a0), (1, .ref a1), (2, .int (Int32.ofInt x2)), (3, .int (Int32.ofInt x3)), (4, .int (Int32.ofInt x4)), (5, .int (Int32.ofInt x5))]) (st1 := [.int (Int32.ofInt ((o17 - 1) - (s (a1 + 2) i21))), .int (Int32.ofInt x2), .ref (a0 + 2)]) (w1 := w25) rfl ?_
      refine wp_lv (lv1 := [(0, .ref a0), (1, .ref a1), (2, .int (Int32.ofInt x2))]) (lsub_p [3, 4, 5] rfl rfl rfl) ?_
      exact xl_turnCell_j95_ok hS ca0 ca1 h26 hx kr
/-- Cloth.turnCell (LCloth;II)V -/
noncomputable def xl_turnCell (s : Hp) (a0 : Nat) (a1 : Nat) (p2 : Int) (p3 : Int) : Option Hp :=
  (ix 8 p2).bind fun i1 => if w32 (bAnd p3 1) = 0 then xl_turnCell_j31 s a0 a1 p2 p3 (s (a1 + 1) i1) (((2 * (bShr p3 2)) + 1) - (s (a1 + 1) i1)) 0 else xl_turnCell_j31 s a0 a1 p2 p3 (s (a1 + 1) i1) (((2 * (bShr p3 2)) + 1) - (s (a1 + 1) i1)) 1
set_option maxRecDepth 100000 in
theorem xl_turnCell_ok {d : Nat} {P : Option Value → pm_H → Prop} {w : pm_H} {sh : Shp} {w0 : pm_H} {s : Hp} (hS : St sh) {a0 r0 : Nat} (ca0 : okC r0 sh a0) {a1 r1 : Nat} (ca1 : okC r1 sh a1) {p2 : Int} {p3 : Int} (h : Rw sh w0 s w) {o : Hp} (hx : xl_turnCell s a0 a1 p2 p3 = some o) (kr : ∀ w1, Rw sh w0 o w1 → P none w1) : wp (d + 1) 19 0 (lv_args 0 [.ref a0, .ref a1, .int (Int32.ofInt p2), .int (Int32.ofInt p3)]) [] w P := by
  show wp _ 19 0 [(0, .ref a0), (1, .ref a1), (2, .int (Int32.ofInt p2)), (3, .int (Int32.ofInt p3))] [] w _
  unfold xl_turnCell at hx
  refine wp_g 1 (pc1 := 1) (lv1 := [(0, .ref a0), (1, .ref a1), (2, .int (Int32.ofInt p2)), (3, .int (Int32.ofInt p3))]) (st1 := [.ref a1]) (w1 := w) rfl ?_
  refine wx_gr (o := 1) (kf := 24) (ln := 3) (ci := 0) (b := 4) (zz := 0) (x := a1) (by decide +kernel) h ca1.1 rfl ?_
  show wp _ 19 4 [(0, .ref a0), (1, .ref a1), (2, .int (Int32.ofInt p2)), (3, .int (Int32.ofInt p3))] [.ref (a1 + 1)] w _
  refine wp_g 1 (pc1 := 5) (lv1 := [(0, .ref a0), (1, .ref a1), (2, .int (Int32.ofInt p2)), (3, .int (Int32.ofInt p3))]) (st1 := [.int (Int32.ofInt p2), .ref (a1 + 1)]) (w1 := w) rfl ?_
  obtain ⟨i1, e2, hx⟩ := bd hx
  refine wx_ra (x := (a1 + 1)) (n := 8) (ln := 1) (a := 0) (b := 0) (zz := 0) (by decide +kernel) h (ca1.2.1 1 (by decide) (by decide)) e2 ?_
  show wp _ 19 6 [(0, .ref a0), (1, .ref a1), (2, .int (Int32.ofInt p2)), (3, .int (Int32.ofInt p3))] [.int (Int32.ofInt (s (a1 + 1) i1))] w _
  refine wp_g 14 (pc1 := 23) (lv1 := [(5, .int (Int32.ofInt (((2 * (bShr p3 2)) + 1) - (s (a1 + 1) i1)))), (4, .int (Int32.ofInt (s (a1 + 1) i1))), (0, .ref a0), (1, .ref a1), (2, .int (Int32.ofInt p2)), (3, .int (Int32.ofInt p3))]) (st1 := [.int (Int32.ofInt (bAnd p3 1))]) (w1 := w) (by simp only [Int32.ofInt_add, Int32.ofInt_sub, Int32.ofInt_mul, Int32.ofInt_neg, p_and, p_or, p_xor, p_shl, p_shr, p_usr, p_w8, p_c16, p_lI, q_and, q_or, q_shl, q_shr, q_w32, Int64.ofInt_add, Int64.ofInt_sub, Int64.ofInt_mul, p_mx, p_mn, q_mx, q_mn]; rfl) ?_
  refine wz_eq (oo := 7) (ln := 3) (a := 30) (b := 0) (zz := 0) (by decide +kernel) (fun h3 => ?_) (fun h3 => ?_)
  · have hx := ite_t h3 hx
    refine wp_g 1 (pc1 := 31) (lv1 := [(5, .int (Int32.ofInt (((2 * (bShr p3 2)) + 1) - (s (a1 + 1) i1)))), (4, .int (Int32.ofInt (s (a1 + 1) i1))), (0, .ref a0), (1, .ref a1), (2, .int (Int32.ofInt p2)), (3, .int (Int32.ofInt p3))]) (st1 := [.int (Int32.ofInt 0)]) (w1 := w) rfl ?_
    refine wp_lv (lv1 := [(0, .ref a0), (1, .ref a1), (2, .int (Int32.ofInt p2)), (3, .int (Int32.ofInt p3)), (4, .int (Int32.ofInt (s (a1 + 1) i1))), (5, .int (Int32.ofInt (((2 * (bShr p3 2)) + 1) - (s (a1 + 1) i1))))]) (lsub_p [2, 3, 4, 5, 1, 0] rfl rfl rfl) ?_
    exact xl_turnCell_j31_ok hS ca0 ca1 h hx kr
  · have hx := ite_f h3 hx
    refine wp_g 2 (pc1 := 31) (lv1 := [(5, .int (Int32.ofInt (((2 * (bShr p3 2)) + 1) - (s (a1 + 1) i1)))), (4, .int (Int32.ofInt (s (a1 + 1) i1))), (0, .ref a0), (1, .ref a1), (2, .int (Int32.ofInt p2)), (3, .int (Int32.ofInt p3))]) (st1 := [.int (Int32.ofInt 1)]) (w1 := w) rfl ?_
    refine wp_lv (lv1 := [(0, .ref a0), (1, .ref a1), (2, .int (Int32.ofInt p2)), (3, .int (Int32.ofInt p3)), (4, .int (Int32.ofInt (s (a1 + 1) i1))), (5, .int (Int32.ofInt (((2 * (bShr p3 2)) + 1) - (s (a1 + 1) i1))))]) (lsub_p [2, 3, 4, 5, 1, 0] rfl rfl rfl) ?_
    exact xl_turnCell_j31_ok hS ca0 ca1 h hx kr
noncomputable def xl_countThickness_b2 (s : Hp) (a0 : Nat) (x1 : Int) : Option ((Int × Hp) ⊕ (Int × Hp)) :=
  if w32 x1 < w32 8 then (ix 8 x1).bind fun i2 => (some (uh s (a0 + 7) i2 0)).bind fun s4 => some (.inl (x1 + 1, s4)) else some (.inr (x1, s))
set_option maxRecDepth 100000 in
theorem xl_countThickness_b2_ok {d : Nat} {P : Option Value → pm_H → Prop} {w : pm_H} {sh : Shp} {w0 : pm_H} {s : Hp} (hS : St sh) {a0 r0 : Nat} (ca0 : okC r0 sh a0) {x1 : Int} (h : Rw sh w0 s w) {o : ((Int × Hp) ⊕ (Int × Hp))} (hx : xl_countThickness_b2 s a0 x1 = some o) (kn : ∀ (q : Int × Hp) w1, o = .inl q → Rw sh w0 q.2 w1 → wp d 21 2 [(0, .ref a0), (1, .int (Int32.ofInt q.1))] [] w1 P) (kc : ∀ (r : (Int × Hp)), o = .inr r → (∀ w1, Rw sh w0 r.2 w1 → wp d 21 21 [(0, .ref a0), (1, .int (Int32.ofInt r.1))] [] w1 P)) : wp d 21 2 [(0, .ref a0), (1, .int (Int32.ofInt x1))] [] w P := by
  unfold xl_countThickness_b2 at hx
  refine wp_g 2 (pc1 := 5) (lv1 := [(0, .ref a0), (1, .int (Int32.ofInt x1))]) (st1 := [.int (Int32.ofInt 8), .int (Int32.ofInt x1)]) (w1 := w) rfl ?_
  refine wx_ge (oo := 16) (ln := 3) (a := 21) (b := 0) (zz := 0) (by decide +kernel) (fun h1 => ?_) (fun h1 => ?_)
  · have hx := ite_f h1 hx
    cases hx
    exact kc _ rfl _ h
  · have hx := ite_t h1 hx
    refine wp_g 1 (pc1 := 9) (lv1 := [(0, .ref a0), (1, .int (Int32.ofInt x1))]) (st1 := [.ref a0]) (w1 := w) rfl ?_
    refine wx_gr (o := 7) (kf := 43) (ln := 3) (ci := 0) (b := 10) (zz := 0) (x := a0) (by decide +kernel) h ca0.1 rfl ?_
    show wp _ 21 12 [(0, .ref a0), (1, .int (Int32.ofInt x1))] [.ref (a0 + 7)] w _
    refine wp_g 2 (pc1 := 14) (lv1 := [(0, .ref a0), (1, .int (Int32.ofInt x1))]) (st1 := [.int (Int32.ofInt 0), .int (Int32.ofInt x1), .ref (a0 + 7)]) (w1 := w) rfl ?_
    obtain ⟨i2, e3, hx⟩ := bd hx
    obtain ⟨s4, e5, hx⟩ := bd hx
    refine wx_wa (x := (a0 + 7)) (n := 8) (ln := 1) (a := 0) (b := 0) (zz := 0) (by decide +kernel) h (ca0.2.1 7 (by decide) (by decide)) e3 e5 (fun w6 h7 => ?_)
    refine wp_g 2 (pc1 := 2) (lv1 := [(1, .int (Int32.ofInt (x1 + 1))), (0, .ref a0)]) (st1 := []) (w1 := w6) (by simp only [Int32.ofInt_add, Int32.ofInt_sub, Int32.ofInt_mul, Int32.ofInt_neg, p_and, p_or, p_xor, p_shl, p_shr, p_usr, p_w8, p_c16, p_lI, q_and, q_or, q_shl, q_shr, q_w32, Int64.ofInt_add, Int64.ofInt_sub, Int64.ofInt_mul, p_mx, p_mn, q_mx, q_mn]; rfl) ?_
    refine wp_lv (lv1 := [(0, .ref a0), (1, .int (Int32.ofInt (x1 + 1)))]) (lsub_p [1, 0] rfl rfl rfl) ?_
    cases hx
    exact kn _ _ rfl h7
noncomputable def xl_countThickness_b23 (s : Hp) (a0 : Nat) (x1 : Int) : Option ((Int × Hp) ⊕ (Int × Hp)) :=
  if w32 x1 < w32 (s a0 0) then (ix 8 x1).bind fun i2 => if w32 (s (a0 + 1) i2) < 0 then some (.inl (x1 + 1, s)) else if w32 (s (a0 + 1) i2) < w32 8 then (ix 8 (s (a0 + 1) i2)).bind fun i6 => (some (uh s (a0 + 7) i6 ((s (a0 + 7) i6) + 1))).bind fun s8 => some (.inl (x1 + 1, s8)) else some (.inl (x1 + 1, s)) else some (.inr (x1, s))
set_option maxRecDepth 100000 in
theorem xl_countThickness_b23_ok {d : Nat} {P : Option Value → pm_H → Prop} {w : pm_H} {sh : Shp} {w0 : pm_H} {s : Hp} (hS : St sh) {a0 r0 : Nat} (ca0 : okC r0 sh a0) {x1 : Int} (h : Rw sh w0 s w) {o : ((Int × Hp) ⊕ (Int × Hp))} (hx : xl_countThickness_b23 s a0 x1 = some o) (kn : ∀ (q : Int × Hp) w1, o = .inl q → Rw sh w0 q.2 w1 → wp d 21 23 [(0, .ref a0), (1, .int (Int32.ofInt q.1))] [] w1 P) (kc : ∀ (r : (Int × Hp)), o = .inr r → (∀ w1, Rw sh w0 r.2 w1 → wp d 21 72 [(0, .ref a0), (1, .int (Int32.ofInt r.1))] [] w1 P)) : wp d 21 23 [(0, .ref a0), (1, .int (Int32.ofInt x1))] [] w P := by
  unfold xl_countThickness_b23 at hx
  refine wp_g 2 (pc1 := 25) (lv1 := [(0, .ref a0), (1, .int (Int32.ofInt x1))]) (st1 := [.ref a0, .int (Int32.ofInt x1)]) (w1 := w) rfl ?_
  refine wx_gi (kf := 9) (ln := 3) (ci := 0) (b := 0) (zz := 0) (x := a0) (by decide +kernel) h ca0.1 rfl ?_
  show wp _ 21 28 [(0, .ref a0), (1, .int (Int32.ofInt x1))] [.int (Int32.ofInt (s a0 0)), .int (Int32.ofInt x1)] w _
  refine wx_ge (oo := 44) (ln := 3) (a := 72) (b := 0) (zz := 0) (by decide +kernel) (fun h1 => ?_) (fun h1 => ?_)
  · have hx := ite_f h1 hx
    cases hx
    exact kc _ rfl _ h
  · have hx := ite_t h1 hx
    refine wp_g 1 (pc1 := 32) (lv1 := [(0, .ref a0), (1, .int (Int32.ofInt x1))]) (st1 := [.ref a0]) (w1 := w) rfl ?_
    refine wx_gr (o := 1) (kf := 24) (ln := 3) (ci := 0) (b := 4) (zz := 0) (x := a0) (by decide +kernel) h ca0.1 rfl ?_
    show wp _ 21 35 [(0, .ref a0), (1, .int (Int32.ofInt x1))] [.ref (a0 + 1)] w _
    refine wp_g 1 (pc1 := 36) (lv1 := [(0, .ref a0), (1, .int (Int32.ofInt x1))]) (st1 := [.int (Int32.ofInt x1), .ref (a0 + 1)]) (w1 := w) rfl ?_
    obtain ⟨i2, e3, hx⟩ := bd hx
    refine wx_ra (x := (a0 + 1)) (n := 8) (ln := 1) (a := 0) (b := 0) (zz := 0) (by decide +kernel) h (ca0.2.1 1 (by decide) (by decide)) e3 ?_
    show wp _ 21 37 [(0, .ref a0), (1, .int (Int32.ofInt x1))] [.int (Int32.ofInt (s (a0 + 1) i2))] w _
    refine wz_lt (oo := 29) (ln := 3) (a := 66) (b := 0) (zz := 0) (by decide +kernel) (fun h4 => ?_) (fun h4 => ?_)
    · have hx := ite_t h4 hx
      refine wp_g 2 (pc1 := 23) (lv1 := [(1, .int (Int32.ofInt (x1 + 1))), (0, .ref a0)]) (st1 := []) (w1 := w) (by simp only [Int32.ofInt_add, Int32.ofInt_sub, Int32.ofInt_mul, Int32.ofInt_neg, p_and, p_or, p_xor, p_shl, p_shr, p_usr, p_w8, p_c16, p_lI, q_and, q_or, q_shl, q_shr, q_w32, Int64.ofInt_add, Int64.ofInt_sub, Int64.ofInt_mul, p_mx, p_mn, q_mx, q_mn]; rfl) ?_
      refine wp_lv (lv1 := [(0, .ref a0), (1, .int (Int32.ofInt (x1 + 1)))]) (lsub_p [1, 0] rfl rfl rfl) ?_
      cases hx
      exact kn _ _ rfl h
    · have hx := ite_f h4 hx
      refine wp_g 1 (pc1 := 41) (lv1 := [(0, .ref a0), (1, .int (Int32.ofInt x1))]) (st1 := [.ref a0]) (w1 := w) rfl ?_
      refine wx_gr (o := 1) (kf := 24) (ln := 3) (ci := 0) (b := 4) (zz := 0) (x := a0) (by decide +kernel) h ca0.1 rfl ?_
      show wp _ 21 44 [(0, .ref a0), (1, .int (Int32.ofInt x1))] [.ref (a0 + 1)] w _
      refine wp_g 1 (pc1 := 45) (lv1 := [(0, .ref a0), (1, .int (Int32.ofInt x1))]) (st1 := [.int (Int32.ofInt x1), .ref (a0 + 1)]) (w1 := w) rfl ?_
      refine wx_ra (x := (a0 + 1)) (n := 8) (ln := 1) (a := 0) (b := 0) (zz := 0) (by decide +kernel) h (ca0.2.1 1 (by decide) (by decide)) e3 ?_
      show wp _ 21 46 [(0, .ref a0), (1, .int (Int32.ofInt x1))] [.int (Int32.ofInt (s (a0 + 1) i2))] w _
      refine wp_g 1 (pc1 := 48) (lv1 := [(0, .ref a0), (1, .int (Int32.ofInt x1))]) (st1 := [.int (Int32.ofInt 8), .int (Int32.ofInt (s (a0 + 1) i2))]) (w1 := w) rfl ?_
      refine wx_ge (oo := 18) (ln := 3) (a := 66) (b := 0) (zz := 0) (by decide +kernel) (fun h5 => ?_) (fun h5 => ?_)
      · have hx := ite_f h5 hx
        refine wp_g 2 (pc1 := 23) (lv1 := [(1, .int (Int32.ofInt (x1 + 1))), (0, .ref a0)]) (st1 := []) (w1 := w) (by simp only [Int32.ofInt_add, Int32.ofInt_sub, Int32.ofInt_mul, Int32.ofInt_neg, p_and, p_or, p_xor, p_shl, p_shr, p_usr, p_w8, p_c16, p_lI, q_and, q_or, q_shl, q_shr, q_w32, Int64.ofInt_add, Int64.ofInt_sub, Int64.ofInt_mul, p_mx, p_mn, q_mx, q_mn]; rfl) ?_
        refine wp_lv (lv1 := [(0, .ref a0), (1, .int (Int32.ofInt (x1 + 1)))]) (lsub_p [1, 0] rfl rfl rfl) ?_
        cases hx
        exact kn _ _ rfl h
      · have hx := ite_t h5 hx
        refine wp_g 1 (pc1 := 52) (lv1 := [(0, .ref a0), (1, .int (Int32.ofInt x1))]) (st1 := [.ref a0]) (w1 := w) rfl ?_
        refine wx_gr (o := 7) (kf := 43) (ln := 3) (ci := 0) (b := 10) (zz := 0) (x := a0) (by decide +kernel) h ca0.1 rfl ?_
        show wp _ 21 55 [(0, .ref a0), (1, .int (Int32.ofInt x1))] [.ref (a0 + 7)] w _
        refine wp_g 1 (pc1 := 56) (lv1 := [(0, .ref a0), (1, .int (Int32.ofInt x1))]) (st1 := [.ref a0, .ref (a0 + 7)]) (w1 := w) rfl ?_
        refine wx_gr (o := 1) (kf := 24) (ln := 3) (ci := 0) (b := 4) (zz := 0) (x := a0) (by decide +kernel) h ca0.1 rfl ?_
        show wp _ 21 59 [(0, .ref a0), (1, .int (Int32.ofInt x1))] [.ref (a0 + 1), .ref (a0 + 7)] w _
        refine wp_g 1 (pc1 := 60) (lv1 := [(0, .ref a0), (1, .int (Int32.ofInt x1))]) (st1 := [.int (Int32.ofInt x1), .ref (a0 + 1), .ref (a0 + 7)]) (w1 := w) rfl ?_
        refine wx_ra (x := (a0 + 1)) (n := 8) (ln := 1) (a := 0) (b := 0) (zz := 0) (by decide +kernel) h (ca0.2.1 1 (by decide) (by decide)) e3 ?_
        show wp _ 21 61 [(0, .ref a0), (1, .int (Int32.ofInt x1))] [.int (Int32.ofInt (s (a0 + 1) i2)), .ref (a0 + 7)] w _
        refine wp_g 1 (pc1 := 62) (lv1 := [(0, .ref a0), (1, .int (Int32.ofInt x1))]) (st1 := [.int (Int32.ofInt (s (a0 + 1) i2)), .ref (a0 + 7), .int (Int32.ofInt (s (a0 + 1) i2)), .ref (a0 + 7)]) (w1 := w) rfl ?_
        obtain ⟨i6, e7, hx⟩ := bd hx
        refine wx_ra (x := (a0 + 7)) (n := 8) (ln := 1) (a := 0) (b := 0) (zz := 0) (by decide +kernel) h (ca0.2.1 7 (by decide) (by decide)) e7 ?_
        show wp _ 21 63 [(0, .ref a0), (1, .int (Int32.ofInt x1))] [.int (Int32.ofInt (s (a0 + 7) i6)), .int (Int32.ofInt (s (a0 + 1) i2)), .ref (a0 + 7)] w _
        refine wp_g 2 (pc1 := 65) (lv1 := [(0, .ref a0), (1, .int (Int32.ofInt x1))]) (st1 := [.int (Int32.ofInt ((s (a0 + 7) i6) + 1)), .int (Int32.ofInt (s (a0 + 1) i2)), .ref (a0 + 7)]) (w1 := w) (by simp only [Int32.ofInt_add, Int32.ofInt_sub, Int32.ofInt_mul, Int32.ofInt_neg, p_and, p_or, p_xor, p_shl, p_shr, p_usr, p_w8, p_c16, p_lI, q_and, q_or, q_shl, q_shr, q_w32, Int64.ofInt_add, Int64.ofInt_sub, Int64.ofInt_mul, p_mx, p_mn, q_mx, q_mn]; rfl) ?_
        obtain ⟨s8, e9, hx⟩ := bd hx
        refine wx_wa (x := (a0 + 7)) (n := 8) (ln := 1) (a := 0) (b := 0) (zz := 0) (by decide +kernel) h (ca0.2.1 7 (by decide) (by decide)) e7 e9 (fun w10 h11 => ?_)
        refine wp_g 2 (pc1 := 23) (lv1 := [(1, .int (Int32.ofInt (x1 + 1))), (0, .ref a0)]) (st1 := []) (w1 := w10) (by simp only [Int32.ofInt_add, Int32.ofInt_sub, Int32.ofInt_mul, Int32.ofInt_neg, p_and, p_or, p_xor, p_shl, p_shr, p_usr, p_w8, p_c16, p_lI, q_and, q_or, q_shl, q_shr, q_w32, Int64.ofInt_add, Int64.ofInt_sub, Int64.ofInt_mul, p_mx, p_mn, q_mx, q_mn]; rfl) ?_
        refine wp_lv (lv1 := [(0, .ref a0), (1, .int (Int32.ofInt (x1 + 1)))]) (lsub_p [1, 0] rfl rfl rfl) ?_
        cases hx
        exact kn _ _ rfl h11
/-- Cloth.countThickness ()V -/
noncomputable def xl_countThickness (s : Hp) (a0 : Nat) : Option Hp :=
  (lp (fun (q : Int × Hp) => xl_countThickness_b2 q.2 a0 q.1) (0, s)).bind fun q1 => (lp (fun (q : Int × Hp) => xl_countThickness_b23 q.2 a0 q.1) (0, q1.2)).bind fun q5 => some q5.2
set_option maxRecDepth 100000 in
theorem xl_countThickness_ok {d : Nat} {P : Option Value → pm_H → Prop} {w : pm_H} {sh : Shp} {w0 : pm_H} {s : Hp} (hS : St sh) {a0 r0 : Nat} (ca0 : okC r0 sh a0) (h : Rw sh w0 s w) {o : Hp} (hx : xl_countThickness s a0 = some o) (kr : ∀ w1, Rw sh w0 o w1 → P none w1) : wp d 21 0 (lv_args 0 [.ref a0]) [] w P := by
  show wp _ 21 0 [(0, .ref a0)] [] w _
  unfold xl_countThickness at hx
  refine wp_g 2 (pc1 := 2) (lv1 := [(1, .int (Int32.ofInt 0)), (0, .ref a0)]) (st1 := []) (w1 := w) rfl ?_
  refine wp_lv (lv1 := [(0, .ref a0), (1, .int (Int32.ofInt 0))]) (lsub_p [1, 0] rfl rfl rfl) ?_
  obtain ⟨q1, e2, hx⟩ := bd hx
  refine wp_lp (σ := Int × Hp) (ρ := (Int × Hp)) (B := fun q => xl_countThickness_b2 q.2 a0 q.1) (R := fun q w' => Rw sh w0 q.2 w') (C := fun r => ∀ w1, Rw sh w0 r.2 w1 → wp d 21 21 [(0, .ref a0), (1, .int (Int32.ofInt r.1))] [] w1 P) (lv := fun q => [(0, .ref a0), (1, .int (Int32.ofInt q.1))]) (hd := 2) (fun q w' o hR hb kn kc => xl_countThickness_b2_ok hS ca0 hR hb kn kc) _ _ _ e2 h ?_
  intro w3 h4
  show wp _ 21 21 [(0, .ref a0), (1, .int (Int32.ofInt q1.1))] [] w3 _
  refine wp_g 2 (pc1 := 23) (lv1 := [(1, .int (Int32.ofInt 0)), (0, .ref a0)]) (st1 := []) (w1 := w3) rfl ?_
  refine wp_lv (lv1 := [(0, .ref a0), (1, .int (Int32.ofInt 0))]) (lsub_p [1, 0] rfl rfl rfl) ?_
  obtain ⟨q5, e6, hx⟩ := bd hx
  refine wp_lp (σ := Int × Hp) (ρ := (Int × Hp)) (B := fun q => xl_countThickness_b23 q.2 a0 q.1) (R := fun q w' => Rw sh w0 q.2 w') (C := fun r => ∀ w1, Rw sh w0 r.2 w1 → wp d 21 72 [(0, .ref a0), (1, .int (Int32.ofInt r.1))] [] w1 P) (lv := fun q => [(0, .ref a0), (1, .int (Int32.ofInt q.1))]) (hd := 23) (fun q w' o hR hb kn kc => xl_countThickness_b23_ok hS ca0 hR hb kn kc) _ _ _ e6 h4 ?_
  intro w7 h8
  show wp _ 21 72 [(0, .ref a0), (1, .int (Int32.ofInt q5.1))] [] w7 _
  refine wp_rt (i := .return_) (r := none) (ln := 1) (a := 0) (b := 0) (z := 0) (by decide +kernel) rfl (ret_v (by decide +kernel)) ?_
  cases hx
  exact kr _ h8
noncomputable def xl_lieFolded_b68 (s : Hp) (a0 : Nat) (a1 : Nat) (x2 : Int) (x5 : Int) (x6 : Int) : Option ((Int × Hp) ⊕ (Int × Hp)) :=
  if w32 x6 < w32 (s a0 0) then (xl_turnCell s a0 a1 x6 x2).bind fun o2 => (ix 8 x6).bind fun i6 => (some (uh o2 (a0 + 1) i6 ((o2 (a0 + 1) i6) + x5))).bind fun s8 => some (.inl (x6 + 1, s8)) else some (.inr (x6, s))
set_option maxRecDepth 100000 in
theorem xl_lieFolded_b68_ok {d : Nat} {P : Option Value → pm_H → Prop} {w : pm_H} {sh : Shp} {w0 : pm_H} {s : Hp} (hS : St sh) {a0 r0 : Nat} (ca0 : okC r0 sh a0) {a1 r1 : Nat} (ca1 : okC r1 sh a1) {x2 : Int} {x5 : Int} {x6 : Int} (h : Rw sh w0 s w) {o : ((Int × Hp) ⊕ (Int × Hp))} (hx : xl_lieFolded_b68 s a0 a1 x2 x5 x6 = some o) (kn : ∀ (q : Int × Hp) w1, o = .inl q → Rw sh w0 q.2 w1 → wp (d + 7) 18 68 [(0, .ref a0), (1, .ref a1), (2, .int (Int32.ofInt x2)), (5, .int (Int32.ofInt x5)), (6, .int (Int32.ofInt q.1))] [] w1 P) (kc : ∀ (r : (Int × Hp)), o = .inr r → (∀ w1, Rw sh w0 r.2 w1 → wp (d + 7) 18 103 [(0, .ref a0), (1, .ref a1), (2, .int (Int32.ofInt x2)), (5, .int (Int32.ofInt x5)), (6, .int (Int32.ofInt r.1))] [] w1 P)) : wp (d + 7) 18 68 [(0, .ref a0), (1, .ref a1), (2, .int (Int32.ofInt x2)), (5, .int (Int32.ofInt x5)), (6, .int (Int32.ofInt x6))] [] w P := by
  unfold xl_lieFolded_b68 at hx
  refine wp_g 2 (pc1 := 71) (lv1 := [(0, .ref a0), (1, .ref a1), (2, .int (Int32.ofInt x2)), (5, .int (Int32.ofInt x5)), (6, .int (Int32.ofInt x6))]) (st1 := [.ref a0, .int (Int32.ofInt x6)]) (w1 := w) rfl ?_
  refine wx_gi (kf := 9) (ln := 3) (ci := 0) (b := 0) (zz := 0) (x := a0) (by decide +kernel) h ca0.1 rfl ?_
  show wp _ 18 74 [(0, .ref a0), (1, .ref a1), (2, .int (Int32.ofInt x2)), (5, .int (Int32.ofInt x5)), (6, .int (Int32.ofInt x6))] [.int (Int32.ofInt (s a0 0)), .int (Int32.ofInt x6)] w _
  refine wx_ge (oo := 29) (ln := 3) (a := 103) (b := 0) (zz := 0) (by decide +kernel) (fun h1 => ?_) (fun h1 => ?_)
  · have hx := ite_f h1 hx
    cases hx
    exact kc _ rfl _ h
  · have hx := ite_t h1 hx
    refine wp_g 4 (pc1 := 82) (lv1 := [(0, .ref a0), (1, .ref a1), (2, .int (Int32.ofInt x2)), (5, .int (Int32.ofInt x5)), (6, .int (Int32.ofInt x6))]) (st1 := [.int (Int32.ofInt x2), .int (Int32.ofInt x6), .ref a1, .ref a0]) (w1 := w) rfl ?_
    obtain ⟨o2, e3, hx⟩ := bd hx
    refine wp_cl [.ref a0, .ref a1, .int (Int32.ofInt x6), .int (Int32.ofInt x2)] [] (i := .invokevirtual 74) (ln := 3) (a := 19) (b := 0) (z := 0) (by decide +kernel) rfl rfl (by decide) rfl (show (4 : Nat) = pm_na 19 by decide +kernel) (Nat.le_of_ble_eq_true rfl) (show (4 : Nat) ≤ pm_n 19 by decide +kernel) (rcv_x 0 h ca0.1 (by decide +kernel)) (xl_turnCell_ok (d := d + 5) hS ca0 ca1 h e3 (fun w4 h5 => ?_))
    show wp _ 18 85 [(0, .ref a0), (1, .ref a1), (2, .int (Int32.ofInt x2)), (5, .int (Int32.ofInt x5)), (6, .int (Int32.ofInt x6))] [] w4 _
    refine wp_g 1 (pc1 := 86) (lv1 := [(0, .ref a0), (1, .ref a1), (2, .int (Int32.ofInt x2)), (5, .int (Int32.ofInt x5)), (6, .int (Int32.ofInt x6))]) (st1 := [.ref a0]) (w1 := w4) rfl ?_
    refine wx_gr (o := 1) (kf := 24) (ln := 3) (ci := 0) (b := 4) (zz := 0) (x := a0) (by decide +kernel) h5 ca0.1 rfl ?_
    show wp _ 18 89 [(0, .ref a0), (1, .ref a1), (2, .int (Int32.ofInt x2)), (5, .int (Int32.ofInt x5)), (6, .int (Int32.ofInt x6))] [.ref (a0 + 1)] w4 _
    refine wp_g 2 (pc1 := 92) (lv1 := [(0, .ref a0), (1, .ref a1), (2, .int (Int32.ofInt x2)), (5, .int (Int32.ofInt x5)), (6, .int (Int32.ofInt x6))]) (st1 := [.int (Int32.ofInt x6), .ref (a0 + 1), .int (Int32.ofInt x6), .ref (a0 + 1)]) (w1 := w4) rfl ?_
    obtain ⟨i6, e7, hx⟩ := bd hx
    refine wx_ra (x := (a0 + 1)) (n := 8) (ln := 1) (a := 0) (b := 0) (zz := 0) (by decide +kernel) h5 (ca0.2.1 1 (by decide) (by decide)) e7 ?_
    show wp _ 18 93 [(0, .ref a0), (1, .ref a1), (2, .int (Int32.ofInt x2)), (5, .int (Int32.ofInt x5)), (6, .int (Int32.ofInt x6))] [.int (Int32.ofInt (o2 (a0 + 1) i6)), .int (Int32.ofInt x6), .ref (a0 + 1)] w4 _
    refine wp_g 2 (pc1 := 96) (lv1 := [(0, .ref a0), (1, .ref a1), (2, .int (Int32.ofInt x2)), (5, .int (Int32.ofInt x5)), (6, .int (Int32.ofInt x6))]) (st1 := [.int (Int32.ofInt ((o2 (a0 + 1) i6) + x5)), .int (Int32.ofInt x6), .ref (a0 + 1)]) (w1 := w4) (by simp only [Int32.ofInt_add, Int32.ofInt_sub, Int32.ofInt_mul, Int32.ofInt_neg, p_and, p_or, p_xor, p_shl, p_shr, p_usr, p_w8, p_c16, p_lI, q_and, q_or, q_shl, q_shr, q_w32, Int64.ofInt_add, Int64.ofInt_sub, Int64.ofInt_mul, p_mx, p_mn, q_mx, q_mn]; rfl) ?_
    obtain ⟨s8, e9, hx⟩ := bd hx
    refine wx_wa (x := (a0 + 1)) (n := 8) (ln := 1) (a := 0) (b := 0) (zz := 0) (by decide +kernel) h5 (ca0.2.1 1 (by decide) (by decide)) e7 e9 (fun w10 h11 => ?_)
    refine wp_g 2 (pc1 := 68) (lv1 := [(6, .int (Int32.ofInt (x6 + 1))), (0, .ref a0), (1, .ref a1), (2, .int (Int32.ofInt x2)), (5, .int (Int32.ofInt x5))]) (st1 := []) (w1 := w10) (by simp only [Int32.ofInt_add, Int32.ofInt_sub, Int32.ofInt_mul, Int32.ofInt_neg, p_and, p_or, p_xor, p_shl, p_shr, p_usr, p_w8, p_c16, p_lI, q_and, q_or, q_shl, q_shr, q_w32, Int64.ofInt_add, Int64.ofInt_sub, Int64.ofInt_mul, p_mx, p_mn, q_mx, q_mn]; rfl) ?_
    refine wp_lv (lv1 := [(0, .ref a0), (1, .ref a1), (2, .int (Int32.ofInt x2)), (5, .int (Int32.ofInt x5)), (6, .int (Int32.ofInt (x6 + 1)))]) (lsub_p [1, 2, 3, 4, 0] rfl rfl rfl) ?_
    cases hx
    exact kn _ _ rfl h11
noncomputable def xl_lieFolded_b106 (s : Hp) (a0 : Nat) (a1 : Nat) (x2 : Int) (x6 : Int) : Option ((Int × Hp) ⊕ (Int × Hp)) :=
  if w32 x6 < w32 ((s a0 0) - 1) then (xl_kindMade s a1 x6 x2).bind fun o2 => if w32 o2 = 0 then (ix 8 x6).bind fun i7 => (some (uh s (a0 + 6) i7 (s (a1 + 6) i7))).bind fun s9 => some (.inl (x6 + 1, s9)) else (ix 8 x6).bind fun i13 => (some (uh s (a0 + 6) i13 o2)).bind fun s15 => some (.inl (x6 + 1, s15)) else some (.inr (x6, s))
set_option maxRecDepth 100000 in
theorem xl_lieFolded_b106_ok {d : Nat} {P : Option Value → pm_H → Prop} {w : pm_H} {sh : Shp} {w0 : pm_H} {s : Hp} (hS : St sh) {a0 r0 : Nat} (ca0 : okC r0 sh a0) {a1 r1 : Nat} (ca1 : okC r1 sh a1) {x2 : Int} {x6 : Int} (h : Rw sh w0 s w) {o : ((Int × Hp) ⊕ (Int × Hp))} (hx : xl_lieFolded_b106 s a0 a1 x2 x6 = some o) (kn : ∀ (q : Int × Hp) w1, o = .inl q → Rw sh w0 q.2 w1 → wp (d + 7) 18 106 [(0, .ref a0), (1, .ref a1), (2, .int (Int32.ofInt x2)), (6, .int (Int32.ofInt q.1))] [] w1 P) (kc : ∀ (r : (Int × Hp)), o = .inr r → (∀ w1, Rw sh w0 r.2 w1 → wp (d + 7) 18 156 [(0, .ref a0), (1, .ref a1), (2, .int (Int32.ofInt x2)), (6, .int (Int32.ofInt r.1))] [] w1 P)) : wp (d + 7) 18 106 [(0, .ref a0), (1, .ref a1), (2, .int (Int32.ofInt x2)), (6, .int (Int32.ofInt x6))] [] w P := by
  unfold xl_lieFolded_b106 at hx
  refine wp_g 2 (pc1 := 109) (lv1 := [(0, .ref a0), (1, .ref a1), (2, .int (Int32.ofInt x2)), (6, .int (Int32.ofInt x6))]) (st1 := [.ref a0, .int (Int32.ofInt x6)]) (w1 := w) rfl ?_
  refine wx_gi (kf := 9) (ln := 3) (ci := 0) (b := 0) (zz := 0) (x := a0) (by decide +kernel) h ca0.1 rfl ?_
  show wp _ 18 112 [(0, .ref a0), (1, .ref a1), (2, .int (Int32.ofInt x2)), (6, .int (Int32.ofInt x6))] [.int (Int32.ofInt (s a0 0)), .int (Int32.ofInt x6)] w _
  refine wp_g 2 (pc1 := 114) (lv1 := [(0, .ref a0), (1, .ref a1), (2, .int (Int32.ofInt x2)), (6, .int (Int32.ofInt x6))]) (st1 := [.int (Int32.ofInt ((s a0 0) - 1)), .int (Int32.ofInt x6)]) (w1 := w) (by simp only [Int32.ofInt_add, Int32.ofInt_sub, Int32.ofInt_mul, Int32.ofInt_neg, p_and, p_or, p_xor, p_shl, p_shr, p_usr, p_w8, p_c16, p_lI, q_and, q_or, q_shl, q_shr, q_w32, Int64.ofInt_add, Int64.ofInt_sub, Int64.ofInt_mul, p_mx, p_mn, q_mx, q_mn]; rfl) ?_
  refine wx_ge (oo := 42) (ln := 3) (a := 156) (b := 0) (zz := 0) (by decide +kernel) (fun h1 => ?_) (fun h1 => ?_)
  · have hx := ite_f h1 hx
    cases hx
    exact kc _ rfl _ h
  · have hx := ite_t h1 hx
    refine wp_g 3 (pc1 := 121) (lv1 := [(0, .ref a0), (1, .ref a1), (2, .int (Int32.ofInt x2)), (6, .int (Int32.ofInt x6))]) (st1 := [.int (Int32.ofInt x2), .int (Int32.ofInt x6), .ref a1]) (w1 := w) rfl ?_
    obtain ⟨o2, e3, hx⟩ := bd hx
    refine wp_cl [.ref a1, .int (Int32.ofInt x6), .int (Int32.ofInt x2)] [] (i := .invokevirtual 68) (ln := 3) (a := 14) (b := 0) (z := 0) (by decide +kernel) rfl rfl (by decide) rfl (show (3 : Nat) = pm_na 14 by decide +kernel) (Nat.le_of_ble_eq_true rfl) (show (3 : Nat) ≤ pm_n 14 by decide +kernel) (rcv_x 0 h ca1.1 (by decide +kernel)) (xl_kindMade_ok (d := d + 6) hS ca1 h e3 ?_)
    show wp _ 18 124 [(0, .ref a0), (1, .ref a1), (2, .int (Int32.ofInt x2)), (6, .int (Int32.ofInt x6))] [.int (Int32.ofInt o2)] w _
    refine wp_g 2 (pc1 := 127) (lv1 := [(7, .int (Int32.ofInt o2)), (0, .ref a0), (1, .ref a1), (2, .int (Int32.ofInt x2)), (6, .int (Int32.ofInt x6))]) (st1 := [.ref a0]) (w1 := w) rfl ?_
    refine wx_gr (o := 6) (kf := 40) (ln := 3) (ci := 0) (b := 9) (zz := 0) (x := a0) (by decide +kernel) h ca0.1 rfl ?_
    show wp _ 18 130 [(7, .int (Int32.ofInt o2)), (0, .ref a0), (1, .ref a1), (2, .int (Int32.ofInt x2)), (6, .int (Int32.ofInt x6))] [.ref (a0 + 6)] w _
    refine wp_g 2 (pc1 := 134) (lv1 := [(7, .int (Int32.ofInt o2)), (0, .ref a0), (1, .ref a1), (2, .int (Int32.ofInt x2)), (6, .int (Int32.ofInt x6))]) (st1 := [.int (Int32.ofInt o2), .int (Int32.ofInt x6), .ref (a0 + 6)]) (w1 := w) rfl ?_
    refine wz_eq (oo := 8) (ln := 3) (a := 142) (b := 0) (zz := 0) (by decide +kernel) (fun h6 => ?_) (fun h6 => ?_)
    · have hx := ite_t h6 hx
      refine wp_g 1 (pc1 := 143) (lv1 := [(7, .int (Int32.ofInt o2)), (0, .ref a0), (1, .ref a1), (2, .int (Int32.ofInt x2)), (6, .int (Int32.ofInt x6))]) (st1 := [.ref a1, .int (Int32.ofInt x6), .ref (a0 + 6)]) (w1 := w) rfl ?_
      refine wx_gr (o := 6) (kf := 40) (ln := 3) (ci := 0) (b := 9) (zz := 0) (x := a1) (by decide +kernel) h ca1.1 rfl ?_
      show wp _ 18 146 [(7, .int (Int32.ofInt o2)), (0, .ref a0), (1, .ref a1), (2, .int (Int32.ofInt x2)), (6, .int (Int32.ofInt x6))] [.ref (a1 + 6), .int (Int32.ofInt x6), .ref (a0 + 6)] w _
      refine wp_g 1 (pc1 := 148) (lv1 := [(7, .int (Int32.ofInt o2)), (0, .ref a0), (1, .ref a1), (2, .int (Int32.ofInt x2)), (6, .int (Int32.ofInt x6))]) (st1 := [.int (Int32.ofInt x6), .ref (a1 + 6), .int (Int32.ofInt x6), .ref (a0 + 6)]) (w1 := w) rfl ?_
      obtain ⟨i7, e8, hx⟩ := bd hx
      refine wx_ra (x := (a1 + 6)) (n := 8) (ln := 1) (a := 0) (b := 0) (zz := 0) (by decide +kernel) h (ca1.2.1 6 (by decide) (by decide)) e8 ?_
      show wp _ 18 149 [(7, .int (Int32.ofInt o2)), (0, .ref a0), (1, .ref a1), (2, .int (Int32.ofInt x2)), (6, .int (Int32.ofInt x6))] [.int (Int32.ofInt (s (a1 + 6) i7)), .int (Int32.ofInt x6), .ref (a0 + 6)] w _
      obtain ⟨s9, e10, hx⟩ := bd hx
      refine wx_wa (x := (a0 + 6)) (n := 8) (ln := 1) (a := 0) (b := 0) (zz := 0) (by decide +kernel) h (ca0.2.1 6 (by decide) (by decide)) e8 e10 (fun w11 h12 => ?_)
      refine wp_g 2 (pc1 := 106) (lv1 := [(6, .int (Int32.ofInt (x6 + 1))), (7, .int (Int32.ofInt o2)), (0, .ref a0), (1, .ref a1), (2, .int (Int32.ofInt x2))]) (st1 := []) (w1 := w11) (by simp only [Int32.ofInt_add, Int32.ofInt_sub, Int32.ofInt_mul, Int32.ofInt_neg, p_and, p_or, p_xor, p_shl, p_shr, p_usr, p_w8, p_c16, p_lI, q_and, q_or, q_shl, q_shr, q_w32, Int64.ofInt_add, Int64.ofInt_sub, Int64.ofInt_mul, p_mx, p_mn, q_mx, q_mn]; rfl) ?_
      refine wp_lv (lv1 := [(0, .ref a0), (1, .ref a1), (2, .int (Int32.ofInt x2)), (6, .int (Int32.ofInt (x6 + 1)))]) (lsub_p [2, 3, 4, 0] rfl rfl rfl) ?_
      cases hx
      exact kn _ _ rfl h12
    · have hx := ite_f h6 hx
      refine wp_g 2 (pc1 := 149) (lv1 := [(7, .int (Int32.ofInt o2)), (0, .ref a0), (1, .ref a1), (2, .int (Int32.ofInt x2)), (6, .int (Int32.ofInt x6))]) (st1 := [.int (Int32.ofInt o2), .int (Int32.ofInt x6), .ref (a0 + 6)]) (w1 := w) rfl ?_
      obtain ⟨i13, e14, hx⟩ := bd hx
      obtain ⟨s15, e16, hx⟩ := bd hx
      refine wx_wa (x := (a0 + 6)) (n := 8) (ln := 1) (a := 0) (b := 0) (zz := 0) (by decide +kernel) h (ca0.2.1 6 (by decide) (by decide)) e14 e16 (fun w17 h18 => ?_)
      refine wp_g 2 (pc1 := 106) (lv1 := [(6, .int (Int32.ofInt (x6 + 1))), (7, .int (Int32.ofInt o2)), (0, .ref a0), (1, .ref a1), (2, .int (Int32.ofInt x2))]) (st1 := []) (w1 := w17) (by simp only [Int32.ofInt_add, Int32.ofInt_sub, Int32.ofInt_mul, Int32.ofInt_neg, p_and, p_or, p_xor, p_shl, p_shr, p_usr, p_w8, p_c16, p_lI, q_and, q_or, q_shl, q_shr, q_w32, Int64.ofInt_add, Int64.ofInt_sub, Int64.ofInt_mul, p_mx, p_mn, q_mx, q_mn]; rfl) ?_
      refine wp_lv (lv1 := [(0, .ref a0), (1, .ref a1), (2, .int (Int32.ofInt x2)), (6, .int (Int32.ofInt (x6 + 1)))]) (lsub_p [2, 3, 4, 0] rfl rfl rfl) ?_
      cases hx
      exact kn _ _ rfl h18
noncomputable def xl_lieFolded_j43 (s : Hp) (a0 : Nat) (a1 : Nat) (x2 : Int) (x3 : Int) (k0 : Int) : Option Hp :=
  (some (uh s a0 0 (s a1 0))).bind fun s1 => (xf_widthAfter (s1 a1 2) x3).bind fun o5 => (some (uh s1 a0 2 o5)).bind fun s9 => (lp (fun (q : Int × Hp) => xl_lieFolded_b68 q.2 a0 a1 x2 k0 q.1) (0, s9)).bind fun q13 => (lp (fun (q : Int × Hp) => xl_lieFolded_b106 q.2 a0 a1 x2 q.1) (0, q13.2)).bind fun q17 => (xl_countThickness q17.2 a0).bind fun o21 => some o21
set_option maxRecDepth 100000 in
theorem xl_lieFolded_j43_ok {d : Nat} {P : Option Value → pm_H → Prop} {w : pm_H} {sh : Shp} {w0 : pm_H} {s : Hp} (hS : St sh) {a0 r0 : Nat} (ca0 : okC r0 sh a0) {a1 r1 : Nat} (ca1 : okC r1 sh a1) {x2 : Int} {x3 : Int} {k0 : Int} (h : Rw sh w0 s w) {o : Hp} (hx : xl_lieFolded_j43 s a0 a1 x2 x3 k0 = some o) (kr : ∀ w1, Rw sh w0 o w1 → P none w1) : wp (d + 7) 18 43 [(0, .ref a0), (1, .ref a1), (2, .int (Int32.ofInt x2)), (3, .int (Int32.ofInt x3))] [.int (Int32.ofInt k0)] w P := by
  unfold xl_lieFolded_j43 at hx
  refine wp_g 3 (pc1 := 47) (lv1 := [(5, .int (Int32.ofInt k0)), (0, .ref a0), (1, .ref a1), (2, .int (Int32.ofInt x2)), (3, .int (Int32.ofInt x3))]) (st1 := [.ref a1, .ref a0]) (w1 := w) rfl ?_
  refine wx_gi (kf := 9) (ln := 3) (ci := 0) (b := 0) (zz := 0) (x := a1) (by decide +kernel) h ca1.1 rfl ?_
  show wp _ 18 50 [(5, .int (Int32.ofInt k0)), (0, .ref a0), (1, .ref a1), (2, .int (Int32.ofInt x2)), (3, .int (Int32.ofInt x3))] [.int (Int32.ofInt (s a1 0)), .ref a0] w _
  obtain ⟨s1, e2, hx⟩ := bd hx
  refine wx_pi (kf := 9) (ln := 3) (ci := 0) (b := 0) (zz := 0) (x := a0) (by decide +kernel) h ca0.1 rfl (by decide +kernel) e2 (fun w3 h4 => ?_)
  refine wp_g 2 (pc1 := 55) (lv1 := [(5, .int (Int32.ofInt k0)), (0, .ref a0), (1, .ref a1), (2, .int (Int32.ofInt x2)), (3, .int (Int32.ofInt x3))]) (st1 := [.ref a1, .ref a0]) (w1 := w3) rfl ?_
  refine wx_gi (kf := 18) (ln := 3) (ci := 0) (b := 2) (zz := 0) (x := a1) (by decide +kernel) h4 ca1.1 rfl ?_
  show wp _ 18 58 [(5, .int (Int32.ofInt k0)), (0, .ref a0), (1, .ref a1), (2, .int (Int32.ofInt x2)), (3, .int (Int32.ofInt x3))] [.int (Int32.ofInt (s1 a1 2)), .ref a0] w3 _
  refine wp_g 1 (pc1 := 59) (lv1 := [(5, .int (Int32.ofInt k0)), (0, .ref a0), (1, .ref a1), (2, .int (Int32.ofInt x2)), (3, .int (Int32.ofInt x3))]) (st1 := [.int (Int32.ofInt x3), .int (Int32.ofInt (s1 a1 2)), .ref a0]) (w1 := w3) rfl ?_
  obtain ⟨o5, e6, hx⟩ := bd hx
  refine wp_cl [.int (Int32.ofInt (s1 a1 2)), .int (Int32.ofInt x3)] [.ref a0] (i := .invokestatic 71) (ln := 3) (a := 145) (b := 4) (z := 0) (by decide +kernel) rfl rfl (by decide) rfl (show (2 : Nat) = pm_na 145 by decide +kernel) (Nat.le_of_ble_eq_true rfl) (show (2 : Nat) ≤ pm_n 145 by decide +kernel) (by rw [show pm_k 145 = 1 by decide +kernel]; rfl) (xf_widthAfter_ok (d := d) e6 ?_)
  show wp _ 18 62 [(5, .int (Int32.ofInt k0)), (0, .ref a0), (1, .ref a1), (2, .int (Int32.ofInt x2)), (3, .int (Int32.ofInt x3))] [.int (Int32.ofInt o5), .ref a0] w3 _
  obtain ⟨s9, e10, hx⟩ := bd hx
  refine wx_pi (kf := 18) (ln := 3) (ci := 0) (b := 2) (zz := 0) (x := a0) (by decide +kernel) h4 ca0.1 rfl (by decide +kernel) e10 (fun w11 h12 => ?_)
  refine wp_g 2 (pc1 := 68) (lv1 := [(6, .int (Int32.ofInt 0)), (5, .int (Int32.ofInt k0)), (0, .ref a0), (1, .ref a1), (2, .int (Int32.ofInt x2)), (3, .int (Int32.ofInt x3))]) (st1 := []) (w1 := w11) rfl ?_
  refine wp_lv (lv1 := [(0, .ref a0), (1, .ref a1), (2, .int (Int32.ofInt x2)), (5, .int (Int32.ofInt k0)), (6, .int (Int32.ofInt 0))]) (lsub_p [2, 3, 4, 1, 0] rfl rfl rfl) ?_
  obtain ⟨q13, e14, hx⟩ := bd hx
  refine wp_lp (σ := Int × Hp) (ρ := (Int × Hp)) (B := fun q => xl_lieFolded_b68 q.2 a0 a1 x2 k0 q.1) (R := fun q w' => Rw sh w0 q.2 w') (C := fun r => ∀ w1, Rw sh w0 r.2 w1 → wp (d + 7) 18 103 [(0, .ref a0), (1, .ref a1), (2, .int (Int32.ofInt x2)), (5, .int (Int32.ofInt k0)), (6, .int (Int32.ofInt r.1))] [] w1 P) (lv := fun q => [(0, .ref a0), (1, .ref a1), (2, .int (Int32.ofInt x2)), (5, .int (Int32.ofInt k0)), (6, .int (Int32.ofInt q.1))]) (hd := 68) (fun q w' o hR hb kn kc => xl_lieFolded_b68_ok hS ca0 ca1 hR hb kn kc) _ _ _ e14 h12 ?_
  intro w15 h16
  show wp _ 18 103 [(0, .ref a0), (1, .ref a1), (2, .int (Int32.ofInt x2)), (5, .int (Int32.ofInt k0)), (6, .int (Int32.ofInt q13.1))] [] w15 _
  refine wp_g 2 (pc1 := 106) (lv1 := [(6, .int (Int32.ofInt 0)), (0, .ref a0), (1, .ref a1), (2, .int (Int32.ofInt x2)), (5, .int (Int32.ofInt k0))]) (st1 := []) (w1 := w15) rfl ?_
  refine wp_lv (lv1 := [(0, .ref a0), (1, .ref a1), (2, .int (Int32.ofInt x2)), (6, .int (Int32.ofInt 0))]) (lsub_p [1, 2, 3, 0] rfl rfl rfl) ?_
  obtain ⟨q17, e18, hx⟩ := bd hx
  refine wp_lp (σ := Int × Hp) (ρ := (Int × Hp)) (B := fun q => xl_lieFolded_b106 q.2 a0 a1 x2 q.1) (R := fun q w' => Rw sh w0 q.2 w') (C := fun r => ∀ w1, Rw sh w0 r.2 w1 → wp (d + 7) 18 156 [(0, .ref a0), (1, .ref a1), (2, .int (Int32.ofInt x2)), (6, .int (Int32.ofInt r.1))] [] w1 P) (lv := fun q => [(0, .ref a0), (1, .ref a1), (2, .int (Int32.ofInt x2)), (6, .int (Int32.ofInt q.1))]) (hd := 106) (fun q w' o hR hb kn kc => xl_lieFolded_b106_ok hS ca0 ca1 hR hb kn kc) _ _ _ e18 h16 ?_
  intro w19 h20
  show wp _ 18 156 [(0, .ref a0), (1, .ref a1), (2, .int (Int32.ofInt x2)), (6, .int (Int32.ofInt q17.1))] [] w19 _
  refine wp_g 1 (pc1 := 157) (lv1 := [(0, .ref a0), (1, .ref a1), (2, .int (Int32.ofInt x2)), (6, .int (Int32.ofInt q17.1))]) (st1 := [.ref a0]) (w1 := w19) rfl ?_
  obtain ⟨o21, e22, hx⟩ := bd hx
  refine wp_cl [.ref a0] [] (i := .invokevirtual 78) (ln := 3) (a := 21) (b := 0) (z := 0) (by decide +kernel) rfl rfl (by decide) rfl (show (1 : Nat) = pm_na 21 by decide +kernel) (Nat.le_of_ble_eq_true rfl) (show (1 : Nat) ≤ pm_n 21 by decide +kernel) (rcv_x 0 h20 ca0.1 (by decide +kernel)) (xl_countThickness_ok (d := d + 6) hS ca0 h20 e22 (fun w23 h24 => ?_))
  show wp _ 18 160 [(0, .ref a0), (1, .ref a1), (2, .int (Int32.ofInt x2)), (6, .int (Int32.ofInt q17.1))] [] w23 _
  refine wp_rt (i := .return_) (r := none) (ln := 1) (a := 0) (b := 0) (z := 0) (by decide +kernel) rfl (ret_v (by decide +kernel)) ?_
  cases hx
  exact kr _ h24
noncomputable def xl_lieFolded_j15 (s : Hp) (a0 : Nat) (a1 : Nat) (x2 : Int) (x3 : Int) (k0 : Int) : Option Hp :=
  if w32 k0 = 0 then xl_lieFolded_j43 s a0 a1 x2 x3 (mxI 0 (((s a1 2) - (2 * x3)) - 2)) else xl_lieFolded_j43 s a0 a1 x2 x3 ((-x3) - 1)
set_option maxRecDepth 100000 in
theorem xl_lieFolded_j15_ok {d : Nat} {P : Option Value → pm_H → Prop} {w : pm_H} {sh : Shp} {w0 : pm_H} {s : Hp} (hS : St sh) {a0 r0 : Nat} (ca0 : okC r0 sh a0) {a1 r1 : Nat} (ca1 : okC r1 sh a1) {x2 : Int} {x3 : Int} {k0 : Int} (h : Rw sh w0 s w) {o : Hp} (hx : xl_lieFolded_j15 s a0 a1 x2 x3 k0 = some o) (kr : ∀ w1, Rw sh w0 o w1 → P none w1) : wp (d + 7) 18 15 [(0, .ref a0), (1, .ref a1), (2, .int (Int32.ofInt x2)), (3, .int (Int32.ofInt x3))] [.int (Int32.ofInt k0)] w P := by
  unfold xl_lieFolded_j15 at hx
  refine wp_g 2 (pc1 := 19) (lv1 := [(4, .int (Int32.ofInt k0)), (0, .ref a0), (1, .ref a1), (2, .int (Int32.ofInt x2)), (3, .int (Int32.ofInt x3))]) (st1 := [.int (Int32.ofInt k0)]) (w1 := w) rfl ?_
  refine wz_eq (oo := 10) (ln := 3) (a := 29) (b := 0) (zz := 0) (by decide +kernel) (fun h1 => ?_) (fun h1 => ?_)
  · have hx := ite_t h1 hx
    refine wp_g 2 (pc1 := 31) (lv1 := [(4, .int (Int32.ofInt k0)), (0, .ref a0), (1, .ref a1), (2, .int (Int32.ofInt x2)), (3, .int (Int32.ofInt x3))]) (st1 := [.ref a1, .int (Int32.ofInt 0)]) (w1 := w) rfl ?_
    refine wx_gi (kf := 18) (ln := 3) (ci := 0) (b := 2) (zz := 0) (x := a1) (by decide +kernel) h ca1.1 rfl ?_
    show wp _ 18 34 [(4, .int (Int32.ofInt k0)), (0, .ref a0), (1, .ref a1), (2, .int (Int32.ofInt x2)), (3, .int (Int32.ofInt x3))] [.int (Int32.ofInt (s a1 2)), .int (Int32.ofInt 0)] w _
    refine wp_g 6 (pc1 := 40) (lv1 := [(4, .int (Int32.ofInt k0)), (0, .ref a0), (1, .ref a1), (2, .int (Int32.ofInt x2)), (3, .int (Int32.ofInt x3))]) (st1 := [.int (Int32.ofInt (((s a1 2) - (2 * x3)) - 2)), .int (Int32.ofInt 0)]) (w1 := w) (by simp only [Int32.ofInt_add, Int32.ofInt_sub, Int32.ofInt_mul, Int32.ofInt_neg, p_and, p_or, p_xor, p_shl, p_shr, p_usr, p_w8, p_c16, p_lI, q_and, q_or, q_shl, q_shr, q_w32, Int64.ofInt_add, Int64.ofInt_sub, Int64.ofInt_mul, p_mx, p_mn, q_mx, q_mn]; rfl) ?_
    refine wp_lb (i := .invokestatic 58) (ln := 3) (a := 1001) (b := 9) (z := 0) (st1 := [.int (Int32.ofInt (mxI 0 (((s a1 2) - (2 * x3)) - 2)))]) (w1 := w) (by decide +kernel) rfl rfl (by decide) (by simp only [Int32.ofInt_add, Int32.ofInt_sub, Int32.ofInt_mul, Int32.ofInt_neg, p_and, p_or, p_xor, p_shl, p_shr, p_usr, p_w8, p_c16, p_lI, q_and, q_or, q_shl, q_shr, q_w32, Int64.ofInt_add, Int64.ofInt_sub, Int64.ofInt_mul, p_mx, p_mn, q_mx, q_mn]; rfl) (Nat.le_of_ble_eq_true rfl) (by omega) ?_
    refine wp_lv (lv1 := [(0, .ref a0), (1, .ref a1), (2, .int (Int32.ofInt x2)), (3, .int (Int32.ofInt x3))]) (lsub_p [1, 2, 3, 4] rfl rfl rfl) ?_
    exact xl_lieFolded_j43_ok hS ca0 ca1 h hx kr
  · have hx := ite_f h1 hx
    refine wp_g 5 (pc1 := 43) (lv1 := [(4, .int (Int32.ofInt k0)), (0, .ref a0), (1, .ref a1), (2, .int (Int32.ofInt x2)), (3, .int (Int32.ofInt x3))]) (st1 := [.int (Int32.ofInt ((-x3) - 1))]) (w1 := w) (by simp only [Int32.ofInt_add, Int32.ofInt_sub, Int32.ofInt_mul, Int32.ofInt_neg, p_and, p_or, p_xor, p_shl, p_shr, p_usr, p_w8, p_c16, p_lI, q_and, q_or, q_shl, q_shr, q_w32, Int64.ofInt_add, Int64.ofInt_sub, Int64.ofInt_mul, p_mx, p_mn, q_mx, q_mn]; rfl) ?_
    refine wp_lv (lv1 := [(0, .ref a0), (1, .ref a1), (2, .int (Int32.ofInt x2)), (3, .int (Int32.ofInt x3))]) (lsub_p [1, 2, 3, 4] rfl rfl rfl) ?_
    exact xl_lieFolded_j43_ok hS ca0 ca1 h hx kr
/-- Cloth.lieFolded (LCloth;I)V -/
noncomputable def xl_lieFolded (s : Hp) (a0 : Nat) (a1 : Nat) (p2 : Int) : Option Hp :=
  if w32 (bAnd p2 2) = 0 then xl_lieFolded_j15 s a0 a1 p2 (bShr p2 2) 0 else xl_lieFolded_j15 s a0 a1 p2 (bShr p2 2) 1
set_option maxRecDepth 100000 in
theorem xl_lieFolded_ok {d : Nat} {P : Option Value → pm_H → Prop} {w : pm_H} {sh : Shp} {w0 : pm_H} {s : Hp} (hS : St sh) {a0 r0 : Nat} (ca0 : okC r0 sh a0) {a1 r1 : Nat} (ca1 : okC r1 sh a1) {p2 : Int} (h : Rw sh w0 s w) {o : Hp} (hx : xl_lieFolded s a0 a1 p2 = some o) (kr : ∀ w1, Rw sh w0 o w1 → P none w1) : wp (d + 7) 18 0 (lv_args 0 [.ref a0, .ref a1, .int (Int32.ofInt p2)]) [] w P := by
  show wp _ 18 0 [(0, .ref a0), (1, .ref a1), (2, .int (Int32.ofInt p2))] [] w _
  unfold xl_lieFolded at hx
  refine wp_g 7 (pc1 := 7) (lv1 := [(3, .int (Int32.ofInt (bShr p2 2))), (0, .ref a0), (1, .ref a1), (2, .int (Int32.ofInt p2))]) (st1 := [.int (Int32.ofInt (bAnd p2 2))]) (w1 := w) (by simp only [Int32.ofInt_add, Int32.ofInt_sub, Int32.ofInt_mul, Int32.ofInt_neg, p_and, p_or, p_xor, p_shl, p_shr, p_usr, p_w8, p_c16, p_lI, q_and, q_or, q_shl, q_shr, q_w32, Int64.ofInt_add, Int64.ofInt_sub, Int64.ofInt_mul, p_mx, p_mn, q_mx, q_mn]; rfl) ?_
  refine wz_eq (oo := 7) (ln := 3) (a := 14) (b := 0) (zz := 0) (by decide +kernel) (fun h1 => ?_) (fun h1 => ?_)
  · have hx := ite_t h1 hx
    refine wp_g 1 (pc1 := 15) (lv1 := [(3, .int (Int32.ofInt (bShr p2 2))), (0, .ref a0), (1, .ref a1), (2, .int (Int32.ofInt p2))]) (st1 := [.int (Int32.ofInt 0)]) (w1 := w) rfl ?_
    refine wp_lv (lv1 := [(0, .ref a0), (1, .ref a1), (2, .int (Int32.ofInt p2)), (3, .int (Int32.ofInt (bShr p2 2)))]) (lsub_p [1, 2, 3, 0] rfl rfl rfl) ?_
    exact xl_lieFolded_j15_ok hS ca0 ca1 h hx kr
  · have hx := ite_f h1 hx
    refine wp_g 2 (pc1 := 15) (lv1 := [(3, .int (Int32.ofInt (bShr p2 2))), (0, .ref a0), (1, .ref a1), (2, .int (Int32.ofInt p2))]) (st1 := [.int (Int32.ofInt 1)]) (w1 := w) rfl ?_
    refine wp_lv (lv1 := [(0, .ref a0), (1, .ref a1), (2, .int (Int32.ofInt p2)), (3, .int (Int32.ofInt (bShr p2 2)))]) (lsub_p [1, 2, 3, 0] rfl rfl rfl) ?_
    exact xl_lieFolded_j15_ok hS ca0 ca1 h hx kr
