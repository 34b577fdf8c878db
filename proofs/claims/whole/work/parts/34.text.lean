/-! by program (wip/whole/gx.py) -/
noncomputable def xt_append_b3 (s : Hp) (x1 : Int) (x2 : Int) : Option ((Int × Hp) ⊕ (Int × Hp)) :=
  if w32 x2 < 0 then some (.inr (x2, s)) else if w32 (s 1 1) < w32 400 then (ix 400 (s 1 1)).bind fun i3 => (some (uh s 2 i3 (bAnd (bUsr x1 x2) 255))).bind fun s5 => (some (uh s5 1 1 ((s5 1 1) + 1))).bind fun s9 => some (.inl (x2 + (-8), s9)) else some (.inl (x2 + (-8), s))
set_option maxRecDepth 100000 in
theorem xt_append_b3_ok {d : Nat} {P : Option Value → pm_H → Prop} {w : pm_H} {sh : Shp} {w0 : pm_H} {s : Hp} (hS : St sh) {x1 : Int} {x2 : Int} (h : Rw sh w0 s w) {o : ((Int × Hp) ⊕ (Int × Hp))} (hx : xt_append_b3 s x1 x2 = some o) (kn : ∀ (q : Int × Hp) w1, o = .inl q → Rw sh w0 q.2 w1 → wp d 83 3 [(0, .ref 1), (1, .int (Int32.ofInt x1)), (2, .int (Int32.ofInt q.1))] [] w1 P) (kc : ∀ (r : (Int × Hp)), o = .inr r → (∀ w1, Rw sh w0 r.2 w1 → wp d 83 51 [(0, .ref 1), (1, .int (Int32.ofInt x1)), (2, .int (Int32.ofInt r.1))] [] w1 P)) : wp d 83 3 [(0, .ref 1), (1, .int (Int32.ofInt x1)), (2, .int (Int32.ofInt x2))] [] w P := by
  unfold xt_append_b3 at hx
  refine wp_g 1 (pc1 := 4) (lv1 := [(0, .ref 1), (1, .int (Int32.ofInt x1)), (2, .int (Int32.ofInt x2))]) (st1 := [.int (Int32.ofInt x2)]) (w1 := w) rfl ?_
  refine wz_lt (oo := 47) (ln := 3) (a := 51) (b := 0) (zz := 0) (by decide +kernel) (fun h1 => ?_) (fun h1 => ?_)
  · have hx := ite_t h1 hx
    cases hx
    exact kc _ rfl _ h
  · have hx := ite_f h1 hx
    refine wp_g 1 (pc1 := 8) (lv1 := [(0, .ref 1), (1, .int (Int32.ofInt x1)), (2, .int (Int32.ofInt x2))]) (st1 := [.ref 1]) (w1 := w) rfl ?_
    refine wx_gi (kf := 15) (ln := 3) (ci := 9) (b := 1) (zz := 0) (x := 1) (by decide +kernel) h (hS _ _ sx_1) rfl ?_
    show wp _ 83 11 [(0, .ref 1), (1, .int (Int32.ofInt x1)), (2, .int (Int32.ofInt x2))] [.int (Int32.ofInt (s 1 1))] w _
    refine wp_g 1 (pc1 := 12) (lv1 := [(0, .ref 1), (1, .int (Int32.ofInt x1)), (2, .int (Int32.ofInt x2))]) (st1 := [.ref 1, .int (Int32.ofInt (s 1 1))]) (w1 := w) rfl ?_
    refine wx_gr (o := 1) (kf := 9) (ln := 3) (ci := 9) (b := 0) (zz := 0) (x := 1) (by decide +kernel) h (hS _ _ sx_1) rfl ?_
    show wp _ 83 15 [(0, .ref 1), (1, .int (Int32.ofInt x1)), (2, .int (Int32.ofInt x2))] [.ref 2, .int (Int32.ofInt (s 1 1))] w _
    refine wx_ln (n := 400) (t := 0) (ln := 1) (a := 0) (b := 0) (zz := 0) (by decide +kernel) h (hS _ _ sx_2) ?_
    show wp _ 83 16 [(0, .ref 1), (1, .int (Int32.ofInt x1)), (2, .int (Int32.ofInt x2))] [.int (Int32.ofInt 400), .int (Int32.ofInt (s 1 1))] w _
    refine wx_ge (oo := 29) (ln := 3) (a := 45) (b := 0) (zz := 0) (by decide +kernel) (fun h2 => ?_) (fun h2 => ?_)
    · have hx := ite_f h2 hx
      refine wp_g 2 (pc1 := 3) (lv1 := [(2, .int (Int32.ofInt (x2 + (-8)))), (0, .ref 1), (1, .int (Int32.ofInt x1))]) (st1 := []) (w1 := w) (by simp only [Int32.ofInt_add, Int32.ofInt_sub, Int32.ofInt_mul, Int32.ofInt_neg, p_and, p_or, p_xor, p_shl, p_shr, p_usr, p_w8, p_c16, p_lI, q_and, q_or, q_shl, q_shr, q_w32, Int64.ofInt_add, Int64.ofInt_sub, Int64.ofInt_mul, p_mx, p_mn, q_mx, q_mn]; rfl) ?_
      refine wp_lv (lv1 := [(0, .ref 1), (1, .int (Int32.ofInt x1)), (2, .int (Int32.ofInt (x2 + (-8))))]) (lsub_p [1, 2, 0] rfl rfl rfl) ?_
      cases hx
      exact kn _ _ rfl h
    · have hx := ite_t h2 hx
      refine wp_g 1 (pc1 := 20) (lv1 := [(0, .ref 1), (1, .int (Int32.ofInt x1)), (2, .int (Int32.ofInt x2))]) (st1 := [.ref 1]) (w1 := w) rfl ?_
      refine wx_gr (o := 1) (kf := 9) (ln := 3) (ci := 9) (b := 0) (zz := 0) (x := 1) (by decide +kernel) h (hS _ _ sx_1) rfl ?_
      show wp _ 83 23 [(0, .ref 1), (1, .int (Int32.ofInt x1)), (2, .int (Int32.ofInt x2))] [.ref 2] w _
      refine wp_g 1 (pc1 := 24) (lv1 := [(0, .ref 1), (1, .int (Int32.ofInt x1)), (2, .int (Int32.ofInt x2))]) (st1 := [.ref 1, .ref 2]) (w1 := w) rfl ?_
      refine wx_gi (kf := 15) (ln := 3) (ci := 9) (b := 1) (zz := 0) (x := 1) (by decide +kernel) h (hS _ _ sx_1) rfl ?_
      show wp _ 83 27 [(0, .ref 1), (1, .int (Int32.ofInt x1)), (2, .int (Int32.ofInt x2))] [.int (Int32.ofInt (s 1 1)), .ref 2] w _
      refine wp_g 5 (pc1 := 34) (lv1 := [(0, .ref 1), (1, .int (Int32.ofInt x1)), (2, .int (Int32.ofInt x2))]) (st1 := [.int (Int32.ofInt (bAnd (bUsr x1 x2) 255)), .int (Int32.ofInt (s 1 1)), .ref 2]) (w1 := w) (by simp only [Int32.ofInt_add, Int32.ofInt_sub, Int32.ofInt_mul, Int32.ofInt_neg, p_and, p_or, p_xor, p_shl, p_shr, p_usr, p_w8, p_c16, p_lI, q_and, q_or, q_shl, q_shr, q_w32, Int64.ofInt_add, Int64.ofInt_sub, Int64.ofInt_mul, p_mx, p_mn, q_mx, q_mn]; rfl) ?_
      obtain ⟨i3, e4, hx⟩ := bd hx
      obtain ⟨s5, e6, hx⟩ := bd hx
      refine wx_wa (x := 2) (n := 400) (ln := 1) (a := 0) (b := 0) (zz := 0) (by decide +kernel) h (hS _ _ sx_2) e4 e6 (fun w7 h8 => ?_)
      refine wp_g 2 (pc1 := 37) (lv1 := [(0, .ref 1), (1, .int (Int32.ofInt x1)), (2, .int (Int32.ofInt x2))]) (st1 := [.ref 1, .ref 1]) (w1 := w7) rfl ?_
      refine wx_gi (kf := 15) (ln := 3) (ci := 9) (b := 1) (zz := 0) (x := 1) (by decide +kernel) h8 (hS _ _ sx_1) rfl ?_
      show wp _ 83 40 [(0, .ref 1), (1, .int (Int32.ofInt x1)), (2, .int (Int32.ofInt x2))] [.int (Int32.ofInt (s5 1 1)), .ref 1] w7 _
      refine wp_g 2 (pc1 := 42) (lv1 := [(0, .ref 1), (1, .int (Int32.ofInt x1)), (2, .int (Int32.ofInt x2))]) (st1 := [.int (Int32.ofInt ((s5 1 1) + 1)), .ref 1]) (w1 := w7) (by simp only [Int32.ofInt_add, Int32.ofInt_sub, Int32.ofInt_mul, Int32.ofInt_neg, p_and, p_or, p_xor, p_shl, p_shr, p_usr, p_w8, p_c16, p_lI, q_and, q_or, q_shl, q_shr, q_w32, Int64.ofInt_add, Int64.ofInt_sub, Int64.ofInt_mul, p_mx, p_mn, q_mx, q_mn]; rfl) ?_
      obtain ⟨s9, e10, hx⟩ := bd hx
      refine wx_pi (kf := 15) (ln := 3) (ci := 9) (b := 1) (zz := 0) (x := 1) (by decide +kernel) h8 (hS _ _ sx_1) rfl (by decide +kernel) e10 (fun w11 h12 => ?_)
      refine wp_g 2 (pc1 := 3) (lv1 := [(2, .int (Int32.ofInt (x2 + (-8)))), (0, .ref 1), (1, .int (Int32.ofInt x1))]) (st1 := []) (w1 := w11) (by simp only [Int32.ofInt_add, Int32.ofInt_sub, Int32.ofInt_mul, Int32.ofInt_neg, p_and, p_or, p_xor, p_shl, p_shr, p_usr, p_w8, p_c16, p_lI, q_and, q_or, q_shl, q_shr, q_w32, Int64.ofInt_add, Int64.ofInt_sub, Int64.ofInt_mul, p_mx, p_mn, q_mx, q_mn]; rfl) ?_
      refine wp_lv (lv1 := [(0, .ref 1), (1, .int (Int32.ofInt x1)), (2, .int (Int32.ofInt (x2 + (-8))))]) (lsub_p [1, 2, 0] rfl rfl rfl) ?_
      cases hx
      exact kn _ _ rfl h12
/-- Text.append (I)V -/
noncomputable def xt_append (s : Hp) (p1 : Int) : Option Hp :=
  (lp (fun (q : Int × Hp) => xt_append_b3 q.2 p1 q.1) (24, s)).bind fun q1 => some q1.2
set_option maxRecDepth 100000 in
theorem xt_append_ok {d : Nat} {P : Option Value → pm_H → Prop} {w : pm_H} {sh : Shp} {w0 : pm_H} {s : Hp} (hS : St sh) {p1 : Int} (h : Rw sh w0 s w) {o : Hp} (hx : xt_append s p1 = some o) (kr : ∀ w1, Rw sh w0 o w1 → P none w1) : wp d 83 0 (lv_args 0 [.ref 1, .int (Int32.ofInt p1)]) [] w P := by
  show wp _ 83 0 [(0, .ref 1), (1, .int (Int32.ofInt p1))] [] w _
  unfold xt_append at hx
  refine wp_g 2 (pc1 := 3) (lv1 := [(2, .int (Int32.ofInt 24)), (0, .ref 1), (1, .int (Int32.ofInt p1))]) (st1 := []) (w1 := w) rfl ?_
  refine wp_lv (lv1 := [(0, .ref 1), (1, .int (Int32.ofInt p1)), (2, .int (Int32.ofInt 24))]) (lsub_p [1, 2, 0] rfl rfl rfl) ?_
  obtain ⟨q1, e2, hx⟩ := bd hx
  refine wp_lp (σ := Int × Hp) (ρ := (Int × Hp)) (B := fun q => xt_append_b3 q.2 p1 q.1) (R := fun q w' => Rw sh w0 q.2 w') (C := fun r => ∀ w1, Rw sh w0 r.2 w1 → wp d 83 51 [(0, .ref 1), (1, .int (Int32.ofInt p1)), (2, .int (Int32.ofInt r.1))] [] w1 P) (lv := fun q => [(0, .ref 1), (1, .int (Int32.ofInt p1)), (2, .int (Int32.ofInt q.1))]) (hd := 3) (fun q w' o hR hb kn kc => xt_append_b3_ok hS hR hb kn kc) _ _ _ e2 h ?_
  intro w3 h4
  show wp _ 83 51 [(0, .ref 1), (1, .int (Int32.ofInt p1)), (2, .int (Int32.ofInt q1.1))] [] w3 _
  refine wp_rt (i := .return_) (r := none) (ln := 1) (a := 0) (b := 0) (z := 0) (by decide +kernel) rfl (ret_v (by decide +kernel)) ?_
  cases hx
  exact kr _ h4
noncomputable def xt_passBlanks_b0 (s : Hp) : Option (Hp ⊕ Hp) :=
  if w32 (s 1 2) < w32 (s 1 1) then (ix 400 (s 1 2)).bind fun i2 => if w32 (s 2 i2) = w32 32 then (some (uh s 1 2 ((s 1 2) + 1))).bind fun s5 => some (.inl s5) else some (.inr s) else some (.inr s)
set_option maxRecDepth 100000 in
theorem xt_passBlanks_b0_ok {d : Nat} {P : Option Value → pm_H → Prop} {w : pm_H} {sh : Shp} {w0 : pm_H} {s : Hp} (hS : St sh) (h : Rw sh w0 s w) {o : (Hp ⊕ Hp)} (hx : xt_passBlanks_b0 s = some o) (kn : ∀ (q : Hp) w1, o = .inl q → Rw sh w0 q w1 → wp d 100 0 [(0, .ref 1)] [] w1 P) (kc : ∀ (r : Hp), o = .inr r → (∀ w1, Rw sh w0 r w1 → wp d 100 38 [(0, .ref 1)] [] w1 P)) : wp d 100 0 [(0, .ref 1)] [] w P := by
  unfold xt_passBlanks_b0 at hx
  refine wp_g 1 (pc1 := 1) (lv1 := [(0, .ref 1)]) (st1 := [.ref 1]) (w1 := w) rfl ?_
  refine wx_gi (kf := 19) (ln := 3) (ci := 9) (b := 2) (zz := 0) (x := 1) (by decide +kernel) h (hS _ _ sx_1) rfl ?_
  show wp _ 100 4 [(0, .ref 1)] [.int (Int32.ofInt (s 1 2))] w _
  refine wp_g 1 (pc1 := 5) (lv1 := [(0, .ref 1)]) (st1 := [.ref 1, .int (Int32.ofInt (s 1 2))]) (w1 := w) rfl ?_
  refine wx_gi (kf := 15) (ln := 3) (ci := 9) (b := 1) (zz := 0) (x := 1) (by decide +kernel) h (hS _ _ sx_1) rfl ?_
  show wp _ 100 8 [(0, .ref 1)] [.int (Int32.ofInt (s 1 1)), .int (Int32.ofInt (s 1 2))] w _
  refine wx_ge (oo := 30) (ln := 3) (a := 38) (b := 0) (zz := 0) (by decide +kernel) (fun h1 => ?_) (fun h1 => ?_)
  · have hx := ite_f h1 hx
    cases hx
    exact kc _ rfl _ h
  · have hx := ite_t h1 hx
    refine wp_g 1 (pc1 := 12) (lv1 := [(0, .ref 1)]) (st1 := [.ref 1]) (w1 := w) rfl ?_
    refine wx_gr (o := 1) (kf := 9) (ln := 3) (ci := 9) (b := 0) (zz := 0) (x := 1) (by decide +kernel) h (hS _ _ sx_1) rfl ?_
    show wp _ 100 15 [(0, .ref 1)] [.ref 2] w _
    refine wp_g 1 (pc1 := 16) (lv1 := [(0, .ref 1)]) (st1 := [.ref 1, .ref 2]) (w1 := w) rfl ?_
    refine wx_gi (kf := 19) (ln := 3) (ci := 9) (b := 2) (zz := 0) (x := 1) (by decide +kernel) h (hS _ _ sx_1) rfl ?_
    show wp _ 100 19 [(0, .ref 1)] [.int (Int32.ofInt (s 1 2)), .ref 2] w _
    obtain ⟨i2, e3, hx⟩ := bd hx
    refine wx_ra (x := 2) (n := 400) (ln := 1) (a := 0) (b := 0) (zz := 0) (by decide +kernel) h (hS _ _ sx_2) e3 ?_
    show wp _ 100 20 [(0, .ref 1)] [.int (Int32.ofInt (s 2 i2))] w _
    refine wp_g 1 (pc1 := 22) (lv1 := [(0, .ref 1)]) (st1 := [.int (Int32.ofInt 32), .int (Int32.ofInt (s 2 i2))]) (w1 := w) rfl ?_
    refine wx_ne (oo := 16) (ln := 3) (a := 38) (b := 0) (zz := 0) (by decide +kernel) (fun h4 => ?_) (fun h4 => ?_)
    · have hx := ite_f h4 hx
      cases hx
      exact kc _ rfl _ h
    · have hx := ite_t h4 hx
      refine wp_g 2 (pc1 := 27) (lv1 := [(0, .ref 1)]) (st1 := [.ref 1, .ref 1]) (w1 := w) rfl ?_
      refine wx_gi (kf := 19) (ln := 3) (ci := 9) (b := 2) (zz := 0) (x := 1) (by decide +kernel) h (hS _ _ sx_1) rfl ?_
      show wp _ 100 30 [(0, .ref 1)] [.int (Int32.ofInt (s 1 2)), .ref 1] w _
      refine wp_g 2 (pc1 := 32) (lv1 := [(0, .ref 1)]) (st1 := [.int (Int32.ofInt ((s 1 2) + 1)), .ref 1]) (w1 := w) (by simp only [Int32.ofInt_add, Int32.ofInt_sub, Int32.ofInt_mul, Int32.ofInt_neg, p_and, p_or, p_xor, p_shl, p_shr, p_usr, p_w8, p_c16, p_lI, q_and, q_or, q_shl, q_shr, q_w32, Int64.ofInt_add, Int64.ofInt_sub, Int64.ofInt_mul, p_mx, p_mn, q_mx, q_mn]; rfl) ?_
      obtain ⟨s5, e6, hx⟩ := bd hx
      refine wx_pi (kf := 19) (ln := 3) (ci := 9) (b := 2) (zz := 0) (x := 1) (by decide +kernel) h (hS _ _ sx_1) rfl (by decide +kernel) e6 (fun w7 h8 => ?_)
      refine wp_g 1 (pc1 := 0) (lv1 := [(0, .ref 1)]) (st1 := []) (w1 := w7) rfl ?_
      cases hx
      exact kn _ _ rfl h8
/-- Text.passBlanks ()V -/
noncomputable def xt_passBlanks (s : Hp) : Option Hp :=
  (lp (fun (q : Hp) => xt_passBlanks_b0 q) s).bind fun q1 => some q1
set_option maxRecDepth 100000 in
theorem xt_passBlanks_ok {d : Nat} {P : Option Value → pm_H → Prop} {w : pm_H} {sh : Shp} {w0 : pm_H} {s : Hp} (hS : St sh) (h : Rw sh w0 s w) {o : Hp} (hx : xt_passBlanks s = some o) (kr : ∀ w1, Rw sh w0 o w1 → P none w1) : wp d 100 0 (lv_args 0 [.ref 1]) [] w P := by
  show wp _ 100 0 [(0, .ref 1)] [] w _
  unfold xt_passBlanks at hx
  obtain ⟨q1, e2, hx⟩ := bd hx
  refine wp_lp (σ := Hp) (ρ := Hp) (B := fun q => xt_passBlanks_b0 q) (R := fun q w' => Rw sh w0 q w') (C := fun r => ∀ w1, Rw sh w0 r w1 → wp d 100 38 [(0, .ref 1)] [] w1 P) (lv := fun q => [(0, .ref 1)]) (hd := 0) (fun q w' o hR hb kn kc => xt_passBlanks_b0_ok hS hR hb kn kc) _ _ _ e2 h ?_
  intro w3 h4
  show wp _ 100 38 [(0, .ref 1)] [] w3 _
  refine wp_rt (i := .return_) (r := none) (ln := 1) (a := 0) (b := 0) (z := 0) (by decide +kernel) rfl (ret_v (by decide +kernel)) ?_
  cases hx
  exact kr _ h4
/-- Text.startReading ()V -/
noncomputable def xt_startReading (s : Hp) : Option Hp :=
  (some (uh s 1 2 0)).bind fun s1 => (some (uh s1 1 3 0)).bind fun s5 => (xt_passBlanks s5).bind fun o9 => some o9
set_option maxRecDepth 100000 in
theorem xt_startReading_ok {d : Nat} {P : Option Value → pm_H → Prop} {w : pm_H} {sh : Shp} {w0 : pm_H} {s : Hp} (hS : St sh) (h : Rw sh w0 s w) {o : Hp} (hx : xt_startReading s = some o) (kr : ∀ w1, Rw sh w0 o w1 → P none w1) : wp (d + 1) 84 0 (lv_args 0 [.ref 1]) [] w P := by
  show wp _ 84 0 [(0, .ref 1)] [] w _
  unfold xt_startReading at hx
  refine wp_g 2 (pc1 := 2) (lv1 := [(0, .ref 1)]) (st1 := [.int (Int32.ofInt 0), .ref 1]) (w1 := w) rfl ?_
  obtain ⟨s1, e2, hx⟩ := bd hx
  refine wx_pi (kf := 19) (ln := 3) (ci := 9) (b := 2) (zz := 0) (x := 1) (by decide +kernel) h (hS _ _ sx_1) rfl (by decide +kernel) e2 (fun w3 h4 => ?_)
  refine wp_g 2 (pc1 := 7) (lv1 := [(0, .ref 1)]) (st1 := [.int (Int32.ofInt 0), .ref 1]) (w1 := w3) rfl ?_
  obtain ⟨s5, e6, hx⟩ := bd hx
  refine wx_pi (kf := 22) (ln := 3) (ci := 9) (b := 3) (zz := 0) (x := 1) (by decide +kernel) h4 (hS _ _ sx_1) rfl (by decide +kernel) e6 (fun w7 h8 => ?_)
  refine wp_g 1 (pc1 := 11) (lv1 := [(0, .ref 1)]) (st1 := [.ref 1]) (w1 := w7) rfl ?_
  obtain ⟨o9, e10, hx⟩ := bd hx
  refine wp_cl [.ref 1] [] (i := .invokevirtual 25) (ln := 3) (a := 100) (b := 0) (z := 0) (by decide +kernel) rfl rfl (by decide) rfl (show (1 : Nat) = pm_na 100 by decide +kernel) (Nat.le_of_ble_eq_true rfl) (show (1 : Nat) ≤ pm_n 100 by decide +kernel) (rcv_x 9 h8 (hS _ _ sx_1) (by decide +kernel)) (xt_passBlanks_ok (d := d) hS h8 e10 (fun w11 h12 => ?_))
  show wp _ 84 14 [(0, .ref 1)] [] w11 _
  refine wp_rt (i := .return_) (r := none) (ln := 1) (a := 0) (b := 0) (z := 0) (by decide +kernel) rfl (ret_v (by decide +kernel)) ?_
  cases hx
  exact kr _ h12
/-- Text.fault ()I -/
noncomputable def xt_fault (s : Hp) : Option Int :=
  some (s 1 3)
set_option maxRecDepth 100000 in
theorem xt_fault_ok {d : Nat} {P : Option Value → pm_H → Prop} {w : pm_H} {sh : Shp} {w0 : pm_H} {s : Hp} (hS : St sh) (h : Rw sh w0 s w) {o : Int} (hx : xt_fault s = some o) (kr : P (some (.int (Int32.ofInt o))) w) : wp d 85 0 (lv_args 0 [.ref 1]) [] w P := by
  show wp _ 85 0 [(0, .ref 1)] [] w _
  unfold xt_fault at hx
  refine wp_g 1 (pc1 := 1) (lv1 := [(0, .ref 1)]) (st1 := [.ref 1]) (w1 := w) rfl ?_
  refine wx_gi (kf := 22) (ln := 3) (ci := 9) (b := 3) (zz := 0) (x := 1) (by decide +kernel) h (hS _ _ sx_1) rfl ?_
  show wp _ 85 4 [(0, .ref 1)] [.int (Int32.ofInt (s 1 3))] w _
  refine wp_rt (i := .ireturn) (r := some (.int (Int32.ofInt (s 1 3)))) (ln := 1) (a := 0) (b := 0) (z := 0) (by decide +kernel) rfl (ret_ok (by decide +kernel)) ?_
  cases hx
  exact kr
/-- Text.failed ()Z -/
noncomputable def xt_failed (s : Hp) : Option Int :=
  if w32 (s 1 3) = 0 then some 0 else some 1
set_option maxRecDepth 100000 in
theorem xt_failed_ok {d : Nat} {P : Option Value → pm_H → Prop} {w : pm_H} {sh : Shp} {w0 : pm_H} {s : Hp} (hS : St sh) (h : Rw sh w0 s w) {o : Int} (hx : xt_failed s = some o) (kr : P (some (.int (Int32.ofInt o))) w) : wp d 86 0 (lv_args 0 [.ref 1]) [] w P := by
  show wp _ 86 0 [(0, .ref 1)] [] w _
  unfold xt_failed at hx
  refine wp_g 1 (pc1 := 1) (lv1 := [(0, .ref 1)]) (st1 := [.ref 1]) (w1 := w) rfl ?_
  refine wx_gi (kf := 22) (ln := 3) (ci := 9) (b := 3) (zz := 0) (x := 1) (by decide +kernel) h (hS _ _ sx_1) rfl ?_
  show wp _ 86 4 [(0, .ref 1)] [.int (Int32.ofInt (s 1 3))] w _
  refine wz_eq (oo := 7) (ln := 3) (a := 11) (b := 0) (zz := 0) (by decide +kernel) (fun h1 => ?_) (fun h1 => ?_)
  · have hx := ite_t h1 hx
    refine wp_g 1 (pc1 := 12) (lv1 := [(0, .ref 1)]) (st1 := [.int (Int32.ofInt 0)]) (w1 := w) rfl ?_
    refine wp_rt (i := .ireturn) (r := some (.int (Int32.ofInt 0))) (ln := 1) (a := 0) (b := 0) (z := 0) (by decide +kernel) rfl (ret_b (by decide +kernel) (Or.inl rfl)) ?_
    cases hx
    exact kr
  · have hx := ite_f h1 hx
    refine wp_g 2 (pc1 := 12) (lv1 := [(0, .ref 1)]) (st1 := [.int (Int32.ofInt 1)]) (w1 := w) rfl ?_
    refine wp_rt (i := .ireturn) (r := some (.int (Int32.ofInt 1))) (ln := 1) (a := 0) (b := 0) (z := 0) (by decide +kernel) rfl (ret_b (by decide +kernel) (Or.inr rfl)) ?_
    cases hx
    exact kr
/-- Text.fail (II)V -/
noncomputable def xt_fail (s : Hp) (p1 : Int) (p2 : Int) : Option Hp :=
  if w32 (s 1 3) = 0 then (some (uh s 1 3 ((1 + (8 * p1)) + p2))).bind fun s2 => some s2 else some s
set_option maxRecDepth 100000 in
theorem xt_fail_ok {d : Nat} {P : Option Value → pm_H → Prop} {w : pm_H} {sh : Shp} {w0 : pm_H} {s : Hp} (hS : St sh) {p1 : Int} {p2 : Int} (h : Rw sh w0 s w) {o : Hp} (hx : xt_fail s p1 p2 = some o) (kr : ∀ w1, Rw sh w0 o w1 → P none w1) : wp d 87 0 (lv_args 0 [.ref 1, .int (Int32.ofInt p1), .int (Int32.ofInt p2)]) [] w P := by
  show wp _ 87 0 [(0, .ref 1), (1, .int (Int32.ofInt p1)), (2, .int (Int32.ofInt p2))] [] w _
  unfold xt_fail at hx
  refine wp_g 1 (pc1 := 1) (lv1 := [(0, .ref 1), (1, .int (Int32.ofInt p1)), (2, .int (Int32.ofInt p2))]) (st1 := [.ref 1]) (w1 := w) rfl ?_
  refine wx_gi (kf := 22) (ln := 3) (ci := 9) (b := 3) (zz := 0) (x := 1) (by decide +kernel) h (hS _ _ sx_1) rfl ?_
  show wp _ 87 4 [(0, .ref 1), (1, .int (Int32.ofInt p1)), (2, .int (Int32.ofInt p2))] [.int (Int32.ofInt (s 1 3))] w _
  refine wz_ne (oo := 15) (ln := 3) (a := 19) (b := 0) (zz := 0) (by decide +kernel) (fun h1 => ?_) (fun h1 => ?_)
  · have hx := ite_f h1 hx
    refine wp_rt (i := .return_) (r := none) (ln := 1) (a := 0) (b := 0) (z := 0) (by decide +kernel) rfl (ret_v (by decide +kernel)) ?_
    cases hx
    exact kr _ h
  · have hx := ite_t h1 hx
    refine wp_g 8 (pc1 := 16) (lv1 := [(0, .ref 1), (1, .int (Int32.ofInt p1)), (2, .int (Int32.ofInt p2))]) (st1 := [.int (Int32.ofInt ((1 + (8 * p1)) + p2)), .ref 1]) (w1 := w) (by simp only [Int32.ofInt_add, Int32.ofInt_sub, Int32.ofInt_mul, Int32.ofInt_neg, p_and, p_or, p_xor, p_shl, p_shr, p_usr, p_w8, p_c16, p_lI, q_and, q_or, q_shl, q_shr, q_w32, Int64.ofInt_add, Int64.ofInt_sub, Int64.ofInt_mul, p_mx, p_mn, q_mx, q_mn]; rfl) ?_
    obtain ⟨s2, e3, hx⟩ := bd hx
    refine wx_pi (kf := 22) (ln := 3) (ci := 9) (b := 3) (zz := 0) (x := 1) (by decide +kernel) h (hS _ _ sx_1) rfl (by decide +kernel) e3 (fun w4 h5 => ?_)
    refine wp_rt (i := .return_) (r := none) (ln := 1) (a := 0) (b := 0) (z := 0) (by decide +kernel) rfl (ret_v (by decide +kernel)) ?_
    cases hx
    exact kr _ h5
/-- Text.failHere ()V -/
noncomputable def xt_failHere (s : Hp) : Option Hp :=
  (xt_fail s (s 1 2) 0).bind fun o1 => some o1
set_option maxRecDepth 100000 in
theorem xt_failHere_ok {d : Nat} {P : Option Value → pm_H → Prop} {w : pm_H} {sh : Shp} {w0 : pm_H} {s : Hp} (hS : St sh) (h : Rw sh w0 s w) {o : Hp} (hx : xt_failHere s = some o) (kr : ∀ w1, Rw sh w0 o w1 → P none w1) : wp (d + 1) 88 0 (lv_args 0 [.ref 1]) [] w P := by
  show wp _ 88 0 [(0, .ref 1)] [] w _
  unfold xt_failHere at hx
  refine wp_g 2 (pc1 := 2) (lv1 := [(0, .ref 1)]) (st1 := [.ref 1, .ref 1]) (w1 := w) rfl ?_
  refine wx_gi (kf := 19) (ln := 3) (ci := 9) (b := 2) (zz := 0) (x := 1) (by decide +kernel) h (hS _ _ sx_1) rfl ?_
  show wp _ 88 5 [(0, .ref 1)] [.int (Int32.ofInt (s 1 2)), .ref 1] w _
  refine wp_g 1 (pc1 := 6) (lv1 := [(0, .ref 1)]) (st1 := [.int (Int32.ofInt 0), .int (Int32.ofInt (s 1 2)), .ref 1]) (w1 := w) rfl ?_
  obtain ⟨o1, e2, hx⟩ := bd hx
  refine wp_cl [.ref 1, .int (Int32.ofInt (s 1 2)), .int (Int32.ofInt 0)] [] (i := .invokevirtual 28) (ln := 3) (a := 87) (b := 0) (z := 0) (by decide +kernel) rfl rfl (by decide) rfl (show (3 : Nat) = pm_na 87 by decide +kernel) (Nat.le_of_ble_eq_true rfl) (show (3 : Nat) ≤ pm_n 87 by decide +kernel) (rcv_x 9 h (hS _ _ sx_1) (by decide +kernel)) (xt_fail_ok (d := d) hS h e2 (fun w3 h4 => ?_))
  show wp _ 88 9 [(0, .ref 1)] [] w3 _
  refine wp_rt (i := .return_) (r := none) (ln := 1) (a := 0) (b := 0) (z := 0) (by decide +kernel) rfl (ret_v (by decide +kernel)) ?_
  cases hx
  exact kr _ h4
/-- Text.where ()I -/
noncomputable def xt_where (s : Hp) : Option Int :=
  some (s 1 2)
set_option maxRecDepth 100000 in
theorem xt_where_ok {d : Nat} {P : Option Value → pm_H → Prop} {w : pm_H} {sh : Shp} {w0 : pm_H} {s : Hp} (hS : St sh) (h : Rw sh w0 s w) {o : Int} (hx : xt_where s = some o) (kr : P (some (.int (Int32.ofInt o))) w) : wp d 89 0 (lv_args 0 [.ref 1]) [] w P := by
  show wp _ 89 0 [(0, .ref 1)] [] w _
  unfold xt_where at hx
  refine wp_g 1 (pc1 := 1) (lv1 := [(0, .ref 1)]) (st1 := [.ref 1]) (w1 := w) rfl ?_
  refine wx_gi (kf := 19) (ln := 3) (ci := 9) (b := 2) (zz := 0) (x := 1) (by decide +kernel) h (hS _ _ sx_1) rfl ?_
  show wp _ 89 4 [(0, .ref 1)] [.int (Int32.ofInt (s 1 2))] w _
  refine wp_rt (i := .ireturn) (r := some (.int (Int32.ofInt (s 1 2)))) (ln := 1) (a := 0) (b := 0) (z := 0) (by decide +kernel) rfl (ret_ok (by decide +kernel)) ?_
  cases hx
  exact kr
/-- Text.ended ()Z -/
noncomputable def xt_ended (s : Hp) : Option Int :=
  if w32 (s 1 2) < w32 (s 1 1) then some 0 else some 1
set_option maxRecDepth 100000 in
theorem xt_ended_ok {d : Nat} {P : Option Value → pm_H → Prop} {w : pm_H} {sh : Shp} {w0 : pm_H} {s : Hp} (hS : St sh) (h : Rw sh w0 s w) {o : Int} (hx : xt_ended s = some o) (kr : P (some (.int (Int32.ofInt o))) w) : wp d 90 0 (lv_args 0 [.ref 1]) [] w P := by
  show wp _ 90 0 [(0, .ref 1)] [] w _
  unfold xt_ended at hx
  refine wp_g 1 (pc1 := 1) (lv1 := [(0, .ref 1)]) (st1 := [.ref 1]) (w1 := w) rfl ?_
  refine wx_gi (kf := 19) (ln := 3) (ci := 9) (b := 2) (zz := 0) (x := 1) (by decide +kernel) h (hS _ _ sx_1) rfl ?_
  show wp _ 90 4 [(0, .ref 1)] [.int (Int32.ofInt (s 1 2))] w _
  refine wp_g 1 (pc1 := 5) (lv1 := [(0, .ref 1)]) (st1 := [.ref 1, .int (Int32.ofInt (s 1 2))]) (w1 := w) rfl ?_
  refine wx_gi (kf := 15) (ln := 3) (ci := 9) (b := 1) (zz := 0) (x := 1) (by decide +kernel) h (hS _ _ sx_1) rfl ?_
  show wp _ 90 8 [(0, .ref 1)] [.int (Int32.ofInt (s 1 1)), .int (Int32.ofInt (s 1 2))] w _
  refine wx_lt (oo := 7) (ln := 3) (a := 15) (b := 0) (zz := 0) (by decide +kernel) (fun h1 => ?_) (fun h1 => ?_)
  · have hx := ite_t h1 hx
    refine wp_g 1 (pc1 := 16) (lv1 := [(0, .ref 1)]) (st1 := [.int (Int32.ofInt 0)]) (w1 := w) rfl ?_
    refine wp_rt (i := .ireturn) (r := some (.int (Int32.ofInt 0))) (ln := 1) (a := 0) (b := 0) (z := 0) (by decide +kernel) rfl (ret_b (by decide +kernel) (Or.inl rfl)) ?_
    cases hx
    exact kr
  · have hx := ite_f h1 hx
    refine wp_g 2 (pc1 := 16) (lv1 := [(0, .ref 1)]) (st1 := [.int (Int32.ofInt 1)]) (w1 := w) rfl ?_
    refine wp_rt (i := .ireturn) (r := some (.int (Int32.ofInt 1))) (ln := 1) (a := 0) (b := 0) (z := 0) (by decide +kernel) rfl (ret_b (by decide +kernel) (Or.inr rfl)) ?_
    cases hx
    exact kr
/-- Text.isDigit (I)Z -/
noncomputable def xt_isDigit (p0 : Int) : Option Int :=
  if w32 p0 < w32 48 then some 0 else if w32 57 < w32 p0 then some 0 else some 1
set_option maxRecDepth 100000 in
theorem xt_isDigit_ok {d : Nat} {P : Option Value → pm_H → Prop} {w : pm_H} {p0 : Int} {o : Int} (hx : xt_isDigit p0 = some o) (kr : P (some (.int (Int32.ofInt o))) w) : wp d 99 0 (lv_args 0 [.int (Int32.ofInt p0)]) [] w P := by
  show wp _ 99 0 [(0, .int (Int32.ofInt p0))] [] w _
  unfold xt_isDigit at hx
  refine wp_g 2 (pc1 := 3) (lv1 := [(0, .int (Int32.ofInt p0))]) (st1 := [.int (Int32.ofInt 48), .int (Int32.ofInt p0)]) (w1 := w) rfl ?_
  refine wx_lt (oo := 13) (ln := 3) (a := 16) (b := 0) (zz := 0) (by decide +kernel) (fun h1 => ?_) (fun h1 => ?_)
  · have hx := ite_t h1 hx
    refine wp_g 1 (pc1 := 17) (lv1 := [(0, .int (Int32.ofInt p0))]) (st1 := [.int (Int32.ofInt 0)]) (w1 := w) rfl ?_
    refine wp_rt (i := .ireturn) (r := some (.int (Int32.ofInt 0))) (ln := 1) (a := 0) (b := 0) (z := 0) (by decide +kernel) rfl (ret_b (by decide +kernel) (Or.inl rfl)) ?_
    cases hx
    exact kr
  · have hx := ite_f h1 hx
    refine wp_g 2 (pc1 := 9) (lv1 := [(0, .int (Int32.ofInt p0))]) (st1 := [.int (Int32.ofInt 57), .int (Int32.ofInt p0)]) (w1 := w) rfl ?_
    refine wx_gt (oo := 7) (ln := 3) (a := 16) (b := 0) (zz := 0) (by decide +kernel) (fun h2 => ?_) (fun h2 => ?_)
    · have hx := ite_t h2 hx
      refine wp_g 1 (pc1 := 17) (lv1 := [(0, .int (Int32.ofInt p0))]) (st1 := [.int (Int32.ofInt 0)]) (w1 := w) rfl ?_
      refine wp_rt (i := .ireturn) (r := some (.int (Int32.ofInt 0))) (ln := 1) (a := 0) (b := 0) (z := 0) (by decide +kernel) rfl (ret_b (by decide +kernel) (Or.inl rfl)) ?_
      cases hx
      exact kr
    · have hx := ite_f h2 hx
      refine wp_g 2 (pc1 := 17) (lv1 := [(0, .int (Int32.ofInt p0))]) (st1 := [.int (Int32.ofInt 1)]) (w1 := w) rfl ?_
      refine wp_rt (i := .ireturn) (r := some (.int (Int32.ofInt 1))) (ln := 1) (a := 0) (b := 0) (z := 0) (by decide +kernel) rfl (ret_b (by decide +kernel) (Or.inr rfl)) ?_
      cases hx
      exact kr
/-- Text.atDigit ()Z -/
noncomputable def xt_atDigit (s : Hp) : Option Int :=
  if w32 (s 1 2) < w32 (s 1 1) then (ix 400 (s 1 2)).bind fun i2 => (xt_isDigit (s 2 i2)).bind fun o4 => if w32 o4 = 0 then some 0 else some 1 else some 0
set_option maxRecDepth 100000 in
theorem xt_atDigit_ok {d : Nat} {P : Option Value → pm_H → Prop} {w : pm_H} {sh : Shp} {w0 : pm_H} {s : Hp} (hS : St sh) (h : Rw sh w0 s w) {o : Int} (hx : xt_atDigit s = some o) (kr : P (some (.int (Int32.ofInt o))) w) : wp (d + 1) 91 0 (lv_args 0 [.ref 1]) [] w P := by
  show wp _ 91 0 [(0, .ref 1)] [] w _
  unfold xt_atDigit at hx
  refine wp_g 1 (pc1 := 1) (lv1 := [(0, .ref 1)]) (st1 := [.ref 1]) (w1 := w) rfl ?_
  refine wx_gi (kf := 19) (ln := 3) (ci := 9) (b := 2) (zz := 0) (x := 1) (by decide +kernel) h (hS _ _ sx_1) rfl ?_
  show wp _ 91 4 [(0, .ref 1)] [.int (Int32.ofInt (s 1 2))] w _
  refine wp_g 1 (pc1 := 5) (lv1 := [(0, .ref 1)]) (st1 := [.ref 1, .int (Int32.ofInt (s 1 2))]) (w1 := w) rfl ?_
  refine wx_gi (kf := 15) (ln := 3) (ci := 9) (b := 1) (zz := 0) (x := 1) (by decide +kernel) h (hS _ _ sx_1) rfl ?_
  show wp _ 91 8 [(0, .ref 1)] [.int (Int32.ofInt (s 1 1)), .int (Int32.ofInt (s 1 2))] w _
  refine wx_ge (oo := 22) (ln := 3) (a := 30) (b := 0) (zz := 0) (by decide +kernel) (fun h1 => ?_) (fun h1 => ?_)
  · have hx := ite_f h1 hx
    refine wp_g 1 (pc1 := 31) (lv1 := [(0, .ref 1)]) (st1 := [.int (Int32.ofInt 0)]) (w1 := w) rfl ?_
    refine wp_rt (i := .ireturn) (r := some (.int (Int32.ofInt 0))) (ln := 1) (a := 0) (b := 0) (z := 0) (by decide +kernel) rfl (ret_b (by decide +kernel) (Or.inl rfl)) ?_
    cases hx
    exact kr
  · have hx := ite_t h1 hx
    refine wp_g 1 (pc1 := 12) (lv1 := [(0, .ref 1)]) (st1 := [.ref 1]) (w1 := w) rfl ?_
    refine wx_gr (o := 1) (kf := 9) (ln := 3) (ci := 9) (b := 0) (zz := 0) (x := 1) (by decide +kernel) h (hS _ _ sx_1) rfl ?_
    show wp _ 91 15 [(0, .ref 1)] [.ref 2] w _
    refine wp_g 1 (pc1 := 16) (lv1 := [(0, .ref 1)]) (st1 := [.ref 1, .ref 2]) (w1 := w) rfl ?_
    refine wx_gi (kf := 19) (ln := 3) (ci := 9) (b := 2) (zz := 0) (x := 1) (by decide +kernel) h (hS _ _ sx_1) rfl ?_
    show wp _ 91 19 [(0, .ref 1)] [.int (Int32.ofInt (s 1 2)), .ref 2] w _
    obtain ⟨i2, e3, hx⟩ := bd hx
    refine wx_ra (x := 2) (n := 400) (ln := 1) (a := 0) (b := 0) (zz := 0) (by decide +kernel) h (hS _ _ sx_2) e3 ?_
    show wp _ 91 20 [(0, .ref 1)] [.int (Int32.ofInt (s 2 i2))] w _
    obtain ⟨o4, e5, hx⟩ := bd hx
    refine wp_cl [.int (Int32.ofInt (s 2 i2))] [] (i := .invokestatic 32) (ln := 3) (a := 99) (b := 1) (z := 0) (by decide +kernel) rfl rfl (by decide) rfl (show (1 : Nat) = pm_na 99 by decide +kernel) (Nat.le_of_ble_eq_true rfl) (show (1 : Nat) ≤ pm_n 99 by decide +kernel) (by rw [show pm_k 99 = 1 by decide +kernel]; rfl) (xt_isDigit_ok (d := d) e5 ?_)
    show wp _ 91 23 [(0, .ref 1)] [.int (Int32.ofInt o4)] w _
    refine wz_eq (oo := 7) (ln := 3) (a := 30) (b := 0) (zz := 0) (by decide +kernel) (fun h8 => ?_) (fun h8 => ?_)
    · have hx := ite_t h8 hx
      refine wp_g 1 (pc1 := 31) (lv1 := [(0, .ref 1)]) (st1 := [.int (Int32.ofInt 0)]) (w1 := w) rfl ?_
      refine wp_rt (i := .ireturn) (r := some (.int (Int32.ofInt 0))) (ln := 1) (a := 0) (b := 0) (z := 0) (by decide +kernel) rfl (ret_b (by decide +kernel) (Or.inl rfl)) ?_
      cases hx
      exact kr
    · have hx := ite_f h8 hx
      refine wp_g 2 (pc1 := 31) (lv1 := [(0, .ref 1)]) (st1 := [.int (Int32.ofInt 1)]) (w1 := w) rfl ?_
      refine wp_rt (i := .ireturn) (r := some (.int (Int32.ofInt 1))) (ln := 1) (a := 0) (b := 0) (z := 0) (by decide +kernel) rfl (ret_b (by decide +kernel) (Or.inr rfl)) ?_
      cases hx
      exact kr
/-- Text.takeSign (C)Z -/
noncomputable def xt_takeSign (s : Hp) (p1 : Int) : Option (Int × Hp) :=
  if w32 (s 1 2) < w32 (s 1 1) then (ix 400 (s 1 2)).bind fun i2 => if w32 (s 2 i2) = w32 p1 then (some (uh s 1 2 ((s 1 2) + 1))).bind fun s5 => (xt_passBlanks s5).bind fun o9 => some (1, o9) else some (0, s) else some (0, s)
set_option maxRecDepth 100000 in
theorem xt_takeSign_ok {d : Nat} {P : Option Value → pm_H → Prop} {w : pm_H} {sh : Shp} {w0 : pm_H} {s : Hp} (hS : St sh) {p1 : Int} (h : Rw sh w0 s w) {o : Int × Hp} (hx : xt_takeSign s p1 = some o) (kr : ∀ w1, Rw sh w0 o.2 w1 → P (some (.int (Int32.ofInt o.1))) w1) : wp (d + 1) 92 0 (lv_args 0 [.ref 1, .int (Int32.ofInt p1)]) [] w P := by
  show wp _ 92 0 [(0, .ref 1), (1, .int (Int32.ofInt p1))] [] w _
  unfold xt_takeSign at hx
  refine wp_g 1 (pc1 := 1) (lv1 := [(0, .ref 1), (1, .int (Int32.ofInt p1))]) (st1 := [.ref 1]) (w1 := w) rfl ?_
  refine wx_gi (kf := 19) (ln := 3) (ci := 9) (b := 2) (zz := 0) (x := 1) (by decide +kernel) h (hS _ _ sx_1) rfl ?_
  show wp _ 92 4 [(0, .ref 1), (1, .int (Int32.ofInt p1))] [.int (Int32.ofInt (s 1 2))] w _
  refine wp_g 1 (pc1 := 5) (lv1 := [(0, .ref 1), (1, .int (Int32.ofInt p1))]) (st1 := [.ref 1, .int (Int32.ofInt (s 1 2))]) (w1 := w) rfl ?_
  refine wx_gi (kf := 15) (ln := 3) (ci := 9) (b := 1) (zz := 0) (x := 1) (by decide +kernel) h (hS _ _ sx_1) rfl ?_
  show wp _ 92 8 [(0, .ref 1), (1, .int (Int32.ofInt p1))] [.int (Int32.ofInt (s 1 1)), .int (Int32.ofInt (s 1 2))] w _
  refine wx_ge (oo := 16) (ln := 3) (a := 24) (b := 0) (zz := 0) (by decide +kernel) (fun h1 => ?_) (fun h1 => ?_)
  · have hx := ite_f h1 hx
    refine wp_g 1 (pc1 := 25) (lv1 := [(0, .ref 1), (1, .int (Int32.ofInt p1))]) (st1 := [.int (Int32.ofInt 0)]) (w1 := w) rfl ?_
    refine wp_rt (i := .ireturn) (r := some (.int (Int32.ofInt 0))) (ln := 1) (a := 0) (b := 0) (z := 0) (by decide +kernel) rfl (ret_b (by decide +kernel) (Or.inl rfl)) ?_
    cases hx
    exact kr _ h
  · have hx := ite_t h1 hx
    refine wp_g 1 (pc1 := 12) (lv1 := [(0, .ref 1), (1, .int (Int32.ofInt p1))]) (st1 := [.ref 1]) (w1 := w) rfl ?_
    refine wx_gr (o := 1) (kf := 9) (ln := 3) (ci := 9) (b := 0) (zz := 0) (x := 1) (by decide +kernel) h (hS _ _ sx_1) rfl ?_
    show wp _ 92 15 [(0, .ref 1), (1, .int (Int32.ofInt p1))] [.ref 2] w _
    refine wp_g 1 (pc1 := 16) (lv1 := [(0, .ref 1), (1, .int (Int32.ofInt p1))]) (st1 := [.ref 1, .ref 2]) (w1 := w) rfl ?_
    refine wx_gi (kf := 19) (ln := 3) (ci := 9) (b := 2) (zz := 0) (x := 1) (by decide +kernel) h (hS _ _ sx_1) rfl ?_
    show wp _ 92 19 [(0, .ref 1), (1, .int (Int32.ofInt p1))] [.int (Int32.ofInt (s 1 2)), .ref 2] w _
    obtain ⟨i2, e3, hx⟩ := bd hx
    refine wx_ra (x := 2) (n := 400) (ln := 1) (a := 0) (b := 0) (zz := 0) (by decide +kernel) h (hS _ _ sx_2) e3 ?_
    show wp _ 92 20 [(0, .ref 1), (1, .int (Int32.ofInt p1))] [.int (Int32.ofInt (s 2 i2))] w _
    refine wp_g 1 (pc1 := 21) (lv1 := [(0, .ref 1), (1, .int (Int32.ofInt p1))]) (st1 := [.int (Int32.ofInt p1), .int (Int32.ofInt (s 2 i2))]) (w1 := w) rfl ?_
    refine wx_eq (oo := 5) (ln := 3) (a := 26) (b := 0) (zz := 0) (by decide +kernel) (fun h4 => ?_) (fun h4 => ?_)
    · have hx := ite_t h4 hx
      refine wp_g 2 (pc1 := 28) (lv1 := [(0, .ref 1), (1, .int (Int32.ofInt p1))]) (st1 := [.ref 1, .ref 1]) (w1 := w) rfl ?_
      refine wx_gi (kf := 19) (ln := 3) (ci := 9) (b := 2) (zz := 0) (x := 1) (by decide +kernel) h (hS _ _ sx_1) rfl ?_
      show wp _ 92 31 [(0, .ref 1), (1, .int (Int32.ofInt p1))] [.int (Int32.ofInt (s 1 2)), .ref 1] w _
      refine wp_g 2 (pc1 := 33) (lv1 := [(0, .ref 1), (1, .int (Int32.ofInt p1))]) (st1 := [.int (Int32.ofInt ((s 1 2) + 1)), .ref 1]) (w1 := w) (by simp only [Int32.ofInt_add, Int32.ofInt_sub, Int32.ofInt_mul, Int32.ofInt_neg, p_and, p_or, p_xor, p_shl, p_shr, p_usr, p_w8, p_c16, p_lI, q_and, q_or, q_shl, q_shr, q_w32, Int64.ofInt_add, Int64.ofInt_sub, Int64.ofInt_mul, p_mx, p_mn, q_mx, q_mn]; rfl) ?_
      obtain ⟨s5, e6, hx⟩ := bd hx
      refine wx_pi (kf := 19) (ln := 3) (ci := 9) (b := 2) (zz := 0) (x := 1) (by decide +kernel) h (hS _ _ sx_1) rfl (by decide +kernel) e6 (fun w7 h8 => ?_)
      refine wp_g 1 (pc1 := 37) (lv1 := [(0, .ref 1), (1, .int (Int32.ofInt p1))]) (st1 := [.ref 1]) (w1 := w7) rfl ?_
      obtain ⟨o9, e10, hx⟩ := bd hx
      refine wp_cl [.ref 1] [] (i := .invokevirtual 25) (ln := 3) (a := 100) (b := 0) (z := 0) (by decide +kernel) rfl rfl (by decide) rfl (show (1 : Nat) = pm_na 100 by decide +kernel) (Nat.le_of_ble_eq_true rfl) (show (1 : Nat) ≤ pm_n 100 by decide +kernel) (rcv_x 9 h8 (hS _ _ sx_1) (by decide +kernel)) (xt_passBlanks_ok (d := d) hS h8 e10 (fun w11 h12 => ?_))
      show wp _ 92 40 [(0, .ref 1), (1, .int (Int32.ofInt p1))] [] w11 _
      refine wp_g 1 (pc1 := 41) (lv1 := [(0, .ref 1), (1, .int (Int32.ofInt p1))]) (st1 := [.int (Int32.ofInt 1)]) (w1 := w11) rfl ?_
      refine wp_rt (i := .ireturn) (r := some (.int (Int32.ofInt 1))) (ln := 1) (a := 0) (b := 0) (z := 0) (by decide +kernel) rfl (ret_b (by decide +kernel) (Or.inr rfl)) ?_
      cases hx
      exact kr _ h12
    · have hx := ite_f h4 hx
      refine wp_g 1 (pc1 := 25) (lv1 := [(0, .ref 1), (1, .int (Int32.ofInt p1))]) (st1 := [.int (Int32.ofInt 0)]) (w1 := w) rfl ?_
      refine wp_rt (i := .ireturn) (r := some (.int (Int32.ofInt 0))) (ln := 1) (a := 0) (b := 0) (z := 0) (by decide +kernel) rfl (ret_b (by decide +kernel) (Or.inl rfl)) ?_
      cases hx
      exact kr _ h
/-- Text.needSign (C)V -/
noncomputable def xt_needSign (s : Hp) (p1 : Int) : Option Hp :=
  (xt_takeSign s p1).bind fun o1 => if w32 o1.1 = 0 then (xt_failHere o1.2).bind fun o6 => some o6 else some o1.2
set_option maxRecDepth 100000 in
theorem xt_needSign_ok {d : Nat} {P : Option Value → pm_H → Prop} {w : pm_H} {sh : Shp} {w0 : pm_H} {s : Hp} (hS : St sh) {p1 : Int} (h : Rw sh w0 s w) {o : Hp} (hx : xt_needSign s p1 = some o) (kr : ∀ w1, Rw sh w0 o w1 → P none w1) : wp (d + 2) 93 0 (lv_args 0 [.ref 1, .int (Int32.ofInt p1)]) [] w P := by
  show wp _ 93 0 [(0, .ref 1), (1, .int (Int32.ofInt p1))] [] w _
  unfold xt_needSign at hx
  refine wp_g 2 (pc1 := 2) (lv1 := [(0, .ref 1), (1, .int (Int32.ofInt p1))]) (st1 := [.int (Int32.ofInt p1), .ref 1]) (w1 := w) rfl ?_
  obtain ⟨o1, e2, hx⟩ := bd hx
  refine wp_cl [.ref 1, .int (Int32.ofInt p1)] [] (i := .invokevirtual 36) (ln := 3) (a := 92) (b := 0) (z := 0) (by decide +kernel) rfl rfl (by decide) rfl (show (2 : Nat) = pm_na 92 by decide +kernel) (Nat.le_of_ble_eq_true rfl) (show (2 : Nat) ≤ pm_n 92 by decide +kernel) (rcv_x 9 h (hS _ _ sx_1) (by decide +kernel)) (xt_takeSign_ok (d := d) hS h e2 (fun w3 h4 => ?_))
  show wp _ 93 5 [(0, .ref 1), (1, .int (Int32.ofInt p1))] [.int (Int32.ofInt o1.1)] w3 _
  refine wz_ne (oo := 7) (ln := 3) (a := 12) (b := 0) (zz := 0) (by decide +kernel) (fun h5 => ?_) (fun h5 => ?_)
  · have hx := ite_f h5 hx
    refine wp_rt (i := .return_) (r := none) (ln := 1) (a := 0) (b := 0) (z := 0) (by decide +kernel) rfl (ret_v (by decide +kernel)) ?_
    cases hx
    exact kr _ h4
  · have hx := ite_t h5 hx
    refine wp_g 1 (pc1 := 9) (lv1 := [(0, .ref 1), (1, .int (Int32.ofInt p1))]) (st1 := [.ref 1]) (w1 := w3) rfl ?_
    obtain ⟨o6, e7, hx⟩ := bd hx
    refine wp_cl [.ref 1] [] (i := .invokevirtual 40) (ln := 3) (a := 88) (b := 0) (z := 0) (by decide +kernel) rfl rfl (by decide) rfl (show (1 : Nat) = pm_na 88 by decide +kernel) (Nat.le_of_ble_eq_true rfl) (show (1 : Nat) ≤ pm_n 88 by decide +kernel) (rcv_x 9 h4 (hS _ _ sx_1) (by decide +kernel)) (xt_failHere_ok (d := d) hS h4 e7 (fun w8 h9 => ?_))
    show wp _ 93 12 [(0, .ref 1), (1, .int (Int32.ofInt p1))] [] w8 _
    refine wp_rt (i := .return_) (r := none) (ln := 1) (a := 0) (b := 0) (z := 0) (by decide +kernel) rfl (ret_v (by decide +kernel)) ?_
    cases hx
    exact kr _ h9
noncomputable def xt_takeComparison_j104 (s : Hp) (x1 : Int) (x2 : Int) : Option (Int × Hp) :=
  (xt_passBlanks s).bind fun o1 => if w32 x1 = w32 61 then some (12, o1) else if w32 x1 = w32 60 then if w32 x2 = 0 then some (10, o1) else some (11, o1) else if w32 x2 = 0 then some (14, o1) else some (13, o1)
set_option maxRecDepth 100000 in
theorem xt_takeComparison_j104_ok {d : Nat} {P : Option Value → pm_H → Prop} {w : pm_H} {sh : Shp} {w0 : pm_H} {s : Hp} (hS : St sh) {x1 : Int} {x2 : Int} (h : Rw sh w0 s w) {o : (Int × Hp)} (hx : xt_takeComparison_j104 s x1 x2 = some o) (kr : ∀ w1, Rw sh w0 o.2 w1 → P (some (.int (Int32.ofInt o.1))) w1) : wp (d + 1) 94 104 [(0, .ref 1), (1, .int (Int32.ofInt x1)), (2, .int (Int32.ofInt x2))] [] w P := by
  unfold xt_takeComparison_j104 at hx
  refine wp_g 1 (pc1 := 105) (lv1 := [(0, .ref 1), (1, .int (Int32.ofInt x1)), (2, .int (Int32.ofInt x2))]) (st1 := [.ref 1]) (w1 := w) rfl ?_
  obtain ⟨o1, e2, hx⟩ := bd hx
  refine wp_cl [.ref 1] [] (i := .invokevirtual 25) (ln := 3) (a := 100) (b := 0) (z := 0) (by decide +kernel) rfl rfl (by decide) rfl (show (1 : Nat) = pm_na 100 by decide +kernel) (Nat.le_of_ble_eq_true rfl) (show (1 : Nat) ≤ pm_n 100 by decide +kernel) (rcv_x 9 h (hS _ _ sx_1) (by decide +kernel)) (xt_passBlanks_ok (d := d) hS h e2 (fun w3 h4 => ?_))
  show wp _ 94 108 [(0, .ref 1), (1, .int (Int32.ofInt x1)), (2, .int (Int32.ofInt x2))] [] w3 _
  refine wp_g 2 (pc1 := 111) (lv1 := [(0, .ref 1), (1, .int (Int32.ofInt x1)), (2, .int (Int32.ofInt x2))]) (st1 := [.int (Int32.ofInt 61), .int (Int32.ofInt x1)]) (w1 := w3) rfl ?_
  refine wx_ne (oo := 6) (ln := 3) (a := 117) (b := 0) (zz := 0) (by decide +kernel) (fun h5 => ?_) (fun h5 => ?_)
  · have hx := ite_f h5 hx
    refine wp_g 2 (pc1 := 120) (lv1 := [(0, .ref 1), (1, .int (Int32.ofInt x1)), (2, .int (Int32.ofInt x2))]) (st1 := [.int (Int32.ofInt 60), .int (Int32.ofInt x1)]) (w1 := w3) rfl ?_
    refine wx_ne (oo := 15) (ln := 3) (a := 135) (b := 0) (zz := 0) (by decide +kernel) (fun h6 => ?_) (fun h6 => ?_)
    · have hx := ite_f h6 hx
      refine wp_g 1 (pc1 := 136) (lv1 := [(0, .ref 1), (1, .int (Int32.ofInt x1)), (2, .int (Int32.ofInt x2))]) (st1 := [.int (Int32.ofInt x2)]) (w1 := w3) rfl ?_
      refine wz_eq (oo := 8) (ln := 3) (a := 144) (b := 0) (zz := 0) (by decide +kernel) (fun h7 => ?_) (fun h7 => ?_)
      · have hx := ite_t h7 hx
        refine wp_g 1 (pc1 := 146) (lv1 := [(0, .ref 1), (1, .int (Int32.ofInt x1)), (2, .int (Int32.ofInt x2))]) (st1 := [.int (Int32.ofInt 14)]) (w1 := w3) rfl ?_
        refine wp_rt (i := .ireturn) (r := some (.int (Int32.ofInt 14))) (ln := 1) (a := 0) (b := 0) (z := 0) (by decide +kernel) rfl (ret_ok (by decide +kernel)) ?_
        cases hx
        exact kr _ h4
      · have hx := ite_f h7 hx
        refine wp_g 2 (pc1 := 146) (lv1 := [(0, .ref 1), (1, .int (Int32.ofInt x1)), (2, .int (Int32.ofInt x2))]) (st1 := [.int (Int32.ofInt 13)]) (w1 := w3) rfl ?_
        refine wp_rt (i := .ireturn) (r := some (.int (Int32.ofInt 13))) (ln := 1) (a := 0) (b := 0) (z := 0) (by decide +kernel) rfl (ret_ok (by decide +kernel)) ?_
        cases hx
        exact kr _ h4
    · have hx := ite_t h6 hx
      refine wp_g 1 (pc1 := 124) (lv1 := [(0, .ref 1), (1, .int (Int32.ofInt x1)), (2, .int (Int32.ofInt x2))]) (st1 := [.int (Int32.ofInt x2)]) (w1 := w3) rfl ?_
      refine wz_eq (oo := 8) (ln := 3) (a := 132) (b := 0) (zz := 0) (by decide +kernel) (fun h8 => ?_) (fun h8 => ?_)
      · have hx := ite_t h8 hx
        refine wp_g 1 (pc1 := 134) (lv1 := [(0, .ref 1), (1, .int (Int32.ofInt x1)), (2, .int (Int32.ofInt x2))]) (st1 := [.int (Int32.ofInt 10)]) (w1 := w3) rfl ?_
        refine wp_rt (i := .ireturn) (r := some (.int (Int32.ofInt 10))) (ln := 1) (a := 0) (b := 0) (z := 0) (by decide +kernel) rfl (ret_ok (by decide +kernel)) ?_
        cases hx
        exact kr _ h4
      · have hx := ite_f h8 hx
        refine wp_g 2 (pc1 := 134) (lv1 := [(0, .ref 1), (1, .int (Int32.ofInt x1)), (2, .int (Int32.ofInt x2))]) (st1 := [.int (Int32.ofInt 11)]) (w1 := w3) rfl ?_
        refine wp_rt (i := .ireturn) (r := some (.int (Int32.ofInt 11))) (ln := 1) (a := 0) (b := 0) (z := 0) (by decide +kernel) rfl (ret_ok (by decide +kernel)) ?_
        cases hx
        exact kr _ h4
  · have hx := ite_t h5 hx
    refine wp_g 1 (pc1 := 116) (lv1 := [(0, .ref 1), (1, .int (Int32.ofInt x1)), (2, .int (Int32.ofInt x2))]) (st1 := [.int (Int32.ofInt 12)]) (w1 := w3) rfl ?_
    refine wp_rt (i := .ireturn) (r := some (.int (Int32.ofInt 12))) (ln := 1) (a := 0) (b := 0) (z := 0) (by decide +kernel) rfl (ret_ok (by decide +kernel)) ?_
    cases hx
    exact kr _ h4
noncomputable def xt_takeComparison_j89 (s : Hp) (x1 : Int) (k0 : Int) : Option (Int × Hp) :=
  if w32 k0 = 0 then xt_takeComparison_j104 s x1 k0 else (some (uh s 1 2 ((s 1 2) + 1))).bind fun s2 => xt_takeComparison_j104 s2 x1 k0
set_option maxRecDepth 100000 in
theorem xt_takeComparison_j89_ok {d : Nat} {P : Option Value → pm_H → Prop} {w : pm_H} {sh : Shp} {w0 : pm_H} {s : Hp} (hS : St sh) {x1 : Int} {k0 : Int} (h : Rw sh w0 s w) {o : (Int × Hp)} (hx : xt_takeComparison_j89 s x1 k0 = some o) (kr : ∀ w1, Rw sh w0 o.2 w1 → P (some (.int (Int32.ofInt o.1))) w1) : wp (d + 1) 94 89 [(0, .ref 1), (1, .int (Int32.ofInt x1))] [.int (Int32.ofInt k0)] w P := by
  unfold xt_takeComparison_j89 at hx
  refine wp_g 2 (pc1 := 91) (lv1 := [(2, .int (Int32.ofInt k0)), (0, .ref 1), (1, .int (Int32.ofInt x1))]) (st1 := [.int (Int32.ofInt k0)]) (w1 := w) rfl ?_
  refine wz_eq (oo := 13) (ln := 3) (a := 104) (b := 0) (zz := 0) (by decide +kernel) (fun h1 => ?_) (fun h1 => ?_)
  · have hx := ite_t h1 hx
    refine wp_lv (lv1 := [(0, .ref 1), (1, .int (Int32.ofInt x1)), (2, .int (Int32.ofInt k0))]) (lsub_p [1, 2, 0] rfl rfl rfl) ?_
    exact xt_takeComparison_j104_ok hS h hx kr
  · have hx := ite_f h1 hx
    refine wp_g 2 (pc1 := 96) (lv1 := [(2, .int (Int32.ofInt k0)), (0, .ref 1), (1, .int (Int32.ofInt x1))]) (st1 := [.ref 1, .ref 1]) (w1 := w) rfl ?_
    refine wx_gi (kf := 19) (ln := 3) (ci := 9) (b := 2) (zz := 0) (x := 1) (by decide +kernel) h (hS _ _ sx_1) rfl ?_
    show wp _ 94 99 [(2, .int (Int32.ofInt k0)), (0, .ref 1), (1, .int (Int32.ofInt x1))] [.int (Int32.ofInt (s 1 2)), .ref 1] w _
    refine wp_g 2 (pc1 := 101) (lv1 := [(2, .int (Int32.ofInt k0)), (0, .ref 1), (1, .int (Int32.ofInt x1))]) (st1 := [.int (Int32.ofInt ((s 1 2) + 1)), .ref 1]) (w1 := w) (by simp only [Int32.ofInt_add, Int32.ofInt_sub, Int32.ofInt_mul, Int32.ofInt_neg, p_and, p_or, p_xor, p_shl, p_shr, p_usr, p_w8, p_c16, p_lI, q_and, q_or, q_shl, q_shr, q_w32, Int64.ofInt_add, Int64.ofInt_sub, Int64.ofInt_mul, p_mx, p_mn, q_mx, q_mn]; rfl) ?_
    obtain ⟨s2, e3, hx⟩ := bd hx
    refine wx_pi (kf := 19) (ln := 3) (ci := 9) (b := 2) (zz := 0) (x := 1) (by decide +kernel) h (hS _ _ sx_1) rfl (by decide +kernel) e3 (fun w4 h5 => ?_)
    refine wp_lv (lv1 := [(0, .ref 1), (1, .int (Int32.ofInt x1)), (2, .int (Int32.ofInt k0))]) (lsub_p [1, 2, 0] rfl rfl rfl) ?_
    exact xt_takeComparison_j104_ok hS h5 hx kr
noncomputable def xt_takeComparison_j43 (s : Hp) (x1 : Int) : Option (Int × Hp) :=
  (some (uh s 1 2 ((s 1 2) + 1))).bind fun s1 => if w32 x1 = w32 61 then xt_takeComparison_j89 s1 x1 0 else if w32 (s1 1 2) < w32 (s1 1 1) then (ix 400 (s1 1 2)).bind fun i7 => if w32 (s1 2 i7) = w32 61 then xt_takeComparison_j89 s1 x1 1 else xt_takeComparison_j89 s1 x1 0 else xt_takeComparison_j89 s1 x1 0
set_option maxRecDepth 100000 in
theorem xt_takeComparison_j43_ok {d : Nat} {P : Option Value → pm_H → Prop} {w : pm_H} {sh : Shp} {w0 : pm_H} {s : Hp} (hS : St sh) {x1 : Int} (h : Rw sh w0 s w) {o : (Int × Hp)} (hx : xt_takeComparison_j43 s x1 = some o) (kr : ∀ w1, Rw sh w0 o.2 w1 → P (some (.int (Int32.ofInt o.1))) w1) : wp (d + 1) 94 43 [(0, .ref 1), (1, .int (Int32.ofInt x1))] [] w P := by
  unfold xt_takeComparison_j43 at hx
  refine wp_g 2 (pc1 := 45) (lv1 := [(0, .ref 1), (1, .int (Int32.ofInt x1))]) (st1 := [.ref 1, .ref 1]) (w1 := w) rfl ?_
  refine wx_gi (kf := 19) (ln := 3) (ci := 9) (b := 2) (zz := 0) (x := 1) (by decide +kernel) h (hS _ _ sx_1) rfl ?_
  show wp _ 94 48 [(0, .ref 1), (1, .int (Int32.ofInt x1))] [.int (Int32.ofInt (s 1 2)), .ref 1] w _
  refine wp_g 2 (pc1 := 50) (lv1 := [(0, .ref 1), (1, .int (Int32.ofInt x1))]) (st1 := [.int (Int32.ofInt ((s 1 2) + 1)), .ref 1]) (w1 := w) (by simp only [Int32.ofInt_add, Int32.ofInt_sub, Int32.ofInt_mul, Int32.ofInt_neg, p_and, p_or, p_xor, p_shl, p_shr, p_usr, p_w8, p_c16, p_lI, q_and, q_or, q_shl, q_shr, q_w32, Int64.ofInt_add, Int64.ofInt_sub, Int64.ofInt_mul, p_mx, p_mn, q_mx, q_mn]; rfl) ?_
  obtain ⟨s1, e2, hx⟩ := bd hx
  refine wx_pi (kf := 19) (ln := 3) (ci := 9) (b := 2) (zz := 0) (x := 1) (by decide +kernel) h (hS _ _ sx_1) rfl (by decide +kernel) e2 (fun w3 h4 => ?_)
  refine wp_g 2 (pc1 := 56) (lv1 := [(0, .ref 1), (1, .int (Int32.ofInt x1))]) (st1 := [.int (Int32.ofInt 61), .int (Int32.ofInt x1)]) (w1 := w3) rfl ?_
  refine wx_eq (oo := 32) (ln := 3) (a := 88) (b := 0) (zz := 0) (by decide +kernel) (fun h5 => ?_) (fun h5 => ?_)
  · have hx := ite_t h5 hx
    refine wp_g 1 (pc1 := 89) (lv1 := [(0, .ref 1), (1, .int (Int32.ofInt x1))]) (st1 := [.int (Int32.ofInt 0)]) (w1 := w3) rfl ?_
    exact xt_takeComparison_j89_ok hS h4 hx kr
  · have hx := ite_f h5 hx
    refine wp_g 1 (pc1 := 60) (lv1 := [(0, .ref 1), (1, .int (Int32.ofInt x1))]) (st1 := [.ref 1]) (w1 := w3) rfl ?_
    refine wx_gi (kf := 19) (ln := 3) (ci := 9) (b := 2) (zz := 0) (x := 1) (by decide +kernel) h4 (hS _ _ sx_1) rfl ?_
    show wp _ 94 63 [(0, .ref 1), (1, .int (Int32.ofInt x1))] [.int (Int32.ofInt (s1 1 2))] w3 _
    refine wp_g 1 (pc1 := 64) (lv1 := [(0, .ref 1), (1, .int (Int32.ofInt x1))]) (st1 := [.ref 1, .int (Int32.ofInt (s1 1 2))]) (w1 := w3) rfl ?_
    refine wx_gi (kf := 15) (ln := 3) (ci := 9) (b := 1) (zz := 0) (x := 1) (by decide +kernel) h4 (hS _ _ sx_1) rfl ?_
    show wp _ 94 67 [(0, .ref 1), (1, .int (Int32.ofInt x1))] [.int (Int32.ofInt (s1 1 1)), .int (Int32.ofInt (s1 1 2))] w3 _
    refine wx_ge (oo := 21) (ln := 3) (a := 88) (b := 0) (zz := 0) (by decide +kernel) (fun h6 => ?_) (fun h6 => ?_)
    · have hx := ite_f h6 hx
      refine wp_g 1 (pc1 := 89) (lv1 := [(0, .ref 1), (1, .int (Int32.ofInt x1))]) (st1 := [.int (Int32.ofInt 0)]) (w1 := w3) rfl ?_
      exact xt_takeComparison_j89_ok hS h4 hx kr
    · have hx := ite_t h6 hx
      refine wp_g 1 (pc1 := 71) (lv1 := [(0, .ref 1), (1, .int (Int32.ofInt x1))]) (st1 := [.ref 1]) (w1 := w3) rfl ?_
      refine wx_gr (o := 1) (kf := 9) (ln := 3) (ci := 9) (b := 0) (zz := 0) (x := 1) (by decide +kernel) h4 (hS _ _ sx_1) rfl ?_
      show wp _ 94 74 [(0, .ref 1), (1, .int (Int32.ofInt x1))] [.ref 2] w3 _
      refine wp_g 1 (pc1 := 75) (lv1 := [(0, .ref 1), (1, .int (Int32.ofInt x1))]) (st1 := [.ref 1, .ref 2]) (w1 := w3) rfl ?_
      refine wx_gi (kf := 19) (ln := 3) (ci := 9) (b := 2) (zz := 0) (x := 1) (by decide +kernel) h4 (hS _ _ sx_1) rfl ?_
      show wp _ 94 78 [(0, .ref 1), (1, .int (Int32.ofInt x1))] [.int (Int32.ofInt (s1 1 2)), .ref 2] w3 _
      obtain ⟨i7, e8, hx⟩ := bd hx
      refine wx_ra (x := 2) (n := 400) (ln := 1) (a := 0) (b := 0) (zz := 0) (by decide +kernel) h4 (hS _ _ sx_2) e8 ?_
      show wp _ 94 79 [(0, .ref 1), (1, .int (Int32.ofInt x1))] [.int (Int32.ofInt (s1 2 i7))] w3 _
      refine wp_g 1 (pc1 := 81) (lv1 := [(0, .ref 1), (1, .int (Int32.ofInt x1))]) (st1 := [.int (Int32.ofInt 61), .int (Int32.ofInt (s1 2 i7))]) (w1 := w3) rfl ?_
      refine wx_ne (oo := 7) (ln := 3) (a := 88) (b := 0) (zz := 0) (by decide +kernel) (fun h9 => ?_) (fun h9 => ?_)
      · have hx := ite_f h9 hx
        refine wp_g 1 (pc1 := 89) (lv1 := [(0, .ref 1), (1, .int (Int32.ofInt x1))]) (st1 := [.int (Int32.ofInt 0)]) (w1 := w3) rfl ?_
        exact xt_takeComparison_j89_ok hS h4 hx kr
      · have hx := ite_t h9 hx
        refine wp_g 2 (pc1 := 89) (lv1 := [(0, .ref 1), (1, .int (Int32.ofInt x1))]) (st1 := [.int (Int32.ofInt 1)]) (w1 := w3) rfl ?_
        exact xt_takeComparison_j89_ok hS h4 hx kr
/-- Text.takeComparison ()I -/
noncomputable def xt_takeComparison (s : Hp) : Option (Int × Hp) :=
  if w32 (s 1 2) < w32 (s 1 1) then (ix 400 (s 1 2)).bind fun i2 => if w32 (s 2 i2) = w32 60 then xt_takeComparison_j43 s (s 2 i2) else if w32 (s 2 i2) = w32 61 then xt_takeComparison_j43 s (s 2 i2) else if w32 (s 2 i2) = w32 62 then xt_takeComparison_j43 s (s 2 i2) else some ((-1), s) else some ((-1), s)
set_option maxRecDepth 100000 in
theorem xt_takeComparison_ok {d : Nat} {P : Option Value → pm_H → Prop} {w : pm_H} {sh : Shp} {w0 : pm_H} {s : Hp} (hS : St sh) (h : Rw sh w0 s w) {o : Int × Hp} (hx : xt_takeComparison s = some o) (kr : ∀ w1, Rw sh w0 o.2 w1 → P (some (.int (Int32.ofInt o.1))) w1) : wp (d + 1) 94 0 (lv_args 0 [.ref 1]) [] w P := by
  show wp _ 94 0 [(0, .ref 1)] [] w _
  unfold xt_takeComparison at hx
  refine wp_g 1 (pc1 := 1) (lv1 := [(0, .ref 1)]) (st1 := [.ref 1]) (w1 := w) rfl ?_
  refine wx_gi (kf := 19) (ln := 3) (ci := 9) (b := 2) (zz := 0) (x := 1) (by decide +kernel) h (hS _ _ sx_1) rfl ?_
  show wp _ 94 4 [(0, .ref 1)] [.int (Int32.ofInt (s 1 2))] w _
  refine wp_g 1 (pc1 := 5) (lv1 := [(0, .ref 1)]) (st1 := [.ref 1, .int (Int32.ofInt (s 1 2))]) (w1 := w) rfl ?_
  refine wx_gi (kf := 15) (ln := 3) (ci := 9) (b := 1) (zz := 0) (x := 1) (by decide +kernel) h (hS _ _ sx_1) rfl ?_
  show wp _ 94 8 [(0, .ref 1)] [.int (Int32.ofInt (s 1 1)), .int (Int32.ofInt (s 1 2))] w _
  refine wx_lt (oo := 5) (ln := 3) (a := 13) (b := 0) (zz := 0) (by decide +kernel) (fun h1 => ?_) (fun h1 => ?_)
  · have hx := ite_t h1 hx
    refine wp_g 1 (pc1 := 14) (lv1 := [(0, .ref 1)]) (st1 := [.ref 1]) (w1 := w) rfl ?_
    refine wx_gr (o := 1) (kf := 9) (ln := 3) (ci := 9) (b := 0) (zz := 0) (x := 1) (by decide +kernel) h (hS _ _ sx_1) rfl ?_
    show wp _ 94 17 [(0, .ref 1)] [.ref 2] w _
    refine wp_g 1 (pc1 := 18) (lv1 := [(0, .ref 1)]) (st1 := [.ref 1, .ref 2]) (w1 := w) rfl ?_
    refine wx_gi (kf := 19) (ln := 3) (ci := 9) (b := 2) (zz := 0) (x := 1) (by decide +kernel) h (hS _ _ sx_1) rfl ?_
    show wp _ 94 21 [(0, .ref 1)] [.int (Int32.ofInt (s 1 2)), .ref 2] w _
    obtain ⟨i2, e3, hx⟩ := bd hx
    refine wx_ra (x := 2) (n := 400) (ln := 1) (a := 0) (b := 0) (zz := 0) (by decide +kernel) h (hS _ _ sx_2) e3 ?_
    show wp _ 94 22 [(0, .ref 1)] [.int (Int32.ofInt (s 2 i2))] w _
    refine wp_g 3 (pc1 := 26) (lv1 := [(1, .int (Int32.ofInt (s 2 i2))), (0, .ref 1)]) (st1 := [.int (Int32.ofInt 60), .int (Int32.ofInt (s 2 i2))]) (w1 := w) rfl ?_
    refine wx_eq (oo := 17) (ln := 3) (a := 43) (b := 0) (zz := 0) (by decide +kernel) (fun h4 => ?_) (fun h4 => ?_)
    · have hx := ite_t h4 hx
      refine wp_lv (lv1 := [(0, .ref 1), (1, .int (Int32.ofInt (s 2 i2)))]) (lsub_p [1, 0] rfl rfl rfl) ?_
      exact xt_takeComparison_j43_ok hS h hx kr
    · have hx := ite_f h4 hx
      refine wp_g 2 (pc1 := 32) (lv1 := [(1, .int (Int32.ofInt (s 2 i2))), (0, .ref 1)]) (st1 := [.int (Int32.ofInt 61), .int (Int32.ofInt (s 2 i2))]) (w1 := w) rfl ?_
      refine wx_eq (oo := 11) (ln := 3) (a := 43) (b := 0) (zz := 0) (by decide +kernel) (fun h5 => ?_) (fun h5 => ?_)
      · have hx := ite_t h5 hx
        refine wp_lv (lv1 := [(0, .ref 1), (1, .int (Int32.ofInt (s 2 i2)))]) (lsub_p [1, 0] rfl rfl rfl) ?_
        exact xt_takeComparison_j43_ok hS h hx kr
      · have hx := ite_f h5 hx
        refine wp_g 2 (pc1 := 38) (lv1 := [(1, .int (Int32.ofInt (s 2 i2))), (0, .ref 1)]) (st1 := [.int (Int32.ofInt 62), .int (Int32.ofInt (s 2 i2))]) (w1 := w) rfl ?_
        refine wx_eq (oo := 5) (ln := 3) (a := 43) (b := 0) (zz := 0) (by decide +kernel) (fun h6 => ?_) (fun h6 => ?_)
        · have hx := ite_t h6 hx
          refine wp_lv (lv1 := [(0, .ref 1), (1, .int (Int32.ofInt (s 2 i2)))]) (lsub_p [1, 0] rfl rfl rfl) ?_
          exact xt_takeComparison_j43_ok hS h hx kr
        · have hx := ite_f h6 hx
          refine wp_g 1 (pc1 := 42) (lv1 := [(1, .int (Int32.ofInt (s 2 i2))), (0, .ref 1)]) (st1 := [.int (Int32.ofInt (-1))]) (w1 := w) rfl ?_
          refine wp_rt (i := .ireturn) (r := some (.int (Int32.ofInt (-1)))) (ln := 1) (a := 0) (b := 0) (z := 0) (by decide +kernel) rfl (ret_ok (by decide +kernel)) ?_
          cases hx
          exact kr _ h
  · have hx := ite_f h1 hx
    refine wp_g 1 (pc1 := 12) (lv1 := [(0, .ref 1)]) (st1 := [.int (Int32.ofInt (-1))]) (w1 := w) rfl ?_
    refine wp_rt (i := .ireturn) (r := some (.int (Int32.ofInt (-1)))) (ln := 1) (a := 0) (b := 0) (z := 0) (by decide +kernel) rfl (ret_ok (by decide +kernel)) ?_
    cases hx
    exact kr _ h
noncomputable def xt_takeNumber_b8 (s : Hp) (x1 : Int) (x2 : Int) (x3 : Int) (x4 : Int) : Option ((Int × Hp) ⊕ (Int × Hp)) :=
  if w32 (s 1 2) < w32 (s 1 1) then (ix 400 (s 1 2)).bind fun i2 => (xt_isDigit (s 2 i2)).bind fun o4 => if w32 o4 = 0 then some (.inr (x4, s)) else if w32 ((s 1 2) - x3) < w32 5 then (some (uh s 1 2 ((s 1 2) + 1))).bind fun s14 => some (.inl (((10 * x4) + (s 2 i2)) - 48, s14)) else (some (uh s 1 2 ((s 1 2) + 1))).bind fun s10 => some (.inl (x4, s10)) else some (.inr (x4, s))
set_option maxRecDepth 100000 in
theorem xt_takeNumber_b8_ok {d : Nat} {P : Option Value → pm_H → Prop} {w : pm_H} {sh : Shp} {w0 : pm_H} {s : Hp} (hS : St sh) {x1 : Int} {x2 : Int} {x3 : Int} {x4 : Int} (h : Rw sh w0 s w) {o : ((Int × Hp) ⊕ (Int × Hp))} (hx : xt_takeNumber_b8 s x1 x2 x3 x4 = some o) (kn : ∀ (q : Int × Hp) w1, o = .inl q → Rw sh w0 q.2 w1 → wp (d + 1) 95 8 [(0, .ref 1), (1, .int (Int32.ofInt x1)), (2, .int (Int32.ofInt x2)), (3, .int (Int32.ofInt x3)), (4, .int (Int32.ofInt q.1))] [] w1 P) (kc : ∀ (r : (Int × Hp)), o = .inr r → (∀ w1, Rw sh w0 r.2 w1 → wp (d + 1) 95 77 [(0, .ref 1), (1, .int (Int32.ofInt x1)), (2, .int (Int32.ofInt x2)), (3, .int (Int32.ofInt x3)), (4, .int (Int32.ofInt r.1))] [] w1 P)) : wp (d + 1) 95 8 [(0, .ref 1), (1, .int (Int32.ofInt x1)), (2, .int (Int32.ofInt x2)), (3, .int (Int32.ofInt x3)), (4, .int (Int32.ofInt x4))] [] w P := by
  unfold xt_takeNumber_b8 at hx
  refine wp_g 1 (pc1 := 9) (lv1 := [(0, .ref 1), (1, .int (Int32.ofInt x1)), (2, .int (Int32.ofInt x2)), (3, .int (Int32.ofInt x3)), (4, .int (Int32.ofInt x4))]) (st1 := [.ref 1]) (w1 := w) rfl ?_
  refine wx_gi (kf := 19) (ln := 3) (ci := 9) (b := 2) (zz := 0) (x := 1) (by decide +kernel) h (hS _ _ sx_1) rfl ?_
  show wp _ 95 12 [(0, .ref 1), (1, .int (Int32.ofInt x1)), (2, .int (Int32.ofInt x2)), (3, .int (Int32.ofInt x3)), (4, .int (Int32.ofInt x4))] [.int (Int32.ofInt (s 1 2))] w _
  refine wp_g 1 (pc1 := 13) (lv1 := [(0, .ref 1), (1, .int (Int32.ofInt x1)), (2, .int (Int32.ofInt x2)), (3, .int (Int32.ofInt x3)), (4, .int (Int32.ofInt x4))]) (st1 := [.ref 1, .int (Int32.ofInt (s 1 2))]) (w1 := w) rfl ?_
  refine wx_gi (kf := 15) (ln := 3) (ci := 9) (b := 1) (zz := 0) (x := 1) (by decide +kernel) h (hS _ _ sx_1) rfl ?_
  show wp _ 95 16 [(0, .ref 1), (1, .int (Int32.ofInt x1)), (2, .int (Int32.ofInt x2)), (3, .int (Int32.ofInt x3)), (4, .int (Int32.ofInt x4))] [.int (Int32.ofInt (s 1 1)), .int (Int32.ofInt (s 1 2))] w _
  refine wx_ge (oo := 61) (ln := 3) (a := 77) (b := 0) (zz := 0) (by decide +kernel) (fun h1 => ?_) (fun h1 => ?_)
  · have hx := ite_f h1 hx
    cases hx
    exact kc _ rfl _ h
  · have hx := ite_t h1 hx
    refine wp_g 1 (pc1 := 20) (lv1 := [(0, .ref 1), (1, .int (Int32.ofInt x1)), (2, .int (Int32.ofInt x2)), (3, .int (Int32.ofInt x3)), (4, .int (Int32.ofInt x4))]) (st1 := [.ref 1]) (w1 := w) rfl ?_
    refine wx_gr (o := 1) (kf := 9) (ln := 3) (ci := 9) (b := 0) (zz := 0) (x := 1) (by decide +kernel) h (hS _ _ sx_1) rfl ?_
    show wp _ 95 23 [(0, .ref 1), (1, .int (Int32.ofInt x1)), (2, .int (Int32.ofInt x2)), (3, .int (Int32.ofInt x3)), (4, .int (Int32.ofInt x4))] [.ref 2] w _
    refine wp_g 1 (pc1 := 24) (lv1 := [(0, .ref 1), (1, .int (Int32.ofInt x1)), (2, .int (Int32.ofInt x2)), (3, .int (Int32.ofInt x3)), (4, .int (Int32.ofInt x4))]) (st1 := [.ref 1, .ref 2]) (w1 := w) rfl ?_
    refine wx_gi (kf := 19) (ln := 3) (ci := 9) (b := 2) (zz := 0) (x := 1) (by decide +kernel) h (hS _ _ sx_1) rfl ?_
    show wp _ 95 27 [(0, .ref 1), (1, .int (Int32.ofInt x1)), (2, .int (Int32.ofInt x2)), (3, .int (Int32.ofInt x3)), (4, .int (Int32.ofInt x4))] [.int (Int32.ofInt (s 1 2)), .ref 2] w _
    obtain ⟨i2, e3, hx⟩ := bd hx
    refine wx_ra (x := 2) (n := 400) (ln := 1) (a := 0) (b := 0) (zz := 0) (by decide +kernel) h (hS _ _ sx_2) e3 ?_
    show wp _ 95 28 [(0, .ref 1), (1, .int (Int32.ofInt x1)), (2, .int (Int32.ofInt x2)), (3, .int (Int32.ofInt x3)), (4, .int (Int32.ofInt x4))] [.int (Int32.ofInt (s 2 i2))] w _
    obtain ⟨o4, e5, hx⟩ := bd hx
    refine wp_cl [.int (Int32.ofInt (s 2 i2))] [] (i := .invokestatic 32) (ln := 3) (a := 99) (b := 1) (z := 0) (by decide +kernel) rfl rfl (by decide) rfl (show (1 : Nat) = pm_na 99 by decide +kernel) (Nat.le_of_ble_eq_true rfl) (show (1 : Nat) ≤ pm_n 99 by decide +kernel) (by rw [show pm_k 99 = 1 by decide +kernel]; rfl) (xt_isDigit_ok (d := d) e5 ?_)
    show wp _ 95 31 [(0, .ref 1), (1, .int (Int32.ofInt x1)), (2, .int (Int32.ofInt x2)), (3, .int (Int32.ofInt x3)), (4, .int (Int32.ofInt x4))] [.int (Int32.ofInt o4)] w _
    refine wz_eq (oo := 46) (ln := 3) (a := 77) (b := 0) (zz := 0) (by decide +kernel) (fun h8 => ?_) (fun h8 => ?_)
    · have hx := ite_t h8 hx
      cases hx
      exact kc _ rfl _ h
    · have hx := ite_f h8 hx
      refine wp_g 1 (pc1 := 35) (lv1 := [(0, .ref 1), (1, .int (Int32.ofInt x1)), (2, .int (Int32.ofInt x2)), (3, .int (Int32.ofInt x3)), (4, .int (Int32.ofInt x4))]) (st1 := [.ref 1]) (w1 := w) rfl ?_
      refine wx_gi (kf := 19) (ln := 3) (ci := 9) (b := 2) (zz := 0) (x := 1) (by decide +kernel) h (hS _ _ sx_1) rfl ?_
      show wp _ 95 38 [(0, .ref 1), (1, .int (Int32.ofInt x1)), (2, .int (Int32.ofInt x2)), (3, .int (Int32.ofInt x3)), (4, .int (Int32.ofInt x4))] [.int (Int32.ofInt (s 1 2))] w _
      refine wp_g 3 (pc1 := 41) (lv1 := [(0, .ref 1), (1, .int (Int32.ofInt x1)), (2, .int (Int32.ofInt x2)), (3, .int (Int32.ofInt x3)), (4, .int (Int32.ofInt x4))]) (st1 := [.int (Int32.ofInt 5), .int (Int32.ofInt ((s 1 2) - x3))]) (w1 := w) (by simp only [Int32.ofInt_add, Int32.ofInt_sub, Int32.ofInt_mul, Int32.ofInt_neg, p_and, p_or, p_xor, p_shl, p_shr, p_usr, p_w8, p_c16, p_lI, q_and, q_or, q_shl, q_shr, q_w32, Int64.ofInt_add, Int64.ofInt_sub, Int64.ofInt_mul, p_mx, p_mn, q_mx, q_mn]; rfl) ?_
      refine wx_ge (oo := 23) (ln := 3) (a := 64) (b := 0) (zz := 0) (by decide +kernel) (fun h9 => ?_) (fun h9 => ?_)
      · have hx := ite_f h9 hx
        refine wp_g 2 (pc1 := 66) (lv1 := [(0, .ref 1), (1, .int (Int32.ofInt x1)), (2, .int (Int32.ofInt x2)), (3, .int (Int32.ofInt x3)), (4, .int (Int32.ofInt x4))]) (st1 := [.ref 1, .ref 1]) (w1 := w) rfl ?_
        refine wx_gi (kf := 19) (ln := 3) (ci := 9) (b := 2) (zz := 0) (x := 1) (by decide +kernel) h (hS _ _ sx_1) rfl ?_
        show wp _ 95 69 [(0, .ref 1), (1, .int (Int32.ofInt x1)), (2, .int (Int32.ofInt x2)), (3, .int (Int32.ofInt x3)), (4, .int (Int32.ofInt x4))] [.int (Int32.ofInt (s 1 2)), .ref 1] w _
        refine wp_g 2 (pc1 := 71) (lv1 := [(0, .ref 1), (1, .int (Int32.ofInt x1)), (2, .int (Int32.ofInt x2)), (3, .int (Int32.ofInt x3)), (4, .int (Int32.ofInt x4))]) (st1 := [.int (Int32.ofInt ((s 1 2) + 1)), .ref 1]) (w1 := w) (by simp only [Int32.ofInt_add, Int32.ofInt_sub, Int32.ofInt_mul, Int32.ofInt_neg, p_and, p_or, p_xor, p_shl, p_shr, p_usr, p_w8, p_c16, p_lI, q_and, q_or, q_shl, q_shr, q_w32, Int64.ofInt_add, Int64.ofInt_sub, Int64.ofInt_mul, p_mx, p_mn, q_mx, q_mn]; rfl) ?_
        obtain ⟨s10, e11, hx⟩ := bd hx
        refine wx_pi (kf := 19) (ln := 3) (ci := 9) (b := 2) (zz := 0) (x := 1) (by decide +kernel) h (hS _ _ sx_1) rfl (by decide +kernel) e11 (fun w12 h13 => ?_)
        refine wp_g 1 (pc1 := 8) (lv1 := [(0, .ref 1), (1, .int (Int32.ofInt x1)), (2, .int (Int32.ofInt x2)), (3, .int (Int32.ofInt x3)), (4, .int (Int32.ofInt x4))]) (st1 := []) (w1 := w12) rfl ?_
        cases hx
        exact kn _ _ rfl h13
      · have hx := ite_t h9 hx
        refine wp_g 4 (pc1 := 50) (lv1 := [(0, .ref 1), (1, .int (Int32.ofInt x1)), (2, .int (Int32.ofInt x2)), (3, .int (Int32.ofInt x3)), (4, .int (Int32.ofInt x4))]) (st1 := [.ref 1, .int (Int32.ofInt (10 * x4))]) (w1 := w) (by simp only [Int32.ofInt_add, Int32.ofInt_sub, Int32.ofInt_mul, Int32.ofInt_neg, p_and, p_or, p_xor, p_shl, p_shr, p_usr, p_w8, p_c16, p_lI, q_and, q_or, q_shl, q_shr, q_w32, Int64.ofInt_add, Int64.ofInt_sub, Int64.ofInt_mul, p_mx, p_mn, q_mx, q_mn]; rfl) ?_
        refine wx_gr (o := 1) (kf := 9) (ln := 3) (ci := 9) (b := 0) (zz := 0) (x := 1) (by decide +kernel) h (hS _ _ sx_1) rfl ?_
        show wp _ 95 53 [(0, .ref 1), (1, .int (Int32.ofInt x1)), (2, .int (Int32.ofInt x2)), (3, .int (Int32.ofInt x3)), (4, .int (Int32.ofInt x4))] [.ref 2, .int (Int32.ofInt (10 * x4))] w _
        refine wp_g 1 (pc1 := 54) (lv1 := [(0, .ref 1), (1, .int (Int32.ofInt x1)), (2, .int (Int32.ofInt x2)), (3, .int (Int32.ofInt x3)), (4, .int (Int32.ofInt x4))]) (st1 := [.ref 1, .ref 2, .int (Int32.ofInt (10 * x4))]) (w1 := w) rfl ?_
        refine wx_gi (kf := 19) (ln := 3) (ci := 9) (b := 2) (zz := 0) (x := 1) (by decide +kernel) h (hS _ _ sx_1) rfl ?_
        show wp _ 95 57 [(0, .ref 1), (1, .int (Int32.ofInt x1)), (2, .int (Int32.ofInt x2)), (3, .int (Int32.ofInt x3)), (4, .int (Int32.ofInt x4))] [.int (Int32.ofInt (s 1 2)), .ref 2, .int (Int32.ofInt (10 * x4))] w _
        refine wx_ra (x := 2) (n := 400) (ln := 1) (a := 0) (b := 0) (zz := 0) (by decide +kernel) h (hS _ _ sx_2) e3 ?_
        show wp _ 95 58 [(0, .ref 1), (1, .int (Int32.ofInt x1)), (2, .int (Int32.ofInt x2)), (3, .int (Int32.ofInt x3)), (4, .int (Int32.ofInt x4))] [.int (Int32.ofInt (s 2 i2)), .int (Int32.ofInt (10 * x4))] w _
        refine wp_g 6 (pc1 := 66) (lv1 := [(4, .int (Int32.ofInt (((10 * x4) + (s 2 i2)) - 48))), (0, .ref 1), (1, .int (Int32.ofInt x1)), (2, .int (Int32.ofInt x2)), (3, .int (Int32.ofInt x3))]) (st1 := [.ref 1, .ref 1]) (w1 := w) (by simp only [Int32.ofInt_add, Int32.ofInt_sub, Int32.ofInt_mul, Int32.ofInt_neg, p_and, p_or, p_xor, p_shl, p_shr, p_usr, p_w8, p_c16, p_lI, q_and, q_or, q_shl, q_shr, q_w32, Int64.ofInt_add, Int64.ofInt_sub, Int64.ofInt_mul, p_mx, p_mn, q_mx, q_mn]; rfl) ?_
        refine wx_gi (kf := 19) (ln := 3) (ci := 9) (b := 2) (zz := 0) (x := 1) (by decide +kernel) h (hS _ _ sx_1) rfl ?_
        show wp _ 95 69 [(4, .int (Int32.ofInt (((10 * x4) + (s 2 i2)) - 48))), (0, .ref 1), (1, .int (Int32.ofInt x1)), (2, .int (Int32.ofInt x2)), (3, .int (Int32.ofInt x3))] [.int (Int32.ofInt (s 1 2)), .ref 1] w _
        refine wp_g 2 (pc1 := 71) (lv1 := [(4, .int (Int32.ofInt (((10 * x4) + (s 2 i2)) - 48))), (0, .ref 1), (1, .int (Int32.ofInt x1)), (2, .int (Int32.ofInt x2)), (3, .int (Int32.ofInt x3))]) (st1 := [.int (Int32.ofInt ((s 1 2) + 1)), .ref 1]) (w1 := w) (by simp only [Int32.ofInt_add, Int32.ofInt_sub, Int32.ofInt_mul, Int32.ofInt_neg, p_and, p_or, p_xor, p_shl, p_shr, p_usr, p_w8, p_c16, p_lI, q_and, q_or, q_shl, q_shr, q_w32, Int64.ofInt_add, Int64.ofInt_sub, Int64.ofInt_mul, p_mx, p_mn, q_mx, q_mn]; rfl) ?_
        obtain ⟨s14, e15, hx⟩ := bd hx
        refine wx_pi (kf := 19) (ln := 3) (ci := 9) (b := 2) (zz := 0) (x := 1) (by decide +kernel) h (hS _ _ sx_1) rfl (by decide +kernel) e15 (fun w16 h17 => ?_)
        refine wp_g 1 (pc1 := 8) (lv1 := [(4, .int (Int32.ofInt (((10 * x4) + (s 2 i2)) - 48))), (0, .ref 1), (1, .int (Int32.ofInt x1)), (2, .int (Int32.ofInt x2)), (3, .int (Int32.ofInt x3))]) (st1 := []) (w1 := w16) rfl ?_
        refine wp_lv (lv1 := [(0, .ref 1), (1, .int (Int32.ofInt x1)), (2, .int (Int32.ofInt x2)), (3, .int (Int32.ofInt x3)), (4, .int (Int32.ofInt (((10 * x4) + (s 2 i2)) - 48)))]) (lsub_p [1, 2, 3, 4, 0] rfl rfl rfl) ?_
        cases hx
        exact kn _ _ rfl h17
noncomputable def xt_takeNumber_j116 (s : Hp) (x3 : Int) (x4 : Int) : Option (Int × Hp) :=
  (xt_fail s x3 1).bind fun o1 => (xt_passBlanks o1).bind fun o5 => some (x4, o5)
set_option maxRecDepth 100000 in
theorem xt_takeNumber_j116_ok {d : Nat} {P : Option Value → pm_H → Prop} {w : pm_H} {sh : Shp} {w0 : pm_H} {s : Hp} (hS : St sh) {x3 : Int} {x4 : Int} (h : Rw sh w0 s w) {o : (Int × Hp)} (hx : xt_takeNumber_j116 s x3 x4 = some o) (kr : ∀ w1, Rw sh w0 o.2 w1 → P (some (.int (Int32.ofInt o.1))) w1) : wp (d + 1) 95 116 [(0, .ref 1), (3, .int (Int32.ofInt x3)), (4, .int (Int32.ofInt x4))] [] w P := by
  unfold xt_takeNumber_j116 at hx
  refine wp_g 3 (pc1 := 119) (lv1 := [(0, .ref 1), (3, .int (Int32.ofInt x3)), (4, .int (Int32.ofInt x4))]) (st1 := [.int (Int32.ofInt 1), .int (Int32.ofInt x3), .ref 1]) (w1 := w) rfl ?_
  obtain ⟨o1, e2, hx⟩ := bd hx
  refine wp_cl [.ref 1, .int (Int32.ofInt x3), .int (Int32.ofInt 1)] [] (i := .invokevirtual 28) (ln := 3) (a := 87) (b := 0) (z := 0) (by decide +kernel) rfl rfl (by decide) rfl (show (3 : Nat) = pm_na 87 by decide +kernel) (Nat.le_of_ble_eq_true rfl) (show (3 : Nat) ≤ pm_n 87 by decide +kernel) (rcv_x 9 h (hS _ _ sx_1) (by decide +kernel)) (xt_fail_ok (d := d) hS h e2 (fun w3 h4 => ?_))
  show wp _ 95 122 [(0, .ref 1), (3, .int (Int32.ofInt x3)), (4, .int (Int32.ofInt x4))] [] w3 _
  refine wp_g 1 (pc1 := 123) (lv1 := [(0, .ref 1), (3, .int (Int32.ofInt x3)), (4, .int (Int32.ofInt x4))]) (st1 := [.ref 1]) (w1 := w3) rfl ?_
  obtain ⟨o5, e6, hx⟩ := bd hx
  refine wp_cl [.ref 1] [] (i := .invokevirtual 25) (ln := 3) (a := 100) (b := 0) (z := 0) (by decide +kernel) rfl rfl (by decide) rfl (show (1 : Nat) = pm_na 100 by decide +kernel) (Nat.le_of_ble_eq_true rfl) (show (1 : Nat) ≤ pm_n 100 by decide +kernel) (rcv_x 9 h4 (hS _ _ sx_1) (by decide +kernel)) (xt_passBlanks_ok (d := d) hS h4 e6 (fun w7 h8 => ?_))
  show wp _ 95 126 [(0, .ref 1), (3, .int (Int32.ofInt x3)), (4, .int (Int32.ofInt x4))] [] w7 _
  refine wp_g 1 (pc1 := 128) (lv1 := [(0, .ref 1), (3, .int (Int32.ofInt x3)), (4, .int (Int32.ofInt x4))]) (st1 := [.int (Int32.ofInt x4)]) (w1 := w7) rfl ?_
  refine wp_rt (i := .ireturn) (r := some (.int (Int32.ofInt x4))) (ln := 1) (a := 0) (b := 0) (z := 0) (by decide +kernel) rfl (ret_ok (by decide +kernel)) ?_
  cases hx
  exact kr _ h8
noncomputable def xt_takeNumber_j77 (s : Hp) (x1 : Int) (x2 : Int) (x3 : Int) (x4 : Int) : Option (Int × Hp) :=
  if w32 (s 1 2) = w32 x3 then (xt_fail s x3 0).bind fun o9 => (xt_passBlanks o9).bind fun o13 => some (x4, o13) else if w32 5 < w32 ((s 1 2) - x3) then xt_takeNumber_j116 s x3 x4 else if w32 x4 < w32 x1 then xt_takeNumber_j116 s x3 x4 else if w32 x2 < w32 x4 then xt_takeNumber_j116 s x3 x4 else (xt_passBlanks s).bind fun o5 => some (x4, o5)
set_option maxRecDepth 100000 in
theorem xt_takeNumber_j77_ok {d : Nat} {P : Option Value → pm_H → Prop} {w : pm_H} {sh : Shp} {w0 : pm_H} {s : Hp} (hS : St sh) {x1 : Int} {x2 : Int} {x3 : Int} {x4 : Int} (h : Rw sh w0 s w) {o : (Int × Hp)} (hx : xt_takeNumber_j77 s x1 x2 x3 x4 = some o) (kr : ∀ w1, Rw sh w0 o.2 w1 → P (some (.int (Int32.ofInt o.1))) w1) : wp (d + 1) 95 77 [(0, .ref 1), (1, .int (Int32.ofInt x1)), (2, .int (Int32.ofInt x2)), (3, .int (Int32.ofInt x3)), (4, .int (Int32.ofInt x4))] [] w P := by
  unfold xt_takeNumber_j77 at hx
  refine wp_g 1 (pc1 := 78) (lv1 := [(0, .ref 1), (1, .int (Int32.ofInt x1)), (2, .int (Int32.ofInt x2)), (3, .int (Int32.ofInt x3)), (4, .int (Int32.ofInt x4))]) (st1 := [.ref 1]) (w1 := w) rfl ?_
  refine wx_gi (kf := 19) (ln := 3) (ci := 9) (b := 2) (zz := 0) (x := 1) (by decide +kernel) h (hS _ _ sx_1) rfl ?_
  show wp _ 95 81 [(0, .ref 1), (1, .int (Int32.ofInt x1)), (2, .int (Int32.ofInt x2)), (3, .int (Int32.ofInt x3)), (4, .int (Int32.ofInt x4))] [.int (Int32.ofInt (s 1 2))] w _
  refine wp_g 1 (pc1 := 82) (lv1 := [(0, .ref 1), (1, .int (Int32.ofInt x1)), (2, .int (Int32.ofInt x2)), (3, .int (Int32.ofInt x3)), (4, .int (Int32.ofInt x4))]) (st1 := [.int (Int32.ofInt x3), .int (Int32.ofInt (s 1 2))]) (w1 := w) rfl ?_
  refine wx_ne (oo := 12) (ln := 3) (a := 94) (b := 0) (zz := 0) (by decide +kernel) (fun h1 => ?_) (fun h1 => ?_)
  · have hx := ite_f h1 hx
    refine wp_g 1 (pc1 := 95) (lv1 := [(0, .ref 1), (1, .int (Int32.ofInt x1)), (2, .int (Int32.ofInt x2)), (3, .int (Int32.ofInt x3)), (4, .int (Int32.ofInt x4))]) (st1 := [.ref 1]) (w1 := w) rfl ?_
    refine wx_gi (kf := 19) (ln := 3) (ci := 9) (b := 2) (zz := 0) (x := 1) (by decide +kernel) h (hS _ _ sx_1) rfl ?_
    show wp _ 95 98 [(0, .ref 1), (1, .int (Int32.ofInt x1)), (2, .int (Int32.ofInt x2)), (3, .int (Int32.ofInt x3)), (4, .int (Int32.ofInt x4))] [.int (Int32.ofInt (s 1 2))] w _
    refine wp_g 3 (pc1 := 101) (lv1 := [(0, .ref 1), (1, .int (Int32.ofInt x1)), (2, .int (Int32.ofInt x2)), (3, .int (Int32.ofInt x3)), (4, .int (Int32.ofInt x4))]) (st1 := [.int (Int32.ofInt 5), .int (Int32.ofInt ((s 1 2) - x3))]) (w1 := w) (by simp only [Int32.ofInt_add, Int32.ofInt_sub, Int32.ofInt_mul, Int32.ofInt_neg, p_and, p_or, p_xor, p_shl, p_shr, p_usr, p_w8, p_c16, p_lI, q_and, q_or, q_shl, q_shr, q_w32, Int64.ofInt_add, Int64.ofInt_sub, Int64.ofInt_mul, p_mx, p_mn, q_mx, q_mn]; rfl) ?_
    refine wx_gt (oo := 15) (ln := 3) (a := 116) (b := 0) (zz := 0) (by decide +kernel) (fun h2 => ?_) (fun h2 => ?_)
    · have hx := ite_t h2 hx
      refine wp_lv (lv1 := [(0, .ref 1), (3, .int (Int32.ofInt x3)), (4, .int (Int32.ofInt x4))]) (lsub_p [0, 3, 4] rfl rfl rfl) ?_
      exact xt_takeNumber_j116_ok hS h hx kr
    · have hx := ite_f h2 hx
      refine wp_g 2 (pc1 := 107) (lv1 := [(0, .ref 1), (1, .int (Int32.ofInt x1)), (2, .int (Int32.ofInt x2)), (3, .int (Int32.ofInt x3)), (4, .int (Int32.ofInt x4))]) (st1 := [.int (Int32.ofInt x1), .int (Int32.ofInt x4)]) (w1 := w) rfl ?_
      refine wx_lt (oo := 9) (ln := 3) (a := 116) (b := 0) (zz := 0) (by decide +kernel) (fun h3 => ?_) (fun h3 => ?_)
      · have hx := ite_t h3 hx
        refine wp_lv (lv1 := [(0, .ref 1), (3, .int (Int32.ofInt x3)), (4, .int (Int32.ofInt x4))]) (lsub_p [0, 3, 4] rfl rfl rfl) ?_
        exact xt_takeNumber_j116_ok hS h hx kr
      · have hx := ite_f h3 hx
        refine wp_g 2 (pc1 := 113) (lv1 := [(0, .ref 1), (1, .int (Int32.ofInt x1)), (2, .int (Int32.ofInt x2)), (3, .int (Int32.ofInt x3)), (4, .int (Int32.ofInt x4))]) (st1 := [.int (Int32.ofInt x2), .int (Int32.ofInt x4)]) (w1 := w) rfl ?_
        refine wx_le (oo := 9) (ln := 3) (a := 122) (b := 0) (zz := 0) (by decide +kernel) (fun h4 => ?_) (fun h4 => ?_)
        · have hx := ite_f h4 hx
          refine wp_g 1 (pc1 := 123) (lv1 := [(0, .ref 1), (1, .int (Int32.ofInt x1)), (2, .int (Int32.ofInt x2)), (3, .int (Int32.ofInt x3)), (4, .int (Int32.ofInt x4))]) (st1 := [.ref 1]) (w1 := w) rfl ?_
          obtain ⟨o5, e6, hx⟩ := bd hx
          refine wp_cl [.ref 1] [] (i := .invokevirtual 25) (ln := 3) (a := 100) (b := 0) (z := 0) (by decide +kernel) rfl rfl (by decide) rfl (show (1 : Nat) = pm_na 100 by decide +kernel) (Nat.le_of_ble_eq_true rfl) (show (1 : Nat) ≤ pm_n 100 by decide +kernel) (rcv_x 9 h (hS _ _ sx_1) (by decide +kernel)) (xt_passBlanks_ok (d := d) hS h e6 (fun w7 h8 => ?_))
          show wp _ 95 126 [(0, .ref 1), (1, .int (Int32.ofInt x1)), (2, .int (Int32.ofInt x2)), (3, .int (Int32.ofInt x3)), (4, .int (Int32.ofInt x4))] [] w7 _
          refine wp_g 1 (pc1 := 128) (lv1 := [(0, .ref 1), (1, .int (Int32.ofInt x1)), (2, .int (Int32.ofInt x2)), (3, .int (Int32.ofInt x3)), (4, .int (Int32.ofInt x4))]) (st1 := [.int (Int32.ofInt x4)]) (w1 := w7) rfl ?_
          refine wp_rt (i := .ireturn) (r := some (.int (Int32.ofInt x4))) (ln := 1) (a := 0) (b := 0) (z := 0) (by decide +kernel) rfl (ret_ok (by decide +kernel)) ?_
          cases hx
          exact kr _ h8
        · have hx := ite_t h4 hx
          refine wp_lv (lv1 := [(0, .ref 1), (3, .int (Int32.ofInt x3)), (4, .int (Int32.ofInt x4))]) (lsub_p [0, 3, 4] rfl rfl rfl) ?_
          exact xt_takeNumber_j116_ok hS h hx kr
  · have hx := ite_t h1 hx
    refine wp_g 3 (pc1 := 88) (lv1 := [(0, .ref 1), (1, .int (Int32.ofInt x1)), (2, .int (Int32.ofInt x2)), (3, .int (Int32.ofInt x3)), (4, .int (Int32.ofInt x4))]) (st1 := [.int (Int32.ofInt 0), .int (Int32.ofInt x3), .ref 1]) (w1 := w) rfl ?_
    obtain ⟨o9, e10, hx⟩ := bd hx
    refine wp_cl [.ref 1, .int (Int32.ofInt x3), .int (Int32.ofInt 0)] [] (i := .invokevirtual 28) (ln := 3) (a := 87) (b := 0) (z := 0) (by decide +kernel) rfl rfl (by decide) rfl (show (3 : Nat) = pm_na 87 by decide +kernel) (Nat.le_of_ble_eq_true rfl) (show (3 : Nat) ≤ pm_n 87 by decide +kernel) (rcv_x 9 h (hS _ _ sx_1) (by decide +kernel)) (xt_fail_ok (d := d) hS h e10 (fun w11 h12 => ?_))
    show wp _ 95 91 [(0, .ref 1), (1, .int (Int32.ofInt x1)), (2, .int (Int32.ofInt x2)), (3, .int (Int32.ofInt x3)), (4, .int (Int32.ofInt x4))] [] w11 _
    refine wp_g 2 (pc1 := 123) (lv1 := [(0, .ref 1), (1, .int (Int32.ofInt x1)), (2, .int (Int32.ofInt x2)), (3, .int (Int32.ofInt x3)), (4, .int (Int32.ofInt x4))]) (st1 := [.ref 1]) (w1 := w11) rfl ?_
    obtain ⟨o13, e14, hx⟩ := bd hx
    refine wp_cl [.ref 1] [] (i := .invokevirtual 25) (ln := 3) (a := 100) (b := 0) (z := 0) (by decide +kernel) rfl rfl (by decide) rfl (show (1 : Nat) = pm_na 100 by decide +kernel) (Nat.le_of_ble_eq_true rfl) (show (1 : Nat) ≤ pm_n 100 by decide +kernel) (rcv_x 9 h12 (hS _ _ sx_1) (by decide +kernel)) (xt_passBlanks_ok (d := d) hS h12 e14 (fun w15 h16 => ?_))
    show wp _ 95 126 [(0, .ref 1), (1, .int (Int32.ofInt x1)), (2, .int (Int32.ofInt x2)), (3, .int (Int32.ofInt x3)), (4, .int (Int32.ofInt x4))] [] w15 _
    refine wp_g 1 (pc1 := 128) (lv1 := [(0, .ref 1), (1, .int (Int32.ofInt x1)), (2, .int (Int32.ofInt x2)), (3, .int (Int32.ofInt x3)), (4, .int (Int32.ofInt x4))]) (st1 := [.int (Int32.ofInt x4)]) (w1 := w15) rfl ?_
    refine wp_rt (i := .ireturn) (r := some (.int (Int32.ofInt x4))) (ln := 1) (a := 0) (b := 0) (z := 0) (by decide +kernel) rfl (ret_ok (by decide +kernel)) ?_
    cases hx
    exact kr _ h16
/-- Text.takeNumber (II)I -/
noncomputable def xt_takeNumber (s : Hp) (p1 : Int) (p2 : Int) : Option (Int × Hp) :=
  (lp (fun (q : Int × Hp) => xt_takeNumber_b8 q.2 p1 p2 (s 1 2) q.1) (0, s)).bind fun q1 => xt_takeNumber_j77 q1.2 p1 p2 (s 1 2) q1.1
set_option maxRecDepth 100000 in
theorem xt_takeNumber_ok {d : Nat} {P : Option Value → pm_H → Prop} {w : pm_H} {sh : Shp} {w0 : pm_H} {s : Hp} (hS : St sh) {p1 : Int} {p2 : Int} (h : Rw sh w0 s w) {o : Int × Hp} (hx : xt_takeNumber s p1 p2 = some o) (kr : ∀ w1, Rw sh w0 o.2 w1 → P (some (.int (Int32.ofInt o.1))) w1) : wp (d + 1) 95 0 (lv_args 0 [.ref 1, .int (Int32.ofInt p1), .int (Int32.ofInt p2)]) [] w P := by
  show wp _ 95 0 [(0, .ref 1), (1, .int (Int32.ofInt p1)), (2, .int (Int32.ofInt p2))] [] w _
  unfold xt_takeNumber at hx
  refine wp_g 1 (pc1 := 1) (lv1 := [(0, .ref 1), (1, .int (Int32.ofInt p1)), (2, .int (Int32.ofInt p2))]) (st1 := [.ref 1]) (w1 := w) rfl ?_
  refine wx_gi (kf := 19) (ln := 3) (ci := 9) (b := 2) (zz := 0) (x := 1) (by decide +kernel) h (hS _ _ sx_1) rfl ?_
  show wp _ 95 4 [(0, .ref 1), (1, .int (Int32.ofInt p1)), (2, .int (Int32.ofInt p2))] [.int (Int32.ofInt (s 1 2))] w _
  refine wp_g 3 (pc1 := 8) (lv1 := [(4, .int (Int32.ofInt 0)), (3, .int (Int32.ofInt (s 1 2))), (0, .ref 1), (1, .int (Int32.ofInt p1)), (2, .int (Int32.ofInt p2))]) (st1 := []) (w1 := w) rfl ?_
  refine wp_lv (lv1 := [(0, .ref 1), (1, .int (Int32.ofInt p1)), (2, .int (Int32.ofInt p2)), (3, .int (Int32.ofInt (s 1 2))), (4, .int (Int32.ofInt 0))]) (lsub_p [2, 3, 4, 1, 0] rfl rfl rfl) ?_
  obtain ⟨q1, e2, hx⟩ := bd hx
  refine wp_lp (σ := Int × Hp) (ρ := (Int × Hp)) (B := fun q => xt_takeNumber_b8 q.2 p1 p2 (s 1 2) q.1) (R := fun q w' => Rw sh w0 q.2 w') (C := fun r => ∀ w1, Rw sh w0 r.2 w1 → wp (d + 1) 95 77 [(0, .ref 1), (1, .int (Int32.ofInt p1)), (2, .int (Int32.ofInt p2)), (3, .int (Int32.ofInt (s 1 2))), (4, .int (Int32.ofInt r.1))] [] w1 P) (lv := fun q => [(0, .ref 1), (1, .int (Int32.ofInt p1)), (2, .int (Int32.ofInt p2)), (3, .int (Int32.ofInt (s 1 2))), (4, .int (Int32.ofInt q.1))]) (hd := 8) (fun q w' o hR hb kn kc => xt_takeNumber_b8_ok hS hR hb kn kc) _ _ _ e2 h ?_
  intro w3 h4
  show wp _ 95 77 [(0, .ref 1), (1, .int (Int32.ofInt p1)), (2, .int (Int32.ofInt p2)), (3, .int (Int32.ofInt (s 1 2))), (4, .int (Int32.ofInt q1.1))] [] w3 _
  exact xt_takeNumber_j77_ok hS h4 hx kr
noncomputable def xt_numberIn_b11 (s : Hp) (t1 : Nat) (x2 : Int) (x3 : Int) (x4 : Int) (x5 : Int) : Option ((Int × Int × Int) ⊕ ((Int × Int × Int) ⊕ Int)) :=
  (sln t1).bind fun v1 => if w32 x5 < w32 v1 then (sch t1 x5).bind fun v4 => if w32 v4 = w32 32 then if w32 x4 = w32 x2 then some (.inr (.inr x3)) else some (.inl (x3 + 1, s 1 2, x5 + 1)) else if w32 x4 < w32 (s 1 2) then some (.inl (x3, (-1), x5 + 1)) else if w32 x4 < w32 x2 then (ix 400 x4).bind fun i9 => if w32 (s 2 i9) = w32 v4 then some (.inl (x3, x4 + 1, x5 + 1)) else some (.inl (x3, (-1), x5 + 1)) else some (.inl (x3, (-1), x5 + 1)) else some (.inr (.inl (x3, x4, x5)))
set_option maxRecDepth 100000 in
theorem xt_numberIn_b11_ok {d : Nat} {P : Option Value → pm_H → Prop} {w : pm_H} {sh : Shp} {w0 : pm_H} {s : Hp} (hS : St sh) {t1 : Nat} {x2 : Int} {x3 : Int} {x4 : Int} {x5 : Int} (h : Rw sh w0 s w) {o : ((Int × Int × Int) ⊕ ((Int × Int × Int) ⊕ Int))} (hx : xt_numberIn_b11 s t1 x2 x3 x4 x5 = some o) (kn : ∀ (q : Int × Int × Int) w1, o = .inl q → w = w1 → wp (d + 6) 98 11 [(0, .ref 1), (1, .retAddr t1), (2, .int (Int32.ofInt x2)), (3, .int (Int32.ofInt q.1)), (4, .int (Int32.ofInt q.2.1)), (5, .int (Int32.ofInt q.2.2))] [] w1 P) (kc : ∀ (r : ((Int × Int × Int) ⊕ Int)), o = .inr r → ((∀ q1 w1, r = .inl q1 → w = w1 → wp (d + 6) 98 97 [(0, .ref 1), (1, .retAddr t1), (2, .int (Int32.ofInt x2)), (3, .int (Int32.ofInt q1.1)), (4, .int (Int32.ofInt q1.2.1)), (5, .int (Int32.ofInt q1.2.2))] [] w1 P) ∧ (∀ v1 w1, r = .inr v1 → w = w1 → P (some (.int (Int32.ofInt v1))) w1))) : wp (d + 6) 98 11 [(0, .ref 1), (1, .retAddr t1), (2, .int (Int32.ofInt x2)), (3, .int (Int32.ofInt x3)), (4, .int (Int32.ofInt x4)), (5, .int (Int32.ofInt x5))] [] w P := by
  unfold xt_numberIn_b11 at hx
  refine wp_g 2 (pc1 := 14) (lv1 := [(0, .ref 1), (1, .retAddr t1), (2, .int (Int32.ofInt x2)), (3, .int (Int32.ofInt x3)), (4, .int (Int32.ofInt x4)), (5, .int (Int32.ofInt x5))]) (st1 := [.retAddr t1, .int (Int32.ofInt x5)]) (w1 := w) rfl ?_
  obtain ⟨v1, e2, hx⟩ := bd hx
  refine wx_sl (kf := 51) (ln := 3) (b := 9) (zz := 0) (by decide +kernel) e2 (Nat.le_of_ble_eq_true rfl) (by omega) ?_
  refine wx_ge (oo := 80) (ln := 3) (a := 97) (b := 0) (zz := 0) (by decide +kernel) (fun h3 => ?_) (fun h3 => ?_)
  · have hx := ite_f h3 hx
    cases hx
    exact (kc _ rfl).1 _ _ rfl rfl
  · have hx := ite_t h3 hx
    refine wp_g 2 (pc1 := 23) (lv1 := [(0, .ref 1), (1, .retAddr t1), (2, .int (Int32.ofInt x2)), (3, .int (Int32.ofInt x3)), (4, .int (Int32.ofInt x4)), (5, .int (Int32.ofInt x5))]) (st1 := [.int (Int32.ofInt x5), .retAddr t1]) (w1 := w) rfl ?_
    obtain ⟨v4, e5, hx⟩ := bd hx
    refine wx_sc (kf := 57) (ln := 3) (b := 9) (zz := 0) (by decide +kernel) e5 (Nat.le_of_ble_eq_true rfl) (by omega) ?_
    refine wp_g 3 (pc1 := 32) (lv1 := [(6, .int (Int32.ofInt v4)), (0, .ref 1), (1, .retAddr t1), (2, .int (Int32.ofInt x2)), (3, .int (Int32.ofInt x3)), (4, .int (Int32.ofInt x4)), (5, .int (Int32.ofInt x5))]) (st1 := [.int (Int32.ofInt 32), .int (Int32.ofInt v4)]) (w1 := w) rfl ?_
    refine wx_ne (oo := 23) (ln := 3) (a := 55) (b := 0) (zz := 0) (by decide +kernel) (fun h6 => ?_) (fun h6 => ?_)
    · have hx := ite_f h6 hx
      refine wp_g 2 (pc1 := 58) (lv1 := [(6, .int (Int32.ofInt v4)), (0, .ref 1), (1, .retAddr t1), (2, .int (Int32.ofInt x2)), (3, .int (Int32.ofInt x3)), (4, .int (Int32.ofInt x4)), (5, .int (Int32.ofInt x5))]) (st1 := [.ref 1, .int (Int32.ofInt x4)]) (w1 := w) rfl ?_
      refine wx_gi (kf := 19) (ln := 3) (ci := 9) (b := 2) (zz := 0) (x := 1) (by decide +kernel) h (hS _ _ sx_1) rfl ?_
      show wp _ 98 61 [(6, .int (Int32.ofInt v4)), (0, .ref 1), (1, .retAddr t1), (2, .int (Int32.ofInt x2)), (3, .int (Int32.ofInt x3)), (4, .int (Int32.ofInt x4)), (5, .int (Int32.ofInt x5))] [.int (Int32.ofInt (s 1 2)), .int (Int32.ofInt x4)] w _
      refine wx_lt (oo := 27) (ln := 3) (a := 88) (b := 0) (zz := 0) (by decide +kernel) (fun h7 => ?_) (fun h7 => ?_)
      · have hx := ite_t h7 hx
        refine wp_g 4 (pc1 := 11) (lv1 := [(5, .int (Int32.ofInt (x5 + 1))), (4, .int (Int32.ofInt (-1))), (6, .int (Int32.ofInt v4)), (0, .ref 1), (1, .retAddr t1), (2, .int (Int32.ofInt x2)), (3, .int (Int32.ofInt x3))]) (st1 := []) (w1 := w) (by simp only [Int32.ofInt_add, Int32.ofInt_sub, Int32.ofInt_mul, Int32.ofInt_neg, p_and, p_or, p_xor, p_shl, p_shr, p_usr, p_w8, p_c16, p_lI, q_and, q_or, q_shl, q_shr, q_w32, Int64.ofInt_add, Int64.ofInt_sub, Int64.ofInt_mul, p_mx, p_mn, q_mx, q_mn]; rfl) ?_
        refine wp_lv (lv1 := [(0, .ref 1), (1, .retAddr t1), (2, .int (Int32.ofInt x2)), (3, .int (Int32.ofInt x3)), (4, .int (Int32.ofInt (-1))), (5, .int (Int32.ofInt (x5 + 1)))]) (lsub_p [3, 4, 5, 6, 1, 0] rfl rfl rfl) ?_
        cases hx
        exact kn _ _ rfl rfl
      · have hx := ite_f h7 hx
        refine wp_g 2 (pc1 := 67) (lv1 := [(6, .int (Int32.ofInt v4)), (0, .ref 1), (1, .retAddr t1), (2, .int (Int32.ofInt x2)), (3, .int (Int32.ofInt x3)), (4, .int (Int32.ofInt x4)), (5, .int (Int32.ofInt x5))]) (st1 := [.int (Int32.ofInt x2), .int (Int32.ofInt x4)]) (w1 := w) rfl ?_
        refine wx_ge (oo := 21) (ln := 3) (a := 88) (b := 0) (zz := 0) (by decide +kernel) (fun h8 => ?_) (fun h8 => ?_)
        · have hx := ite_f h8 hx
          refine wp_g 4 (pc1 := 11) (lv1 := [(5, .int (Int32.ofInt (x5 + 1))), (4, .int (Int32.ofInt (-1))), (6, .int (Int32.ofInt v4)), (0, .ref 1), (1, .retAddr t1), (2, .int (Int32.ofInt x2)), (3, .int (Int32.ofInt x3))]) (st1 := []) (w1 := w) (by simp only [Int32.ofInt_add, Int32.ofInt_sub, Int32.ofInt_mul, Int32.ofInt_neg, p_and, p_or, p_xor, p_shl, p_shr, p_usr, p_w8, p_c16, p_lI, q_and, q_or, q_shl, q_shr, q_w32, Int64.ofInt_add, Int64.ofInt_sub, Int64.ofInt_mul, p_mx, p_mn, q_mx, q_mn]; rfl) ?_
          refine wp_lv (lv1 := [(0, .ref 1), (1, .retAddr t1), (2, .int (Int32.ofInt x2)), (3, .int (Int32.ofInt x3)), (4, .int (Int32.ofInt (-1))), (5, .int (Int32.ofInt (x5 + 1)))]) (lsub_p [3, 4, 5, 6, 1, 0] rfl rfl rfl) ?_
          cases hx
          exact kn _ _ rfl rfl
        · have hx := ite_t h8 hx
          refine wp_g 1 (pc1 := 71) (lv1 := [(6, .int (Int32.ofInt v4)), (0, .ref 1), (1, .retAddr t1), (2, .int (Int32.ofInt x2)), (3, .int (Int32.ofInt x3)), (4, .int (Int32.ofInt x4)), (5, .int (Int32.ofInt x5))]) (st1 := [.ref 1]) (w1 := w) rfl ?_
          refine wx_gr (o := 1) (kf := 9) (ln := 3) (ci := 9) (b := 0) (zz := 0) (x := 1) (by decide +kernel) h (hS _ _ sx_1) rfl ?_
          show wp _ 98 74 [(6, .int (Int32.ofInt v4)), (0, .ref 1), (1, .retAddr t1), (2, .int (Int32.ofInt x2)), (3, .int (Int32.ofInt x3)), (4, .int (Int32.ofInt x4)), (5, .int (Int32.ofInt x5))] [.ref 2] w _
          refine wp_g 1 (pc1 := 76) (lv1 := [(6, .int (Int32.ofInt v4)), (0, .ref 1), (1, .retAddr t1), (2, .int (Int32.ofInt x2)), (3, .int (Int32.ofInt x3)), (4, .int (Int32.ofInt x4)), (5, .int (Int32.ofInt x5))]) (st1 := [.int (Int32.ofInt x4), .ref 2]) (w1 := w) rfl ?_
          obtain ⟨i9, e10, hx⟩ := bd hx
          refine wx_ra (x := 2) (n := 400) (ln := 1) (a := 0) (b := 0) (zz := 0) (by decide +kernel) h (hS _ _ sx_2) e10 ?_
          show wp _ 98 77 [(6, .int (Int32.ofInt v4)), (0, .ref 1), (1, .retAddr t1), (2, .int (Int32.ofInt x2)), (3, .int (Int32.ofInt x3)), (4, .int (Int32.ofInt x4)), (5, .int (Int32.ofInt x5))] [.int (Int32.ofInt (s 2 i9))] w _
          refine wp_g 1 (pc1 := 79) (lv1 := [(6, .int (Int32.ofInt v4)), (0, .ref 1), (1, .retAddr t1), (2, .int (Int32.ofInt x2)), (3, .int (Int32.ofInt x3)), (4, .int (Int32.ofInt x4)), (5, .int (Int32.ofInt x5))]) (st1 := [.int (Int32.ofInt v4), .int (Int32.ofInt (s 2 i9))]) (w1 := w) rfl ?_
          refine wx_ne (oo := 9) (ln := 3) (a := 88) (b := 0) (zz := 0) (by decide +kernel) (fun h11 => ?_) (fun h11 => ?_)
          · have hx := ite_f h11 hx
            refine wp_g 4 (pc1 := 11) (lv1 := [(5, .int (Int32.ofInt (x5 + 1))), (4, .int (Int32.ofInt (-1))), (6, .int (Int32.ofInt v4)), (0, .ref 1), (1, .retAddr t1), (2, .int (Int32.ofInt x2)), (3, .int (Int32.ofInt x3))]) (st1 := []) (w1 := w) (by simp only [Int32.ofInt_add, Int32.ofInt_sub, Int32.ofInt_mul, Int32.ofInt_neg, p_and, p_or, p_xor, p_shl, p_shr, p_usr, p_w8, p_c16, p_lI, q_and, q_or, q_shl, q_shr, q_w32, Int64.ofInt_add, Int64.ofInt_sub, Int64.ofInt_mul, p_mx, p_mn, q_mx, q_mn]; rfl) ?_
            refine wp_lv (lv1 := [(0, .ref 1), (1, .retAddr t1), (2, .int (Int32.ofInt x2)), (3, .int (Int32.ofInt x3)), (4, .int (Int32.ofInt (-1))), (5, .int (Int32.ofInt (x5 + 1)))]) (lsub_p [3, 4, 5, 6, 1, 0] rfl rfl rfl) ?_
            cases hx
            exact kn _ _ rfl rfl
          · have hx := ite_t h11 hx
            refine wp_g 4 (pc1 := 11) (lv1 := [(5, .int (Int32.ofInt (x5 + 1))), (4, .int (Int32.ofInt (x4 + 1))), (6, .int (Int32.ofInt v4)), (0, .ref 1), (1, .retAddr t1), (2, .int (Int32.ofInt x2)), (3, .int (Int32.ofInt x3))]) (st1 := []) (w1 := w) (by simp only [Int32.ofInt_add, Int32.ofInt_sub, Int32.ofInt_mul, Int32.ofInt_neg, p_and, p_or, p_xor, p_shl, p_shr, p_usr, p_w8, p_c16, p_lI, q_and, q_or, q_shl, q_shr, q_w32, Int64.ofInt_add, Int64.ofInt_sub, Int64.ofInt_mul, p_mx, p_mn, q_mx, q_mn]; rfl) ?_
            refine wp_lv (lv1 := [(0, .ref 1), (1, .retAddr t1), (2, .int (Int32.ofInt x2)), (3, .int (Int32.ofInt x3)), (4, .int (Int32.ofInt (x4 + 1))), (5, .int (Int32.ofInt (x5 + 1)))]) (lsub_p [3, 4, 5, 6, 1, 0] rfl rfl rfl) ?_
            cases hx
            exact kn _ _ rfl rfl
    · have hx := ite_t h6 hx
      refine wp_g 2 (pc1 := 38) (lv1 := [(6, .int (Int32.ofInt v4)), (0, .ref 1), (1, .retAddr t1), (2, .int (Int32.ofInt x2)), (3, .int (Int32.ofInt x3)), (4, .int (Int32.ofInt x4)), (5, .int (Int32.ofInt x5))]) (st1 := [.int (Int32.ofInt x2), .int (Int32.ofInt x4)]) (w1 := w) rfl ?_
      refine wx_ne (oo := 5) (ln := 3) (a := 43) (b := 0) (zz := 0) (by decide +kernel) (fun h12 => ?_) (fun h12 => ?_)
      · have hx := ite_f h12 hx
        refine wp_g 2 (pc1 := 47) (lv1 := [(3, .int (Int32.ofInt (x3 + 1))), (6, .int (Int32.ofInt v4)), (0, .ref 1), (1, .retAddr t1), (2, .int (Int32.ofInt x2)), (4, .int (Int32.ofInt x4)), (5, .int (Int32.ofInt x5))]) (st1 := [.ref 1]) (w1 := w) (by simp only [Int32.ofInt_add, Int32.ofInt_sub, Int32.ofInt_mul, Int32.ofInt_neg, p_and, p_or, p_xor, p_shl, p_shr, p_usr, p_w8, p_c16, p_lI, q_and, q_or, q_shl, q_shr, q_w32, Int64.ofInt_add, Int64.ofInt_sub, Int64.ofInt_mul, p_mx, p_mn, q_mx, q_mn]; rfl) ?_
        refine wx_gi (kf := 19) (ln := 3) (ci := 9) (b := 2) (zz := 0) (x := 1) (by decide +kernel) h (hS _ _ sx_1) rfl ?_
        show wp _ 98 50 [(3, .int (Int32.ofInt (x3 + 1))), (6, .int (Int32.ofInt v4)), (0, .ref 1), (1, .retAddr t1), (2, .int (Int32.ofInt x2)), (4, .int (Int32.ofInt x4)), (5, .int (Int32.ofInt x5))] [.int (Int32.ofInt (s 1 2))] w _
        refine wp_g 4 (pc1 := 11) (lv1 := [(5, .int (Int32.ofInt (x5 + 1))), (4, .int (Int32.ofInt (s 1 2))), (3, .int (Int32.ofInt (x3 + 1))), (6, .int (Int32.ofInt v4)), (0, .ref 1), (1, .retAddr t1), (2, .int (Int32.ofInt x2))]) (st1 := []) (w1 := w) (by simp only [Int32.ofInt_add, Int32.ofInt_sub, Int32.ofInt_mul, Int32.ofInt_neg, p_and, p_or, p_xor, p_shl, p_shr, p_usr, p_w8, p_c16, p_lI, q_and, q_or, q_shl, q_shr, q_w32, Int64.ofInt_add, Int64.ofInt_sub, Int64.ofInt_mul, p_mx, p_mn, q_mx, q_mn]; rfl) ?_
        refine wp_lv (lv1 := [(0, .ref 1), (1, .retAddr t1), (2, .int (Int32.ofInt x2)), (3, .int (Int32.ofInt (x3 + 1))), (4, .int (Int32.ofInt (s 1 2))), (5, .int (Int32.ofInt (x5 + 1)))]) (lsub_p [4, 5, 6, 2, 1, 0] rfl rfl rfl) ?_
        cases hx
        exact kn _ _ rfl rfl
      · have hx := ite_t h12 hx
        refine wp_g 1 (pc1 := 42) (lv1 := [(6, .int (Int32.ofInt v4)), (0, .ref 1), (1, .retAddr t1), (2, .int (Int32.ofInt x2)), (3, .int (Int32.ofInt x3)), (4, .int (Int32.ofInt x4)), (5, .int (Int32.ofInt x5))]) (st1 := [.int (Int32.ofInt x3)]) (w1 := w) rfl ?_
        refine wp_rt (i := .ireturn) (r := some (.int (Int32.ofInt x3))) (ln := 1) (a := 0) (b := 0) (z := 0) (by decide +kernel) rfl (ret_ok (by decide +kernel)) ?_
        cases hx
        exact (kc _ rfl).2 _ _ rfl rfl
/-- Text.numberIn (Ljava/lang/String;I)I -/
noncomputable def xt_numberIn (s : Hp) (t1 : Nat) (p2 : Int) : Option Int :=
  (lp (fun (q : Int × Int × Int) => xt_numberIn_b11 s t1 p2 q.1 q.2.1 q.2.2) (0, s 1 2, 0)).bind fun q1 => q1.elim (fun q5 => some (-1)) (fun r => some r)
set_option maxRecDepth 100000 in
theorem xt_numberIn_ok {d : Nat} {P : Option Value → pm_H → Prop} {w : pm_H} {sh : Shp} {w0 : pm_H} {s : Hp} (hS : St sh) {t1 : Nat} {p2 : Int} (h : Rw sh w0 s w) {o : Int} (hx : xt_numberIn s t1 p2 = some o) (kr : P (some (.int (Int32.ofInt o))) w) : wp (d + 6) 98 0 (lv_args 0 [.ref 1, .retAddr t1, .int (Int32.ofInt p2)]) [] w P := by
  show wp _ 98 0 [(0, .ref 1), (1, .retAddr t1), (2, .int (Int32.ofInt p2))] [] w _
  unfold xt_numberIn at hx
  refine wp_g 3 (pc1 := 3) (lv1 := [(3, .int (Int32.ofInt 0)), (0, .ref 1), (1, .retAddr t1), (2, .int (Int32.ofInt p2))]) (st1 := [.ref 1]) (w1 := w) rfl ?_
  refine wx_gi (kf := 19) (ln := 3) (ci := 9) (b := 2) (zz := 0) (x := 1) (by decide +kernel) h (hS _ _ sx_1) rfl ?_
  show wp _ 98 6 [(3, .int (Int32.ofInt 0)), (0, .ref 1), (1, .retAddr t1), (2, .int (Int32.ofInt p2))] [.int (Int32.ofInt (s 1 2))] w _
  refine wp_g 3 (pc1 := 11) (lv1 := [(5, .int (Int32.ofInt 0)), (4, .int (Int32.ofInt (s 1 2))), (3, .int (Int32.ofInt 0)), (0, .ref 1), (1, .retAddr t1), (2, .int (Int32.ofInt p2))]) (st1 := []) (w1 := w) rfl ?_
  refine wp_lv (lv1 := [(0, .ref 1), (1, .retAddr t1), (2, .int (Int32.ofInt p2)), (3, .int (Int32.ofInt 0)), (4, .int (Int32.ofInt (s 1 2))), (5, .int (Int32.ofInt 0))]) (lsub_p [3, 4, 5, 2, 1, 0] rfl rfl rfl) ?_
  obtain ⟨q1, e2, hx⟩ := bd hx
  refine wp_lp (σ := Int × Int × Int) (ρ := ((Int × Int × Int) ⊕ Int)) (B := fun q => xt_numberIn_b11 s t1 p2 q.1 q.2.1 q.2.2) (R := fun q w' => w = w') (C := fun r => (∀ q1 w1, r = .inl q1 → w = w1 → wp (d + 6) 98 97 [(0, .ref 1), (1, .retAddr t1), (2, .int (Int32.ofInt p2)), (3, .int (Int32.ofInt q1.1)), (4, .int (Int32.ofInt q1.2.1)), (5, .int (Int32.ofInt q1.2.2))] [] w1 P) ∧ (∀ v1 w1, r = .inr v1 → w = w1 → P (some (.int (Int32.ofInt v1))) w1)) (lv := fun q => [(0, .ref 1), (1, .retAddr t1), (2, .int (Int32.ofInt p2)), (3, .int (Int32.ofInt q.1)), (4, .int (Int32.ofInt q.2.1)), (5, .int (Int32.ofInt q.2.2))]) (hd := 11) (fun q w' o hR hb kn kc => by subst hR; exact xt_numberIn_b11_ok hS h hb kn kc) _ _ _ e2 rfl ?_
  refine ⟨?_, fun v6 w1 hs h1 => by subst hs; cases (se_r hx); subst h1; exact kr⟩
  intro q5 w3 hs h4
  subst hs
  replace hx := se_l hx
  subst h4
  show wp _ 98 97 [(0, .ref 1), (1, .retAddr t1), (2, .int (Int32.ofInt p2)), (3, .int (Int32.ofInt q5.1)), (4, .int (Int32.ofInt q5.2.1)), (5, .int (Int32.ofInt q5.2.2))] [] w _
  refine wp_g 1 (pc1 := 98) (lv1 := [(0, .ref 1), (1, .retAddr t1), (2, .int (Int32.ofInt p2)), (3, .int (Int32.ofInt q5.1)), (4, .int (Int32.ofInt q5.2.1)), (5, .int (Int32.ofInt q5.2.2))]) (st1 := [.int (Int32.ofInt (-1))]) (w1 := w) rfl ?_
  refine wp_rt (i := .ireturn) (r := some (.int (Int32.ofInt (-1)))) (ln := 1) (a := 0) (b := 0) (z := 0) (by decide +kernel) rfl (ret_ok (by decide +kernel)) ?_
  cases hx
  exact kr
noncomputable def xt_takeWord_b5 (s : Hp) (t1 : Nat) (x2 : Int) : Option (Int ⊕ Int) :=
  if w32 x2 < w32 (s 1 1) then (ix 400 x2).bind fun i2 => if w32 (s 2 i2) < w32 97 then some (.inr x2) else if w32 122 < w32 (s 2 i2) then some (.inr x2) else some (.inl (x2 + 1)) else some (.inr x2)
set_option maxRecDepth 100000 in
theorem xt_takeWord_b5_ok {d : Nat} {P : Option Value → pm_H → Prop} {w : pm_H} {sh : Shp} {w0 : pm_H} {s : Hp} (hS : St sh) {t1 : Nat} {x2 : Int} (h : Rw sh w0 s w) {o : (Int ⊕ Int)} (hx : xt_takeWord_b5 s t1 x2 = some o) (kn : ∀ (q : Int) w1, o = .inl q → w = w1 → wp (d + 7) 96 5 [(0, .ref 1), (1, .retAddr t1), (2, .int (Int32.ofInt q))] [] w1 P) (kc : ∀ (r : Int), o = .inr r → (∀ w1, w = w1 → wp (d + 7) 96 41 [(0, .ref 1), (1, .retAddr t1), (2, .int (Int32.ofInt r))] [] w1 P)) : wp (d + 7) 96 5 [(0, .ref 1), (1, .retAddr t1), (2, .int (Int32.ofInt x2))] [] w P := by
  unfold xt_takeWord_b5 at hx
  refine wp_g 2 (pc1 := 7) (lv1 := [(0, .ref 1), (1, .retAddr t1), (2, .int (Int32.ofInt x2))]) (st1 := [.ref 1, .int (Int32.ofInt x2)]) (w1 := w) rfl ?_
  refine wx_gi (kf := 15) (ln := 3) (ci := 9) (b := 1) (zz := 0) (x := 1) (by decide +kernel) h (hS _ _ sx_1) rfl ?_
  show wp _ 96 10 [(0, .ref 1), (1, .retAddr t1), (2, .int (Int32.ofInt x2))] [.int (Int32.ofInt (s 1 1)), .int (Int32.ofInt x2)] w _
  refine wx_ge (oo := 31) (ln := 3) (a := 41) (b := 0) (zz := 0) (by decide +kernel) (fun h1 => ?_) (fun h1 => ?_)
  · have hx := ite_f h1 hx
    cases hx
    exact kc _ rfl _ rfl
  · have hx := ite_t h1 hx
    refine wp_g 1 (pc1 := 14) (lv1 := [(0, .ref 1), (1, .retAddr t1), (2, .int (Int32.ofInt x2))]) (st1 := [.ref 1]) (w1 := w) rfl ?_
    refine wx_gr (o := 1) (kf := 9) (ln := 3) (ci := 9) (b := 0) (zz := 0) (x := 1) (by decide +kernel) h (hS _ _ sx_1) rfl ?_
    show wp _ 96 17 [(0, .ref 1), (1, .retAddr t1), (2, .int (Int32.ofInt x2))] [.ref 2] w _
    refine wp_g 1 (pc1 := 18) (lv1 := [(0, .ref 1), (1, .retAddr t1), (2, .int (Int32.ofInt x2))]) (st1 := [.int (Int32.ofInt x2), .ref 2]) (w1 := w) rfl ?_
    obtain ⟨i2, e3, hx⟩ := bd hx
    refine wx_ra (x := 2) (n := 400) (ln := 1) (a := 0) (b := 0) (zz := 0) (by decide +kernel) h (hS _ _ sx_2) e3 ?_
    show wp _ 96 19 [(0, .ref 1), (1, .retAddr t1), (2, .int (Int32.ofInt x2))] [.int (Int32.ofInt (s 2 i2))] w _
    refine wp_g 1 (pc1 := 21) (lv1 := [(0, .ref 1), (1, .retAddr t1), (2, .int (Int32.ofInt x2))]) (st1 := [.int (Int32.ofInt 97), .int (Int32.ofInt (s 2 i2))]) (w1 := w) rfl ?_
    refine wx_lt (oo := 20) (ln := 3) (a := 41) (b := 0) (zz := 0) (by decide +kernel) (fun h4 => ?_) (fun h4 => ?_)
    · have hx := ite_t h4 hx
      cases hx
      exact kc _ rfl _ rfl
    · have hx := ite_f h4 hx
      refine wp_g 1 (pc1 := 25) (lv1 := [(0, .ref 1), (1, .retAddr t1), (2, .int (Int32.ofInt x2))]) (st1 := [.ref 1]) (w1 := w) rfl ?_
      refine wx_gr (o := 1) (kf := 9) (ln := 3) (ci := 9) (b := 0) (zz := 0) (x := 1) (by decide +kernel) h (hS _ _ sx_1) rfl ?_
      show wp _ 96 28 [(0, .ref 1), (1, .retAddr t1), (2, .int (Int32.ofInt x2))] [.ref 2] w _
      refine wp_g 1 (pc1 := 29) (lv1 := [(0, .ref 1), (1, .retAddr t1), (2, .int (Int32.ofInt x2))]) (st1 := [.int (Int32.ofInt x2), .ref 2]) (w1 := w) rfl ?_
      refine wx_ra (x := 2) (n := 400) (ln := 1) (a := 0) (b := 0) (zz := 0) (by decide +kernel) h (hS _ _ sx_2) e3 ?_
      show wp _ 96 30 [(0, .ref 1), (1, .retAddr t1), (2, .int (Int32.ofInt x2))] [.int (Int32.ofInt (s 2 i2))] w _
      refine wp_g 1 (pc1 := 32) (lv1 := [(0, .ref 1), (1, .retAddr t1), (2, .int (Int32.ofInt x2))]) (st1 := [.int (Int32.ofInt 122), .int (Int32.ofInt (s 2 i2))]) (w1 := w) rfl ?_
      refine wx_gt (oo := 9) (ln := 3) (a := 41) (b := 0) (zz := 0) (by decide +kernel) (fun h5 => ?_) (fun h5 => ?_)
      · have hx := ite_t h5 hx
        cases hx
        exact kc _ rfl _ rfl
      · have hx := ite_f h5 hx
        refine wp_g 2 (pc1 := 5) (lv1 := [(2, .int (Int32.ofInt (x2 + 1))), (0, .ref 1), (1, .retAddr t1)]) (st1 := []) (w1 := w) (by simp only [Int32.ofInt_add, Int32.ofInt_sub, Int32.ofInt_mul, Int32.ofInt_neg, p_and, p_or, p_xor, p_shl, p_shr, p_usr, p_w8, p_c16, p_lI, q_and, q_or, q_shl, q_shr, q_w32, Int64.ofInt_add, Int64.ofInt_sub, Int64.ofInt_mul, p_mx, p_mn, q_mx, q_mn]; rfl) ?_
        refine wp_lv (lv1 := [(0, .ref 1), (1, .retAddr t1), (2, .int (Int32.ofInt (x2 + 1)))]) (lsub_p [1, 2, 0] rfl rfl rfl) ?_
        cases hx
        exact kn _ _ rfl rfl
noncomputable def xt_takeWord_j59 (s : Hp) (t1 : Nat) (x2 : Int) (k0 : Int) : Option (Int × Hp) :=
  if w32 k0 = w32 (-1) then some (k0, s) else (some (uh s 1 2 x2)).bind fun s2 => (xt_passBlanks s2).bind fun o6 => some (k0, o6)
set_option maxRecDepth 100000 in
theorem xt_takeWord_j59_ok {d : Nat} {P : Option Value → pm_H → Prop} {w : pm_H} {sh : Shp} {w0 : pm_H} {s : Hp} (hS : St sh) {t1 : Nat} {x2 : Int} {k0 : Int} (h : Rw sh w0 s w) {o : (Int × Hp)} (hx : xt_takeWord_j59 s t1 x2 k0 = some o) (kr : ∀ w1, Rw sh w0 o.2 w1 → P (some (.int (Int32.ofInt o.1))) w1) : wp (d + 7) 96 59 [(0, .ref 1), (2, .int (Int32.ofInt x2))] [.int (Int32.ofInt k0)] w P := by
  unfold xt_takeWord_j59 at hx
  refine wp_g 3 (pc1 := 62) (lv1 := [(3, .int (Int32.ofInt k0)), (0, .ref 1), (2, .int (Int32.ofInt x2))]) (st1 := [.int (Int32.ofInt (-1)), .int (Int32.ofInt k0)]) (w1 := w) rfl ?_
  refine wx_eq (oo := 12) (ln := 3) (a := 74) (b := 0) (zz := 0) (by decide +kernel) (fun h1 => ?_) (fun h1 => ?_)
  · have hx := ite_t h1 hx
    refine wp_g 1 (pc1 := 75) (lv1 := [(3, .int (Int32.ofInt k0)), (0, .ref 1), (2, .int (Int32.ofInt x2))]) (st1 := [.int (Int32.ofInt k0)]) (w1 := w) rfl ?_
    refine wp_rt (i := .ireturn) (r := some (.int (Int32.ofInt k0))) (ln := 1) (a := 0) (b := 0) (z := 0) (by decide +kernel) rfl (ret_ok (by decide +kernel)) ?_
    cases hx
    exact kr _ h
  · have hx := ite_f h1 hx
    refine wp_g 2 (pc1 := 67) (lv1 := [(3, .int (Int32.ofInt k0)), (0, .ref 1), (2, .int (Int32.ofInt x2))]) (st1 := [.int (Int32.ofInt x2), .ref 1]) (w1 := w) rfl ?_
    obtain ⟨s2, e3, hx⟩ := bd hx
    refine wx_pi (kf := 19) (ln := 3) (ci := 9) (b := 2) (zz := 0) (x := 1) (by decide +kernel) h (hS _ _ sx_1) rfl (by decide +kernel) e3 (fun w4 h5 => ?_)
    refine wp_g 1 (pc1 := 71) (lv1 := [(3, .int (Int32.ofInt k0)), (0, .ref 1), (2, .int (Int32.ofInt x2))]) (st1 := [.ref 1]) (w1 := w4) rfl ?_
    obtain ⟨o6, e7, hx⟩ := bd hx
    refine wp_cl [.ref 1] [] (i := .invokevirtual 25) (ln := 3) (a := 100) (b := 0) (z := 0) (by decide +kernel) rfl rfl (by decide) rfl (show (1 : Nat) = pm_na 100 by decide +kernel) (Nat.le_of_ble_eq_true rfl) (show (1 : Nat) ≤ pm_n 100 by decide +kernel) (rcv_x 9 h5 (hS _ _ sx_1) (by decide +kernel)) (xt_passBlanks_ok (d := d + 6) hS h5 e7 (fun w8 h9 => ?_))
    show wp _ 96 74 [(3, .int (Int32.ofInt k0)), (0, .ref 1), (2, .int (Int32.ofInt x2))] [] w8 _
    refine wp_g 1 (pc1 := 75) (lv1 := [(3, .int (Int32.ofInt k0)), (0, .ref 1), (2, .int (Int32.ofInt x2))]) (st1 := [.int (Int32.ofInt k0)]) (w1 := w8) rfl ?_
    refine wp_rt (i := .ireturn) (r := some (.int (Int32.ofInt k0))) (ln := 1) (a := 0) (b := 0) (z := 0) (by decide +kernel) rfl (ret_ok (by decide +kernel)) ?_
    cases hx
    exact kr _ h9
noncomputable def xt_takeWord_j41 (s : Hp) (t1 : Nat) (x2 : Int) : Option (Int × Hp) :=
  if w32 x2 = w32 (s 1 2) then xt_takeWord_j59 s t1 x2 (-1) else (xt_numberIn s t1 x2).bind fun o2 => xt_takeWord_j59 s t1 x2 o2
set_option maxRecDepth 100000 in
theorem xt_takeWord_j41_ok {d : Nat} {P : Option Value → pm_H → Prop} {w : pm_H} {sh : Shp} {w0 : pm_H} {s : Hp} (hS : St sh) {t1 : Nat} {x2 : Int} (h : Rw sh w0 s w) {o : (Int × Hp)} (hx : xt_takeWord_j41 s t1 x2 = some o) (kr : ∀ w1, Rw sh w0 o.2 w1 → P (some (.int (Int32.ofInt o.1))) w1) : wp (d + 7) 96 41 [(0, .ref 1), (1, .retAddr t1), (2, .int (Int32.ofInt x2))] [] w P := by
  unfold xt_takeWord_j41 at hx
  refine wp_g 2 (pc1 := 43) (lv1 := [(0, .ref 1), (1, .retAddr t1), (2, .int (Int32.ofInt x2))]) (st1 := [.ref 1, .int (Int32.ofInt x2)]) (w1 := w) rfl ?_
  refine wx_gi (kf := 19) (ln := 3) (ci := 9) (b := 2) (zz := 0) (x := 1) (by decide +kernel) h (hS _ _ sx_1) rfl ?_
  show wp _ 96 46 [(0, .ref 1), (1, .retAddr t1), (2, .int (Int32.ofInt x2))] [.int (Int32.ofInt (s 1 2)), .int (Int32.ofInt x2)] w _
  refine wx_ne (oo := 7) (ln := 3) (a := 53) (b := 0) (zz := 0) (by decide +kernel) (fun h1 => ?_) (fun h1 => ?_)
  · have hx := ite_f h1 hx
    refine wp_g 3 (pc1 := 56) (lv1 := [(0, .ref 1), (1, .retAddr t1), (2, .int (Int32.ofInt x2))]) (st1 := [.int (Int32.ofInt x2), .retAddr t1, .ref 1]) (w1 := w) rfl ?_
    obtain ⟨o2, e3, hx⟩ := bd hx
    refine wp_cl [.ref 1, .retAddr t1, .int (Int32.ofInt x2)] [] (i := .invokevirtual 43) (ln := 3) (a := 98) (b := 0) (z := 0) (by decide +kernel) rfl rfl (by decide) rfl (show (3 : Nat) = pm_na 98 by decide +kernel) (Nat.le_of_ble_eq_true rfl) (show (3 : Nat) ≤ pm_n 98 by decide +kernel) (rcv_x 9 h (hS _ _ sx_1) (by decide +kernel)) (xt_numberIn_ok (d := d) hS h e3 ?_)
    show wp _ 96 59 [(0, .ref 1), (1, .retAddr t1), (2, .int (Int32.ofInt x2))] [.int (Int32.ofInt o2)] w _
    refine wp_lv (lv1 := [(0, .ref 1), (2, .int (Int32.ofInt x2))]) (lsub_p [0, 2] rfl rfl rfl) ?_
    exact xt_takeWord_j59_ok hS h hx kr
  · have hx := ite_t h1 hx
    refine wp_g 2 (pc1 := 59) (lv1 := [(0, .ref 1), (1, .retAddr t1), (2, .int (Int32.ofInt x2))]) (st1 := [.int (Int32.ofInt (-1))]) (w1 := w) rfl ?_
    refine wp_lv (lv1 := [(0, .ref 1), (2, .int (Int32.ofInt x2))]) (lsub_p [0, 2] rfl rfl rfl) ?_
    exact xt_takeWord_j59_ok hS h hx kr
/-- Text.takeWord (Ljava/lang/String;)I -/
noncomputable def xt_takeWord (s : Hp) (t1 : Nat) : Option (Int × Hp) :=
  (lp (fun (q : Int) => xt_takeWord_b5 s t1 q) (s 1 2)).bind fun q1 => xt_takeWord_j41 s t1 q1
set_option maxRecDepth 100000 in
theorem xt_takeWord_ok {d : Nat} {P : Option Value → pm_H → Prop} {w : pm_H} {sh : Shp} {w0 : pm_H} {s : Hp} (hS : St sh) {t1 : Nat} (h : Rw sh w0 s w) {o : Int × Hp} (hx : xt_takeWord s t1 = some o) (kr : ∀ w1, Rw sh w0 o.2 w1 → P (some (.int (Int32.ofInt o.1))) w1) : wp (d + 7) 96 0 (lv_args 0 [.ref 1, .retAddr t1]) [] w P := by
  show wp _ 96 0 [(0, .ref 1), (1, .retAddr t1)] [] w _
  unfold xt_takeWord at hx
  refine wp_g 1 (pc1 := 1) (lv1 := [(0, .ref 1), (1, .retAddr t1)]) (st1 := [.ref 1]) (w1 := w) rfl ?_
  refine wx_gi (kf := 19) (ln := 3) (ci := 9) (b := 2) (zz := 0) (x := 1) (by decide +kernel) h (hS _ _ sx_1) rfl ?_
  show wp _ 96 4 [(0, .ref 1), (1, .retAddr t1)] [.int (Int32.ofInt (s 1 2))] w _
  refine wp_g 1 (pc1 := 5) (lv1 := [(2, .int (Int32.ofInt (s 1 2))), (0, .ref 1), (1, .retAddr t1)]) (st1 := []) (w1 := w) rfl ?_
  refine wp_lv (lv1 := [(0, .ref 1), (1, .retAddr t1), (2, .int (Int32.ofInt (s 1 2)))]) (lsub_p [1, 2, 0] rfl rfl rfl) ?_
  obtain ⟨q1, e2, hx⟩ := bd hx
  refine wp_lp (σ := Int) (ρ := Int) (B := fun q => xt_takeWord_b5 s t1 q) (R := fun q w' => w = w') (C := fun r => ∀ w1, w = w1 → wp (d + 7) 96 41 [(0, .ref 1), (1, .retAddr t1), (2, .int (Int32.ofInt r))] [] w1 P) (lv := fun q => [(0, .ref 1), (1, .retAddr t1), (2, .int (Int32.ofInt q))]) (hd := 5) (fun q w' o hR hb kn kc => by subst hR; exact xt_takeWord_b5_ok hS h hb kn kc) _ _ _ e2 rfl ?_
  intro w3 h4
  subst h4
  show wp _ 96 41 [(0, .ref 1), (1, .retAddr t1), (2, .int (Int32.ofInt q1))] [] w _
  exact xt_takeWord_j41_ok hS h hx kr
/-- Text.takesWord (Ljava/lang/String;)Z -/
noncomputable def xt_takesWord (s : Hp) (t1 : Nat) : Option (Int × Hp) :=
  (xt_takeWord s t1).bind fun o1 => if w32 o1.1 = w32 (-1) then some (0, o1.2) else some (1, o1.2)
set_option maxRecDepth 100000 in
theorem xt_takesWord_ok {d : Nat} {P : Option Value → pm_H → Prop} {w : pm_H} {sh : Shp} {w0 : pm_H} {s : Hp} (hS : St sh) {t1 : Nat} (h : Rw sh w0 s w) {o : Int × Hp} (hx : xt_takesWord s t1 = some o) (kr : ∀ w1, Rw sh w0 o.2 w1 → P (some (.int (Int32.ofInt o.1))) w1) : wp (d + 8) 97 0 (lv_args 0 [.ref 1, .retAddr t1]) [] w P := by
  show wp _ 97 0 [(0, .ref 1), (1, .retAddr t1)] [] w _
  unfold xt_takesWord at hx
  refine wp_g 2 (pc1 := 2) (lv1 := [(0, .ref 1), (1, .retAddr t1)]) (st1 := [.retAddr t1, .ref 1]) (w1 := w) rfl ?_
  obtain ⟨o1, e2, hx⟩ := bd hx
  refine wp_cl [.ref 1, .retAddr t1] [] (i := .invokevirtual 47) (ln := 3) (a := 96) (b := 0) (z := 0) (by decide +kernel) rfl rfl (by decide) rfl (show (2 : Nat) = pm_na 96 by decide +kernel) (Nat.le_of_ble_eq_true rfl) (show (2 : Nat) ≤ pm_n 96 by decide +kernel) (rcv_x 9 h (hS _ _ sx_1) (by decide +kernel)) (xt_takeWord_ok (d := d) hS h e2 (fun w3 h4 => ?_))
  show wp _ 97 5 [(0, .ref 1), (1, .retAddr t1)] [.int (Int32.ofInt o1.1)] w3 _
  refine wp_g 1 (pc1 := 6) (lv1 := [(0, .ref 1), (1, .retAddr t1)]) (st1 := [.int (Int32.ofInt (-1)), .int (Int32.ofInt o1.1)]) (w1 := w3) rfl ?_
  refine wx_eq (oo := 7) (ln := 3) (a := 13) (b := 0) (zz := 0) (by decide +kernel) (fun h5 => ?_) (fun h5 => ?_)
  · have hx := ite_t h5 hx
    refine wp_g 1 (pc1 := 14) (lv1 := [(0, .ref 1), (1, .retAddr t1)]) (st1 := [.int (Int32.ofInt 0)]) (w1 := w3) rfl ?_
    refine wp_rt (i := .ireturn) (r := some (.int (Int32.ofInt 0))) (ln := 1) (a := 0) (b := 0) (z := 0) (by decide +kernel) rfl (ret_b (by decide +kernel) (Or.inl rfl)) ?_
    cases hx
    exact kr _ h4
  · have hx := ite_f h5 hx
    refine wp_g 2 (pc1 := 14) (lv1 := [(0, .ref 1), (1, .retAddr t1)]) (st1 := [.int (Int32.ofInt 1)]) (w1 := w3) rfl ?_
    refine wp_rt (i := .ireturn) (r := some (.int (Int32.ofInt 1))) (ln := 1) (a := 0) (b := 0) (z := 0) (by decide +kernel) rfl (ret_b (by decide +kernel) (Or.inr rfl)) ?_
    cases hx
    exact kr _ h4
