/-! by program (wip/whole/gx.py) -/
/-- FoldDeedsModel.in (JJJ)Z -/
noncomputable def xm_in (p0 : Int) (p2 : Int) (p4 : Int) : Option Int :=
  if w64 p0 < w64 p2 then some 0 else if w64 p4 < w64 p0 then some 0 else some 1
set_option maxRecDepth 100000 in
theorem xm_in_ok {d : Nat} {P : Option Value → pm_H → Prop} {w : pm_H} {p0 : Int} {p2 : Int} {p4 : Int} {o : Int} (hx : xm_in p0 p2 p4 = some o) (kr : P (some (.int (Int32.ofInt o))) w) : wp d 147 0 (lv_args 0 [.long (Int64.ofInt p0), .long (Int64.ofInt p2), .long (Int64.ofInt p4)]) [] w P := by
  show wp _ 147 0 [(0, .long (Int64.ofInt p0)), (2, .long (Int64.ofInt p2)), (4, .long (Int64.ofInt p4))] [] w _
  unfold xm_in at hx
  refine wp_g 3 (pc1 := 3) (lv1 := [(0, .long (Int64.ofInt p0)), (2, .long (Int64.ofInt p2)), (4, .long (Int64.ofInt p4))]) (st1 := [.int (lg_cmp (Int64.ofInt p0) (Int64.ofInt p2))]) (w1 := w) rfl ?_
  refine wl_lt (oo := 14) (ln := 3) (a := 17) (b := 0) (zz := 0) (by decide +kernel) (fun h1 => ?_) (fun h1 => ?_)
  · have hx := ite_t h1 hx
    refine wp_g 1 (pc1 := 18) (lv1 := [(0, .long (Int64.ofInt p0)), (2, .long (Int64.ofInt p2)), (4, .long (Int64.ofInt p4))]) (st1 := [.int (Int32.ofInt 0)]) (w1 := w) rfl ?_
    refine wp_rt (i := .ireturn) (r := some (.int (Int32.ofInt 0))) (ln := 1) (a := 0) (b := 0) (z := 0) (by decide +kernel) rfl (ret_b (by decide +kernel) (Or.inl rfl)) ?_
    cases hx
    exact kr
  · have hx := ite_f h1 hx
    refine wp_g 3 (pc1 := 10) (lv1 := [(0, .long (Int64.ofInt p0)), (2, .long (Int64.ofInt p2)), (4, .long (Int64.ofInt p4))]) (st1 := [.int (lg_cmp (Int64.ofInt p0) (Int64.ofInt p4))]) (w1 := w) rfl ?_
    refine wl_gt (oo := 7) (ln := 3) (a := 17) (b := 0) (zz := 0) (by decide +kernel) (fun h2 => ?_) (fun h2 => ?_)
    · have hx := ite_t h2 hx
      refine wp_g 1 (pc1 := 18) (lv1 := [(0, .long (Int64.ofInt p0)), (2, .long (Int64.ofInt p2)), (4, .long (Int64.ofInt p4))]) (st1 := [.int (Int32.ofInt 0)]) (w1 := w) rfl ?_
      refine wp_rt (i := .ireturn) (r := some (.int (Int32.ofInt 0))) (ln := 1) (a := 0) (b := 0) (z := 0) (by decide +kernel) rfl (ret_b (by decide +kernel) (Or.inl rfl)) ?_
      cases hx
      exact kr
    · have hx := ite_f h2 hx
      refine wp_g 2 (pc1 := 18) (lv1 := [(0, .long (Int64.ofInt p0)), (2, .long (Int64.ofInt p2)), (4, .long (Int64.ofInt p4))]) (st1 := [.int (Int32.ofInt 1)]) (w1 := w) rfl ?_
      refine wp_rt (i := .ireturn) (r := some (.int (Int32.ofInt 1))) (ln := 1) (a := 0) (b := 0) (z := 0) (by decide +kernel) rfl (ret_b (by decide +kernel) (Or.inr rfl)) ?_
      cases hx
      exact kr
/-- FoldDeedsModel.isOf (II)Z -/
noncomputable def xm_isOf (p0 : Int) (p1 : Int) : Option Int :=
  if w32 (bAnd (bShr p0 p1) 1) = w32 1 then some 1 else some 0
set_option maxRecDepth 100000 in
theorem xm_isOf_ok {d : Nat} {P : Option Value → pm_H → Prop} {w : pm_H} {p0 : Int} {p1 : Int} {o : Int} (hx : xm_isOf p0 p1 = some o) (kr : P (some (.int (Int32.ofInt o))) w) : wp d 148 0 (lv_args 0 [.int (Int32.ofInt p0), .int (Int32.ofInt p1)]) [] w P := by
  show wp _ 148 0 [(0, .int (Int32.ofInt p0)), (1, .int (Int32.ofInt p1))] [] w _
  unfold xm_isOf at hx
  refine wp_g 6 (pc1 := 6) (lv1 := [(0, .int (Int32.ofInt p0)), (1, .int (Int32.ofInt p1))]) (st1 := [.int (Int32.ofInt 1), .int (Int32.ofInt (bAnd (bShr p0 p1) 1))]) (w1 := w) (by simp only [Int32.ofInt_add, Int32.ofInt_sub, Int32.ofInt_mul, Int32.ofInt_neg, p_and, p_or, p_xor, p_shl, p_shr, p_usr, p_w8, p_c16, p_lI, q_and, q_or, q_shl, q_shr, q_w32, Int64.ofInt_add, Int64.ofInt_sub, Int64.ofInt_mul, p_mx, p_mn, q_mx, q_mn]; rfl) ?_
  refine wx_ne (oo := 7) (ln := 3) (a := 13) (b := 0) (zz := 0) (by decide +kernel) (fun h1 => ?_) (fun h1 => ?_)
  · have hx := ite_f h1 hx
    refine wp_g 1 (pc1 := 14) (lv1 := [(0, .int (Int32.ofInt p0)), (1, .int (Int32.ofInt p1))]) (st1 := [.int (Int32.ofInt 0)]) (w1 := w) rfl ?_
    refine wp_rt (i := .ireturn) (r := some (.int (Int32.ofInt 0))) (ln := 1) (a := 0) (b := 0) (z := 0) (by decide +kernel) rfl (ret_b (by decide +kernel) (Or.inl rfl)) ?_
    cases hx
    exact kr
  · have hx := ite_t h1 hx
    refine wp_g 2 (pc1 := 14) (lv1 := [(0, .int (Int32.ofInt p0)), (1, .int (Int32.ofInt p1))]) (st1 := [.int (Int32.ofInt 1)]) (w1 := w) rfl ?_
    refine wp_rt (i := .ireturn) (r := some (.int (Int32.ofInt 1))) (ln := 1) (a := 0) (b := 0) (z := 0) (by decide +kernel) rfl (ret_b (by decide +kernel) (Or.inr rfl)) ?_
    cases hx
    exact kr
noncomputable def xm_four_b3 (s : Hp) (x1 : Int) (x2 : Int) : Option ((Int × Hp) ⊕ (Int × Hp)) :=
  if w32 x2 < 0 then some (.inr (x2, s)) else (ix 400 (s 146 1)).bind fun i2 => (some (uh s 147 i2 (w8 (w8 (bShr x1 x2))))).bind fun s4 => (some (uh s4 146 1 ((s4 146 1) + 1))).bind fun s8 => some (.inl (x2 + (-8), s8))
set_option maxRecDepth 100000 in
theorem xm_four_b3_ok {d : Nat} {P : Option Value → pm_H → Prop} {w : pm_H} {sh : Shp} {w0 : pm_H} {s : Hp} (hS : StM sh) {x1 : Int} {x2 : Int} (h : Rw sh w0 s w) {o : ((Int × Hp) ⊕ (Int × Hp))} (hx : xm_four_b3 s x1 x2 = some o) (kn : ∀ (q : Int × Hp) w1, o = .inl q → Rw sh w0 q.2 w1 → wp d 149 3 [(0, .ref 146), (1, .int (Int32.ofInt x1)), (2, .int (Int32.ofInt q.1))] [] w1 P) (kc : ∀ (r : (Int × Hp)), o = .inr r → (∀ w1, Rw sh w0 r.2 w1 → wp d 149 36 [(0, .ref 146), (1, .int (Int32.ofInt x1)), (2, .int (Int32.ofInt r.1))] [] w1 P)) : wp d 149 3 [(0, .ref 146), (1, .int (Int32.ofInt x1)), (2, .int (Int32.ofInt x2))] [] w P := by
  unfold xm_four_b3 at hx
  refine wp_g 1 (pc1 := 4) (lv1 := [(0, .ref 146), (1, .int (Int32.ofInt x1)), (2, .int (Int32.ofInt x2))]) (st1 := [.int (Int32.ofInt x2)]) (w1 := w) rfl ?_
  refine wz_lt (oo := 32) (ln := 3) (a := 36) (b := 0) (zz := 0) (by decide +kernel) (fun h1 => ?_) (fun h1 => ?_)
  · have hx := ite_t h1 hx
    cases hx
    exact kc _ rfl _ h
  · have hx := ite_f h1 hx
    refine wp_g 1 (pc1 := 8) (lv1 := [(0, .ref 146), (1, .int (Int32.ofInt x1)), (2, .int (Int32.ofInt x2))]) (st1 := [.ref 146]) (w1 := w) rfl ?_
    refine wx_gr (o := 1) (kf := 7) (ln := 3) (ci := 12) (b := 0) (zz := 0) (x := 146) (by decide +kernel) h (hS _ _ sm_146) rfl ?_
    show wp _ 149 11 [(0, .ref 146), (1, .int (Int32.ofInt x1)), (2, .int (Int32.ofInt x2))] [.ref 147] w _
    refine wp_g 1 (pc1 := 12) (lv1 := [(0, .ref 146), (1, .int (Int32.ofInt x1)), (2, .int (Int32.ofInt x2))]) (st1 := [.ref 146, .ref 147]) (w1 := w) rfl ?_
    refine wx_gi (kf := 101) (ln := 3) (ci := 12) (b := 1) (zz := 0) (x := 146) (by decide +kernel) h (hS _ _ sm_146) rfl ?_
    show wp _ 149 15 [(0, .ref 146), (1, .int (Int32.ofInt x1)), (2, .int (Int32.ofInt x2))] [.int (Int32.ofInt (s 146 1)), .ref 147] w _
    refine wp_g 4 (pc1 := 19) (lv1 := [(0, .ref 146), (1, .int (Int32.ofInt x1)), (2, .int (Int32.ofInt x2))]) (st1 := [.int (Int32.ofInt (w8 (bShr x1 x2))), .int (Int32.ofInt (s 146 1)), .ref 147]) (w1 := w) (by simp only [Int32.ofInt_add, Int32.ofInt_sub, Int32.ofInt_mul, Int32.ofInt_neg, p_and, p_or, p_xor, p_shl, p_shr, p_usr, p_w8, p_c16, p_lI, q_and, q_or, q_shl, q_shr, q_w32, Int64.ofInt_add, Int64.ofInt_sub, Int64.ofInt_mul, p_mx, p_mn, q_mx, q_mn]; rfl) ?_
    obtain ⟨i2, e3, hx⟩ := bd hx
    obtain ⟨s4, e5, hx⟩ := bd hx
    refine wx_wb (x := 147) (n := 400) (ln := 1) (a := 0) (b := 0) (zz := 0) (by decide +kernel) h (hS _ _ sm_147) e3 e5 (fun w6 h7 => ?_)
    refine wp_g 2 (pc1 := 22) (lv1 := [(0, .ref 146), (1, .int (Int32.ofInt x1)), (2, .int (Int32.ofInt x2))]) (st1 := [.ref 146, .ref 146]) (w1 := w6) rfl ?_
    refine wx_gi (kf := 101) (ln := 3) (ci := 12) (b := 1) (zz := 0) (x := 146) (by decide +kernel) h7 (hS _ _ sm_146) rfl ?_
    show wp _ 149 25 [(0, .ref 146), (1, .int (Int32.ofInt x1)), (2, .int (Int32.ofInt x2))] [.int (Int32.ofInt (s4 146 1)), .ref 146] w6 _
    refine wp_g 2 (pc1 := 27) (lv1 := [(0, .ref 146), (1, .int (Int32.ofInt x1)), (2, .int (Int32.ofInt x2))]) (st1 := [.int (Int32.ofInt ((s4 146 1) + 1)), .ref 146]) (w1 := w6) (by simp only [Int32.ofInt_add, Int32.ofInt_sub, Int32.ofInt_mul, Int32.ofInt_neg, p_and, p_or, p_xor, p_shl, p_shr, p_usr, p_w8, p_c16, p_lI, q_and, q_or, q_shl, q_shr, q_w32, Int64.ofInt_add, Int64.ofInt_sub, Int64.ofInt_mul, p_mx, p_mn, q_mx, q_mn]; rfl) ?_
    obtain ⟨s8, e9, hx⟩ := bd hx
    refine wx_pi (kf := 101) (ln := 3) (ci := 12) (b := 1) (zz := 0) (x := 146) (by decide +kernel) h7 (hS _ _ sm_146) rfl (by decide +kernel) e9 (fun w10 h11 => ?_)
    refine wp_g 2 (pc1 := 3) (lv1 := [(2, .int (Int32.ofInt (x2 + (-8)))), (0, .ref 146), (1, .int (Int32.ofInt x1))]) (st1 := []) (w1 := w10) (by simp only [Int32.ofInt_add, Int32.ofInt_sub, Int32.ofInt_mul, Int32.ofInt_neg, p_and, p_or, p_xor, p_shl, p_shr, p_usr, p_w8, p_c16, p_lI, q_and, q_or, q_shl, q_shr, q_w32, Int64.ofInt_add, Int64.ofInt_sub, Int64.ofInt_mul, p_mx, p_mn, q_mx, q_mn]; rfl) ?_
    refine wp_lv (lv1 := [(0, .ref 146), (1, .int (Int32.ofInt x1)), (2, .int (Int32.ofInt (x2 + (-8))))]) (lsub_p [1, 2, 0] rfl rfl rfl) ?_
    cases hx
    exact kn _ _ rfl h11
/-- FoldDeedsModel.four (I)V -/
noncomputable def xm_four (s : Hp) (p1 : Int) : Option Hp :=
  (lp (fun (q : Int × Hp) => xm_four_b3 q.2 p1 q.1) (24, s)).bind fun q1 => some q1.2
set_option maxRecDepth 100000 in
theorem xm_four_ok {d : Nat} {P : Option Value → pm_H → Prop} {w : pm_H} {sh : Shp} {w0 : pm_H} {s : Hp} (hS : StM sh) {p1 : Int} (h : Rw sh w0 s w) {o : Hp} (hx : xm_four s p1 = some o) (kr : ∀ w1, Rw sh w0 o w1 → P none w1) : wp d 149 0 (lv_args 0 [.ref 146, .int (Int32.ofInt p1)]) [] w P := by
  show wp _ 149 0 [(0, .ref 146), (1, .int (Int32.ofInt p1))] [] w _
  unfold xm_four at hx
  refine wp_g 2 (pc1 := 3) (lv1 := [(2, .int (Int32.ofInt 24)), (0, .ref 146), (1, .int (Int32.ofInt p1))]) (st1 := []) (w1 := w) rfl ?_
  refine wp_lv (lv1 := [(0, .ref 146), (1, .int (Int32.ofInt p1)), (2, .int (Int32.ofInt 24))]) (lsub_p [1, 2, 0] rfl rfl rfl) ?_
  obtain ⟨q1, e2, hx⟩ := bd hx
  refine wp_lp (σ := Int × Hp) (ρ := (Int × Hp)) (B := fun q => xm_four_b3 q.2 p1 q.1) (R := fun q w' => Rw sh w0 q.2 w') (C := fun r => ∀ w1, Rw sh w0 r.2 w1 → wp d 149 36 [(0, .ref 146), (1, .int (Int32.ofInt p1)), (2, .int (Int32.ofInt r.1))] [] w1 P) (lv := fun q => [(0, .ref 146), (1, .int (Int32.ofInt p1)), (2, .int (Int32.ofInt q.1))]) (hd := 3) (fun q w' o hR hb kn kc => xm_four_b3_ok hS hR hb kn kc) _ _ _ e2 h ?_
  intro w3 h4
  show wp _ 149 36 [(0, .ref 146), (1, .int (Int32.ofInt p1)), (2, .int (Int32.ofInt q1.1))] [] w3 _
  refine wp_rt (i := .return_) (r := none) (ln := 1) (a := 0) (b := 0) (z := 0) (by decide +kernel) rfl (ret_v (by decide +kernel)) ?_
  cases hx
  exact kr _ h4
/-- FoldDeedsModel.feed (IIIII)I -/
noncomputable def xm_feed (s : Hp) (p1 : Int) (p2 : Int) (p3 : Int) (p4 : Int) (p5 : Int) : Option (Int × Hp) :=
  if w32 400 < w32 ((s 146 1) + 20) then some ((-1), s) else (xm_four s p1).bind fun o2 => (xm_four o2 p2).bind fun o6 => (xm_four o6 p3).bind fun o10 => (xm_four o10 p4).bind fun o14 => (xm_four o14 p5).bind fun o18 => some (o18 146 1, o18)
set_option maxRecDepth 100000 in
theorem xm_feed_ok {d : Nat} {P : Option Value → pm_H → Prop} {w : pm_H} {sh : Shp} {w0 : pm_H} {s : Hp} (hS : StM sh) {p1 : Int} {p2 : Int} {p3 : Int} {p4 : Int} {p5 : Int} (h : Rw sh w0 s w) {o : Int × Hp} (hx : xm_feed s p1 p2 p3 p4 p5 = some o) (kr : ∀ w1, Rw sh w0 o.2 w1 → P (some (.int (Int32.ofInt o.1))) w1) : wp (d + 1) 150 0 (lv_args 0 [.ref 146, .int (Int32.ofInt p1), .int (Int32.ofInt p2), .int (Int32.ofInt p3), .int (Int32.ofInt p4), .int (Int32.ofInt p5)]) [] w P := by
  show wp _ 150 0 [(0, .ref 146), (1, .int (Int32.ofInt p1)), (2, .int (Int32.ofInt p2)), (3, .int (Int32.ofInt p3)), (4, .int (Int32.ofInt p4)), (5, .int (Int32.ofInt p5))] [] w _
  unfold xm_feed at hx
  refine wp_g 1 (pc1 := 1) (lv1 := [(0, .ref 146), (1, .int (Int32.ofInt p1)), (2, .int (Int32.ofInt p2)), (3, .int (Int32.ofInt p3)), (4, .int (Int32.ofInt p4)), (5, .int (Int32.ofInt p5))]) (st1 := [.ref 146]) (w1 := w) rfl ?_
  refine wx_gi (kf := 101) (ln := 3) (ci := 12) (b := 1) (zz := 0) (x := 146) (by decide +kernel) h (hS _ _ sm_146) rfl ?_
  show wp _ 150 4 [(0, .ref 146), (1, .int (Int32.ofInt p1)), (2, .int (Int32.ofInt p2)), (3, .int (Int32.ofInt p3)), (4, .int (Int32.ofInt p4)), (5, .int (Int32.ofInt p5))] [.int (Int32.ofInt (s 146 1))] w _
  refine wp_g 3 (pc1 := 10) (lv1 := [(0, .ref 146), (1, .int (Int32.ofInt p1)), (2, .int (Int32.ofInt p2)), (3, .int (Int32.ofInt p3)), (4, .int (Int32.ofInt p4)), (5, .int (Int32.ofInt p5))]) (st1 := [.int (Int32.ofInt 400), .int (Int32.ofInt ((s 146 1) + 20))]) (w1 := w) (by simp only [Int32.ofInt_add, Int32.ofInt_sub, Int32.ofInt_mul, Int32.ofInt_neg, p_and, p_or, p_xor, p_shl, p_shr, p_usr, p_w8, p_c16, p_lI, q_and, q_or, q_shl, q_shr, q_w32, Int64.ofInt_add, Int64.ofInt_sub, Int64.ofInt_mul, p_mx, p_mn, q_mx, q_mn]; rfl) ?_
  refine wx_le (oo := 5) (ln := 3) (a := 15) (b := 0) (zz := 0) (by decide +kernel) (fun h1 => ?_) (fun h1 => ?_)
  · have hx := ite_f h1 hx
    refine wp_g 2 (pc1 := 17) (lv1 := [(0, .ref 146), (1, .int (Int32.ofInt p1)), (2, .int (Int32.ofInt p2)), (3, .int (Int32.ofInt p3)), (4, .int (Int32.ofInt p4)), (5, .int (Int32.ofInt p5))]) (st1 := [.int (Int32.ofInt p1), .ref 146]) (w1 := w) rfl ?_
    obtain ⟨o2, e3, hx⟩ := bd hx
    refine wp_cl [.ref 146, .int (Int32.ofInt p1)] [] (i := .invokevirtual 104) (ln := 3) (a := 149) (b := 0) (z := 0) (by decide +kernel) rfl rfl (by decide) rfl (show (2 : Nat) = pm_na 149 by decide +kernel) (Nat.le_of_ble_eq_true rfl) (show (2 : Nat) ≤ pm_n 149 by decide +kernel) (rcv_x 12 h (hS _ _ sm_146) (by decide +kernel)) (xm_four_ok (d := d) hS h e3 (fun w4 h5 => ?_))
    show wp _ 150 20 [(0, .ref 146), (1, .int (Int32.ofInt p1)), (2, .int (Int32.ofInt p2)), (3, .int (Int32.ofInt p3)), (4, .int (Int32.ofInt p4)), (5, .int (Int32.ofInt p5))] [] w4 _
    refine wp_g 2 (pc1 := 22) (lv1 := [(0, .ref 146), (1, .int (Int32.ofInt p1)), (2, .int (Int32.ofInt p2)), (3, .int (Int32.ofInt p3)), (4, .int (Int32.ofInt p4)), (5, .int (Int32.ofInt p5))]) (st1 := [.int (Int32.ofInt p2), .ref 146]) (w1 := w4) rfl ?_
    obtain ⟨o6, e7, hx⟩ := bd hx
    refine wp_cl [.ref 146, .int (Int32.ofInt p2)] [] (i := .invokevirtual 104) (ln := 3) (a := 149) (b := 0) (z := 0) (by decide +kernel) rfl rfl (by decide) rfl (show (2 : Nat) = pm_na 149 by decide +kernel) (Nat.le_of_ble_eq_true rfl) (show (2 : Nat) ≤ pm_n 149 by decide +kernel) (rcv_x 12 h5 (hS _ _ sm_146) (by decide +kernel)) (xm_four_ok (d := d) hS h5 e7 (fun w8 h9 => ?_))
    show wp _ 150 25 [(0, .ref 146), (1, .int (Int32.ofInt p1)), (2, .int (Int32.ofInt p2)), (3, .int (Int32.ofInt p3)), (4, .int (Int32.ofInt p4)), (5, .int (Int32.ofInt p5))] [] w8 _
    refine wp_g 2 (pc1 := 27) (lv1 := [(0, .ref 146), (1, .int (Int32.ofInt p1)), (2, .int (Int32.ofInt p2)), (3, .int (Int32.ofInt p3)), (4, .int (Int32.ofInt p4)), (5, .int (Int32.ofInt p5))]) (st1 := [.int (Int32.ofInt p3), .ref 146]) (w1 := w8) rfl ?_
    obtain ⟨o10, e11, hx⟩ := bd hx
    refine wp_cl [.ref 146, .int (Int32.ofInt p3)] [] (i := .invokevirtual 104) (ln := 3) (a := 149) (b := 0) (z := 0) (by decide +kernel) rfl rfl (by decide) rfl (show (2 : Nat) = pm_na 149 by decide +kernel) (Nat.le_of_ble_eq_true rfl) (show (2 : Nat) ≤ pm_n 149 by decide +kernel) (rcv_x 12 h9 (hS _ _ sm_146) (by decide +kernel)) (xm_four_ok (d := d) hS h9 e11 (fun w12 h13 => ?_))
    show wp _ 150 30 [(0, .ref 146), (1, .int (Int32.ofInt p1)), (2, .int (Int32.ofInt p2)), (3, .int (Int32.ofInt p3)), (4, .int (Int32.ofInt p4)), (5, .int (Int32.ofInt p5))] [] w12 _
    refine wp_g 2 (pc1 := 33) (lv1 := [(0, .ref 146), (1, .int (Int32.ofInt p1)), (2, .int (Int32.ofInt p2)), (3, .int (Int32.ofInt p3)), (4, .int (Int32.ofInt p4)), (5, .int (Int32.ofInt p5))]) (st1 := [.int (Int32.ofInt p4), .ref 146]) (w1 := w12) rfl ?_
    obtain ⟨o14, e15, hx⟩ := bd hx
    refine wp_cl [.ref 146, .int (Int32.ofInt p4)] [] (i := .invokevirtual 104) (ln := 3) (a := 149) (b := 0) (z := 0) (by decide +kernel) rfl rfl (by decide) rfl (show (2 : Nat) = pm_na 149 by decide +kernel) (Nat.le_of_ble_eq_true rfl) (show (2 : Nat) ≤ pm_n 149 by decide +kernel) (rcv_x 12 h13 (hS _ _ sm_146) (by decide +kernel)) (xm_four_ok (d := d) hS h13 e15 (fun w16 h17 => ?_))
    show wp _ 150 36 [(0, .ref 146), (1, .int (Int32.ofInt p1)), (2, .int (Int32.ofInt p2)), (3, .int (Int32.ofInt p3)), (4, .int (Int32.ofInt p4)), (5, .int (Int32.ofInt p5))] [] w16 _
    refine wp_g 2 (pc1 := 39) (lv1 := [(0, .ref 146), (1, .int (Int32.ofInt p1)), (2, .int (Int32.ofInt p2)), (3, .int (Int32.ofInt p3)), (4, .int (Int32.ofInt p4)), (5, .int (Int32.ofInt p5))]) (st1 := [.int (Int32.ofInt p5), .ref 146]) (w1 := w16) rfl ?_
    obtain ⟨o18, e19, hx⟩ := bd hx
    refine wp_cl [.ref 146, .int (Int32.ofInt p5)] [] (i := .invokevirtual 104) (ln := 3) (a := 149) (b := 0) (z := 0) (by decide +kernel) rfl rfl (by decide) rfl (show (2 : Nat) = pm_na 149 by decide +kernel) (Nat.le_of_ble_eq_true rfl) (show (2 : Nat) ≤ pm_n 149 by decide +kernel) (rcv_x 12 h17 (hS _ _ sm_146) (by decide +kernel)) (xm_four_ok (d := d) hS h17 e19 (fun w20 h21 => ?_))
    show wp _ 150 42 [(0, .ref 146), (1, .int (Int32.ofInt p1)), (2, .int (Int32.ofInt p2)), (3, .int (Int32.ofInt p3)), (4, .int (Int32.ofInt p4)), (5, .int (Int32.ofInt p5))] [] w20 _
    refine wp_g 1 (pc1 := 43) (lv1 := [(0, .ref 146), (1, .int (Int32.ofInt p1)), (2, .int (Int32.ofInt p2)), (3, .int (Int32.ofInt p3)), (4, .int (Int32.ofInt p4)), (5, .int (Int32.ofInt p5))]) (st1 := [.ref 146]) (w1 := w20) rfl ?_
    refine wx_gi (kf := 101) (ln := 3) (ci := 12) (b := 1) (zz := 0) (x := 146) (by decide +kernel) h21 (hS _ _ sm_146) rfl ?_
    show wp _ 150 46 [(0, .ref 146), (1, .int (Int32.ofInt p1)), (2, .int (Int32.ofInt p2)), (3, .int (Int32.ofInt p3)), (4, .int (Int32.ofInt p4)), (5, .int (Int32.ofInt p5))] [.int (Int32.ofInt (o18 146 1))] w20 _
    refine wp_rt (i := .ireturn) (r := some (.int (Int32.ofInt (o18 146 1)))) (ln := 1) (a := 0) (b := 0) (z := 0) (by decide +kernel) rfl (ret_ok (by decide +kernel)) ?_
    cases hx
    exact kr _ h21
  · have hx := ite_t h1 hx
    refine wp_g 1 (pc1 := 14) (lv1 := [(0, .ref 146), (1, .int (Int32.ofInt p1)), (2, .int (Int32.ofInt p2)), (3, .int (Int32.ofInt p3)), (4, .int (Int32.ofInt p4)), (5, .int (Int32.ofInt p5))]) (st1 := [.int (Int32.ofInt (-1))]) (w1 := w) rfl ?_
    refine wp_rt (i := .ireturn) (r := some (.int (Int32.ofInt (-1)))) (ln := 1) (a := 0) (b := 0) (z := 0) (by decide +kernel) rfl (ret_ok (by decide +kernel)) ?_
    cases hx
    exact kr _ h
/-- FoldDeedsModel.end (I)I -/
noncomputable def xm_end (s : Hp) (p1 : Int) : Option (Int × Hp) :=
  if w32 p1 < 0 then some ((-1), s) else if w32 (s 146 1) < w32 p1 then some ((-1), s) else (some (uh s 146 1 p1)).bind fun s3 => some (p1, s3)
set_option maxRecDepth 100000 in
theorem xm_end_ok {d : Nat} {P : Option Value → pm_H → Prop} {w : pm_H} {sh : Shp} {w0 : pm_H} {s : Hp} (hS : StM sh) {p1 : Int} (h : Rw sh w0 s w) {o : Int × Hp} (hx : xm_end s p1 = some o) (kr : ∀ w1, Rw sh w0 o.2 w1 → P (some (.int (Int32.ofInt o.1))) w1) : wp d 151 0 (lv_args 0 [.ref 146, .int (Int32.ofInt p1)]) [] w P := by
  show wp _ 151 0 [(0, .ref 146), (1, .int (Int32.ofInt p1))] [] w _
  unfold xm_end at hx
  refine wp_g 1 (pc1 := 1) (lv1 := [(0, .ref 146), (1, .int (Int32.ofInt p1))]) (st1 := [.int (Int32.ofInt p1)]) (w1 := w) rfl ?_
  refine wz_lt (oo := 11) (ln := 3) (a := 12) (b := 0) (zz := 0) (by decide +kernel) (fun h1 => ?_) (fun h1 => ?_)
  · have hx := ite_t h1 hx
    refine wp_g 1 (pc1 := 13) (lv1 := [(0, .ref 146), (1, .int (Int32.ofInt p1))]) (st1 := [.int (Int32.ofInt (-1))]) (w1 := w) rfl ?_
    refine wp_rt (i := .ireturn) (r := some (.int (Int32.ofInt (-1)))) (ln := 1) (a := 0) (b := 0) (z := 0) (by decide +kernel) rfl (ret_ok (by decide +kernel)) ?_
    cases hx
    exact kr _ h
  · have hx := ite_f h1 hx
    refine wp_g 2 (pc1 := 6) (lv1 := [(0, .ref 146), (1, .int (Int32.ofInt p1))]) (st1 := [.ref 146, .int (Int32.ofInt p1)]) (w1 := w) rfl ?_
    refine wx_gi (kf := 101) (ln := 3) (ci := 12) (b := 1) (zz := 0) (x := 146) (by decide +kernel) h (hS _ _ sm_146) rfl ?_
    show wp _ 151 9 [(0, .ref 146), (1, .int (Int32.ofInt p1))] [.int (Int32.ofInt (s 146 1)), .int (Int32.ofInt p1)] w _
    refine wx_le (oo := 5) (ln := 3) (a := 14) (b := 0) (zz := 0) (by decide +kernel) (fun h2 => ?_) (fun h2 => ?_)
    · have hx := ite_f h2 hx
      refine wp_g 2 (pc1 := 16) (lv1 := [(0, .ref 146), (1, .int (Int32.ofInt p1))]) (st1 := [.int (Int32.ofInt p1), .ref 146]) (w1 := w) rfl ?_
      obtain ⟨s3, e4, hx⟩ := bd hx
      refine wx_pi (kf := 101) (ln := 3) (ci := 12) (b := 1) (zz := 0) (x := 146) (by decide +kernel) h (hS _ _ sm_146) rfl (by decide +kernel) e4 (fun w5 h6 => ?_)
      refine wp_g 1 (pc1 := 20) (lv1 := [(0, .ref 146), (1, .int (Int32.ofInt p1))]) (st1 := [.int (Int32.ofInt p1)]) (w1 := w5) rfl ?_
      refine wp_rt (i := .ireturn) (r := some (.int (Int32.ofInt p1))) (ln := 1) (a := 0) (b := 0) (z := 0) (by decide +kernel) rfl (ret_ok (by decide +kernel)) ?_
      cases hx
      exact kr _ h6
    · have hx := ite_t h2 hx
      refine wp_g 1 (pc1 := 13) (lv1 := [(0, .ref 146), (1, .int (Int32.ofInt p1))]) (st1 := [.int (Int32.ofInt (-1))]) (w1 := w) rfl ?_
      refine wp_rt (i := .ireturn) (r := some (.int (Int32.ofInt (-1)))) (ln := 1) (a := 0) (b := 0) (z := 0) (by decide +kernel) rfl (ret_ok (by decide +kernel)) ?_
      cases hx
      exact kr _ h
/-- FoldDeedsModel.fails (II)Z -/
noncomputable def xm_fails (s : Hp) (p1 : Int) (p2 : Int) : Option (Int × Hp) :=
  if w32 (s 146 9) = 0 then (some (uh s 146 9 ((1 + (8 * p2)) + p1))).bind fun s2 => some (0, s2) else some (0, s)
set_option maxRecDepth 100000 in
theorem xm_fails_ok {d : Nat} {P : Option Value → pm_H → Prop} {w : pm_H} {sh : Shp} {w0 : pm_H} {s : Hp} (hS : StM sh) {p1 : Int} {p2 : Int} (h : Rw sh w0 s w) {o : Int × Hp} (hx : xm_fails s p1 p2 = some o) (kr : ∀ w1, Rw sh w0 o.2 w1 → P (some (.int (Int32.ofInt o.1))) w1) : wp d 152 0 (lv_args 0 [.ref 146, .int (Int32.ofInt p1), .int (Int32.ofInt p2)]) [] w P := by
  show wp _ 152 0 [(0, .ref 146), (1, .int (Int32.ofInt p1)), (2, .int (Int32.ofInt p2))] [] w _
  unfold xm_fails at hx
  refine wp_g 1 (pc1 := 1) (lv1 := [(0, .ref 146), (1, .int (Int32.ofInt p1)), (2, .int (Int32.ofInt p2))]) (st1 := [.ref 146]) (w1 := w) rfl ?_
  refine wx_gi (kf := 108) (ln := 3) (ci := 12) (b := 9) (zz := 0) (x := 146) (by decide +kernel) h (hS _ _ sm_146) rfl ?_
  show wp _ 152 4 [(0, .ref 146), (1, .int (Int32.ofInt p1)), (2, .int (Int32.ofInt p2))] [.int (Int32.ofInt (s 146 9))] w _
  refine wz_ne (oo := 15) (ln := 3) (a := 19) (b := 0) (zz := 0) (by decide +kernel) (fun h1 => ?_) (fun h1 => ?_)
  · have hx := ite_f h1 hx
    refine wp_g 1 (pc1 := 20) (lv1 := [(0, .ref 146), (1, .int (Int32.ofInt p1)), (2, .int (Int32.ofInt p2))]) (st1 := [.int (Int32.ofInt 0)]) (w1 := w) rfl ?_
    refine wp_rt (i := .ireturn) (r := some (.int (Int32.ofInt 0))) (ln := 1) (a := 0) (b := 0) (z := 0) (by decide +kernel) rfl (ret_b (by decide +kernel) (Or.inl rfl)) ?_
    cases hx
    exact kr _ h
  · have hx := ite_t h1 hx
    refine wp_g 8 (pc1 := 16) (lv1 := [(0, .ref 146), (1, .int (Int32.ofInt p1)), (2, .int (Int32.ofInt p2))]) (st1 := [.int (Int32.ofInt ((1 + (8 * p2)) + p1)), .ref 146]) (w1 := w) (by simp only [Int32.ofInt_add, Int32.ofInt_sub, Int32.ofInt_mul, Int32.ofInt_neg, p_and, p_or, p_xor, p_shl, p_shr, p_usr, p_w8, p_c16, p_lI, q_and, q_or, q_shl, q_shr, q_w32, Int64.ofInt_add, Int64.ofInt_sub, Int64.ofInt_mul, p_mx, p_mn, q_mx, q_mn]; rfl) ?_
    obtain ⟨s2, e3, hx⟩ := bd hx
    refine wx_pi (kf := 108) (ln := 3) (ci := 12) (b := 9) (zz := 0) (x := 146) (by decide +kernel) h (hS _ _ sm_146) rfl (by decide +kernel) e3 (fun w4 h5 => ?_)
    refine wp_g 1 (pc1 := 20) (lv1 := [(0, .ref 146), (1, .int (Int32.ofInt p1)), (2, .int (Int32.ofInt p2))]) (st1 := [.int (Int32.ofInt 0)]) (w1 := w4) rfl ?_
    refine wp_rt (i := .ireturn) (r := some (.int (Int32.ofInt 0))) (ln := 1) (a := 0) (b := 0) (z := 0) (by decide +kernel) rfl (ret_b (by decide +kernel) (Or.inl rfl)) ?_
    cases hx
    exact kr _ h5
noncomputable def xm_see_b0 (s : Hp) : Option (Hp ⊕ Hp) :=
  if w32 (s 146 8) < w32 (s 146 1) then (ix 400 (s 146 8)).bind fun i2 => if w32 (s 147 i2) = w32 32 then (some (uh s 146 8 ((s 146 8) + 1))).bind fun s5 => some (.inl s5) else some (.inr s) else some (.inr s)
set_option maxRecDepth 100000 in
theorem xm_see_b0_ok {d : Nat} {P : Option Value → pm_H → Prop} {w : pm_H} {sh : Shp} {w0 : pm_H} {s : Hp} (hS : StM sh) (h : Rw sh w0 s w) {o : (Hp ⊕ Hp)} (hx : xm_see_b0 s = some o) (kn : ∀ (q : Hp) w1, o = .inl q → Rw sh w0 q w1 → wp d 153 0 [(0, .ref 146)] [] w1 P) (kc : ∀ (r : Hp), o = .inr r → (∀ w1, Rw sh w0 r w1 → wp d 153 38 [(0, .ref 146)] [] w1 P)) : wp d 153 0 [(0, .ref 146)] [] w P := by
  unfold xm_see_b0 at hx
  refine wp_g 1 (pc1 := 1) (lv1 := [(0, .ref 146)]) (st1 := [.ref 146]) (w1 := w) rfl ?_
  refine wx_gi (kf := 111) (ln := 3) (ci := 12) (b := 8) (zz := 0) (x := 146) (by decide +kernel) h (hS _ _ sm_146) rfl ?_
  show wp _ 153 4 [(0, .ref 146)] [.int (Int32.ofInt (s 146 8))] w _
  refine wp_g 1 (pc1 := 5) (lv1 := [(0, .ref 146)]) (st1 := [.ref 146, .int (Int32.ofInt (s 146 8))]) (w1 := w) rfl ?_
  refine wx_gi (kf := 101) (ln := 3) (ci := 12) (b := 1) (zz := 0) (x := 146) (by decide +kernel) h (hS _ _ sm_146) rfl ?_
  show wp _ 153 8 [(0, .ref 146)] [.int (Int32.ofInt (s 146 1)), .int (Int32.ofInt (s 146 8))] w _
  refine wx_ge (oo := 30) (ln := 3) (a := 38) (b := 0) (zz := 0) (by decide +kernel) (fun h1 => ?_) (fun h1 => ?_)
  · have hx := ite_f h1 hx
    cases hx
    exact kc _ rfl _ h
  · have hx := ite_t h1 hx
    refine wp_g 1 (pc1 := 12) (lv1 := [(0, .ref 146)]) (st1 := [.ref 146]) (w1 := w) rfl ?_
    refine wx_gr (o := 1) (kf := 7) (ln := 3) (ci := 12) (b := 0) (zz := 0) (x := 146) (by decide +kernel) h (hS _ _ sm_146) rfl ?_
    show wp _ 153 15 [(0, .ref 146)] [.ref 147] w _
    refine wp_g 1 (pc1 := 16) (lv1 := [(0, .ref 146)]) (st1 := [.ref 146, .ref 147]) (w1 := w) rfl ?_
    refine wx_gi (kf := 111) (ln := 3) (ci := 12) (b := 8) (zz := 0) (x := 146) (by decide +kernel) h (hS _ _ sm_146) rfl ?_
    show wp _ 153 19 [(0, .ref 146)] [.int (Int32.ofInt (s 146 8)), .ref 147] w _
    obtain ⟨i2, e3, hx⟩ := bd hx
    refine wx_rb (x := 147) (n := 400) (ln := 1) (a := 0) (b := 0) (zz := 0) (by decide +kernel) h (hS _ _ sm_147) e3 ?_
    show wp _ 153 20 [(0, .ref 146)] [.int (Int32.ofInt (s 147 i2))] w _
    refine wp_g 1 (pc1 := 22) (lv1 := [(0, .ref 146)]) (st1 := [.int (Int32.ofInt 32), .int (Int32.ofInt (s 147 i2))]) (w1 := w) rfl ?_
    refine wx_ne (oo := 16) (ln := 3) (a := 38) (b := 0) (zz := 0) (by decide +kernel) (fun h4 => ?_) (fun h4 => ?_)
    · have hx := ite_f h4 hx
      cases hx
      exact kc _ rfl _ h
    · have hx := ite_t h4 hx
      refine wp_g 2 (pc1 := 27) (lv1 := [(0, .ref 146)]) (st1 := [.ref 146, .ref 146]) (w1 := w) rfl ?_
      refine wx_gi (kf := 111) (ln := 3) (ci := 12) (b := 8) (zz := 0) (x := 146) (by decide +kernel) h (hS _ _ sm_146) rfl ?_
      show wp _ 153 30 [(0, .ref 146)] [.int (Int32.ofInt (s 146 8)), .ref 146] w _
      refine wp_g 2 (pc1 := 32) (lv1 := [(0, .ref 146)]) (st1 := [.int (Int32.ofInt ((s 146 8) + 1)), .ref 146]) (w1 := w) (by simp only [Int32.ofInt_add, Int32.ofInt_sub, Int32.ofInt_mul, Int32.ofInt_neg, p_and, p_or, p_xor, p_shl, p_shr, p_usr, p_w8, p_c16, p_lI, q_and, q_or, q_shl, q_shr, q_w32, Int64.ofInt_add, Int64.ofInt_sub, Int64.ofInt_mul, p_mx, p_mn, q_mx, q_mn]; rfl) ?_
      obtain ⟨s5, e6, hx⟩ := bd hx
      refine wx_pi (kf := 111) (ln := 3) (ci := 12) (b := 8) (zz := 0) (x := 146) (by decide +kernel) h (hS _ _ sm_146) rfl (by decide +kernel) e6 (fun w7 h8 => ?_)
      refine wp_g 1 (pc1 := 0) (lv1 := [(0, .ref 146)]) (st1 := []) (w1 := w7) rfl ?_
      cases hx
      exact kn _ _ rfl h8
noncomputable def xm_see_j38 (s : Hp) : Option (Int × Hp) :=
  if w32 (s 146 8) < w32 (s 146 1) then (ix 400 (s 146 8)).bind fun i2 => some (bAnd (s 147 i2) 255, s) else some ((-1), s)
set_option maxRecDepth 100000 in
theorem xm_see_j38_ok {d : Nat} {P : Option Value → pm_H → Prop} {w : pm_H} {sh : Shp} {w0 : pm_H} {s : Hp} (hS : StM sh) (h : Rw sh w0 s w) {o : (Int × Hp)} (hx : xm_see_j38 s = some o) (kr : ∀ w1, Rw sh w0 o.2 w1 → P (some (.int (Int32.ofInt o.1))) w1) : wp d 153 38 [(0, .ref 146)] [] w P := by
  unfold xm_see_j38 at hx
  refine wp_g 1 (pc1 := 39) (lv1 := [(0, .ref 146)]) (st1 := [.ref 146]) (w1 := w) rfl ?_
  refine wx_gi (kf := 111) (ln := 3) (ci := 12) (b := 8) (zz := 0) (x := 146) (by decide +kernel) h (hS _ _ sm_146) rfl ?_
  show wp _ 153 42 [(0, .ref 146)] [.int (Int32.ofInt (s 146 8))] w _
  refine wp_g 1 (pc1 := 43) (lv1 := [(0, .ref 146)]) (st1 := [.ref 146, .int (Int32.ofInt (s 146 8))]) (w1 := w) rfl ?_
  refine wx_gi (kf := 101) (ln := 3) (ci := 12) (b := 1) (zz := 0) (x := 146) (by decide +kernel) h (hS _ _ sm_146) rfl ?_
  show wp _ 153 46 [(0, .ref 146)] [.int (Int32.ofInt (s 146 1)), .int (Int32.ofInt (s 146 8))] w _
  refine wx_ge (oo := 19) (ln := 3) (a := 65) (b := 0) (zz := 0) (by decide +kernel) (fun h1 => ?_) (fun h1 => ?_)
  · have hx := ite_f h1 hx
    refine wp_g 1 (pc1 := 66) (lv1 := [(0, .ref 146)]) (st1 := [.int (Int32.ofInt (-1))]) (w1 := w) rfl ?_
    refine wp_rt (i := .ireturn) (r := some (.int (Int32.ofInt (-1)))) (ln := 1) (a := 0) (b := 0) (z := 0) (by decide +kernel) rfl (ret_ok (by decide +kernel)) ?_
    cases hx
    exact kr _ h
  · have hx := ite_t h1 hx
    refine wp_g 1 (pc1 := 50) (lv1 := [(0, .ref 146)]) (st1 := [.ref 146]) (w1 := w) rfl ?_
    refine wx_gr (o := 1) (kf := 7) (ln := 3) (ci := 12) (b := 0) (zz := 0) (x := 146) (by decide +kernel) h (hS _ _ sm_146) rfl ?_
    show wp _ 153 53 [(0, .ref 146)] [.ref 147] w _
    refine wp_g 1 (pc1 := 54) (lv1 := [(0, .ref 146)]) (st1 := [.ref 146, .ref 147]) (w1 := w) rfl ?_
    refine wx_gi (kf := 111) (ln := 3) (ci := 12) (b := 8) (zz := 0) (x := 146) (by decide +kernel) h (hS _ _ sm_146) rfl ?_
    show wp _ 153 57 [(0, .ref 146)] [.int (Int32.ofInt (s 146 8)), .ref 147] w _
    obtain ⟨i2, e3, hx⟩ := bd hx
    refine wx_rb (x := 147) (n := 400) (ln := 1) (a := 0) (b := 0) (zz := 0) (by decide +kernel) h (hS _ _ sm_147) e3 ?_
    show wp _ 153 58 [(0, .ref 146)] [.int (Int32.ofInt (s 147 i2))] w _
    refine wp_g 3 (pc1 := 66) (lv1 := [(0, .ref 146)]) (st1 := [.int (Int32.ofInt (bAnd (s 147 i2) 255))]) (w1 := w) (by simp only [Int32.ofInt_add, Int32.ofInt_sub, Int32.ofInt_mul, Int32.ofInt_neg, p_and, p_or, p_xor, p_shl, p_shr, p_usr, p_w8, p_c16, p_lI, q_and, q_or, q_shl, q_shr, q_w32, Int64.ofInt_add, Int64.ofInt_sub, Int64.ofInt_mul, p_mx, p_mn, q_mx, q_mn]; rfl) ?_
    refine wp_rt (i := .ireturn) (r := some (.int (Int32.ofInt (bAnd (s 147 i2) 255)))) (ln := 1) (a := 0) (b := 0) (z := 0) (by decide +kernel) rfl (ret_ok (by decide +kernel)) ?_
    cases hx
    exact kr _ h
/-- FoldDeedsModel.see ()I -/
noncomputable def xm_see (s : Hp) : Option (Int × Hp) :=
  (lp (fun (q : Hp) => xm_see_b0 q) s).bind fun q1 => xm_see_j38 q1
set_option maxRecDepth 100000 in
theorem xm_see_ok {d : Nat} {P : Option Value → pm_H → Prop} {w : pm_H} {sh : Shp} {w0 : pm_H} {s : Hp} (hS : StM sh) (h : Rw sh w0 s w) {o : Int × Hp} (hx : xm_see s = some o) (kr : ∀ w1, Rw sh w0 o.2 w1 → P (some (.int (Int32.ofInt o.1))) w1) : wp d 153 0 (lv_args 0 [.ref 146]) [] w P := by
  show wp _ 153 0 [(0, .ref 146)] [] w _
  unfold xm_see at hx
  obtain ⟨q1, e2, hx⟩ := bd hx
  refine wp_lp (σ := Hp) (ρ := Hp) (B := fun q => xm_see_b0 q) (R := fun q w' => Rw sh w0 q w') (C := fun r => ∀ w1, Rw sh w0 r w1 → wp d 153 38 [(0, .ref 146)] [] w1 P) (lv := fun q => [(0, .ref 146)]) (hd := 0) (fun q w' o hR hb kn kc => xm_see_b0_ok hS hR hb kn kc) _ _ _ e2 h ?_
  intro w3 h4
  show wp _ 153 38 [(0, .ref 146)] [] w3 _
  exact xm_see_j38_ok hS h4 hx kr
/-- FoldDeedsModel.isDigit (I)Z -/
noncomputable def xm_isDigit (s : Hp) (p1 : Int) : Option Int :=
  if w32 p1 < w32 (s 146 1) then (ix 400 p1).bind fun i2 => if w32 (s 147 i2) < w32 48 then some 0 else if w32 57 < w32 (s 147 i2) then some 0 else some 1 else some 0
set_option maxRecDepth 100000 in
theorem xm_isDigit_ok {d : Nat} {P : Option Value → pm_H → Prop} {w : pm_H} {sh : Shp} {w0 : pm_H} {s : Hp} (hS : StM sh) {p1 : Int} (h : Rw sh w0 s w) {o : Int} (hx : xm_isDigit s p1 = some o) (kr : P (some (.int (Int32.ofInt o))) w) : wp d 154 0 (lv_args 0 [.ref 146, .int (Int32.ofInt p1)]) [] w P := by
  show wp _ 154 0 [(0, .ref 146), (1, .int (Int32.ofInt p1))] [] w _
  unfold xm_isDigit at hx
  refine wp_g 2 (pc1 := 2) (lv1 := [(0, .ref 146), (1, .int (Int32.ofInt p1))]) (st1 := [.ref 146, .int (Int32.ofInt p1)]) (w1 := w) rfl ?_
  refine wx_gi (kf := 101) (ln := 3) (ci := 12) (b := 1) (zz := 0) (x := 146) (by decide +kernel) h (hS _ _ sm_146) rfl ?_
  show wp _ 154 5 [(0, .ref 146), (1, .int (Int32.ofInt p1))] [.int (Int32.ofInt (s 146 1)), .int (Int32.ofInt p1)] w _
  refine wx_ge (oo := 29) (ln := 3) (a := 34) (b := 0) (zz := 0) (by decide +kernel) (fun h1 => ?_) (fun h1 => ?_)
  · have hx := ite_f h1 hx
    refine wp_g 1 (pc1 := 35) (lv1 := [(0, .ref 146), (1, .int (Int32.ofInt p1))]) (st1 := [.int (Int32.ofInt 0)]) (w1 := w) rfl ?_
    refine wp_rt (i := .ireturn) (r := some (.int (Int32.ofInt 0))) (ln := 1) (a := 0) (b := 0) (z := 0) (by decide +kernel) rfl (ret_b (by decide +kernel) (Or.inl rfl)) ?_
    cases hx
    exact kr
  · have hx := ite_t h1 hx
    refine wp_g 1 (pc1 := 9) (lv1 := [(0, .ref 146), (1, .int (Int32.ofInt p1))]) (st1 := [.ref 146]) (w1 := w) rfl ?_
    refine wx_gr (o := 1) (kf := 7) (ln := 3) (ci := 12) (b := 0) (zz := 0) (x := 146) (by decide +kernel) h (hS _ _ sm_146) rfl ?_
    show wp _ 154 12 [(0, .ref 146), (1, .int (Int32.ofInt p1))] [.ref 147] w _
    refine wp_g 1 (pc1 := 13) (lv1 := [(0, .ref 146), (1, .int (Int32.ofInt p1))]) (st1 := [.int (Int32.ofInt p1), .ref 147]) (w1 := w) rfl ?_
    obtain ⟨i2, e3, hx⟩ := bd hx
    refine wx_rb (x := 147) (n := 400) (ln := 1) (a := 0) (b := 0) (zz := 0) (by decide +kernel) h (hS _ _ sm_147) e3 ?_
    show wp _ 154 14 [(0, .ref 146), (1, .int (Int32.ofInt p1))] [.int (Int32.ofInt (s 147 i2))] w _
    refine wp_g 1 (pc1 := 16) (lv1 := [(0, .ref 146), (1, .int (Int32.ofInt p1))]) (st1 := [.int (Int32.ofInt 48), .int (Int32.ofInt (s 147 i2))]) (w1 := w) rfl ?_
    refine wx_lt (oo := 18) (ln := 3) (a := 34) (b := 0) (zz := 0) (by decide +kernel) (fun h4 => ?_) (fun h4 => ?_)
    · have hx := ite_t h4 hx
      refine wp_g 1 (pc1 := 35) (lv1 := [(0, .ref 146), (1, .int (Int32.ofInt p1))]) (st1 := [.int (Int32.ofInt 0)]) (w1 := w) rfl ?_
      refine wp_rt (i := .ireturn) (r := some (.int (Int32.ofInt 0))) (ln := 1) (a := 0) (b := 0) (z := 0) (by decide +kernel) rfl (ret_b (by decide +kernel) (Or.inl rfl)) ?_
      cases hx
      exact kr
    · have hx := ite_f h4 hx
      refine wp_g 1 (pc1 := 20) (lv1 := [(0, .ref 146), (1, .int (Int32.ofInt p1))]) (st1 := [.ref 146]) (w1 := w) rfl ?_
      refine wx_gr (o := 1) (kf := 7) (ln := 3) (ci := 12) (b := 0) (zz := 0) (x := 146) (by decide +kernel) h (hS _ _ sm_146) rfl ?_
      show wp _ 154 23 [(0, .ref 146), (1, .int (Int32.ofInt p1))] [.ref 147] w _
      refine wp_g 1 (pc1 := 24) (lv1 := [(0, .ref 146), (1, .int (Int32.ofInt p1))]) (st1 := [.int (Int32.ofInt p1), .ref 147]) (w1 := w) rfl ?_
      refine wx_rb (x := 147) (n := 400) (ln := 1) (a := 0) (b := 0) (zz := 0) (by decide +kernel) h (hS _ _ sm_147) e3 ?_
      show wp _ 154 25 [(0, .ref 146), (1, .int (Int32.ofInt p1))] [.int (Int32.ofInt (s 147 i2))] w _
      refine wp_g 1 (pc1 := 27) (lv1 := [(0, .ref 146), (1, .int (Int32.ofInt p1))]) (st1 := [.int (Int32.ofInt 57), .int (Int32.ofInt (s 147 i2))]) (w1 := w) rfl ?_
      refine wx_gt (oo := 7) (ln := 3) (a := 34) (b := 0) (zz := 0) (by decide +kernel) (fun h5 => ?_) (fun h5 => ?_)
      · have hx := ite_t h5 hx
        refine wp_g 1 (pc1 := 35) (lv1 := [(0, .ref 146), (1, .int (Int32.ofInt p1))]) (st1 := [.int (Int32.ofInt 0)]) (w1 := w) rfl ?_
        refine wp_rt (i := .ireturn) (r := some (.int (Int32.ofInt 0))) (ln := 1) (a := 0) (b := 0) (z := 0) (by decide +kernel) rfl (ret_b (by decide +kernel) (Or.inl rfl)) ?_
        cases hx
        exact kr
      · have hx := ite_f h5 hx
        refine wp_g 2 (pc1 := 35) (lv1 := [(0, .ref 146), (1, .int (Int32.ofInt p1))]) (st1 := [.int (Int32.ofInt 1)]) (w1 := w) rfl ?_
        refine wp_rt (i := .ireturn) (r := some (.int (Int32.ofInt 1))) (ln := 1) (a := 0) (b := 0) (z := 0) (by decide +kernel) rfl (ret_b (by decide +kernel) (Or.inr rfl)) ?_
        cases hx
        exact kr
/-- FoldDeedsModel.isLetter (I)Z -/
noncomputable def xm_isLetter (s : Hp) (p1 : Int) : Option Int :=
  if w32 p1 < w32 (s 146 1) then (ix 400 p1).bind fun i2 => if w32 (s 147 i2) < w32 97 then some 0 else if w32 122 < w32 (s 147 i2) then some 0 else some 1 else some 0
set_option maxRecDepth 100000 in
theorem xm_isLetter_ok {d : Nat} {P : Option Value → pm_H → Prop} {w : pm_H} {sh : Shp} {w0 : pm_H} {s : Hp} (hS : StM sh) {p1 : Int} (h : Rw sh w0 s w) {o : Int} (hx : xm_isLetter s p1 = some o) (kr : P (some (.int (Int32.ofInt o))) w) : wp d 155 0 (lv_args 0 [.ref 146, .int (Int32.ofInt p1)]) [] w P := by
  show wp _ 155 0 [(0, .ref 146), (1, .int (Int32.ofInt p1))] [] w _
  unfold xm_isLetter at hx
  refine wp_g 2 (pc1 := 2) (lv1 := [(0, .ref 146), (1, .int (Int32.ofInt p1))]) (st1 := [.ref 146, .int (Int32.ofInt p1)]) (w1 := w) rfl ?_
  refine wx_gi (kf := 101) (ln := 3) (ci := 12) (b := 1) (zz := 0) (x := 146) (by decide +kernel) h (hS _ _ sm_146) rfl ?_
  show wp _ 155 5 [(0, .ref 146), (1, .int (Int32.ofInt p1))] [.int (Int32.ofInt (s 146 1)), .int (Int32.ofInt p1)] w _
  refine wx_ge (oo := 29) (ln := 3) (a := 34) (b := 0) (zz := 0) (by decide +kernel) (fun h1 => ?_) (fun h1 => ?_)
  · have hx := ite_f h1 hx
    refine wp_g 1 (pc1 := 35) (lv1 := [(0, .ref 146), (1, .int (Int32.ofInt p1))]) (st1 := [.int (Int32.ofInt 0)]) (w1 := w) rfl ?_
    refine wp_rt (i := .ireturn) (r := some (.int (Int32.ofInt 0))) (ln := 1) (a := 0) (b := 0) (z := 0) (by decide +kernel) rfl (ret_b (by decide +kernel) (Or.inl rfl)) ?_
    cases hx
    exact kr
  · have hx := ite_t h1 hx
    refine wp_g 1 (pc1 := 9) (lv1 := [(0, .ref 146), (1, .int (Int32.ofInt p1))]) (st1 := [.ref 146]) (w1 := w) rfl ?_
    refine wx_gr (o := 1) (kf := 7) (ln := 3) (ci := 12) (b := 0) (zz := 0) (x := 146) (by decide +kernel) h (hS _ _ sm_146) rfl ?_
    show wp _ 155 12 [(0, .ref 146), (1, .int (Int32.ofInt p1))] [.ref 147] w _
    refine wp_g 1 (pc1 := 13) (lv1 := [(0, .ref 146), (1, .int (Int32.ofInt p1))]) (st1 := [.int (Int32.ofInt p1), .ref 147]) (w1 := w) rfl ?_
    obtain ⟨i2, e3, hx⟩ := bd hx
    refine wx_rb (x := 147) (n := 400) (ln := 1) (a := 0) (b := 0) (zz := 0) (by decide +kernel) h (hS _ _ sm_147) e3 ?_
    show wp _ 155 14 [(0, .ref 146), (1, .int (Int32.ofInt p1))] [.int (Int32.ofInt (s 147 i2))] w _
    refine wp_g 1 (pc1 := 16) (lv1 := [(0, .ref 146), (1, .int (Int32.ofInt p1))]) (st1 := [.int (Int32.ofInt 97), .int (Int32.ofInt (s 147 i2))]) (w1 := w) rfl ?_
    refine wx_lt (oo := 18) (ln := 3) (a := 34) (b := 0) (zz := 0) (by decide +kernel) (fun h4 => ?_) (fun h4 => ?_)
    · have hx := ite_t h4 hx
      refine wp_g 1 (pc1 := 35) (lv1 := [(0, .ref 146), (1, .int (Int32.ofInt p1))]) (st1 := [.int (Int32.ofInt 0)]) (w1 := w) rfl ?_
      refine wp_rt (i := .ireturn) (r := some (.int (Int32.ofInt 0))) (ln := 1) (a := 0) (b := 0) (z := 0) (by decide +kernel) rfl (ret_b (by decide +kernel) (Or.inl rfl)) ?_
      cases hx
      exact kr
    · have hx := ite_f h4 hx
      refine wp_g 1 (pc1 := 20) (lv1 := [(0, .ref 146), (1, .int (Int32.ofInt p1))]) (st1 := [.ref 146]) (w1 := w) rfl ?_
      refine wx_gr (o := 1) (kf := 7) (ln := 3) (ci := 12) (b := 0) (zz := 0) (x := 146) (by decide +kernel) h (hS _ _ sm_146) rfl ?_
      show wp _ 155 23 [(0, .ref 146), (1, .int (Int32.ofInt p1))] [.ref 147] w _
      refine wp_g 1 (pc1 := 24) (lv1 := [(0, .ref 146), (1, .int (Int32.ofInt p1))]) (st1 := [.int (Int32.ofInt p1), .ref 147]) (w1 := w) rfl ?_
      refine wx_rb (x := 147) (n := 400) (ln := 1) (a := 0) (b := 0) (zz := 0) (by decide +kernel) h (hS _ _ sm_147) e3 ?_
      show wp _ 155 25 [(0, .ref 146), (1, .int (Int32.ofInt p1))] [.int (Int32.ofInt (s 147 i2))] w _
      refine wp_g 1 (pc1 := 27) (lv1 := [(0, .ref 146), (1, .int (Int32.ofInt p1))]) (st1 := [.int (Int32.ofInt 122), .int (Int32.ofInt (s 147 i2))]) (w1 := w) rfl ?_
      refine wx_gt (oo := 7) (ln := 3) (a := 34) (b := 0) (zz := 0) (by decide +kernel) (fun h5 => ?_) (fun h5 => ?_)
      · have hx := ite_t h5 hx
        refine wp_g 1 (pc1 := 35) (lv1 := [(0, .ref 146), (1, .int (Int32.ofInt p1))]) (st1 := [.int (Int32.ofInt 0)]) (w1 := w) rfl ?_
        refine wp_rt (i := .ireturn) (r := some (.int (Int32.ofInt 0))) (ln := 1) (a := 0) (b := 0) (z := 0) (by decide +kernel) rfl (ret_b (by decide +kernel) (Or.inl rfl)) ?_
        cases hx
        exact kr
      · have hx := ite_f h5 hx
        refine wp_g 2 (pc1 := 35) (lv1 := [(0, .ref 146), (1, .int (Int32.ofInt p1))]) (st1 := [.int (Int32.ofInt 1)]) (w1 := w) rfl ?_
        refine wp_rt (i := .ireturn) (r := some (.int (Int32.ofInt 1))) (ln := 1) (a := 0) (b := 0) (z := 0) (by decide +kernel) rfl (ret_b (by decide +kernel) (Or.inr rfl)) ?_
        cases hx
        exact kr
noncomputable def xm_isWord_b10 (s : Hp) (x1 : Int) (x3 : Int) (x5 : Int) : Option ((Int × Int) ⊕ (Int × Int)) :=
  (xm_isLetter s ((s 146 8) + x5)).bind fun o1 => if w32 o1 = 0 then some (.inr (x3, x5)) else if w32 x5 < w32 8 then (ix 400 ((s 146 8) + x5)).bind fun i7 => some (.inl (lOr (lShl x3 8) (w32 (s 147 i7)), x5 + 1)) else some (.inl (x3, x5 + 1))
set_option maxRecDepth 100000 in
theorem xm_isWord_b10_ok {d : Nat} {P : Option Value → pm_H → Prop} {w : pm_H} {sh : Shp} {w0 : pm_H} {s : Hp} (hS : StM sh) {x1 : Int} {x3 : Int} {x5 : Int} (h : Rw sh w0 s w) {o : ((Int × Int) ⊕ (Int × Int))} (hx : xm_isWord_b10 s x1 x3 x5 = some o) (kn : ∀ (q : Int × Int) w1, o = .inl q → w = w1 → wp (d + 1) 156 10 [(0, .ref 146), (1, .long (Int64.ofInt x1)), (3, .long (Int64.ofInt q.1)), (5, .int (Int32.ofInt q.2))] [] w1 P) (kc : ∀ (r : (Int × Int)), o = .inr r → (∀ w1, w = w1 → wp (d + 1) 156 56 [(0, .ref 146), (1, .long (Int64.ofInt x1)), (3, .long (Int64.ofInt r.1)), (5, .int (Int32.ofInt r.2))] [] w1 P)) : wp (d + 1) 156 10 [(0, .ref 146), (1, .long (Int64.ofInt x1)), (3, .long (Int64.ofInt x3)), (5, .int (Int32.ofInt x5))] [] w P := by
  unfold xm_isWord_b10 at hx
  refine wp_g 2 (pc1 := 12) (lv1 := [(0, .ref 146), (1, .long (Int64.ofInt x1)), (3, .long (Int64.ofInt x3)), (5, .int (Int32.ofInt x5))]) (st1 := [.ref 146, .ref 146]) (w1 := w) rfl ?_
  refine wx_gi (kf := 111) (ln := 3) (ci := 12) (b := 8) (zz := 0) (x := 146) (by decide +kernel) h (hS _ _ sm_146) rfl ?_
  show wp _ 156 15 [(0, .ref 146), (1, .long (Int64.ofInt x1)), (3, .long (Int64.ofInt x3)), (5, .int (Int32.ofInt x5))] [.int (Int32.ofInt (s 146 8)), .ref 146] w _
  refine wp_g 2 (pc1 := 18) (lv1 := [(0, .ref 146), (1, .long (Int64.ofInt x1)), (3, .long (Int64.ofInt x3)), (5, .int (Int32.ofInt x5))]) (st1 := [.int (Int32.ofInt ((s 146 8) + x5)), .ref 146]) (w1 := w) (by simp only [Int32.ofInt_add, Int32.ofInt_sub, Int32.ofInt_mul, Int32.ofInt_neg, p_and, p_or, p_xor, p_shl, p_shr, p_usr, p_w8, p_c16, p_lI, q_and, q_or, q_shl, q_shr, q_w32, Int64.ofInt_add, Int64.ofInt_sub, Int64.ofInt_mul, p_mx, p_mn, q_mx, q_mn]; rfl) ?_
  obtain ⟨o1, e2, hx⟩ := bd hx
  refine wp_cl [.ref 146, .int (Int32.ofInt ((s 146 8) + x5))] [] (i := .invokevirtual 118) (ln := 3) (a := 155) (b := 0) (z := 0) (by decide +kernel) rfl rfl (by decide) rfl (show (2 : Nat) = pm_na 155 by decide +kernel) (Nat.le_of_ble_eq_true rfl) (show (2 : Nat) ≤ pm_n 155 by decide +kernel) (rcv_x 12 h (hS _ _ sm_146) (by decide +kernel)) (xm_isLetter_ok (d := d) hS h e2 ?_)
  show wp _ 156 21 [(0, .ref 146), (1, .long (Int64.ofInt x1)), (3, .long (Int64.ofInt x3)), (5, .int (Int32.ofInt x5))] [.int (Int32.ofInt o1)] w _
  refine wz_eq (oo := 35) (ln := 3) (a := 56) (b := 0) (zz := 0) (by decide +kernel) (fun h5 => ?_) (fun h5 => ?_)
  · have hx := ite_t h5 hx
    cases hx
    exact kc _ rfl _ rfl
  · have hx := ite_f h5 hx
    refine wp_g 2 (pc1 := 28) (lv1 := [(0, .ref 146), (1, .long (Int64.ofInt x1)), (3, .long (Int64.ofInt x3)), (5, .int (Int32.ofInt x5))]) (st1 := [.int (Int32.ofInt 8), .int (Int32.ofInt x5)]) (w1 := w) rfl ?_
    refine wx_ge (oo := 22) (ln := 3) (a := 50) (b := 0) (zz := 0) (by decide +kernel) (fun h6 => ?_) (fun h6 => ?_)
    · have hx := ite_f h6 hx
      refine wp_g 2 (pc1 := 10) (lv1 := [(5, .int (Int32.ofInt (x5 + 1))), (0, .ref 146), (1, .long (Int64.ofInt x1)), (3, .long (Int64.ofInt x3))]) (st1 := []) (w1 := w) (by simp only [Int32.ofInt_add, Int32.ofInt_sub, Int32.ofInt_mul, Int32.ofInt_neg, p_and, p_or, p_xor, p_shl, p_shr, p_usr, p_w8, p_c16, p_lI, q_and, q_or, q_shl, q_shr, q_w32, Int64.ofInt_add, Int64.ofInt_sub, Int64.ofInt_mul, p_mx, p_mn, q_mx, q_mn]; rfl) ?_
      refine wp_lv (lv1 := [(0, .ref 146), (1, .long (Int64.ofInt x1)), (3, .long (Int64.ofInt x3)), (5, .int (Int32.ofInt (x5 + 1)))]) (lsub_p [1, 2, 3, 0] rfl rfl rfl) ?_
      cases hx
      exact kn _ _ rfl rfl
    · have hx := ite_t h6 hx
      refine wp_g 4 (pc1 := 36) (lv1 := [(0, .ref 146), (1, .long (Int64.ofInt x1)), (3, .long (Int64.ofInt x3)), (5, .int (Int32.ofInt x5))]) (st1 := [.ref 146, .long (Int64.ofInt (lShl x3 8))]) (w1 := w) (by simp only [Int32.ofInt_add, Int32.ofInt_sub, Int32.ofInt_mul, Int32.ofInt_neg, p_and, p_or, p_xor, p_shl, p_shr, p_usr, p_w8, p_c16, p_lI, q_and, q_or, q_shl, q_shr, q_w32, Int64.ofInt_add, Int64.ofInt_sub, Int64.ofInt_mul, p_mx, p_mn, q_mx, q_mn]; rfl) ?_
      refine wx_gr (o := 1) (kf := 7) (ln := 3) (ci := 12) (b := 0) (zz := 0) (x := 146) (by decide +kernel) h (hS _ _ sm_146) rfl ?_
      show wp _ 156 39 [(0, .ref 146), (1, .long (Int64.ofInt x1)), (3, .long (Int64.ofInt x3)), (5, .int (Int32.ofInt x5))] [.ref 147, .long (Int64.ofInt (lShl x3 8))] w _
      refine wp_g 1 (pc1 := 40) (lv1 := [(0, .ref 146), (1, .long (Int64.ofInt x1)), (3, .long (Int64.ofInt x3)), (5, .int (Int32.ofInt x5))]) (st1 := [.ref 146, .ref 147, .long (Int64.ofInt (lShl x3 8))]) (w1 := w) rfl ?_
      refine wx_gi (kf := 111) (ln := 3) (ci := 12) (b := 8) (zz := 0) (x := 146) (by decide +kernel) h (hS _ _ sm_146) rfl ?_
      show wp _ 156 43 [(0, .ref 146), (1, .long (Int64.ofInt x1)), (3, .long (Int64.ofInt x3)), (5, .int (Int32.ofInt x5))] [.int (Int32.ofInt (s 146 8)), .ref 147, .long (Int64.ofInt (lShl x3 8))] w _
      refine wp_g 2 (pc1 := 46) (lv1 := [(0, .ref 146), (1, .long (Int64.ofInt x1)), (3, .long (Int64.ofInt x3)), (5, .int (Int32.ofInt x5))]) (st1 := [.int (Int32.ofInt ((s 146 8) + x5)), .ref 147, .long (Int64.ofInt (lShl x3 8))]) (w1 := w) (by simp only [Int32.ofInt_add, Int32.ofInt_sub, Int32.ofInt_mul, Int32.ofInt_neg, p_and, p_or, p_xor, p_shl, p_shr, p_usr, p_w8, p_c16, p_lI, q_and, q_or, q_shl, q_shr, q_w32, Int64.ofInt_add, Int64.ofInt_sub, Int64.ofInt_mul, p_mx, p_mn, q_mx, q_mn]; rfl) ?_
      obtain ⟨i7, e8, hx⟩ := bd hx
      refine wx_rb (x := 147) (n := 400) (ln := 1) (a := 0) (b := 0) (zz := 0) (by decide +kernel) h (hS _ _ sm_147) e8 ?_
      show wp _ 156 47 [(0, .ref 146), (1, .long (Int64.ofInt x1)), (3, .long (Int64.ofInt x3)), (5, .int (Int32.ofInt x5))] [.int (Int32.ofInt (s 147 i7)), .long (Int64.ofInt (lShl x3 8))] w _
      refine wp_g 5 (pc1 := 10) (lv1 := [(5, .int (Int32.ofInt (x5 + 1))), (3, .long (Int64.ofInt (lOr (lShl x3 8) (w32 (s 147 i7))))), (0, .ref 146), (1, .long (Int64.ofInt x1))]) (st1 := []) (w1 := w) (by simp only [Int32.ofInt_add, Int32.ofInt_sub, Int32.ofInt_mul, Int32.ofInt_neg, p_and, p_or, p_xor, p_shl, p_shr, p_usr, p_w8, p_c16, p_lI, q_and, q_or, q_shl, q_shr, q_w32, Int64.ofInt_add, Int64.ofInt_sub, Int64.ofInt_mul, p_mx, p_mn, q_mx, q_mn]; rfl) ?_
      refine wp_lv (lv1 := [(0, .ref 146), (1, .long (Int64.ofInt x1)), (3, .long (Int64.ofInt (lOr (lShl x3 8) (w32 (s 147 i7))))), (5, .int (Int32.ofInt (x5 + 1)))]) (lsub_p [2, 3, 1, 0] rfl rfl rfl) ?_
      cases hx
      exact kn _ _ rfl rfl
/-- FoldDeedsModel.isWord (J)Z -/
noncomputable def xm_isWord (s : Hp) (p1 : Int) : Option (Int × Hp) :=
  (xm_see s).bind fun o1 => (lp (fun (q : Int × Int) => xm_isWord_b10 o1.2 p1 q.1 q.2) (0, 0)).bind fun q5 => if 0 < w32 q5.2 then if w32 q5.2 < w32 8 then if w64 q5.1 = w64 p1 then some (1, o1.2) else some (0, o1.2) else some (0, o1.2) else some (0, o1.2)
set_option maxRecDepth 100000 in
theorem xm_isWord_ok {d : Nat} {P : Option Value → pm_H → Prop} {w : pm_H} {sh : Shp} {w0 : pm_H} {s : Hp} (hS : StM sh) {p1 : Int} (h : Rw sh w0 s w) {o : Int × Hp} (hx : xm_isWord s p1 = some o) (kr : ∀ w1, Rw sh w0 o.2 w1 → P (some (.int (Int32.ofInt o.1))) w1) : wp (d + 1) 156 0 (lv_args 0 [.ref 146, .long (Int64.ofInt p1)]) [] w P := by
  show wp _ 156 0 [(0, .ref 146), (1, .long (Int64.ofInt p1))] [] w _
  unfold xm_isWord at hx
  refine wp_g 1 (pc1 := 1) (lv1 := [(0, .ref 146), (1, .long (Int64.ofInt p1))]) (st1 := [.ref 146]) (w1 := w) rfl ?_
  obtain ⟨o1, e2, hx⟩ := bd hx
  refine wp_cl [.ref 146] [] (i := .invokevirtual 114) (ln := 3) (a := 153) (b := 0) (z := 0) (by decide +kernel) rfl rfl (by decide) rfl (show (1 : Nat) = pm_na 153 by decide +kernel) (Nat.le_of_ble_eq_true rfl) (show (1 : Nat) ≤ pm_n 153 by decide +kernel) (rcv_x 12 h (hS _ _ sm_146) (by decide +kernel)) (xm_see_ok (d := d) hS h e2 (fun w3 h4 => ?_))
  show wp _ 156 4 [(0, .ref 146), (1, .long (Int64.ofInt p1))] [.int (Int32.ofInt o1.1)] w3 _
  refine wp_g 5 (pc1 := 10) (lv1 := [(5, .int (Int32.ofInt 0)), (3, .long (Int64.ofInt 0)), (0, .ref 146), (1, .long (Int64.ofInt p1))]) (st1 := []) (w1 := w3) rfl ?_
  refine wp_lv (lv1 := [(0, .ref 146), (1, .long (Int64.ofInt p1)), (3, .long (Int64.ofInt 0)), (5, .int (Int32.ofInt 0))]) (lsub_p [2, 3, 1, 0] rfl rfl rfl) ?_
  obtain ⟨q5, e6, hx⟩ := bd hx
  refine wp_lp (σ := Int × Int) (ρ := (Int × Int)) (B := fun q => xm_isWord_b10 o1.2 p1 q.1 q.2) (R := fun q w' => w3 = w') (C := fun r => ∀ w1, w3 = w1 → wp (d + 1) 156 56 [(0, .ref 146), (1, .long (Int64.ofInt p1)), (3, .long (Int64.ofInt r.1)), (5, .int (Int32.ofInt r.2))] [] w1 P) (lv := fun q => [(0, .ref 146), (1, .long (Int64.ofInt p1)), (3, .long (Int64.ofInt q.1)), (5, .int (Int32.ofInt q.2))]) (hd := 10) (fun q w' o hR hb kn kc => by subst hR; exact xm_isWord_b10_ok hS h4 hb kn kc) _ _ _ e6 rfl ?_
  intro w7 h8
  subst h8
  show wp _ 156 56 [(0, .ref 146), (1, .long (Int64.ofInt p1)), (3, .long (Int64.ofInt q5.1)), (5, .int (Int32.ofInt q5.2))] [] w3 _
  refine wp_g 1 (pc1 := 58) (lv1 := [(0, .ref 146), (1, .long (Int64.ofInt p1)), (3, .long (Int64.ofInt q5.1)), (5, .int (Int32.ofInt q5.2))]) (st1 := [.int (Int32.ofInt q5.2)]) (w1 := w3) rfl ?_
  refine wz_le (oo := 20) (ln := 3) (a := 78) (b := 0) (zz := 0) (by decide +kernel) (fun h9 => ?_) (fun h9 => ?_)
  · have hx := ite_f h9 hx
    refine wp_g 1 (pc1 := 79) (lv1 := [(0, .ref 146), (1, .long (Int64.ofInt p1)), (3, .long (Int64.ofInt q5.1)), (5, .int (Int32.ofInt q5.2))]) (st1 := [.int (Int32.ofInt 0)]) (w1 := w3) rfl ?_
    refine wp_rt (i := .ireturn) (r := some (.int (Int32.ofInt 0))) (ln := 1) (a := 0) (b := 0) (z := 0) (by decide +kernel) rfl (ret_b (by decide +kernel) (Or.inl rfl)) ?_
    cases hx
    exact kr _ h4
  · have hx := ite_t h9 hx
    refine wp_g 2 (pc1 := 65) (lv1 := [(0, .ref 146), (1, .long (Int64.ofInt p1)), (3, .long (Int64.ofInt q5.1)), (5, .int (Int32.ofInt q5.2))]) (st1 := [.int (Int32.ofInt 8), .int (Int32.ofInt q5.2)]) (w1 := w3) rfl ?_
    refine wx_ge (oo := 13) (ln := 3) (a := 78) (b := 0) (zz := 0) (by decide +kernel) (fun h10 => ?_) (fun h10 => ?_)
    · have hx := ite_f h10 hx
      refine wp_g 1 (pc1 := 79) (lv1 := [(0, .ref 146), (1, .long (Int64.ofInt p1)), (3, .long (Int64.ofInt q5.1)), (5, .int (Int32.ofInt q5.2))]) (st1 := [.int (Int32.ofInt 0)]) (w1 := w3) rfl ?_
      refine wp_rt (i := .ireturn) (r := some (.int (Int32.ofInt 0))) (ln := 1) (a := 0) (b := 0) (z := 0) (by decide +kernel) rfl (ret_b (by decide +kernel) (Or.inl rfl)) ?_
      cases hx
      exact kr _ h4
    · have hx := ite_t h10 hx
      refine wp_g 3 (pc1 := 71) (lv1 := [(0, .ref 146), (1, .long (Int64.ofInt p1)), (3, .long (Int64.ofInt q5.1)), (5, .int (Int32.ofInt q5.2))]) (st1 := [.int (lg_cmp (Int64.ofInt q5.1) (Int64.ofInt p1))]) (w1 := w3) rfl ?_
      refine wl_ne (oo := 7) (ln := 3) (a := 78) (b := 0) (zz := 0) (by decide +kernel) (fun h11 => ?_) (fun h11 => ?_)
      · have hx := ite_f h11 hx
        refine wp_g 1 (pc1 := 79) (lv1 := [(0, .ref 146), (1, .long (Int64.ofInt p1)), (3, .long (Int64.ofInt q5.1)), (5, .int (Int32.ofInt q5.2))]) (st1 := [.int (Int32.ofInt 0)]) (w1 := w3) rfl ?_
        refine wp_rt (i := .ireturn) (r := some (.int (Int32.ofInt 0))) (ln := 1) (a := 0) (b := 0) (z := 0) (by decide +kernel) rfl (ret_b (by decide +kernel) (Or.inl rfl)) ?_
        cases hx
        exact kr _ h4
      · have hx := ite_t h11 hx
        refine wp_g 2 (pc1 := 79) (lv1 := [(0, .ref 146), (1, .long (Int64.ofInt p1)), (3, .long (Int64.ofInt q5.1)), (5, .int (Int32.ofInt q5.2))]) (st1 := [.int (Int32.ofInt 1)]) (w1 := w3) rfl ?_
        refine wp_rt (i := .ireturn) (r := some (.int (Int32.ofInt 1))) (ln := 1) (a := 0) (b := 0) (z := 0) (by decide +kernel) rfl (ret_b (by decide +kernel) (Or.inr rfl)) ?_
        cases hx
        exact kr _ h4
noncomputable def xm_passWord_b0 (s : Hp) : Option (Hp ⊕ Hp) :=
  (xm_isLetter s (s 146 8)).bind fun o1 => if w32 o1 = 0 then some (.inr s) else (some (uh s 146 8 ((s 146 8) + 1))).bind fun s6 => some (.inl s6)
set_option maxRecDepth 100000 in
theorem xm_passWord_b0_ok {d : Nat} {P : Option Value → pm_H → Prop} {w : pm_H} {sh : Shp} {w0 : pm_H} {s : Hp} (hS : StM sh) (h : Rw sh w0 s w) {o : (Hp ⊕ Hp)} (hx : xm_passWord_b0 s = some o) (kn : ∀ (q : Hp) w1, o = .inl q → Rw sh w0 q w1 → wp (d + 1) 157 0 [(0, .ref 146)] [] w1 P) (kc : ∀ (r : Hp), o = .inr r → (∀ w1, Rw sh w0 r w1 → wp (d + 1) 157 24 [(0, .ref 146)] [] w1 P)) : wp (d + 1) 157 0 [(0, .ref 146)] [] w P := by
  unfold xm_passWord_b0 at hx
  refine wp_g 2 (pc1 := 2) (lv1 := [(0, .ref 146)]) (st1 := [.ref 146, .ref 146]) (w1 := w) rfl ?_
  refine wx_gi (kf := 111) (ln := 3) (ci := 12) (b := 8) (zz := 0) (x := 146) (by decide +kernel) h (hS _ _ sm_146) rfl ?_
  show wp _ 157 5 [(0, .ref 146)] [.int (Int32.ofInt (s 146 8)), .ref 146] w _
  obtain ⟨o1, e2, hx⟩ := bd hx
  refine wp_cl [.ref 146, .int (Int32.ofInt (s 146 8))] [] (i := .invokevirtual 118) (ln := 3) (a := 155) (b := 0) (z := 0) (by decide +kernel) rfl rfl (by decide) rfl (show (2 : Nat) = pm_na 155 by decide +kernel) (Nat.le_of_ble_eq_true rfl) (show (2 : Nat) ≤ pm_n 155 by decide +kernel) (rcv_x 12 h (hS _ _ sm_146) (by decide +kernel)) (xm_isLetter_ok (d := d) hS h e2 ?_)
  show wp _ 157 8 [(0, .ref 146)] [.int (Int32.ofInt o1)] w _
  refine wz_eq (oo := 16) (ln := 3) (a := 24) (b := 0) (zz := 0) (by decide +kernel) (fun h5 => ?_) (fun h5 => ?_)
  · have hx := ite_t h5 hx
    cases hx
    exact kc _ rfl _ h
  · have hx := ite_f h5 hx
    refine wp_g 2 (pc1 := 13) (lv1 := [(0, .ref 146)]) (st1 := [.ref 146, .ref 146]) (w1 := w) rfl ?_
    refine wx_gi (kf := 111) (ln := 3) (ci := 12) (b := 8) (zz := 0) (x := 146) (by decide +kernel) h (hS _ _ sm_146) rfl ?_
    show wp _ 157 16 [(0, .ref 146)] [.int (Int32.ofInt (s 146 8)), .ref 146] w _
    refine wp_g 2 (pc1 := 18) (lv1 := [(0, .ref 146)]) (st1 := [.int (Int32.ofInt ((s 146 8) + 1)), .ref 146]) (w1 := w) (by simp only [Int32.ofInt_add, Int32.ofInt_sub, Int32.ofInt_mul, Int32.ofInt_neg, p_and, p_or, p_xor, p_shl, p_shr, p_usr, p_w8, p_c16, p_lI, q_and, q_or, q_shl, q_shr, q_w32, Int64.ofInt_add, Int64.ofInt_sub, Int64.ofInt_mul, p_mx, p_mn, q_mx, q_mn]; rfl) ?_
    obtain ⟨s6, e7, hx⟩ := bd hx
    refine wx_pi (kf := 111) (ln := 3) (ci := 12) (b := 8) (zz := 0) (x := 146) (by decide +kernel) h (hS _ _ sm_146) rfl (by decide +kernel) e7 (fun w8 h9 => ?_)
    refine wp_g 1 (pc1 := 0) (lv1 := [(0, .ref 146)]) (st1 := []) (w1 := w8) rfl ?_
    cases hx
    exact kn _ _ rfl h9
/-- FoldDeedsModel.passWord ()V -/
noncomputable def xm_passWord (s : Hp) : Option Hp :=
  (lp (fun (q : Hp) => xm_passWord_b0 q) s).bind fun q1 => some q1
set_option maxRecDepth 100000 in
theorem xm_passWord_ok {d : Nat} {P : Option Value → pm_H → Prop} {w : pm_H} {sh : Shp} {w0 : pm_H} {s : Hp} (hS : StM sh) (h : Rw sh w0 s w) {o : Hp} (hx : xm_passWord s = some o) (kr : ∀ w1, Rw sh w0 o w1 → P none w1) : wp (d + 1) 157 0 (lv_args 0 [.ref 146]) [] w P := by
  show wp _ 157 0 [(0, .ref 146)] [] w _
  unfold xm_passWord at hx
  obtain ⟨q1, e2, hx⟩ := bd hx
  refine wp_lp (σ := Hp) (ρ := Hp) (B := fun q => xm_passWord_b0 q) (R := fun q w' => Rw sh w0 q w') (C := fun r => ∀ w1, Rw sh w0 r w1 → wp (d + 1) 157 24 [(0, .ref 146)] [] w1 P) (lv := fun q => [(0, .ref 146)]) (hd := 0) (fun q w' o hR hb kn kc => xm_passWord_b0_ok hS hR hb kn kc) _ _ _ e2 h ?_
  intro w3 h4
  show wp _ 157 24 [(0, .ref 146)] [] w3 _
  refine wp_rt (i := .return_) (r := none) (ln := 1) (a := 0) (b := 0) (z := 0) (by decide +kernel) rfl (ret_v (by decide +kernel)) ?_
  cases hx
  exact kr _ h4
/-- FoldDeedsModel.takesWord (J)Z -/
noncomputable def xm_takesWord (s : Hp) (p1 : Int) : Option (Int × Hp) :=
  (xm_isWord s p1).bind fun o1 => if w32 o1.1 = 0 then some (0, o1.2) else (xm_passWord o1.2).bind fun o6 => some (1, o6)
set_option maxRecDepth 100000 in
theorem xm_takesWord_ok {d : Nat} {P : Option Value → pm_H → Prop} {w : pm_H} {sh : Shp} {w0 : pm_H} {s : Hp} (hS : StM sh) {p1 : Int} (h : Rw sh w0 s w) {o : Int × Hp} (hx : xm_takesWord s p1 = some o) (kr : ∀ w1, Rw sh w0 o.2 w1 → P (some (.int (Int32.ofInt o.1))) w1) : wp (d + 2) 158 0 (lv_args 0 [.ref 146, .long (Int64.ofInt p1)]) [] w P := by
  show wp _ 158 0 [(0, .ref 146), (1, .long (Int64.ofInt p1))] [] w _
  unfold xm_takesWord at hx
  refine wp_g 2 (pc1 := 2) (lv1 := [(0, .ref 146), (1, .long (Int64.ofInt p1))]) (st1 := [.long (Int64.ofInt p1), .ref 146]) (w1 := w) rfl ?_
  obtain ⟨o1, e2, hx⟩ := bd hx
  refine wp_cl [.ref 146, .long (Int64.ofInt p1)] [] (i := .invokevirtual 122) (ln := 3) (a := 156) (b := 0) (z := 0) (by decide +kernel) rfl rfl (by decide) rfl (show (2 : Nat) = pm_na 156 by decide +kernel) (Nat.le_of_ble_eq_true rfl) (show (3 : Nat) ≤ pm_n 156 by decide +kernel) (rcv_x 12 h (hS _ _ sm_146) (by decide +kernel)) (xm_isWord_ok (d := d) hS h e2 (fun w3 h4 => ?_))
  show wp _ 158 5 [(0, .ref 146), (1, .long (Int64.ofInt p1))] [.int (Int32.ofInt o1.1)] w3 _
  refine wz_ne (oo := 5) (ln := 3) (a := 10) (b := 0) (zz := 0) (by decide +kernel) (fun h5 => ?_) (fun h5 => ?_)
  · have hx := ite_f h5 hx
    refine wp_g 1 (pc1 := 11) (lv1 := [(0, .ref 146), (1, .long (Int64.ofInt p1))]) (st1 := [.ref 146]) (w1 := w3) rfl ?_
    obtain ⟨o6, e7, hx⟩ := bd hx
    refine wp_cl [.ref 146] [] (i := .invokevirtual 126) (ln := 3) (a := 157) (b := 0) (z := 0) (by decide +kernel) rfl rfl (by decide) rfl (show (1 : Nat) = pm_na 157 by decide +kernel) (Nat.le_of_ble_eq_true rfl) (show (1 : Nat) ≤ pm_n 157 by decide +kernel) (rcv_x 12 h4 (hS _ _ sm_146) (by decide +kernel)) (xm_passWord_ok (d := d) hS h4 e7 (fun w8 h9 => ?_))
    show wp _ 158 14 [(0, .ref 146), (1, .long (Int64.ofInt p1))] [] w8 _
    refine wp_g 1 (pc1 := 15) (lv1 := [(0, .ref 146), (1, .long (Int64.ofInt p1))]) (st1 := [.int (Int32.ofInt 1)]) (w1 := w8) rfl ?_
    refine wp_rt (i := .ireturn) (r := some (.int (Int32.ofInt 1))) (ln := 1) (a := 0) (b := 0) (z := 0) (by decide +kernel) rfl (ret_b (by decide +kernel) (Or.inr rfl)) ?_
    cases hx
    exact kr _ h9
  · have hx := ite_t h5 hx
    refine wp_g 1 (pc1 := 9) (lv1 := [(0, .ref 146), (1, .long (Int64.ofInt p1))]) (st1 := [.int (Int32.ofInt 0)]) (w1 := w3) rfl ?_
    refine wp_rt (i := .ireturn) (r := some (.int (Int32.ofInt 0))) (ln := 1) (a := 0) (b := 0) (z := 0) (by decide +kernel) rfl (ret_b (by decide +kernel) (Or.inl rfl)) ?_
    cases hx
    exact kr _ h4
noncomputable def xm_numberHere_b34 (s : Hp) (x1 : Int) (x2 : Int) (x3 : Int) (x4 : Int) : Option ((Int × Hp) ⊕ (Int × Hp)) :=
  (xm_isDigit s (s 146 8)).bind fun o1 => if w32 o1 = 0 then some (.inr (x4, s)) else if w32 ((s 146 8) - x3) < w32 5 then (ix 400 (s 146 8)).bind fun i11 => (some (uh s 146 8 ((s 146 8) + 1))).bind fun s13 => some (.inl (((10 * x4) + (s 147 i11)) - 48, s13)) else (some (uh s 146 8 ((s 146 8) + 1))).bind fun s7 => some (.inl (x4, s7))
set_option maxRecDepth 100000 in
theorem xm_numberHere_b34_ok {d : Nat} {P : Option Value → pm_H → Prop} {w : pm_H} {sh : Shp} {w0 : pm_H} {s : Hp} (hS : StM sh) {x1 : Int} {x2 : Int} {x3 : Int} {x4 : Int} (h : Rw sh w0 s w) {o : ((Int × Hp) ⊕ (Int × Hp))} (hx : xm_numberHere_b34 s x1 x2 x3 x4 = some o) (kn : ∀ (q : Int × Hp) w1, o = .inl q → Rw sh w0 q.2 w1 → wp (d + 1) 159 34 [(0, .ref 146), (1, .int (Int32.ofInt x1)), (2, .int (Int32.ofInt x2)), (3, .int (Int32.ofInt x3)), (4, .int (Int32.ofInt q.1))] [] w1 P) (kc : ∀ (r : (Int × Hp)), o = .inr r → (∀ w1, Rw sh w0 r.2 w1 → wp (d + 1) 159 88 [(0, .ref 146), (1, .int (Int32.ofInt x1)), (2, .int (Int32.ofInt x2)), (3, .int (Int32.ofInt x3)), (4, .int (Int32.ofInt r.1))] [] w1 P)) : wp (d + 1) 159 34 [(0, .ref 146), (1, .int (Int32.ofInt x1)), (2, .int (Int32.ofInt x2)), (3, .int (Int32.ofInt x3)), (4, .int (Int32.ofInt x4))] [] w P := by
  unfold xm_numberHere_b34 at hx
  refine wp_g 2 (pc1 := 36) (lv1 := [(0, .ref 146), (1, .int (Int32.ofInt x1)), (2, .int (Int32.ofInt x2)), (3, .int (Int32.ofInt x3)), (4, .int (Int32.ofInt x4))]) (st1 := [.ref 146, .ref 146]) (w1 := w) rfl ?_
  refine wx_gi (kf := 111) (ln := 3) (ci := 12) (b := 8) (zz := 0) (x := 146) (by decide +kernel) h (hS _ _ sm_146) rfl ?_
  show wp _ 159 39 [(0, .ref 146), (1, .int (Int32.ofInt x1)), (2, .int (Int32.ofInt x2)), (3, .int (Int32.ofInt x3)), (4, .int (Int32.ofInt x4))] [.int (Int32.ofInt (s 146 8)), .ref 146] w _
  obtain ⟨o1, e2, hx⟩ := bd hx
  refine wp_cl [.ref 146, .int (Int32.ofInt (s 146 8))] [] (i := .invokevirtual 129) (ln := 3) (a := 154) (b := 0) (z := 0) (by decide +kernel) rfl rfl (by decide) rfl (show (2 : Nat) = pm_na 154 by decide +kernel) (Nat.le_of_ble_eq_true rfl) (show (2 : Nat) ≤ pm_n 154 by decide +kernel) (rcv_x 12 h (hS _ _ sm_146) (by decide +kernel)) (xm_isDigit_ok (d := d) hS h e2 ?_)
  show wp _ 159 42 [(0, .ref 146), (1, .int (Int32.ofInt x1)), (2, .int (Int32.ofInt x2)), (3, .int (Int32.ofInt x3)), (4, .int (Int32.ofInt x4))] [.int (Int32.ofInt o1)] w _
  refine wz_eq (oo := 46) (ln := 3) (a := 88) (b := 0) (zz := 0) (by decide +kernel) (fun h5 => ?_) (fun h5 => ?_)
  · have hx := ite_t h5 hx
    cases hx
    exact kc _ rfl _ h
  · have hx := ite_f h5 hx
    refine wp_g 1 (pc1 := 46) (lv1 := [(0, .ref 146), (1, .int (Int32.ofInt x1)), (2, .int (Int32.ofInt x2)), (3, .int (Int32.ofInt x3)), (4, .int (Int32.ofInt x4))]) (st1 := [.ref 146]) (w1 := w) rfl ?_
    refine wx_gi (kf := 111) (ln := 3) (ci := 12) (b := 8) (zz := 0) (x := 146) (by decide +kernel) h (hS _ _ sm_146) rfl ?_
    show wp _ 159 49 [(0, .ref 146), (1, .int (Int32.ofInt x1)), (2, .int (Int32.ofInt x2)), (3, .int (Int32.ofInt x3)), (4, .int (Int32.ofInt x4))] [.int (Int32.ofInt (s 146 8))] w _
    refine wp_g 3 (pc1 := 52) (lv1 := [(0, .ref 146), (1, .int (Int32.ofInt x1)), (2, .int (Int32.ofInt x2)), (3, .int (Int32.ofInt x3)), (4, .int (Int32.ofInt x4))]) (st1 := [.int (Int32.ofInt 5), .int (Int32.ofInt ((s 146 8) - x3))]) (w1 := w) (by simp only [Int32.ofInt_add, Int32.ofInt_sub, Int32.ofInt_mul, Int32.ofInt_neg, p_and, p_or, p_xor, p_shl, p_shr, p_usr, p_w8, p_c16, p_lI, q_and, q_or, q_shl, q_shr, q_w32, Int64.ofInt_add, Int64.ofInt_sub, Int64.ofInt_mul, p_mx, p_mn, q_mx, q_mn]; rfl) ?_
    refine wx_ge (oo := 23) (ln := 3) (a := 75) (b := 0) (zz := 0) (by decide +kernel) (fun h6 => ?_) (fun h6 => ?_)
    · have hx := ite_f h6 hx
      refine wp_g 2 (pc1 := 77) (lv1 := [(0, .ref 146), (1, .int (Int32.ofInt x1)), (2, .int (Int32.ofInt x2)), (3, .int (Int32.ofInt x3)), (4, .int (Int32.ofInt x4))]) (st1 := [.ref 146, .ref 146]) (w1 := w) rfl ?_
      refine wx_gi (kf := 111) (ln := 3) (ci := 12) (b := 8) (zz := 0) (x := 146) (by decide +kernel) h (hS _ _ sm_146) rfl ?_
      show wp _ 159 80 [(0, .ref 146), (1, .int (Int32.ofInt x1)), (2, .int (Int32.ofInt x2)), (3, .int (Int32.ofInt x3)), (4, .int (Int32.ofInt x4))] [.int (Int32.ofInt (s 146 8)), .ref 146] w _
      refine wp_g 2 (pc1 := 82) (lv1 := [(0, .ref 146), (1, .int (Int32.ofInt x1)), (2, .int (Int32.ofInt x2)), (3, .int (Int32.ofInt x3)), (4, .int (Int32.ofInt x4))]) (st1 := [.int (Int32.ofInt ((s 146 8) + 1)), .ref 146]) (w1 := w) (by simp only [Int32.ofInt_add, Int32.ofInt_sub, Int32.ofInt_mul, Int32.ofInt_neg, p_and, p_or, p_xor, p_shl, p_shr, p_usr, p_w8, p_c16, p_lI, q_and, q_or, q_shl, q_shr, q_w32, Int64.ofInt_add, Int64.ofInt_sub, Int64.ofInt_mul, p_mx, p_mn, q_mx, q_mn]; rfl) ?_
      obtain ⟨s7, e8, hx⟩ := bd hx
      refine wx_pi (kf := 111) (ln := 3) (ci := 12) (b := 8) (zz := 0) (x := 146) (by decide +kernel) h (hS _ _ sm_146) rfl (by decide +kernel) e8 (fun w9 h10 => ?_)
      refine wp_g 1 (pc1 := 34) (lv1 := [(0, .ref 146), (1, .int (Int32.ofInt x1)), (2, .int (Int32.ofInt x2)), (3, .int (Int32.ofInt x3)), (4, .int (Int32.ofInt x4))]) (st1 := []) (w1 := w9) rfl ?_
      cases hx
      exact kn _ _ rfl h10
    · have hx := ite_t h6 hx
      refine wp_g 4 (pc1 := 61) (lv1 := [(0, .ref 146), (1, .int (Int32.ofInt x1)), (2, .int (Int32.ofInt x2)), (3, .int (Int32.ofInt x3)), (4, .int (Int32.ofInt x4))]) (st1 := [.ref 146, .int (Int32.ofInt (10 * x4))]) (w1 := w) (by simp only [Int32.ofInt_add, Int32.ofInt_sub, Int32.ofInt_mul, Int32.ofInt_neg, p_and, p_or, p_xor, p_shl, p_shr, p_usr, p_w8, p_c16, p_lI, q_and, q_or, q_shl, q_shr, q_w32, Int64.ofInt_add, Int64.ofInt_sub, Int64.ofInt_mul, p_mx, p_mn, q_mx, q_mn]; rfl) ?_
      refine wx_gr (o := 1) (kf := 7) (ln := 3) (ci := 12) (b := 0) (zz := 0) (x := 146) (by decide +kernel) h (hS _ _ sm_146) rfl ?_
      show wp _ 159 64 [(0, .ref 146), (1, .int (Int32.ofInt x1)), (2, .int (Int32.ofInt x2)), (3, .int (Int32.ofInt x3)), (4, .int (Int32.ofInt x4))] [.ref 147, .int (Int32.ofInt (10 * x4))] w _
      refine wp_g 1 (pc1 := 65) (lv1 := [(0, .ref 146), (1, .int (Int32.ofInt x1)), (2, .int (Int32.ofInt x2)), (3, .int (Int32.ofInt x3)), (4, .int (Int32.ofInt x4))]) (st1 := [.ref 146, .ref 147, .int (Int32.ofInt (10 * x4))]) (w1 := w) rfl ?_
      refine wx_gi (kf := 111) (ln := 3) (ci := 12) (b := 8) (zz := 0) (x := 146) (by decide +kernel) h (hS _ _ sm_146) rfl ?_
      show wp _ 159 68 [(0, .ref 146), (1, .int (Int32.ofInt x1)), (2, .int (Int32.ofInt x2)), (3, .int (Int32.ofInt x3)), (4, .int (Int32.ofInt x4))] [.int (Int32.ofInt (s 146 8)), .ref 147, .int (Int32.ofInt (10 * x4))] w _
      obtain ⟨i11, e12, hx⟩ := bd hx
      refine wx_rb (x := 147) (n := 400) (ln := 1) (a := 0) (b := 0) (zz := 0) (by decide +kernel) h (hS _ _ sm_147) e12 ?_
      show wp _ 159 69 [(0, .ref 146), (1, .int (Int32.ofInt x1)), (2, .int (Int32.ofInt x2)), (3, .int (Int32.ofInt x3)), (4, .int (Int32.ofInt x4))] [.int (Int32.ofInt (s 147 i11)), .int (Int32.ofInt (10 * x4))] w _
      refine wp_g 6 (pc1 := 77) (lv1 := [(4, .int (Int32.ofInt (((10 * x4) + (s 147 i11)) - 48))), (0, .ref 146), (1, .int (Int32.ofInt x1)), (2, .int (Int32.ofInt x2)), (3, .int (Int32.ofInt x3))]) (st1 := [.ref 146, .ref 146]) (w1 := w) (by simp only [Int32.ofInt_add, Int32.ofInt_sub, Int32.ofInt_mul, Int32.ofInt_neg, p_and, p_or, p_xor, p_shl, p_shr, p_usr, p_w8, p_c16, p_lI, q_and, q_or, q_shl, q_shr, q_w32, Int64.ofInt_add, Int64.ofInt_sub, Int64.ofInt_mul, p_mx, p_mn, q_mx, q_mn]; rfl) ?_
      refine wx_gi (kf := 111) (ln := 3) (ci := 12) (b := 8) (zz := 0) (x := 146) (by decide +kernel) h (hS _ _ sm_146) rfl ?_
      show wp _ 159 80 [(4, .int (Int32.ofInt (((10 * x4) + (s 147 i11)) - 48))), (0, .ref 146), (1, .int (Int32.ofInt x1)), (2, .int (Int32.ofInt x2)), (3, .int (Int32.ofInt x3))] [.int (Int32.ofInt (s 146 8)), .ref 146] w _
      refine wp_g 2 (pc1 := 82) (lv1 := [(4, .int (Int32.ofInt (((10 * x4) + (s 147 i11)) - 48))), (0, .ref 146), (1, .int (Int32.ofInt x1)), (2, .int (Int32.ofInt x2)), (3, .int (Int32.ofInt x3))]) (st1 := [.int (Int32.ofInt ((s 146 8) + 1)), .ref 146]) (w1 := w) (by simp only [Int32.ofInt_add, Int32.ofInt_sub, Int32.ofInt_mul, Int32.ofInt_neg, p_and, p_or, p_xor, p_shl, p_shr, p_usr, p_w8, p_c16, p_lI, q_and, q_or, q_shl, q_shr, q_w32, Int64.ofInt_add, Int64.ofInt_sub, Int64.ofInt_mul, p_mx, p_mn, q_mx, q_mn]; rfl) ?_
      obtain ⟨s13, e14, hx⟩ := bd hx
      refine wx_pi (kf := 111) (ln := 3) (ci := 12) (b := 8) (zz := 0) (x := 146) (by decide +kernel) h (hS _ _ sm_146) rfl (by decide +kernel) e14 (fun w15 h16 => ?_)
      refine wp_g 1 (pc1 := 34) (lv1 := [(4, .int (Int32.ofInt (((10 * x4) + (s 147 i11)) - 48))), (0, .ref 146), (1, .int (Int32.ofInt x1)), (2, .int (Int32.ofInt x2)), (3, .int (Int32.ofInt x3))]) (st1 := []) (w1 := w15) rfl ?_
      refine wp_lv (lv1 := [(0, .ref 146), (1, .int (Int32.ofInt x1)), (2, .int (Int32.ofInt x2)), (3, .int (Int32.ofInt x3)), (4, .int (Int32.ofInt (((10 * x4) + (s 147 i11)) - 48)))]) (lsub_p [1, 2, 3, 4, 0] rfl rfl rfl) ?_
      cases hx
      exact kn _ _ rfl h16
noncomputable def xm_numberHere_j117 (s : Hp) (x3 : Int) : Option (Int × Hp) :=
  (xm_fails s 1 x3).bind fun o1 => if w32 o1.1 = 0 then some (0, o1.2) else some (1, o1.2)
set_option maxRecDepth 100000 in
theorem xm_numberHere_j117_ok {d : Nat} {P : Option Value → pm_H → Prop} {w : pm_H} {sh : Shp} {w0 : pm_H} {s : Hp} (hS : StM sh) {x3 : Int} (h : Rw sh w0 s w) {o : (Int × Hp)} (hx : xm_numberHere_j117 s x3 = some o) (kr : ∀ w1, Rw sh w0 o.2 w1 → P (some (.int (Int32.ofInt o.1))) w1) : wp (d + 1) 159 117 [(0, .ref 146), (3, .int (Int32.ofInt x3))] [] w P := by
  unfold xm_numberHere_j117 at hx
  refine wp_g 3 (pc1 := 120) (lv1 := [(0, .ref 146), (3, .int (Int32.ofInt x3))]) (st1 := [.int (Int32.ofInt x3), .int (Int32.ofInt 1), .ref 146]) (w1 := w) rfl ?_
  obtain ⟨o1, e2, hx⟩ := bd hx
  refine wp_cl [.ref 146, .int (Int32.ofInt 1), .int (Int32.ofInt x3)] [] (i := .invokevirtual 132) (ln := 3) (a := 152) (b := 0) (z := 0) (by decide +kernel) rfl rfl (by decide) rfl (show (3 : Nat) = pm_na 152 by decide +kernel) (Nat.le_of_ble_eq_true rfl) (show (3 : Nat) ≤ pm_n 152 by decide +kernel) (rcv_x 12 h (hS _ _ sm_146) (by decide +kernel)) (xm_fails_ok (d := d) hS h e2 (fun w3 h4 => ?_))
  show wp _ 159 123 [(0, .ref 146), (3, .int (Int32.ofInt x3))] [.int (Int32.ofInt o1.1)] w3 _
  refine wz_eq (oo := 7) (ln := 3) (a := 130) (b := 0) (zz := 0) (by decide +kernel) (fun h5 => ?_) (fun h5 => ?_)
  · have hx := ite_t h5 hx
    refine wp_g 1 (pc1 := 131) (lv1 := [(0, .ref 146), (3, .int (Int32.ofInt x3))]) (st1 := [.int (Int32.ofInt 0)]) (w1 := w3) rfl ?_
    refine wp_rt (i := .ireturn) (r := some (.int (Int32.ofInt 0))) (ln := 1) (a := 0) (b := 0) (z := 0) (by decide +kernel) rfl (ret_b (by decide +kernel) (Or.inl rfl)) ?_
    cases hx
    exact kr _ h4
  · have hx := ite_f h5 hx
    refine wp_g 2 (pc1 := 131) (lv1 := [(0, .ref 146), (3, .int (Int32.ofInt x3))]) (st1 := [.int (Int32.ofInt 1)]) (w1 := w3) rfl ?_
    refine wp_rt (i := .ireturn) (r := some (.int (Int32.ofInt 1))) (ln := 1) (a := 0) (b := 0) (z := 0) (by decide +kernel) rfl (ret_b (by decide +kernel) (Or.inr rfl)) ?_
    cases hx
    exact kr _ h4
/-- FoldDeedsModel.numberHere (II)Z -/
noncomputable def xm_numberHere (s : Hp) (p1 : Int) (p2 : Int) : Option (Int × Hp) :=
  (xm_see s).bind fun o1 => (xm_isDigit o1.2 (o1.2 146 8)).bind fun o5 => if w32 o5 = 0 then (xm_fails o1.2 0 (o1.2 146 8)).bind fun o24 => if w32 o24.1 = 0 ∨ w32 o24.1 = 1 then some (o24.1, o24.2) else none else (lp (fun (q : Int × Hp) => xm_numberHere_b34 q.2 p1 p2 (o1.2 146 8) q.1) (0, o1.2)).bind fun q10 => (some (uh q10.2 146 10 q10.1)).bind fun s14 => if w32 5 < w32 ((s14 146 8) - (o1.2 146 8)) then xm_numberHere_j117 s14 (o1.2 146 8) else (xm_in (w32 q10.1) (w32 p1) (w32 p2)).bind fun o19 => if w32 o19 = 0 then xm_numberHere_j117 s14 (o1.2 146 8) else some (1, s14)
set_option maxRecDepth 100000 in
theorem xm_numberHere_ok {d : Nat} {P : Option Value → pm_H → Prop} {w : pm_H} {sh : Shp} {w0 : pm_H} {s : Hp} (hS : StM sh) {p1 : Int} {p2 : Int} (h : Rw sh w0 s w) {o : Int × Hp} (hx : xm_numberHere s p1 p2 = some o) (kr : ∀ w1, Rw sh w0 o.2 w1 → P (some (.int (Int32.ofInt o.1))) w1) : wp (d + 1) 159 0 (lv_args 0 [.ref 146, .int (Int32.ofInt p1), .int (Int32.ofInt p2)]) [] w P := by
  show wp _ 159 0 [(0, .ref 146), (1, .int (Int32.ofInt p1)), (2, .int (Int32.ofInt p2))] [] w _
  unfold xm_numberHere at hx
  refine wp_g 1 (pc1 := 1) (lv1 := [(0, .ref 146), (1, .int (Int32.ofInt p1)), (2, .int (Int32.ofInt p2))]) (st1 := [.ref 146]) (w1 := w) rfl ?_
  obtain ⟨o1, e2, hx⟩ := bd hx
  refine wp_cl [.ref 146] [] (i := .invokevirtual 114) (ln := 3) (a := 153) (b := 0) (z := 0) (by decide +kernel) rfl rfl (by decide) rfl (show (1 : Nat) = pm_na 153 by decide +kernel) (Nat.le_of_ble_eq_true rfl) (show (1 : Nat) ≤ pm_n 153 by decide +kernel) (rcv_x 12 h (hS _ _ sm_146) (by decide +kernel)) (xm_see_ok (d := d) hS h e2 (fun w3 h4 => ?_))
  show wp _ 159 4 [(0, .ref 146), (1, .int (Int32.ofInt p1)), (2, .int (Int32.ofInt p2))] [.int (Int32.ofInt o1.1)] w3 _
  refine wp_g 3 (pc1 := 7) (lv1 := [(0, .ref 146), (1, .int (Int32.ofInt p1)), (2, .int (Int32.ofInt p2))]) (st1 := [.ref 146, .ref 146]) (w1 := w3) rfl ?_
  refine wx_gi (kf := 111) (ln := 3) (ci := 12) (b := 8) (zz := 0) (x := 146) (by decide +kernel) h4 (hS _ _ sm_146) rfl ?_
  show wp _ 159 10 [(0, .ref 146), (1, .int (Int32.ofInt p1)), (2, .int (Int32.ofInt p2))] [.int (Int32.ofInt (o1.2 146 8)), .ref 146] w3 _
  obtain ⟨o5, e6, hx⟩ := bd hx
  refine wp_cl [.ref 146, .int (Int32.ofInt (o1.2 146 8))] [] (i := .invokevirtual 129) (ln := 3) (a := 154) (b := 0) (z := 0) (by decide +kernel) rfl rfl (by decide) rfl (show (2 : Nat) = pm_na 154 by decide +kernel) (Nat.le_of_ble_eq_true rfl) (show (2 : Nat) ≤ pm_n 154 by decide +kernel) (rcv_x 12 h4 (hS _ _ sm_146) (by decide +kernel)) (xm_isDigit_ok (d := d) hS h4 e6 ?_)
  show wp _ 159 13 [(0, .ref 146), (1, .int (Int32.ofInt p1)), (2, .int (Int32.ofInt p2))] [.int (Int32.ofInt o5)] w3 _
  refine wz_ne (oo := 13) (ln := 3) (a := 26) (b := 0) (zz := 0) (by decide +kernel) (fun h9 => ?_) (fun h9 => ?_)
  · have hx := ite_f h9 hx
    refine wp_g 1 (pc1 := 27) (lv1 := [(0, .ref 146), (1, .int (Int32.ofInt p1)), (2, .int (Int32.ofInt p2))]) (st1 := [.ref 146]) (w1 := w3) rfl ?_
    refine wx_gi (kf := 111) (ln := 3) (ci := 12) (b := 8) (zz := 0) (x := 146) (by decide +kernel) h4 (hS _ _ sm_146) rfl ?_
    show wp _ 159 30 [(0, .ref 146), (1, .int (Int32.ofInt p1)), (2, .int (Int32.ofInt p2))] [.int (Int32.ofInt (o1.2 146 8))] w3 _
    refine wp_g 3 (pc1 := 34) (lv1 := [(4, .int (Int32.ofInt 0)), (3, .int (Int32.ofInt (o1.2 146 8))), (0, .ref 146), (1, .int (Int32.ofInt p1)), (2, .int (Int32.ofInt p2))]) (st1 := []) (w1 := w3) rfl ?_
    refine wp_lv (lv1 := [(0, .ref 146), (1, .int (Int32.ofInt p1)), (2, .int (Int32.ofInt p2)), (3, .int (Int32.ofInt (o1.2 146 8))), (4, .int (Int32.ofInt 0))]) (lsub_p [2, 3, 4, 1, 0] rfl rfl rfl) ?_
    obtain ⟨q10, e11, hx⟩ := bd hx
    refine wp_lp (σ := Int × Hp) (ρ := (Int × Hp)) (B := fun q => xm_numberHere_b34 q.2 p1 p2 (o1.2 146 8) q.1) (R := fun q w' => Rw sh w0 q.2 w') (C := fun r => ∀ w1, Rw sh w0 r.2 w1 → wp (d + 1) 159 88 [(0, .ref 146), (1, .int (Int32.ofInt p1)), (2, .int (Int32.ofInt p2)), (3, .int (Int32.ofInt (o1.2 146 8))), (4, .int (Int32.ofInt r.1))] [] w1 P) (lv := fun q => [(0, .ref 146), (1, .int (Int32.ofInt p1)), (2, .int (Int32.ofInt p2)), (3, .int (Int32.ofInt (o1.2 146 8))), (4, .int (Int32.ofInt q.1))]) (hd := 34) (fun q w' o hR hb kn kc => xm_numberHere_b34_ok hS hR hb kn kc) _ _ _ e11 h4 ?_
    intro w12 h13
    show wp _ 159 88 [(0, .ref 146), (1, .int (Int32.ofInt p1)), (2, .int (Int32.ofInt p2)), (3, .int (Int32.ofInt (o1.2 146 8))), (4, .int (Int32.ofInt q10.1))] [] w12 _
    refine wp_g 2 (pc1 := 91) (lv1 := [(0, .ref 146), (1, .int (Int32.ofInt p1)), (2, .int (Int32.ofInt p2)), (3, .int (Int32.ofInt (o1.2 146 8))), (4, .int (Int32.ofInt q10.1))]) (st1 := [.int (Int32.ofInt q10.1), .ref 146]) (w1 := w12) rfl ?_
    obtain ⟨s14, e15, hx⟩ := bd hx
    refine wx_pi (kf := 136) (ln := 3) (ci := 12) (b := 10) (zz := 0) (x := 146) (by decide +kernel) h13 (hS _ _ sm_146) rfl (by decide +kernel) e15 (fun w16 h17 => ?_)
    refine wp_g 1 (pc1 := 95) (lv1 := [(0, .ref 146), (1, .int (Int32.ofInt p1)), (2, .int (Int32.ofInt p2)), (3, .int (Int32.ofInt (o1.2 146 8))), (4, .int (Int32.ofInt q10.1))]) (st1 := [.ref 146]) (w1 := w16) rfl ?_
    refine wx_gi (kf := 111) (ln := 3) (ci := 12) (b := 8) (zz := 0) (x := 146) (by decide +kernel) h17 (hS _ _ sm_146) rfl ?_
    show wp _ 159 98 [(0, .ref 146), (1, .int (Int32.ofInt p1)), (2, .int (Int32.ofInt p2)), (3, .int (Int32.ofInt (o1.2 146 8))), (4, .int (Int32.ofInt q10.1))] [.int (Int32.ofInt (s14 146 8))] w16 _
    refine wp_g 3 (pc1 := 101) (lv1 := [(0, .ref 146), (1, .int (Int32.ofInt p1)), (2, .int (Int32.ofInt p2)), (3, .int (Int32.ofInt (o1.2 146 8))), (4, .int (Int32.ofInt q10.1))]) (st1 := [.int (Int32.ofInt 5), .int (Int32.ofInt ((s14 146 8) - (o1.2 146 8)))]) (w1 := w16) (by simp only [Int32.ofInt_add, Int32.ofInt_sub, Int32.ofInt_mul, Int32.ofInt_neg, p_and, p_or, p_xor, p_shl, p_shr, p_usr, p_w8, p_c16, p_lI, q_and, q_or, q_shl, q_shr, q_w32, Int64.ofInt_add, Int64.ofInt_sub, Int64.ofInt_mul, p_mx, p_mn, q_mx, q_mn]; rfl) ?_
    refine wx_gt (oo := 16) (ln := 3) (a := 117) (b := 0) (zz := 0) (by decide +kernel) (fun h18 => ?_) (fun h18 => ?_)
    · have hx := ite_t h18 hx
      refine wp_lv (lv1 := [(0, .ref 146), (3, .int (Int32.ofInt (o1.2 146 8)))]) (lsub_p [0, 3] rfl rfl rfl) ?_
      exact xm_numberHere_j117_ok hS h17 hx kr
    · have hx := ite_f h18 hx
      refine wp_g 6 (pc1 := 111) (lv1 := [(0, .ref 146), (1, .int (Int32.ofInt p1)), (2, .int (Int32.ofInt p2)), (3, .int (Int32.ofInt (o1.2 146 8))), (4, .int (Int32.ofInt q10.1))]) (st1 := [.long (Int64.ofInt (w32 p2)), .long (Int64.ofInt (w32 p1)), .long (Int64.ofInt (w32 q10.1))]) (w1 := w16) (by simp only [Int32.ofInt_add, Int32.ofInt_sub, Int32.ofInt_mul, Int32.ofInt_neg, p_and, p_or, p_xor, p_shl, p_shr, p_usr, p_w8, p_c16, p_lI, q_and, q_or, q_shl, q_shr, q_w32, Int64.ofInt_add, Int64.ofInt_sub, Int64.ofInt_mul, p_mx, p_mn, q_mx, q_mn]; rfl) ?_
      obtain ⟨o19, e20, hx⟩ := bd hx
      refine wp_cl [.long (Int64.ofInt (w32 q10.1)), .long (Int64.ofInt (w32 p1)), .long (Int64.ofInt (w32 p2))] [] (i := .invokestatic 139) (ln := 3) (a := 147) (b := 1) (z := 0) (by decide +kernel) rfl rfl (by decide) rfl (show (3 : Nat) = pm_na 147 by decide +kernel) (Nat.le_of_ble_eq_true rfl) (show (6 : Nat) ≤ pm_n 147 by decide +kernel) (by rw [show pm_k 147 = 1 by decide +kernel]; rfl) (xm_in_ok (d := d) e20 ?_)
      show wp _ 159 114 [(0, .ref 146), (1, .int (Int32.ofInt p1)), (2, .int (Int32.ofInt p2)), (3, .int (Int32.ofInt (o1.2 146 8))), (4, .int (Int32.ofInt q10.1))] [.int (Int32.ofInt o19)] w16 _
      refine wz_ne (oo := 12) (ln := 3) (a := 126) (b := 0) (zz := 0) (by decide +kernel) (fun h23 => ?_) (fun h23 => ?_)
      · have hx := ite_f h23 hx
        refine wp_g 2 (pc1 := 131) (lv1 := [(0, .ref 146), (1, .int (Int32.ofInt p1)), (2, .int (Int32.ofInt p2)), (3, .int (Int32.ofInt (o1.2 146 8))), (4, .int (Int32.ofInt q10.1))]) (st1 := [.int (Int32.ofInt 1)]) (w1 := w16) rfl ?_
        refine wp_rt (i := .ireturn) (r := some (.int (Int32.ofInt 1))) (ln := 1) (a := 0) (b := 0) (z := 0) (by decide +kernel) rfl (ret_b (by decide +kernel) (Or.inr rfl)) ?_
        cases hx
        exact kr _ h17
      · have hx := ite_t h23 hx
        refine wp_lv (lv1 := [(0, .ref 146), (3, .int (Int32.ofInt (o1.2 146 8)))]) (lsub_p [0, 3] rfl rfl rfl) ?_
        exact xm_numberHere_j117_ok hS h17 hx kr
  · have hx := ite_t h9 hx
    refine wp_g 3 (pc1 := 19) (lv1 := [(0, .ref 146), (1, .int (Int32.ofInt p1)), (2, .int (Int32.ofInt p2))]) (st1 := [.ref 146, .int (Int32.ofInt 0), .ref 146]) (w1 := w3) rfl ?_
    refine wx_gi (kf := 111) (ln := 3) (ci := 12) (b := 8) (zz := 0) (x := 146) (by decide +kernel) h4 (hS _ _ sm_146) rfl ?_
    show wp _ 159 22 [(0, .ref 146), (1, .int (Int32.ofInt p1)), (2, .int (Int32.ofInt p2))] [.int (Int32.ofInt (o1.2 146 8)), .int (Int32.ofInt 0), .ref 146] w3 _
    obtain ⟨o24, e25, hx⟩ := bd hx
    refine wp_cl [.ref 146, .int (Int32.ofInt 0), .int (Int32.ofInt (o1.2 146 8))] [] (i := .invokevirtual 132) (ln := 3) (a := 152) (b := 0) (z := 0) (by decide +kernel) rfl rfl (by decide) rfl (show (3 : Nat) = pm_na 152 by decide +kernel) (Nat.le_of_ble_eq_true rfl) (show (3 : Nat) ≤ pm_n 152 by decide +kernel) (rcv_x 12 h4 (hS _ _ sm_146) (by decide +kernel)) (xm_fails_ok (d := d) hS h4 e25 (fun w26 h27 => ?_))
    show wp _ 159 25 [(0, .ref 146), (1, .int (Int32.ofInt p1)), (2, .int (Int32.ofInt p2))] [.int (Int32.ofInt o24.1)] w26 _
    obtain ⟨h28, hx⟩ := gd hx
    refine wp_rt (i := .ireturn) (r := some (.int (Int32.ofInt o24.1))) (ln := 1) (a := 0) (b := 0) (z := 0) (by decide +kernel) rfl (ret_b (by decide +kernel) (w01 h28)) ?_
    cases hx
    exact kr _ h27
/-- FoldDeedsModel.wordHere ()I -/
noncomputable def xm_wordHere (s : Hp) : Option (Int × Hp) :=
  (xm_isWord s 1667591276).bind fun o1 => if w32 o1.1 = 0 then (xm_isWord o1.2 512970880104).bind fun o6 => if w32 o6.1 = 0 then (xm_isWord o6.2 422877685106).bind fun o11 => if w32 o11.1 = 0 then (xm_isWord o11.2 478745093490).bind fun o16 => if w32 o16.1 = 0 then (xm_isWord o16.2 465491813746).bind fun o21 => if w32 o21.1 = 0 then (xm_isWord o21.2 482854658917).bind fun o26 => if w32 o26.1 = 0 then (xm_isWord o26.2 470021465444).bind fun o31 => if w32 o31.1 = 0 then (xm_isWord o31.2 512869299304).bind fun o36 => if w32 o36.1 = 0 then (xm_isWord o36.2 7823737).bind fun o41 => if w32 o41.1 = 0 then (xm_isWord o41.2 483006772069).bind fun o46 => if w32 o46.1 = 0 then (xm_isWord o46.2 6578553).bind fun o51 => if w32 o51.1 = 0 then some ((-1), o51.2) else some (10, o51.2) else some (9, o46.2) else some (8, o41.2) else some (7, o36.2) else some (6, o31.2) else some (5, o26.2) else some (4, o21.2) else some (3, o16.2) else some (2, o11.2) else some (1, o6.2) else some (0, o1.2)
set_option maxRecDepth 100000 in
theorem xm_wordHere_ok {d : Nat} {P : Option Value → pm_H → Prop} {w : pm_H} {sh : Shp} {w0 : pm_H} {s : Hp} (hS : StM sh) (h : Rw sh w0 s w) {o : Int × Hp} (hx : xm_wordHere s = some o) (kr : ∀ w1, Rw sh w0 o.2 w1 → P (some (.int (Int32.ofInt o.1))) w1) : wp (d + 2) 160 0 (lv_args 0 [.ref 146]) [] w P := by
  show wp _ 160 0 [(0, .ref 146)] [] w _
  unfold xm_wordHere at hx
  refine wp_g 2 (pc1 := 4) (lv1 := [(0, .ref 146)]) (st1 := [.long (Int64.ofInt 1667591276), .ref 146]) (w1 := w) rfl ?_
  obtain ⟨o1, e2, hx⟩ := bd hx
  refine wp_cl [.ref 146, .long (Int64.ofInt 1667591276)] [] (i := .invokevirtual 122) (ln := 3) (a := 156) (b := 0) (z := 0) (by decide +kernel) rfl rfl (by decide) rfl (show (2 : Nat) = pm_na 156 by decide +kernel) (Nat.le_of_ble_eq_true rfl) (show (3 : Nat) ≤ pm_n 156 by decide +kernel) (rcv_x 12 h (hS _ _ sm_146) (by decide +kernel)) (xm_isWord_ok (d := d) hS h e2 (fun w3 h4 => ?_))
  show wp _ 160 7 [(0, .ref 146)] [.int (Int32.ofInt o1.1)] w3 _
  refine wz_eq (oo := 5) (ln := 3) (a := 12) (b := 0) (zz := 0) (by decide +kernel) (fun h5 => ?_) (fun h5 => ?_)
  · have hx := ite_t h5 hx
    refine wp_g 2 (pc1 := 16) (lv1 := [(0, .ref 146)]) (st1 := [.long (Int64.ofInt 512970880104), .ref 146]) (w1 := w3) rfl ?_
    obtain ⟨o6, e7, hx⟩ := bd hx
    refine wp_cl [.ref 146, .long (Int64.ofInt 512970880104)] [] (i := .invokevirtual 122) (ln := 3) (a := 156) (b := 0) (z := 0) (by decide +kernel) rfl rfl (by decide) rfl (show (2 : Nat) = pm_na 156 by decide +kernel) (Nat.le_of_ble_eq_true rfl) (show (3 : Nat) ≤ pm_n 156 by decide +kernel) (rcv_x 12 h4 (hS _ _ sm_146) (by decide +kernel)) (xm_isWord_ok (d := d) hS h4 e7 (fun w8 h9 => ?_))
    show wp _ 160 19 [(0, .ref 146)] [.int (Int32.ofInt o6.1)] w8 _
    refine wz_eq (oo := 5) (ln := 3) (a := 24) (b := 0) (zz := 0) (by decide +kernel) (fun h10 => ?_) (fun h10 => ?_)
    · have hx := ite_t h10 hx
      refine wp_g 2 (pc1 := 28) (lv1 := [(0, .ref 146)]) (st1 := [.long (Int64.ofInt 422877685106), .ref 146]) (w1 := w8) rfl ?_
      obtain ⟨o11, e12, hx⟩ := bd hx
      refine wp_cl [.ref 146, .long (Int64.ofInt 422877685106)] [] (i := .invokevirtual 122) (ln := 3) (a := 156) (b := 0) (z := 0) (by decide +kernel) rfl rfl (by decide) rfl (show (2 : Nat) = pm_na 156 by decide +kernel) (Nat.le_of_ble_eq_true rfl) (show (3 : Nat) ≤ pm_n 156 by decide +kernel) (rcv_x 12 h9 (hS _ _ sm_146) (by decide +kernel)) (xm_isWord_ok (d := d) hS h9 e12 (fun w13 h14 => ?_))
      show wp _ 160 31 [(0, .ref 146)] [.int (Int32.ofInt o11.1)] w13 _
      refine wz_eq (oo := 5) (ln := 3) (a := 36) (b := 0) (zz := 0) (by decide +kernel) (fun h15 => ?_) (fun h15 => ?_)
      · have hx := ite_t h15 hx
        refine wp_g 2 (pc1 := 40) (lv1 := [(0, .ref 146)]) (st1 := [.long (Int64.ofInt 478745093490), .ref 146]) (w1 := w13) rfl ?_
        obtain ⟨o16, e17, hx⟩ := bd hx
        refine wp_cl [.ref 146, .long (Int64.ofInt 478745093490)] [] (i := .invokevirtual 122) (ln := 3) (a := 156) (b := 0) (z := 0) (by decide +kernel) rfl rfl (by decide) rfl (show (2 : Nat) = pm_na 156 by decide +kernel) (Nat.le_of_ble_eq_true rfl) (show (3 : Nat) ≤ pm_n 156 by decide +kernel) (rcv_x 12 h14 (hS _ _ sm_146) (by decide +kernel)) (xm_isWord_ok (d := d) hS h14 e17 (fun w18 h19 => ?_))
        show wp _ 160 43 [(0, .ref 146)] [.int (Int32.ofInt o16.1)] w18 _
        refine wz_eq (oo := 5) (ln := 3) (a := 48) (b := 0) (zz := 0) (by decide +kernel) (fun h20 => ?_) (fun h20 => ?_)
        · have hx := ite_t h20 hx
          refine wp_g 2 (pc1 := 52) (lv1 := [(0, .ref 146)]) (st1 := [.long (Int64.ofInt 465491813746), .ref 146]) (w1 := w18) rfl ?_
          obtain ⟨o21, e22, hx⟩ := bd hx
          refine wp_cl [.ref 146, .long (Int64.ofInt 465491813746)] [] (i := .invokevirtual 122) (ln := 3) (a := 156) (b := 0) (z := 0) (by decide +kernel) rfl rfl (by decide) rfl (show (2 : Nat) = pm_na 156 by decide +kernel) (Nat.le_of_ble_eq_true rfl) (show (3 : Nat) ≤ pm_n 156 by decide +kernel) (rcv_x 12 h19 (hS _ _ sm_146) (by decide +kernel)) (xm_isWord_ok (d := d) hS h19 e22 (fun w23 h24 => ?_))
          show wp _ 160 55 [(0, .ref 146)] [.int (Int32.ofInt o21.1)] w23 _
          refine wz_eq (oo := 5) (ln := 3) (a := 60) (b := 0) (zz := 0) (by decide +kernel) (fun h25 => ?_) (fun h25 => ?_)
          · have hx := ite_t h25 hx
            refine wp_g 2 (pc1 := 64) (lv1 := [(0, .ref 146)]) (st1 := [.long (Int64.ofInt 482854658917), .ref 146]) (w1 := w23) rfl ?_
            obtain ⟨o26, e27, hx⟩ := bd hx
            refine wp_cl [.ref 146, .long (Int64.ofInt 482854658917)] [] (i := .invokevirtual 122) (ln := 3) (a := 156) (b := 0) (z := 0) (by decide +kernel) rfl rfl (by decide) rfl (show (2 : Nat) = pm_na 156 by decide +kernel) (Nat.le_of_ble_eq_true rfl) (show (3 : Nat) ≤ pm_n 156 by decide +kernel) (rcv_x 12 h24 (hS _ _ sm_146) (by decide +kernel)) (xm_isWord_ok (d := d) hS h24 e27 (fun w28 h29 => ?_))
            show wp _ 160 67 [(0, .ref 146)] [.int (Int32.ofInt o26.1)] w28 _
            refine wz_eq (oo := 5) (ln := 3) (a := 72) (b := 0) (zz := 0) (by decide +kernel) (fun h30 => ?_) (fun h30 => ?_)
            · have hx := ite_t h30 hx
              refine wp_g 2 (pc1 := 76) (lv1 := [(0, .ref 146)]) (st1 := [.long (Int64.ofInt 470021465444), .ref 146]) (w1 := w28) rfl ?_
              obtain ⟨o31, e32, hx⟩ := bd hx
              refine wp_cl [.ref 146, .long (Int64.ofInt 470021465444)] [] (i := .invokevirtual 122) (ln := 3) (a := 156) (b := 0) (z := 0) (by decide +kernel) rfl rfl (by decide) rfl (show (2 : Nat) = pm_na 156 by decide +kernel) (Nat.le_of_ble_eq_true rfl) (show (3 : Nat) ≤ pm_n 156 by decide +kernel) (rcv_x 12 h29 (hS _ _ sm_146) (by decide +kernel)) (xm_isWord_ok (d := d) hS h29 e32 (fun w33 h34 => ?_))
              show wp _ 160 79 [(0, .ref 146)] [.int (Int32.ofInt o31.1)] w33 _
              refine wz_eq (oo := 6) (ln := 3) (a := 85) (b := 0) (zz := 0) (by decide +kernel) (fun h35 => ?_) (fun h35 => ?_)
              · have hx := ite_t h35 hx
                refine wp_g 2 (pc1 := 89) (lv1 := [(0, .ref 146)]) (st1 := [.long (Int64.ofInt 512869299304), .ref 146]) (w1 := w33) rfl ?_
                obtain ⟨o36, e37, hx⟩ := bd hx
                refine wp_cl [.ref 146, .long (Int64.ofInt 512869299304)] [] (i := .invokevirtual 122) (ln := 3) (a := 156) (b := 0) (z := 0) (by decide +kernel) rfl rfl (by decide) rfl (show (2 : Nat) = pm_na 156 by decide +kernel) (Nat.le_of_ble_eq_true rfl) (show (3 : Nat) ≤ pm_n 156 by decide +kernel) (rcv_x 12 h34 (hS _ _ sm_146) (by decide +kernel)) (xm_isWord_ok (d := d) hS h34 e37 (fun w38 h39 => ?_))
                show wp _ 160 92 [(0, .ref 146)] [.int (Int32.ofInt o36.1)] w38 _
                refine wz_eq (oo := 6) (ln := 3) (a := 98) (b := 0) (zz := 0) (by decide +kernel) (fun h40 => ?_) (fun h40 => ?_)
                · have hx := ite_t h40 hx
                  refine wp_g 2 (pc1 := 102) (lv1 := [(0, .ref 146)]) (st1 := [.long (Int64.ofInt 7823737), .ref 146]) (w1 := w38) rfl ?_
                  obtain ⟨o41, e42, hx⟩ := bd hx
                  refine wp_cl [.ref 146, .long (Int64.ofInt 7823737)] [] (i := .invokevirtual 122) (ln := 3) (a := 156) (b := 0) (z := 0) (by decide +kernel) rfl rfl (by decide) rfl (show (2 : Nat) = pm_na 156 by decide +kernel) (Nat.le_of_ble_eq_true rfl) (show (3 : Nat) ≤ pm_n 156 by decide +kernel) (rcv_x 12 h39 (hS _ _ sm_146) (by decide +kernel)) (xm_isWord_ok (d := d) hS h39 e42 (fun w43 h44 => ?_))
                  show wp _ 160 105 [(0, .ref 146)] [.int (Int32.ofInt o41.1)] w43 _
                  refine wz_eq (oo := 6) (ln := 3) (a := 111) (b := 0) (zz := 0) (by decide +kernel) (fun h45 => ?_) (fun h45 => ?_)
                  · have hx := ite_t h45 hx
                    refine wp_g 2 (pc1 := 115) (lv1 := [(0, .ref 146)]) (st1 := [.long (Int64.ofInt 483006772069), .ref 146]) (w1 := w43) rfl ?_
                    obtain ⟨o46, e47, hx⟩ := bd hx
                    refine wp_cl [.ref 146, .long (Int64.ofInt 483006772069)] [] (i := .invokevirtual 122) (ln := 3) (a := 156) (b := 0) (z := 0) (by decide +kernel) rfl rfl (by decide) rfl (show (2 : Nat) = pm_na 156 by decide +kernel) (Nat.le_of_ble_eq_true rfl) (show (3 : Nat) ≤ pm_n 156 by decide +kernel) (rcv_x 12 h44 (hS _ _ sm_146) (by decide +kernel)) (xm_isWord_ok (d := d) hS h44 e47 (fun w48 h49 => ?_))
                    show wp _ 160 118 [(0, .ref 146)] [.int (Int32.ofInt o46.1)] w48 _
                    refine wz_eq (oo := 8) (ln := 3) (a := 126) (b := 0) (zz := 0) (by decide +kernel) (fun h50 => ?_) (fun h50 => ?_)
                    · have hx := ite_t h50 hx
                      refine wp_g 2 (pc1 := 130) (lv1 := [(0, .ref 146)]) (st1 := [.long (Int64.ofInt 6578553), .ref 146]) (w1 := w48) rfl ?_
                      obtain ⟨o51, e52, hx⟩ := bd hx
                      refine wp_cl [.ref 146, .long (Int64.ofInt 6578553)] [] (i := .invokevirtual 122) (ln := 3) (a := 156) (b := 0) (z := 0) (by decide +kernel) rfl rfl (by decide) rfl (show (2 : Nat) = pm_na 156 by decide +kernel) (Nat.le_of_ble_eq_true rfl) (show (3 : Nat) ≤ pm_n 156 by decide +kernel) (rcv_x 12 h49 (hS _ _ sm_146) (by decide +kernel)) (xm_isWord_ok (d := d) hS h49 e52 (fun w53 h54 => ?_))
                      show wp _ 160 133 [(0, .ref 146)] [.int (Int32.ofInt o51.1)] w53 _
                      refine wz_eq (oo := 8) (ln := 3) (a := 141) (b := 0) (zz := 0) (by decide +kernel) (fun h55 => ?_) (fun h55 => ?_)
                      · have hx := ite_t h55 hx
                        refine wp_g 1 (pc1 := 142) (lv1 := [(0, .ref 146)]) (st1 := [.int (Int32.ofInt (-1))]) (w1 := w53) rfl ?_
                        refine wp_rt (i := .ireturn) (r := some (.int (Int32.ofInt (-1)))) (ln := 1) (a := 0) (b := 0) (z := 0) (by decide +kernel) rfl (ret_ok (by decide +kernel)) ?_
                        cases hx
                        exact kr _ h54
                      · have hx := ite_f h55 hx
                        refine wp_g 2 (pc1 := 142) (lv1 := [(0, .ref 146)]) (st1 := [.int (Int32.ofInt 10)]) (w1 := w53) rfl ?_
                        refine wp_rt (i := .ireturn) (r := some (.int (Int32.ofInt 10))) (ln := 1) (a := 0) (b := 0) (z := 0) (by decide +kernel) rfl (ret_ok (by decide +kernel)) ?_
                        cases hx
                        exact kr _ h54
                    · have hx := ite_f h50 hx
                      refine wp_g 2 (pc1 := 142) (lv1 := [(0, .ref 146)]) (st1 := [.int (Int32.ofInt 9)]) (w1 := w48) rfl ?_
                      refine wp_rt (i := .ireturn) (r := some (.int (Int32.ofInt 9))) (ln := 1) (a := 0) (b := 0) (z := 0) (by decide +kernel) rfl (ret_ok (by decide +kernel)) ?_
                      cases hx
                      exact kr _ h49
                  · have hx := ite_f h45 hx
                    refine wp_g 1 (pc1 := 110) (lv1 := [(0, .ref 146)]) (st1 := [.int (Int32.ofInt 8)]) (w1 := w43) rfl ?_
                    refine wp_rt (i := .ireturn) (r := some (.int (Int32.ofInt 8))) (ln := 1) (a := 0) (b := 0) (z := 0) (by decide +kernel) rfl (ret_ok (by decide +kernel)) ?_
                    cases hx
                    exact kr _ h44
                · have hx := ite_f h40 hx
                  refine wp_g 1 (pc1 := 97) (lv1 := [(0, .ref 146)]) (st1 := [.int (Int32.ofInt 7)]) (w1 := w38) rfl ?_
                  refine wp_rt (i := .ireturn) (r := some (.int (Int32.ofInt 7))) (ln := 1) (a := 0) (b := 0) (z := 0) (by decide +kernel) rfl (ret_ok (by decide +kernel)) ?_
                  cases hx
                  exact kr _ h39
              · have hx := ite_f h35 hx
                refine wp_g 1 (pc1 := 84) (lv1 := [(0, .ref 146)]) (st1 := [.int (Int32.ofInt 6)]) (w1 := w33) rfl ?_
                refine wp_rt (i := .ireturn) (r := some (.int (Int32.ofInt 6))) (ln := 1) (a := 0) (b := 0) (z := 0) (by decide +kernel) rfl (ret_ok (by decide +kernel)) ?_
                cases hx
                exact kr _ h34
            · have hx := ite_f h30 hx
              refine wp_g 1 (pc1 := 71) (lv1 := [(0, .ref 146)]) (st1 := [.int (Int32.ofInt 5)]) (w1 := w28) rfl ?_
              refine wp_rt (i := .ireturn) (r := some (.int (Int32.ofInt 5))) (ln := 1) (a := 0) (b := 0) (z := 0) (by decide +kernel) rfl (ret_ok (by decide +kernel)) ?_
              cases hx
              exact kr _ h29
          · have hx := ite_f h25 hx
            refine wp_g 1 (pc1 := 59) (lv1 := [(0, .ref 146)]) (st1 := [.int (Int32.ofInt 4)]) (w1 := w23) rfl ?_
            refine wp_rt (i := .ireturn) (r := some (.int (Int32.ofInt 4))) (ln := 1) (a := 0) (b := 0) (z := 0) (by decide +kernel) rfl (ret_ok (by decide +kernel)) ?_
            cases hx
            exact kr _ h24
        · have hx := ite_f h20 hx
          refine wp_g 1 (pc1 := 47) (lv1 := [(0, .ref 146)]) (st1 := [.int (Int32.ofInt 3)]) (w1 := w18) rfl ?_
          refine wp_rt (i := .ireturn) (r := some (.int (Int32.ofInt 3))) (ln := 1) (a := 0) (b := 0) (z := 0) (by decide +kernel) rfl (ret_ok (by decide +kernel)) ?_
          cases hx
          exact kr _ h19
      · have hx := ite_f h15 hx
        refine wp_g 1 (pc1 := 35) (lv1 := [(0, .ref 146)]) (st1 := [.int (Int32.ofInt 2)]) (w1 := w13) rfl ?_
        refine wp_rt (i := .ireturn) (r := some (.int (Int32.ofInt 2))) (ln := 1) (a := 0) (b := 0) (z := 0) (by decide +kernel) rfl (ret_ok (by decide +kernel)) ?_
        cases hx
        exact kr _ h14
    · have hx := ite_f h10 hx
      refine wp_g 1 (pc1 := 23) (lv1 := [(0, .ref 146)]) (st1 := [.int (Int32.ofInt 1)]) (w1 := w8) rfl ?_
      refine wp_rt (i := .ireturn) (r := some (.int (Int32.ofInt 1))) (ln := 1) (a := 0) (b := 0) (z := 0) (by decide +kernel) rfl (ret_ok (by decide +kernel)) ?_
      cases hx
      exact kr _ h9
  · have hx := ite_f h5 hx
    refine wp_g 1 (pc1 := 11) (lv1 := [(0, .ref 146)]) (st1 := [.int (Int32.ofInt 0)]) (w1 := w3) rfl ?_
    refine wp_rt (i := .ireturn) (r := some (.int (Int32.ofInt 0))) (ln := 1) (a := 0) (b := 0) (z := 0) (by decide +kernel) rfl (ret_ok (by decide +kernel)) ?_
    cases hx
    exact kr _ h4
/-- FoldDeedsModel.puts (II)V -/
noncomputable def xm_puts (s : Hp) (p1 : Int) (p2 : Int) : Option Hp :=
  (ix 7 (s 146 11)).bind fun i1 => (ix 2400 ((400 * (s 146 11)) + (s 149 i1))).bind fun i3 => (some (uh s 148 i3 (p1 + (16 * p2)))).bind fun s5 => (ix 7 (s5 146 11)).bind fun i9 => (some (uh s5 149 i9 ((s5 149 i9) + 1))).bind fun s11 => some s11
set_option maxRecDepth 100000 in
theorem xm_puts_ok {d : Nat} {P : Option Value → pm_H → Prop} {w : pm_H} {sh : Shp} {w0 : pm_H} {s : Hp} (hS : StM sh) {p1 : Int} {p2 : Int} (h : Rw sh w0 s w) {o : Hp} (hx : xm_puts s p1 p2 = some o) (kr : ∀ w1, Rw sh w0 o w1 → P none w1) : wp d 161 0 (lv_args 0 [.ref 146, .int (Int32.ofInt p1), .int (Int32.ofInt p2)]) [] w P := by
  show wp _ 161 0 [(0, .ref 146), (1, .int (Int32.ofInt p1)), (2, .int (Int32.ofInt p2))] [] w _
  unfold xm_puts at hx
  refine wp_g 1 (pc1 := 1) (lv1 := [(0, .ref 146), (1, .int (Int32.ofInt p1)), (2, .int (Int32.ofInt p2))]) (st1 := [.ref 146]) (w1 := w) rfl ?_
  refine wx_gr (o := 2) (kf := 13) (ln := 3) (ci := 12) (b := 3) (zz := 0) (x := 146) (by decide +kernel) h (hS _ _ sm_146) rfl ?_
  show wp _ 161 4 [(0, .ref 146), (1, .int (Int32.ofInt p1)), (2, .int (Int32.ofInt p2))] [.ref 148] w _
  refine wp_g 2 (pc1 := 8) (lv1 := [(0, .ref 146), (1, .int (Int32.ofInt p1)), (2, .int (Int32.ofInt p2))]) (st1 := [.ref 146, .int (Int32.ofInt 400), .ref 148]) (w1 := w) rfl ?_
  refine wx_gi (kf := 165) (ln := 3) (ci := 12) (b := 11) (zz := 0) (x := 146) (by decide +kernel) h (hS _ _ sm_146) rfl ?_
  show wp _ 161 11 [(0, .ref 146), (1, .int (Int32.ofInt p1)), (2, .int (Int32.ofInt p2))] [.int (Int32.ofInt (s 146 11)), .int (Int32.ofInt 400), .ref 148] w _
  refine wp_g 2 (pc1 := 13) (lv1 := [(0, .ref 146), (1, .int (Int32.ofInt p1)), (2, .int (Int32.ofInt p2))]) (st1 := [.ref 146, .int (Int32.ofInt (400 * (s 146 11))), .ref 148]) (w1 := w) (by simp only [Int32.ofInt_add, Int32.ofInt_sub, Int32.ofInt_mul, Int32.ofInt_neg, p_and, p_or, p_xor, p_shl, p_shr, p_usr, p_w8, p_c16, p_lI, q_and, q_or, q_shl, q_shr, q_w32, Int64.ofInt_add, Int64.ofInt_sub, Int64.ofInt_mul, p_mx, p_mn, q_mx, q_mn]; rfl) ?_
  refine wx_gr (o := 3) (kf := 17) (ln := 3) (ci := 12) (b := 4) (zz := 0) (x := 146) (by decide +kernel) h (hS _ _ sm_146) rfl ?_
  show wp _ 161 16 [(0, .ref 146), (1, .int (Int32.ofInt p1)), (2, .int (Int32.ofInt p2))] [.ref 149, .int (Int32.ofInt (400 * (s 146 11))), .ref 148] w _
  refine wp_g 1 (pc1 := 17) (lv1 := [(0, .ref 146), (1, .int (Int32.ofInt p1)), (2, .int (Int32.ofInt p2))]) (st1 := [.ref 146, .ref 149, .int (Int32.ofInt (400 * (s 146 11))), .ref 148]) (w1 := w) rfl ?_
  refine wx_gi (kf := 165) (ln := 3) (ci := 12) (b := 11) (zz := 0) (x := 146) (by decide +kernel) h (hS _ _ sm_146) rfl ?_
  show wp _ 161 20 [(0, .ref 146), (1, .int (Int32.ofInt p1)), (2, .int (Int32.ofInt p2))] [.int (Int32.ofInt (s 146 11)), .ref 149, .int (Int32.ofInt (400 * (s 146 11))), .ref 148] w _
  obtain ⟨i1, e2, hx⟩ := bd hx
  refine wx_ra (x := 149) (n := 7) (ln := 1) (a := 0) (b := 0) (zz := 0) (by decide +kernel) h (hS _ _ sm_149) e2 ?_
  show wp _ 161 21 [(0, .ref 146), (1, .int (Int32.ofInt p1)), (2, .int (Int32.ofInt p2))] [.int (Int32.ofInt (s 149 i1)), .int (Int32.ofInt (400 * (s 146 11))), .ref 148] w _
  refine wp_g 6 (pc1 := 28) (lv1 := [(0, .ref 146), (1, .int (Int32.ofInt p1)), (2, .int (Int32.ofInt p2))]) (st1 := [.int (Int32.ofInt (p1 + (16 * p2))), .int (Int32.ofInt ((400 * (s 146 11)) + (s 149 i1))), .ref 148]) (w1 := w) (by simp only [Int32.ofInt_add, Int32.ofInt_sub, Int32.ofInt_mul, Int32.ofInt_neg, p_and, p_or, p_xor, p_shl, p_shr, p_usr, p_w8, p_c16, p_lI, q_and, q_or, q_shl, q_shr, q_w32, Int64.ofInt_add, Int64.ofInt_sub, Int64.ofInt_mul, p_mx, p_mn, q_mx, q_mn]; rfl) ?_
  obtain ⟨i3, e4, hx⟩ := bd hx
  obtain ⟨s5, e6, hx⟩ := bd hx
  refine wx_wa (x := 148) (n := 2400) (ln := 1) (a := 0) (b := 0) (zz := 0) (by decide +kernel) h (hS _ _ sm_148) e4 e6 (fun w7 h8 => ?_)
  refine wp_g 1 (pc1 := 30) (lv1 := [(0, .ref 146), (1, .int (Int32.ofInt p1)), (2, .int (Int32.ofInt p2))]) (st1 := [.ref 146]) (w1 := w7) rfl ?_
  refine wx_gr (o := 3) (kf := 17) (ln := 3) (ci := 12) (b := 4) (zz := 0) (x := 146) (by decide +kernel) h8 (hS _ _ sm_146) rfl ?_
  show wp _ 161 33 [(0, .ref 146), (1, .int (Int32.ofInt p1)), (2, .int (Int32.ofInt p2))] [.ref 149] w7 _
  refine wp_g 1 (pc1 := 34) (lv1 := [(0, .ref 146), (1, .int (Int32.ofInt p1)), (2, .int (Int32.ofInt p2))]) (st1 := [.ref 146, .ref 149]) (w1 := w7) rfl ?_
  refine wx_gi (kf := 165) (ln := 3) (ci := 12) (b := 11) (zz := 0) (x := 146) (by decide +kernel) h8 (hS _ _ sm_146) rfl ?_
  show wp _ 161 37 [(0, .ref 146), (1, .int (Int32.ofInt p1)), (2, .int (Int32.ofInt p2))] [.int (Int32.ofInt (s5 146 11)), .ref 149] w7 _
  refine wp_g 1 (pc1 := 38) (lv1 := [(0, .ref 146), (1, .int (Int32.ofInt p1)), (2, .int (Int32.ofInt p2))]) (st1 := [.int (Int32.ofInt (s5 146 11)), .ref 149, .int (Int32.ofInt (s5 146 11)), .ref 149]) (w1 := w7) rfl ?_
  obtain ⟨i9, e10, hx⟩ := bd hx
  refine wx_ra (x := 149) (n := 7) (ln := 1) (a := 0) (b := 0) (zz := 0) (by decide +kernel) h8 (hS _ _ sm_149) e10 ?_
  show wp _ 161 39 [(0, .ref 146), (1, .int (Int32.ofInt p1)), (2, .int (Int32.ofInt p2))] [.int (Int32.ofInt (s5 149 i9)), .int (Int32.ofInt (s5 146 11)), .ref 149] w7 _
  refine wp_g 2 (pc1 := 41) (lv1 := [(0, .ref 146), (1, .int (Int32.ofInt p1)), (2, .int (Int32.ofInt p2))]) (st1 := [.int (Int32.ofInt ((s5 149 i9) + 1)), .int (Int32.ofInt (s5 146 11)), .ref 149]) (w1 := w7) (by simp only [Int32.ofInt_add, Int32.ofInt_sub, Int32.ofInt_mul, Int32.ofInt_neg, p_and, p_or, p_xor, p_shl, p_shr, p_usr, p_w8, p_c16, p_lI, q_and, q_or, q_shl, q_shr, q_w32, Int64.ofInt_add, Int64.ofInt_sub, Int64.ofInt_mul, p_mx, p_mn, q_mx, q_mn]; rfl) ?_
  obtain ⟨s11, e12, hx⟩ := bd hx
  refine wx_wa (x := 149) (n := 7) (ln := 1) (a := 0) (b := 0) (zz := 0) (by decide +kernel) h8 (hS _ _ sm_149) e10 e12 (fun w13 h14 => ?_)
  refine wp_rt (i := .return_) (r := none) (ln := 1) (a := 0) (b := 0) (z := 0) (by decide +kernel) rfl (ret_v (by decide +kernel)) ?_
  cases hx
  exact kr _ h14
/-- FoldDeedsModel.makes (I)Z -/
noncomputable def xm_makes (s : Hp) (p1 : Int) : Option (Int × Hp) :=
  if w32 (s 146 12) = w32 60 then (xm_fails s 3 p1).bind fun o6 => if w32 o6.1 = 0 ∨ w32 o6.1 = 1 then some (o6.1, o6.2) else none else (some (uh s 146 12 ((s 146 12) + 1))).bind fun s2 => some (1, s2)
set_option maxRecDepth 100000 in
theorem xm_makes_ok {d : Nat} {P : Option Value → pm_H → Prop} {w : pm_H} {sh : Shp} {w0 : pm_H} {s : Hp} (hS : StM sh) {p1 : Int} (h : Rw sh w0 s w) {o : Int × Hp} (hx : xm_makes s p1 = some o) (kr : ∀ w1, Rw sh w0 o.2 w1 → P (some (.int (Int32.ofInt o.1))) w1) : wp (d + 1) 162 0 (lv_args 0 [.ref 146, .int (Int32.ofInt p1)]) [] w P := by
  show wp _ 162 0 [(0, .ref 146), (1, .int (Int32.ofInt p1))] [] w _
  unfold xm_makes at hx
  refine wp_g 1 (pc1 := 1) (lv1 := [(0, .ref 146), (1, .int (Int32.ofInt p1))]) (st1 := [.ref 146]) (w1 := w) rfl ?_
  refine wx_gi (kf := 168) (ln := 3) (ci := 12) (b := 12) (zz := 0) (x := 146) (by decide +kernel) h (hS _ _ sm_146) rfl ?_
  show wp _ 162 4 [(0, .ref 146), (1, .int (Int32.ofInt p1))] [.int (Int32.ofInt (s 146 12))] w _
  refine wp_g 1 (pc1 := 6) (lv1 := [(0, .ref 146), (1, .int (Int32.ofInt p1))]) (st1 := [.int (Int32.ofInt 60), .int (Int32.ofInt (s 146 12))]) (w1 := w) rfl ?_
  refine wx_ne (oo := 10) (ln := 3) (a := 16) (b := 0) (zz := 0) (by decide +kernel) (fun h1 => ?_) (fun h1 => ?_)
  · have hx := ite_f h1 hx
    refine wp_g 2 (pc1 := 18) (lv1 := [(0, .ref 146), (1, .int (Int32.ofInt p1))]) (st1 := [.ref 146, .ref 146]) (w1 := w) rfl ?_
    refine wx_gi (kf := 168) (ln := 3) (ci := 12) (b := 12) (zz := 0) (x := 146) (by decide +kernel) h (hS _ _ sm_146) rfl ?_
    show wp _ 162 21 [(0, .ref 146), (1, .int (Int32.ofInt p1))] [.int (Int32.ofInt (s 146 12)), .ref 146] w _
    refine wp_g 2 (pc1 := 23) (lv1 := [(0, .ref 146), (1, .int (Int32.ofInt p1))]) (st1 := [.int (Int32.ofInt ((s 146 12) + 1)), .ref 146]) (w1 := w) (by simp only [Int32.ofInt_add, Int32.ofInt_sub, Int32.ofInt_mul, Int32.ofInt_neg, p_and, p_or, p_xor, p_shl, p_shr, p_usr, p_w8, p_c16, p_lI, q_and, q_or, q_shl, q_shr, q_w32, Int64.ofInt_add, Int64.ofInt_sub, Int64.ofInt_mul, p_mx, p_mn, q_mx, q_mn]; rfl) ?_
    obtain ⟨s2, e3, hx⟩ := bd hx
    refine wx_pi (kf := 168) (ln := 3) (ci := 12) (b := 12) (zz := 0) (x := 146) (by decide +kernel) h (hS _ _ sm_146) rfl (by decide +kernel) e3 (fun w4 h5 => ?_)
    refine wp_g 1 (pc1 := 27) (lv1 := [(0, .ref 146), (1, .int (Int32.ofInt p1))]) (st1 := [.int (Int32.ofInt 1)]) (w1 := w4) rfl ?_
    refine wp_rt (i := .ireturn) (r := some (.int (Int32.ofInt 1))) (ln := 1) (a := 0) (b := 0) (z := 0) (by decide +kernel) rfl (ret_b (by decide +kernel) (Or.inr rfl)) ?_
    cases hx
    exact kr _ h5
  · have hx := ite_t h1 hx
    refine wp_g 3 (pc1 := 12) (lv1 := [(0, .ref 146), (1, .int (Int32.ofInt p1))]) (st1 := [.int (Int32.ofInt p1), .int (Int32.ofInt 3), .ref 146]) (w1 := w) rfl ?_
    obtain ⟨o6, e7, hx⟩ := bd hx
    refine wp_cl [.ref 146, .int (Int32.ofInt 3), .int (Int32.ofInt p1)] [] (i := .invokevirtual 132) (ln := 3) (a := 152) (b := 0) (z := 0) (by decide +kernel) rfl rfl (by decide) rfl (show (3 : Nat) = pm_na 152 by decide +kernel) (Nat.le_of_ble_eq_true rfl) (show (3 : Nat) ≤ pm_n 152 by decide +kernel) (rcv_x 12 h (hS _ _ sm_146) (by decide +kernel)) (xm_fails_ok (d := d) hS h e7 (fun w8 h9 => ?_))
    show wp _ 162 15 [(0, .ref 146), (1, .int (Int32.ofInt p1))] [.int (Int32.ofInt o6.1)] w8 _
    obtain ⟨h10, hx⟩ := gd hx
    refine wp_rt (i := .ireturn) (r := some (.int (Int32.ofInt o6.1))) (ln := 1) (a := 0) (b := 0) (z := 0) (by decide +kernel) rfl (ret_b (by decide +kernel) (w01 h10)) ?_
    cases hx
    exact kr _ h9
/-- FoldDeedsModel.opens (I)Z -/
noncomputable def xm_opens (s : Hp) (p1 : Int) : Option (Int × Hp) :=
  if w32 (s 146 13) = w32 10 then (xm_fails s 2 (s 146 8)).bind fun o16 => if w32 o16.1 = 0 ∨ w32 o16.1 = 1 then some (o16.1, o16.2) else none else (some (uh s 146 13 ((s 146 13) + 1))).bind fun s2 => (ix 400 (s2 146 16)).bind fun i6 => (some (uh s2 153 i6 p1)).bind fun s8 => (some (uh s8 146 16 ((s8 146 16) + 1))).bind fun s12 => some (1, s12)
set_option maxRecDepth 100000 in
theorem xm_opens_ok {d : Nat} {P : Option Value → pm_H → Prop} {w : pm_H} {sh : Shp} {w0 : pm_H} {s : Hp} (hS : StM sh) {p1 : Int} (h : Rw sh w0 s w) {o : Int × Hp} (hx : xm_opens s p1 = some o) (kr : ∀ w1, Rw sh w0 o.2 w1 → P (some (.int (Int32.ofInt o.1))) w1) : wp (d + 1) 163 0 (lv_args 0 [.ref 146, .int (Int32.ofInt p1)]) [] w P := by
  show wp _ 163 0 [(0, .ref 146), (1, .int (Int32.ofInt p1))] [] w _
  unfold xm_opens at hx
  refine wp_g 1 (pc1 := 1) (lv1 := [(0, .ref 146), (1, .int (Int32.ofInt p1))]) (st1 := [.ref 146]) (w1 := w) rfl ?_
  refine wx_gi (kf := 171) (ln := 3) (ci := 12) (b := 13) (zz := 0) (x := 146) (by decide +kernel) h (hS _ _ sm_146) rfl ?_
  show wp _ 163 4 [(0, .ref 146), (1, .int (Int32.ofInt p1))] [.int (Int32.ofInt (s 146 13))] w _
  refine wp_g 1 (pc1 := 6) (lv1 := [(0, .ref 146), (1, .int (Int32.ofInt p1))]) (st1 := [.int (Int32.ofInt 10), .int (Int32.ofInt (s 146 13))]) (w1 := w) rfl ?_
  refine wx_ne (oo := 13) (ln := 3) (a := 19) (b := 0) (zz := 0) (by decide +kernel) (fun h1 => ?_) (fun h1 => ?_)
  · have hx := ite_f h1 hx
    refine wp_g 2 (pc1 := 21) (lv1 := [(0, .ref 146), (1, .int (Int32.ofInt p1))]) (st1 := [.ref 146, .ref 146]) (w1 := w) rfl ?_
    refine wx_gi (kf := 171) (ln := 3) (ci := 12) (b := 13) (zz := 0) (x := 146) (by decide +kernel) h (hS _ _ sm_146) rfl ?_
    show wp _ 163 24 [(0, .ref 146), (1, .int (Int32.ofInt p1))] [.int (Int32.ofInt (s 146 13)), .ref 146] w _
    refine wp_g 2 (pc1 := 26) (lv1 := [(0, .ref 146), (1, .int (Int32.ofInt p1))]) (st1 := [.int (Int32.ofInt ((s 146 13) + 1)), .ref 146]) (w1 := w) (by simp only [Int32.ofInt_add, Int32.ofInt_sub, Int32.ofInt_mul, Int32.ofInt_neg, p_and, p_or, p_xor, p_shl, p_shr, p_usr, p_w8, p_c16, p_lI, q_and, q_or, q_shl, q_shr, q_w32, Int64.ofInt_add, Int64.ofInt_sub, Int64.ofInt_mul, p_mx, p_mn, q_mx, q_mn]; rfl) ?_
    obtain ⟨s2, e3, hx⟩ := bd hx
    refine wx_pi (kf := 171) (ln := 3) (ci := 12) (b := 13) (zz := 0) (x := 146) (by decide +kernel) h (hS _ _ sm_146) rfl (by decide +kernel) e3 (fun w4 h5 => ?_)
    refine wp_g 1 (pc1 := 30) (lv1 := [(0, .ref 146), (1, .int (Int32.ofInt p1))]) (st1 := [.ref 146]) (w1 := w4) rfl ?_
    refine wx_gr (o := 7) (kf := 29) (ln := 3) (ci := 12) (b := 15) (zz := 0) (x := 146) (by decide +kernel) h5 (hS _ _ sm_146) rfl ?_
    show wp _ 163 33 [(0, .ref 146), (1, .int (Int32.ofInt p1))] [.ref 153] w4 _
    refine wp_g 1 (pc1 := 34) (lv1 := [(0, .ref 146), (1, .int (Int32.ofInt p1))]) (st1 := [.ref 146, .ref 153]) (w1 := w4) rfl ?_
    refine wx_gi (kf := 174) (ln := 3) (ci := 12) (b := 16) (zz := 0) (x := 146) (by decide +kernel) h5 (hS _ _ sm_146) rfl ?_
    show wp _ 163 37 [(0, .ref 146), (1, .int (Int32.ofInt p1))] [.int (Int32.ofInt (s2 146 16)), .ref 153] w4 _
    refine wp_g 1 (pc1 := 38) (lv1 := [(0, .ref 146), (1, .int (Int32.ofInt p1))]) (st1 := [.int (Int32.ofInt p1), .int (Int32.ofInt (s2 146 16)), .ref 153]) (w1 := w4) rfl ?_
    obtain ⟨i6, e7, hx⟩ := bd hx
    obtain ⟨s8, e9, hx⟩ := bd hx
    refine wx_wa (x := 153) (n := 400) (ln := 1) (a := 0) (b := 0) (zz := 0) (by decide +kernel) h5 (hS _ _ sm_153) e7 e9 (fun w10 h11 => ?_)
    refine wp_g 2 (pc1 := 41) (lv1 := [(0, .ref 146), (1, .int (Int32.ofInt p1))]) (st1 := [.ref 146, .ref 146]) (w1 := w10) rfl ?_
    refine wx_gi (kf := 174) (ln := 3) (ci := 12) (b := 16) (zz := 0) (x := 146) (by decide +kernel) h11 (hS _ _ sm_146) rfl ?_
    show wp _ 163 44 [(0, .ref 146), (1, .int (Int32.ofInt p1))] [.int (Int32.ofInt (s8 146 16)), .ref 146] w10 _
    refine wp_g 2 (pc1 := 46) (lv1 := [(0, .ref 146), (1, .int (Int32.ofInt p1))]) (st1 := [.int (Int32.ofInt ((s8 146 16) + 1)), .ref 146]) (w1 := w10) (by simp only [Int32.ofInt_add, Int32.ofInt_sub, Int32.ofInt_mul, Int32.ofInt_neg, p_and, p_or, p_xor, p_shl, p_shr, p_usr, p_w8, p_c16, p_lI, q_and, q_or, q_shl, q_shr, q_w32, Int64.ofInt_add, Int64.ofInt_sub, Int64.ofInt_mul, p_mx, p_mn, q_mx, q_mn]; rfl) ?_
    obtain ⟨s12, e13, hx⟩ := bd hx
    refine wx_pi (kf := 174) (ln := 3) (ci := 12) (b := 16) (zz := 0) (x := 146) (by decide +kernel) h11 (hS _ _ sm_146) rfl (by decide +kernel) e13 (fun w14 h15 => ?_)
    refine wp_g 1 (pc1 := 50) (lv1 := [(0, .ref 146), (1, .int (Int32.ofInt p1))]) (st1 := [.int (Int32.ofInt 1)]) (w1 := w14) rfl ?_
    refine wp_rt (i := .ireturn) (r := some (.int (Int32.ofInt 1))) (ln := 1) (a := 0) (b := 0) (z := 0) (by decide +kernel) rfl (ret_b (by decide +kernel) (Or.inr rfl)) ?_
    cases hx
    exact kr _ h15
  · have hx := ite_t h1 hx
    refine wp_g 3 (pc1 := 12) (lv1 := [(0, .ref 146), (1, .int (Int32.ofInt p1))]) (st1 := [.ref 146, .int (Int32.ofInt 2), .ref 146]) (w1 := w) rfl ?_
    refine wx_gi (kf := 111) (ln := 3) (ci := 12) (b := 8) (zz := 0) (x := 146) (by decide +kernel) h (hS _ _ sm_146) rfl ?_
    show wp _ 163 15 [(0, .ref 146), (1, .int (Int32.ofInt p1))] [.int (Int32.ofInt (s 146 8)), .int (Int32.ofInt 2), .ref 146] w _
    obtain ⟨o16, e17, hx⟩ := bd hx
    refine wp_cl [.ref 146, .int (Int32.ofInt 2), .int (Int32.ofInt (s 146 8))] [] (i := .invokevirtual 132) (ln := 3) (a := 152) (b := 0) (z := 0) (by decide +kernel) rfl rfl (by decide) rfl (show (3 : Nat) = pm_na 152 by decide +kernel) (Nat.le_of_ble_eq_true rfl) (show (3 : Nat) ≤ pm_n 152 by decide +kernel) (rcv_x 12 h (hS _ _ sm_146) (by decide +kernel)) (xm_fails_ok (d := d) hS h e17 (fun w18 h19 => ?_))
    show wp _ 163 18 [(0, .ref 146), (1, .int (Int32.ofInt p1))] [.int (Int32.ofInt o16.1)] w18 _
    obtain ⟨h20, hx⟩ := gd hx
    refine wp_rt (i := .ireturn) (r := some (.int (Int32.ofInt o16.1))) (ln := 1) (a := 0) (b := 0) (z := 0) (by decide +kernel) rfl (ret_b (by decide +kernel) (w01 h20)) ?_
    cases hx
    exact kr _ h19
/-- FoldDeedsModel.strength (I)I -/
noncomputable def xm_strength (p0 : Int) : Option Int :=
  if w32 p0 = w32 13 then some 1 else if w32 p0 = w32 12 then some 2 else if w32 p0 = w32 11 then some 3 else some 0
set_option maxRecDepth 100000 in
theorem xm_strength_ok {d : Nat} {P : Option Value → pm_H → Prop} {w : pm_H} {p0 : Int} {o : Int} (hx : xm_strength p0 = some o) (kr : P (some (.int (Int32.ofInt o))) w) : wp d 164 0 (lv_args 0 [.int (Int32.ofInt p0)]) [] w P := by
  show wp _ 164 0 [(0, .int (Int32.ofInt p0))] [] w _
  unfold xm_strength at hx
  refine wp_g 2 (pc1 := 3) (lv1 := [(0, .int (Int32.ofInt p0))]) (st1 := [.int (Int32.ofInt 13), .int (Int32.ofInt p0)]) (w1 := w) rfl ?_
  refine wx_ne (oo := 7) (ln := 3) (a := 10) (b := 0) (zz := 0) (by decide +kernel) (fun h1 => ?_) (fun h1 => ?_)
  · have hx := ite_f h1 hx
    refine wp_g 2 (pc1 := 13) (lv1 := [(0, .int (Int32.ofInt p0))]) (st1 := [.int (Int32.ofInt 12), .int (Int32.ofInt p0)]) (w1 := w) rfl ?_
    refine wx_ne (oo := 7) (ln := 3) (a := 20) (b := 0) (zz := 0) (by decide +kernel) (fun h2 => ?_) (fun h2 => ?_)
    · have hx := ite_f h2 hx
      refine wp_g 2 (pc1 := 23) (lv1 := [(0, .int (Int32.ofInt p0))]) (st1 := [.int (Int32.ofInt 11), .int (Int32.ofInt p0)]) (w1 := w) rfl ?_
      refine wx_ne (oo := 7) (ln := 3) (a := 30) (b := 0) (zz := 0) (by decide +kernel) (fun h3 => ?_) (fun h3 => ?_)
      · have hx := ite_f h3 hx
        refine wp_g 1 (pc1 := 31) (lv1 := [(0, .int (Int32.ofInt p0))]) (st1 := [.int (Int32.ofInt 0)]) (w1 := w) rfl ?_
        refine wp_rt (i := .ireturn) (r := some (.int (Int32.ofInt 0))) (ln := 1) (a := 0) (b := 0) (z := 0) (by decide +kernel) rfl (ret_ok (by decide +kernel)) ?_
        cases hx
        exact kr
      · have hx := ite_t h3 hx
        refine wp_g 2 (pc1 := 31) (lv1 := [(0, .int (Int32.ofInt p0))]) (st1 := [.int (Int32.ofInt 3)]) (w1 := w) rfl ?_
        refine wp_rt (i := .ireturn) (r := some (.int (Int32.ofInt 3))) (ln := 1) (a := 0) (b := 0) (z := 0) (by decide +kernel) rfl (ret_ok (by decide +kernel)) ?_
        cases hx
        exact kr
    · have hx := ite_t h2 hx
      refine wp_g 2 (pc1 := 31) (lv1 := [(0, .int (Int32.ofInt p0))]) (st1 := [.int (Int32.ofInt 2)]) (w1 := w) rfl ?_
      refine wp_rt (i := .ireturn) (r := some (.int (Int32.ofInt 2))) (ln := 1) (a := 0) (b := 0) (z := 0) (by decide +kernel) rfl (ret_ok (by decide +kernel)) ?_
      cases hx
      exact kr
  · have hx := ite_t h1 hx
    refine wp_g 2 (pc1 := 31) (lv1 := [(0, .int (Int32.ofInt p0))]) (st1 := [.int (Int32.ofInt 1)]) (w1 := w) rfl ?_
    refine wp_rt (i := .ireturn) (r := some (.int (Int32.ofInt 1))) (ln := 1) (a := 0) (b := 0) (z := 0) (by decide +kernel) rfl (ret_ok (by decide +kernel)) ?_
    cases hx
    exact kr
noncomputable def xm_settles_b0 (s : Hp) (x1 : Int) : Option (Hp ⊕ Hp) :=
  if 0 < w32 (s 146 16) then (ix 400 ((s 146 16) - 1)).bind fun i2 => (xm_strength (s 153 i2)).bind fun o4 => if w32 o4 < w32 x1 then some (.inr s) else (some (uh s 146 16 ((s 146 16) - 1))).bind fun s9 => (ix 400 (s9 146 16)).bind fun i13 => (xm_puts s9 (s9 153 i13) 0).bind fun o15 => (ix 400 (o15 146 16)).bind fun i19 => if w32 (o15 153 i19) = w32 11 then (some (uh o15 146 13 ((o15 146 13) - 1))).bind fun s22 => some (.inl s22) else some (.inl o15) else some (.inr s)
set_option maxRecDepth 100000 in
theorem xm_settles_b0_ok {d : Nat} {P : Option Value → pm_H → Prop} {w : pm_H} {sh : Shp} {w0 : pm_H} {s : Hp} (hS : StM sh) {x1 : Int} (h : Rw sh w0 s w) {o : (Hp ⊕ Hp)} (hx : xm_settles_b0 s x1 = some o) (kn : ∀ (q : Hp) w1, o = .inl q → Rw sh w0 q w1 → wp (d + 1) 165 0 [(0, .ref 146), (1, .int (Int32.ofInt x1))] [] w1 P) (kc : ∀ (r : Hp), o = .inr r → (∀ w1, Rw sh w0 r w1 → wp (d + 1) 165 76 [(0, .ref 146), (1, .int (Int32.ofInt x1))] [] w1 P)) : wp (d + 1) 165 0 [(0, .ref 146), (1, .int (Int32.ofInt x1))] [] w P := by
  unfold xm_settles_b0 at hx
  refine wp_g 1 (pc1 := 1) (lv1 := [(0, .ref 146), (1, .int (Int32.ofInt x1))]) (st1 := [.ref 146]) (w1 := w) rfl ?_
  refine wx_gi (kf := 174) (ln := 3) (ci := 12) (b := 16) (zz := 0) (x := 146) (by decide +kernel) h (hS _ _ sm_146) rfl ?_
  show wp _ 165 4 [(0, .ref 146), (1, .int (Int32.ofInt x1))] [.int (Int32.ofInt (s 146 16))] w _
  refine wz_le (oo := 72) (ln := 3) (a := 76) (b := 0) (zz := 0) (by decide +kernel) (fun h1 => ?_) (fun h1 => ?_)
  · have hx := ite_f h1 hx
    cases hx
    exact kc _ rfl _ h
  · have hx := ite_t h1 hx
    refine wp_g 1 (pc1 := 8) (lv1 := [(0, .ref 146), (1, .int (Int32.ofInt x1))]) (st1 := [.ref 146]) (w1 := w) rfl ?_
    refine wx_gr (o := 7) (kf := 29) (ln := 3) (ci := 12) (b := 15) (zz := 0) (x := 146) (by decide +kernel) h (hS _ _ sm_146) rfl ?_
    show wp _ 165 11 [(0, .ref 146), (1, .int (Int32.ofInt x1))] [.ref 153] w _
    refine wp_g 1 (pc1 := 12) (lv1 := [(0, .ref 146), (1, .int (Int32.ofInt x1))]) (st1 := [.ref 146, .ref 153]) (w1 := w) rfl ?_
    refine wx_gi (kf := 174) (ln := 3) (ci := 12) (b := 16) (zz := 0) (x := 146) (by decide +kernel) h (hS _ _ sm_146) rfl ?_
    show wp _ 165 15 [(0, .ref 146), (1, .int (Int32.ofInt x1))] [.int (Int32.ofInt (s 146 16)), .ref 153] w _
    refine wp_g 2 (pc1 := 17) (lv1 := [(0, .ref 146), (1, .int (Int32.ofInt x1))]) (st1 := [.int (Int32.ofInt ((s 146 16) - 1)), .ref 153]) (w1 := w) (by simp only [Int32.ofInt_add, Int32.ofInt_sub, Int32.ofInt_mul, Int32.ofInt_neg, p_and, p_or, p_xor, p_shl, p_shr, p_usr, p_w8, p_c16, p_lI, q_and, q_or, q_shl, q_shr, q_w32, Int64.ofInt_add, Int64.ofInt_sub, Int64.ofInt_mul, p_mx, p_mn, q_mx, q_mn]; rfl) ?_
    obtain ⟨i2, e3, hx⟩ := bd hx
    refine wx_ra (x := 153) (n := 400) (ln := 1) (a := 0) (b := 0) (zz := 0) (by decide +kernel) h (hS _ _ sm_153) e3 ?_
    show wp _ 165 18 [(0, .ref 146), (1, .int (Int32.ofInt x1))] [.int (Int32.ofInt (s 153 i2))] w _
    obtain ⟨o4, e5, hx⟩ := bd hx
    refine wp_cl [.int (Int32.ofInt (s 153 i2))] [] (i := .invokestatic 177) (ln := 3) (a := 164) (b := 1) (z := 0) (by decide +kernel) rfl rfl (by decide) rfl (show (1 : Nat) = pm_na 164 by decide +kernel) (Nat.le_of_ble_eq_true rfl) (show (1 : Nat) ≤ pm_n 164 by decide +kernel) (by rw [show pm_k 164 = 1 by decide +kernel]; rfl) (xm_strength_ok (d := d) e5 ?_)
    show wp _ 165 21 [(0, .ref 146), (1, .int (Int32.ofInt x1))] [.int (Int32.ofInt o4)] w _
    refine wp_g 1 (pc1 := 22) (lv1 := [(0, .ref 146), (1, .int (Int32.ofInt x1))]) (st1 := [.int (Int32.ofInt x1), .int (Int32.ofInt o4)]) (w1 := w) rfl ?_
    refine wx_lt (oo := 54) (ln := 3) (a := 76) (b := 0) (zz := 0) (by decide +kernel) (fun h8 => ?_) (fun h8 => ?_)
    · have hx := ite_t h8 hx
      cases hx
      exact kc _ rfl _ h
    · have hx := ite_f h8 hx
      refine wp_g 2 (pc1 := 27) (lv1 := [(0, .ref 146), (1, .int (Int32.ofInt x1))]) (st1 := [.ref 146, .ref 146]) (w1 := w) rfl ?_
      refine wx_gi (kf := 174) (ln := 3) (ci := 12) (b := 16) (zz := 0) (x := 146) (by decide +kernel) h (hS _ _ sm_146) rfl ?_
      show wp _ 165 30 [(0, .ref 146), (1, .int (Int32.ofInt x1))] [.int (Int32.ofInt (s 146 16)), .ref 146] w _
      refine wp_g 2 (pc1 := 32) (lv1 := [(0, .ref 146), (1, .int (Int32.ofInt x1))]) (st1 := [.int (Int32.ofInt ((s 146 16) - 1)), .ref 146]) (w1 := w) (by simp only [Int32.ofInt_add, Int32.ofInt_sub, Int32.ofInt_mul, Int32.ofInt_neg, p_and, p_or, p_xor, p_shl, p_shr, p_usr, p_w8, p_c16, p_lI, q_and, q_or, q_shl, q_shr, q_w32, Int64.ofInt_add, Int64.ofInt_sub, Int64.ofInt_mul, p_mx, p_mn, q_mx, q_mn]; rfl) ?_
      obtain ⟨s9, e10, hx⟩ := bd hx
      refine wx_pi (kf := 174) (ln := 3) (ci := 12) (b := 16) (zz := 0) (x := 146) (by decide +kernel) h (hS _ _ sm_146) rfl (by decide +kernel) e10 (fun w11 h12 => ?_)
      refine wp_g 2 (pc1 := 37) (lv1 := [(0, .ref 146), (1, .int (Int32.ofInt x1))]) (st1 := [.ref 146, .ref 146]) (w1 := w11) rfl ?_
      refine wx_gr (o := 7) (kf := 29) (ln := 3) (ci := 12) (b := 15) (zz := 0) (x := 146) (by decide +kernel) h12 (hS _ _ sm_146) rfl ?_
      show wp _ 165 40 [(0, .ref 146), (1, .int (Int32.ofInt x1))] [.ref 153, .ref 146] w11 _
      refine wp_g 1 (pc1 := 41) (lv1 := [(0, .ref 146), (1, .int (Int32.ofInt x1))]) (st1 := [.ref 146, .ref 153, .ref 146]) (w1 := w11) rfl ?_
      refine wx_gi (kf := 174) (ln := 3) (ci := 12) (b := 16) (zz := 0) (x := 146) (by decide +kernel) h12 (hS _ _ sm_146) rfl ?_
      show wp _ 165 44 [(0, .ref 146), (1, .int (Int32.ofInt x1))] [.int (Int32.ofInt (s9 146 16)), .ref 153, .ref 146] w11 _
      obtain ⟨i13, e14, hx⟩ := bd hx
      refine wx_ra (x := 153) (n := 400) (ln := 1) (a := 0) (b := 0) (zz := 0) (by decide +kernel) h12 (hS _ _ sm_153) e14 ?_
      show wp _ 165 45 [(0, .ref 146), (1, .int (Int32.ofInt x1))] [.int (Int32.ofInt (s9 153 i13)), .ref 146] w11 _
      refine wp_g 1 (pc1 := 46) (lv1 := [(0, .ref 146), (1, .int (Int32.ofInt x1))]) (st1 := [.int (Int32.ofInt 0), .int (Int32.ofInt (s9 153 i13)), .ref 146]) (w1 := w11) rfl ?_
      obtain ⟨o15, e16, hx⟩ := bd hx
      refine wp_cl [.ref 146, .int (Int32.ofInt (s9 153 i13)), .int (Int32.ofInt 0)] [] (i := .invokevirtual 181) (ln := 3) (a := 161) (b := 0) (z := 0) (by decide +kernel) rfl rfl (by decide) rfl (show (3 : Nat) = pm_na 161 by decide +kernel) (Nat.le_of_ble_eq_true rfl) (show (3 : Nat) ≤ pm_n 161 by decide +kernel) (rcv_x 12 h12 (hS _ _ sm_146) (by decide +kernel)) (xm_puts_ok (d := d) hS h12 e16 (fun w17 h18 => ?_))
      show wp _ 165 49 [(0, .ref 146), (1, .int (Int32.ofInt x1))] [] w17 _
      refine wp_g 1 (pc1 := 50) (lv1 := [(0, .ref 146), (1, .int (Int32.ofInt x1))]) (st1 := [.ref 146]) (w1 := w17) rfl ?_
      refine wx_gr (o := 7) (kf := 29) (ln := 3) (ci := 12) (b := 15) (zz := 0) (x := 146) (by decide +kernel) h18 (hS _ _ sm_146) rfl ?_
      show wp _ 165 53 [(0, .ref 146), (1, .int (Int32.ofInt x1))] [.ref 153] w17 _
      refine wp_g 1 (pc1 := 54) (lv1 := [(0, .ref 146), (1, .int (Int32.ofInt x1))]) (st1 := [.ref 146, .ref 153]) (w1 := w17) rfl ?_
      refine wx_gi (kf := 174) (ln := 3) (ci := 12) (b := 16) (zz := 0) (x := 146) (by decide +kernel) h18 (hS _ _ sm_146) rfl ?_
      show wp _ 165 57 [(0, .ref 146), (1, .int (Int32.ofInt x1))] [.int (Int32.ofInt (o15 146 16)), .ref 153] w17 _
      obtain ⟨i19, e20, hx⟩ := bd hx
      refine wx_ra (x := 153) (n := 400) (ln := 1) (a := 0) (b := 0) (zz := 0) (by decide +kernel) h18 (hS _ _ sm_153) e20 ?_
      show wp _ 165 58 [(0, .ref 146), (1, .int (Int32.ofInt x1))] [.int (Int32.ofInt (o15 153 i19))] w17 _
      refine wp_g 1 (pc1 := 60) (lv1 := [(0, .ref 146), (1, .int (Int32.ofInt x1))]) (st1 := [.int (Int32.ofInt 11), .int (Int32.ofInt (o15 153 i19))]) (w1 := w17) rfl ?_
      refine wx_ne (oo := (-60)) (ln := 3) (a := 0) (b := 0) (zz := 0) (by decide +kernel) (fun h21 => ?_) (fun h21 => ?_)
      · have hx := ite_f h21 hx
        cases hx
        exact kn _ _ rfl h18
      · have hx := ite_t h21 hx
        refine wp_g 2 (pc1 := 65) (lv1 := [(0, .ref 146), (1, .int (Int32.ofInt x1))]) (st1 := [.ref 146, .ref 146]) (w1 := w17) rfl ?_
        refine wx_gi (kf := 171) (ln := 3) (ci := 12) (b := 13) (zz := 0) (x := 146) (by decide +kernel) h18 (hS _ _ sm_146) rfl ?_
        show wp _ 165 68 [(0, .ref 146), (1, .int (Int32.ofInt x1))] [.int (Int32.ofInt (o15 146 13)), .ref 146] w17 _
        refine wp_g 2 (pc1 := 70) (lv1 := [(0, .ref 146), (1, .int (Int32.ofInt x1))]) (st1 := [.int (Int32.ofInt ((o15 146 13) - 1)), .ref 146]) (w1 := w17) (by simp only [Int32.ofInt_add, Int32.ofInt_sub, Int32.ofInt_mul, Int32.ofInt_neg, p_and, p_or, p_xor, p_shl, p_shr, p_usr, p_w8, p_c16, p_lI, q_and, q_or, q_shl, q_shr, q_w32, Int64.ofInt_add, Int64.ofInt_sub, Int64.ofInt_mul, p_mx, p_mn, q_mx, q_mn]; rfl) ?_
        obtain ⟨s22, e23, hx⟩ := bd hx
        refine wx_pi (kf := 171) (ln := 3) (ci := 12) (b := 13) (zz := 0) (x := 146) (by decide +kernel) h18 (hS _ _ sm_146) rfl (by decide +kernel) e23 (fun w24 h25 => ?_)
        refine wp_g 1 (pc1 := 0) (lv1 := [(0, .ref 146), (1, .int (Int32.ofInt x1))]) (st1 := []) (w1 := w24) rfl ?_
        cases hx
        exact kn _ _ rfl h25
/-- FoldDeedsModel.settles (I)V -/
noncomputable def xm_settles (s : Hp) (p1 : Int) : Option Hp :=
  (lp (fun (q : Hp) => xm_settles_b0 q p1) s).bind fun q1 => some q1
set_option maxRecDepth 100000 in
theorem xm_settles_ok {d : Nat} {P : Option Value → pm_H → Prop} {w : pm_H} {sh : Shp} {w0 : pm_H} {s : Hp} (hS : StM sh) {p1 : Int} (h : Rw sh w0 s w) {o : Hp} (hx : xm_settles s p1 = some o) (kr : ∀ w1, Rw sh w0 o w1 → P none w1) : wp (d + 1) 165 0 (lv_args 0 [.ref 146, .int (Int32.ofInt p1)]) [] w P := by
  show wp _ 165 0 [(0, .ref 146), (1, .int (Int32.ofInt p1))] [] w _
  unfold xm_settles at hx
  obtain ⟨q1, e2, hx⟩ := bd hx
  refine wp_lp (σ := Hp) (ρ := Hp) (B := fun q => xm_settles_b0 q p1) (R := fun q w' => Rw sh w0 q w') (C := fun r => ∀ w1, Rw sh w0 r w1 → wp (d + 1) 165 76 [(0, .ref 146), (1, .int (Int32.ofInt p1))] [] w1 P) (lv := fun q => [(0, .ref 146), (1, .int (Int32.ofInt p1))]) (hd := 0) (fun q w' o hR hb kn kc => xm_settles_b0_ok hS hR hb kn kc) _ _ _ e2 h ?_
  intro w3 h4
  show wp _ 165 76 [(0, .ref 146), (1, .int (Int32.ofInt p1))] [] w3 _
  refine wp_rt (i := .return_) (r := none) (ln := 1) (a := 0) (b := 0) (z := 0) (by decide +kernel) rfl (ret_v (by decide +kernel)) ?_
  cases hx
  exact kr _ h4
/-- FoldDeedsModel.value ()Z -/
noncomputable def xm_value (s : Hp) : Option (Int × Hp) :=
  (xm_see s).bind fun o1 => (xm_isDigit o1.2 (o1.2 146 8)).bind fun o5 => if w32 o5 = 0 then (xm_wordHere o1.2).bind fun o10 => if w32 o10.1 < 0 then (xm_fails o10.2 0 (o1.2 146 8)).bind fun o28 => if w32 o28.1 = 0 ∨ w32 o28.1 = 1 then some (o28.1, o28.2) else none else (xm_makes o10.2 (o1.2 146 8)).bind fun o15 => if w32 o15.1 = 0 then some (0, o15.2) else (xm_passWord o15.2).bind fun o20 => (xm_puts o20 1 o10.1).bind fun o24 => some (1, o24) else (xm_numberHere o1.2 0 99999).bind fun o33 => if w32 o33.1 = 0 then some (0, o33.2) else (xm_makes o33.2 (o1.2 146 8)).bind fun o38 => if w32 o38.1 = 0 then some (0, o38.2) else (xm_puts o38.2 0 (o38.2 146 10)).bind fun o43 => some (1, o43)
set_option maxRecDepth 100000 in
theorem xm_value_ok {d : Nat} {P : Option Value → pm_H → Prop} {w : pm_H} {sh : Shp} {w0 : pm_H} {s : Hp} (hS : StM sh) (h : Rw sh w0 s w) {o : Int × Hp} (hx : xm_value s = some o) (kr : ∀ w1, Rw sh w0 o.2 w1 → P (some (.int (Int32.ofInt o.1))) w1) : wp (d + 3) 166 0 (lv_args 0 [.ref 146]) [] w P := by
  show wp _ 166 0 [(0, .ref 146)] [] w _
  unfold xm_value at hx
  refine wp_g 1 (pc1 := 1) (lv1 := [(0, .ref 146)]) (st1 := [.ref 146]) (w1 := w) rfl ?_
  obtain ⟨o1, e2, hx⟩ := bd hx
  refine wp_cl [.ref 146] [] (i := .invokevirtual 114) (ln := 3) (a := 153) (b := 0) (z := 0) (by decide +kernel) rfl rfl (by decide) rfl (show (1 : Nat) = pm_na 153 by decide +kernel) (Nat.le_of_ble_eq_true rfl) (show (1 : Nat) ≤ pm_n 153 by decide +kernel) (rcv_x 12 h (hS _ _ sm_146) (by decide +kernel)) (xm_see_ok (d := d + 2) hS h e2 (fun w3 h4 => ?_))
  show wp _ 166 4 [(0, .ref 146)] [.int (Int32.ofInt o1.1)] w3 _
  refine wp_g 2 (pc1 := 6) (lv1 := [(0, .ref 146)]) (st1 := [.ref 146]) (w1 := w3) rfl ?_
  refine wx_gi (kf := 111) (ln := 3) (ci := 12) (b := 8) (zz := 0) (x := 146) (by decide +kernel) h4 (hS _ _ sm_146) rfl ?_
  show wp _ 166 9 [(0, .ref 146)] [.int (Int32.ofInt (o1.2 146 8))] w3 _
  refine wp_g 3 (pc1 := 12) (lv1 := [(1, .int (Int32.ofInt (o1.2 146 8))), (0, .ref 146)]) (st1 := [.ref 146, .ref 146]) (w1 := w3) rfl ?_
  refine wx_gi (kf := 111) (ln := 3) (ci := 12) (b := 8) (zz := 0) (x := 146) (by decide +kernel) h4 (hS _ _ sm_146) rfl ?_
  show wp _ 166 15 [(1, .int (Int32.ofInt (o1.2 146 8))), (0, .ref 146)] [.int (Int32.ofInt (o1.2 146 8)), .ref 146] w3 _
  obtain ⟨o5, e6, hx⟩ := bd hx
  refine wp_cl [.ref 146, .int (Int32.ofInt (o1.2 146 8))] [] (i := .invokevirtual 129) (ln := 3) (a := 154) (b := 0) (z := 0) (by decide +kernel) rfl rfl (by decide) rfl (show (2 : Nat) = pm_na 154 by decide +kernel) (Nat.le_of_ble_eq_true rfl) (show (2 : Nat) ≤ pm_n 154 by decide +kernel) (rcv_x 12 h4 (hS _ _ sm_146) (by decide +kernel)) (xm_isDigit_ok (d := d + 2) hS h4 e6 ?_)
  show wp _ 166 18 [(1, .int (Int32.ofInt (o1.2 146 8))), (0, .ref 146)] [.int (Int32.ofInt o5)] w3 _
  refine wz_eq (oo := 34) (ln := 3) (a := 52) (b := 0) (zz := 0) (by decide +kernel) (fun h9 => ?_) (fun h9 => ?_)
  · have hx := ite_t h9 hx
    refine wp_g 1 (pc1 := 53) (lv1 := [(1, .int (Int32.ofInt (o1.2 146 8))), (0, .ref 146)]) (st1 := [.ref 146]) (w1 := w3) rfl ?_
    obtain ⟨o10, e11, hx⟩ := bd hx
    refine wp_cl [.ref 146] [] (i := .invokevirtual 192) (ln := 3) (a := 160) (b := 0) (z := 0) (by decide +kernel) rfl rfl (by decide) rfl (show (1 : Nat) = pm_na 160 by decide +kernel) (Nat.le_of_ble_eq_true rfl) (show (1 : Nat) ≤ pm_n 160 by decide +kernel) (rcv_x 12 h4 (hS _ _ sm_146) (by decide +kernel)) (xm_wordHere_ok (d := d) hS h4 e11 (fun w12 h13 => ?_))
    show wp _ 166 56 [(1, .int (Int32.ofInt (o1.2 146 8))), (0, .ref 146)] [.int (Int32.ofInt o10.1)] w12 _
    refine wp_g 2 (pc1 := 58) (lv1 := [(2, .int (Int32.ofInt o10.1)), (1, .int (Int32.ofInt (o1.2 146 8))), (0, .ref 146)]) (st1 := [.int (Int32.ofInt o10.1)]) (w1 := w12) rfl ?_
    refine wz_ge (oo := 10) (ln := 3) (a := 68) (b := 0) (zz := 0) (by decide +kernel) (fun h14 => ?_) (fun h14 => ?_)
    · have hx := ite_f h14 hx
      refine wp_g 2 (pc1 := 70) (lv1 := [(2, .int (Int32.ofInt o10.1)), (1, .int (Int32.ofInt (o1.2 146 8))), (0, .ref 146)]) (st1 := [.int (Int32.ofInt (o1.2 146 8)), .ref 146]) (w1 := w12) rfl ?_
      obtain ⟨o15, e16, hx⟩ := bd hx
      refine wp_cl [.ref 146, .int (Int32.ofInt (o1.2 146 8))] [] (i := .invokevirtual 189) (ln := 3) (a := 162) (b := 0) (z := 0) (by decide +kernel) rfl rfl (by decide) rfl (show (2 : Nat) = pm_na 162 by decide +kernel) (Nat.le_of_ble_eq_true rfl) (show (2 : Nat) ≤ pm_n 162 by decide +kernel) (rcv_x 12 h13 (hS _ _ sm_146) (by decide +kernel)) (xm_makes_ok (d := d + 1) hS h13 e16 (fun w17 h18 => ?_))
      show wp _ 166 73 [(2, .int (Int32.ofInt o10.1)), (1, .int (Int32.ofInt (o1.2 146 8))), (0, .ref 146)] [.int (Int32.ofInt o15.1)] w17 _
      refine wz_ne (oo := 5) (ln := 3) (a := 78) (b := 0) (zz := 0) (by decide +kernel) (fun h19 => ?_) (fun h19 => ?_)
      · have hx := ite_f h19 hx
        refine wp_g 1 (pc1 := 79) (lv1 := [(2, .int (Int32.ofInt o10.1)), (1, .int (Int32.ofInt (o1.2 146 8))), (0, .ref 146)]) (st1 := [.ref 146]) (w1 := w17) rfl ?_
        obtain ⟨o20, e21, hx⟩ := bd hx
        refine wp_cl [.ref 146] [] (i := .invokevirtual 126) (ln := 3) (a := 157) (b := 0) (z := 0) (by decide +kernel) rfl rfl (by decide) rfl (show (1 : Nat) = pm_na 157 by decide +kernel) (Nat.le_of_ble_eq_true rfl) (show (1 : Nat) ≤ pm_n 157 by decide +kernel) (rcv_x 12 h18 (hS _ _ sm_146) (by decide +kernel)) (xm_passWord_ok (d := d + 1) hS h18 e21 (fun w22 h23 => ?_))
        show wp _ 166 82 [(2, .int (Int32.ofInt o10.1)), (1, .int (Int32.ofInt (o1.2 146 8))), (0, .ref 146)] [] w22 _
        refine wp_g 3 (pc1 := 85) (lv1 := [(2, .int (Int32.ofInt o10.1)), (1, .int (Int32.ofInt (o1.2 146 8))), (0, .ref 146)]) (st1 := [.int (Int32.ofInt o10.1), .int (Int32.ofInt 1), .ref 146]) (w1 := w22) rfl ?_
        obtain ⟨o24, e25, hx⟩ := bd hx
        refine wp_cl [.ref 146, .int (Int32.ofInt 1), .int (Int32.ofInt o10.1)] [] (i := .invokevirtual 181) (ln := 3) (a := 161) (b := 0) (z := 0) (by decide +kernel) rfl rfl (by decide) rfl (show (3 : Nat) = pm_na 161 by decide +kernel) (Nat.le_of_ble_eq_true rfl) (show (3 : Nat) ≤ pm_n 161 by decide +kernel) (rcv_x 12 h23 (hS _ _ sm_146) (by decide +kernel)) (xm_puts_ok (d := d + 2) hS h23 e25 (fun w26 h27 => ?_))
        show wp _ 166 88 [(2, .int (Int32.ofInt o10.1)), (1, .int (Int32.ofInt (o1.2 146 8))), (0, .ref 146)] [] w26 _
        refine wp_g 1 (pc1 := 89) (lv1 := [(2, .int (Int32.ofInt o10.1)), (1, .int (Int32.ofInt (o1.2 146 8))), (0, .ref 146)]) (st1 := [.int (Int32.ofInt 1)]) (w1 := w26) rfl ?_
        refine wp_rt (i := .ireturn) (r := some (.int (Int32.ofInt 1))) (ln := 1) (a := 0) (b := 0) (z := 0) (by decide +kernel) rfl (ret_b (by decide +kernel) (Or.inr rfl)) ?_
        cases hx
        exact kr _ h27
      · have hx := ite_t h19 hx
        refine wp_g 1 (pc1 := 77) (lv1 := [(2, .int (Int32.ofInt o10.1)), (1, .int (Int32.ofInt (o1.2 146 8))), (0, .ref 146)]) (st1 := [.int (Int32.ofInt 0)]) (w1 := w17) rfl ?_
        refine wp_rt (i := .ireturn) (r := some (.int (Int32.ofInt 0))) (ln := 1) (a := 0) (b := 0) (z := 0) (by decide +kernel) rfl (ret_b (by decide +kernel) (Or.inl rfl)) ?_
        cases hx
        exact kr _ h18
    · have hx := ite_t h14 hx
      refine wp_g 3 (pc1 := 64) (lv1 := [(2, .int (Int32.ofInt o10.1)), (1, .int (Int32.ofInt (o1.2 146 8))), (0, .ref 146)]) (st1 := [.int (Int32.ofInt (o1.2 146 8)), .int (Int32.ofInt 0), .ref 146]) (w1 := w12) rfl ?_
      obtain ⟨o28, e29, hx⟩ := bd hx
      refine wp_cl [.ref 146, .int (Int32.ofInt 0), .int (Int32.ofInt (o1.2 146 8))] [] (i := .invokevirtual 132) (ln := 3) (a := 152) (b := 0) (z := 0) (by decide +kernel) rfl rfl (by decide) rfl (show (3 : Nat) = pm_na 152 by decide +kernel) (Nat.le_of_ble_eq_true rfl) (show (3 : Nat) ≤ pm_n 152 by decide +kernel) (rcv_x 12 h13 (hS _ _ sm_146) (by decide +kernel)) (xm_fails_ok (d := d + 2) hS h13 e29 (fun w30 h31 => ?_))
      show wp _ 166 67 [(2, .int (Int32.ofInt o10.1)), (1, .int (Int32.ofInt (o1.2 146 8))), (0, .ref 146)] [.int (Int32.ofInt o28.1)] w30 _
      obtain ⟨h32, hx⟩ := gd hx
      refine wp_rt (i := .ireturn) (r := some (.int (Int32.ofInt o28.1))) (ln := 1) (a := 0) (b := 0) (z := 0) (by decide +kernel) rfl (ret_b (by decide +kernel) (w01 h32)) ?_
      cases hx
      exact kr _ h31
  · have hx := ite_f h9 hx
    refine wp_g 3 (pc1 := 25) (lv1 := [(1, .int (Int32.ofInt (o1.2 146 8))), (0, .ref 146)]) (st1 := [.int (Int32.ofInt 99999), .int (Int32.ofInt 0), .ref 146]) (w1 := w3) rfl ?_
    obtain ⟨o33, e34, hx⟩ := bd hx
    refine wp_cl [.ref 146, .int (Int32.ofInt 0), .int (Int32.ofInt 99999)] [] (i := .invokevirtual 186) (ln := 3) (a := 159) (b := 0) (z := 0) (by decide +kernel) rfl rfl (by decide) rfl (show (3 : Nat) = pm_na 159 by decide +kernel) (Nat.le_of_ble_eq_true rfl) (show (3 : Nat) ≤ pm_n 159 by decide +kernel) (rcv_x 12 h4 (hS _ _ sm_146) (by decide +kernel)) (xm_numberHere_ok (d := d + 1) hS h4 e34 (fun w35 h36 => ?_))
    show wp _ 166 28 [(1, .int (Int32.ofInt (o1.2 146 8))), (0, .ref 146)] [.int (Int32.ofInt o33.1)] w35 _
    refine wz_eq (oo := 11) (ln := 3) (a := 39) (b := 0) (zz := 0) (by decide +kernel) (fun h37 => ?_) (fun h37 => ?_)
    · have hx := ite_t h37 hx
      refine wp_g 1 (pc1 := 40) (lv1 := [(1, .int (Int32.ofInt (o1.2 146 8))), (0, .ref 146)]) (st1 := [.int (Int32.ofInt 0)]) (w1 := w35) rfl ?_
      refine wp_rt (i := .ireturn) (r := some (.int (Int32.ofInt 0))) (ln := 1) (a := 0) (b := 0) (z := 0) (by decide +kernel) rfl (ret_b (by decide +kernel) (Or.inl rfl)) ?_
      cases hx
      exact kr _ h36
    · have hx := ite_f h37 hx
      refine wp_g 2 (pc1 := 33) (lv1 := [(1, .int (Int32.ofInt (o1.2 146 8))), (0, .ref 146)]) (st1 := [.int (Int32.ofInt (o1.2 146 8)), .ref 146]) (w1 := w35) rfl ?_
      obtain ⟨o38, e39, hx⟩ := bd hx
      refine wp_cl [.ref 146, .int (Int32.ofInt (o1.2 146 8))] [] (i := .invokevirtual 189) (ln := 3) (a := 162) (b := 0) (z := 0) (by decide +kernel) rfl rfl (by decide) rfl (show (2 : Nat) = pm_na 162 by decide +kernel) (Nat.le_of_ble_eq_true rfl) (show (2 : Nat) ≤ pm_n 162 by decide +kernel) (rcv_x 12 h36 (hS _ _ sm_146) (by decide +kernel)) (xm_makes_ok (d := d + 1) hS h36 e39 (fun w40 h41 => ?_))
      show wp _ 166 36 [(1, .int (Int32.ofInt (o1.2 146 8))), (0, .ref 146)] [.int (Int32.ofInt o38.1)] w40 _
      refine wz_ne (oo := 5) (ln := 3) (a := 41) (b := 0) (zz := 0) (by decide +kernel) (fun h42 => ?_) (fun h42 => ?_)
      · have hx := ite_f h42 hx
        refine wp_g 3 (pc1 := 44) (lv1 := [(1, .int (Int32.ofInt (o1.2 146 8))), (0, .ref 146)]) (st1 := [.ref 146, .int (Int32.ofInt 0), .ref 146]) (w1 := w40) rfl ?_
        refine wx_gi (kf := 136) (ln := 3) (ci := 12) (b := 10) (zz := 0) (x := 146) (by decide +kernel) h41 (hS _ _ sm_146) rfl ?_
        show wp _ 166 47 [(1, .int (Int32.ofInt (o1.2 146 8))), (0, .ref 146)] [.int (Int32.ofInt (o38.2 146 10)), .int (Int32.ofInt 0), .ref 146] w40 _
        obtain ⟨o43, e44, hx⟩ := bd hx
        refine wp_cl [.ref 146, .int (Int32.ofInt 0), .int (Int32.ofInt (o38.2 146 10))] [] (i := .invokevirtual 181) (ln := 3) (a := 161) (b := 0) (z := 0) (by decide +kernel) rfl rfl (by decide) rfl (show (3 : Nat) = pm_na 161 by decide +kernel) (Nat.le_of_ble_eq_true rfl) (show (3 : Nat) ≤ pm_n 161 by decide +kernel) (rcv_x 12 h41 (hS _ _ sm_146) (by decide +kernel)) (xm_puts_ok (d := d + 2) hS h41 e44 (fun w45 h46 => ?_))
        show wp _ 166 50 [(1, .int (Int32.ofInt (o1.2 146 8))), (0, .ref 146)] [] w45 _
        refine wp_g 1 (pc1 := 51) (lv1 := [(1, .int (Int32.ofInt (o1.2 146 8))), (0, .ref 146)]) (st1 := [.int (Int32.ofInt 1)]) (w1 := w45) rfl ?_
        refine wp_rt (i := .ireturn) (r := some (.int (Int32.ofInt 1))) (ln := 1) (a := 0) (b := 0) (z := 0) (by decide +kernel) rfl (ret_b (by decide +kernel) (Or.inr rfl)) ?_
        cases hx
        exact kr _ h46
      · have hx := ite_t h42 hx
        refine wp_g 1 (pc1 := 40) (lv1 := [(1, .int (Int32.ofInt (o1.2 146 8))), (0, .ref 146)]) (st1 := [.int (Int32.ofInt 0)]) (w1 := w40) rfl ?_
        refine wp_rt (i := .ireturn) (r := some (.int (Int32.ofInt 0))) (ln := 1) (a := 0) (b := 0) (z := 0) (by decide +kernel) rfl (ret_b (by decide +kernel) (Or.inl rfl)) ?_
        cases hx
        exact kr _ h41
noncomputable def xm_term_b9_j74 (s : Hp) (k0 : Int) : Option (Hp ⊕ (Hp ⊕ (Int × Hp))) :=
  (some (uh s 146 8 ((s 146 8) + 1))).bind fun s1 => (xm_value s1).bind fun o5 => if w32 o5.1 = 0 then some (.inr (.inr (0, o5.2))) else (xm_puts o5.2 k0 0).bind fun o10 => some (.inl o10)
set_option maxRecDepth 100000 in
theorem xm_term_b9_j74_ok {d : Nat} {P : Option Value → pm_H → Prop} {w : pm_H} {sh : Shp} {w0 : pm_H} {s : Hp} (hS : StM sh) {k0 : Int} (h : Rw sh w0 s w) {o : (Hp ⊕ (Hp ⊕ (Int × Hp)))} (hx : xm_term_b9_j74 s k0 = some o) (kn : ∀ (q : Hp) w1, o = .inl q → Rw sh w0 q w1 → wp (d + 4) 167 9 [(0, .ref 146)] [] w1 P) (kc : ∀ (r : (Hp ⊕ (Int × Hp))), o = .inr r → ((∀ q1 w1, r = .inl q1 → Rw sh w0 q1 w1 → wp (d + 4) 167 103 [(0, .ref 146)] [] w1 P) ∧ (∀ v1 w1, r = .inr v1 → Rw sh w0 v1.2 w1 → P (some (.int (Int32.ofInt v1.1))) w1))) : wp (d + 4) 167 74 [(0, .ref 146)] [.int (Int32.ofInt k0)] w P := by
  unfold xm_term_b9_j74 at hx
  refine wp_g 3 (pc1 := 77) (lv1 := [(1, .int (Int32.ofInt k0)), (0, .ref 146)]) (st1 := [.ref 146, .ref 146]) (w1 := w) rfl ?_
  refine wx_gi (kf := 111) (ln := 3) (ci := 12) (b := 8) (zz := 0) (x := 146) (by decide +kernel) h (hS _ _ sm_146) rfl ?_
  show wp _ 167 80 [(1, .int (Int32.ofInt k0)), (0, .ref 146)] [.int (Int32.ofInt (s 146 8)), .ref 146] w _
  refine wp_g 2 (pc1 := 82) (lv1 := [(1, .int (Int32.ofInt k0)), (0, .ref 146)]) (st1 := [.int (Int32.ofInt ((s 146 8) + 1)), .ref 146]) (w1 := w) (by simp only [Int32.ofInt_add, Int32.ofInt_sub, Int32.ofInt_mul, Int32.ofInt_neg, p_and, p_or, p_xor, p_shl, p_shr, p_usr, p_w8, p_c16, p_lI, q_and, q_or, q_shl, q_shr, q_w32, Int64.ofInt_add, Int64.ofInt_sub, Int64.ofInt_mul, p_mx, p_mn, q_mx, q_mn]; rfl) ?_
  obtain ⟨s1, e2, hx⟩ := bd hx
  refine wx_pi (kf := 111) (ln := 3) (ci := 12) (b := 8) (zz := 0) (x := 146) (by decide +kernel) h (hS _ _ sm_146) rfl (by decide +kernel) e2 (fun w3 h4 => ?_)
  refine wp_g 1 (pc1 := 86) (lv1 := [(1, .int (Int32.ofInt k0)), (0, .ref 146)]) (st1 := [.ref 146]) (w1 := w3) rfl ?_
  obtain ⟨o5, e6, hx⟩ := bd hx
  refine wp_cl [.ref 146] [] (i := .invokevirtual 195) (ln := 3) (a := 166) (b := 0) (z := 0) (by decide +kernel) rfl rfl (by decide) rfl (show (1 : Nat) = pm_na 166 by decide +kernel) (Nat.le_of_ble_eq_true rfl) (show (1 : Nat) ≤ pm_n 166 by decide +kernel) (rcv_x 12 h4 (hS _ _ sm_146) (by decide +kernel)) (xm_value_ok (d := d) hS h4 e6 (fun w7 h8 => ?_))
  show wp _ 167 89 [(1, .int (Int32.ofInt k0)), (0, .ref 146)] [.int (Int32.ofInt o5.1)] w7 _
  refine wz_ne (oo := 5) (ln := 3) (a := 94) (b := 0) (zz := 0) (by decide +kernel) (fun h9 => ?_) (fun h9 => ?_)
  · have hx := ite_f h9 hx
    refine wp_g 3 (pc1 := 97) (lv1 := [(1, .int (Int32.ofInt k0)), (0, .ref 146)]) (st1 := [.int (Int32.ofInt 0), .int (Int32.ofInt k0), .ref 146]) (w1 := w7) rfl ?_
    obtain ⟨o10, e11, hx⟩ := bd hx
    refine wp_cl [.ref 146, .int (Int32.ofInt k0), .int (Int32.ofInt 0)] [] (i := .invokevirtual 181) (ln := 3) (a := 161) (b := 0) (z := 0) (by decide +kernel) rfl rfl (by decide) rfl (show (3 : Nat) = pm_na 161 by decide +kernel) (Nat.le_of_ble_eq_true rfl) (show (3 : Nat) ≤ pm_n 161 by decide +kernel) (rcv_x 12 h8 (hS _ _ sm_146) (by decide +kernel)) (xm_puts_ok (d := d + 3) hS h8 e11 (fun w12 h13 => ?_))
    show wp _ 167 100 [(1, .int (Int32.ofInt k0)), (0, .ref 146)] [] w12 _
    refine wp_g 1 (pc1 := 9) (lv1 := [(1, .int (Int32.ofInt k0)), (0, .ref 146)]) (st1 := []) (w1 := w12) rfl ?_
    refine wp_lv (lv1 := [(0, .ref 146)]) (lsub_p [1] rfl rfl rfl) ?_
    cases hx
    exact kn _ _ rfl h13
  · have hx := ite_t h9 hx
    refine wp_g 1 (pc1 := 93) (lv1 := [(1, .int (Int32.ofInt k0)), (0, .ref 146)]) (st1 := [.int (Int32.ofInt 0)]) (w1 := w7) rfl ?_
    refine wp_rt (i := .ireturn) (r := some (.int (Int32.ofInt 0))) (ln := 1) (a := 0) (b := 0) (z := 0) (by decide +kernel) rfl (ret_b (by decide +kernel) (Or.inl rfl)) ?_
    cases hx
    exact (kc _ rfl).2 _ _ rfl h8
noncomputable def xm_term_b9_j36 (s : Hp) : Option (Hp ⊕ (Hp ⊕ (Int × Hp))) :=
  (ix 400 (s 146 8)).bind fun i1 => if w32 (s 147 i1) = w32 42 then xm_term_b9_j74 s 4 else if w32 (s 147 i1) = w32 47 then xm_term_b9_j74 s 5 else xm_term_b9_j74 s 14
set_option maxRecDepth 100000 in
theorem xm_term_b9_j36_ok {d : Nat} {P : Option Value → pm_H → Prop} {w : pm_H} {sh : Shp} {w0 : pm_H} {s : Hp} (hS : StM sh) (h : Rw sh w0 s w) {o : (Hp ⊕ (Hp ⊕ (Int × Hp)))} (hx : xm_term_b9_j36 s = some o) (kn : ∀ (q : Hp) w1, o = .inl q → Rw sh w0 q w1 → wp (d + 4) 167 9 [(0, .ref 146)] [] w1 P) (kc : ∀ (r : (Hp ⊕ (Int × Hp))), o = .inr r → ((∀ q1 w1, r = .inl q1 → Rw sh w0 q1 w1 → wp (d + 4) 167 103 [(0, .ref 146)] [] w1 P) ∧ (∀ v1 w1, r = .inr v1 → Rw sh w0 v1.2 w1 → P (some (.int (Int32.ofInt v1.1))) w1))) : wp (d + 4) 167 36 [(0, .ref 146)] [] w P := by
  unfold xm_term_b9_j36 at hx
  refine wp_g 1 (pc1 := 37) (lv1 := [(0, .ref 146)]) (st1 := [.ref 146]) (w1 := w) rfl ?_
  refine wx_gr (o := 1) (kf := 7) (ln := 3) (ci := 12) (b := 0) (zz := 0) (x := 146) (by decide +kernel) h (hS _ _ sm_146) rfl ?_
  show wp _ 167 40 [(0, .ref 146)] [.ref 147] w _
  refine wp_g 1 (pc1 := 41) (lv1 := [(0, .ref 146)]) (st1 := [.ref 146, .ref 147]) (w1 := w) rfl ?_
  refine wx_gi (kf := 111) (ln := 3) (ci := 12) (b := 8) (zz := 0) (x := 146) (by decide +kernel) h (hS _ _ sm_146) rfl ?_
  show wp _ 167 44 [(0, .ref 146)] [.int (Int32.ofInt (s 146 8)), .ref 147] w _
  obtain ⟨i1, e2, hx⟩ := bd hx
  refine wx_rb (x := 147) (n := 400) (ln := 1) (a := 0) (b := 0) (zz := 0) (by decide +kernel) h (hS _ _ sm_147) e2 ?_
  show wp _ 167 45 [(0, .ref 146)] [.int (Int32.ofInt (s 147 i1))] w _
  refine wp_g 1 (pc1 := 47) (lv1 := [(0, .ref 146)]) (st1 := [.int (Int32.ofInt 42), .int (Int32.ofInt (s 147 i1))]) (w1 := w) rfl ?_
  refine wx_ne (oo := 7) (ln := 3) (a := 54) (b := 0) (zz := 0) (by decide +kernel) (fun h3 => ?_) (fun h3 => ?_)
  · have hx := ite_f h3 hx
    refine wp_g 1 (pc1 := 55) (lv1 := [(0, .ref 146)]) (st1 := [.ref 146]) (w1 := w) rfl ?_
    refine wx_gr (o := 1) (kf := 7) (ln := 3) (ci := 12) (b := 0) (zz := 0) (x := 146) (by decide +kernel) h (hS _ _ sm_146) rfl ?_
    show wp _ 167 58 [(0, .ref 146)] [.ref 147] w _
    refine wp_g 1 (pc1 := 59) (lv1 := [(0, .ref 146)]) (st1 := [.ref 146, .ref 147]) (w1 := w) rfl ?_
    refine wx_gi (kf := 111) (ln := 3) (ci := 12) (b := 8) (zz := 0) (x := 146) (by decide +kernel) h (hS _ _ sm_146) rfl ?_
    show wp _ 167 62 [(0, .ref 146)] [.int (Int32.ofInt (s 146 8)), .ref 147] w _
    refine wx_rb (x := 147) (n := 400) (ln := 1) (a := 0) (b := 0) (zz := 0) (by decide +kernel) h (hS _ _ sm_147) e2 ?_
    show wp _ 167 63 [(0, .ref 146)] [.int (Int32.ofInt (s 147 i1))] w _
    refine wp_g 1 (pc1 := 65) (lv1 := [(0, .ref 146)]) (st1 := [.int (Int32.ofInt 47), .int (Int32.ofInt (s 147 i1))]) (w1 := w) rfl ?_
    refine wx_ne (oo := 7) (ln := 3) (a := 72) (b := 0) (zz := 0) (by decide +kernel) (fun h4 => ?_) (fun h4 => ?_)
    · have hx := ite_f h4 hx
      refine wp_g 1 (pc1 := 74) (lv1 := [(0, .ref 146)]) (st1 := [.int (Int32.ofInt 14)]) (w1 := w) rfl ?_
      exact xm_term_b9_j74_ok hS h hx kn kc
    · have hx := ite_t h4 hx
      refine wp_g 2 (pc1 := 74) (lv1 := [(0, .ref 146)]) (st1 := [.int (Int32.ofInt 5)]) (w1 := w) rfl ?_
      exact xm_term_b9_j74_ok hS h hx kn kc
  · have hx := ite_t h3 hx
    refine wp_g 2 (pc1 := 74) (lv1 := [(0, .ref 146)]) (st1 := [.int (Int32.ofInt 4)]) (w1 := w) rfl ?_
    exact xm_term_b9_j74_ok hS h hx kn kc
noncomputable def xm_term_b9 (s : Hp) : Option (Hp ⊕ (Hp ⊕ (Int × Hp))) :=
  (xm_see s).bind fun o1 => if w32 o1.1 = w32 42 then xm_term_b9_j36 o1.2 else (xm_see o1.2).bind fun o6 => if w32 o6.1 = w32 47 then xm_term_b9_j36 o6.2 else (xm_see o6.2).bind fun o11 => if w32 o11.1 = w32 37 then xm_term_b9_j36 o11.2 else some (.inr (.inl o11.2))
set_option maxRecDepth 100000 in
theorem xm_term_b9_ok {d : Nat} {P : Option Value → pm_H → Prop} {w : pm_H} {sh : Shp} {w0 : pm_H} {s : Hp} (hS : StM sh) (h : Rw sh w0 s w) {o : (Hp ⊕ (Hp ⊕ (Int × Hp)))} (hx : xm_term_b9 s = some o) (kn : ∀ (q : Hp) w1, o = .inl q → Rw sh w0 q w1 → wp (d + 4) 167 9 [(0, .ref 146)] [] w1 P) (kc : ∀ (r : (Hp ⊕ (Int × Hp))), o = .inr r → ((∀ q1 w1, r = .inl q1 → Rw sh w0 q1 w1 → wp (d + 4) 167 103 [(0, .ref 146)] [] w1 P) ∧ (∀ v1 w1, r = .inr v1 → Rw sh w0 v1.2 w1 → P (some (.int (Int32.ofInt v1.1))) w1))) : wp (d + 4) 167 9 [(0, .ref 146)] [] w P := by
  unfold xm_term_b9 at hx
  refine wp_g 1 (pc1 := 10) (lv1 := [(0, .ref 146)]) (st1 := [.ref 146]) (w1 := w) rfl ?_
  obtain ⟨o1, e2, hx⟩ := bd hx
  refine wp_cl [.ref 146] [] (i := .invokevirtual 114) (ln := 3) (a := 153) (b := 0) (z := 0) (by decide +kernel) rfl rfl (by decide) rfl (show (1 : Nat) = pm_na 153 by decide +kernel) (Nat.le_of_ble_eq_true rfl) (show (1 : Nat) ≤ pm_n 153 by decide +kernel) (rcv_x 12 h (hS _ _ sm_146) (by decide +kernel)) (xm_see_ok (d := d + 3) hS h e2 (fun w3 h4 => ?_))
  show wp _ 167 13 [(0, .ref 146)] [.int (Int32.ofInt o1.1)] w3 _
  refine wp_g 1 (pc1 := 15) (lv1 := [(0, .ref 146)]) (st1 := [.int (Int32.ofInt 42), .int (Int32.ofInt o1.1)]) (w1 := w3) rfl ?_
  refine wx_eq (oo := 21) (ln := 3) (a := 36) (b := 0) (zz := 0) (by decide +kernel) (fun h5 => ?_) (fun h5 => ?_)
  · have hx := ite_t h5 hx
    exact xm_term_b9_j36_ok hS h4 hx kn kc
  · have hx := ite_f h5 hx
    refine wp_g 1 (pc1 := 19) (lv1 := [(0, .ref 146)]) (st1 := [.ref 146]) (w1 := w3) rfl ?_
    obtain ⟨o6, e7, hx⟩ := bd hx
    refine wp_cl [.ref 146] [] (i := .invokevirtual 114) (ln := 3) (a := 153) (b := 0) (z := 0) (by decide +kernel) rfl rfl (by decide) rfl (show (1 : Nat) = pm_na 153 by decide +kernel) (Nat.le_of_ble_eq_true rfl) (show (1 : Nat) ≤ pm_n 153 by decide +kernel) (rcv_x 12 h4 (hS _ _ sm_146) (by decide +kernel)) (xm_see_ok (d := d + 3) hS h4 e7 (fun w8 h9 => ?_))
    show wp _ 167 22 [(0, .ref 146)] [.int (Int32.ofInt o6.1)] w8 _
    refine wp_g 1 (pc1 := 24) (lv1 := [(0, .ref 146)]) (st1 := [.int (Int32.ofInt 47), .int (Int32.ofInt o6.1)]) (w1 := w8) rfl ?_
    refine wx_eq (oo := 12) (ln := 3) (a := 36) (b := 0) (zz := 0) (by decide +kernel) (fun h10 => ?_) (fun h10 => ?_)
    · have hx := ite_t h10 hx
      exact xm_term_b9_j36_ok hS h9 hx kn kc
    · have hx := ite_f h10 hx
      refine wp_g 1 (pc1 := 28) (lv1 := [(0, .ref 146)]) (st1 := [.ref 146]) (w1 := w8) rfl ?_
      obtain ⟨o11, e12, hx⟩ := bd hx
      refine wp_cl [.ref 146] [] (i := .invokevirtual 114) (ln := 3) (a := 153) (b := 0) (z := 0) (by decide +kernel) rfl rfl (by decide) rfl (show (1 : Nat) = pm_na 153 by decide +kernel) (Nat.le_of_ble_eq_true rfl) (show (1 : Nat) ≤ pm_n 153 by decide +kernel) (rcv_x 12 h9 (hS _ _ sm_146) (by decide +kernel)) (xm_see_ok (d := d + 3) hS h9 e12 (fun w13 h14 => ?_))
      show wp _ 167 31 [(0, .ref 146)] [.int (Int32.ofInt o11.1)] w13 _
      refine wp_g 1 (pc1 := 33) (lv1 := [(0, .ref 146)]) (st1 := [.int (Int32.ofInt 37), .int (Int32.ofInt o11.1)]) (w1 := w13) rfl ?_
      refine wx_ne (oo := 70) (ln := 3) (a := 103) (b := 0) (zz := 0) (by decide +kernel) (fun h15 => ?_) (fun h15 => ?_)
      · have hx := ite_f h15 hx
        cases hx
        exact (kc _ rfl).1 _ _ rfl h14
      · have hx := ite_t h15 hx
        exact xm_term_b9_j36_ok hS h14 hx kn kc
/-- FoldDeedsModel.term ()Z -/
noncomputable def xm_term (s : Hp) : Option (Int × Hp) :=
  (xm_value s).bind fun o1 => if w32 o1.1 = 0 then some (0, o1.2) else (lp (fun (q : Hp) => xm_term_b9 q) o1.2).bind fun q6 => q6.elim (fun q10 => some (1, q10)) (fun r => some r)
set_option maxRecDepth 100000 in
theorem xm_term_ok {d : Nat} {P : Option Value → pm_H → Prop} {w : pm_H} {sh : Shp} {w0 : pm_H} {s : Hp} (hS : StM sh) (h : Rw sh w0 s w) {o : Int × Hp} (hx : xm_term s = some o) (kr : ∀ w1, Rw sh w0 o.2 w1 → P (some (.int (Int32.ofInt o.1))) w1) : wp (d + 4) 167 0 (lv_args 0 [.ref 146]) [] w P := by
  show wp _ 167 0 [(0, .ref 146)] [] w _
  unfold xm_term at hx
  refine wp_g 1 (pc1 := 1) (lv1 := [(0, .ref 146)]) (st1 := [.ref 146]) (w1 := w) rfl ?_
  obtain ⟨o1, e2, hx⟩ := bd hx
  refine wp_cl [.ref 146] [] (i := .invokevirtual 195) (ln := 3) (a := 166) (b := 0) (z := 0) (by decide +kernel) rfl rfl (by decide) rfl (show (1 : Nat) = pm_na 166 by decide +kernel) (Nat.le_of_ble_eq_true rfl) (show (1 : Nat) ≤ pm_n 166 by decide +kernel) (rcv_x 12 h (hS _ _ sm_146) (by decide +kernel)) (xm_value_ok (d := d) hS h e2 (fun w3 h4 => ?_))
  show wp _ 167 4 [(0, .ref 146)] [.int (Int32.ofInt o1.1)] w3 _
  refine wz_ne (oo := 5) (ln := 3) (a := 9) (b := 0) (zz := 0) (by decide +kernel) (fun h5 => ?_) (fun h5 => ?_)
  · have hx := ite_f h5 hx
    obtain ⟨q6, e7, hx⟩ := bd hx
    refine wp_lp (σ := Hp) (ρ := (Hp ⊕ (Int × Hp))) (B := fun q => xm_term_b9 q) (R := fun q w' => Rw sh w0 q w') (C := fun r => (∀ q1 w1, r = .inl q1 → Rw sh w0 q1 w1 → wp (d + 4) 167 103 [(0, .ref 146)] [] w1 P) ∧ (∀ v1 w1, r = .inr v1 → Rw sh w0 v1.2 w1 → P (some (.int (Int32.ofInt v1.1))) w1)) (lv := fun q => [(0, .ref 146)]) (hd := 9) (fun q w' o hR hb kn kc => xm_term_b9_ok hS hR hb kn kc) _ _ _ e7 h4 ?_
    refine ⟨?_, fun v11 w1 hs h1 => by subst hs; cases (se_r hx); exact kr _ h1⟩
    intro q10 w8 hs h9
    subst hs
    replace hx := se_l hx
    show wp _ 167 103 [(0, .ref 146)] [] w8 _
    refine wp_g 1 (pc1 := 104) (lv1 := [(0, .ref 146)]) (st1 := [.int (Int32.ofInt 1)]) (w1 := w8) rfl ?_
    refine wp_rt (i := .ireturn) (r := some (.int (Int32.ofInt 1))) (ln := 1) (a := 0) (b := 0) (z := 0) (by decide +kernel) rfl (ret_b (by decide +kernel) (Or.inr rfl)) ?_
    cases hx
    exact kr _ h9
  · have hx := ite_t h5 hx
    refine wp_g 1 (pc1 := 8) (lv1 := [(0, .ref 146)]) (st1 := [.int (Int32.ofInt 0)]) (w1 := w3) rfl ?_
    refine wp_rt (i := .ireturn) (r := some (.int (Int32.ofInt 0))) (ln := 1) (a := 0) (b := 0) (z := 0) (by decide +kernel) rfl (ret_b (by decide +kernel) (Or.inl rfl)) ?_
    cases hx
    exact kr _ h4
noncomputable def xm_sum_b9_j46 (s : Hp) (k0 : Int) : Option (Hp ⊕ (Hp ⊕ (Int × Hp))) :=
  (some (uh s 146 8 ((s 146 8) + 1))).bind fun s1 => (xm_term s1).bind fun o5 => if w32 o5.1 = 0 then some (.inr (.inr (0, o5.2))) else (xm_puts o5.2 k0 0).bind fun o10 => some (.inl o10)
set_option maxRecDepth 100000 in
theorem xm_sum_b9_j46_ok {d : Nat} {P : Option Value → pm_H → Prop} {w : pm_H} {sh : Shp} {w0 : pm_H} {s : Hp} (hS : StM sh) {k0 : Int} (h : Rw sh w0 s w) {o : (Hp ⊕ (Hp ⊕ (Int × Hp)))} (hx : xm_sum_b9_j46 s k0 = some o) (kn : ∀ (q : Hp) w1, o = .inl q → Rw sh w0 q w1 → wp (d + 5) 168 9 [(0, .ref 146)] [] w1 P) (kc : ∀ (r : (Hp ⊕ (Int × Hp))), o = .inr r → ((∀ q1 w1, r = .inl q1 → Rw sh w0 q1 w1 → wp (d + 5) 168 75 [(0, .ref 146)] [] w1 P) ∧ (∀ v1 w1, r = .inr v1 → Rw sh w0 v1.2 w1 → P (some (.int (Int32.ofInt v1.1))) w1))) : wp (d + 5) 168 46 [(0, .ref 146)] [.int (Int32.ofInt k0)] w P := by
  unfold xm_sum_b9_j46 at hx
  refine wp_g 3 (pc1 := 49) (lv1 := [(1, .int (Int32.ofInt k0)), (0, .ref 146)]) (st1 := [.ref 146, .ref 146]) (w1 := w) rfl ?_
  refine wx_gi (kf := 111) (ln := 3) (ci := 12) (b := 8) (zz := 0) (x := 146) (by decide +kernel) h (hS _ _ sm_146) rfl ?_
  show wp _ 168 52 [(1, .int (Int32.ofInt k0)), (0, .ref 146)] [.int (Int32.ofInt (s 146 8)), .ref 146] w _
  refine wp_g 2 (pc1 := 54) (lv1 := [(1, .int (Int32.ofInt k0)), (0, .ref 146)]) (st1 := [.int (Int32.ofInt ((s 146 8) + 1)), .ref 146]) (w1 := w) (by simp only [Int32.ofInt_add, Int32.ofInt_sub, Int32.ofInt_mul, Int32.ofInt_neg, p_and, p_or, p_xor, p_shl, p_shr, p_usr, p_w8, p_c16, p_lI, q_and, q_or, q_shl, q_shr, q_w32, Int64.ofInt_add, Int64.ofInt_sub, Int64.ofInt_mul, p_mx, p_mn, q_mx, q_mn]; rfl) ?_
  obtain ⟨s1, e2, hx⟩ := bd hx
  refine wx_pi (kf := 111) (ln := 3) (ci := 12) (b := 8) (zz := 0) (x := 146) (by decide +kernel) h (hS _ _ sm_146) rfl (by decide +kernel) e2 (fun w3 h4 => ?_)
  refine wp_g 1 (pc1 := 58) (lv1 := [(1, .int (Int32.ofInt k0)), (0, .ref 146)]) (st1 := [.ref 146]) (w1 := w3) rfl ?_
  obtain ⟨o5, e6, hx⟩ := bd hx
  refine wp_cl [.ref 146] [] (i := .invokevirtual 199) (ln := 3) (a := 167) (b := 0) (z := 0) (by decide +kernel) rfl rfl (by decide) rfl (show (1 : Nat) = pm_na 167 by decide +kernel) (Nat.le_of_ble_eq_true rfl) (show (1 : Nat) ≤ pm_n 167 by decide +kernel) (rcv_x 12 h4 (hS _ _ sm_146) (by decide +kernel)) (xm_term_ok (d := d) hS h4 e6 (fun w7 h8 => ?_))
  show wp _ 168 61 [(1, .int (Int32.ofInt k0)), (0, .ref 146)] [.int (Int32.ofInt o5.1)] w7 _
  refine wz_ne (oo := 5) (ln := 3) (a := 66) (b := 0) (zz := 0) (by decide +kernel) (fun h9 => ?_) (fun h9 => ?_)
  · have hx := ite_f h9 hx
    refine wp_g 3 (pc1 := 69) (lv1 := [(1, .int (Int32.ofInt k0)), (0, .ref 146)]) (st1 := [.int (Int32.ofInt 0), .int (Int32.ofInt k0), .ref 146]) (w1 := w7) rfl ?_
    obtain ⟨o10, e11, hx⟩ := bd hx
    refine wp_cl [.ref 146, .int (Int32.ofInt k0), .int (Int32.ofInt 0)] [] (i := .invokevirtual 181) (ln := 3) (a := 161) (b := 0) (z := 0) (by decide +kernel) rfl rfl (by decide) rfl (show (3 : Nat) = pm_na 161 by decide +kernel) (Nat.le_of_ble_eq_true rfl) (show (3 : Nat) ≤ pm_n 161 by decide +kernel) (rcv_x 12 h8 (hS _ _ sm_146) (by decide +kernel)) (xm_puts_ok (d := d + 4) hS h8 e11 (fun w12 h13 => ?_))
    show wp _ 168 72 [(1, .int (Int32.ofInt k0)), (0, .ref 146)] [] w12 _
    refine wp_g 1 (pc1 := 9) (lv1 := [(1, .int (Int32.ofInt k0)), (0, .ref 146)]) (st1 := []) (w1 := w12) rfl ?_
    refine wp_lv (lv1 := [(0, .ref 146)]) (lsub_p [1] rfl rfl rfl) ?_
    cases hx
    exact kn _ _ rfl h13
  · have hx := ite_t h9 hx
    refine wp_g 1 (pc1 := 65) (lv1 := [(1, .int (Int32.ofInt k0)), (0, .ref 146)]) (st1 := [.int (Int32.ofInt 0)]) (w1 := w7) rfl ?_
    refine wp_rt (i := .ireturn) (r := some (.int (Int32.ofInt 0))) (ln := 1) (a := 0) (b := 0) (z := 0) (by decide +kernel) rfl (ret_b (by decide +kernel) (Or.inl rfl)) ?_
    cases hx
    exact (kc _ rfl).2 _ _ rfl h8
noncomputable def xm_sum_b9_j27 (s : Hp) : Option (Hp ⊕ (Hp ⊕ (Int × Hp))) :=
  (ix 400 (s 146 8)).bind fun i1 => if w32 (s 147 i1) = w32 43 then xm_sum_b9_j46 s 2 else xm_sum_b9_j46 s 3
set_option maxRecDepth 100000 in
theorem xm_sum_b9_j27_ok {d : Nat} {P : Option Value → pm_H → Prop} {w : pm_H} {sh : Shp} {w0 : pm_H} {s : Hp} (hS : StM sh) (h : Rw sh w0 s w) {o : (Hp ⊕ (Hp ⊕ (Int × Hp)))} (hx : xm_sum_b9_j27 s = some o) (kn : ∀ (q : Hp) w1, o = .inl q → Rw sh w0 q w1 → wp (d + 5) 168 9 [(0, .ref 146)] [] w1 P) (kc : ∀ (r : (Hp ⊕ (Int × Hp))), o = .inr r → ((∀ q1 w1, r = .inl q1 → Rw sh w0 q1 w1 → wp (d + 5) 168 75 [(0, .ref 146)] [] w1 P) ∧ (∀ v1 w1, r = .inr v1 → Rw sh w0 v1.2 w1 → P (some (.int (Int32.ofInt v1.1))) w1))) : wp (d + 5) 168 27 [(0, .ref 146)] [] w P := by
  unfold xm_sum_b9_j27 at hx
  refine wp_g 1 (pc1 := 28) (lv1 := [(0, .ref 146)]) (st1 := [.ref 146]) (w1 := w) rfl ?_
  refine wx_gr (o := 1) (kf := 7) (ln := 3) (ci := 12) (b := 0) (zz := 0) (x := 146) (by decide +kernel) h (hS _ _ sm_146) rfl ?_
  show wp _ 168 31 [(0, .ref 146)] [.ref 147] w _
  refine wp_g 1 (pc1 := 32) (lv1 := [(0, .ref 146)]) (st1 := [.ref 146, .ref 147]) (w1 := w) rfl ?_
  refine wx_gi (kf := 111) (ln := 3) (ci := 12) (b := 8) (zz := 0) (x := 146) (by decide +kernel) h (hS _ _ sm_146) rfl ?_
  show wp _ 168 35 [(0, .ref 146)] [.int (Int32.ofInt (s 146 8)), .ref 147] w _
  obtain ⟨i1, e2, hx⟩ := bd hx
  refine wx_rb (x := 147) (n := 400) (ln := 1) (a := 0) (b := 0) (zz := 0) (by decide +kernel) h (hS _ _ sm_147) e2 ?_
  show wp _ 168 36 [(0, .ref 146)] [.int (Int32.ofInt (s 147 i1))] w _
  refine wp_g 1 (pc1 := 38) (lv1 := [(0, .ref 146)]) (st1 := [.int (Int32.ofInt 43), .int (Int32.ofInt (s 147 i1))]) (w1 := w) rfl ?_
  refine wx_ne (oo := 7) (ln := 3) (a := 45) (b := 0) (zz := 0) (by decide +kernel) (fun h3 => ?_) (fun h3 => ?_)
  · have hx := ite_f h3 hx
    refine wp_g 1 (pc1 := 46) (lv1 := [(0, .ref 146)]) (st1 := [.int (Int32.ofInt 3)]) (w1 := w) rfl ?_
    exact xm_sum_b9_j46_ok hS h hx kn kc
  · have hx := ite_t h3 hx
    refine wp_g 2 (pc1 := 46) (lv1 := [(0, .ref 146)]) (st1 := [.int (Int32.ofInt 2)]) (w1 := w) rfl ?_
    exact xm_sum_b9_j46_ok hS h hx kn kc
noncomputable def xm_sum_b9 (s : Hp) : Option (Hp ⊕ (Hp ⊕ (Int × Hp))) :=
  (xm_see s).bind fun o1 => if w32 o1.1 = w32 43 then xm_sum_b9_j27 o1.2 else (xm_see o1.2).bind fun o6 => if w32 o6.1 = w32 45 then xm_sum_b9_j27 o6.2 else some (.inr (.inl o6.2))
set_option maxRecDepth 100000 in
theorem xm_sum_b9_ok {d : Nat} {P : Option Value → pm_H → Prop} {w : pm_H} {sh : Shp} {w0 : pm_H} {s : Hp} (hS : StM sh) (h : Rw sh w0 s w) {o : (Hp ⊕ (Hp ⊕ (Int × Hp)))} (hx : xm_sum_b9 s = some o) (kn : ∀ (q : Hp) w1, o = .inl q → Rw sh w0 q w1 → wp (d + 5) 168 9 [(0, .ref 146)] [] w1 P) (kc : ∀ (r : (Hp ⊕ (Int × Hp))), o = .inr r → ((∀ q1 w1, r = .inl q1 → Rw sh w0 q1 w1 → wp (d + 5) 168 75 [(0, .ref 146)] [] w1 P) ∧ (∀ v1 w1, r = .inr v1 → Rw sh w0 v1.2 w1 → P (some (.int (Int32.ofInt v1.1))) w1))) : wp (d + 5) 168 9 [(0, .ref 146)] [] w P := by
  unfold xm_sum_b9 at hx
  refine wp_g 1 (pc1 := 10) (lv1 := [(0, .ref 146)]) (st1 := [.ref 146]) (w1 := w) rfl ?_
  obtain ⟨o1, e2, hx⟩ := bd hx
  refine wp_cl [.ref 146] [] (i := .invokevirtual 114) (ln := 3) (a := 153) (b := 0) (z := 0) (by decide +kernel) rfl rfl (by decide) rfl (show (1 : Nat) = pm_na 153 by decide +kernel) (Nat.le_of_ble_eq_true rfl) (show (1 : Nat) ≤ pm_n 153 by decide +kernel) (rcv_x 12 h (hS _ _ sm_146) (by decide +kernel)) (xm_see_ok (d := d + 4) hS h e2 (fun w3 h4 => ?_))
  show wp _ 168 13 [(0, .ref 146)] [.int (Int32.ofInt o1.1)] w3 _
  refine wp_g 1 (pc1 := 15) (lv1 := [(0, .ref 146)]) (st1 := [.int (Int32.ofInt 43), .int (Int32.ofInt o1.1)]) (w1 := w3) rfl ?_
  refine wx_eq (oo := 12) (ln := 3) (a := 27) (b := 0) (zz := 0) (by decide +kernel) (fun h5 => ?_) (fun h5 => ?_)
  · have hx := ite_t h5 hx
    exact xm_sum_b9_j27_ok hS h4 hx kn kc
  · have hx := ite_f h5 hx
    refine wp_g 1 (pc1 := 19) (lv1 := [(0, .ref 146)]) (st1 := [.ref 146]) (w1 := w3) rfl ?_
    obtain ⟨o6, e7, hx⟩ := bd hx
    refine wp_cl [.ref 146] [] (i := .invokevirtual 114) (ln := 3) (a := 153) (b := 0) (z := 0) (by decide +kernel) rfl rfl (by decide) rfl (show (1 : Nat) = pm_na 153 by decide +kernel) (Nat.le_of_ble_eq_true rfl) (show (1 : Nat) ≤ pm_n 153 by decide +kernel) (rcv_x 12 h4 (hS _ _ sm_146) (by decide +kernel)) (xm_see_ok (d := d + 4) hS h4 e7 (fun w8 h9 => ?_))
    show wp _ 168 22 [(0, .ref 146)] [.int (Int32.ofInt o6.1)] w8 _
    refine wp_g 1 (pc1 := 24) (lv1 := [(0, .ref 146)]) (st1 := [.int (Int32.ofInt 45), .int (Int32.ofInt o6.1)]) (w1 := w8) rfl ?_
    refine wx_ne (oo := 51) (ln := 3) (a := 75) (b := 0) (zz := 0) (by decide +kernel) (fun h10 => ?_) (fun h10 => ?_)
    · have hx := ite_f h10 hx
      cases hx
      exact (kc _ rfl).1 _ _ rfl h9
    · have hx := ite_t h10 hx
      exact xm_sum_b9_j27_ok hS h9 hx kn kc
/-- FoldDeedsModel.sum ()Z -/
noncomputable def xm_sum (s : Hp) : Option (Int × Hp) :=
  (xm_term s).bind fun o1 => if w32 o1.1 = 0 then some (0, o1.2) else (lp (fun (q : Hp) => xm_sum_b9 q) o1.2).bind fun q6 => q6.elim (fun q10 => some (1, q10)) (fun r => some r)
set_option maxRecDepth 100000 in
theorem xm_sum_ok {d : Nat} {P : Option Value → pm_H → Prop} {w : pm_H} {sh : Shp} {w0 : pm_H} {s : Hp} (hS : StM sh) (h : Rw sh w0 s w) {o : Int × Hp} (hx : xm_sum s = some o) (kr : ∀ w1, Rw sh w0 o.2 w1 → P (some (.int (Int32.ofInt o.1))) w1) : wp (d + 5) 168 0 (lv_args 0 [.ref 146]) [] w P := by
  show wp _ 168 0 [(0, .ref 146)] [] w _
  unfold xm_sum at hx
  refine wp_g 1 (pc1 := 1) (lv1 := [(0, .ref 146)]) (st1 := [.ref 146]) (w1 := w) rfl ?_
  obtain ⟨o1, e2, hx⟩ := bd hx
  refine wp_cl [.ref 146] [] (i := .invokevirtual 199) (ln := 3) (a := 167) (b := 0) (z := 0) (by decide +kernel) rfl rfl (by decide) rfl (show (1 : Nat) = pm_na 167 by decide +kernel) (Nat.le_of_ble_eq_true rfl) (show (1 : Nat) ≤ pm_n 167 by decide +kernel) (rcv_x 12 h (hS _ _ sm_146) (by decide +kernel)) (xm_term_ok (d := d) hS h e2 (fun w3 h4 => ?_))
  show wp _ 168 4 [(0, .ref 146)] [.int (Int32.ofInt o1.1)] w3 _
  refine wz_ne (oo := 5) (ln := 3) (a := 9) (b := 0) (zz := 0) (by decide +kernel) (fun h5 => ?_) (fun h5 => ?_)
  · have hx := ite_f h5 hx
    obtain ⟨q6, e7, hx⟩ := bd hx
    refine wp_lp (σ := Hp) (ρ := (Hp ⊕ (Int × Hp))) (B := fun q => xm_sum_b9 q) (R := fun q w' => Rw sh w0 q w') (C := fun r => (∀ q1 w1, r = .inl q1 → Rw sh w0 q1 w1 → wp (d + 5) 168 75 [(0, .ref 146)] [] w1 P) ∧ (∀ v1 w1, r = .inr v1 → Rw sh w0 v1.2 w1 → P (some (.int (Int32.ofInt v1.1))) w1)) (lv := fun q => [(0, .ref 146)]) (hd := 9) (fun q w' o hR hb kn kc => xm_sum_b9_ok hS hR hb kn kc) _ _ _ e7 h4 ?_
    refine ⟨?_, fun v11 w1 hs h1 => by subst hs; cases (se_r hx); exact kr _ h1⟩
    intro q10 w8 hs h9
    subst hs
    replace hx := se_l hx
    show wp _ 168 75 [(0, .ref 146)] [] w8 _
    refine wp_g 1 (pc1 := 76) (lv1 := [(0, .ref 146)]) (st1 := [.int (Int32.ofInt 1)]) (w1 := w8) rfl ?_
    refine wp_rt (i := .ireturn) (r := some (.int (Int32.ofInt 1))) (ln := 1) (a := 0) (b := 0) (z := 0) (by decide +kernel) rfl (ret_b (by decide +kernel) (Or.inr rfl)) ?_
    cases hx
    exact kr _ h9
  · have hx := ite_t h5 hx
    refine wp_g 1 (pc1 := 8) (lv1 := [(0, .ref 146)]) (st1 := [.int (Int32.ofInt 0)]) (w1 := w3) rfl ?_
    refine wp_rt (i := .ireturn) (r := some (.int (Int32.ofInt 0))) (ln := 1) (a := 0) (b := 0) (z := 0) (by decide +kernel) rfl (ret_b (by decide +kernel) (Or.inl rfl)) ?_
    cases hx
    exact kr _ h4
noncomputable def xm_compare_j152 (s : Hp) (k0 : Int) : Option (Int × Hp) :=
  (xm_sum s).bind fun o1 => if w32 o1.1 = 0 then some (0, o1.2) else (xm_puts o1.2 (6 + k0) 0).bind fun o6 => some (1, o6)
set_option maxRecDepth 100000 in
theorem xm_compare_j152_ok {d : Nat} {P : Option Value → pm_H → Prop} {w : pm_H} {sh : Shp} {w0 : pm_H} {s : Hp} (hS : StM sh) {k0 : Int} (h : Rw sh w0 s w) {o : (Int × Hp)} (hx : xm_compare_j152 s k0 = some o) (kr : ∀ w1, Rw sh w0 o.2 w1 → P (some (.int (Int32.ofInt o.1))) w1) : wp (d + 6) 169 152 [(0, .ref 146)] [.int (Int32.ofInt k0)] w P := by
  unfold xm_compare_j152 at hx
  refine wp_g 2 (pc1 := 155) (lv1 := [(4, .int (Int32.ofInt k0)), (0, .ref 146)]) (st1 := [.ref 146]) (w1 := w) rfl ?_
  obtain ⟨o1, e2, hx⟩ := bd hx
  refine wp_cl [.ref 146] [] (i := .invokevirtual 202) (ln := 3) (a := 168) (b := 0) (z := 0) (by decide +kernel) rfl rfl (by decide) rfl (show (1 : Nat) = pm_na 168 by decide +kernel) (Nat.le_of_ble_eq_true rfl) (show (1 : Nat) ≤ pm_n 168 by decide +kernel) (rcv_x 12 h (hS _ _ sm_146) (by decide +kernel)) (xm_sum_ok (d := d) hS h e2 (fun w3 h4 => ?_))
  show wp _ 169 158 [(4, .int (Int32.ofInt k0)), (0, .ref 146)] [.int (Int32.ofInt o1.1)] w3 _
  refine wz_ne (oo := 5) (ln := 3) (a := 163) (b := 0) (zz := 0) (by decide +kernel) (fun h5 => ?_) (fun h5 => ?_)
  · have hx := ite_f h5 hx
    refine wp_g 5 (pc1 := 170) (lv1 := [(4, .int (Int32.ofInt k0)), (0, .ref 146)]) (st1 := [.int (Int32.ofInt 0), .int (Int32.ofInt (6 + k0)), .ref 146]) (w1 := w3) (by simp only [Int32.ofInt_add, Int32.ofInt_sub, Int32.ofInt_mul, Int32.ofInt_neg, p_and, p_or, p_xor, p_shl, p_shr, p_usr, p_w8, p_c16, p_lI, q_and, q_or, q_shl, q_shr, q_w32, Int64.ofInt_add, Int64.ofInt_sub, Int64.ofInt_mul, p_mx, p_mn, q_mx, q_mn]; rfl) ?_
    obtain ⟨o6, e7, hx⟩ := bd hx
    refine wp_cl [.ref 146, .int (Int32.ofInt (6 + k0)), .int (Int32.ofInt 0)] [] (i := .invokevirtual 181) (ln := 3) (a := 161) (b := 0) (z := 0) (by decide +kernel) rfl rfl (by decide) rfl (show (3 : Nat) = pm_na 161 by decide +kernel) (Nat.le_of_ble_eq_true rfl) (show (3 : Nat) ≤ pm_n 161 by decide +kernel) (rcv_x 12 h4 (hS _ _ sm_146) (by decide +kernel)) (xm_puts_ok (d := d + 5) hS h4 e7 (fun w8 h9 => ?_))
    show wp _ 169 173 [(4, .int (Int32.ofInt k0)), (0, .ref 146)] [] w8 _
    refine wp_g 1 (pc1 := 174) (lv1 := [(4, .int (Int32.ofInt k0)), (0, .ref 146)]) (st1 := [.int (Int32.ofInt 1)]) (w1 := w8) rfl ?_
    refine wp_rt (i := .ireturn) (r := some (.int (Int32.ofInt 1))) (ln := 1) (a := 0) (b := 0) (z := 0) (by decide +kernel) rfl (ret_b (by decide +kernel) (Or.inr rfl)) ?_
    cases hx
    exact kr _ h9
  · have hx := ite_t h5 hx
    refine wp_g 1 (pc1 := 162) (lv1 := [(4, .int (Int32.ofInt k0)), (0, .ref 146)]) (st1 := [.int (Int32.ofInt 0)]) (w1 := w3) rfl ?_
    refine wp_rt (i := .ireturn) (r := some (.int (Int32.ofInt 0))) (ln := 1) (a := 0) (b := 0) (z := 0) (by decide +kernel) rfl (ret_b (by decide +kernel) (Or.inl rfl)) ?_
    cases hx
    exact kr _ h4
noncomputable def xm_compare_j105 (s : Hp) (x1 : Int) (x2 : Int) (x3 : Int) : Option (Int × Hp) :=
  (xm_makes s x2).bind fun o1 => if w32 o1.1 = 0 then some (0, o1.2) else if w32 x1 = w32 60 then if w32 x3 = 0 then xm_compare_j152 o1.2 0 else xm_compare_j152 o1.2 1 else if w32 x1 = w32 61 then xm_compare_j152 o1.2 2 else if w32 x3 = 0 then xm_compare_j152 o1.2 4 else xm_compare_j152 o1.2 3
set_option maxRecDepth 100000 in
theorem xm_compare_j105_ok {d : Nat} {P : Option Value → pm_H → Prop} {w : pm_H} {sh : Shp} {w0 : pm_H} {s : Hp} (hS : StM sh) {x1 : Int} {x2 : Int} {x3 : Int} (h : Rw sh w0 s w) {o : (Int × Hp)} (hx : xm_compare_j105 s x1 x2 x3 = some o) (kr : ∀ w1, Rw sh w0 o.2 w1 → P (some (.int (Int32.ofInt o.1))) w1) : wp (d + 6) 169 105 [(0, .ref 146), (1, .int (Int32.ofInt x1)), (2, .int (Int32.ofInt x2)), (3, .int (Int32.ofInt x3))] [] w P := by
  unfold xm_compare_j105 at hx
  refine wp_g 2 (pc1 := 107) (lv1 := [(0, .ref 146), (1, .int (Int32.ofInt x1)), (2, .int (Int32.ofInt x2)), (3, .int (Int32.ofInt x3))]) (st1 := [.int (Int32.ofInt x2), .ref 146]) (w1 := w) rfl ?_
  obtain ⟨o1, e2, hx⟩ := bd hx
  refine wp_cl [.ref 146, .int (Int32.ofInt x2)] [] (i := .invokevirtual 189) (ln := 3) (a := 162) (b := 0) (z := 0) (by decide +kernel) rfl rfl (by decide) rfl (show (2 : Nat) = pm_na 162 by decide +kernel) (Nat.le_of_ble_eq_true rfl) (show (2 : Nat) ≤ pm_n 162 by decide +kernel) (rcv_x 12 h (hS _ _ sm_146) (by decide +kernel)) (xm_makes_ok (d := d + 4) hS h e2 (fun w3 h4 => ?_))
  show wp _ 169 110 [(0, .ref 146), (1, .int (Int32.ofInt x1)), (2, .int (Int32.ofInt x2)), (3, .int (Int32.ofInt x3))] [.int (Int32.ofInt o1.1)] w3 _
  refine wz_ne (oo := 5) (ln := 3) (a := 115) (b := 0) (zz := 0) (by decide +kernel) (fun h5 => ?_) (fun h5 => ?_)
  · have hx := ite_f h5 hx
    refine wp_g 2 (pc1 := 118) (lv1 := [(0, .ref 146), (1, .int (Int32.ofInt x1)), (2, .int (Int32.ofInt x2)), (3, .int (Int32.ofInt x3))]) (st1 := [.int (Int32.ofInt 60), .int (Int32.ofInt x1)]) (w1 := w3) rfl ?_
    refine wx_ne (oo := 15) (ln := 3) (a := 133) (b := 0) (zz := 0) (by decide +kernel) (fun h6 => ?_) (fun h6 => ?_)
    · have hx := ite_f h6 hx
      refine wp_g 2 (pc1 := 136) (lv1 := [(0, .ref 146), (1, .int (Int32.ofInt x1)), (2, .int (Int32.ofInt x2)), (3, .int (Int32.ofInt x3))]) (st1 := [.int (Int32.ofInt 61), .int (Int32.ofInt x1)]) (w1 := w3) rfl ?_
      refine wx_ne (oo := 7) (ln := 3) (a := 143) (b := 0) (zz := 0) (by decide +kernel) (fun h7 => ?_) (fun h7 => ?_)
      · have hx := ite_f h7 hx
        refine wp_g 1 (pc1 := 144) (lv1 := [(0, .ref 146), (1, .int (Int32.ofInt x1)), (2, .int (Int32.ofInt x2)), (3, .int (Int32.ofInt x3))]) (st1 := [.int (Int32.ofInt x3)]) (w1 := w3) rfl ?_
        refine wz_eq (oo := 7) (ln := 3) (a := 151) (b := 0) (zz := 0) (by decide +kernel) (fun h8 => ?_) (fun h8 => ?_)
        · have hx := ite_t h8 hx
          refine wp_g 1 (pc1 := 152) (lv1 := [(0, .ref 146), (1, .int (Int32.ofInt x1)), (2, .int (Int32.ofInt x2)), (3, .int (Int32.ofInt x3))]) (st1 := [.int (Int32.ofInt 4)]) (w1 := w3) rfl ?_
          refine wp_lv (lv1 := [(0, .ref 146)]) (lsub_p [0] rfl rfl rfl) ?_
          exact xm_compare_j152_ok hS h4 hx kr
        · have hx := ite_f h8 hx
          refine wp_g 2 (pc1 := 152) (lv1 := [(0, .ref 146), (1, .int (Int32.ofInt x1)), (2, .int (Int32.ofInt x2)), (3, .int (Int32.ofInt x3))]) (st1 := [.int (Int32.ofInt 3)]) (w1 := w3) rfl ?_
          refine wp_lv (lv1 := [(0, .ref 146)]) (lsub_p [0] rfl rfl rfl) ?_
          exact xm_compare_j152_ok hS h4 hx kr
      · have hx := ite_t h7 hx
        refine wp_g 2 (pc1 := 152) (lv1 := [(0, .ref 146), (1, .int (Int32.ofInt x1)), (2, .int (Int32.ofInt x2)), (3, .int (Int32.ofInt x3))]) (st1 := [.int (Int32.ofInt 2)]) (w1 := w3) rfl ?_
        refine wp_lv (lv1 := [(0, .ref 146)]) (lsub_p [0] rfl rfl rfl) ?_
        exact xm_compare_j152_ok hS h4 hx kr
    · have hx := ite_t h6 hx
      refine wp_g 1 (pc1 := 122) (lv1 := [(0, .ref 146), (1, .int (Int32.ofInt x1)), (2, .int (Int32.ofInt x2)), (3, .int (Int32.ofInt x3))]) (st1 := [.int (Int32.ofInt x3)]) (w1 := w3) rfl ?_
      refine wz_eq (oo := 7) (ln := 3) (a := 129) (b := 0) (zz := 0) (by decide +kernel) (fun h9 => ?_) (fun h9 => ?_)
      · have hx := ite_t h9 hx
        refine wp_g 2 (pc1 := 152) (lv1 := [(0, .ref 146), (1, .int (Int32.ofInt x1)), (2, .int (Int32.ofInt x2)), (3, .int (Int32.ofInt x3))]) (st1 := [.int (Int32.ofInt 0)]) (w1 := w3) rfl ?_
        refine wp_lv (lv1 := [(0, .ref 146)]) (lsub_p [0] rfl rfl rfl) ?_
        exact xm_compare_j152_ok hS h4 hx kr
      · have hx := ite_f h9 hx
        refine wp_g 2 (pc1 := 152) (lv1 := [(0, .ref 146), (1, .int (Int32.ofInt x1)), (2, .int (Int32.ofInt x2)), (3, .int (Int32.ofInt x3))]) (st1 := [.int (Int32.ofInt 1)]) (w1 := w3) rfl ?_
        refine wp_lv (lv1 := [(0, .ref 146)]) (lsub_p [0] rfl rfl rfl) ?_
        exact xm_compare_j152_ok hS h4 hx kr
  · have hx := ite_t h5 hx
    refine wp_g 1 (pc1 := 114) (lv1 := [(0, .ref 146), (1, .int (Int32.ofInt x1)), (2, .int (Int32.ofInt x2)), (3, .int (Int32.ofInt x3))]) (st1 := [.int (Int32.ofInt 0)]) (w1 := w3) rfl ?_
    refine wp_rt (i := .ireturn) (r := some (.int (Int32.ofInt 0))) (ln := 1) (a := 0) (b := 0) (z := 0) (by decide +kernel) rfl (ret_b (by decide +kernel) (Or.inl rfl)) ?_
    cases hx
    exact kr _ h4
noncomputable def xm_compare_j90 (s : Hp) (x1 : Int) (x2 : Int) (k0 : Int) : Option (Int × Hp) :=
  if w32 k0 = 0 then xm_compare_j105 s x1 x2 k0 else (some (uh s 146 8 ((s 146 8) + 1))).bind fun s2 => xm_compare_j105 s2 x1 x2 k0
set_option maxRecDepth 100000 in
theorem xm_compare_j90_ok {d : Nat} {P : Option Value → pm_H → Prop} {w : pm_H} {sh : Shp} {w0 : pm_H} {s : Hp} (hS : StM sh) {x1 : Int} {x2 : Int} {k0 : Int} (h : Rw sh w0 s w) {o : (Int × Hp)} (hx : xm_compare_j90 s x1 x2 k0 = some o) (kr : ∀ w1, Rw sh w0 o.2 w1 → P (some (.int (Int32.ofInt o.1))) w1) : wp (d + 6) 169 90 [(0, .ref 146), (1, .int (Int32.ofInt x1)), (2, .int (Int32.ofInt x2))] [.int (Int32.ofInt k0)] w P := by
  unfold xm_compare_j90 at hx
  refine wp_g 2 (pc1 := 92) (lv1 := [(3, .int (Int32.ofInt k0)), (0, .ref 146), (1, .int (Int32.ofInt x1)), (2, .int (Int32.ofInt x2))]) (st1 := [.int (Int32.ofInt k0)]) (w1 := w) rfl ?_
  refine wz_eq (oo := 13) (ln := 3) (a := 105) (b := 0) (zz := 0) (by decide +kernel) (fun h1 => ?_) (fun h1 => ?_)
  · have hx := ite_t h1 hx
    refine wp_lv (lv1 := [(0, .ref 146), (1, .int (Int32.ofInt x1)), (2, .int (Int32.ofInt x2)), (3, .int (Int32.ofInt k0))]) (lsub_p [1, 2, 3, 0] rfl rfl rfl) ?_
    exact xm_compare_j105_ok hS h hx kr
  · have hx := ite_f h1 hx
    refine wp_g 2 (pc1 := 97) (lv1 := [(3, .int (Int32.ofInt k0)), (0, .ref 146), (1, .int (Int32.ofInt x1)), (2, .int (Int32.ofInt x2))]) (st1 := [.ref 146, .ref 146]) (w1 := w) rfl ?_
    refine wx_gi (kf := 111) (ln := 3) (ci := 12) (b := 8) (zz := 0) (x := 146) (by decide +kernel) h (hS _ _ sm_146) rfl ?_
    show wp _ 169 100 [(3, .int (Int32.ofInt k0)), (0, .ref 146), (1, .int (Int32.ofInt x1)), (2, .int (Int32.ofInt x2))] [.int (Int32.ofInt (s 146 8)), .ref 146] w _
    refine wp_g 2 (pc1 := 102) (lv1 := [(3, .int (Int32.ofInt k0)), (0, .ref 146), (1, .int (Int32.ofInt x1)), (2, .int (Int32.ofInt x2))]) (st1 := [.int (Int32.ofInt ((s 146 8) + 1)), .ref 146]) (w1 := w) (by simp only [Int32.ofInt_add, Int32.ofInt_sub, Int32.ofInt_mul, Int32.ofInt_neg, p_and, p_or, p_xor, p_shl, p_shr, p_usr, p_w8, p_c16, p_lI, q_and, q_or, q_shl, q_shr, q_w32, Int64.ofInt_add, Int64.ofInt_sub, Int64.ofInt_mul, p_mx, p_mn, q_mx, q_mn]; rfl) ?_
    obtain ⟨s2, e3, hx⟩ := bd hx
    refine wx_pi (kf := 111) (ln := 3) (ci := 12) (b := 8) (zz := 0) (x := 146) (by decide +kernel) h (hS _ _ sm_146) rfl (by decide +kernel) e3 (fun w4 h5 => ?_)
    refine wp_lv (lv1 := [(0, .ref 146), (1, .int (Int32.ofInt x1)), (2, .int (Int32.ofInt x2)), (3, .int (Int32.ofInt k0))]) (lsub_p [1, 2, 3, 0] rfl rfl rfl) ?_
    exact xm_compare_j105_ok hS h5 hx kr
noncomputable def xm_compare_j44 (s : Hp) (x1 : Int) (x2 : Int) : Option (Int × Hp) :=
  (some (uh s 146 8 ((s 146 8) + 1))).bind fun s1 => if w32 x1 = w32 61 then xm_compare_j90 s1 x1 x2 0 else if w32 (s1 146 8) < w32 (s1 146 1) then (ix 400 (s1 146 8)).bind fun i7 => if w32 (s1 147 i7) = w32 61 then xm_compare_j90 s1 x1 x2 1 else xm_compare_j90 s1 x1 x2 0 else xm_compare_j90 s1 x1 x2 0
set_option maxRecDepth 100000 in
theorem xm_compare_j44_ok {d : Nat} {P : Option Value → pm_H → Prop} {w : pm_H} {sh : Shp} {w0 : pm_H} {s : Hp} (hS : StM sh) {x1 : Int} {x2 : Int} (h : Rw sh w0 s w) {o : (Int × Hp)} (hx : xm_compare_j44 s x1 x2 = some o) (kr : ∀ w1, Rw sh w0 o.2 w1 → P (some (.int (Int32.ofInt o.1))) w1) : wp (d + 6) 169 44 [(0, .ref 146), (1, .int (Int32.ofInt x1)), (2, .int (Int32.ofInt x2))] [] w P := by
  unfold xm_compare_j44 at hx
  refine wp_g 2 (pc1 := 46) (lv1 := [(0, .ref 146), (1, .int (Int32.ofInt x1)), (2, .int (Int32.ofInt x2))]) (st1 := [.ref 146, .ref 146]) (w1 := w) rfl ?_
  refine wx_gi (kf := 111) (ln := 3) (ci := 12) (b := 8) (zz := 0) (x := 146) (by decide +kernel) h (hS _ _ sm_146) rfl ?_
  show wp _ 169 49 [(0, .ref 146), (1, .int (Int32.ofInt x1)), (2, .int (Int32.ofInt x2))] [.int (Int32.ofInt (s 146 8)), .ref 146] w _
  refine wp_g 2 (pc1 := 51) (lv1 := [(0, .ref 146), (1, .int (Int32.ofInt x1)), (2, .int (Int32.ofInt x2))]) (st1 := [.int (Int32.ofInt ((s 146 8) + 1)), .ref 146]) (w1 := w) (by simp only [Int32.ofInt_add, Int32.ofInt_sub, Int32.ofInt_mul, Int32.ofInt_neg, p_and, p_or, p_xor, p_shl, p_shr, p_usr, p_w8, p_c16, p_lI, q_and, q_or, q_shl, q_shr, q_w32, Int64.ofInt_add, Int64.ofInt_sub, Int64.ofInt_mul, p_mx, p_mn, q_mx, q_mn]; rfl) ?_
  obtain ⟨s1, e2, hx⟩ := bd hx
  refine wx_pi (kf := 111) (ln := 3) (ci := 12) (b := 8) (zz := 0) (x := 146) (by decide +kernel) h (hS _ _ sm_146) rfl (by decide +kernel) e2 (fun w3 h4 => ?_)
  refine wp_g 2 (pc1 := 57) (lv1 := [(0, .ref 146), (1, .int (Int32.ofInt x1)), (2, .int (Int32.ofInt x2))]) (st1 := [.int (Int32.ofInt 61), .int (Int32.ofInt x1)]) (w1 := w3) rfl ?_
  refine wx_eq (oo := 32) (ln := 3) (a := 89) (b := 0) (zz := 0) (by decide +kernel) (fun h5 => ?_) (fun h5 => ?_)
  · have hx := ite_t h5 hx
    refine wp_g 1 (pc1 := 90) (lv1 := [(0, .ref 146), (1, .int (Int32.ofInt x1)), (2, .int (Int32.ofInt x2))]) (st1 := [.int (Int32.ofInt 0)]) (w1 := w3) rfl ?_
    exact xm_compare_j90_ok hS h4 hx kr
  · have hx := ite_f h5 hx
    refine wp_g 1 (pc1 := 61) (lv1 := [(0, .ref 146), (1, .int (Int32.ofInt x1)), (2, .int (Int32.ofInt x2))]) (st1 := [.ref 146]) (w1 := w3) rfl ?_
    refine wx_gi (kf := 111) (ln := 3) (ci := 12) (b := 8) (zz := 0) (x := 146) (by decide +kernel) h4 (hS _ _ sm_146) rfl ?_
    show wp _ 169 64 [(0, .ref 146), (1, .int (Int32.ofInt x1)), (2, .int (Int32.ofInt x2))] [.int (Int32.ofInt (s1 146 8))] w3 _
    refine wp_g 1 (pc1 := 65) (lv1 := [(0, .ref 146), (1, .int (Int32.ofInt x1)), (2, .int (Int32.ofInt x2))]) (st1 := [.ref 146, .int (Int32.ofInt (s1 146 8))]) (w1 := w3) rfl ?_
    refine wx_gi (kf := 101) (ln := 3) (ci := 12) (b := 1) (zz := 0) (x := 146) (by decide +kernel) h4 (hS _ _ sm_146) rfl ?_
    show wp _ 169 68 [(0, .ref 146), (1, .int (Int32.ofInt x1)), (2, .int (Int32.ofInt x2))] [.int (Int32.ofInt (s1 146 1)), .int (Int32.ofInt (s1 146 8))] w3 _
    refine wx_ge (oo := 21) (ln := 3) (a := 89) (b := 0) (zz := 0) (by decide +kernel) (fun h6 => ?_) (fun h6 => ?_)
    · have hx := ite_f h6 hx
      refine wp_g 1 (pc1 := 90) (lv1 := [(0, .ref 146), (1, .int (Int32.ofInt x1)), (2, .int (Int32.ofInt x2))]) (st1 := [.int (Int32.ofInt 0)]) (w1 := w3) rfl ?_
      exact xm_compare_j90_ok hS h4 hx kr
    · have hx := ite_t h6 hx
      refine wp_g 1 (pc1 := 72) (lv1 := [(0, .ref 146), (1, .int (Int32.ofInt x1)), (2, .int (Int32.ofInt x2))]) (st1 := [.ref 146]) (w1 := w3) rfl ?_
      refine wx_gr (o := 1) (kf := 7) (ln := 3) (ci := 12) (b := 0) (zz := 0) (x := 146) (by decide +kernel) h4 (hS _ _ sm_146) rfl ?_
      show wp _ 169 75 [(0, .ref 146), (1, .int (Int32.ofInt x1)), (2, .int (Int32.ofInt x2))] [.ref 147] w3 _
      refine wp_g 1 (pc1 := 76) (lv1 := [(0, .ref 146), (1, .int (Int32.ofInt x1)), (2, .int (Int32.ofInt x2))]) (st1 := [.ref 146, .ref 147]) (w1 := w3) rfl ?_
      refine wx_gi (kf := 111) (ln := 3) (ci := 12) (b := 8) (zz := 0) (x := 146) (by decide +kernel) h4 (hS _ _ sm_146) rfl ?_
      show wp _ 169 79 [(0, .ref 146), (1, .int (Int32.ofInt x1)), (2, .int (Int32.ofInt x2))] [.int (Int32.ofInt (s1 146 8)), .ref 147] w3 _
      obtain ⟨i7, e8, hx⟩ := bd hx
      refine wx_rb (x := 147) (n := 400) (ln := 1) (a := 0) (b := 0) (zz := 0) (by decide +kernel) h4 (hS _ _ sm_147) e8 ?_
      show wp _ 169 80 [(0, .ref 146), (1, .int (Int32.ofInt x1)), (2, .int (Int32.ofInt x2))] [.int (Int32.ofInt (s1 147 i7))] w3 _
      refine wp_g 1 (pc1 := 82) (lv1 := [(0, .ref 146), (1, .int (Int32.ofInt x1)), (2, .int (Int32.ofInt x2))]) (st1 := [.int (Int32.ofInt 61), .int (Int32.ofInt (s1 147 i7))]) (w1 := w3) rfl ?_
      refine wx_ne (oo := 7) (ln := 3) (a := 89) (b := 0) (zz := 0) (by decide +kernel) (fun h9 => ?_) (fun h9 => ?_)
      · have hx := ite_f h9 hx
        refine wp_g 1 (pc1 := 90) (lv1 := [(0, .ref 146), (1, .int (Int32.ofInt x1)), (2, .int (Int32.ofInt x2))]) (st1 := [.int (Int32.ofInt 0)]) (w1 := w3) rfl ?_
        exact xm_compare_j90_ok hS h4 hx kr
      · have hx := ite_t h9 hx
        refine wp_g 2 (pc1 := 90) (lv1 := [(0, .ref 146), (1, .int (Int32.ofInt x1)), (2, .int (Int32.ofInt x2))]) (st1 := [.int (Int32.ofInt 1)]) (w1 := w3) rfl ?_
        exact xm_compare_j90_ok hS h4 hx kr
/-- FoldDeedsModel.compare ()Z -/
noncomputable def xm_compare (s : Hp) : Option (Int × Hp) :=
  (xm_sum s).bind fun o1 => if w32 o1.1 = 0 then some (0, o1.2) else (xm_see o1.2).bind fun o6 => if w32 o6.1 = w32 60 then xm_compare_j44 o6.2 o6.1 (o6.2 146 8) else if w32 o6.1 = w32 61 then xm_compare_j44 o6.2 o6.1 (o6.2 146 8) else if w32 o6.1 = w32 62 then xm_compare_j44 o6.2 o6.1 (o6.2 146 8) else (xm_fails o6.2 0 (o6.2 146 8)).bind fun o13 => if w32 o13.1 = 0 ∨ w32 o13.1 = 1 then some (o13.1, o13.2) else none
set_option maxRecDepth 100000 in
theorem xm_compare_ok {d : Nat} {P : Option Value → pm_H → Prop} {w : pm_H} {sh : Shp} {w0 : pm_H} {s : Hp} (hS : StM sh) (h : Rw sh w0 s w) {o : Int × Hp} (hx : xm_compare s = some o) (kr : ∀ w1, Rw sh w0 o.2 w1 → P (some (.int (Int32.ofInt o.1))) w1) : wp (d + 6) 169 0 (lv_args 0 [.ref 146]) [] w P := by
  show wp _ 169 0 [(0, .ref 146)] [] w _
  unfold xm_compare at hx
  refine wp_g 1 (pc1 := 1) (lv1 := [(0, .ref 146)]) (st1 := [.ref 146]) (w1 := w) rfl ?_
  obtain ⟨o1, e2, hx⟩ := bd hx
  refine wp_cl [.ref 146] [] (i := .invokevirtual 202) (ln := 3) (a := 168) (b := 0) (z := 0) (by decide +kernel) rfl rfl (by decide) rfl (show (1 : Nat) = pm_na 168 by decide +kernel) (Nat.le_of_ble_eq_true rfl) (show (1 : Nat) ≤ pm_n 168 by decide +kernel) (rcv_x 12 h (hS _ _ sm_146) (by decide +kernel)) (xm_sum_ok (d := d) hS h e2 (fun w3 h4 => ?_))
  show wp _ 169 4 [(0, .ref 146)] [.int (Int32.ofInt o1.1)] w3 _
  refine wz_ne (oo := 5) (ln := 3) (a := 9) (b := 0) (zz := 0) (by decide +kernel) (fun h5 => ?_) (fun h5 => ?_)
  · have hx := ite_f h5 hx
    refine wp_g 1 (pc1 := 10) (lv1 := [(0, .ref 146)]) (st1 := [.ref 146]) (w1 := w3) rfl ?_
    obtain ⟨o6, e7, hx⟩ := bd hx
    refine wp_cl [.ref 146] [] (i := .invokevirtual 114) (ln := 3) (a := 153) (b := 0) (z := 0) (by decide +kernel) rfl rfl (by decide) rfl (show (1 : Nat) = pm_na 153 by decide +kernel) (Nat.le_of_ble_eq_true rfl) (show (1 : Nat) ≤ pm_n 153 by decide +kernel) (rcv_x 12 h4 (hS _ _ sm_146) (by decide +kernel)) (xm_see_ok (d := d + 5) hS h4 e7 (fun w8 h9 => ?_))
    show wp _ 169 13 [(0, .ref 146)] [.int (Int32.ofInt o6.1)] w8 _
    refine wp_g 2 (pc1 := 15) (lv1 := [(1, .int (Int32.ofInt o6.1)), (0, .ref 146)]) (st1 := [.ref 146]) (w1 := w8) rfl ?_
    refine wx_gi (kf := 111) (ln := 3) (ci := 12) (b := 8) (zz := 0) (x := 146) (by decide +kernel) h9 (hS _ _ sm_146) rfl ?_
    show wp _ 169 18 [(1, .int (Int32.ofInt o6.1)), (0, .ref 146)] [.int (Int32.ofInt (o6.2 146 8))] w8 _
    refine wp_g 3 (pc1 := 22) (lv1 := [(2, .int (Int32.ofInt (o6.2 146 8))), (1, .int (Int32.ofInt o6.1)), (0, .ref 146)]) (st1 := [.int (Int32.ofInt 60), .int (Int32.ofInt o6.1)]) (w1 := w8) rfl ?_
    refine wx_eq (oo := 22) (ln := 3) (a := 44) (b := 0) (zz := 0) (by decide +kernel) (fun h10 => ?_) (fun h10 => ?_)
    · have hx := ite_t h10 hx
      refine wp_lv (lv1 := [(0, .ref 146), (1, .int (Int32.ofInt o6.1)), (2, .int (Int32.ofInt (o6.2 146 8)))]) (lsub_p [2, 1, 0] rfl rfl rfl) ?_
      exact xm_compare_j44_ok hS h9 hx kr
    · have hx := ite_f h10 hx
      refine wp_g 2 (pc1 := 28) (lv1 := [(2, .int (Int32.ofInt (o6.2 146 8))), (1, .int (Int32.ofInt o6.1)), (0, .ref 146)]) (st1 := [.int (Int32.ofInt 61), .int (Int32.ofInt o6.1)]) (w1 := w8) rfl ?_
      refine wx_eq (oo := 16) (ln := 3) (a := 44) (b := 0) (zz := 0) (by decide +kernel) (fun h11 => ?_) (fun h11 => ?_)
      · have hx := ite_t h11 hx
        refine wp_lv (lv1 := [(0, .ref 146), (1, .int (Int32.ofInt o6.1)), (2, .int (Int32.ofInt (o6.2 146 8)))]) (lsub_p [2, 1, 0] rfl rfl rfl) ?_
        exact xm_compare_j44_ok hS h9 hx kr
      · have hx := ite_f h11 hx
        refine wp_g 2 (pc1 := 34) (lv1 := [(2, .int (Int32.ofInt (o6.2 146 8))), (1, .int (Int32.ofInt o6.1)), (0, .ref 146)]) (st1 := [.int (Int32.ofInt 62), .int (Int32.ofInt o6.1)]) (w1 := w8) rfl ?_
        refine wx_eq (oo := 10) (ln := 3) (a := 44) (b := 0) (zz := 0) (by decide +kernel) (fun h12 => ?_) (fun h12 => ?_)
        · have hx := ite_t h12 hx
          refine wp_lv (lv1 := [(0, .ref 146), (1, .int (Int32.ofInt o6.1)), (2, .int (Int32.ofInt (o6.2 146 8)))]) (lsub_p [2, 1, 0] rfl rfl rfl) ?_
          exact xm_compare_j44_ok hS h9 hx kr
        · have hx := ite_f h12 hx
          refine wp_g 3 (pc1 := 40) (lv1 := [(2, .int (Int32.ofInt (o6.2 146 8))), (1, .int (Int32.ofInt o6.1)), (0, .ref 146)]) (st1 := [.int (Int32.ofInt (o6.2 146 8)), .int (Int32.ofInt 0), .ref 146]) (w1 := w8) rfl ?_
          obtain ⟨o13, e14, hx⟩ := bd hx
          refine wp_cl [.ref 146, .int (Int32.ofInt 0), .int (Int32.ofInt (o6.2 146 8))] [] (i := .invokevirtual 132) (ln := 3) (a := 152) (b := 0) (z := 0) (by decide +kernel) rfl rfl (by decide) rfl (show (3 : Nat) = pm_na 152 by decide +kernel) (Nat.le_of_ble_eq_true rfl) (show (3 : Nat) ≤ pm_n 152 by decide +kernel) (rcv_x 12 h9 (hS _ _ sm_146) (by decide +kernel)) (xm_fails_ok (d := d + 5) hS h9 e14 (fun w15 h16 => ?_))
          show wp _ 169 43 [(2, .int (Int32.ofInt (o6.2 146 8))), (1, .int (Int32.ofInt o6.1)), (0, .ref 146)] [.int (Int32.ofInt o13.1)] w15 _
          obtain ⟨h17, hx⟩ := gd hx
          refine wp_rt (i := .ireturn) (r := some (.int (Int32.ofInt o13.1))) (ln := 1) (a := 0) (b := 0) (z := 0) (by decide +kernel) rfl (ret_b (by decide +kernel) (w01 h17)) ?_
          cases hx
          exact kr _ h16
  · have hx := ite_t h5 hx
    refine wp_g 1 (pc1 := 8) (lv1 := [(0, .ref 146)]) (st1 := [.int (Int32.ofInt 0)]) (w1 := w3) rfl ?_
    refine wp_rt (i := .ireturn) (r := some (.int (Int32.ofInt 0))) (ln := 1) (a := 0) (b := 0) (z := 0) (by decide +kernel) rfl (ret_b (by decide +kernel) (Or.inl rfl)) ?_
    cases hx
    exact kr _ h4
noncomputable def xm_fact_b2 (s : Hp) (x1 : Int) : Option ((Int × Hp) ⊕ ((Int × Hp) ⊕ (Int × Hp))) :=
  if w32 x1 = 0 then some (.inr (.inl (x1, s))) else (xm_see s).bind fun o2 => (xm_isWord o2.2 7237492).bind fun o6 => if w32 o6.1 = 0 then if w32 o2.1 = w32 91 then (xm_opens o6.2 91).bind fun o12 => if w32 o12.1 = 0 then some (.inr (.inr (0, o12.2))) else (some (uh o12.2 146 8 ((o12.2 146 8) + 1))).bind fun s17 => some (.inl (1, s17)) else some (.inl (0, o6.2)) else (xm_opens o6.2 11).bind fun o21 => if w32 o21.1 = 0 then some (.inr (.inr (0, o21.2))) else (xm_passWord o21.2).bind fun o26 => some (.inl (1, o26))
set_option maxRecDepth 100000 in
theorem xm_fact_b2_ok {d : Nat} {P : Option Value → pm_H → Prop} {w : pm_H} {sh : Shp} {w0 : pm_H} {s : Hp} (hS : StM sh) {x1 : Int} (h : Rw sh w0 s w) {o : ((Int × Hp) ⊕ ((Int × Hp) ⊕ (Int × Hp)))} (hx : xm_fact_b2 s x1 = some o) (kn : ∀ (q : Int × Hp) w1, o = .inl q → Rw sh w0 q.2 w1 → wp (d + 7) 170 2 [(0, .ref 146), (1, .int (Int32.ofInt q.1))] [] w1 P) (kc : ∀ (r : ((Int × Hp) ⊕ (Int × Hp))), o = .inr r → ((∀ q1 w1, r = .inl q1 → Rw sh w0 q1.2 w1 → wp (d + 7) 170 75 [(0, .ref 146), (1, .int (Int32.ofInt q1.1))] [] w1 P) ∧ (∀ v1 w1, r = .inr v1 → Rw sh w0 v1.2 w1 → P (some (.int (Int32.ofInt v1.1))) w1))) : wp (d + 7) 170 2 [(0, .ref 146), (1, .int (Int32.ofInt x1))] [] w P := by
  unfold xm_fact_b2 at hx
  refine wp_g 1 (pc1 := 3) (lv1 := [(0, .ref 146), (1, .int (Int32.ofInt x1))]) (st1 := [.int (Int32.ofInt x1)]) (w1 := w) rfl ?_
  refine wz_eq (oo := 72) (ln := 3) (a := 75) (b := 0) (zz := 0) (by decide +kernel) (fun h1 => ?_) (fun h1 => ?_)
  · have hx := ite_t h1 hx
    cases hx
    exact (kc _ rfl).1 _ _ rfl h
  · have hx := ite_f h1 hx
    refine wp_g 3 (pc1 := 9) (lv1 := [(1, .int (Int32.ofInt 0)), (0, .ref 146)]) (st1 := [.ref 146]) (w1 := w) rfl ?_
    obtain ⟨o2, e3, hx⟩ := bd hx
    refine wp_cl [.ref 146] [] (i := .invokevirtual 114) (ln := 3) (a := 153) (b := 0) (z := 0) (by decide +kernel) rfl rfl (by decide) rfl (show (1 : Nat) = pm_na 153 by decide +kernel) (Nat.le_of_ble_eq_true rfl) (show (1 : Nat) ≤ pm_n 153 by decide +kernel) (rcv_x 12 h (hS _ _ sm_146) (by decide +kernel)) (xm_see_ok (d := d + 6) hS h e3 (fun w4 h5 => ?_))
    show wp _ 170 12 [(1, .int (Int32.ofInt 0)), (0, .ref 146)] [.int (Int32.ofInt o2.1)] w4 _
    refine wp_g 3 (pc1 := 17) (lv1 := [(2, .int (Int32.ofInt o2.1)), (1, .int (Int32.ofInt 0)), (0, .ref 146)]) (st1 := [.long (Int64.ofInt 7237492), .ref 146]) (w1 := w4) rfl ?_
    obtain ⟨o6, e7, hx⟩ := bd hx
    refine wp_cl [.ref 146, .long (Int64.ofInt 7237492)] [] (i := .invokevirtual 122) (ln := 3) (a := 156) (b := 0) (z := 0) (by decide +kernel) rfl rfl (by decide) rfl (show (2 : Nat) = pm_na 156 by decide +kernel) (Nat.le_of_ble_eq_true rfl) (show (3 : Nat) ≤ pm_n 156 by decide +kernel) (rcv_x 12 h5 (hS _ _ sm_146) (by decide +kernel)) (xm_isWord_ok (d := d + 5) hS h5 e7 (fun w8 h9 => ?_))
    show wp _ 170 20 [(2, .int (Int32.ofInt o2.1)), (1, .int (Int32.ofInt 0)), (0, .ref 146)] [.int (Int32.ofInt o6.1)] w8 _
    refine wz_eq (oo := 23) (ln := 3) (a := 43) (b := 0) (zz := 0) (by decide +kernel) (fun h10 => ?_) (fun h10 => ?_)
    · have hx := ite_t h10 hx
      refine wp_g 2 (pc1 := 46) (lv1 := [(2, .int (Int32.ofInt o2.1)), (1, .int (Int32.ofInt 0)), (0, .ref 146)]) (st1 := [.int (Int32.ofInt 91), .int (Int32.ofInt o2.1)]) (w1 := w8) rfl ?_
      refine wx_ne (oo := 26) (ln := 3) (a := 72) (b := 0) (zz := 0) (by decide +kernel) (fun h11 => ?_) (fun h11 => ?_)
      · have hx := ite_f h11 hx
        refine wp_g 1 (pc1 := 2) (lv1 := [(2, .int (Int32.ofInt o2.1)), (1, .int (Int32.ofInt 0)), (0, .ref 146)]) (st1 := []) (w1 := w8) rfl ?_
        refine wp_lv (lv1 := [(0, .ref 146), (1, .int (Int32.ofInt 0))]) (lsub_p [2, 1] rfl rfl rfl) ?_
        cases hx
        exact kn _ _ rfl h9
      · have hx := ite_t h11 hx
        refine wp_g 2 (pc1 := 52) (lv1 := [(2, .int (Int32.ofInt o2.1)), (1, .int (Int32.ofInt 0)), (0, .ref 146)]) (st1 := [.int (Int32.ofInt 91), .ref 146]) (w1 := w8) rfl ?_
        obtain ⟨o12, e13, hx⟩ := bd hx
        refine wp_cl [.ref 146, .int (Int32.ofInt 91)] [] (i := .invokevirtual 207) (ln := 3) (a := 163) (b := 0) (z := 0) (by decide +kernel) rfl rfl (by decide) rfl (show (2 : Nat) = pm_na 163 by decide +kernel) (Nat.le_of_ble_eq_true rfl) (show (2 : Nat) ≤ pm_n 163 by decide +kernel) (rcv_x 12 h9 (hS _ _ sm_146) (by decide +kernel)) (xm_opens_ok (d := d + 5) hS h9 e13 (fun w14 h15 => ?_))
        show wp _ 170 55 [(2, .int (Int32.ofInt o2.1)), (1, .int (Int32.ofInt 0)), (0, .ref 146)] [.int (Int32.ofInt o12.1)] w14 _
        refine wz_ne (oo := 5) (ln := 3) (a := 60) (b := 0) (zz := 0) (by decide +kernel) (fun h16 => ?_) (fun h16 => ?_)
        · have hx := ite_f h16 hx
          refine wp_g 2 (pc1 := 62) (lv1 := [(2, .int (Int32.ofInt o2.1)), (1, .int (Int32.ofInt 0)), (0, .ref 146)]) (st1 := [.ref 146, .ref 146]) (w1 := w14) rfl ?_
          refine wx_gi (kf := 111) (ln := 3) (ci := 12) (b := 8) (zz := 0) (x := 146) (by decide +kernel) h15 (hS _ _ sm_146) rfl ?_
          show wp _ 170 65 [(2, .int (Int32.ofInt o2.1)), (1, .int (Int32.ofInt 0)), (0, .ref 146)] [.int (Int32.ofInt (o12.2 146 8)), .ref 146] w14 _
          refine wp_g 2 (pc1 := 67) (lv1 := [(2, .int (Int32.ofInt o2.1)), (1, .int (Int32.ofInt 0)), (0, .ref 146)]) (st1 := [.int (Int32.ofInt ((o12.2 146 8) + 1)), .ref 146]) (w1 := w14) (by simp only [Int32.ofInt_add, Int32.ofInt_sub, Int32.ofInt_mul, Int32.ofInt_neg, p_and, p_or, p_xor, p_shl, p_shr, p_usr, p_w8, p_c16, p_lI, q_and, q_or, q_shl, q_shr, q_w32, Int64.ofInt_add, Int64.ofInt_sub, Int64.ofInt_mul, p_mx, p_mn, q_mx, q_mn]; rfl) ?_
          obtain ⟨s17, e18, hx⟩ := bd hx
          refine wx_pi (kf := 111) (ln := 3) (ci := 12) (b := 8) (zz := 0) (x := 146) (by decide +kernel) h15 (hS _ _ sm_146) rfl (by decide +kernel) e18 (fun w19 h20 => ?_)
          refine wp_g 3 (pc1 := 2) (lv1 := [(1, .int (Int32.ofInt 1)), (2, .int (Int32.ofInt o2.1)), (0, .ref 146)]) (st1 := []) (w1 := w19) rfl ?_
          refine wp_lv (lv1 := [(0, .ref 146), (1, .int (Int32.ofInt 1))]) (lsub_p [2, 0] rfl rfl rfl) ?_
          cases hx
          exact kn _ _ rfl h20
        · have hx := ite_t h16 hx
          refine wp_g 1 (pc1 := 59) (lv1 := [(2, .int (Int32.ofInt o2.1)), (1, .int (Int32.ofInt 0)), (0, .ref 146)]) (st1 := [.int (Int32.ofInt 0)]) (w1 := w14) rfl ?_
          refine wp_rt (i := .ireturn) (r := some (.int (Int32.ofInt 0))) (ln := 1) (a := 0) (b := 0) (z := 0) (by decide +kernel) rfl (ret_b (by decide +kernel) (Or.inl rfl)) ?_
          cases hx
          exact (kc _ rfl).2 _ _ rfl h15
    · have hx := ite_f h10 hx
      refine wp_g 2 (pc1 := 26) (lv1 := [(2, .int (Int32.ofInt o2.1)), (1, .int (Int32.ofInt 0)), (0, .ref 146)]) (st1 := [.int (Int32.ofInt 11), .ref 146]) (w1 := w8) rfl ?_
      obtain ⟨o21, e22, hx⟩ := bd hx
      refine wp_cl [.ref 146, .int (Int32.ofInt 11)] [] (i := .invokevirtual 207) (ln := 3) (a := 163) (b := 0) (z := 0) (by decide +kernel) rfl rfl (by decide) rfl (show (2 : Nat) = pm_na 163 by decide +kernel) (Nat.le_of_ble_eq_true rfl) (show (2 : Nat) ≤ pm_n 163 by decide +kernel) (rcv_x 12 h9 (hS _ _ sm_146) (by decide +kernel)) (xm_opens_ok (d := d + 5) hS h9 e22 (fun w23 h24 => ?_))
      show wp _ 170 29 [(2, .int (Int32.ofInt o2.1)), (1, .int (Int32.ofInt 0)), (0, .ref 146)] [.int (Int32.ofInt o21.1)] w23 _
      refine wz_ne (oo := 5) (ln := 3) (a := 34) (b := 0) (zz := 0) (by decide +kernel) (fun h25 => ?_) (fun h25 => ?_)
      · have hx := ite_f h25 hx
        refine wp_g 1 (pc1 := 35) (lv1 := [(2, .int (Int32.ofInt o2.1)), (1, .int (Int32.ofInt 0)), (0, .ref 146)]) (st1 := [.ref 146]) (w1 := w23) rfl ?_
        obtain ⟨o26, e27, hx⟩ := bd hx
        refine wp_cl [.ref 146] [] (i := .invokevirtual 126) (ln := 3) (a := 157) (b := 0) (z := 0) (by decide +kernel) rfl rfl (by decide) rfl (show (1 : Nat) = pm_na 157 by decide +kernel) (Nat.le_of_ble_eq_true rfl) (show (1 : Nat) ≤ pm_n 157 by decide +kernel) (rcv_x 12 h24 (hS _ _ sm_146) (by decide +kernel)) (xm_passWord_ok (d := d + 5) hS h24 e27 (fun w28 h29 => ?_))
        show wp _ 170 38 [(2, .int (Int32.ofInt o2.1)), (1, .int (Int32.ofInt 0)), (0, .ref 146)] [] w28 _
        refine wp_g 4 (pc1 := 2) (lv1 := [(1, .int (Int32.ofInt 1)), (2, .int (Int32.ofInt o2.1)), (0, .ref 146)]) (st1 := []) (w1 := w28) rfl ?_
        refine wp_lv (lv1 := [(0, .ref 146), (1, .int (Int32.ofInt 1))]) (lsub_p [2, 0] rfl rfl rfl) ?_
        cases hx
        exact kn _ _ rfl h29
      · have hx := ite_t h25 hx
        refine wp_g 1 (pc1 := 33) (lv1 := [(2, .int (Int32.ofInt o2.1)), (1, .int (Int32.ofInt 0)), (0, .ref 146)]) (st1 := [.int (Int32.ofInt 0)]) (w1 := w23) rfl ?_
        refine wp_rt (i := .ireturn) (r := some (.int (Int32.ofInt 0))) (ln := 1) (a := 0) (b := 0) (z := 0) (by decide +kernel) rfl (ret_b (by decide +kernel) (Or.inl rfl)) ?_
        cases hx
        exact (kc _ rfl).2 _ _ rfl h24
/-- FoldDeedsModel.fact ()Z -/
noncomputable def xm_fact (s : Hp) : Option (Int × Hp) :=
  (lp (fun (q : Int × Hp) => xm_fact_b2 q.2 q.1) (1, s)).bind fun q1 => q1.elim (fun q5 => (xm_compare q5.2).bind fun o7 => if w32 o7.1 = 0 ∨ w32 o7.1 = 1 then some (o7.1, o7.2) else none) (fun r => some r)
set_option maxRecDepth 100000 in
theorem xm_fact_ok {d : Nat} {P : Option Value → pm_H → Prop} {w : pm_H} {sh : Shp} {w0 : pm_H} {s : Hp} (hS : StM sh) (h : Rw sh w0 s w) {o : Int × Hp} (hx : xm_fact s = some o) (kr : ∀ w1, Rw sh w0 o.2 w1 → P (some (.int (Int32.ofInt o.1))) w1) : wp (d + 7) 170 0 (lv_args 0 [.ref 146]) [] w P := by
  show wp _ 170 0 [(0, .ref 146)] [] w _
  unfold xm_fact at hx
  refine wp_g 2 (pc1 := 2) (lv1 := [(1, .int (Int32.ofInt 1)), (0, .ref 146)]) (st1 := []) (w1 := w) rfl ?_
  refine wp_lv (lv1 := [(0, .ref 146), (1, .int (Int32.ofInt 1))]) (lsub_p [1, 0] rfl rfl rfl) ?_
  obtain ⟨q1, e2, hx⟩ := bd hx
  refine wp_lp (σ := Int × Hp) (ρ := ((Int × Hp) ⊕ (Int × Hp))) (B := fun q => xm_fact_b2 q.2 q.1) (R := fun q w' => Rw sh w0 q.2 w') (C := fun r => (∀ q1 w1, r = .inl q1 → Rw sh w0 q1.2 w1 → wp (d + 7) 170 75 [(0, .ref 146), (1, .int (Int32.ofInt q1.1))] [] w1 P) ∧ (∀ v1 w1, r = .inr v1 → Rw sh w0 v1.2 w1 → P (some (.int (Int32.ofInt v1.1))) w1)) (lv := fun q => [(0, .ref 146), (1, .int (Int32.ofInt q.1))]) (hd := 2) (fun q w' o hR hb kn kc => xm_fact_b2_ok hS hR hb kn kc) _ _ _ e2 h ?_
  refine ⟨?_, fun v6 w1 hs h1 => by subst hs; cases (se_r hx); exact kr _ h1⟩
  intro q5 w3 hs h4
  subst hs
  replace hx := se_l hx
  show wp _ 170 75 [(0, .ref 146), (1, .int (Int32.ofInt q5.1))] [] w3 _
  refine wp_g 1 (pc1 := 76) (lv1 := [(0, .ref 146), (1, .int (Int32.ofInt q5.1))]) (st1 := [.ref 146]) (w1 := w3) rfl ?_
  obtain ⟨o7, e8, hx⟩ := bd hx
  refine wp_cl [.ref 146] [] (i := .invokevirtual 210) (ln := 3) (a := 169) (b := 0) (z := 0) (by decide +kernel) rfl rfl (by decide) rfl (show (1 : Nat) = pm_na 169 by decide +kernel) (Nat.le_of_ble_eq_true rfl) (show (1 : Nat) ≤ pm_n 169 by decide +kernel) (rcv_x 12 h4 (hS _ _ sm_146) (by decide +kernel)) (xm_compare_ok (d := d) hS h4 e8 (fun w9 h10 => ?_))
  show wp _ 170 79 [(0, .ref 146), (1, .int (Int32.ofInt q5.1))] [.int (Int32.ofInt o7.1)] w9 _
  obtain ⟨h11, hx⟩ := gd hx
  refine wp_rt (i := .ireturn) (r := some (.int (Int32.ofInt o7.1))) (ln := 1) (a := 0) (b := 0) (z := 0) (by decide +kernel) rfl (ret_b (by decide +kernel) (w01 h11)) ?_
  cases hx
  exact kr _ h10
noncomputable def xm_isInside_b2 (s : Hp) (x1 : Int) : Option (Int ⊕ (Int ⊕ Int)) :=
  if w32 x1 < w32 (s 146 16) then (ix 400 x1).bind fun i2 => if w32 (s 153 i2) = w32 91 then some (.inr (.inr 1)) else some (.inl (x1 + 1)) else some (.inr (.inl x1))
set_option maxRecDepth 100000 in
theorem xm_isInside_b2_ok {d : Nat} {P : Option Value → pm_H → Prop} {w : pm_H} {sh : Shp} {w0 : pm_H} {s : Hp} (hS : StM sh) {x1 : Int} (h : Rw sh w0 s w) {o : (Int ⊕ (Int ⊕ Int))} (hx : xm_isInside_b2 s x1 = some o) (kn : ∀ (q : Int) w1, o = .inl q → w = w1 → wp d 171 2 [(0, .ref 146), (1, .int (Int32.ofInt q))] [] w1 P) (kc : ∀ (r : (Int ⊕ Int)), o = .inr r → ((∀ q1 w1, r = .inl q1 → w = w1 → wp d 171 29 [(0, .ref 146), (1, .int (Int32.ofInt q1))] [] w1 P) ∧ (∀ v1 w1, r = .inr v1 → w = w1 → P (some (.int (Int32.ofInt v1))) w1))) : wp d 171 2 [(0, .ref 146), (1, .int (Int32.ofInt x1))] [] w P := by
  unfold xm_isInside_b2 at hx
  refine wp_g 2 (pc1 := 4) (lv1 := [(0, .ref 146), (1, .int (Int32.ofInt x1))]) (st1 := [.ref 146, .int (Int32.ofInt x1)]) (w1 := w) rfl ?_
  refine wx_gi (kf := 174) (ln := 3) (ci := 12) (b := 16) (zz := 0) (x := 146) (by decide +kernel) h (hS _ _ sm_146) rfl ?_
  show wp _ 171 7 [(0, .ref 146), (1, .int (Int32.ofInt x1))] [.int (Int32.ofInt (s 146 16)), .int (Int32.ofInt x1)] w _
  refine wx_ge (oo := 22) (ln := 3) (a := 29) (b := 0) (zz := 0) (by decide +kernel) (fun h1 => ?_) (fun h1 => ?_)
  · have hx := ite_f h1 hx
    cases hx
    exact (kc _ rfl).1 _ _ rfl rfl
  · have hx := ite_t h1 hx
    refine wp_g 1 (pc1 := 11) (lv1 := [(0, .ref 146), (1, .int (Int32.ofInt x1))]) (st1 := [.ref 146]) (w1 := w) rfl ?_
    refine wx_gr (o := 7) (kf := 29) (ln := 3) (ci := 12) (b := 15) (zz := 0) (x := 146) (by decide +kernel) h (hS _ _ sm_146) rfl ?_
    show wp _ 171 14 [(0, .ref 146), (1, .int (Int32.ofInt x1))] [.ref 153] w _
    refine wp_g 1 (pc1 := 15) (lv1 := [(0, .ref 146), (1, .int (Int32.ofInt x1))]) (st1 := [.int (Int32.ofInt x1), .ref 153]) (w1 := w) rfl ?_
    obtain ⟨i2, e3, hx⟩ := bd hx
    refine wx_ra (x := 153) (n := 400) (ln := 1) (a := 0) (b := 0) (zz := 0) (by decide +kernel) h (hS _ _ sm_153) e3 ?_
    show wp _ 171 16 [(0, .ref 146), (1, .int (Int32.ofInt x1))] [.int (Int32.ofInt (s 153 i2))] w _
    refine wp_g 1 (pc1 := 18) (lv1 := [(0, .ref 146), (1, .int (Int32.ofInt x1))]) (st1 := [.int (Int32.ofInt 91), .int (Int32.ofInt (s 153 i2))]) (w1 := w) rfl ?_
    refine wx_ne (oo := 5) (ln := 3) (a := 23) (b := 0) (zz := 0) (by decide +kernel) (fun h4 => ?_) (fun h4 => ?_)
    · have hx := ite_f h4 hx
      refine wp_g 2 (pc1 := 2) (lv1 := [(1, .int (Int32.ofInt (x1 + 1))), (0, .ref 146)]) (st1 := []) (w1 := w) (by simp only [Int32.ofInt_add, Int32.ofInt_sub, Int32.ofInt_mul, Int32.ofInt_neg, p_and, p_or, p_xor, p_shl, p_shr, p_usr, p_w8, p_c16, p_lI, q_and, q_or, q_shl, q_shr, q_w32, Int64.ofInt_add, Int64.ofInt_sub, Int64.ofInt_mul, p_mx, p_mn, q_mx, q_mn]; rfl) ?_
      refine wp_lv (lv1 := [(0, .ref 146), (1, .int (Int32.ofInt (x1 + 1)))]) (lsub_p [1, 0] rfl rfl rfl) ?_
      cases hx
      exact kn _ _ rfl rfl
    · have hx := ite_t h4 hx
      refine wp_g 1 (pc1 := 22) (lv1 := [(0, .ref 146), (1, .int (Int32.ofInt x1))]) (st1 := [.int (Int32.ofInt 1)]) (w1 := w) rfl ?_
      refine wp_rt (i := .ireturn) (r := some (.int (Int32.ofInt 1))) (ln := 1) (a := 0) (b := 0) (z := 0) (by decide +kernel) rfl (ret_b (by decide +kernel) (Or.inr rfl)) ?_
      cases hx
      exact (kc _ rfl).2 _ _ rfl rfl
/-- FoldDeedsModel.isInside ()Z -/
noncomputable def xm_isInside (s : Hp) : Option Int :=
  (lp (fun (q : Int) => xm_isInside_b2 s q) 0).bind fun q1 => q1.elim (fun q5 => some 0) (fun r => some r)
set_option maxRecDepth 100000 in
theorem xm_isInside_ok {d : Nat} {P : Option Value → pm_H → Prop} {w : pm_H} {sh : Shp} {w0 : pm_H} {s : Hp} (hS : StM sh) (h : Rw sh w0 s w) {o : Int} (hx : xm_isInside s = some o) (kr : P (some (.int (Int32.ofInt o))) w) : wp d 171 0 (lv_args 0 [.ref 146]) [] w P := by
  show wp _ 171 0 [(0, .ref 146)] [] w _
  unfold xm_isInside at hx
  refine wp_g 2 (pc1 := 2) (lv1 := [(1, .int (Int32.ofInt 0)), (0, .ref 146)]) (st1 := []) (w1 := w) rfl ?_
  refine wp_lv (lv1 := [(0, .ref 146), (1, .int (Int32.ofInt 0))]) (lsub_p [1, 0] rfl rfl rfl) ?_
  obtain ⟨q1, e2, hx⟩ := bd hx
  refine wp_lp (σ := Int) (ρ := (Int ⊕ Int)) (B := fun q => xm_isInside_b2 s q) (R := fun q w' => w = w') (C := fun r => (∀ q1 w1, r = .inl q1 → w = w1 → wp d 171 29 [(0, .ref 146), (1, .int (Int32.ofInt q1))] [] w1 P) ∧ (∀ v1 w1, r = .inr v1 → w = w1 → P (some (.int (Int32.ofInt v1))) w1)) (lv := fun q => [(0, .ref 146), (1, .int (Int32.ofInt q))]) (hd := 2) (fun q w' o hR hb kn kc => by subst hR; exact xm_isInside_b2_ok hS h hb kn kc) _ _ _ e2 rfl ?_
  refine ⟨?_, fun v6 w1 hs h1 => by subst hs; cases (se_r hx); subst h1; exact kr⟩
  intro q5 w3 hs h4
  subst hs
  replace hx := se_l hx
  subst h4
  show wp _ 171 29 [(0, .ref 146), (1, .int (Int32.ofInt q5))] [] w _
  refine wp_g 1 (pc1 := 30) (lv1 := [(0, .ref 146), (1, .int (Int32.ofInt q5))]) (st1 := [.int (Int32.ofInt 0)]) (w1 := w) rfl ?_
  refine wp_rt (i := .ireturn) (r := some (.int (Int32.ofInt 0))) (ln := 1) (a := 0) (b := 0) (z := 0) (by decide +kernel) rfl (ret_b (by decide +kernel) (Or.inl rfl)) ?_
  cases hx
  exact kr
noncomputable def xm_closes_b5 (s : Hp) : Option (Hp ⊕ Hp) :=
  (xm_see s).bind fun o1 => if w32 o1.1 = w32 93 then (xm_isInside o1.2).bind fun o6 => if w32 o6 = 0 then some (.inr o1.2) else (xm_settles o1.2 1).bind fun o11 => (some (uh o11 146 16 ((o11 146 16) - 1))).bind fun s15 => (some (uh s15 146 13 ((s15 146 13) - 1))).bind fun s19 => (some (uh s19 146 8 ((s19 146 8) + 1))).bind fun s23 => (xm_settles s23 3).bind fun o27 => some (.inl o27) else some (.inr o1.2)
set_option maxRecDepth 100000 in
theorem xm_closes_b5_ok {d : Nat} {P : Option Value → pm_H → Prop} {w : pm_H} {sh : Shp} {w0 : pm_H} {s : Hp} (hS : StM sh) (h : Rw sh w0 s w) {o : (Hp ⊕ Hp)} (hx : xm_closes_b5 s = some o) (kn : ∀ (q : Hp) w1, o = .inl q → Rw sh w0 q w1 → wp (d + 2) 172 5 [(0, .ref 146)] [] w1 P) (kc : ∀ (r : Hp), o = .inr r → (∀ w1, Rw sh w0 r w1 → wp (d + 2) 172 64 [(0, .ref 146)] [] w1 P)) : wp (d + 2) 172 5 [(0, .ref 146)] [] w P := by
  unfold xm_closes_b5 at hx
  refine wp_g 1 (pc1 := 6) (lv1 := [(0, .ref 146)]) (st1 := [.ref 146]) (w1 := w) rfl ?_
  obtain ⟨o1, e2, hx⟩ := bd hx
  refine wp_cl [.ref 146] [] (i := .invokevirtual 114) (ln := 3) (a := 153) (b := 0) (z := 0) (by decide +kernel) rfl rfl (by decide) rfl (show (1 : Nat) = pm_na 153 by decide +kernel) (Nat.le_of_ble_eq_true rfl) (show (1 : Nat) ≤ pm_n 153 by decide +kernel) (rcv_x 12 h (hS _ _ sm_146) (by decide +kernel)) (xm_see_ok (d := d + 1) hS h e2 (fun w3 h4 => ?_))
  show wp _ 172 9 [(0, .ref 146)] [.int (Int32.ofInt o1.1)] w3 _
  refine wp_g 1 (pc1 := 11) (lv1 := [(0, .ref 146)]) (st1 := [.int (Int32.ofInt 93), .int (Int32.ofInt o1.1)]) (w1 := w3) rfl ?_
  refine wx_ne (oo := 53) (ln := 3) (a := 64) (b := 0) (zz := 0) (by decide +kernel) (fun h5 => ?_) (fun h5 => ?_)
  · have hx := ite_f h5 hx
    cases hx
    exact kc _ rfl _ h4
  · have hx := ite_t h5 hx
    refine wp_g 1 (pc1 := 15) (lv1 := [(0, .ref 146)]) (st1 := [.ref 146]) (w1 := w3) rfl ?_
    obtain ⟨o6, e7, hx⟩ := bd hx
    refine wp_cl [.ref 146] [] (i := .invokevirtual 216) (ln := 3) (a := 171) (b := 0) (z := 0) (by decide +kernel) rfl rfl (by decide) rfl (show (1 : Nat) = pm_na 171 by decide +kernel) (Nat.le_of_ble_eq_true rfl) (show (1 : Nat) ≤ pm_n 171 by decide +kernel) (rcv_x 12 h4 (hS _ _ sm_146) (by decide +kernel)) (xm_isInside_ok (d := d + 1) hS h4 e7 ?_)
    show wp _ 172 18 [(0, .ref 146)] [.int (Int32.ofInt o6)] w3 _
    refine wz_eq (oo := 46) (ln := 3) (a := 64) (b := 0) (zz := 0) (by decide +kernel) (fun h10 => ?_) (fun h10 => ?_)
    · have hx := ite_t h10 hx
      cases hx
      exact kc _ rfl _ h4
    · have hx := ite_f h10 hx
      refine wp_g 2 (pc1 := 23) (lv1 := [(0, .ref 146)]) (st1 := [.int (Int32.ofInt 1), .ref 146]) (w1 := w3) rfl ?_
      obtain ⟨o11, e12, hx⟩ := bd hx
      refine wp_cl [.ref 146, .int (Int32.ofInt 1)] [] (i := .invokevirtual 213) (ln := 3) (a := 165) (b := 0) (z := 0) (by decide +kernel) rfl rfl (by decide) rfl (show (2 : Nat) = pm_na 165 by decide +kernel) (Nat.le_of_ble_eq_true rfl) (show (2 : Nat) ≤ pm_n 165 by decide +kernel) (rcv_x 12 h4 (hS _ _ sm_146) (by decide +kernel)) (xm_settles_ok (d := d) hS h4 e12 (fun w13 h14 => ?_))
      show wp _ 172 26 [(0, .ref 146)] [] w13 _
      refine wp_g 2 (pc1 := 28) (lv1 := [(0, .ref 146)]) (st1 := [.ref 146, .ref 146]) (w1 := w13) rfl ?_
      refine wx_gi (kf := 174) (ln := 3) (ci := 12) (b := 16) (zz := 0) (x := 146) (by decide +kernel) h14 (hS _ _ sm_146) rfl ?_
      show wp _ 172 31 [(0, .ref 146)] [.int (Int32.ofInt (o11 146 16)), .ref 146] w13 _
      refine wp_g 2 (pc1 := 33) (lv1 := [(0, .ref 146)]) (st1 := [.int (Int32.ofInt ((o11 146 16) - 1)), .ref 146]) (w1 := w13) (by simp only [Int32.ofInt_add, Int32.ofInt_sub, Int32.ofInt_mul, Int32.ofInt_neg, p_and, p_or, p_xor, p_shl, p_shr, p_usr, p_w8, p_c16, p_lI, q_and, q_or, q_shl, q_shr, q_w32, Int64.ofInt_add, Int64.ofInt_sub, Int64.ofInt_mul, p_mx, p_mn, q_mx, q_mn]; rfl) ?_
      obtain ⟨s15, e16, hx⟩ := bd hx
      refine wx_pi (kf := 174) (ln := 3) (ci := 12) (b := 16) (zz := 0) (x := 146) (by decide +kernel) h14 (hS _ _ sm_146) rfl (by decide +kernel) e16 (fun w17 h18 => ?_)
      refine wp_g 2 (pc1 := 38) (lv1 := [(0, .ref 146)]) (st1 := [.ref 146, .ref 146]) (w1 := w17) rfl ?_
      refine wx_gi (kf := 171) (ln := 3) (ci := 12) (b := 13) (zz := 0) (x := 146) (by decide +kernel) h18 (hS _ _ sm_146) rfl ?_
      show wp _ 172 41 [(0, .ref 146)] [.int (Int32.ofInt (s15 146 13)), .ref 146] w17 _
      refine wp_g 2 (pc1 := 43) (lv1 := [(0, .ref 146)]) (st1 := [.int (Int32.ofInt ((s15 146 13) - 1)), .ref 146]) (w1 := w17) (by simp only [Int32.ofInt_add, Int32.ofInt_sub, Int32.ofInt_mul, Int32.ofInt_neg, p_and, p_or, p_xor, p_shl, p_shr, p_usr, p_w8, p_c16, p_lI, q_and, q_or, q_shl, q_shr, q_w32, Int64.ofInt_add, Int64.ofInt_sub, Int64.ofInt_mul, p_mx, p_mn, q_mx, q_mn]; rfl) ?_
      obtain ⟨s19, e20, hx⟩ := bd hx
      refine wx_pi (kf := 171) (ln := 3) (ci := 12) (b := 13) (zz := 0) (x := 146) (by decide +kernel) h18 (hS _ _ sm_146) rfl (by decide +kernel) e20 (fun w21 h22 => ?_)
      refine wp_g 2 (pc1 := 48) (lv1 := [(0, .ref 146)]) (st1 := [.ref 146, .ref 146]) (w1 := w21) rfl ?_
      refine wx_gi (kf := 111) (ln := 3) (ci := 12) (b := 8) (zz := 0) (x := 146) (by decide +kernel) h22 (hS _ _ sm_146) rfl ?_
      show wp _ 172 51 [(0, .ref 146)] [.int (Int32.ofInt (s19 146 8)), .ref 146] w21 _
      refine wp_g 2 (pc1 := 53) (lv1 := [(0, .ref 146)]) (st1 := [.int (Int32.ofInt ((s19 146 8) + 1)), .ref 146]) (w1 := w21) (by simp only [Int32.ofInt_add, Int32.ofInt_sub, Int32.ofInt_mul, Int32.ofInt_neg, p_and, p_or, p_xor, p_shl, p_shr, p_usr, p_w8, p_c16, p_lI, q_and, q_or, q_shl, q_shr, q_w32, Int64.ofInt_add, Int64.ofInt_sub, Int64.ofInt_mul, p_mx, p_mn, q_mx, q_mn]; rfl) ?_
      obtain ⟨s23, e24, hx⟩ := bd hx
      refine wx_pi (kf := 111) (ln := 3) (ci := 12) (b := 8) (zz := 0) (x := 146) (by decide +kernel) h22 (hS _ _ sm_146) rfl (by decide +kernel) e24 (fun w25 h26 => ?_)
      refine wp_g 2 (pc1 := 58) (lv1 := [(0, .ref 146)]) (st1 := [.int (Int32.ofInt 3), .ref 146]) (w1 := w25) rfl ?_
      obtain ⟨o27, e28, hx⟩ := bd hx
      refine wp_cl [.ref 146, .int (Int32.ofInt 3)] [] (i := .invokevirtual 213) (ln := 3) (a := 165) (b := 0) (z := 0) (by decide +kernel) rfl rfl (by decide) rfl (show (2 : Nat) = pm_na 165 by decide +kernel) (Nat.le_of_ble_eq_true rfl) (show (2 : Nat) ≤ pm_n 165 by decide +kernel) (rcv_x 12 h26 (hS _ _ sm_146) (by decide +kernel)) (xm_settles_ok (d := d) hS h26 e28 (fun w29 h30 => ?_))
      show wp _ 172 61 [(0, .ref 146)] [] w29 _
      refine wp_g 1 (pc1 := 5) (lv1 := [(0, .ref 146)]) (st1 := []) (w1 := w29) rfl ?_
      cases hx
      exact kn _ _ rfl h30
/-- FoldDeedsModel.closes ()V -/
noncomputable def xm_closes (s : Hp) : Option Hp :=
  (xm_settles s 3).bind fun o1 => (lp (fun (q : Hp) => xm_closes_b5 q) o1).bind fun q5 => some q5
set_option maxRecDepth 100000 in
theorem xm_closes_ok {d : Nat} {P : Option Value → pm_H → Prop} {w : pm_H} {sh : Shp} {w0 : pm_H} {s : Hp} (hS : StM sh) (h : Rw sh w0 s w) {o : Hp} (hx : xm_closes s = some o) (kr : ∀ w1, Rw sh w0 o w1 → P none w1) : wp (d + 2) 172 0 (lv_args 0 [.ref 146]) [] w P := by
  show wp _ 172 0 [(0, .ref 146)] [] w _
  unfold xm_closes at hx
  refine wp_g 2 (pc1 := 2) (lv1 := [(0, .ref 146)]) (st1 := [.int (Int32.ofInt 3), .ref 146]) (w1 := w) rfl ?_
  obtain ⟨o1, e2, hx⟩ := bd hx
  refine wp_cl [.ref 146, .int (Int32.ofInt 3)] [] (i := .invokevirtual 213) (ln := 3) (a := 165) (b := 0) (z := 0) (by decide +kernel) rfl rfl (by decide) rfl (show (2 : Nat) = pm_na 165 by decide +kernel) (Nat.le_of_ble_eq_true rfl) (show (2 : Nat) ≤ pm_n 165 by decide +kernel) (rcv_x 12 h (hS _ _ sm_146) (by decide +kernel)) (xm_settles_ok (d := d) hS h e2 (fun w3 h4 => ?_))
  show wp _ 172 5 [(0, .ref 146)] [] w3 _
  obtain ⟨q5, e6, hx⟩ := bd hx
  refine wp_lp (σ := Hp) (ρ := Hp) (B := fun q => xm_closes_b5 q) (R := fun q w' => Rw sh w0 q w') (C := fun r => ∀ w1, Rw sh w0 r w1 → wp (d + 2) 172 64 [(0, .ref 146)] [] w1 P) (lv := fun q => [(0, .ref 146)]) (hd := 5) (fun q w' o hR hb kn kc => xm_closes_b5_ok hS hR hb kn kc) _ _ _ e6 h4 ?_
  intro w7 h8
  show wp _ 172 64 [(0, .ref 146)] [] w7 _
  refine wp_rt (i := .return_) (r := none) (ln := 1) (a := 0) (b := 0) (z := 0) (by decide +kernel) rfl (ret_v (by decide +kernel)) ?_
  cases hx
  exact kr _ h8
noncomputable def xm_tested_b12_j76 (s : Hp) (x1 : Int) (k0 : Int) : Option ((Int × Hp) ⊕ ((Int × Hp) ⊕ (Int × Hp))) :=
  (xm_passWord s).bind fun o1 => (xm_strength k0).bind fun o5 => (xm_settles o1 o5).bind fun o9 => (ix 400 (o9 146 16)).bind fun i13 => (some (uh o9 153 i13 k0)).bind fun s15 => (some (uh s15 146 16 ((s15 146 16) + 1))).bind fun s19 => some (.inl (x1, s19))
set_option maxRecDepth 100000 in
theorem xm_tested_b12_j76_ok {d : Nat} {P : Option Value → pm_H → Prop} {w : pm_H} {sh : Shp} {w0 : pm_H} {s : Hp} (hS : StM sh) {x1 : Int} {k0 : Int} (h : Rw sh w0 s w) {o : ((Int × Hp) ⊕ ((Int × Hp) ⊕ (Int × Hp)))} (hx : xm_tested_b12_j76 s x1 k0 = some o) (kn : ∀ (q : Int × Hp) w1, o = .inl q → Rw sh w0 q.2 w1 → wp (d + 8) 173 12 [(0, .ref 146), (1, .int (Int32.ofInt q.1))] [] w1 P) (kc : ∀ (r : ((Int × Hp) ⊕ (Int × Hp))), o = .inr r → ((∀ q1 w1, r = .inl q1 → Rw sh w0 q1.2 w1 → wp (d + 8) 173 112 [(0, .ref 146), (1, .int (Int32.ofInt q1.1))] [] w1 P) ∧ (∀ v1 w1, r = .inr v1 → Rw sh w0 v1.2 w1 → P (some (.int (Int32.ofInt v1.1))) w1))) : wp (d + 8) 173 76 [(0, .ref 146), (1, .int (Int32.ofInt x1))] [.int (Int32.ofInt k0)] w P := by
  unfold xm_tested_b12_j76 at hx
  refine wp_g 2 (pc1 := 78) (lv1 := [(2, .int (Int32.ofInt k0)), (0, .ref 146), (1, .int (Int32.ofInt x1))]) (st1 := [.ref 146]) (w1 := w) rfl ?_
  obtain ⟨o1, e2, hx⟩ := bd hx
  refine wp_cl [.ref 146] [] (i := .invokevirtual 126) (ln := 3) (a := 157) (b := 0) (z := 0) (by decide +kernel) rfl rfl (by decide) rfl (show (1 : Nat) = pm_na 157 by decide +kernel) (Nat.le_of_ble_eq_true rfl) (show (1 : Nat) ≤ pm_n 157 by decide +kernel) (rcv_x 12 h (hS _ _ sm_146) (by decide +kernel)) (xm_passWord_ok (d := d + 6) hS h e2 (fun w3 h4 => ?_))
  show wp _ 173 81 [(2, .int (Int32.ofInt k0)), (0, .ref 146), (1, .int (Int32.ofInt x1))] [] w3 _
  refine wp_g 2 (pc1 := 83) (lv1 := [(2, .int (Int32.ofInt k0)), (0, .ref 146), (1, .int (Int32.ofInt x1))]) (st1 := [.int (Int32.ofInt k0), .ref 146]) (w1 := w3) rfl ?_
  obtain ⟨o5, e6, hx⟩ := bd hx
  refine wp_cl [.int (Int32.ofInt k0)] [.ref 146] (i := .invokestatic 177) (ln := 3) (a := 164) (b := 1) (z := 0) (by decide +kernel) rfl rfl (by decide) rfl (show (1 : Nat) = pm_na 164 by decide +kernel) (Nat.le_of_ble_eq_true rfl) (show (1 : Nat) ≤ pm_n 164 by decide +kernel) (by rw [show pm_k 164 = 1 by decide +kernel]; rfl) (xm_strength_ok (d := d + 7) e6 ?_)
  show wp _ 173 86 [(2, .int (Int32.ofInt k0)), (0, .ref 146), (1, .int (Int32.ofInt x1))] [.int (Int32.ofInt o5), .ref 146] w3 _
  obtain ⟨o9, e10, hx⟩ := bd hx
  refine wp_cl [.ref 146, .int (Int32.ofInt o5)] [] (i := .invokevirtual 213) (ln := 3) (a := 165) (b := 0) (z := 0) (by decide +kernel) rfl rfl (by decide) rfl (show (2 : Nat) = pm_na 165 by decide +kernel) (Nat.le_of_ble_eq_true rfl) (show (2 : Nat) ≤ pm_n 165 by decide +kernel) (rcv_x 12 h4 (hS _ _ sm_146) (by decide +kernel)) (xm_settles_ok (d := d + 6) hS h4 e10 (fun w11 h12 => ?_))
  show wp _ 173 89 [(2, .int (Int32.ofInt k0)), (0, .ref 146), (1, .int (Int32.ofInt x1))] [] w11 _
  refine wp_g 1 (pc1 := 90) (lv1 := [(2, .int (Int32.ofInt k0)), (0, .ref 146), (1, .int (Int32.ofInt x1))]) (st1 := [.ref 146]) (w1 := w11) rfl ?_
  refine wx_gr (o := 7) (kf := 29) (ln := 3) (ci := 12) (b := 15) (zz := 0) (x := 146) (by decide +kernel) h12 (hS _ _ sm_146) rfl ?_
  show wp _ 173 93 [(2, .int (Int32.ofInt k0)), (0, .ref 146), (1, .int (Int32.ofInt x1))] [.ref 153] w11 _
  refine wp_g 1 (pc1 := 94) (lv1 := [(2, .int (Int32.ofInt k0)), (0, .ref 146), (1, .int (Int32.ofInt x1))]) (st1 := [.ref 146, .ref 153]) (w1 := w11) rfl ?_
  refine wx_gi (kf := 174) (ln := 3) (ci := 12) (b := 16) (zz := 0) (x := 146) (by decide +kernel) h12 (hS _ _ sm_146) rfl ?_
  show wp _ 173 97 [(2, .int (Int32.ofInt k0)), (0, .ref 146), (1, .int (Int32.ofInt x1))] [.int (Int32.ofInt (o9 146 16)), .ref 153] w11 _
  refine wp_g 1 (pc1 := 98) (lv1 := [(2, .int (Int32.ofInt k0)), (0, .ref 146), (1, .int (Int32.ofInt x1))]) (st1 := [.int (Int32.ofInt k0), .int (Int32.ofInt (o9 146 16)), .ref 153]) (w1 := w11) rfl ?_
  obtain ⟨i13, e14, hx⟩ := bd hx
  obtain ⟨s15, e16, hx⟩ := bd hx
  refine wx_wa (x := 153) (n := 400) (ln := 1) (a := 0) (b := 0) (zz := 0) (by decide +kernel) h12 (hS _ _ sm_153) e14 e16 (fun w17 h18 => ?_)
  refine wp_g 2 (pc1 := 101) (lv1 := [(2, .int (Int32.ofInt k0)), (0, .ref 146), (1, .int (Int32.ofInt x1))]) (st1 := [.ref 146, .ref 146]) (w1 := w17) rfl ?_
  refine wx_gi (kf := 174) (ln := 3) (ci := 12) (b := 16) (zz := 0) (x := 146) (by decide +kernel) h18 (hS _ _ sm_146) rfl ?_
  show wp _ 173 104 [(2, .int (Int32.ofInt k0)), (0, .ref 146), (1, .int (Int32.ofInt x1))] [.int (Int32.ofInt (s15 146 16)), .ref 146] w17 _
  refine wp_g 2 (pc1 := 106) (lv1 := [(2, .int (Int32.ofInt k0)), (0, .ref 146), (1, .int (Int32.ofInt x1))]) (st1 := [.int (Int32.ofInt ((s15 146 16) + 1)), .ref 146]) (w1 := w17) (by simp only [Int32.ofInt_add, Int32.ofInt_sub, Int32.ofInt_mul, Int32.ofInt_neg, p_and, p_or, p_xor, p_shl, p_shr, p_usr, p_w8, p_c16, p_lI, q_and, q_or, q_shl, q_shr, q_w32, Int64.ofInt_add, Int64.ofInt_sub, Int64.ofInt_mul, p_mx, p_mn, q_mx, q_mn]; rfl) ?_
  obtain ⟨s19, e20, hx⟩ := bd hx
  refine wx_pi (kf := 174) (ln := 3) (ci := 12) (b := 16) (zz := 0) (x := 146) (by decide +kernel) h18 (hS _ _ sm_146) rfl (by decide +kernel) e20 (fun w21 h22 => ?_)
  refine wp_g 1 (pc1 := 12) (lv1 := [(2, .int (Int32.ofInt k0)), (0, .ref 146), (1, .int (Int32.ofInt x1))]) (st1 := []) (w1 := w21) rfl ?_
  refine wp_lv (lv1 := [(0, .ref 146), (1, .int (Int32.ofInt x1))]) (lsub_p [1, 2] rfl rfl rfl) ?_
  cases hx
  exact kn _ _ rfl h22
noncomputable def xm_tested_b12_j54 (s : Hp) (k0 : Int) : Option ((Int × Hp) ⊕ ((Int × Hp) ⊕ (Int × Hp))) :=
  if w32 k0 = 0 then some (.inl (k0, s)) else (xm_isWord s 6385252).bind fun o2 => if w32 o2.1 = 0 then xm_tested_b12_j76 o2.2 k0 13 else xm_tested_b12_j76 o2.2 k0 12
set_option maxRecDepth 100000 in
theorem xm_tested_b12_j54_ok {d : Nat} {P : Option Value → pm_H → Prop} {w : pm_H} {sh : Shp} {w0 : pm_H} {s : Hp} (hS : StM sh) {k0 : Int} (h : Rw sh w0 s w) {o : ((Int × Hp) ⊕ ((Int × Hp) ⊕ (Int × Hp)))} (hx : xm_tested_b12_j54 s k0 = some o) (kn : ∀ (q : Int × Hp) w1, o = .inl q → Rw sh w0 q.2 w1 → wp (d + 8) 173 12 [(0, .ref 146), (1, .int (Int32.ofInt q.1))] [] w1 P) (kc : ∀ (r : ((Int × Hp) ⊕ (Int × Hp))), o = .inr r → ((∀ q1 w1, r = .inl q1 → Rw sh w0 q1.2 w1 → wp (d + 8) 173 112 [(0, .ref 146), (1, .int (Int32.ofInt q1.1))] [] w1 P) ∧ (∀ v1 w1, r = .inr v1 → Rw sh w0 v1.2 w1 → P (some (.int (Int32.ofInt v1.1))) w1))) : wp (d + 8) 173 54 [(0, .ref 146)] [.int (Int32.ofInt k0)] w P := by
  unfold xm_tested_b12_j54 at hx
  refine wp_g 2 (pc1 := 56) (lv1 := [(1, .int (Int32.ofInt k0)), (0, .ref 146)]) (st1 := [.int (Int32.ofInt k0)]) (w1 := w) rfl ?_
  refine wz_eq (oo := (-44)) (ln := 3) (a := 12) (b := 0) (zz := 0) (by decide +kernel) (fun h1 => ?_) (fun h1 => ?_)
  · have hx := ite_t h1 hx
    refine wp_lv (lv1 := [(0, .ref 146), (1, .int (Int32.ofInt k0))]) (lsub_p [1, 0] rfl rfl rfl) ?_
    cases hx
    exact kn _ _ rfl h
  · have hx := ite_f h1 hx
    refine wp_g 2 (pc1 := 63) (lv1 := [(1, .int (Int32.ofInt k0)), (0, .ref 146)]) (st1 := [.long (Int64.ofInt 6385252), .ref 146]) (w1 := w) rfl ?_
    obtain ⟨o2, e3, hx⟩ := bd hx
    refine wp_cl [.ref 146, .long (Int64.ofInt 6385252)] [] (i := .invokevirtual 122) (ln := 3) (a := 156) (b := 0) (z := 0) (by decide +kernel) rfl rfl (by decide) rfl (show (2 : Nat) = pm_na 156 by decide +kernel) (Nat.le_of_ble_eq_true rfl) (show (3 : Nat) ≤ pm_n 156 by decide +kernel) (rcv_x 12 h (hS _ _ sm_146) (by decide +kernel)) (xm_isWord_ok (d := d + 6) hS h e3 (fun w4 h5 => ?_))
    show wp _ 173 66 [(1, .int (Int32.ofInt k0)), (0, .ref 146)] [.int (Int32.ofInt o2.1)] w4 _
    refine wz_eq (oo := 8) (ln := 3) (a := 74) (b := 0) (zz := 0) (by decide +kernel) (fun h6 => ?_) (fun h6 => ?_)
    · have hx := ite_t h6 hx
      refine wp_g 1 (pc1 := 76) (lv1 := [(1, .int (Int32.ofInt k0)), (0, .ref 146)]) (st1 := [.int (Int32.ofInt 13)]) (w1 := w4) rfl ?_
      refine wp_lv (lv1 := [(0, .ref 146), (1, .int (Int32.ofInt k0))]) (lsub_p [1, 0] rfl rfl rfl) ?_
      exact xm_tested_b12_j76_ok hS h5 hx kn kc
    · have hx := ite_f h6 hx
      refine wp_g 2 (pc1 := 76) (lv1 := [(1, .int (Int32.ofInt k0)), (0, .ref 146)]) (st1 := [.int (Int32.ofInt 12)]) (w1 := w4) rfl ?_
      refine wp_lv (lv1 := [(0, .ref 146), (1, .int (Int32.ofInt k0))]) (lsub_p [1, 0] rfl rfl rfl) ?_
      exact xm_tested_b12_j76_ok hS h5 hx kn kc
noncomputable def xm_tested_b12 (s : Hp) (x1 : Int) : Option ((Int × Hp) ⊕ ((Int × Hp) ⊕ (Int × Hp))) :=
  if w32 x1 = 0 then some (.inr (.inl (x1, s))) else (xm_fact s).bind fun o2 => if w32 o2.1 = 0 then some (.inr (.inr (0, o2.2))) else (xm_closes o2.2).bind fun o7 => (xm_isWord o7 6385252).bind fun o11 => if w32 o11.1 = 0 then (xm_isWord o11.2 28530).bind fun o16 => if w32 o16.1 = 0 then xm_tested_b12_j54 o16.2 0 else xm_tested_b12_j54 o16.2 1 else xm_tested_b12_j54 o11.2 1
set_option maxRecDepth 100000 in
theorem xm_tested_b12_ok {d : Nat} {P : Option Value → pm_H → Prop} {w : pm_H} {sh : Shp} {w0 : pm_H} {s : Hp} (hS : StM sh) {x1 : Int} (h : Rw sh w0 s w) {o : ((Int × Hp) ⊕ ((Int × Hp) ⊕ (Int × Hp)))} (hx : xm_tested_b12 s x1 = some o) (kn : ∀ (q : Int × Hp) w1, o = .inl q → Rw sh w0 q.2 w1 → wp (d + 8) 173 12 [(0, .ref 146), (1, .int (Int32.ofInt q.1))] [] w1 P) (kc : ∀ (r : ((Int × Hp) ⊕ (Int × Hp))), o = .inr r → ((∀ q1 w1, r = .inl q1 → Rw sh w0 q1.2 w1 → wp (d + 8) 173 112 [(0, .ref 146), (1, .int (Int32.ofInt q1.1))] [] w1 P) ∧ (∀ v1 w1, r = .inr v1 → Rw sh w0 v1.2 w1 → P (some (.int (Int32.ofInt v1.1))) w1))) : wp (d + 8) 173 12 [(0, .ref 146), (1, .int (Int32.ofInt x1))] [] w P := by
  unfold xm_tested_b12 at hx
  refine wp_g 1 (pc1 := 13) (lv1 := [(0, .ref 146), (1, .int (Int32.ofInt x1))]) (st1 := [.int (Int32.ofInt x1)]) (w1 := w) rfl ?_
  refine wz_eq (oo := 99) (ln := 3) (a := 112) (b := 0) (zz := 0) (by decide +kernel) (fun h1 => ?_) (fun h1 => ?_)
  · have hx := ite_t h1 hx
    cases hx
    exact (kc _ rfl).1 _ _ rfl h
  · have hx := ite_f h1 hx
    refine wp_g 1 (pc1 := 17) (lv1 := [(0, .ref 146), (1, .int (Int32.ofInt x1))]) (st1 := [.ref 146]) (w1 := w) rfl ?_
    obtain ⟨o2, e3, hx⟩ := bd hx
    refine wp_cl [.ref 146] [] (i := .invokevirtual 219) (ln := 3) (a := 170) (b := 0) (z := 0) (by decide +kernel) rfl rfl (by decide) rfl (show (1 : Nat) = pm_na 170 by decide +kernel) (Nat.le_of_ble_eq_true rfl) (show (1 : Nat) ≤ pm_n 170 by decide +kernel) (rcv_x 12 h (hS _ _ sm_146) (by decide +kernel)) (xm_fact_ok (d := d) hS h e3 (fun w4 h5 => ?_))
    show wp _ 173 20 [(0, .ref 146), (1, .int (Int32.ofInt x1))] [.int (Int32.ofInt o2.1)] w4 _
    refine wz_ne (oo := 5) (ln := 3) (a := 25) (b := 0) (zz := 0) (by decide +kernel) (fun h6 => ?_) (fun h6 => ?_)
    · have hx := ite_f h6 hx
      refine wp_g 1 (pc1 := 26) (lv1 := [(0, .ref 146), (1, .int (Int32.ofInt x1))]) (st1 := [.ref 146]) (w1 := w4) rfl ?_
      obtain ⟨o7, e8, hx⟩ := bd hx
      refine wp_cl [.ref 146] [] (i := .invokevirtual 222) (ln := 3) (a := 172) (b := 0) (z := 0) (by decide +kernel) rfl rfl (by decide) rfl (show (1 : Nat) = pm_na 172 by decide +kernel) (Nat.le_of_ble_eq_true rfl) (show (1 : Nat) ≤ pm_n 172 by decide +kernel) (rcv_x 12 h5 (hS _ _ sm_146) (by decide +kernel)) (xm_closes_ok (d := d + 5) hS h5 e8 (fun w9 h10 => ?_))
      show wp _ 173 29 [(0, .ref 146), (1, .int (Int32.ofInt x1))] [] w9 _
      refine wp_g 2 (pc1 := 33) (lv1 := [(0, .ref 146), (1, .int (Int32.ofInt x1))]) (st1 := [.long (Int64.ofInt 6385252), .ref 146]) (w1 := w9) rfl ?_
      obtain ⟨o11, e12, hx⟩ := bd hx
      refine wp_cl [.ref 146, .long (Int64.ofInt 6385252)] [] (i := .invokevirtual 122) (ln := 3) (a := 156) (b := 0) (z := 0) (by decide +kernel) rfl rfl (by decide) rfl (show (2 : Nat) = pm_na 156 by decide +kernel) (Nat.le_of_ble_eq_true rfl) (show (3 : Nat) ≤ pm_n 156 by decide +kernel) (rcv_x 12 h10 (hS _ _ sm_146) (by decide +kernel)) (xm_isWord_ok (d := d + 6) hS h10 e12 (fun w13 h14 => ?_))
      show wp _ 173 36 [(0, .ref 146), (1, .int (Int32.ofInt x1))] [.int (Int32.ofInt o11.1)] w13 _
      refine wz_ne (oo := 13) (ln := 3) (a := 49) (b := 0) (zz := 0) (by decide +kernel) (fun h15 => ?_) (fun h15 => ?_)
      · have hx := ite_f h15 hx
        refine wp_g 2 (pc1 := 54) (lv1 := [(0, .ref 146), (1, .int (Int32.ofInt x1))]) (st1 := [.int (Int32.ofInt 1)]) (w1 := w13) rfl ?_
        refine wp_lv (lv1 := [(0, .ref 146)]) (lsub_p [0] rfl rfl rfl) ?_
        exact xm_tested_b12_j54_ok hS h14 hx kn kc
      · have hx := ite_t h15 hx
        refine wp_g 2 (pc1 := 43) (lv1 := [(0, .ref 146), (1, .int (Int32.ofInt x1))]) (st1 := [.long (Int64.ofInt 28530), .ref 146]) (w1 := w13) rfl ?_
        obtain ⟨o16, e17, hx⟩ := bd hx
        refine wp_cl [.ref 146, .long (Int64.ofInt 28530)] [] (i := .invokevirtual 122) (ln := 3) (a := 156) (b := 0) (z := 0) (by decide +kernel) rfl rfl (by decide) rfl (show (2 : Nat) = pm_na 156 by decide +kernel) (Nat.le_of_ble_eq_true rfl) (show (3 : Nat) ≤ pm_n 156 by decide +kernel) (rcv_x 12 h14 (hS _ _ sm_146) (by decide +kernel)) (xm_isWord_ok (d := d + 6) hS h14 e17 (fun w18 h19 => ?_))
        show wp _ 173 46 [(0, .ref 146), (1, .int (Int32.ofInt x1))] [.int (Int32.ofInt o16.1)] w18 _
        refine wz_eq (oo := 7) (ln := 3) (a := 53) (b := 0) (zz := 0) (by decide +kernel) (fun h20 => ?_) (fun h20 => ?_)
        · have hx := ite_t h20 hx
          refine wp_g 1 (pc1 := 54) (lv1 := [(0, .ref 146), (1, .int (Int32.ofInt x1))]) (st1 := [.int (Int32.ofInt 0)]) (w1 := w18) rfl ?_
          refine wp_lv (lv1 := [(0, .ref 146)]) (lsub_p [0] rfl rfl rfl) ?_
          exact xm_tested_b12_j54_ok hS h19 hx kn kc
        · have hx := ite_f h20 hx
          refine wp_g 2 (pc1 := 54) (lv1 := [(0, .ref 146), (1, .int (Int32.ofInt x1))]) (st1 := [.int (Int32.ofInt 1)]) (w1 := w18) rfl ?_
          refine wp_lv (lv1 := [(0, .ref 146)]) (lsub_p [0] rfl rfl rfl) ?_
          exact xm_tested_b12_j54_ok hS h19 hx kn kc
    · have hx := ite_t h6 hx
      refine wp_g 1 (pc1 := 24) (lv1 := [(0, .ref 146), (1, .int (Int32.ofInt x1))]) (st1 := [.int (Int32.ofInt 0)]) (w1 := w4) rfl ?_
      refine wp_rt (i := .ireturn) (r := some (.int (Int32.ofInt 0))) (ln := 1) (a := 0) (b := 0) (z := 0) (by decide +kernel) rfl (ret_b (by decide +kernel) (Or.inl rfl)) ?_
      cases hx
      exact (kc _ rfl).2 _ _ rfl h5
/-- FoldDeedsModel.tested ()Z -/
noncomputable def xm_tested (s : Hp) : Option (Int × Hp) :=
  (some (uh s 146 16 0)).bind fun s1 => (some (uh s1 146 13 0)).bind fun s5 => (lp (fun (q : Int × Hp) => xm_tested_b12 q.2 q.1) (1, s5)).bind fun q9 => q9.elim (fun q13 => (xm_isInside q13.2).bind fun o15 => if w32 o15 = 0 then (xm_settles q13.2 1).bind fun o20 => some (1, o20) else (xm_see q13.2).bind fun o24 => (xm_fails o24.2 0 (o24.2 146 8)).bind fun o28 => if w32 o28.1 = 0 ∨ w32 o28.1 = 1 then some (o28.1, o28.2) else none) (fun r => some r)
set_option maxRecDepth 100000 in
theorem xm_tested_ok {d : Nat} {P : Option Value → pm_H → Prop} {w : pm_H} {sh : Shp} {w0 : pm_H} {s : Hp} (hS : StM sh) (h : Rw sh w0 s w) {o : Int × Hp} (hx : xm_tested s = some o) (kr : ∀ w1, Rw sh w0 o.2 w1 → P (some (.int (Int32.ofInt o.1))) w1) : wp (d + 8) 173 0 (lv_args 0 [.ref 146]) [] w P := by
  show wp _ 173 0 [(0, .ref 146)] [] w _
  unfold xm_tested at hx
  refine wp_g 2 (pc1 := 2) (lv1 := [(0, .ref 146)]) (st1 := [.int (Int32.ofInt 0), .ref 146]) (w1 := w) rfl ?_
  obtain ⟨s1, e2, hx⟩ := bd hx
  refine wx_pi (kf := 174) (ln := 3) (ci := 12) (b := 16) (zz := 0) (x := 146) (by decide +kernel) h (hS _ _ sm_146) rfl (by decide +kernel) e2 (fun w3 h4 => ?_)
  refine wp_g 2 (pc1 := 7) (lv1 := [(0, .ref 146)]) (st1 := [.int (Int32.ofInt 0), .ref 146]) (w1 := w3) rfl ?_
  obtain ⟨s5, e6, hx⟩ := bd hx
  refine wx_pi (kf := 171) (ln := 3) (ci := 12) (b := 13) (zz := 0) (x := 146) (by decide +kernel) h4 (hS _ _ sm_146) rfl (by decide +kernel) e6 (fun w7 h8 => ?_)
  refine wp_g 2 (pc1 := 12) (lv1 := [(1, .int (Int32.ofInt 1)), (0, .ref 146)]) (st1 := []) (w1 := w7) rfl ?_
  refine wp_lv (lv1 := [(0, .ref 146), (1, .int (Int32.ofInt 1))]) (lsub_p [1, 0] rfl rfl rfl) ?_
  obtain ⟨q9, e10, hx⟩ := bd hx
  refine wp_lp (σ := Int × Hp) (ρ := ((Int × Hp) ⊕ (Int × Hp))) (B := fun q => xm_tested_b12 q.2 q.1) (R := fun q w' => Rw sh w0 q.2 w') (C := fun r => (∀ q1 w1, r = .inl q1 → Rw sh w0 q1.2 w1 → wp (d + 8) 173 112 [(0, .ref 146), (1, .int (Int32.ofInt q1.1))] [] w1 P) ∧ (∀ v1 w1, r = .inr v1 → Rw sh w0 v1.2 w1 → P (some (.int (Int32.ofInt v1.1))) w1)) (lv := fun q => [(0, .ref 146), (1, .int (Int32.ofInt q.1))]) (hd := 12) (fun q w' o hR hb kn kc => xm_tested_b12_ok hS hR hb kn kc) _ _ _ e10 h8 ?_
  refine ⟨?_, fun v14 w1 hs h1 => by subst hs; cases (se_r hx); exact kr _ h1⟩
  intro q13 w11 hs h12
  subst hs
  replace hx := se_l hx
  show wp _ 173 112 [(0, .ref 146), (1, .int (Int32.ofInt q13.1))] [] w11 _
  refine wp_g 1 (pc1 := 113) (lv1 := [(0, .ref 146), (1, .int (Int32.ofInt q13.1))]) (st1 := [.ref 146]) (w1 := w11) rfl ?_
  obtain ⟨o15, e16, hx⟩ := bd hx
  refine wp_cl [.ref 146] [] (i := .invokevirtual 216) (ln := 3) (a := 171) (b := 0) (z := 0) (by decide +kernel) rfl rfl (by decide) rfl (show (1 : Nat) = pm_na 171 by decide +kernel) (Nat.le_of_ble_eq_true rfl) (show (1 : Nat) ≤ pm_n 171 by decide +kernel) (rcv_x 12 h12 (hS _ _ sm_146) (by decide +kernel)) (xm_isInside_ok (d := d + 7) hS h12 e16 ?_)
  show wp _ 173 116 [(0, .ref 146), (1, .int (Int32.ofInt q13.1))] [.int (Int32.ofInt o15)] w11 _
  refine wz_eq (oo := 18) (ln := 3) (a := 134) (b := 0) (zz := 0) (by decide +kernel) (fun h19 => ?_) (fun h19 => ?_)
  · have hx := ite_t h19 hx
    refine wp_g 2 (pc1 := 136) (lv1 := [(0, .ref 146), (1, .int (Int32.ofInt q13.1))]) (st1 := [.int (Int32.ofInt 1), .ref 146]) (w1 := w11) rfl ?_
    obtain ⟨o20, e21, hx⟩ := bd hx
    refine wp_cl [.ref 146, .int (Int32.ofInt 1)] [] (i := .invokevirtual 213) (ln := 3) (a := 165) (b := 0) (z := 0) (by decide +kernel) rfl rfl (by decide) rfl (show (2 : Nat) = pm_na 165 by decide +kernel) (Nat.le_of_ble_eq_true rfl) (show (2 : Nat) ≤ pm_n 165 by decide +kernel) (rcv_x 12 h12 (hS _ _ sm_146) (by decide +kernel)) (xm_settles_ok (d := d + 6) hS h12 e21 (fun w22 h23 => ?_))
    show wp _ 173 139 [(0, .ref 146), (1, .int (Int32.ofInt q13.1))] [] w22 _
    refine wp_g 1 (pc1 := 140) (lv1 := [(0, .ref 146), (1, .int (Int32.ofInt q13.1))]) (st1 := [.int (Int32.ofInt 1)]) (w1 := w22) rfl ?_
    refine wp_rt (i := .ireturn) (r := some (.int (Int32.ofInt 1))) (ln := 1) (a := 0) (b := 0) (z := 0) (by decide +kernel) rfl (ret_b (by decide +kernel) (Or.inr rfl)) ?_
    cases hx
    exact kr _ h23
  · have hx := ite_f h19 hx
    refine wp_g 1 (pc1 := 120) (lv1 := [(0, .ref 146), (1, .int (Int32.ofInt q13.1))]) (st1 := [.ref 146]) (w1 := w11) rfl ?_
    obtain ⟨o24, e25, hx⟩ := bd hx
    refine wp_cl [.ref 146] [] (i := .invokevirtual 114) (ln := 3) (a := 153) (b := 0) (z := 0) (by decide +kernel) rfl rfl (by decide) rfl (show (1 : Nat) = pm_na 153 by decide +kernel) (Nat.le_of_ble_eq_true rfl) (show (1 : Nat) ≤ pm_n 153 by decide +kernel) (rcv_x 12 h12 (hS _ _ sm_146) (by decide +kernel)) (xm_see_ok (d := d + 7) hS h12 e25 (fun w26 h27 => ?_))
    show wp _ 173 123 [(0, .ref 146), (1, .int (Int32.ofInt q13.1))] [.int (Int32.ofInt o24.1)] w26 _
    refine wp_g 4 (pc1 := 127) (lv1 := [(0, .ref 146), (1, .int (Int32.ofInt q13.1))]) (st1 := [.ref 146, .int (Int32.ofInt 0), .ref 146]) (w1 := w26) rfl ?_
    refine wx_gi (kf := 111) (ln := 3) (ci := 12) (b := 8) (zz := 0) (x := 146) (by decide +kernel) h27 (hS _ _ sm_146) rfl ?_
    show wp _ 173 130 [(0, .ref 146), (1, .int (Int32.ofInt q13.1))] [.int (Int32.ofInt (o24.2 146 8)), .int (Int32.ofInt 0), .ref 146] w26 _
    obtain ⟨o28, e29, hx⟩ := bd hx
    refine wp_cl [.ref 146, .int (Int32.ofInt 0), .int (Int32.ofInt (o24.2 146 8))] [] (i := .invokevirtual 132) (ln := 3) (a := 152) (b := 0) (z := 0) (by decide +kernel) rfl rfl (by decide) rfl (show (3 : Nat) = pm_na 152 by decide +kernel) (Nat.le_of_ble_eq_true rfl) (show (3 : Nat) ≤ pm_n 152 by decide +kernel) (rcv_x 12 h27 (hS _ _ sm_146) (by decide +kernel)) (xm_fails_ok (d := d + 7) hS h27 e29 (fun w30 h31 => ?_))
    show wp _ 173 133 [(0, .ref 146), (1, .int (Int32.ofInt q13.1))] [.int (Int32.ofInt o28.1)] w30 _
    obtain ⟨h32, hx⟩ := gd hx
    refine wp_rt (i := .ireturn) (r := some (.int (Int32.ofInt o28.1))) (ln := 1) (a := 0) (b := 0) (z := 0) (by decide +kernel) rfl (ret_b (by decide +kernel) (w01 h32)) ?_
    cases hx
    exact kr _ h31
noncomputable def xm_isPriceHere_j110 (s : Hp) (x1 : Int) : Option (Int × Hp) :=
  (ix 7 (s 146 11)).bind fun i1 => (ix 288 (x1 + 3)).bind fun i3 => (some (uh s 150 i3 (s 149 i1))).bind fun s5 => (ix 6 (s5 146 11)).bind fun i9 => (some (uh s5 151 i9 ((s5 151 i9) + 1))).bind fun s11 => some (1, s11)
set_option maxRecDepth 100000 in
theorem xm_isPriceHere_j110_ok {d : Nat} {P : Option Value → pm_H → Prop} {w : pm_H} {sh : Shp} {w0 : pm_H} {s : Hp} (hS : StM sh) {x1 : Int} (h : Rw sh w0 s w) {o : (Int × Hp)} (hx : xm_isPriceHere_j110 s x1 = some o) (kr : ∀ w1, Rw sh w0 o.2 w1 → P (some (.int (Int32.ofInt o.1))) w1) : wp (d + 9) 174 110 [(0, .ref 146), (1, .int (Int32.ofInt x1))] [] w P := by
  unfold xm_isPriceHere_j110 at hx
  refine wp_g 1 (pc1 := 111) (lv1 := [(0, .ref 146), (1, .int (Int32.ofInt x1))]) (st1 := [.ref 146]) (w1 := w) rfl ?_
  refine wx_gr (o := 4) (kf := 20) (ln := 3) (ci := 12) (b := 5) (zz := 0) (x := 146) (by decide +kernel) h (hS _ _ sm_146) rfl ?_
  show wp _ 174 114 [(0, .ref 146), (1, .int (Int32.ofInt x1))] [.ref 150] w _
  refine wp_g 4 (pc1 := 118) (lv1 := [(0, .ref 146), (1, .int (Int32.ofInt x1))]) (st1 := [.ref 146, .int (Int32.ofInt (x1 + 3)), .ref 150]) (w1 := w) (by simp only [Int32.ofInt_add, Int32.ofInt_sub, Int32.ofInt_mul, Int32.ofInt_neg, p_and, p_or, p_xor, p_shl, p_shr, p_usr, p_w8, p_c16, p_lI, q_and, q_or, q_shl, q_shr, q_w32, Int64.ofInt_add, Int64.ofInt_sub, Int64.ofInt_mul, p_mx, p_mn, q_mx, q_mn]; rfl) ?_
  refine wx_gr (o := 3) (kf := 17) (ln := 3) (ci := 12) (b := 4) (zz := 0) (x := 146) (by decide +kernel) h (hS _ _ sm_146) rfl ?_
  show wp _ 174 121 [(0, .ref 146), (1, .int (Int32.ofInt x1))] [.ref 149, .int (Int32.ofInt (x1 + 3)), .ref 150] w _
  refine wp_g 1 (pc1 := 122) (lv1 := [(0, .ref 146), (1, .int (Int32.ofInt x1))]) (st1 := [.ref 146, .ref 149, .int (Int32.ofInt (x1 + 3)), .ref 150]) (w1 := w) rfl ?_
  refine wx_gi (kf := 165) (ln := 3) (ci := 12) (b := 11) (zz := 0) (x := 146) (by decide +kernel) h (hS _ _ sm_146) rfl ?_
  show wp _ 174 125 [(0, .ref 146), (1, .int (Int32.ofInt x1))] [.int (Int32.ofInt (s 146 11)), .ref 149, .int (Int32.ofInt (x1 + 3)), .ref 150] w _
  obtain ⟨i1, e2, hx⟩ := bd hx
  refine wx_ra (x := 149) (n := 7) (ln := 1) (a := 0) (b := 0) (zz := 0) (by decide +kernel) h (hS _ _ sm_149) e2 ?_
  show wp _ 174 126 [(0, .ref 146), (1, .int (Int32.ofInt x1))] [.int (Int32.ofInt (s 149 i1)), .int (Int32.ofInt (x1 + 3)), .ref 150] w _
  obtain ⟨i3, e4, hx⟩ := bd hx
  obtain ⟨s5, e6, hx⟩ := bd hx
  refine wx_wa (x := 150) (n := 288) (ln := 1) (a := 0) (b := 0) (zz := 0) (by decide +kernel) h (hS _ _ sm_150) e4 e6 (fun w7 h8 => ?_)
  refine wp_g 1 (pc1 := 128) (lv1 := [(0, .ref 146), (1, .int (Int32.ofInt x1))]) (st1 := [.ref 146]) (w1 := w7) rfl ?_
  refine wx_gr (o := 5) (kf := 23) (ln := 3) (ci := 12) (b := 6) (zz := 0) (x := 146) (by decide +kernel) h8 (hS _ _ sm_146) rfl ?_
  show wp _ 174 131 [(0, .ref 146), (1, .int (Int32.ofInt x1))] [.ref 151] w7 _
  refine wp_g 1 (pc1 := 132) (lv1 := [(0, .ref 146), (1, .int (Int32.ofInt x1))]) (st1 := [.ref 146, .ref 151]) (w1 := w7) rfl ?_
  refine wx_gi (kf := 165) (ln := 3) (ci := 12) (b := 11) (zz := 0) (x := 146) (by decide +kernel) h8 (hS _ _ sm_146) rfl ?_
  show wp _ 174 135 [(0, .ref 146), (1, .int (Int32.ofInt x1))] [.int (Int32.ofInt (s5 146 11)), .ref 151] w7 _
  refine wp_g 1 (pc1 := 136) (lv1 := [(0, .ref 146), (1, .int (Int32.ofInt x1))]) (st1 := [.int (Int32.ofInt (s5 146 11)), .ref 151, .int (Int32.ofInt (s5 146 11)), .ref 151]) (w1 := w7) rfl ?_
  obtain ⟨i9, e10, hx⟩ := bd hx
  refine wx_ra (x := 151) (n := 6) (ln := 1) (a := 0) (b := 0) (zz := 0) (by decide +kernel) h8 (hS _ _ sm_151) e10 ?_
  show wp _ 174 137 [(0, .ref 146), (1, .int (Int32.ofInt x1))] [.int (Int32.ofInt (s5 151 i9)), .int (Int32.ofInt (s5 146 11)), .ref 151] w7 _
  refine wp_g 2 (pc1 := 139) (lv1 := [(0, .ref 146), (1, .int (Int32.ofInt x1))]) (st1 := [.int (Int32.ofInt ((s5 151 i9) + 1)), .int (Int32.ofInt (s5 146 11)), .ref 151]) (w1 := w7) (by simp only [Int32.ofInt_add, Int32.ofInt_sub, Int32.ofInt_mul, Int32.ofInt_neg, p_and, p_or, p_xor, p_shl, p_shr, p_usr, p_w8, p_c16, p_lI, q_and, q_or, q_shl, q_shr, q_w32, Int64.ofInt_add, Int64.ofInt_sub, Int64.ofInt_mul, p_mx, p_mn, q_mx, q_mn]; rfl) ?_
  obtain ⟨s11, e12, hx⟩ := bd hx
  refine wx_wa (x := 151) (n := 6) (ln := 1) (a := 0) (b := 0) (zz := 0) (by decide +kernel) h8 (hS _ _ sm_151) e10 e12 (fun w13 h14 => ?_)
  refine wp_g 1 (pc1 := 141) (lv1 := [(0, .ref 146), (1, .int (Int32.ofInt x1))]) (st1 := [.int (Int32.ofInt 1)]) (w1 := w13) rfl ?_
  refine wp_rt (i := .ireturn) (r := some (.int (Int32.ofInt 1))) (ln := 1) (a := 0) (b := 0) (z := 0) (by decide +kernel) rfl (ret_b (by decide +kernel) (Or.inr rfl)) ?_
  cases hx
  exact kr _ h14
/-- FoldDeedsModel.isPriceHere ()Z -/
noncomputable def xm_isPriceHere (s : Hp) : Option (Int × Hp) :=
  (xm_passWord s).bind fun o1 => (ix 6 (o1 146 11)).bind fun i5 => (ix 7 (o1 146 11)).bind fun i7 => (ix 288 ((48 * (o1 146 11)) + (4 * (o1 151 i5)))).bind fun i9 => (some (uh o1 150 i9 (o1 149 i7))).bind fun s11 => (xm_sum s11).bind fun o15 => if w32 o15.1 = 0 then some (0, o15.2) else (ix 7 (o15.2 146 11)).bind fun i20 => (ix 288 (((48 * (o1 146 11)) + (4 * (o1 151 i5))) + 1)).bind fun i22 => (some (uh o15.2 150 i22 (o15.2 149 i20))).bind fun s24 => (ix 288 (((48 * (o1 146 11)) + (4 * (o1 151 i5))) + 2)).bind fun i28 => (some (uh s24 150 i28 (-1))).bind fun s30 => (xm_takesWord s30 26982).bind fun o34 => if w32 o34.1 = 0 then xm_isPriceHere_j110 o34.2 ((48 * (o1 146 11)) + (4 * (o1 151 i5))) else (ix 7 (o34.2 146 11)).bind fun i39 => (some (uh o34.2 150 i28 (o34.2 149 i39))).bind fun s41 => (xm_tested s41).bind fun o45 => if w32 o45.1 = 0 then some (0, o45.2) else xm_isPriceHere_j110 o45.2 ((48 * (o1 146 11)) + (4 * (o1 151 i5)))
set_option maxRecDepth 100000 in
theorem xm_isPriceHere_ok {d : Nat} {P : Option Value → pm_H → Prop} {w : pm_H} {sh : Shp} {w0 : pm_H} {s : Hp} (hS : StM sh) (h : Rw sh w0 s w) {o : Int × Hp} (hx : xm_isPriceHere s = some o) (kr : ∀ w1, Rw sh w0 o.2 w1 → P (some (.int (Int32.ofInt o.1))) w1) : wp (d + 9) 174 0 (lv_args 0 [.ref 146]) [] w P := by
  show wp _ 174 0 [(0, .ref 146)] [] w _
  unfold xm_isPriceHere at hx
  refine wp_g 1 (pc1 := 1) (lv1 := [(0, .ref 146)]) (st1 := [.ref 146]) (w1 := w) rfl ?_
  obtain ⟨o1, e2, hx⟩ := bd hx
  refine wp_cl [.ref 146] [] (i := .invokevirtual 126) (ln := 3) (a := 157) (b := 0) (z := 0) (by decide +kernel) rfl rfl (by decide) rfl (show (1 : Nat) = pm_na 157 by decide +kernel) (Nat.le_of_ble_eq_true rfl) (show (1 : Nat) ≤ pm_n 157 by decide +kernel) (rcv_x 12 h (hS _ _ sm_146) (by decide +kernel)) (xm_passWord_ok (d := d + 7) hS h e2 (fun w3 h4 => ?_))
  show wp _ 174 4 [(0, .ref 146)] [] w3 _
  refine wp_g 2 (pc1 := 7) (lv1 := [(0, .ref 146)]) (st1 := [.ref 146, .int (Int32.ofInt 48)]) (w1 := w3) rfl ?_
  refine wx_gi (kf := 165) (ln := 3) (ci := 12) (b := 11) (zz := 0) (x := 146) (by decide +kernel) h4 (hS _ _ sm_146) rfl ?_
  show wp _ 174 10 [(0, .ref 146)] [.int (Int32.ofInt (o1 146 11)), .int (Int32.ofInt 48)] w3 _
  refine wp_g 3 (pc1 := 13) (lv1 := [(0, .ref 146)]) (st1 := [.ref 146, .int (Int32.ofInt 4), .int (Int32.ofInt (48 * (o1 146 11)))]) (w1 := w3) (by simp only [Int32.ofInt_add, Int32.ofInt_sub, Int32.ofInt_mul, Int32.ofInt_neg, p_and, p_or, p_xor, p_shl, p_shr, p_usr, p_w8, p_c16, p_lI, q_and, q_or, q_shl, q_shr, q_w32, Int64.ofInt_add, Int64.ofInt_sub, Int64.ofInt_mul, p_mx, p_mn, q_mx, q_mn]; rfl) ?_
  refine wx_gr (o := 5) (kf := 23) (ln := 3) (ci := 12) (b := 6) (zz := 0) (x := 146) (by decide +kernel) h4 (hS _ _ sm_146) rfl ?_
  show wp _ 174 16 [(0, .ref 146)] [.ref 151, .int (Int32.ofInt 4), .int (Int32.ofInt (48 * (o1 146 11)))] w3 _
  refine wp_g 1 (pc1 := 17) (lv1 := [(0, .ref 146)]) (st1 := [.ref 146, .ref 151, .int (Int32.ofInt 4), .int (Int32.ofInt (48 * (o1 146 11)))]) (w1 := w3) rfl ?_
  refine wx_gi (kf := 165) (ln := 3) (ci := 12) (b := 11) (zz := 0) (x := 146) (by decide +kernel) h4 (hS _ _ sm_146) rfl ?_
  show wp _ 174 20 [(0, .ref 146)] [.int (Int32.ofInt (o1 146 11)), .ref 151, .int (Int32.ofInt 4), .int (Int32.ofInt (48 * (o1 146 11)))] w3 _
  obtain ⟨i5, e6, hx⟩ := bd hx
  refine wx_ra (x := 151) (n := 6) (ln := 1) (a := 0) (b := 0) (zz := 0) (by decide +kernel) h4 (hS _ _ sm_151) e6 ?_
  show wp _ 174 21 [(0, .ref 146)] [.int (Int32.ofInt (o1 151 i5)), .int (Int32.ofInt 4), .int (Int32.ofInt (48 * (o1 146 11)))] w3 _
  refine wp_g 4 (pc1 := 25) (lv1 := [(1, .int (Int32.ofInt ((48 * (o1 146 11)) + (4 * (o1 151 i5))))), (0, .ref 146)]) (st1 := [.ref 146]) (w1 := w3) (by simp only [Int32.ofInt_add, Int32.ofInt_sub, Int32.ofInt_mul, Int32.ofInt_neg, p_and, p_or, p_xor, p_shl, p_shr, p_usr, p_w8, p_c16, p_lI, q_and, q_or, q_shl, q_shr, q_w32, Int64.ofInt_add, Int64.ofInt_sub, Int64.ofInt_mul, p_mx, p_mn, q_mx, q_mn]; rfl) ?_
  refine wx_gr (o := 4) (kf := 20) (ln := 3) (ci := 12) (b := 5) (zz := 0) (x := 146) (by decide +kernel) h4 (hS _ _ sm_146) rfl ?_
  show wp _ 174 28 [(1, .int (Int32.ofInt ((48 * (o1 146 11)) + (4 * (o1 151 i5))))), (0, .ref 146)] [.ref 150] w3 _
  refine wp_g 2 (pc1 := 30) (lv1 := [(1, .int (Int32.ofInt ((48 * (o1 146 11)) + (4 * (o1 151 i5))))), (0, .ref 146)]) (st1 := [.ref 146, .int (Int32.ofInt ((48 * (o1 146 11)) + (4 * (o1 151 i5)))), .ref 150]) (w1 := w3) rfl ?_
  refine wx_gr (o := 3) (kf := 17) (ln := 3) (ci := 12) (b := 4) (zz := 0) (x := 146) (by decide +kernel) h4 (hS _ _ sm_146) rfl ?_
  show wp _ 174 33 [(1, .int (Int32.ofInt ((48 * (o1 146 11)) + (4 * (o1 151 i5))))), (0, .ref 146)] [.ref 149, .int (Int32.ofInt ((48 * (o1 146 11)) + (4 * (o1 151 i5)))), .ref 150] w3 _
  refine wp_g 1 (pc1 := 34) (lv1 := [(1, .int (Int32.ofInt ((48 * (o1 146 11)) + (4 * (o1 151 i5))))), (0, .ref 146)]) (st1 := [.ref 146, .ref 149, .int (Int32.ofInt ((48 * (o1 146 11)) + (4 * (o1 151 i5)))), .ref 150]) (w1 := w3) rfl ?_
  refine wx_gi (kf := 165) (ln := 3) (ci := 12) (b := 11) (zz := 0) (x := 146) (by decide +kernel) h4 (hS _ _ sm_146) rfl ?_
  show wp _ 174 37 [(1, .int (Int32.ofInt ((48 * (o1 146 11)) + (4 * (o1 151 i5))))), (0, .ref 146)] [.int (Int32.ofInt (o1 146 11)), .ref 149, .int (Int32.ofInt ((48 * (o1 146 11)) + (4 * (o1 151 i5)))), .ref 150] w3 _
  obtain ⟨i7, e8, hx⟩ := bd hx
  refine wx_ra (x := 149) (n := 7) (ln := 1) (a := 0) (b := 0) (zz := 0) (by decide +kernel) h4 (hS _ _ sm_149) e8 ?_
  show wp _ 174 38 [(1, .int (Int32.ofInt ((48 * (o1 146 11)) + (4 * (o1 151 i5))))), (0, .ref 146)] [.int (Int32.ofInt (o1 149 i7)), .int (Int32.ofInt ((48 * (o1 146 11)) + (4 * (o1 151 i5)))), .ref 150] w3 _
  obtain ⟨i9, e10, hx⟩ := bd hx
  obtain ⟨s11, e12, hx⟩ := bd hx
  refine wx_wa (x := 150) (n := 288) (ln := 1) (a := 0) (b := 0) (zz := 0) (by decide +kernel) h4 (hS _ _ sm_150) e10 e12 (fun w13 h14 => ?_)
  refine wp_g 1 (pc1 := 40) (lv1 := [(1, .int (Int32.ofInt ((48 * (o1 146 11)) + (4 * (o1 151 i5))))), (0, .ref 146)]) (st1 := [.ref 146]) (w1 := w13) rfl ?_
  obtain ⟨o15, e16, hx⟩ := bd hx
  refine wp_cl [.ref 146] [] (i := .invokevirtual 202) (ln := 3) (a := 168) (b := 0) (z := 0) (by decide +kernel) rfl rfl (by decide) rfl (show (1 : Nat) = pm_na 168 by decide +kernel) (Nat.le_of_ble_eq_true rfl) (show (1 : Nat) ≤ pm_n 168 by decide +kernel) (rcv_x 12 h14 (hS _ _ sm_146) (by decide +kernel)) (xm_sum_ok (d := d + 3) hS h14 e16 (fun w17 h18 => ?_))
  show wp _ 174 43 [(1, .int (Int32.ofInt ((48 * (o1 146 11)) + (4 * (o1 151 i5))))), (0, .ref 146)] [.int (Int32.ofInt o15.1)] w17 _
  refine wz_ne (oo := 5) (ln := 3) (a := 48) (b := 0) (zz := 0) (by decide +kernel) (fun h19 => ?_) (fun h19 => ?_)
  · have hx := ite_f h19 hx
    refine wp_g 1 (pc1 := 49) (lv1 := [(1, .int (Int32.ofInt ((48 * (o1 146 11)) + (4 * (o1 151 i5))))), (0, .ref 146)]) (st1 := [.ref 146]) (w1 := w17) rfl ?_
    refine wx_gr (o := 4) (kf := 20) (ln := 3) (ci := 12) (b := 5) (zz := 0) (x := 146) (by decide +kernel) h18 (hS _ _ sm_146) rfl ?_
    show wp _ 174 52 [(1, .int (Int32.ofInt ((48 * (o1 146 11)) + (4 * (o1 151 i5))))), (0, .ref 146)] [.ref 150] w17 _
    refine wp_g 4 (pc1 := 56) (lv1 := [(1, .int (Int32.ofInt ((48 * (o1 146 11)) + (4 * (o1 151 i5))))), (0, .ref 146)]) (st1 := [.ref 146, .int (Int32.ofInt (((48 * (o1 146 11)) + (4 * (o1 151 i5))) + 1)), .ref 150]) (w1 := w17) (by simp only [Int32.ofInt_add, Int32.ofInt_sub, Int32.ofInt_mul, Int32.ofInt_neg, p_and, p_or, p_xor, p_shl, p_shr, p_usr, p_w8, p_c16, p_lI, q_and, q_or, q_shl, q_shr, q_w32, Int64.ofInt_add, Int64.ofInt_sub, Int64.ofInt_mul, p_mx, p_mn, q_mx, q_mn]; rfl) ?_
    refine wx_gr (o := 3) (kf := 17) (ln := 3) (ci := 12) (b := 4) (zz := 0) (x := 146) (by decide +kernel) h18 (hS _ _ sm_146) rfl ?_
    show wp _ 174 59 [(1, .int (Int32.ofInt ((48 * (o1 146 11)) + (4 * (o1 151 i5))))), (0, .ref 146)] [.ref 149, .int (Int32.ofInt (((48 * (o1 146 11)) + (4 * (o1 151 i5))) + 1)), .ref 150] w17 _
    refine wp_g 1 (pc1 := 60) (lv1 := [(1, .int (Int32.ofInt ((48 * (o1 146 11)) + (4 * (o1 151 i5))))), (0, .ref 146)]) (st1 := [.ref 146, .ref 149, .int (Int32.ofInt (((48 * (o1 146 11)) + (4 * (o1 151 i5))) + 1)), .ref 150]) (w1 := w17) rfl ?_
    refine wx_gi (kf := 165) (ln := 3) (ci := 12) (b := 11) (zz := 0) (x := 146) (by decide +kernel) h18 (hS _ _ sm_146) rfl ?_
    show wp _ 174 63 [(1, .int (Int32.ofInt ((48 * (o1 146 11)) + (4 * (o1 151 i5))))), (0, .ref 146)] [.int (Int32.ofInt (o15.2 146 11)), .ref 149, .int (Int32.ofInt (((48 * (o1 146 11)) + (4 * (o1 151 i5))) + 1)), .ref 150] w17 _
    obtain ⟨i20, e21, hx⟩ := bd hx
    refine wx_ra (x := 149) (n := 7) (ln := 1) (a := 0) (b := 0) (zz := 0) (by decide +kernel) h18 (hS _ _ sm_149) e21 ?_
    show wp _ 174 64 [(1, .int (Int32.ofInt ((48 * (o1 146 11)) + (4 * (o1 151 i5))))), (0, .ref 146)] [.int (Int32.ofInt (o15.2 149 i20)), .int (Int32.ofInt (((48 * (o1 146 11)) + (4 * (o1 151 i5))) + 1)), .ref 150] w17 _
    obtain ⟨i22, e23, hx⟩ := bd hx
    obtain ⟨s24, e25, hx⟩ := bd hx
    refine wx_wa (x := 150) (n := 288) (ln := 1) (a := 0) (b := 0) (zz := 0) (by decide +kernel) h18 (hS _ _ sm_150) e23 e25 (fun w26 h27 => ?_)
    refine wp_g 1 (pc1 := 66) (lv1 := [(1, .int (Int32.ofInt ((48 * (o1 146 11)) + (4 * (o1 151 i5))))), (0, .ref 146)]) (st1 := [.ref 146]) (w1 := w26) rfl ?_
    refine wx_gr (o := 4) (kf := 20) (ln := 3) (ci := 12) (b := 5) (zz := 0) (x := 146) (by decide +kernel) h27 (hS _ _ sm_146) rfl ?_
    show wp _ 174 69 [(1, .int (Int32.ofInt ((48 * (o1 146 11)) + (4 * (o1 151 i5))))), (0, .ref 146)] [.ref 150] w26 _
    refine wp_g 4 (pc1 := 73) (lv1 := [(1, .int (Int32.ofInt ((48 * (o1 146 11)) + (4 * (o1 151 i5))))), (0, .ref 146)]) (st1 := [.int (Int32.ofInt (-1)), .int (Int32.ofInt (((48 * (o1 146 11)) + (4 * (o1 151 i5))) + 2)), .ref 150]) (w1 := w26) (by simp only [Int32.ofInt_add, Int32.ofInt_sub, Int32.ofInt_mul, Int32.ofInt_neg, p_and, p_or, p_xor, p_shl, p_shr, p_usr, p_w8, p_c16, p_lI, q_and, q_or, q_shl, q_shr, q_w32, Int64.ofInt_add, Int64.ofInt_sub, Int64.ofInt_mul, p_mx, p_mn, q_mx, q_mn]; rfl) ?_
    obtain ⟨i28, e29, hx⟩ := bd hx
    obtain ⟨s30, e31, hx⟩ := bd hx
    refine wx_wa (x := 150) (n := 288) (ln := 1) (a := 0) (b := 0) (zz := 0) (by decide +kernel) h27 (hS _ _ sm_150) e29 e31 (fun w32 h33 => ?_)
    refine wp_g 2 (pc1 := 78) (lv1 := [(1, .int (Int32.ofInt ((48 * (o1 146 11)) + (4 * (o1 151 i5))))), (0, .ref 146)]) (st1 := [.long (Int64.ofInt 26982), .ref 146]) (w1 := w32) rfl ?_
    obtain ⟨o34, e35, hx⟩ := bd hx
    refine wp_cl [.ref 146, .long (Int64.ofInt 26982)] [] (i := .invokevirtual 231) (ln := 3) (a := 158) (b := 0) (z := 0) (by decide +kernel) rfl rfl (by decide) rfl (show (2 : Nat) = pm_na 158 by decide +kernel) (Nat.le_of_ble_eq_true rfl) (show (3 : Nat) ≤ pm_n 158 by decide +kernel) (rcv_x 12 h33 (hS _ _ sm_146) (by decide +kernel)) (xm_takesWord_ok (d := d + 6) hS h33 e35 (fun w36 h37 => ?_))
    show wp _ 174 81 [(1, .int (Int32.ofInt ((48 * (o1 146 11)) + (4 * (o1 151 i5))))), (0, .ref 146)] [.int (Int32.ofInt o34.1)] w36 _
    refine wz_eq (oo := 29) (ln := 3) (a := 110) (b := 0) (zz := 0) (by decide +kernel) (fun h38 => ?_) (fun h38 => ?_)
    · have hx := ite_t h38 hx
      refine wp_lv (lv1 := [(0, .ref 146), (1, .int (Int32.ofInt ((48 * (o1 146 11)) + (4 * (o1 151 i5)))))]) (lsub_p [1, 0] rfl rfl rfl) ?_
      exact xm_isPriceHere_j110_ok hS h37 hx kr
    · have hx := ite_f h38 hx
      refine wp_g 1 (pc1 := 85) (lv1 := [(1, .int (Int32.ofInt ((48 * (o1 146 11)) + (4 * (o1 151 i5))))), (0, .ref 146)]) (st1 := [.ref 146]) (w1 := w36) rfl ?_
      refine wx_gr (o := 4) (kf := 20) (ln := 3) (ci := 12) (b := 5) (zz := 0) (x := 146) (by decide +kernel) h37 (hS _ _ sm_146) rfl ?_
      show wp _ 174 88 [(1, .int (Int32.ofInt ((48 * (o1 146 11)) + (4 * (o1 151 i5))))), (0, .ref 146)] [.ref 150] w36 _
      refine wp_g 4 (pc1 := 92) (lv1 := [(1, .int (Int32.ofInt ((48 * (o1 146 11)) + (4 * (o1 151 i5))))), (0, .ref 146)]) (st1 := [.ref 146, .int (Int32.ofInt (((48 * (o1 146 11)) + (4 * (o1 151 i5))) + 2)), .ref 150]) (w1 := w36) (by simp only [Int32.ofInt_add, Int32.ofInt_sub, Int32.ofInt_mul, Int32.ofInt_neg, p_and, p_or, p_xor, p_shl, p_shr, p_usr, p_w8, p_c16, p_lI, q_and, q_or, q_shl, q_shr, q_w32, Int64.ofInt_add, Int64.ofInt_sub, Int64.ofInt_mul, p_mx, p_mn, q_mx, q_mn]; rfl) ?_
      refine wx_gr (o := 3) (kf := 17) (ln := 3) (ci := 12) (b := 4) (zz := 0) (x := 146) (by decide +kernel) h37 (hS _ _ sm_146) rfl ?_
      show wp _ 174 95 [(1, .int (Int32.ofInt ((48 * (o1 146 11)) + (4 * (o1 151 i5))))), (0, .ref 146)] [.ref 149, .int (Int32.ofInt (((48 * (o1 146 11)) + (4 * (o1 151 i5))) + 2)), .ref 150] w36 _
      refine wp_g 1 (pc1 := 96) (lv1 := [(1, .int (Int32.ofInt ((48 * (o1 146 11)) + (4 * (o1 151 i5))))), (0, .ref 146)]) (st1 := [.ref 146, .ref 149, .int (Int32.ofInt (((48 * (o1 146 11)) + (4 * (o1 151 i5))) + 2)), .ref 150]) (w1 := w36) rfl ?_
      refine wx_gi (kf := 165) (ln := 3) (ci := 12) (b := 11) (zz := 0) (x := 146) (by decide +kernel) h37 (hS _ _ sm_146) rfl ?_
      show wp _ 174 99 [(1, .int (Int32.ofInt ((48 * (o1 146 11)) + (4 * (o1 151 i5))))), (0, .ref 146)] [.int (Int32.ofInt (o34.2 146 11)), .ref 149, .int (Int32.ofInt (((48 * (o1 146 11)) + (4 * (o1 151 i5))) + 2)), .ref 150] w36 _
      obtain ⟨i39, e40, hx⟩ := bd hx
      refine wx_ra (x := 149) (n := 7) (ln := 1) (a := 0) (b := 0) (zz := 0) (by decide +kernel) h37 (hS _ _ sm_149) e40 ?_
      show wp _ 174 100 [(1, .int (Int32.ofInt ((48 * (o1 146 11)) + (4 * (o1 151 i5))))), (0, .ref 146)] [.int (Int32.ofInt (o34.2 149 i39)), .int (Int32.ofInt (((48 * (o1 146 11)) + (4 * (o1 151 i5))) + 2)), .ref 150] w36 _
      obtain ⟨s41, e42, hx⟩ := bd hx
      refine wx_wa (x := 150) (n := 288) (ln := 1) (a := 0) (b := 0) (zz := 0) (by decide +kernel) h37 (hS _ _ sm_150) e29 e42 (fun w43 h44 => ?_)
      refine wp_g 1 (pc1 := 102) (lv1 := [(1, .int (Int32.ofInt ((48 * (o1 146 11)) + (4 * (o1 151 i5))))), (0, .ref 146)]) (st1 := [.ref 146]) (w1 := w43) rfl ?_
      obtain ⟨o45, e46, hx⟩ := bd hx
      refine wp_cl [.ref 146] [] (i := .invokevirtual 234) (ln := 3) (a := 173) (b := 0) (z := 0) (by decide +kernel) rfl rfl (by decide) rfl (show (1 : Nat) = pm_na 173 by decide +kernel) (Nat.le_of_ble_eq_true rfl) (show (1 : Nat) ≤ pm_n 173 by decide +kernel) (rcv_x 12 h44 (hS _ _ sm_146) (by decide +kernel)) (xm_tested_ok (d := d) hS h44 e46 (fun w47 h48 => ?_))
      show wp _ 174 105 [(1, .int (Int32.ofInt ((48 * (o1 146 11)) + (4 * (o1 151 i5))))), (0, .ref 146)] [.int (Int32.ofInt o45.1)] w47 _
      refine wz_ne (oo := 5) (ln := 3) (a := 110) (b := 0) (zz := 0) (by decide +kernel) (fun h49 => ?_) (fun h49 => ?_)
      · have hx := ite_f h49 hx
        refine wp_lv (lv1 := [(0, .ref 146), (1, .int (Int32.ofInt ((48 * (o1 146 11)) + (4 * (o1 151 i5)))))]) (lsub_p [1, 0] rfl rfl rfl) ?_
        exact xm_isPriceHere_j110_ok hS h48 hx kr
      · have hx := ite_t h49 hx
        refine wp_g 1 (pc1 := 109) (lv1 := [(1, .int (Int32.ofInt ((48 * (o1 146 11)) + (4 * (o1 151 i5))))), (0, .ref 146)]) (st1 := [.int (Int32.ofInt 0)]) (w1 := w47) rfl ?_
        refine wp_rt (i := .ireturn) (r := some (.int (Int32.ofInt 0))) (ln := 1) (a := 0) (b := 0) (z := 0) (by decide +kernel) rfl (ret_b (by decide +kernel) (Or.inl rfl)) ?_
        cases hx
        exact kr _ h48
  · have hx := ite_t h19 hx
    refine wp_g 1 (pc1 := 47) (lv1 := [(1, .int (Int32.ofInt ((48 * (o1 146 11)) + (4 * (o1 151 i5))))), (0, .ref 146)]) (st1 := [.int (Int32.ofInt 0)]) (w1 := w17) rfl ?_
    refine wp_rt (i := .ireturn) (r := some (.int (Int32.ofInt 0))) (ln := 1) (a := 0) (b := 0) (z := 0) (by decide +kernel) rfl (ret_b (by decide +kernel) (Or.inl rfl)) ?_
    cases hx
    exact kr _ h18
/-- FoldDeedsModel.cellHere (III)Z -/
noncomputable def xm_cellHere (s : Hp) (p1 : Int) (p2 : Int) (p3 : Int) : Option (Int × Hp) :=
  (xm_numberHere s p2 p3).bind fun o1 => if w32 o1.1 = 0 then some (0, o1.2) else (ix 82 p1).bind fun i6 => (some (uh o1.2 152 i6 (o1.2 146 10))).bind fun s8 => some (1, s8)
set_option maxRecDepth 100000 in
theorem xm_cellHere_ok {d : Nat} {P : Option Value → pm_H → Prop} {w : pm_H} {sh : Shp} {w0 : pm_H} {s : Hp} (hS : StM sh) {p1 : Int} {p2 : Int} {p3 : Int} (h : Rw sh w0 s w) {o : Int × Hp} (hx : xm_cellHere s p1 p2 p3 = some o) (kr : ∀ w1, Rw sh w0 o.2 w1 → P (some (.int (Int32.ofInt o.1))) w1) : wp (d + 2) 175 0 (lv_args 0 [.ref 146, .int (Int32.ofInt p1), .int (Int32.ofInt p2), .int (Int32.ofInt p3)]) [] w P := by
  show wp _ 175 0 [(0, .ref 146), (1, .int (Int32.ofInt p1)), (2, .int (Int32.ofInt p2)), (3, .int (Int32.ofInt p3))] [] w _
  unfold xm_cellHere at hx
  refine wp_g 3 (pc1 := 3) (lv1 := [(0, .ref 146), (1, .int (Int32.ofInt p1)), (2, .int (Int32.ofInt p2)), (3, .int (Int32.ofInt p3))]) (st1 := [.int (Int32.ofInt p3), .int (Int32.ofInt p2), .ref 146]) (w1 := w) rfl ?_
  obtain ⟨o1, e2, hx⟩ := bd hx
  refine wp_cl [.ref 146, .int (Int32.ofInt p2), .int (Int32.ofInt p3)] [] (i := .invokevirtual 186) (ln := 3) (a := 159) (b := 0) (z := 0) (by decide +kernel) rfl rfl (by decide) rfl (show (3 : Nat) = pm_na 159 by decide +kernel) (Nat.le_of_ble_eq_true rfl) (show (3 : Nat) ≤ pm_n 159 by decide +kernel) (rcv_x 12 h (hS _ _ sm_146) (by decide +kernel)) (xm_numberHere_ok (d := d) hS h e2 (fun w3 h4 => ?_))
  show wp _ 175 6 [(0, .ref 146), (1, .int (Int32.ofInt p1)), (2, .int (Int32.ofInt p2)), (3, .int (Int32.ofInt p3))] [.int (Int32.ofInt o1.1)] w3 _
  refine wz_ne (oo := 5) (ln := 3) (a := 11) (b := 0) (zz := 0) (by decide +kernel) (fun h5 => ?_) (fun h5 => ?_)
  · have hx := ite_f h5 hx
    refine wp_g 1 (pc1 := 12) (lv1 := [(0, .ref 146), (1, .int (Int32.ofInt p1)), (2, .int (Int32.ofInt p2)), (3, .int (Int32.ofInt p3))]) (st1 := [.ref 146]) (w1 := w3) rfl ?_
    refine wx_gr (o := 6) (kf := 26) (ln := 3) (ci := 12) (b := 7) (zz := 0) (x := 146) (by decide +kernel) h4 (hS _ _ sm_146) rfl ?_
    show wp _ 175 15 [(0, .ref 146), (1, .int (Int32.ofInt p1)), (2, .int (Int32.ofInt p2)), (3, .int (Int32.ofInt p3))] [.ref 152] w3 _
    refine wp_g 2 (pc1 := 17) (lv1 := [(0, .ref 146), (1, .int (Int32.ofInt p1)), (2, .int (Int32.ofInt p2)), (3, .int (Int32.ofInt p3))]) (st1 := [.ref 146, .int (Int32.ofInt p1), .ref 152]) (w1 := w3) rfl ?_
    refine wx_gi (kf := 136) (ln := 3) (ci := 12) (b := 10) (zz := 0) (x := 146) (by decide +kernel) h4 (hS _ _ sm_146) rfl ?_
    show wp _ 175 20 [(0, .ref 146), (1, .int (Int32.ofInt p1)), (2, .int (Int32.ofInt p2)), (3, .int (Int32.ofInt p3))] [.int (Int32.ofInt (o1.2 146 10)), .int (Int32.ofInt p1), .ref 152] w3 _
    obtain ⟨i6, e7, hx⟩ := bd hx
    obtain ⟨s8, e9, hx⟩ := bd hx
    refine wx_wa (x := 152) (n := 82) (ln := 1) (a := 0) (b := 0) (zz := 0) (by decide +kernel) h4 (hS _ _ sm_152) e7 e9 (fun w10 h11 => ?_)
    refine wp_g 1 (pc1 := 22) (lv1 := [(0, .ref 146), (1, .int (Int32.ofInt p1)), (2, .int (Int32.ofInt p2)), (3, .int (Int32.ofInt p3))]) (st1 := [.int (Int32.ofInt 1)]) (w1 := w10) rfl ?_
    refine wp_rt (i := .ireturn) (r := some (.int (Int32.ofInt 1))) (ln := 1) (a := 0) (b := 0) (z := 0) (by decide +kernel) rfl (ret_b (by decide +kernel) (Or.inr rfl)) ?_
    cases hx
    exact kr _ h11
  · have hx := ite_t h5 hx
    refine wp_g 1 (pc1 := 10) (lv1 := [(0, .ref 146), (1, .int (Int32.ofInt p1)), (2, .int (Int32.ofInt p2)), (3, .int (Int32.ofInt p3))]) (st1 := [.int (Int32.ofInt 0)]) (w1 := w3) rfl ?_
    refine wp_rt (i := .ireturn) (r := some (.int (Int32.ofInt 0))) (ln := 1) (a := 0) (b := 0) (z := 0) (by decide +kernel) rfl (ret_b (by decide +kernel) (Or.inl rfl)) ?_
    cases hx
    exact kr _ h4
noncomputable def xm_isClothHere_b35 (s : Hp) (x2 : Int) : Option ((Int × Hp) ⊕ (Int × Hp)) :=
  if w32 x2 < w32 8 then (ix 82 (55 + x2)).bind fun i2 => (some (uh s 152 i2 1)).bind fun s4 => (ix 82 (63 + x2)).bind fun i8 => (some (uh s4 152 i8 (-1))).bind fun s10 => some (.inl (x2 + 1, s10)) else some (.inr (x2, s))
set_option maxRecDepth 100000 in
theorem xm_isClothHere_b35_ok {d : Nat} {P : Option Value → pm_H → Prop} {w : pm_H} {sh : Shp} {w0 : pm_H} {s : Hp} (hS : StM sh) {x2 : Int} (h : Rw sh w0 s w) {o : ((Int × Hp) ⊕ (Int × Hp))} (hx : xm_isClothHere_b35 s x2 = some o) (kn : ∀ (q : Int × Hp) w1, o = .inl q → Rw sh w0 q.2 w1 → wp (d + 3) 176 35 [(0, .ref 146), (2, .int (Int32.ofInt q.1))] [] w1 P) (kc : ∀ (r : (Int × Hp)), o = .inr r → (∀ w1, Rw sh w0 r.2 w1 → wp (d + 3) 176 67 [(0, .ref 146), (2, .int (Int32.ofInt r.1))] [] w1 P)) : wp (d + 3) 176 35 [(0, .ref 146), (2, .int (Int32.ofInt x2))] [] w P := by
  unfold xm_isClothHere_b35 at hx
  refine wp_g 2 (pc1 := 38) (lv1 := [(0, .ref 146), (2, .int (Int32.ofInt x2))]) (st1 := [.int (Int32.ofInt 8), .int (Int32.ofInt x2)]) (w1 := w) rfl ?_
  refine wx_ge (oo := 29) (ln := 3) (a := 67) (b := 0) (zz := 0) (by decide +kernel) (fun h1 => ?_) (fun h1 => ?_)
  · have hx := ite_f h1 hx
    cases hx
    exact kc _ rfl _ h
  · have hx := ite_t h1 hx
    refine wp_g 1 (pc1 := 42) (lv1 := [(0, .ref 146), (2, .int (Int32.ofInt x2))]) (st1 := [.ref 146]) (w1 := w) rfl ?_
    refine wx_gr (o := 6) (kf := 26) (ln := 3) (ci := 12) (b := 7) (zz := 0) (x := 146) (by decide +kernel) h (hS _ _ sm_146) rfl ?_
    show wp _ 176 45 [(0, .ref 146), (2, .int (Int32.ofInt x2))] [.ref 152] w _
    refine wp_g 4 (pc1 := 50) (lv1 := [(0, .ref 146), (2, .int (Int32.ofInt x2))]) (st1 := [.int (Int32.ofInt 1), .int (Int32.ofInt (55 + x2)), .ref 152]) (w1 := w) (by simp only [Int32.ofInt_add, Int32.ofInt_sub, Int32.ofInt_mul, Int32.ofInt_neg, p_and, p_or, p_xor, p_shl, p_shr, p_usr, p_w8, p_c16, p_lI, q_and, q_or, q_shl, q_shr, q_w32, Int64.ofInt_add, Int64.ofInt_sub, Int64.ofInt_mul, p_mx, p_mn, q_mx, q_mn]; rfl) ?_
    obtain ⟨i2, e3, hx⟩ := bd hx
    obtain ⟨s4, e5, hx⟩ := bd hx
    refine wx_wa (x := 152) (n := 82) (ln := 1) (a := 0) (b := 0) (zz := 0) (by decide +kernel) h (hS _ _ sm_152) e3 e5 (fun w6 h7 => ?_)
    refine wp_g 1 (pc1 := 52) (lv1 := [(0, .ref 146), (2, .int (Int32.ofInt x2))]) (st1 := [.ref 146]) (w1 := w6) rfl ?_
    refine wx_gr (o := 6) (kf := 26) (ln := 3) (ci := 12) (b := 7) (zz := 0) (x := 146) (by decide +kernel) h7 (hS _ _ sm_146) rfl ?_
    show wp _ 176 55 [(0, .ref 146), (2, .int (Int32.ofInt x2))] [.ref 152] w6 _
    refine wp_g 4 (pc1 := 60) (lv1 := [(0, .ref 146), (2, .int (Int32.ofInt x2))]) (st1 := [.int (Int32.ofInt (-1)), .int (Int32.ofInt (63 + x2)), .ref 152]) (w1 := w6) (by simp only [Int32.ofInt_add, Int32.ofInt_sub, Int32.ofInt_mul, Int32.ofInt_neg, p_and, p_or, p_xor, p_shl, p_shr, p_usr, p_w8, p_c16, p_lI, q_and, q_or, q_shl, q_shr, q_w32, Int64.ofInt_add, Int64.ofInt_sub, Int64.ofInt_mul, p_mx, p_mn, q_mx, q_mn]; rfl) ?_
    obtain ⟨i8, e9, hx⟩ := bd hx
    obtain ⟨s10, e11, hx⟩ := bd hx
    refine wx_wa (x := 152) (n := 82) (ln := 1) (a := 0) (b := 0) (zz := 0) (by decide +kernel) h7 (hS _ _ sm_152) e9 e11 (fun w12 h13 => ?_)
    refine wp_g 2 (pc1 := 35) (lv1 := [(2, .int (Int32.ofInt (x2 + 1))), (0, .ref 146)]) (st1 := []) (w1 := w12) (by simp only [Int32.ofInt_add, Int32.ofInt_sub, Int32.ofInt_mul, Int32.ofInt_neg, p_and, p_or, p_xor, p_shl, p_shr, p_usr, p_w8, p_c16, p_lI, q_and, q_or, q_shl, q_shr, q_w32, Int64.ofInt_add, Int64.ofInt_sub, Int64.ofInt_mul, p_mx, p_mn, q_mx, q_mn]; rfl) ?_
    refine wp_lv (lv1 := [(0, .ref 146), (2, .int (Int32.ofInt (x2 + 1)))]) (lsub_p [1, 0] rfl rfl rfl) ?_
    cases hx
    exact kn _ _ rfl h13
/-- FoldDeedsModel.isClothHere (I)Z -/
noncomputable def xm_isClothHere (s : Hp) (p1 : Int) : Option (Int × Hp) :=
  (ix 82 0).bind fun i1 => if 0 < w32 (s 152 i1) then (xm_fails s 4 p1).bind fun o17 => if w32 o17.1 = 0 ∨ w32 o17.1 = 1 then some (o17.1, o17.2) else none else (xm_passWord s).bind fun o4 => (xm_cellHere o4 0 2 8).bind fun o8 => if w32 o8.1 = 0 then some (0, o8.2) else (lp (fun (q : Int × Hp) => xm_isClothHere_b35 q.2 q.1) (0, o8.2)).bind fun q13 => some (1, q13.2)
set_option maxRecDepth 100000 in
theorem xm_isClothHere_ok {d : Nat} {P : Option Value → pm_H → Prop} {w : pm_H} {sh : Shp} {w0 : pm_H} {s : Hp} (hS : StM sh) {p1 : Int} (h : Rw sh w0 s w) {o : Int × Hp} (hx : xm_isClothHere s p1 = some o) (kr : ∀ w1, Rw sh w0 o.2 w1 → P (some (.int (Int32.ofInt o.1))) w1) : wp (d + 3) 176 0 (lv_args 0 [.ref 146, .int (Int32.ofInt p1)]) [] w P := by
  show wp _ 176 0 [(0, .ref 146), (1, .int (Int32.ofInt p1))] [] w _
  unfold xm_isClothHere at hx
  refine wp_g 1 (pc1 := 1) (lv1 := [(0, .ref 146), (1, .int (Int32.ofInt p1))]) (st1 := [.ref 146]) (w1 := w) rfl ?_
  refine wx_gr (o := 6) (kf := 26) (ln := 3) (ci := 12) (b := 7) (zz := 0) (x := 146) (by decide +kernel) h (hS _ _ sm_146) rfl ?_
  show wp _ 176 4 [(0, .ref 146), (1, .int (Int32.ofInt p1))] [.ref 152] w _
  refine wp_g 1 (pc1 := 5) (lv1 := [(0, .ref 146), (1, .int (Int32.ofInt p1))]) (st1 := [.int (Int32.ofInt 0), .ref 152]) (w1 := w) rfl ?_
  obtain ⟨i1, e2, hx⟩ := bd hx
  refine wx_ra (x := 152) (n := 82) (ln := 1) (a := 0) (b := 0) (zz := 0) (by decide +kernel) h (hS _ _ sm_152) e2 ?_
  show wp _ 176 6 [(0, .ref 146), (1, .int (Int32.ofInt p1))] [.int (Int32.ofInt (s 152 i1))] w _
  refine wz_le (oo := 10) (ln := 3) (a := 16) (b := 0) (zz := 0) (by decide +kernel) (fun h3 => ?_) (fun h3 => ?_)
  · have hx := ite_f h3 hx
    refine wp_g 1 (pc1 := 17) (lv1 := [(0, .ref 146), (1, .int (Int32.ofInt p1))]) (st1 := [.ref 146]) (w1 := w) rfl ?_
    obtain ⟨o4, e5, hx⟩ := bd hx
    refine wp_cl [.ref 146] [] (i := .invokevirtual 126) (ln := 3) (a := 157) (b := 0) (z := 0) (by decide +kernel) rfl rfl (by decide) rfl (show (1 : Nat) = pm_na 157 by decide +kernel) (Nat.le_of_ble_eq_true rfl) (show (1 : Nat) ≤ pm_n 157 by decide +kernel) (rcv_x 12 h (hS _ _ sm_146) (by decide +kernel)) (xm_passWord_ok (d := d + 1) hS h e5 (fun w6 h7 => ?_))
    show wp _ 176 20 [(0, .ref 146), (1, .int (Int32.ofInt p1))] [] w6 _
    refine wp_g 4 (pc1 := 25) (lv1 := [(0, .ref 146), (1, .int (Int32.ofInt p1))]) (st1 := [.int (Int32.ofInt 8), .int (Int32.ofInt 2), .int (Int32.ofInt 0), .ref 146]) (w1 := w6) rfl ?_
    obtain ⟨o8, e9, hx⟩ := bd hx
    refine wp_cl [.ref 146, .int (Int32.ofInt 0), .int (Int32.ofInt 2), .int (Int32.ofInt 8)] [] (i := .invokevirtual 237) (ln := 3) (a := 175) (b := 0) (z := 0) (by decide +kernel) rfl rfl (by decide) rfl (show (4 : Nat) = pm_na 175 by decide +kernel) (Nat.le_of_ble_eq_true rfl) (show (4 : Nat) ≤ pm_n 175 by decide +kernel) (rcv_x 12 h7 (hS _ _ sm_146) (by decide +kernel)) (xm_cellHere_ok (d := d) hS h7 e9 (fun w10 h11 => ?_))
    show wp _ 176 28 [(0, .ref 146), (1, .int (Int32.ofInt p1))] [.int (Int32.ofInt o8.1)] w10 _
    refine wz_ne (oo := 5) (ln := 3) (a := 33) (b := 0) (zz := 0) (by decide +kernel) (fun h12 => ?_) (fun h12 => ?_)
    · have hx := ite_f h12 hx
      refine wp_g 2 (pc1 := 35) (lv1 := [(2, .int (Int32.ofInt 0)), (0, .ref 146), (1, .int (Int32.ofInt p1))]) (st1 := []) (w1 := w10) rfl ?_
      refine wp_lv (lv1 := [(0, .ref 146), (2, .int (Int32.ofInt 0))]) (lsub_p [1, 0] rfl rfl rfl) ?_
      obtain ⟨q13, e14, hx⟩ := bd hx
      refine wp_lp (σ := Int × Hp) (ρ := (Int × Hp)) (B := fun q => xm_isClothHere_b35 q.2 q.1) (R := fun q w' => Rw sh w0 q.2 w') (C := fun r => ∀ w1, Rw sh w0 r.2 w1 → wp (d + 3) 176 67 [(0, .ref 146), (2, .int (Int32.ofInt r.1))] [] w1 P) (lv := fun q => [(0, .ref 146), (2, .int (Int32.ofInt q.1))]) (hd := 35) (fun q w' o hR hb kn kc => xm_isClothHere_b35_ok hS hR hb kn kc) _ _ _ e14 h11 ?_
      intro w15 h16
      show wp _ 176 67 [(0, .ref 146), (2, .int (Int32.ofInt q13.1))] [] w15 _
      refine wp_g 1 (pc1 := 68) (lv1 := [(0, .ref 146), (2, .int (Int32.ofInt q13.1))]) (st1 := [.int (Int32.ofInt 1)]) (w1 := w15) rfl ?_
      refine wp_rt (i := .ireturn) (r := some (.int (Int32.ofInt 1))) (ln := 1) (a := 0) (b := 0) (z := 0) (by decide +kernel) rfl (ret_b (by decide +kernel) (Or.inr rfl)) ?_
      cases hx
      exact kr _ h16
    · have hx := ite_t h12 hx
      refine wp_g 1 (pc1 := 32) (lv1 := [(0, .ref 146), (1, .int (Int32.ofInt p1))]) (st1 := [.int (Int32.ofInt 0)]) (w1 := w10) rfl ?_
      refine wp_rt (i := .ireturn) (r := some (.int (Int32.ofInt 0))) (ln := 1) (a := 0) (b := 0) (z := 0) (by decide +kernel) rfl (ret_b (by decide +kernel) (Or.inl rfl)) ?_
      cases hx
      exact kr _ h11
  · have hx := ite_t h3 hx
    refine wp_g 3 (pc1 := 12) (lv1 := [(0, .ref 146), (1, .int (Int32.ofInt p1))]) (st1 := [.int (Int32.ofInt p1), .int (Int32.ofInt 4), .ref 146]) (w1 := w) rfl ?_
    obtain ⟨o17, e18, hx⟩ := bd hx
    refine wp_cl [.ref 146, .int (Int32.ofInt 4), .int (Int32.ofInt p1)] [] (i := .invokevirtual 132) (ln := 3) (a := 152) (b := 0) (z := 0) (by decide +kernel) rfl rfl (by decide) rfl (show (3 : Nat) = pm_na 152 by decide +kernel) (Nat.le_of_ble_eq_true rfl) (show (3 : Nat) ≤ pm_n 152 by decide +kernel) (rcv_x 12 h (hS _ _ sm_146) (by decide +kernel)) (xm_fails_ok (d := d + 2) hS h e18 (fun w19 h20 => ?_))
    show wp _ 176 15 [(0, .ref 146), (1, .int (Int32.ofInt p1))] [.int (Int32.ofInt o17.1)] w19 _
    obtain ⟨h21, hx⟩ := gd hx
    refine wp_rt (i := .ireturn) (r := some (.int (Int32.ofInt o17.1))) (ln := 1) (a := 0) (b := 0) (z := 0) (by decide +kernel) rfl (ret_b (by decide +kernel) (w01 h21)) ?_
    cases hx
    exact kr _ h20
/-- FoldDeedsModel.isPersonHere (I)Z -/
noncomputable def xm_isPersonHere (s : Hp) (p1 : Int) : Option (Int × Hp) :=
  (ix 82 1).bind fun i1 => if w32 (s 152 i1) = w32 4 then (xm_fails s 4 p1).bind fun o17 => if w32 o17.1 = 0 ∨ w32 o17.1 = 1 then some (o17.1, o17.2) else none else (xm_passWord s).bind fun o4 => (xm_cellHere o4 (78 + (o4 152 i1)) 0 999).bind fun o8 => if w32 o8.1 = 0 then some (0, o8.2) else (some (uh o8.2 152 i1 ((o8.2 152 i1) + 1))).bind fun s13 => some (1, s13)
set_option maxRecDepth 100000 in
theorem xm_isPersonHere_ok {d : Nat} {P : Option Value → pm_H → Prop} {w : pm_H} {sh : Shp} {w0 : pm_H} {s : Hp} (hS : StM sh) {p1 : Int} (h : Rw sh w0 s w) {o : Int × Hp} (hx : xm_isPersonHere s p1 = some o) (kr : ∀ w1, Rw sh w0 o.2 w1 → P (some (.int (Int32.ofInt o.1))) w1) : wp (d + 3) 177 0 (lv_args 0 [.ref 146, .int (Int32.ofInt p1)]) [] w P := by
  show wp _ 177 0 [(0, .ref 146), (1, .int (Int32.ofInt p1))] [] w _
  unfold xm_isPersonHere at hx
  refine wp_g 1 (pc1 := 1) (lv1 := [(0, .ref 146), (1, .int (Int32.ofInt p1))]) (st1 := [.ref 146]) (w1 := w) rfl ?_
  refine wx_gr (o := 6) (kf := 26) (ln := 3) (ci := 12) (b := 7) (zz := 0) (x := 146) (by decide +kernel) h (hS _ _ sm_146) rfl ?_
  show wp _ 177 4 [(0, .ref 146), (1, .int (Int32.ofInt p1))] [.ref 152] w _
  refine wp_g 1 (pc1 := 5) (lv1 := [(0, .ref 146), (1, .int (Int32.ofInt p1))]) (st1 := [.int (Int32.ofInt 1), .ref 152]) (w1 := w) rfl ?_
  obtain ⟨i1, e2, hx⟩ := bd hx
  refine wx_ra (x := 152) (n := 82) (ln := 1) (a := 0) (b := 0) (zz := 0) (by decide +kernel) h (hS _ _ sm_152) e2 ?_
  show wp _ 177 6 [(0, .ref 146), (1, .int (Int32.ofInt p1))] [.int (Int32.ofInt (s 152 i1))] w _
  refine wp_g 1 (pc1 := 7) (lv1 := [(0, .ref 146), (1, .int (Int32.ofInt p1))]) (st1 := [.int (Int32.ofInt 4), .int (Int32.ofInt (s 152 i1))]) (w1 := w) rfl ?_
  refine wx_ne (oo := 10) (ln := 3) (a := 17) (b := 0) (zz := 0) (by decide +kernel) (fun h3 => ?_) (fun h3 => ?_)
  · have hx := ite_f h3 hx
    refine wp_g 1 (pc1 := 18) (lv1 := [(0, .ref 146), (1, .int (Int32.ofInt p1))]) (st1 := [.ref 146]) (w1 := w) rfl ?_
    obtain ⟨o4, e5, hx⟩ := bd hx
    refine wp_cl [.ref 146] [] (i := .invokevirtual 126) (ln := 3) (a := 157) (b := 0) (z := 0) (by decide +kernel) rfl rfl (by decide) rfl (show (1 : Nat) = pm_na 157 by decide +kernel) (Nat.le_of_ble_eq_true rfl) (show (1 : Nat) ≤ pm_n 157 by decide +kernel) (rcv_x 12 h (hS _ _ sm_146) (by decide +kernel)) (xm_passWord_ok (d := d + 1) hS h e5 (fun w6 h7 => ?_))
    show wp _ 177 21 [(0, .ref 146), (1, .int (Int32.ofInt p1))] [] w6 _
    refine wp_g 3 (pc1 := 25) (lv1 := [(0, .ref 146), (1, .int (Int32.ofInt p1))]) (st1 := [.ref 146, .int (Int32.ofInt 78), .ref 146]) (w1 := w6) rfl ?_
    refine wx_gr (o := 6) (kf := 26) (ln := 3) (ci := 12) (b := 7) (zz := 0) (x := 146) (by decide +kernel) h7 (hS _ _ sm_146) rfl ?_
    show wp _ 177 28 [(0, .ref 146), (1, .int (Int32.ofInt p1))] [.ref 152, .int (Int32.ofInt 78), .ref 146] w6 _
    refine wp_g 1 (pc1 := 29) (lv1 := [(0, .ref 146), (1, .int (Int32.ofInt p1))]) (st1 := [.int (Int32.ofInt 1), .ref 152, .int (Int32.ofInt 78), .ref 146]) (w1 := w6) rfl ?_
    refine wx_ra (x := 152) (n := 82) (ln := 1) (a := 0) (b := 0) (zz := 0) (by decide +kernel) h7 (hS _ _ sm_152) e2 ?_
    show wp _ 177 30 [(0, .ref 146), (1, .int (Int32.ofInt p1))] [.int (Int32.ofInt (o4 152 i1)), .int (Int32.ofInt 78), .ref 146] w6 _
    refine wp_g 3 (pc1 := 35) (lv1 := [(0, .ref 146), (1, .int (Int32.ofInt p1))]) (st1 := [.int (Int32.ofInt 999), .int (Int32.ofInt 0), .int (Int32.ofInt (78 + (o4 152 i1))), .ref 146]) (w1 := w6) (by simp only [Int32.ofInt_add, Int32.ofInt_sub, Int32.ofInt_mul, Int32.ofInt_neg, p_and, p_or, p_xor, p_shl, p_shr, p_usr, p_w8, p_c16, p_lI, q_and, q_or, q_shl, q_shr, q_w32, Int64.ofInt_add, Int64.ofInt_sub, Int64.ofInt_mul, p_mx, p_mn, q_mx, q_mn]; rfl) ?_
    obtain ⟨o8, e9, hx⟩ := bd hx
    refine wp_cl [.ref 146, .int (Int32.ofInt (78 + (o4 152 i1))), .int (Int32.ofInt 0), .int (Int32.ofInt 999)] [] (i := .invokevirtual 237) (ln := 3) (a := 175) (b := 0) (z := 0) (by decide +kernel) rfl rfl (by decide) rfl (show (4 : Nat) = pm_na 175 by decide +kernel) (Nat.le_of_ble_eq_true rfl) (show (4 : Nat) ≤ pm_n 175 by decide +kernel) (rcv_x 12 h7 (hS _ _ sm_146) (by decide +kernel)) (xm_cellHere_ok (d := d) hS h7 e9 (fun w10 h11 => ?_))
    show wp _ 177 38 [(0, .ref 146), (1, .int (Int32.ofInt p1))] [.int (Int32.ofInt o8.1)] w10 _
    refine wz_ne (oo := 5) (ln := 3) (a := 43) (b := 0) (zz := 0) (by decide +kernel) (fun h12 => ?_) (fun h12 => ?_)
    · have hx := ite_f h12 hx
      refine wp_g 1 (pc1 := 44) (lv1 := [(0, .ref 146), (1, .int (Int32.ofInt p1))]) (st1 := [.ref 146]) (w1 := w10) rfl ?_
      refine wx_gr (o := 6) (kf := 26) (ln := 3) (ci := 12) (b := 7) (zz := 0) (x := 146) (by decide +kernel) h11 (hS _ _ sm_146) rfl ?_
      show wp _ 177 47 [(0, .ref 146), (1, .int (Int32.ofInt p1))] [.ref 152] w10 _
      refine wp_g 2 (pc1 := 49) (lv1 := [(0, .ref 146), (1, .int (Int32.ofInt p1))]) (st1 := [.int (Int32.ofInt 1), .ref 152, .int (Int32.ofInt 1), .ref 152]) (w1 := w10) rfl ?_
      refine wx_ra (x := 152) (n := 82) (ln := 1) (a := 0) (b := 0) (zz := 0) (by decide +kernel) h11 (hS _ _ sm_152) e2 ?_
      show wp _ 177 50 [(0, .ref 146), (1, .int (Int32.ofInt p1))] [.int (Int32.ofInt (o8.2 152 i1)), .int (Int32.ofInt 1), .ref 152] w10 _
      refine wp_g 2 (pc1 := 52) (lv1 := [(0, .ref 146), (1, .int (Int32.ofInt p1))]) (st1 := [.int (Int32.ofInt ((o8.2 152 i1) + 1)), .int (Int32.ofInt 1), .ref 152]) (w1 := w10) (by simp only [Int32.ofInt_add, Int32.ofInt_sub, Int32.ofInt_mul, Int32.ofInt_neg, p_and, p_or, p_xor, p_shl, p_shr, p_usr, p_w8, p_c16, p_lI, q_and, q_or, q_shl, q_shr, q_w32, Int64.ofInt_add, Int64.ofInt_sub, Int64.ofInt_mul, p_mx, p_mn, q_mx, q_mn]; rfl) ?_
      obtain ⟨s13, e14, hx⟩ := bd hx
      refine wx_wa (x := 152) (n := 82) (ln := 1) (a := 0) (b := 0) (zz := 0) (by decide +kernel) h11 (hS _ _ sm_152) e2 e14 (fun w15 h16 => ?_)
      refine wp_g 1 (pc1 := 54) (lv1 := [(0, .ref 146), (1, .int (Int32.ofInt p1))]) (st1 := [.int (Int32.ofInt 1)]) (w1 := w15) rfl ?_
      refine wp_rt (i := .ireturn) (r := some (.int (Int32.ofInt 1))) (ln := 1) (a := 0) (b := 0) (z := 0) (by decide +kernel) rfl (ret_b (by decide +kernel) (Or.inr rfl)) ?_
      cases hx
      exact kr _ h16
    · have hx := ite_t h12 hx
      refine wp_g 1 (pc1 := 42) (lv1 := [(0, .ref 146), (1, .int (Int32.ofInt p1))]) (st1 := [.int (Int32.ofInt 0)]) (w1 := w10) rfl ?_
      refine wp_rt (i := .ireturn) (r := some (.int (Int32.ofInt 0))) (ln := 1) (a := 0) (b := 0) (z := 0) (by decide +kernel) rfl (ret_b (by decide +kernel) (Or.inl rfl)) ?_
      cases hx
      exact kr _ h11
  · have hx := ite_t h3 hx
    refine wp_g 3 (pc1 := 13) (lv1 := [(0, .ref 146), (1, .int (Int32.ofInt p1))]) (st1 := [.int (Int32.ofInt p1), .int (Int32.ofInt 4), .ref 146]) (w1 := w) rfl ?_
    obtain ⟨o17, e18, hx⟩ := bd hx
    refine wp_cl [.ref 146, .int (Int32.ofInt 4), .int (Int32.ofInt p1)] [] (i := .invokevirtual 132) (ln := 3) (a := 152) (b := 0) (z := 0) (by decide +kernel) rfl rfl (by decide) rfl (show (3 : Nat) = pm_na 152 by decide +kernel) (Nat.le_of_ble_eq_true rfl) (show (3 : Nat) ≤ pm_n 152 by decide +kernel) (rcv_x 12 h (hS _ _ sm_146) (by decide +kernel)) (xm_fails_ok (d := d + 2) hS h e18 (fun w19 h20 => ?_))
    show wp _ 177 16 [(0, .ref 146), (1, .int (Int32.ofInt p1))] [.int (Int32.ofInt o17.1)] w19 _
    obtain ⟨h21, hx⟩ := gd hx
    refine wp_rt (i := .ireturn) (r := some (.int (Int32.ofInt o17.1))) (ln := 1) (a := 0) (b := 0) (z := 0) (by decide +kernel) rfl (ret_b (by decide +kernel) (w01 h21)) ?_
    cases hx
    exact kr _ h20
/-- FoldDeedsModel.isOneOfRow (IIII)Z -/
noncomputable def xm_isOneOfRow (s : Hp) (p1 : Int) (p2 : Int) (p3 : Int) (p4 : Int) : Option (Int × Hp) :=
  (xm_passWord s).bind fun o1 => (xm_numberHere o1 0 p2).bind fun o5 => if w32 o5.1 = 0 then some (0, o5.2) else (xm_cellHere o5.2 (p1 + (o5.2 146 10)) p3 p4).bind fun o10 => if w32 o10.1 = 0 ∨ w32 o10.1 = 1 then some (o10.1, o10.2) else none
set_option maxRecDepth 100000 in
theorem xm_isOneOfRow_ok {d : Nat} {P : Option Value → pm_H → Prop} {w : pm_H} {sh : Shp} {w0 : pm_H} {s : Hp} (hS : StM sh) {p1 : Int} {p2 : Int} {p3 : Int} {p4 : Int} (h : Rw sh w0 s w) {o : Int × Hp} (hx : xm_isOneOfRow s p1 p2 p3 p4 = some o) (kr : ∀ w1, Rw sh w0 o.2 w1 → P (some (.int (Int32.ofInt o.1))) w1) : wp (d + 3) 178 0 (lv_args 0 [.ref 146, .int (Int32.ofInt p1), .int (Int32.ofInt p2), .int (Int32.ofInt p3), .int (Int32.ofInt p4)]) [] w P := by
  show wp _ 178 0 [(0, .ref 146), (1, .int (Int32.ofInt p1)), (2, .int (Int32.ofInt p2)), (3, .int (Int32.ofInt p3)), (4, .int (Int32.ofInt p4))] [] w _
  unfold xm_isOneOfRow at hx
  refine wp_g 1 (pc1 := 1) (lv1 := [(0, .ref 146), (1, .int (Int32.ofInt p1)), (2, .int (Int32.ofInt p2)), (3, .int (Int32.ofInt p3)), (4, .int (Int32.ofInt p4))]) (st1 := [.ref 146]) (w1 := w) rfl ?_
  obtain ⟨o1, e2, hx⟩ := bd hx
  refine wp_cl [.ref 146] [] (i := .invokevirtual 126) (ln := 3) (a := 157) (b := 0) (z := 0) (by decide +kernel) rfl rfl (by decide) rfl (show (1 : Nat) = pm_na 157 by decide +kernel) (Nat.le_of_ble_eq_true rfl) (show (1 : Nat) ≤ pm_n 157 by decide +kernel) (rcv_x 12 h (hS _ _ sm_146) (by decide +kernel)) (xm_passWord_ok (d := d + 1) hS h e2 (fun w3 h4 => ?_))
  show wp _ 178 4 [(0, .ref 146), (1, .int (Int32.ofInt p1)), (2, .int (Int32.ofInt p2)), (3, .int (Int32.ofInt p3)), (4, .int (Int32.ofInt p4))] [] w3 _
  refine wp_g 3 (pc1 := 7) (lv1 := [(0, .ref 146), (1, .int (Int32.ofInt p1)), (2, .int (Int32.ofInt p2)), (3, .int (Int32.ofInt p3)), (4, .int (Int32.ofInt p4))]) (st1 := [.int (Int32.ofInt p2), .int (Int32.ofInt 0), .ref 146]) (w1 := w3) rfl ?_
  obtain ⟨o5, e6, hx⟩ := bd hx
  refine wp_cl [.ref 146, .int (Int32.ofInt 0), .int (Int32.ofInt p2)] [] (i := .invokevirtual 186) (ln := 3) (a := 159) (b := 0) (z := 0) (by decide +kernel) rfl rfl (by decide) rfl (show (3 : Nat) = pm_na 159 by decide +kernel) (Nat.le_of_ble_eq_true rfl) (show (3 : Nat) ≤ pm_n 159 by decide +kernel) (rcv_x 12 h4 (hS _ _ sm_146) (by decide +kernel)) (xm_numberHere_ok (d := d + 1) hS h4 e6 (fun w7 h8 => ?_))
  show wp _ 178 10 [(0, .ref 146), (1, .int (Int32.ofInt p1)), (2, .int (Int32.ofInt p2)), (3, .int (Int32.ofInt p3)), (4, .int (Int32.ofInt p4))] [.int (Int32.ofInt o5.1)] w7 _
  refine wz_ne (oo := 5) (ln := 3) (a := 15) (b := 0) (zz := 0) (by decide +kernel) (fun h9 => ?_) (fun h9 => ?_)
  · have hx := ite_f h9 hx
    refine wp_g 3 (pc1 := 18) (lv1 := [(0, .ref 146), (1, .int (Int32.ofInt p1)), (2, .int (Int32.ofInt p2)), (3, .int (Int32.ofInt p3)), (4, .int (Int32.ofInt p4))]) (st1 := [.ref 146, .int (Int32.ofInt p1), .ref 146]) (w1 := w7) rfl ?_
    refine wx_gi (kf := 136) (ln := 3) (ci := 12) (b := 10) (zz := 0) (x := 146) (by decide +kernel) h8 (hS _ _ sm_146) rfl ?_
    show wp _ 178 21 [(0, .ref 146), (1, .int (Int32.ofInt p1)), (2, .int (Int32.ofInt p2)), (3, .int (Int32.ofInt p3)), (4, .int (Int32.ofInt p4))] [.int (Int32.ofInt (o5.2 146 10)), .int (Int32.ofInt p1), .ref 146] w7 _
    refine wp_g 3 (pc1 := 25) (lv1 := [(0, .ref 146), (1, .int (Int32.ofInt p1)), (2, .int (Int32.ofInt p2)), (3, .int (Int32.ofInt p3)), (4, .int (Int32.ofInt p4))]) (st1 := [.int (Int32.ofInt p4), .int (Int32.ofInt p3), .int (Int32.ofInt (p1 + (o5.2 146 10))), .ref 146]) (w1 := w7) (by simp only [Int32.ofInt_add, Int32.ofInt_sub, Int32.ofInt_mul, Int32.ofInt_neg, p_and, p_or, p_xor, p_shl, p_shr, p_usr, p_w8, p_c16, p_lI, q_and, q_or, q_shl, q_shr, q_w32, Int64.ofInt_add, Int64.ofInt_sub, Int64.ofInt_mul, p_mx, p_mn, q_mx, q_mn]; rfl) ?_
    obtain ⟨o10, e11, hx⟩ := bd hx
    refine wp_cl [.ref 146, .int (Int32.ofInt (p1 + (o5.2 146 10))), .int (Int32.ofInt p3), .int (Int32.ofInt p4)] [] (i := .invokevirtual 237) (ln := 3) (a := 175) (b := 0) (z := 0) (by decide +kernel) rfl rfl (by decide) rfl (show (4 : Nat) = pm_na 175 by decide +kernel) (Nat.le_of_ble_eq_true rfl) (show (4 : Nat) ≤ pm_n 175 by decide +kernel) (rcv_x 12 h8 (hS _ _ sm_146) (by decide +kernel)) (xm_cellHere_ok (d := d) hS h8 e11 (fun w12 h13 => ?_))
    show wp _ 178 28 [(0, .ref 146), (1, .int (Int32.ofInt p1)), (2, .int (Int32.ofInt p2)), (3, .int (Int32.ofInt p3)), (4, .int (Int32.ofInt p4))] [.int (Int32.ofInt o10.1)] w12 _
    obtain ⟨h14, hx⟩ := gd hx
    refine wp_rt (i := .ireturn) (r := some (.int (Int32.ofInt o10.1))) (ln := 1) (a := 0) (b := 0) (z := 0) (by decide +kernel) rfl (ret_b (by decide +kernel) (w01 h14)) ?_
    cases hx
    exact kr _ h13
  · have hx := ite_t h9 hx
    refine wp_g 1 (pc1 := 14) (lv1 := [(0, .ref 146), (1, .int (Int32.ofInt p1)), (2, .int (Int32.ofInt p2)), (3, .int (Int32.ofInt p3)), (4, .int (Int32.ofInt p4))]) (st1 := [.int (Int32.ofInt 0)]) (w1 := w7) rfl ?_
    refine wp_rt (i := .ireturn) (r := some (.int (Int32.ofInt 0))) (ln := 1) (a := 0) (b := 0) (z := 0) (by decide +kernel) rfl (ret_b (by decide +kernel) (Or.inl rfl)) ?_
    cases hx
    exact kr _ h8
/-- FoldDeedsModel.clothLineHere (I)Z -/
noncomputable def xm_clothLineHere (s : Hp) (p1 : Int) : Option (Int × Hp) :=
  (xm_isWord s 427021005928).bind fun o1 => if w32 o1.1 = 0 then (ix 82 0).bind fun i6 => if w32 (o1.2 152 i6) = 0 then (xm_fails o1.2 4 p1).bind fun o46 => if w32 o46.1 = 0 ∨ w32 o46.1 = 1 then some (o46.1, o46.2) else none else (xm_isWord o1.2 123581014175598).bind fun o9 => if w32 o9.1 = 0 then (xm_isWord o9.2 478745093490).bind fun o14 => if w32 o14.1 = 0 then (xm_isWord o14.2 109342978306917).bind fun o19 => if w32 o19.1 = 0 then (xm_isOneOfRow o19.2 55 ((o19.2 152 i6) - 1) 0 99).bind fun o24 => if w32 o24.1 = 0 ∨ w32 o24.1 = 1 then some (o24.1, o24.2) else none else (xm_isOneOfRow o19.2 71 ((o19.2 152 i6) - 2) 1 2).bind fun o29 => if w32 o29.1 = 0 ∨ w32 o29.1 = 1 then some (o29.1, o29.2) else none else (ix 82 1).bind fun i34 => (xm_isOneOfRow o14.2 63 ((o14.2 152 i6) - 1) 0 ((o14.2 152 i34) - 1)).bind fun o36 => if w32 o36.1 = 0 ∨ w32 o36.1 = 1 then some (o36.1, o36.2) else none else (xm_isPersonHere o9.2 p1).bind fun o41 => if w32 o41.1 = 0 ∨ w32 o41.1 = 1 then some (o41.1, o41.2) else none else (xm_isClothHere o1.2 p1).bind fun o51 => if w32 o51.1 = 0 ∨ w32 o51.1 = 1 then some (o51.1, o51.2) else none
set_option maxRecDepth 100000 in
theorem xm_clothLineHere_ok {d : Nat} {P : Option Value → pm_H → Prop} {w : pm_H} {sh : Shp} {w0 : pm_H} {s : Hp} (hS : StM sh) {p1 : Int} (h : Rw sh w0 s w) {o : Int × Hp} (hx : xm_clothLineHere s p1 = some o) (kr : ∀ w1, Rw sh w0 o.2 w1 → P (some (.int (Int32.ofInt o.1))) w1) : wp (d + 4) 179 0 (lv_args 0 [.ref 146, .int (Int32.ofInt p1)]) [] w P := by
  show wp _ 179 0 [(0, .ref 146), (1, .int (Int32.ofInt p1))] [] w _
  unfold xm_clothLineHere at hx
  refine wp_g 2 (pc1 := 4) (lv1 := [(0, .ref 146), (1, .int (Int32.ofInt p1))]) (st1 := [.long (Int64.ofInt 427021005928), .ref 146]) (w1 := w) rfl ?_
  obtain ⟨o1, e2, hx⟩ := bd hx
  refine wp_cl [.ref 146, .long (Int64.ofInt 427021005928)] [] (i := .invokevirtual 122) (ln := 3) (a := 156) (b := 0) (z := 0) (by decide +kernel) rfl rfl (by decide) rfl (show (2 : Nat) = pm_na 156 by decide +kernel) (Nat.le_of_ble_eq_true rfl) (show (3 : Nat) ≤ pm_n 156 by decide +kernel) (rcv_x 12 h (hS _ _ sm_146) (by decide +kernel)) (xm_isWord_ok (d := d + 2) hS h e2 (fun w3 h4 => ?_))
  show wp _ 179 7 [(0, .ref 146), (1, .int (Int32.ofInt p1))] [.int (Int32.ofInt o1.1)] w3 _
  refine wz_eq (oo := 9) (ln := 3) (a := 16) (b := 0) (zz := 0) (by decide +kernel) (fun h5 => ?_) (fun h5 => ?_)
  · have hx := ite_t h5 hx
    refine wp_g 1 (pc1 := 17) (lv1 := [(0, .ref 146), (1, .int (Int32.ofInt p1))]) (st1 := [.ref 146]) (w1 := w3) rfl ?_
    refine wx_gr (o := 6) (kf := 26) (ln := 3) (ci := 12) (b := 7) (zz := 0) (x := 146) (by decide +kernel) h4 (hS _ _ sm_146) rfl ?_
    show wp _ 179 20 [(0, .ref 146), (1, .int (Int32.ofInt p1))] [.ref 152] w3 _
    refine wp_g 1 (pc1 := 21) (lv1 := [(0, .ref 146), (1, .int (Int32.ofInt p1))]) (st1 := [.int (Int32.ofInt 0), .ref 152]) (w1 := w3) rfl ?_
    obtain ⟨i6, e7, hx⟩ := bd hx
    refine wx_ra (x := 152) (n := 82) (ln := 1) (a := 0) (b := 0) (zz := 0) (by decide +kernel) h4 (hS _ _ sm_152) e7 ?_
    show wp _ 179 22 [(0, .ref 146), (1, .int (Int32.ofInt p1))] [.int (Int32.ofInt (o1.2 152 i6))] w3 _
    refine wz_ne (oo := 10) (ln := 3) (a := 32) (b := 0) (zz := 0) (by decide +kernel) (fun h8 => ?_) (fun h8 => ?_)
    · have hx := ite_f h8 hx
      refine wp_g 2 (pc1 := 36) (lv1 := [(0, .ref 146), (1, .int (Int32.ofInt p1))]) (st1 := [.long (Int64.ofInt 123581014175598), .ref 146]) (w1 := w3) rfl ?_
      obtain ⟨o9, e10, hx⟩ := bd hx
      refine wp_cl [.ref 146, .long (Int64.ofInt 123581014175598)] [] (i := .invokevirtual 122) (ln := 3) (a := 156) (b := 0) (z := 0) (by decide +kernel) rfl rfl (by decide) rfl (show (2 : Nat) = pm_na 156 by decide +kernel) (Nat.le_of_ble_eq_true rfl) (show (3 : Nat) ≤ pm_n 156 by decide +kernel) (rcv_x 12 h4 (hS _ _ sm_146) (by decide +kernel)) (xm_isWord_ok (d := d + 2) hS h4 e10 (fun w11 h12 => ?_))
      show wp _ 179 39 [(0, .ref 146), (1, .int (Int32.ofInt p1))] [.int (Int32.ofInt o9.1)] w11 _
      refine wz_eq (oo := 9) (ln := 3) (a := 48) (b := 0) (zz := 0) (by decide +kernel) (fun h13 => ?_) (fun h13 => ?_)
      · have hx := ite_t h13 hx
        refine wp_g 2 (pc1 := 52) (lv1 := [(0, .ref 146), (1, .int (Int32.ofInt p1))]) (st1 := [.long (Int64.ofInt 478745093490), .ref 146]) (w1 := w11) rfl ?_
        obtain ⟨o14, e15, hx⟩ := bd hx
        refine wp_cl [.ref 146, .long (Int64.ofInt 478745093490)] [] (i := .invokevirtual 122) (ln := 3) (a := 156) (b := 0) (z := 0) (by decide +kernel) rfl rfl (by decide) rfl (show (2 : Nat) = pm_na 156 by decide +kernel) (Nat.le_of_ble_eq_true rfl) (show (3 : Nat) ≤ pm_n 156 by decide +kernel) (rcv_x 12 h12 (hS _ _ sm_146) (by decide +kernel)) (xm_isWord_ok (d := d + 2) hS h12 e15 (fun w16 h17 => ?_))
        show wp _ 179 55 [(0, .ref 146), (1, .int (Int32.ofInt p1))] [.int (Int32.ofInt o14.1)] w16 _
        refine wz_eq (oo := 27) (ln := 3) (a := 82) (b := 0) (zz := 0) (by decide +kernel) (fun h18 => ?_) (fun h18 => ?_)
        · have hx := ite_t h18 hx
          refine wp_g 2 (pc1 := 86) (lv1 := [(0, .ref 146), (1, .int (Int32.ofInt p1))]) (st1 := [.long (Int64.ofInt 109342978306917), .ref 146]) (w1 := w16) rfl ?_
          obtain ⟨o19, e20, hx⟩ := bd hx
          refine wp_cl [.ref 146, .long (Int64.ofInt 109342978306917)] [] (i := .invokevirtual 122) (ln := 3) (a := 156) (b := 0) (z := 0) (by decide +kernel) rfl rfl (by decide) rfl (show (2 : Nat) = pm_na 156 by decide +kernel) (Nat.le_of_ble_eq_true rfl) (show (3 : Nat) ≤ pm_n 156 by decide +kernel) (rcv_x 12 h17 (hS _ _ sm_146) (by decide +kernel)) (xm_isWord_ok (d := d + 2) hS h17 e20 (fun w21 h22 => ?_))
          show wp _ 179 89 [(0, .ref 146), (1, .int (Int32.ofInt p1))] [.int (Int32.ofInt o19.1)] w21 _
          refine wz_eq (oo := 22) (ln := 3) (a := 111) (b := 0) (zz := 0) (by decide +kernel) (fun h23 => ?_) (fun h23 => ?_)
          · have hx := ite_t h23 hx
            refine wp_g 3 (pc1 := 115) (lv1 := [(0, .ref 146), (1, .int (Int32.ofInt p1))]) (st1 := [.ref 146, .int (Int32.ofInt 55), .ref 146]) (w1 := w21) rfl ?_
            refine wx_gr (o := 6) (kf := 26) (ln := 3) (ci := 12) (b := 7) (zz := 0) (x := 146) (by decide +kernel) h22 (hS _ _ sm_146) rfl ?_
            show wp _ 179 118 [(0, .ref 146), (1, .int (Int32.ofInt p1))] [.ref 152, .int (Int32.ofInt 55), .ref 146] w21 _
            refine wp_g 1 (pc1 := 119) (lv1 := [(0, .ref 146), (1, .int (Int32.ofInt p1))]) (st1 := [.int (Int32.ofInt 0), .ref 152, .int (Int32.ofInt 55), .ref 146]) (w1 := w21) rfl ?_
            refine wx_ra (x := 152) (n := 82) (ln := 1) (a := 0) (b := 0) (zz := 0) (by decide +kernel) h22 (hS _ _ sm_152) e7 ?_
            show wp _ 179 120 [(0, .ref 146), (1, .int (Int32.ofInt p1))] [.int (Int32.ofInt (o19.2 152 i6)), .int (Int32.ofInt 55), .ref 146] w21 _
            refine wp_g 4 (pc1 := 125) (lv1 := [(0, .ref 146), (1, .int (Int32.ofInt p1))]) (st1 := [.int (Int32.ofInt 99), .int (Int32.ofInt 0), .int (Int32.ofInt ((o19.2 152 i6) - 1)), .int (Int32.ofInt 55), .ref 146]) (w1 := w21) (by simp only [Int32.ofInt_add, Int32.ofInt_sub, Int32.ofInt_mul, Int32.ofInt_neg, p_and, p_or, p_xor, p_shl, p_shr, p_usr, p_w8, p_c16, p_lI, q_and, q_or, q_shl, q_shr, q_w32, Int64.ofInt_add, Int64.ofInt_sub, Int64.ofInt_mul, p_mx, p_mn, q_mx, q_mn]; rfl) ?_
            obtain ⟨o24, e25, hx⟩ := bd hx
            refine wp_cl [.ref 146, .int (Int32.ofInt 55), .int (Int32.ofInt ((o19.2 152 i6) - 1)), .int (Int32.ofInt 0), .int (Int32.ofInt 99)] [] (i := .invokevirtual 251) (ln := 3) (a := 178) (b := 0) (z := 0) (by decide +kernel) rfl rfl (by decide) rfl (show (5 : Nat) = pm_na 178 by decide +kernel) (Nat.le_of_ble_eq_true rfl) (show (5 : Nat) ≤ pm_n 178 by decide +kernel) (rcv_x 12 h22 (hS _ _ sm_146) (by decide +kernel)) (xm_isOneOfRow_ok (d := d) hS h22 e25 (fun w26 h27 => ?_))
            show wp _ 179 128 [(0, .ref 146), (1, .int (Int32.ofInt p1))] [.int (Int32.ofInt o24.1)] w26 _
            obtain ⟨h28, hx⟩ := gd hx
            refine wp_rt (i := .ireturn) (r := some (.int (Int32.ofInt o24.1))) (ln := 1) (a := 0) (b := 0) (z := 0) (by decide +kernel) rfl (ret_b (by decide +kernel) (w01 h28)) ?_
            cases hx
            exact kr _ h27
          · have hx := ite_f h23 hx
            refine wp_g 3 (pc1 := 96) (lv1 := [(0, .ref 146), (1, .int (Int32.ofInt p1))]) (st1 := [.ref 146, .int (Int32.ofInt 71), .ref 146]) (w1 := w21) rfl ?_
            refine wx_gr (o := 6) (kf := 26) (ln := 3) (ci := 12) (b := 7) (zz := 0) (x := 146) (by decide +kernel) h22 (hS _ _ sm_146) rfl ?_
            show wp _ 179 99 [(0, .ref 146), (1, .int (Int32.ofInt p1))] [.ref 152, .int (Int32.ofInt 71), .ref 146] w21 _
            refine wp_g 1 (pc1 := 100) (lv1 := [(0, .ref 146), (1, .int (Int32.ofInt p1))]) (st1 := [.int (Int32.ofInt 0), .ref 152, .int (Int32.ofInt 71), .ref 146]) (w1 := w21) rfl ?_
            refine wx_ra (x := 152) (n := 82) (ln := 1) (a := 0) (b := 0) (zz := 0) (by decide +kernel) h22 (hS _ _ sm_152) e7 ?_
            show wp _ 179 101 [(0, .ref 146), (1, .int (Int32.ofInt p1))] [.int (Int32.ofInt (o19.2 152 i6)), .int (Int32.ofInt 71), .ref 146] w21 _
            refine wp_g 4 (pc1 := 105) (lv1 := [(0, .ref 146), (1, .int (Int32.ofInt p1))]) (st1 := [.int (Int32.ofInt 2), .int (Int32.ofInt 1), .int (Int32.ofInt ((o19.2 152 i6) - 2)), .int (Int32.ofInt 71), .ref 146]) (w1 := w21) (by simp only [Int32.ofInt_add, Int32.ofInt_sub, Int32.ofInt_mul, Int32.ofInt_neg, p_and, p_or, p_xor, p_shl, p_shr, p_usr, p_w8, p_c16, p_lI, q_and, q_or, q_shl, q_shr, q_w32, Int64.ofInt_add, Int64.ofInt_sub, Int64.ofInt_mul, p_mx, p_mn, q_mx, q_mn]; rfl) ?_
            obtain ⟨o29, e30, hx⟩ := bd hx
            refine wp_cl [.ref 146, .int (Int32.ofInt 71), .int (Int32.ofInt ((o19.2 152 i6) - 2)), .int (Int32.ofInt 1), .int (Int32.ofInt 2)] [] (i := .invokevirtual 251) (ln := 3) (a := 178) (b := 0) (z := 0) (by decide +kernel) rfl rfl (by decide) rfl (show (5 : Nat) = pm_na 178 by decide +kernel) (Nat.le_of_ble_eq_true rfl) (show (5 : Nat) ≤ pm_n 178 by decide +kernel) (rcv_x 12 h22 (hS _ _ sm_146) (by decide +kernel)) (xm_isOneOfRow_ok (d := d) hS h22 e30 (fun w31 h32 => ?_))
            show wp _ 179 108 [(0, .ref 146), (1, .int (Int32.ofInt p1))] [.int (Int32.ofInt o29.1)] w31 _
            refine wp_g 1 (pc1 := 128) (lv1 := [(0, .ref 146), (1, .int (Int32.ofInt p1))]) (st1 := [.int (Int32.ofInt o29.1)]) (w1 := w31) rfl ?_
            obtain ⟨h33, hx⟩ := gd hx
            refine wp_rt (i := .ireturn) (r := some (.int (Int32.ofInt o29.1))) (ln := 1) (a := 0) (b := 0) (z := 0) (by decide +kernel) rfl (ret_b (by decide +kernel) (w01 h33)) ?_
            cases hx
            exact kr _ h32
        · have hx := ite_f h18 hx
          refine wp_g 3 (pc1 := 62) (lv1 := [(0, .ref 146), (1, .int (Int32.ofInt p1))]) (st1 := [.ref 146, .int (Int32.ofInt 63), .ref 146]) (w1 := w16) rfl ?_
          refine wx_gr (o := 6) (kf := 26) (ln := 3) (ci := 12) (b := 7) (zz := 0) (x := 146) (by decide +kernel) h17 (hS _ _ sm_146) rfl ?_
          show wp _ 179 65 [(0, .ref 146), (1, .int (Int32.ofInt p1))] [.ref 152, .int (Int32.ofInt 63), .ref 146] w16 _
          refine wp_g 1 (pc1 := 66) (lv1 := [(0, .ref 146), (1, .int (Int32.ofInt p1))]) (st1 := [.int (Int32.ofInt 0), .ref 152, .int (Int32.ofInt 63), .ref 146]) (w1 := w16) rfl ?_
          refine wx_ra (x := 152) (n := 82) (ln := 1) (a := 0) (b := 0) (zz := 0) (by decide +kernel) h17 (hS _ _ sm_152) e7 ?_
          show wp _ 179 67 [(0, .ref 146), (1, .int (Int32.ofInt p1))] [.int (Int32.ofInt (o14.2 152 i6)), .int (Int32.ofInt 63), .ref 146] w16 _
          refine wp_g 4 (pc1 := 71) (lv1 := [(0, .ref 146), (1, .int (Int32.ofInt p1))]) (st1 := [.ref 146, .int (Int32.ofInt 0), .int (Int32.ofInt ((o14.2 152 i6) - 1)), .int (Int32.ofInt 63), .ref 146]) (w1 := w16) (by simp only [Int32.ofInt_add, Int32.ofInt_sub, Int32.ofInt_mul, Int32.ofInt_neg, p_and, p_or, p_xor, p_shl, p_shr, p_usr, p_w8, p_c16, p_lI, q_and, q_or, q_shl, q_shr, q_w32, Int64.ofInt_add, Int64.ofInt_sub, Int64.ofInt_mul, p_mx, p_mn, q_mx, q_mn]; rfl) ?_
          refine wx_gr (o := 6) (kf := 26) (ln := 3) (ci := 12) (b := 7) (zz := 0) (x := 146) (by decide +kernel) h17 (hS _ _ sm_146) rfl ?_
          show wp _ 179 74 [(0, .ref 146), (1, .int (Int32.ofInt p1))] [.ref 152, .int (Int32.ofInt 0), .int (Int32.ofInt ((o14.2 152 i6) - 1)), .int (Int32.ofInt 63), .ref 146] w16 _
          refine wp_g 1 (pc1 := 75) (lv1 := [(0, .ref 146), (1, .int (Int32.ofInt p1))]) (st1 := [.int (Int32.ofInt 1), .ref 152, .int (Int32.ofInt 0), .int (Int32.ofInt ((o14.2 152 i6) - 1)), .int (Int32.ofInt 63), .ref 146]) (w1 := w16) rfl ?_
          obtain ⟨i34, e35, hx⟩ := bd hx
          refine wx_ra (x := 152) (n := 82) (ln := 1) (a := 0) (b := 0) (zz := 0) (by decide +kernel) h17 (hS _ _ sm_152) e35 ?_
          show wp _ 179 76 [(0, .ref 146), (1, .int (Int32.ofInt p1))] [.int (Int32.ofInt (o14.2 152 i34)), .int (Int32.ofInt 0), .int (Int32.ofInt ((o14.2 152 i6) - 1)), .int (Int32.ofInt 63), .ref 146] w16 _
          refine wp_g 2 (pc1 := 78) (lv1 := [(0, .ref 146), (1, .int (Int32.ofInt p1))]) (st1 := [.int (Int32.ofInt ((o14.2 152 i34) - 1)), .int (Int32.ofInt 0), .int (Int32.ofInt ((o14.2 152 i6) - 1)), .int (Int32.ofInt 63), .ref 146]) (w1 := w16) (by simp only [Int32.ofInt_add, Int32.ofInt_sub, Int32.ofInt_mul, Int32.ofInt_neg, p_and, p_or, p_xor, p_shl, p_shr, p_usr, p_w8, p_c16, p_lI, q_and, q_or, q_shl, q_shr, q_w32, Int64.ofInt_add, Int64.ofInt_sub, Int64.ofInt_mul, p_mx, p_mn, q_mx, q_mn]; rfl) ?_
          obtain ⟨o36, e37, hx⟩ := bd hx
          refine wp_cl [.ref 146, .int (Int32.ofInt 63), .int (Int32.ofInt ((o14.2 152 i6) - 1)), .int (Int32.ofInt 0), .int (Int32.ofInt ((o14.2 152 i34) - 1))] [] (i := .invokevirtual 251) (ln := 3) (a := 178) (b := 0) (z := 0) (by decide +kernel) rfl rfl (by decide) rfl (show (5 : Nat) = pm_na 178 by decide +kernel) (Nat.le_of_ble_eq_true rfl) (show (5 : Nat) ≤ pm_n 178 by decide +kernel) (rcv_x 12 h17 (hS _ _ sm_146) (by decide +kernel)) (xm_isOneOfRow_ok (d := d) hS h17 e37 (fun w38 h39 => ?_))
          show wp _ 179 81 [(0, .ref 146), (1, .int (Int32.ofInt p1))] [.int (Int32.ofInt o36.1)] w38 _
          obtain ⟨h40, hx⟩ := gd hx
          refine wp_rt (i := .ireturn) (r := some (.int (Int32.ofInt o36.1))) (ln := 1) (a := 0) (b := 0) (z := 0) (by decide +kernel) rfl (ret_b (by decide +kernel) (w01 h40)) ?_
          cases hx
          exact kr _ h39
      · have hx := ite_f h13 hx
        refine wp_g 2 (pc1 := 44) (lv1 := [(0, .ref 146), (1, .int (Int32.ofInt p1))]) (st1 := [.int (Int32.ofInt p1), .ref 146]) (w1 := w11) rfl ?_
        obtain ⟨o41, e42, hx⟩ := bd hx
        refine wp_cl [.ref 146, .int (Int32.ofInt p1)] [] (i := .invokevirtual 248) (ln := 3) (a := 177) (b := 0) (z := 0) (by decide +kernel) rfl rfl (by decide) rfl (show (2 : Nat) = pm_na 177 by decide +kernel) (Nat.le_of_ble_eq_true rfl) (show (2 : Nat) ≤ pm_n 177 by decide +kernel) (rcv_x 12 h12 (hS _ _ sm_146) (by decide +kernel)) (xm_isPersonHere_ok (d := d) hS h12 e42 (fun w43 h44 => ?_))
        show wp _ 179 47 [(0, .ref 146), (1, .int (Int32.ofInt p1))] [.int (Int32.ofInt o41.1)] w43 _
        obtain ⟨h45, hx⟩ := gd hx
        refine wp_rt (i := .ireturn) (r := some (.int (Int32.ofInt o41.1))) (ln := 1) (a := 0) (b := 0) (z := 0) (by decide +kernel) rfl (ret_b (by decide +kernel) (w01 h45)) ?_
        cases hx
        exact kr _ h44
    · have hx := ite_t h8 hx
      refine wp_g 3 (pc1 := 28) (lv1 := [(0, .ref 146), (1, .int (Int32.ofInt p1))]) (st1 := [.int (Int32.ofInt p1), .int (Int32.ofInt 4), .ref 146]) (w1 := w3) rfl ?_
      obtain ⟨o46, e47, hx⟩ := bd hx
      refine wp_cl [.ref 146, .int (Int32.ofInt 4), .int (Int32.ofInt p1)] [] (i := .invokevirtual 132) (ln := 3) (a := 152) (b := 0) (z := 0) (by decide +kernel) rfl rfl (by decide) rfl (show (3 : Nat) = pm_na 152 by decide +kernel) (Nat.le_of_ble_eq_true rfl) (show (3 : Nat) ≤ pm_n 152 by decide +kernel) (rcv_x 12 h4 (hS _ _ sm_146) (by decide +kernel)) (xm_fails_ok (d := d + 3) hS h4 e47 (fun w48 h49 => ?_))
      show wp _ 179 31 [(0, .ref 146), (1, .int (Int32.ofInt p1))] [.int (Int32.ofInt o46.1)] w48 _
      obtain ⟨h50, hx⟩ := gd hx
      refine wp_rt (i := .ireturn) (r := some (.int (Int32.ofInt o46.1))) (ln := 1) (a := 0) (b := 0) (z := 0) (by decide +kernel) rfl (ret_b (by decide +kernel) (w01 h50)) ?_
      cases hx
      exact kr _ h49
  · have hx := ite_f h5 hx
    refine wp_g 2 (pc1 := 12) (lv1 := [(0, .ref 146), (1, .int (Int32.ofInt p1))]) (st1 := [.int (Int32.ofInt p1), .ref 146]) (w1 := w3) rfl ?_
    obtain ⟨o51, e52, hx⟩ := bd hx
    refine wp_cl [.ref 146, .int (Int32.ofInt p1)] [] (i := .invokevirtual 243) (ln := 3) (a := 176) (b := 0) (z := 0) (by decide +kernel) rfl rfl (by decide) rfl (show (2 : Nat) = pm_na 176 by decide +kernel) (Nat.le_of_ble_eq_true rfl) (show (2 : Nat) ≤ pm_n 176 by decide +kernel) (rcv_x 12 h4 (hS _ _ sm_146) (by decide +kernel)) (xm_isClothHere_ok (d := d) hS h4 e52 (fun w53 h54 => ?_))
    show wp _ 179 15 [(0, .ref 146), (1, .int (Int32.ofInt p1))] [.int (Int32.ofInt o51.1)] w53 _
    obtain ⟨h55, hx⟩ := gd hx
    refine wp_rt (i := .ireturn) (r := some (.int (Int32.ofInt o51.1))) (ln := 1) (a := 0) (b := 0) (z := 0) (by decide +kernel) rfl (ret_b (by decide +kernel) (w01 h55)) ?_
    cases hx
    exact kr _ h54
/-- FoldDeedsModel.isClothWord ()Z -/
noncomputable def xm_isClothWord (s : Hp) : Option (Int × Hp) :=
  (xm_isWord s 427021005928).bind fun o1 => if w32 o1.1 = 0 then (xm_isWord o1.2 123581014175598).bind fun o6 => if w32 o6.1 = 0 then (xm_isWord o6.2 478745093490).bind fun o11 => if w32 o11.1 = 0 then (xm_isWord o11.2 109342978306917).bind fun o16 => if w32 o16.1 = 0 then (xm_isWord o16.2 512970880104).bind fun o21 => if w32 o21.1 = 0 then some (0, o21.2) else some (1, o21.2) else some (1, o16.2) else some (1, o11.2) else some (1, o6.2) else some (1, o1.2)
set_option maxRecDepth 100000 in
theorem xm_isClothWord_ok {d : Nat} {P : Option Value → pm_H → Prop} {w : pm_H} {sh : Shp} {w0 : pm_H} {s : Hp} (hS : StM sh) (h : Rw sh w0 s w) {o : Int × Hp} (hx : xm_isClothWord s = some o) (kr : ∀ w1, Rw sh w0 o.2 w1 → P (some (.int (Int32.ofInt o.1))) w1) : wp (d + 2) 180 0 (lv_args 0 [.ref 146]) [] w P := by
  show wp _ 180 0 [(0, .ref 146)] [] w _
  unfold xm_isClothWord at hx
  refine wp_g 2 (pc1 := 4) (lv1 := [(0, .ref 146)]) (st1 := [.long (Int64.ofInt 427021005928), .ref 146]) (w1 := w) rfl ?_
  obtain ⟨o1, e2, hx⟩ := bd hx
  refine wp_cl [.ref 146, .long (Int64.ofInt 427021005928)] [] (i := .invokevirtual 122) (ln := 3) (a := 156) (b := 0) (z := 0) (by decide +kernel) rfl rfl (by decide) rfl (show (2 : Nat) = pm_na 156 by decide +kernel) (Nat.le_of_ble_eq_true rfl) (show (3 : Nat) ≤ pm_n 156 by decide +kernel) (rcv_x 12 h (hS _ _ sm_146) (by decide +kernel)) (xm_isWord_ok (d := d) hS h e2 (fun w3 h4 => ?_))
  show wp _ 180 7 [(0, .ref 146)] [.int (Int32.ofInt o1.1)] w3 _
  refine wz_ne (oo := 43) (ln := 3) (a := 50) (b := 0) (zz := 0) (by decide +kernel) (fun h5 => ?_) (fun h5 => ?_)
  · have hx := ite_f h5 hx
    refine wp_g 2 (pc1 := 55) (lv1 := [(0, .ref 146)]) (st1 := [.int (Int32.ofInt 1)]) (w1 := w3) rfl ?_
    refine wp_rt (i := .ireturn) (r := some (.int (Int32.ofInt 1))) (ln := 1) (a := 0) (b := 0) (z := 0) (by decide +kernel) rfl (ret_b (by decide +kernel) (Or.inr rfl)) ?_
    cases hx
    exact kr _ h4
  · have hx := ite_t h5 hx
    refine wp_g 2 (pc1 := 14) (lv1 := [(0, .ref 146)]) (st1 := [.long (Int64.ofInt 123581014175598), .ref 146]) (w1 := w3) rfl ?_
    obtain ⟨o6, e7, hx⟩ := bd hx
    refine wp_cl [.ref 146, .long (Int64.ofInt 123581014175598)] [] (i := .invokevirtual 122) (ln := 3) (a := 156) (b := 0) (z := 0) (by decide +kernel) rfl rfl (by decide) rfl (show (2 : Nat) = pm_na 156 by decide +kernel) (Nat.le_of_ble_eq_true rfl) (show (3 : Nat) ≤ pm_n 156 by decide +kernel) (rcv_x 12 h4 (hS _ _ sm_146) (by decide +kernel)) (xm_isWord_ok (d := d) hS h4 e7 (fun w8 h9 => ?_))
    show wp _ 180 17 [(0, .ref 146)] [.int (Int32.ofInt o6.1)] w8 _
    refine wz_ne (oo := 33) (ln := 3) (a := 50) (b := 0) (zz := 0) (by decide +kernel) (fun h10 => ?_) (fun h10 => ?_)
    · have hx := ite_f h10 hx
      refine wp_g 2 (pc1 := 55) (lv1 := [(0, .ref 146)]) (st1 := [.int (Int32.ofInt 1)]) (w1 := w8) rfl ?_
      refine wp_rt (i := .ireturn) (r := some (.int (Int32.ofInt 1))) (ln := 1) (a := 0) (b := 0) (z := 0) (by decide +kernel) rfl (ret_b (by decide +kernel) (Or.inr rfl)) ?_
      cases hx
      exact kr _ h9
    · have hx := ite_t h10 hx
      refine wp_g 2 (pc1 := 24) (lv1 := [(0, .ref 146)]) (st1 := [.long (Int64.ofInt 478745093490), .ref 146]) (w1 := w8) rfl ?_
      obtain ⟨o11, e12, hx⟩ := bd hx
      refine wp_cl [.ref 146, .long (Int64.ofInt 478745093490)] [] (i := .invokevirtual 122) (ln := 3) (a := 156) (b := 0) (z := 0) (by decide +kernel) rfl rfl (by decide) rfl (show (2 : Nat) = pm_na 156 by decide +kernel) (Nat.le_of_ble_eq_true rfl) (show (3 : Nat) ≤ pm_n 156 by decide +kernel) (rcv_x 12 h9 (hS _ _ sm_146) (by decide +kernel)) (xm_isWord_ok (d := d) hS h9 e12 (fun w13 h14 => ?_))
      show wp _ 180 27 [(0, .ref 146)] [.int (Int32.ofInt o11.1)] w13 _
      refine wz_ne (oo := 23) (ln := 3) (a := 50) (b := 0) (zz := 0) (by decide +kernel) (fun h15 => ?_) (fun h15 => ?_)
      · have hx := ite_f h15 hx
        refine wp_g 2 (pc1 := 55) (lv1 := [(0, .ref 146)]) (st1 := [.int (Int32.ofInt 1)]) (w1 := w13) rfl ?_
        refine wp_rt (i := .ireturn) (r := some (.int (Int32.ofInt 1))) (ln := 1) (a := 0) (b := 0) (z := 0) (by decide +kernel) rfl (ret_b (by decide +kernel) (Or.inr rfl)) ?_
        cases hx
        exact kr _ h14
      · have hx := ite_t h15 hx
        refine wp_g 2 (pc1 := 34) (lv1 := [(0, .ref 146)]) (st1 := [.long (Int64.ofInt 109342978306917), .ref 146]) (w1 := w13) rfl ?_
        obtain ⟨o16, e17, hx⟩ := bd hx
        refine wp_cl [.ref 146, .long (Int64.ofInt 109342978306917)] [] (i := .invokevirtual 122) (ln := 3) (a := 156) (b := 0) (z := 0) (by decide +kernel) rfl rfl (by decide) rfl (show (2 : Nat) = pm_na 156 by decide +kernel) (Nat.le_of_ble_eq_true rfl) (show (3 : Nat) ≤ pm_n 156 by decide +kernel) (rcv_x 12 h14 (hS _ _ sm_146) (by decide +kernel)) (xm_isWord_ok (d := d) hS h14 e17 (fun w18 h19 => ?_))
        show wp _ 180 37 [(0, .ref 146)] [.int (Int32.ofInt o16.1)] w18 _
        refine wz_ne (oo := 13) (ln := 3) (a := 50) (b := 0) (zz := 0) (by decide +kernel) (fun h20 => ?_) (fun h20 => ?_)
        · have hx := ite_f h20 hx
          refine wp_g 2 (pc1 := 55) (lv1 := [(0, .ref 146)]) (st1 := [.int (Int32.ofInt 1)]) (w1 := w18) rfl ?_
          refine wp_rt (i := .ireturn) (r := some (.int (Int32.ofInt 1))) (ln := 1) (a := 0) (b := 0) (z := 0) (by decide +kernel) rfl (ret_b (by decide +kernel) (Or.inr rfl)) ?_
          cases hx
          exact kr _ h19
        · have hx := ite_t h20 hx
          refine wp_g 2 (pc1 := 44) (lv1 := [(0, .ref 146)]) (st1 := [.long (Int64.ofInt 512970880104), .ref 146]) (w1 := w18) rfl ?_
          obtain ⟨o21, e22, hx⟩ := bd hx
          refine wp_cl [.ref 146, .long (Int64.ofInt 512970880104)] [] (i := .invokevirtual 122) (ln := 3) (a := 156) (b := 0) (z := 0) (by decide +kernel) rfl rfl (by decide) rfl (show (2 : Nat) = pm_na 156 by decide +kernel) (Nat.le_of_ble_eq_true rfl) (show (3 : Nat) ≤ pm_n 156 by decide +kernel) (rcv_x 12 h19 (hS _ _ sm_146) (by decide +kernel)) (xm_isWord_ok (d := d) hS h19 e22 (fun w23 h24 => ?_))
          show wp _ 180 47 [(0, .ref 146)] [.int (Int32.ofInt o21.1)] w23 _
          refine wz_eq (oo := 7) (ln := 3) (a := 54) (b := 0) (zz := 0) (by decide +kernel) (fun h25 => ?_) (fun h25 => ?_)
          · have hx := ite_t h25 hx
            refine wp_g 1 (pc1 := 55) (lv1 := [(0, .ref 146)]) (st1 := [.int (Int32.ofInt 0)]) (w1 := w23) rfl ?_
            refine wp_rt (i := .ireturn) (r := some (.int (Int32.ofInt 0))) (ln := 1) (a := 0) (b := 0) (z := 0) (by decide +kernel) rfl (ret_b (by decide +kernel) (Or.inl rfl)) ?_
            cases hx
            exact kr _ h24
          · have hx := ite_f h25 hx
            refine wp_g 2 (pc1 := 55) (lv1 := [(0, .ref 146)]) (st1 := [.int (Int32.ofInt 1)]) (w1 := w23) rfl ?_
            refine wp_rt (i := .ireturn) (r := some (.int (Int32.ofInt 1))) (ln := 1) (a := 0) (b := 0) (z := 0) (by decide +kernel) rfl (ret_b (by decide +kernel) (Or.inr rfl)) ?_
            cases hx
            exact kr _ h24
noncomputable def xm_clauseHere_j71 (s : Hp) (x1 : Int) (x2 : Int) (k0 : Int) (k1 : Int) : Option (Int × Hp) :=
  if w32 k0 = w32 k1 then (xm_fails s 4 x1).bind fun o17 => if w32 o17.1 = 0 ∨ w32 o17.1 = 1 then some (o17.1, o17.2) else none else (some (uh s 146 14 ((s 146 14) + 1))).bind fun s2 => if w32 x2 = 0 then (xm_isPriceHere s2).bind fun o7 => if w32 o7.1 = 0 ∨ w32 o7.1 = 1 then some (o7.1, o7.2) else none else (xm_clothLineHere s2 x1).bind fun o12 => if w32 o12.1 = 0 ∨ w32 o12.1 = 1 then some (o12.1, o12.2) else none
set_option maxRecDepth 100000 in
theorem xm_clauseHere_j71_ok {d : Nat} {P : Option Value → pm_H → Prop} {w : pm_H} {sh : Shp} {w0 : pm_H} {s : Hp} (hS : StM sh) {x1 : Int} {x2 : Int} {k0 : Int} {k1 : Int} (h : Rw sh w0 s w) {o : (Int × Hp)} (hx : xm_clauseHere_j71 s x1 x2 k0 k1 = some o) (kr : ∀ w1, Rw sh w0 o.2 w1 → P (some (.int (Int32.ofInt o.1))) w1) : wp (d + 10) 181 71 [(0, .ref 146), (1, .int (Int32.ofInt x1)), (2, .int (Int32.ofInt x2))] [.int (Int32.ofInt k1), .int (Int32.ofInt k0)] w P := by
  unfold xm_clauseHere_j71 at hx
  refine wx_ne (oo := 10) (ln := 3) (a := 81) (b := 0) (zz := 0) (by decide +kernel) (fun h1 => ?_) (fun h1 => ?_)
  · have hx := ite_f h1 hx
    refine wp_g 2 (pc1 := 83) (lv1 := [(0, .ref 146), (1, .int (Int32.ofInt x1)), (2, .int (Int32.ofInt x2))]) (st1 := [.ref 146, .ref 146]) (w1 := w) rfl ?_
    refine wx_gi (kf := 262) (ln := 3) (ci := 12) (b := 14) (zz := 0) (x := 146) (by decide +kernel) h (hS _ _ sm_146) rfl ?_
    show wp _ 181 86 [(0, .ref 146), (1, .int (Int32.ofInt x1)), (2, .int (Int32.ofInt x2))] [.int (Int32.ofInt (s 146 14)), .ref 146] w _
    refine wp_g 2 (pc1 := 88) (lv1 := [(0, .ref 146), (1, .int (Int32.ofInt x1)), (2, .int (Int32.ofInt x2))]) (st1 := [.int (Int32.ofInt ((s 146 14) + 1)), .ref 146]) (w1 := w) (by simp only [Int32.ofInt_add, Int32.ofInt_sub, Int32.ofInt_mul, Int32.ofInt_neg, p_and, p_or, p_xor, p_shl, p_shr, p_usr, p_w8, p_c16, p_lI, q_and, q_or, q_shl, q_shr, q_w32, Int64.ofInt_add, Int64.ofInt_sub, Int64.ofInt_mul, p_mx, p_mn, q_mx, q_mn]; rfl) ?_
    obtain ⟨s2, e3, hx⟩ := bd hx
    refine wx_pi (kf := 262) (ln := 3) (ci := 12) (b := 14) (zz := 0) (x := 146) (by decide +kernel) h (hS _ _ sm_146) rfl (by decide +kernel) e3 (fun w4 h5 => ?_)
    refine wp_g 1 (pc1 := 92) (lv1 := [(0, .ref 146), (1, .int (Int32.ofInt x1)), (2, .int (Int32.ofInt x2))]) (st1 := [.int (Int32.ofInt x2)]) (w1 := w4) rfl ?_
    refine wz_eq (oo := 11) (ln := 3) (a := 103) (b := 0) (zz := 0) (by decide +kernel) (fun h6 => ?_) (fun h6 => ?_)
    · have hx := ite_t h6 hx
      refine wp_g 1 (pc1 := 104) (lv1 := [(0, .ref 146), (1, .int (Int32.ofInt x1)), (2, .int (Int32.ofInt x2))]) (st1 := [.ref 146]) (w1 := w4) rfl ?_
      obtain ⟨o7, e8, hx⟩ := bd hx
      refine wp_cl [.ref 146] [] (i := .invokevirtual 268) (ln := 3) (a := 174) (b := 0) (z := 0) (by decide +kernel) rfl rfl (by decide) rfl (show (1 : Nat) = pm_na 174 by decide +kernel) (Nat.le_of_ble_eq_true rfl) (show (1 : Nat) ≤ pm_n 174 by decide +kernel) (rcv_x 12 h5 (hS _ _ sm_146) (by decide +kernel)) (xm_isPriceHere_ok (d := d) hS h5 e8 (fun w9 h10 => ?_))
      show wp _ 181 107 [(0, .ref 146), (1, .int (Int32.ofInt x1)), (2, .int (Int32.ofInt x2))] [.int (Int32.ofInt o7.1)] w9 _
      obtain ⟨h11, hx⟩ := gd hx
      refine wp_rt (i := .ireturn) (r := some (.int (Int32.ofInt o7.1))) (ln := 1) (a := 0) (b := 0) (z := 0) (by decide +kernel) rfl (ret_b (by decide +kernel) (w01 h11)) ?_
      cases hx
      exact kr _ h10
    · have hx := ite_f h6 hx
      refine wp_g 2 (pc1 := 97) (lv1 := [(0, .ref 146), (1, .int (Int32.ofInt x1)), (2, .int (Int32.ofInt x2))]) (st1 := [.int (Int32.ofInt x1), .ref 146]) (w1 := w4) rfl ?_
      obtain ⟨o12, e13, hx⟩ := bd hx
      refine wp_cl [.ref 146, .int (Int32.ofInt x1)] [] (i := .invokevirtual 265) (ln := 3) (a := 179) (b := 0) (z := 0) (by decide +kernel) rfl rfl (by decide) rfl (show (2 : Nat) = pm_na 179 by decide +kernel) (Nat.le_of_ble_eq_true rfl) (show (2 : Nat) ≤ pm_n 179 by decide +kernel) (rcv_x 12 h5 (hS _ _ sm_146) (by decide +kernel)) (xm_clothLineHere_ok (d := d + 5) hS h5 e13 (fun w14 h15 => ?_))
      show wp _ 181 100 [(0, .ref 146), (1, .int (Int32.ofInt x1)), (2, .int (Int32.ofInt x2))] [.int (Int32.ofInt o12.1)] w14 _
      refine wp_g 1 (pc1 := 107) (lv1 := [(0, .ref 146), (1, .int (Int32.ofInt x1)), (2, .int (Int32.ofInt x2))]) (st1 := [.int (Int32.ofInt o12.1)]) (w1 := w14) rfl ?_
      obtain ⟨h16, hx⟩ := gd hx
      refine wp_rt (i := .ireturn) (r := some (.int (Int32.ofInt o12.1))) (ln := 1) (a := 0) (b := 0) (z := 0) (by decide +kernel) rfl (ret_b (by decide +kernel) (w01 h16)) ?_
      cases hx
      exact kr _ h15
  · have hx := ite_t h1 hx
    refine wp_g 3 (pc1 := 77) (lv1 := [(0, .ref 146), (1, .int (Int32.ofInt x1)), (2, .int (Int32.ofInt x2))]) (st1 := [.int (Int32.ofInt x1), .int (Int32.ofInt 4), .ref 146]) (w1 := w) rfl ?_
    obtain ⟨o17, e18, hx⟩ := bd hx
    refine wp_cl [.ref 146, .int (Int32.ofInt 4), .int (Int32.ofInt x1)] [] (i := .invokevirtual 132) (ln := 3) (a := 152) (b := 0) (z := 0) (by decide +kernel) rfl rfl (by decide) rfl (show (3 : Nat) = pm_na 152 by decide +kernel) (Nat.le_of_ble_eq_true rfl) (show (3 : Nat) ≤ pm_n 152 by decide +kernel) (rcv_x 12 h (hS _ _ sm_146) (by decide +kernel)) (xm_fails_ok (d := d + 9) hS h e18 (fun w19 h20 => ?_))
    show wp _ 181 80 [(0, .ref 146), (1, .int (Int32.ofInt x1)), (2, .int (Int32.ofInt x2))] [.int (Int32.ofInt o17.1)] w19 _
    obtain ⟨h21, hx⟩ := gd hx
    refine wp_rt (i := .ireturn) (r := some (.int (Int32.ofInt o17.1))) (ln := 1) (a := 0) (b := 0) (z := 0) (by decide +kernel) rfl (ret_b (by decide +kernel) (w01 h21)) ?_
    cases hx
    exact kr _ h20
noncomputable def xm_clauseHere_j24 (s : Hp) (x1 : Int) (k0 : Int) : Option (Int × Hp) :=
  if w32 k0 = 0 then (xm_isWord s 482955846501).bind fun o2 => if w32 o2.1 = 0 then (xm_fails o2.2 0 x1).bind fun o8 => if w32 o8.1 = 0 ∨ w32 o8.1 = 1 then some (o8.1, o8.2) else none else if w32 k0 = 0 then xm_clauseHere_j71 o2.2 x1 k0 (o2.2 146 14) 12 else xm_clauseHere_j71 o2.2 x1 k0 (o2.2 146 14) 40 else (xm_isClothWord s).bind fun o13 => if w32 o13.1 = 0 then (xm_fails o13.2 0 x1).bind fun o19 => if w32 o19.1 = 0 ∨ w32 o19.1 = 1 then some (o19.1, o19.2) else none else if w32 k0 = 0 then xm_clauseHere_j71 o13.2 x1 k0 (o13.2 146 14) 12 else xm_clauseHere_j71 o13.2 x1 k0 (o13.2 146 14) 40
set_option maxRecDepth 100000 in
theorem xm_clauseHere_j24_ok {d : Nat} {P : Option Value → pm_H → Prop} {w : pm_H} {sh : Shp} {w0 : pm_H} {s : Hp} (hS : StM sh) {x1 : Int} {k0 : Int} (h : Rw sh w0 s w) {o : (Int × Hp)} (hx : xm_clauseHere_j24 s x1 k0 = some o) (kr : ∀ w1, Rw sh w0 o.2 w1 → P (some (.int (Int32.ofInt o.1))) w1) : wp (d + 10) 181 24 [(0, .ref 146), (1, .int (Int32.ofInt x1))] [.int (Int32.ofInt k0)] w P := by
  unfold xm_clauseHere_j24 at hx
  refine wp_g 2 (pc1 := 26) (lv1 := [(2, .int (Int32.ofInt k0)), (0, .ref 146), (1, .int (Int32.ofInt x1))]) (st1 := [.int (Int32.ofInt k0)]) (w1 := w) rfl ?_
  refine wz_eq (oo := 13) (ln := 3) (a := 39) (b := 0) (zz := 0) (by decide +kernel) (fun h1 => ?_) (fun h1 => ?_)
  · have hx := ite_t h1 hx
    refine wp_g 2 (pc1 := 43) (lv1 := [(2, .int (Int32.ofInt k0)), (0, .ref 146), (1, .int (Int32.ofInt x1))]) (st1 := [.long (Int64.ofInt 482955846501), .ref 146]) (w1 := w) rfl ?_
    obtain ⟨o2, e3, hx⟩ := bd hx
    refine wp_cl [.ref 146, .long (Int64.ofInt 482955846501)] [] (i := .invokevirtual 122) (ln := 3) (a := 156) (b := 0) (z := 0) (by decide +kernel) rfl rfl (by decide) rfl (show (2 : Nat) = pm_na 156 by decide +kernel) (Nat.le_of_ble_eq_true rfl) (show (3 : Nat) ≤ pm_n 156 by decide +kernel) (rcv_x 12 h (hS _ _ sm_146) (by decide +kernel)) (xm_isWord_ok (d := d + 8) hS h e3 (fun w4 h5 => ?_))
    show wp _ 181 46 [(2, .int (Int32.ofInt k0)), (0, .ref 146), (1, .int (Int32.ofInt x1))] [.int (Int32.ofInt o2.1)] w4 _
    refine wz_ne (oo := 10) (ln := 3) (a := 56) (b := 0) (zz := 0) (by decide +kernel) (fun h6 => ?_) (fun h6 => ?_)
    · have hx := ite_f h6 hx
      refine wp_g 1 (pc1 := 57) (lv1 := [(2, .int (Int32.ofInt k0)), (0, .ref 146), (1, .int (Int32.ofInt x1))]) (st1 := [.ref 146]) (w1 := w4) rfl ?_
      refine wx_gi (kf := 262) (ln := 3) (ci := 12) (b := 14) (zz := 0) (x := 146) (by decide +kernel) h5 (hS _ _ sm_146) rfl ?_
      show wp _ 181 60 [(2, .int (Int32.ofInt k0)), (0, .ref 146), (1, .int (Int32.ofInt x1))] [.int (Int32.ofInt (o2.2 146 14))] w4 _
      refine wp_g 1 (pc1 := 61) (lv1 := [(2, .int (Int32.ofInt k0)), (0, .ref 146), (1, .int (Int32.ofInt x1))]) (st1 := [.int (Int32.ofInt k0), .int (Int32.ofInt (o2.2 146 14))]) (w1 := w4) rfl ?_
      refine wz_eq (oo := 8) (ln := 3) (a := 69) (b := 0) (zz := 0) (by decide +kernel) (fun h7 => ?_) (fun h7 => ?_)
      · have hx := ite_t h7 hx
        refine wp_g 1 (pc1 := 71) (lv1 := [(2, .int (Int32.ofInt k0)), (0, .ref 146), (1, .int (Int32.ofInt x1))]) (st1 := [.int (Int32.ofInt 12), .int (Int32.ofInt (o2.2 146 14))]) (w1 := w4) rfl ?_
        refine wp_lv (lv1 := [(0, .ref 146), (1, .int (Int32.ofInt x1)), (2, .int (Int32.ofInt k0))]) (lsub_p [1, 2, 0] rfl rfl rfl) ?_
        exact xm_clauseHere_j71_ok hS h5 hx kr
      · have hx := ite_f h7 hx
        refine wp_g 2 (pc1 := 71) (lv1 := [(2, .int (Int32.ofInt k0)), (0, .ref 146), (1, .int (Int32.ofInt x1))]) (st1 := [.int (Int32.ofInt 40), .int (Int32.ofInt (o2.2 146 14))]) (w1 := w4) rfl ?_
        refine wp_lv (lv1 := [(0, .ref 146), (1, .int (Int32.ofInt x1)), (2, .int (Int32.ofInt k0))]) (lsub_p [1, 2, 0] rfl rfl rfl) ?_
        exact xm_clauseHere_j71_ok hS h5 hx kr
    · have hx := ite_t h6 hx
      refine wp_g 3 (pc1 := 52) (lv1 := [(2, .int (Int32.ofInt k0)), (0, .ref 146), (1, .int (Int32.ofInt x1))]) (st1 := [.int (Int32.ofInt x1), .int (Int32.ofInt 0), .ref 146]) (w1 := w4) rfl ?_
      obtain ⟨o8, e9, hx⟩ := bd hx
      refine wp_cl [.ref 146, .int (Int32.ofInt 0), .int (Int32.ofInt x1)] [] (i := .invokevirtual 132) (ln := 3) (a := 152) (b := 0) (z := 0) (by decide +kernel) rfl rfl (by decide) rfl (show (3 : Nat) = pm_na 152 by decide +kernel) (Nat.le_of_ble_eq_true rfl) (show (3 : Nat) ≤ pm_n 152 by decide +kernel) (rcv_x 12 h5 (hS _ _ sm_146) (by decide +kernel)) (xm_fails_ok (d := d + 9) hS h5 e9 (fun w10 h11 => ?_))
      show wp _ 181 55 [(2, .int (Int32.ofInt k0)), (0, .ref 146), (1, .int (Int32.ofInt x1))] [.int (Int32.ofInt o8.1)] w10 _
      obtain ⟨h12, hx⟩ := gd hx
      refine wp_rt (i := .ireturn) (r := some (.int (Int32.ofInt o8.1))) (ln := 1) (a := 0) (b := 0) (z := 0) (by decide +kernel) rfl (ret_b (by decide +kernel) (w01 h12)) ?_
      cases hx
      exact kr _ h11
  · have hx := ite_f h1 hx
    refine wp_g 1 (pc1 := 30) (lv1 := [(2, .int (Int32.ofInt k0)), (0, .ref 146), (1, .int (Int32.ofInt x1))]) (st1 := [.ref 146]) (w1 := w) rfl ?_
    obtain ⟨o13, e14, hx⟩ := bd hx
    refine wp_cl [.ref 146] [] (i := .invokevirtual 257) (ln := 3) (a := 180) (b := 0) (z := 0) (by decide +kernel) rfl rfl (by decide) rfl (show (1 : Nat) = pm_na 180 by decide +kernel) (Nat.le_of_ble_eq_true rfl) (show (1 : Nat) ≤ pm_n 180 by decide +kernel) (rcv_x 12 h (hS _ _ sm_146) (by decide +kernel)) (xm_isClothWord_ok (d := d + 7) hS h e14 (fun w15 h16 => ?_))
    show wp _ 181 33 [(2, .int (Int32.ofInt k0)), (0, .ref 146), (1, .int (Int32.ofInt x1))] [.int (Int32.ofInt o13.1)] w15 _
    refine wz_ne (oo := 23) (ln := 3) (a := 56) (b := 0) (zz := 0) (by decide +kernel) (fun h17 => ?_) (fun h17 => ?_)
    · have hx := ite_f h17 hx
      refine wp_g 1 (pc1 := 57) (lv1 := [(2, .int (Int32.ofInt k0)), (0, .ref 146), (1, .int (Int32.ofInt x1))]) (st1 := [.ref 146]) (w1 := w15) rfl ?_
      refine wx_gi (kf := 262) (ln := 3) (ci := 12) (b := 14) (zz := 0) (x := 146) (by decide +kernel) h16 (hS _ _ sm_146) rfl ?_
      show wp _ 181 60 [(2, .int (Int32.ofInt k0)), (0, .ref 146), (1, .int (Int32.ofInt x1))] [.int (Int32.ofInt (o13.2 146 14))] w15 _
      refine wp_g 1 (pc1 := 61) (lv1 := [(2, .int (Int32.ofInt k0)), (0, .ref 146), (1, .int (Int32.ofInt x1))]) (st1 := [.int (Int32.ofInt k0), .int (Int32.ofInt (o13.2 146 14))]) (w1 := w15) rfl ?_
      refine wz_eq (oo := 8) (ln := 3) (a := 69) (b := 0) (zz := 0) (by decide +kernel) (fun h18 => ?_) (fun h18 => ?_)
      · have hx := ite_t h18 hx
        refine wp_g 1 (pc1 := 71) (lv1 := [(2, .int (Int32.ofInt k0)), (0, .ref 146), (1, .int (Int32.ofInt x1))]) (st1 := [.int (Int32.ofInt 12), .int (Int32.ofInt (o13.2 146 14))]) (w1 := w15) rfl ?_
        refine wp_lv (lv1 := [(0, .ref 146), (1, .int (Int32.ofInt x1)), (2, .int (Int32.ofInt k0))]) (lsub_p [1, 2, 0] rfl rfl rfl) ?_
        exact xm_clauseHere_j71_ok hS h16 hx kr
      · have hx := ite_f h18 hx
        refine wp_g 2 (pc1 := 71) (lv1 := [(2, .int (Int32.ofInt k0)), (0, .ref 146), (1, .int (Int32.ofInt x1))]) (st1 := [.int (Int32.ofInt 40), .int (Int32.ofInt (o13.2 146 14))]) (w1 := w15) rfl ?_
        refine wp_lv (lv1 := [(0, .ref 146), (1, .int (Int32.ofInt x1)), (2, .int (Int32.ofInt k0))]) (lsub_p [1, 2, 0] rfl rfl rfl) ?_
        exact xm_clauseHere_j71_ok hS h16 hx kr
    · have hx := ite_t h17 hx
      refine wp_g 4 (pc1 := 52) (lv1 := [(2, .int (Int32.ofInt k0)), (0, .ref 146), (1, .int (Int32.ofInt x1))]) (st1 := [.int (Int32.ofInt x1), .int (Int32.ofInt 0), .ref 146]) (w1 := w15) rfl ?_
      obtain ⟨o19, e20, hx⟩ := bd hx
      refine wp_cl [.ref 146, .int (Int32.ofInt 0), .int (Int32.ofInt x1)] [] (i := .invokevirtual 132) (ln := 3) (a := 152) (b := 0) (z := 0) (by decide +kernel) rfl rfl (by decide) rfl (show (3 : Nat) = pm_na 152 by decide +kernel) (Nat.le_of_ble_eq_true rfl) (show (3 : Nat) ≤ pm_n 152 by decide +kernel) (rcv_x 12 h16 (hS _ _ sm_146) (by decide +kernel)) (xm_fails_ok (d := d + 9) hS h16 e20 (fun w21 h22 => ?_))
      show wp _ 181 55 [(2, .int (Int32.ofInt k0)), (0, .ref 146), (1, .int (Int32.ofInt x1))] [.int (Int32.ofInt o19.1)] w21 _
      obtain ⟨h23, hx⟩ := gd hx
      refine wp_rt (i := .ireturn) (r := some (.int (Int32.ofInt o19.1))) (ln := 1) (a := 0) (b := 0) (z := 0) (by decide +kernel) rfl (ret_b (by decide +kernel) (w01 h23)) ?_
      cases hx
      exact kr _ h22
/-- FoldDeedsModel.clauseHere ()Z -/
noncomputable def xm_clauseHere (s : Hp) : Option (Int × Hp) :=
  (xm_see s).bind fun o1 => if w32 (o1.2 146 11) = w32 6 then xm_clauseHere_j24 o1.2 (o1.2 146 8) 1 else xm_clauseHere_j24 o1.2 (o1.2 146 8) 0
set_option maxRecDepth 100000 in
theorem xm_clauseHere_ok {d : Nat} {P : Option Value → pm_H → Prop} {w : pm_H} {sh : Shp} {w0 : pm_H} {s : Hp} (hS : StM sh) (h : Rw sh w0 s w) {o : Int × Hp} (hx : xm_clauseHere s = some o) (kr : ∀ w1, Rw sh w0 o.2 w1 → P (some (.int (Int32.ofInt o.1))) w1) : wp (d + 10) 181 0 (lv_args 0 [.ref 146]) [] w P := by
  show wp _ 181 0 [(0, .ref 146)] [] w _
  unfold xm_clauseHere at hx
  refine wp_g 1 (pc1 := 1) (lv1 := [(0, .ref 146)]) (st1 := [.ref 146]) (w1 := w) rfl ?_
  obtain ⟨o1, e2, hx⟩ := bd hx
  refine wp_cl [.ref 146] [] (i := .invokevirtual 114) (ln := 3) (a := 153) (b := 0) (z := 0) (by decide +kernel) rfl rfl (by decide) rfl (show (1 : Nat) = pm_na 153 by decide +kernel) (Nat.le_of_ble_eq_true rfl) (show (1 : Nat) ≤ pm_n 153 by decide +kernel) (rcv_x 12 h (hS _ _ sm_146) (by decide +kernel)) (xm_see_ok (d := d + 9) hS h e2 (fun w3 h4 => ?_))
  show wp _ 181 4 [(0, .ref 146)] [.int (Int32.ofInt o1.1)] w3 _
  refine wp_g 2 (pc1 := 6) (lv1 := [(0, .ref 146)]) (st1 := [.ref 146]) (w1 := w3) rfl ?_
  refine wx_gi (kf := 111) (ln := 3) (ci := 12) (b := 8) (zz := 0) (x := 146) (by decide +kernel) h4 (hS _ _ sm_146) rfl ?_
  show wp _ 181 9 [(0, .ref 146)] [.int (Int32.ofInt (o1.2 146 8))] w3 _
  refine wp_g 2 (pc1 := 11) (lv1 := [(1, .int (Int32.ofInt (o1.2 146 8))), (0, .ref 146)]) (st1 := [.ref 146]) (w1 := w3) rfl ?_
  refine wx_gi (kf := 165) (ln := 3) (ci := 12) (b := 11) (zz := 0) (x := 146) (by decide +kernel) h4 (hS _ _ sm_146) rfl ?_
  show wp _ 181 14 [(1, .int (Int32.ofInt (o1.2 146 8))), (0, .ref 146)] [.int (Int32.ofInt (o1.2 146 11))] w3 _
  refine wp_g 1 (pc1 := 16) (lv1 := [(1, .int (Int32.ofInt (o1.2 146 8))), (0, .ref 146)]) (st1 := [.int (Int32.ofInt 6), .int (Int32.ofInt (o1.2 146 11))]) (w1 := w3) rfl ?_
  refine wx_ne (oo := 7) (ln := 3) (a := 23) (b := 0) (zz := 0) (by decide +kernel) (fun h5 => ?_) (fun h5 => ?_)
  · have hx := ite_f h5 hx
    refine wp_g 1 (pc1 := 24) (lv1 := [(1, .int (Int32.ofInt (o1.2 146 8))), (0, .ref 146)]) (st1 := [.int (Int32.ofInt 0)]) (w1 := w3) rfl ?_
    refine wp_lv (lv1 := [(0, .ref 146), (1, .int (Int32.ofInt (o1.2 146 8)))]) (lsub_p [1, 0] rfl rfl rfl) ?_
    exact xm_clauseHere_j24_ok hS h4 hx kr
  · have hx := ite_t h5 hx
    refine wp_g 2 (pc1 := 24) (lv1 := [(1, .int (Int32.ofInt (o1.2 146 8))), (0, .ref 146)]) (st1 := [.int (Int32.ofInt 1)]) (w1 := w3) rfl ?_
    refine wp_lv (lv1 := [(0, .ref 146), (1, .int (Int32.ofInt (o1.2 146 8)))]) (lsub_p [1, 0] rfl rfl rfl) ?_
    exact xm_clauseHere_j24_ok hS h4 hx kr
noncomputable def xm_readsAll_b35 (s : Hp) (x1 : Int) : Option ((Int × Hp) ⊕ (Int × Hp)) :=
  if w32 x1 = 0 then some (.inr (x1, s)) else (xm_see s).bind fun o2 => if w32 o2.1 = w32 59 then (some (uh o2.2 146 8 ((o2.2 146 8) + 1))).bind fun s7 => (xm_clauseHere s7).bind fun o11 => some (.inl (o11.1, o11.2)) else some (.inr (x1, o2.2))
set_option maxRecDepth 100000 in
theorem xm_readsAll_b35_ok {d : Nat} {P : Option Value → pm_H → Prop} {w : pm_H} {sh : Shp} {w0 : pm_H} {s : Hp} (hS : StM sh) {x1 : Int} (h : Rw sh w0 s w) {o : ((Int × Hp) ⊕ (Int × Hp))} (hx : xm_readsAll_b35 s x1 = some o) (kn : ∀ (q : Int × Hp) w1, o = .inl q → Rw sh w0 q.2 w1 → wp (d + 11) 182 35 [(0, .ref 146), (1, .int (Int32.ofInt q.1))] [] w1 P) (kc : ∀ (r : (Int × Hp)), o = .inr r → (∀ w1, Rw sh w0 r.2 w1 → wp (d + 11) 182 66 [(0, .ref 146), (1, .int (Int32.ofInt r.1))] [] w1 P)) : wp (d + 11) 182 35 [(0, .ref 146), (1, .int (Int32.ofInt x1))] [] w P := by
  unfold xm_readsAll_b35 at hx
  refine wp_g 1 (pc1 := 36) (lv1 := [(0, .ref 146), (1, .int (Int32.ofInt x1))]) (st1 := [.int (Int32.ofInt x1)]) (w1 := w) rfl ?_
  refine wz_eq (oo := 30) (ln := 3) (a := 66) (b := 0) (zz := 0) (by decide +kernel) (fun h1 => ?_) (fun h1 => ?_)
  · have hx := ite_t h1 hx
    cases hx
    exact kc _ rfl _ h
  · have hx := ite_f h1 hx
    refine wp_g 1 (pc1 := 40) (lv1 := [(0, .ref 146), (1, .int (Int32.ofInt x1))]) (st1 := [.ref 146]) (w1 := w) rfl ?_
    obtain ⟨o2, e3, hx⟩ := bd hx
    refine wp_cl [.ref 146] [] (i := .invokevirtual 114) (ln := 3) (a := 153) (b := 0) (z := 0) (by decide +kernel) rfl rfl (by decide) rfl (show (1 : Nat) = pm_na 153 by decide +kernel) (Nat.le_of_ble_eq_true rfl) (show (1 : Nat) ≤ pm_n 153 by decide +kernel) (rcv_x 12 h (hS _ _ sm_146) (by decide +kernel)) (xm_see_ok (d := d + 10) hS h e3 (fun w4 h5 => ?_))
    show wp _ 182 43 [(0, .ref 146), (1, .int (Int32.ofInt x1))] [.int (Int32.ofInt o2.1)] w4 _
    refine wp_g 1 (pc1 := 45) (lv1 := [(0, .ref 146), (1, .int (Int32.ofInt x1))]) (st1 := [.int (Int32.ofInt 59), .int (Int32.ofInt o2.1)]) (w1 := w4) rfl ?_
    refine wx_ne (oo := 21) (ln := 3) (a := 66) (b := 0) (zz := 0) (by decide +kernel) (fun h6 => ?_) (fun h6 => ?_)
    · have hx := ite_f h6 hx
      cases hx
      exact kc _ rfl _ h5
    · have hx := ite_t h6 hx
      refine wp_g 2 (pc1 := 50) (lv1 := [(0, .ref 146), (1, .int (Int32.ofInt x1))]) (st1 := [.ref 146, .ref 146]) (w1 := w4) rfl ?_
      refine wx_gi (kf := 111) (ln := 3) (ci := 12) (b := 8) (zz := 0) (x := 146) (by decide +kernel) h5 (hS _ _ sm_146) rfl ?_
      show wp _ 182 53 [(0, .ref 146), (1, .int (Int32.ofInt x1))] [.int (Int32.ofInt (o2.2 146 8)), .ref 146] w4 _
      refine wp_g 2 (pc1 := 55) (lv1 := [(0, .ref 146), (1, .int (Int32.ofInt x1))]) (st1 := [.int (Int32.ofInt ((o2.2 146 8) + 1)), .ref 146]) (w1 := w4) (by simp only [Int32.ofInt_add, Int32.ofInt_sub, Int32.ofInt_mul, Int32.ofInt_neg, p_and, p_or, p_xor, p_shl, p_shr, p_usr, p_w8, p_c16, p_lI, q_and, q_or, q_shl, q_shr, q_w32, Int64.ofInt_add, Int64.ofInt_sub, Int64.ofInt_mul, p_mx, p_mn, q_mx, q_mn]; rfl) ?_
      obtain ⟨s7, e8, hx⟩ := bd hx
      refine wx_pi (kf := 111) (ln := 3) (ci := 12) (b := 8) (zz := 0) (x := 146) (by decide +kernel) h5 (hS _ _ sm_146) rfl (by decide +kernel) e8 (fun w9 h10 => ?_)
      refine wp_g 1 (pc1 := 59) (lv1 := [(0, .ref 146), (1, .int (Int32.ofInt x1))]) (st1 := [.ref 146]) (w1 := w9) rfl ?_
      obtain ⟨o11, e12, hx⟩ := bd hx
      refine wp_cl [.ref 146] [] (i := .invokevirtual 271) (ln := 3) (a := 181) (b := 0) (z := 0) (by decide +kernel) rfl rfl (by decide) rfl (show (1 : Nat) = pm_na 181 by decide +kernel) (Nat.le_of_ble_eq_true rfl) (show (1 : Nat) ≤ pm_n 181 by decide +kernel) (rcv_x 12 h10 (hS _ _ sm_146) (by decide +kernel)) (xm_clauseHere_ok (d := d) hS h10 e12 (fun w13 h14 => ?_))
      show wp _ 182 62 [(0, .ref 146), (1, .int (Int32.ofInt x1))] [.int (Int32.ofInt o11.1)] w13 _
      refine wp_g 2 (pc1 := 35) (lv1 := [(1, .int (Int32.ofInt o11.1)), (0, .ref 146)]) (st1 := []) (w1 := w13) rfl ?_
      refine wp_lv (lv1 := [(0, .ref 146), (1, .int (Int32.ofInt o11.1))]) (lsub_p [1, 0] rfl rfl rfl) ?_
      cases hx
      exact kn _ _ rfl h14
noncomputable def xm_readsAll_j88 (s : Hp) : Option (Int × Hp) :=
  (some (uh s 146 1 0)).bind fun s1 => if w32 (s1 146 9) = 0 then some (1, s1) else some (0, s1)
set_option maxRecDepth 100000 in
theorem xm_readsAll_j88_ok {d : Nat} {P : Option Value → pm_H → Prop} {w : pm_H} {sh : Shp} {w0 : pm_H} {s : Hp} (hS : StM sh) (h : Rw sh w0 s w) {o : (Int × Hp)} (hx : xm_readsAll_j88 s = some o) (kr : ∀ w1, Rw sh w0 o.2 w1 → P (some (.int (Int32.ofInt o.1))) w1) : wp (d + 11) 182 88 [(0, .ref 146)] [] w P := by
  unfold xm_readsAll_j88 at hx
  refine wp_g 2 (pc1 := 90) (lv1 := [(0, .ref 146)]) (st1 := [.int (Int32.ofInt 0), .ref 146]) (w1 := w) rfl ?_
  obtain ⟨s1, e2, hx⟩ := bd hx
  refine wx_pi (kf := 101) (ln := 3) (ci := 12) (b := 1) (zz := 0) (x := 146) (by decide +kernel) h (hS _ _ sm_146) rfl (by decide +kernel) e2 (fun w3 h4 => ?_)
  refine wp_g 1 (pc1 := 94) (lv1 := [(0, .ref 146)]) (st1 := [.ref 146]) (w1 := w3) rfl ?_
  refine wx_gi (kf := 108) (ln := 3) (ci := 12) (b := 9) (zz := 0) (x := 146) (by decide +kernel) h4 (hS _ _ sm_146) rfl ?_
  show wp _ 182 97 [(0, .ref 146)] [.int (Int32.ofInt (s1 146 9))] w3 _
  refine wz_ne (oo := 7) (ln := 3) (a := 104) (b := 0) (zz := 0) (by decide +kernel) (fun h5 => ?_) (fun h5 => ?_)
  · have hx := ite_f h5 hx
    refine wp_g 1 (pc1 := 105) (lv1 := [(0, .ref 146)]) (st1 := [.int (Int32.ofInt 0)]) (w1 := w3) rfl ?_
    refine wp_rt (i := .ireturn) (r := some (.int (Int32.ofInt 0))) (ln := 1) (a := 0) (b := 0) (z := 0) (by decide +kernel) rfl (ret_b (by decide +kernel) (Or.inl rfl)) ?_
    cases hx
    exact kr _ h4
  · have hx := ite_t h5 hx
    refine wp_g 2 (pc1 := 105) (lv1 := [(0, .ref 146)]) (st1 := [.int (Int32.ofInt 1)]) (w1 := w3) rfl ?_
    refine wp_rt (i := .ireturn) (r := some (.int (Int32.ofInt 1))) (ln := 1) (a := 0) (b := 0) (z := 0) (by decide +kernel) rfl (ret_b (by decide +kernel) (Or.inr rfl)) ?_
    cases hx
    exact kr _ h4
noncomputable def xm_readsAll_j66 (s : Hp) (x1 : Int) : Option (Int × Hp) :=
  if w32 x1 = 0 then xm_readsAll_j88 s else (xm_see s).bind fun o2 => if w32 o2.1 = w32 (-1) then xm_readsAll_j88 o2.2 else (xm_fails o2.2 0 (o2.2 146 8)).bind fun o7 => xm_readsAll_j88 o7.2
set_option maxRecDepth 100000 in
theorem xm_readsAll_j66_ok {d : Nat} {P : Option Value → pm_H → Prop} {w : pm_H} {sh : Shp} {w0 : pm_H} {s : Hp} (hS : StM sh) {x1 : Int} (h : Rw sh w0 s w) {o : (Int × Hp)} (hx : xm_readsAll_j66 s x1 = some o) (kr : ∀ w1, Rw sh w0 o.2 w1 → P (some (.int (Int32.ofInt o.1))) w1) : wp (d + 11) 182 66 [(0, .ref 146), (1, .int (Int32.ofInt x1))] [] w P := by
  unfold xm_readsAll_j66 at hx
  refine wp_g 1 (pc1 := 67) (lv1 := [(0, .ref 146), (1, .int (Int32.ofInt x1))]) (st1 := [.int (Int32.ofInt x1)]) (w1 := w) rfl ?_
  refine wz_eq (oo := 21) (ln := 3) (a := 88) (b := 0) (zz := 0) (by decide +kernel) (fun h1 => ?_) (fun h1 => ?_)
  · have hx := ite_t h1 hx
    refine wp_lv (lv1 := [(0, .ref 146)]) (lsub_p [0] rfl rfl rfl) ?_
    exact xm_readsAll_j88_ok hS h hx kr
  · have hx := ite_f h1 hx
    refine wp_g 1 (pc1 := 71) (lv1 := [(0, .ref 146), (1, .int (Int32.ofInt x1))]) (st1 := [.ref 146]) (w1 := w) rfl ?_
    obtain ⟨o2, e3, hx⟩ := bd hx
    refine wp_cl [.ref 146] [] (i := .invokevirtual 114) (ln := 3) (a := 153) (b := 0) (z := 0) (by decide +kernel) rfl rfl (by decide) rfl (show (1 : Nat) = pm_na 153 by decide +kernel) (Nat.le_of_ble_eq_true rfl) (show (1 : Nat) ≤ pm_n 153 by decide +kernel) (rcv_x 12 h (hS _ _ sm_146) (by decide +kernel)) (xm_see_ok (d := d + 10) hS h e3 (fun w4 h5 => ?_))
    show wp _ 182 74 [(0, .ref 146), (1, .int (Int32.ofInt x1))] [.int (Int32.ofInt o2.1)] w4 _
    refine wp_g 1 (pc1 := 75) (lv1 := [(0, .ref 146), (1, .int (Int32.ofInt x1))]) (st1 := [.int (Int32.ofInt (-1)), .int (Int32.ofInt o2.1)]) (w1 := w4) rfl ?_
    refine wx_eq (oo := 13) (ln := 3) (a := 88) (b := 0) (zz := 0) (by decide +kernel) (fun h6 => ?_) (fun h6 => ?_)
    · have hx := ite_t h6 hx
      refine wp_lv (lv1 := [(0, .ref 146)]) (lsub_p [0] rfl rfl rfl) ?_
      exact xm_readsAll_j88_ok hS h5 hx kr
    · have hx := ite_f h6 hx
      refine wp_g 3 (pc1 := 81) (lv1 := [(0, .ref 146), (1, .int (Int32.ofInt x1))]) (st1 := [.ref 146, .int (Int32.ofInt 0), .ref 146]) (w1 := w4) rfl ?_
      refine wx_gi (kf := 111) (ln := 3) (ci := 12) (b := 8) (zz := 0) (x := 146) (by decide +kernel) h5 (hS _ _ sm_146) rfl ?_
      show wp _ 182 84 [(0, .ref 146), (1, .int (Int32.ofInt x1))] [.int (Int32.ofInt (o2.2 146 8)), .int (Int32.ofInt 0), .ref 146] w4 _
      obtain ⟨o7, e8, hx⟩ := bd hx
      refine wp_cl [.ref 146, .int (Int32.ofInt 0), .int (Int32.ofInt (o2.2 146 8))] [] (i := .invokevirtual 132) (ln := 3) (a := 152) (b := 0) (z := 0) (by decide +kernel) rfl rfl (by decide) rfl (show (3 : Nat) = pm_na 152 by decide +kernel) (Nat.le_of_ble_eq_true rfl) (show (3 : Nat) ≤ pm_n 152 by decide +kernel) (rcv_x 12 h5 (hS _ _ sm_146) (by decide +kernel)) (xm_fails_ok (d := d + 10) hS h5 e8 (fun w9 h10 => ?_))
      show wp _ 182 87 [(0, .ref 146), (1, .int (Int32.ofInt x1))] [.int (Int32.ofInt o7.1)] w9 _
      refine wp_g 1 (pc1 := 88) (lv1 := [(0, .ref 146), (1, .int (Int32.ofInt x1))]) (st1 := []) (w1 := w9) rfl ?_
      refine wp_lv (lv1 := [(0, .ref 146)]) (lsub_p [0] rfl rfl rfl) ?_
      exact xm_readsAll_j88_ok hS h10 hx kr
/-- FoldDeedsModel.readsAll ()Z -/
noncomputable def xm_readsAll (s : Hp) : Option (Int × Hp) :=
  (ix 7 (s 146 11)).bind fun i1 => (some (uh s 149 i1 0)).bind fun s3 => (some (uh s3 146 14 0)).bind fun s7 => (some (uh s7 146 8 0)).bind fun s11 => (some (uh s11 146 9 0)).bind fun s15 => (some (uh s15 146 12 0)).bind fun s19 => (xm_clauseHere s19).bind fun o23 => (lp (fun (q : Int × Hp) => xm_readsAll_b35 q.2 q.1) (o23.1, o23.2)).bind fun q27 => xm_readsAll_j66 q27.2 q27.1
set_option maxRecDepth 100000 in
theorem xm_readsAll_ok {d : Nat} {P : Option Value → pm_H → Prop} {w : pm_H} {sh : Shp} {w0 : pm_H} {s : Hp} (hS : StM sh) (h : Rw sh w0 s w) {o : Int × Hp} (hx : xm_readsAll s = some o) (kr : ∀ w1, Rw sh w0 o.2 w1 → P (some (.int (Int32.ofInt o.1))) w1) : wp (d + 11) 182 0 (lv_args 0 [.ref 146]) [] w P := by
  show wp _ 182 0 [(0, .ref 146)] [] w _
  unfold xm_readsAll at hx
  refine wp_g 1 (pc1 := 1) (lv1 := [(0, .ref 146)]) (st1 := [.ref 146]) (w1 := w) rfl ?_
  refine wx_gr (o := 3) (kf := 17) (ln := 3) (ci := 12) (b := 4) (zz := 0) (x := 146) (by decide +kernel) h (hS _ _ sm_146) rfl ?_
  show wp _ 182 4 [(0, .ref 146)] [.ref 149] w _
  refine wp_g 1 (pc1 := 5) (lv1 := [(0, .ref 146)]) (st1 := [.ref 146, .ref 149]) (w1 := w) rfl ?_
  refine wx_gi (kf := 165) (ln := 3) (ci := 12) (b := 11) (zz := 0) (x := 146) (by decide +kernel) h (hS _ _ sm_146) rfl ?_
  show wp _ 182 8 [(0, .ref 146)] [.int (Int32.ofInt (s 146 11)), .ref 149] w _
  refine wp_g 1 (pc1 := 9) (lv1 := [(0, .ref 146)]) (st1 := [.int (Int32.ofInt 0), .int (Int32.ofInt (s 146 11)), .ref 149]) (w1 := w) rfl ?_
  obtain ⟨i1, e2, hx⟩ := bd hx
  obtain ⟨s3, e4, hx⟩ := bd hx
  refine wx_wa (x := 149) (n := 7) (ln := 1) (a := 0) (b := 0) (zz := 0) (by decide +kernel) h (hS _ _ sm_149) e2 e4 (fun w5 h6 => ?_)
  refine wp_g 2 (pc1 := 12) (lv1 := [(0, .ref 146)]) (st1 := [.int (Int32.ofInt 0), .ref 146]) (w1 := w5) rfl ?_
  obtain ⟨s7, e8, hx⟩ := bd hx
  refine wx_pi (kf := 262) (ln := 3) (ci := 12) (b := 14) (zz := 0) (x := 146) (by decide +kernel) h6 (hS _ _ sm_146) rfl (by decide +kernel) e8 (fun w9 h10 => ?_)
  refine wp_g 2 (pc1 := 17) (lv1 := [(0, .ref 146)]) (st1 := [.int (Int32.ofInt 0), .ref 146]) (w1 := w9) rfl ?_
  obtain ⟨s11, e12, hx⟩ := bd hx
  refine wx_pi (kf := 111) (ln := 3) (ci := 12) (b := 8) (zz := 0) (x := 146) (by decide +kernel) h10 (hS _ _ sm_146) rfl (by decide +kernel) e12 (fun w13 h14 => ?_)
  refine wp_g 2 (pc1 := 22) (lv1 := [(0, .ref 146)]) (st1 := [.int (Int32.ofInt 0), .ref 146]) (w1 := w13) rfl ?_
  obtain ⟨s15, e16, hx⟩ := bd hx
  refine wx_pi (kf := 108) (ln := 3) (ci := 12) (b := 9) (zz := 0) (x := 146) (by decide +kernel) h14 (hS _ _ sm_146) rfl (by decide +kernel) e16 (fun w17 h18 => ?_)
  refine wp_g 2 (pc1 := 27) (lv1 := [(0, .ref 146)]) (st1 := [.int (Int32.ofInt 0), .ref 146]) (w1 := w17) rfl ?_
  obtain ⟨s19, e20, hx⟩ := bd hx
  refine wx_pi (kf := 168) (ln := 3) (ci := 12) (b := 12) (zz := 0) (x := 146) (by decide +kernel) h18 (hS _ _ sm_146) rfl (by decide +kernel) e20 (fun w21 h22 => ?_)
  refine wp_g 1 (pc1 := 31) (lv1 := [(0, .ref 146)]) (st1 := [.ref 146]) (w1 := w21) rfl ?_
  obtain ⟨o23, e24, hx⟩ := bd hx
  refine wp_cl [.ref 146] [] (i := .invokevirtual 271) (ln := 3) (a := 181) (b := 0) (z := 0) (by decide +kernel) rfl rfl (by decide) rfl (show (1 : Nat) = pm_na 181 by decide +kernel) (Nat.le_of_ble_eq_true rfl) (show (1 : Nat) ≤ pm_n 181 by decide +kernel) (rcv_x 12 h22 (hS _ _ sm_146) (by decide +kernel)) (xm_clauseHere_ok (d := d) hS h22 e24 (fun w25 h26 => ?_))
  show wp _ 182 34 [(0, .ref 146)] [.int (Int32.ofInt o23.1)] w25 _
  refine wp_g 1 (pc1 := 35) (lv1 := [(1, .int (Int32.ofInt o23.1)), (0, .ref 146)]) (st1 := []) (w1 := w25) rfl ?_
  refine wp_lv (lv1 := [(0, .ref 146), (1, .int (Int32.ofInt o23.1))]) (lsub_p [1, 0] rfl rfl rfl) ?_
  obtain ⟨q27, e28, hx⟩ := bd hx
  refine wp_lp (σ := Int × Hp) (ρ := (Int × Hp)) (B := fun q => xm_readsAll_b35 q.2 q.1) (R := fun q w' => Rw sh w0 q.2 w') (C := fun r => ∀ w1, Rw sh w0 r.2 w1 → wp (d + 11) 182 66 [(0, .ref 146), (1, .int (Int32.ofInt r.1))] [] w1 P) (lv := fun q => [(0, .ref 146), (1, .int (Int32.ofInt q.1))]) (hd := 35) (fun q w' o hR hb kn kc => xm_readsAll_b35_ok hS hR hb kn kc) _ _ _ e28 h26 ?_
  intro w29 h30
  show wp _ 182 66 [(0, .ref 146), (1, .int (Int32.ofInt q27.1))] [] w29 _
  exact xm_readsAll_j66_ok hS h30 hx kr
/-- FoldDeedsModel.rule ()I -/
noncomputable def xm_rule (s : Hp) : Option (Int × Hp) :=
  if w32 (s 146 2) = w32 6 then some ((-1), s) else (some (uh s 146 11 (s 146 2))).bind fun s2 => (ix 6 (s2 146 11)).bind fun i6 => (some (uh s2 151 i6 0)).bind fun s8 => (xm_readsAll s8).bind fun o12 => if w32 o12.1 = 0 then some ((-2) - (o12.2 146 9), o12.2) else (some (uh o12.2 146 2 ((o12.2 146 2) + 1))).bind fun s17 => some ((s17 146 2) - 1, s17)
set_option maxRecDepth 100000 in
theorem xm_rule_ok {d : Nat} {P : Option Value → pm_H → Prop} {w : pm_H} {sh : Shp} {w0 : pm_H} {s : Hp} (hS : StM sh) (h : Rw sh w0 s w) {o : Int × Hp} (hx : xm_rule s = some o) (kr : ∀ w1, Rw sh w0 o.2 w1 → P (some (.int (Int32.ofInt o.1))) w1) : wp (d + 12) 183 0 (lv_args 0 [.ref 146]) [] w P := by
  show wp _ 183 0 [(0, .ref 146)] [] w _
  unfold xm_rule at hx
  refine wp_g 1 (pc1 := 1) (lv1 := [(0, .ref 146)]) (st1 := [.ref 146]) (w1 := w) rfl ?_
  refine wx_gi (kf := 274) (ln := 3) (ci := 12) (b := 2) (zz := 0) (x := 146) (by decide +kernel) h (hS _ _ sm_146) rfl ?_
  show wp _ 183 4 [(0, .ref 146)] [.int (Int32.ofInt (s 146 2))] w _
  refine wp_g 1 (pc1 := 6) (lv1 := [(0, .ref 146)]) (st1 := [.int (Int32.ofInt 6), .int (Int32.ofInt (s 146 2))]) (w1 := w) rfl ?_
  refine wx_ne (oo := 5) (ln := 3) (a := 11) (b := 0) (zz := 0) (by decide +kernel) (fun h1 => ?_) (fun h1 => ?_)
  · have hx := ite_f h1 hx
    refine wp_g 2 (pc1 := 13) (lv1 := [(0, .ref 146)]) (st1 := [.ref 146, .ref 146]) (w1 := w) rfl ?_
    refine wx_gi (kf := 274) (ln := 3) (ci := 12) (b := 2) (zz := 0) (x := 146) (by decide +kernel) h (hS _ _ sm_146) rfl ?_
    show wp _ 183 16 [(0, .ref 146)] [.int (Int32.ofInt (s 146 2)), .ref 146] w _
    obtain ⟨s2, e3, hx⟩ := bd hx
    refine wx_pi (kf := 165) (ln := 3) (ci := 12) (b := 11) (zz := 0) (x := 146) (by decide +kernel) h (hS _ _ sm_146) rfl (by decide +kernel) e3 (fun w4 h5 => ?_)
    refine wp_g 1 (pc1 := 20) (lv1 := [(0, .ref 146)]) (st1 := [.ref 146]) (w1 := w4) rfl ?_
    refine wx_gr (o := 5) (kf := 23) (ln := 3) (ci := 12) (b := 6) (zz := 0) (x := 146) (by decide +kernel) h5 (hS _ _ sm_146) rfl ?_
    show wp _ 183 23 [(0, .ref 146)] [.ref 151] w4 _
    refine wp_g 1 (pc1 := 24) (lv1 := [(0, .ref 146)]) (st1 := [.ref 146, .ref 151]) (w1 := w4) rfl ?_
    refine wx_gi (kf := 165) (ln := 3) (ci := 12) (b := 11) (zz := 0) (x := 146) (by decide +kernel) h5 (hS _ _ sm_146) rfl ?_
    show wp _ 183 27 [(0, .ref 146)] [.int (Int32.ofInt (s2 146 11)), .ref 151] w4 _
    refine wp_g 1 (pc1 := 28) (lv1 := [(0, .ref 146)]) (st1 := [.int (Int32.ofInt 0), .int (Int32.ofInt (s2 146 11)), .ref 151]) (w1 := w4) rfl ?_
    obtain ⟨i6, e7, hx⟩ := bd hx
    obtain ⟨s8, e9, hx⟩ := bd hx
    refine wx_wa (x := 151) (n := 6) (ln := 1) (a := 0) (b := 0) (zz := 0) (by decide +kernel) h5 (hS _ _ sm_151) e7 e9 (fun w10 h11 => ?_)
    refine wp_g 1 (pc1 := 30) (lv1 := [(0, .ref 146)]) (st1 := [.ref 146]) (w1 := w10) rfl ?_
    obtain ⟨o12, e13, hx⟩ := bd hx
    refine wp_cl [.ref 146] [] (i := .invokevirtual 277) (ln := 3) (a := 182) (b := 0) (z := 0) (by decide +kernel) rfl rfl (by decide) rfl (show (1 : Nat) = pm_na 182 by decide +kernel) (Nat.le_of_ble_eq_true rfl) (show (1 : Nat) ≤ pm_n 182 by decide +kernel) (rcv_x 12 h11 (hS _ _ sm_146) (by decide +kernel)) (xm_readsAll_ok (d := d) hS h11 e13 (fun w14 h15 => ?_))
    show wp _ 183 33 [(0, .ref 146)] [.int (Int32.ofInt o12.1)] w14 _
    refine wz_ne (oo := 11) (ln := 3) (a := 44) (b := 0) (zz := 0) (by decide +kernel) (fun h16 => ?_) (fun h16 => ?_)
    · have hx := ite_f h16 hx
      refine wp_g 2 (pc1 := 46) (lv1 := [(0, .ref 146)]) (st1 := [.ref 146, .ref 146]) (w1 := w14) rfl ?_
      refine wx_gi (kf := 274) (ln := 3) (ci := 12) (b := 2) (zz := 0) (x := 146) (by decide +kernel) h15 (hS _ _ sm_146) rfl ?_
      show wp _ 183 49 [(0, .ref 146)] [.int (Int32.ofInt (o12.2 146 2)), .ref 146] w14 _
      refine wp_g 2 (pc1 := 51) (lv1 := [(0, .ref 146)]) (st1 := [.int (Int32.ofInt ((o12.2 146 2) + 1)), .ref 146]) (w1 := w14) (by simp only [Int32.ofInt_add, Int32.ofInt_sub, Int32.ofInt_mul, Int32.ofInt_neg, p_and, p_or, p_xor, p_shl, p_shr, p_usr, p_w8, p_c16, p_lI, q_and, q_or, q_shl, q_shr, q_w32, Int64.ofInt_add, Int64.ofInt_sub, Int64.ofInt_mul, p_mx, p_mn, q_mx, q_mn]; rfl) ?_
      obtain ⟨s17, e18, hx⟩ := bd hx
      refine wx_pi (kf := 274) (ln := 3) (ci := 12) (b := 2) (zz := 0) (x := 146) (by decide +kernel) h15 (hS _ _ sm_146) rfl (by decide +kernel) e18 (fun w19 h20 => ?_)
      refine wp_g 1 (pc1 := 55) (lv1 := [(0, .ref 146)]) (st1 := [.ref 146]) (w1 := w19) rfl ?_
      refine wx_gi (kf := 274) (ln := 3) (ci := 12) (b := 2) (zz := 0) (x := 146) (by decide +kernel) h20 (hS _ _ sm_146) rfl ?_
      show wp _ 183 58 [(0, .ref 146)] [.int (Int32.ofInt (s17 146 2))] w19 _
      refine wp_g 2 (pc1 := 60) (lv1 := [(0, .ref 146)]) (st1 := [.int (Int32.ofInt ((s17 146 2) - 1))]) (w1 := w19) (by simp only [Int32.ofInt_add, Int32.ofInt_sub, Int32.ofInt_mul, Int32.ofInt_neg, p_and, p_or, p_xor, p_shl, p_shr, p_usr, p_w8, p_c16, p_lI, q_and, q_or, q_shl, q_shr, q_w32, Int64.ofInt_add, Int64.ofInt_sub, Int64.ofInt_mul, p_mx, p_mn, q_mx, q_mn]; rfl) ?_
      refine wp_rt (i := .ireturn) (r := some (.int (Int32.ofInt ((s17 146 2) - 1)))) (ln := 1) (a := 0) (b := 0) (z := 0) (by decide +kernel) rfl (ret_ok (by decide +kernel)) ?_
      cases hx
      exact kr _ h20
    · have hx := ite_t h16 hx
      refine wp_g 2 (pc1 := 39) (lv1 := [(0, .ref 146)]) (st1 := [.ref 146, .int (Int32.ofInt (-2))]) (w1 := w14) rfl ?_
      refine wx_gi (kf := 108) (ln := 3) (ci := 12) (b := 9) (zz := 0) (x := 146) (by decide +kernel) h15 (hS _ _ sm_146) rfl ?_
      show wp _ 183 42 [(0, .ref 146)] [.int (Int32.ofInt (o12.2 146 9)), .int (Int32.ofInt (-2))] w14 _
      refine wp_g 1 (pc1 := 43) (lv1 := [(0, .ref 146)]) (st1 := [.int (Int32.ofInt ((-2) - (o12.2 146 9)))]) (w1 := w14) (by simp only [Int32.ofInt_add, Int32.ofInt_sub, Int32.ofInt_mul, Int32.ofInt_neg, p_and, p_or, p_xor, p_shl, p_shr, p_usr, p_w8, p_c16, p_lI, q_and, q_or, q_shl, q_shr, q_w32, Int64.ofInt_add, Int64.ofInt_sub, Int64.ofInt_mul, p_mx, p_mn, q_mx, q_mn]; rfl) ?_
      refine wp_rt (i := .ireturn) (r := some (.int (Int32.ofInt ((-2) - (o12.2 146 9))))) (ln := 1) (a := 0) (b := 0) (z := 0) (by decide +kernel) rfl (ret_ok (by decide +kernel)) ?_
      cases hx
      exact kr _ h15
  · have hx := ite_t h1 hx
    refine wp_g 1 (pc1 := 10) (lv1 := [(0, .ref 146)]) (st1 := [.int (Int32.ofInt (-1))]) (w1 := w) rfl ?_
    refine wp_rt (i := .ireturn) (r := some (.int (Int32.ofInt (-1)))) (ln := 1) (a := 0) (b := 0) (z := 0) (by decide +kernel) rfl (ret_ok (by decide +kernel)) ?_
    cases hx
    exact kr _ h
noncomputable def xm_liesOpen_b15 (s : Hp) (x1 : Int) : Option ((Int × Hp) ⊕ (Int × Hp)) :=
  (ix 130 0).bind fun i1 => if w32 x1 < w32 (s 156 i1) then (ix 130 (12 + (4 * x1))).bind fun i4 => (some (uh s 156 i4 x1)).bind fun s6 => (ix 130 ((12 + (4 * x1)) + 1)).bind fun i10 => (some (uh s6 156 i10 0)).bind fun s12 => (ix 130 ((12 + (4 * x1)) + 2)).bind fun i16 => (some (uh s12 156 i16 1)).bind fun s18 => some (.inl (x1 + 1, s18)) else some (.inr (x1, s))
set_option maxRecDepth 100000 in
theorem xm_liesOpen_b15_ok {d : Nat} {P : Option Value → pm_H → Prop} {w : pm_H} {sh : Shp} {w0 : pm_H} {s : Hp} (hS : StM sh) {x1 : Int} (h : Rw sh w0 s w) {o : ((Int × Hp) ⊕ (Int × Hp))} (hx : xm_liesOpen_b15 s x1 = some o) (kn : ∀ (q : Int × Hp) w1, o = .inl q → Rw sh w0 q.2 w1 → wp d 196 15 [(0, .ref 146), (1, .int (Int32.ofInt q.1))] [] w1 P) (kc : ∀ (r : (Int × Hp)), o = .inr r → (∀ w1, Rw sh w0 r.2 w1 → wp d 196 63 [(0, .ref 146), (1, .int (Int32.ofInt r.1))] [] w1 P)) : wp d 196 15 [(0, .ref 146), (1, .int (Int32.ofInt x1))] [] w P := by
  unfold xm_liesOpen_b15 at hx
  refine wp_g 2 (pc1 := 17) (lv1 := [(0, .ref 146), (1, .int (Int32.ofInt x1))]) (st1 := [.ref 146, .int (Int32.ofInt x1)]) (w1 := w) rfl ?_
  refine wx_gr (o := 10) (kf := 39) (ln := 3) (ci := 12) (b := 20) (zz := 0) (x := 146) (by decide +kernel) h (hS _ _ sm_146) rfl ?_
  show wp _ 196 20 [(0, .ref 146), (1, .int (Int32.ofInt x1))] [.ref 156, .int (Int32.ofInt x1)] w _
  refine wp_g 1 (pc1 := 21) (lv1 := [(0, .ref 146), (1, .int (Int32.ofInt x1))]) (st1 := [.int (Int32.ofInt 0), .ref 156, .int (Int32.ofInt x1)]) (w1 := w) rfl ?_
  obtain ⟨i1, e2, hx⟩ := bd hx
  refine wx_ra (x := 156) (n := 130) (ln := 1) (a := 0) (b := 0) (zz := 0) (by decide +kernel) h (hS _ _ sm_156) e2 ?_
  show wp _ 196 22 [(0, .ref 146), (1, .int (Int32.ofInt x1))] [.int (Int32.ofInt (s 156 i1)), .int (Int32.ofInt x1)] w _
  refine wx_ge (oo := 41) (ln := 3) (a := 63) (b := 0) (zz := 0) (by decide +kernel) (fun h3 => ?_) (fun h3 => ?_)
  · have hx := ite_f h3 hx
    cases hx
    exact kc _ rfl _ h
  · have hx := ite_t h3 hx
    refine wp_g 7 (pc1 := 33) (lv1 := [(2, .int (Int32.ofInt (12 + (4 * x1)))), (0, .ref 146), (1, .int (Int32.ofInt x1))]) (st1 := [.ref 146]) (w1 := w) (by simp only [Int32.ofInt_add, Int32.ofInt_sub, Int32.ofInt_mul, Int32.ofInt_neg, p_and, p_or, p_xor, p_shl, p_shr, p_usr, p_w8, p_c16, p_lI, q_and, q_or, q_shl, q_shr, q_w32, Int64.ofInt_add, Int64.ofInt_sub, Int64.ofInt_mul, p_mx, p_mn, q_mx, q_mn]; rfl) ?_
    refine wx_gr (o := 10) (kf := 39) (ln := 3) (ci := 12) (b := 20) (zz := 0) (x := 146) (by decide +kernel) h (hS _ _ sm_146) rfl ?_
    show wp _ 196 36 [(2, .int (Int32.ofInt (12 + (4 * x1)))), (0, .ref 146), (1, .int (Int32.ofInt x1))] [.ref 156] w _
    refine wp_g 2 (pc1 := 38) (lv1 := [(2, .int (Int32.ofInt (12 + (4 * x1)))), (0, .ref 146), (1, .int (Int32.ofInt x1))]) (st1 := [.int (Int32.ofInt x1), .int (Int32.ofInt (12 + (4 * x1))), .ref 156]) (w1 := w) rfl ?_
    obtain ⟨i4, e5, hx⟩ := bd hx
    obtain ⟨s6, e7, hx⟩ := bd hx
    refine wx_wa (x := 156) (n := 130) (ln := 1) (a := 0) (b := 0) (zz := 0) (by decide +kernel) h (hS _ _ sm_156) e5 e7 (fun w8 h9 => ?_)
    refine wp_g 1 (pc1 := 40) (lv1 := [(2, .int (Int32.ofInt (12 + (4 * x1)))), (0, .ref 146), (1, .int (Int32.ofInt x1))]) (st1 := [.ref 146]) (w1 := w8) rfl ?_
    refine wx_gr (o := 10) (kf := 39) (ln := 3) (ci := 12) (b := 20) (zz := 0) (x := 146) (by decide +kernel) h9 (hS _ _ sm_146) rfl ?_
    show wp _ 196 43 [(2, .int (Int32.ofInt (12 + (4 * x1)))), (0, .ref 146), (1, .int (Int32.ofInt x1))] [.ref 156] w8 _
    refine wp_g 4 (pc1 := 47) (lv1 := [(2, .int (Int32.ofInt (12 + (4 * x1)))), (0, .ref 146), (1, .int (Int32.ofInt x1))]) (st1 := [.int (Int32.ofInt 0), .int (Int32.ofInt ((12 + (4 * x1)) + 1)), .ref 156]) (w1 := w8) (by simp only [Int32.ofInt_add, Int32.ofInt_sub, Int32.ofInt_mul, Int32.ofInt_neg, p_and, p_or, p_xor, p_shl, p_shr, p_usr, p_w8, p_c16, p_lI, q_and, q_or, q_shl, q_shr, q_w32, Int64.ofInt_add, Int64.ofInt_sub, Int64.ofInt_mul, p_mx, p_mn, q_mx, q_mn]; rfl) ?_
    obtain ⟨i10, e11, hx⟩ := bd hx
    obtain ⟨s12, e13, hx⟩ := bd hx
    refine wx_wa (x := 156) (n := 130) (ln := 1) (a := 0) (b := 0) (zz := 0) (by decide +kernel) h9 (hS _ _ sm_156) e11 e13 (fun w14 h15 => ?_)
    refine wp_g 1 (pc1 := 49) (lv1 := [(2, .int (Int32.ofInt (12 + (4 * x1)))), (0, .ref 146), (1, .int (Int32.ofInt x1))]) (st1 := [.ref 146]) (w1 := w14) rfl ?_
    refine wx_gr (o := 10) (kf := 39) (ln := 3) (ci := 12) (b := 20) (zz := 0) (x := 146) (by decide +kernel) h15 (hS _ _ sm_146) rfl ?_
    show wp _ 196 52 [(2, .int (Int32.ofInt (12 + (4 * x1)))), (0, .ref 146), (1, .int (Int32.ofInt x1))] [.ref 156] w14 _
    refine wp_g 4 (pc1 := 56) (lv1 := [(2, .int (Int32.ofInt (12 + (4 * x1)))), (0, .ref 146), (1, .int (Int32.ofInt x1))]) (st1 := [.int (Int32.ofInt 1), .int (Int32.ofInt ((12 + (4 * x1)) + 2)), .ref 156]) (w1 := w14) (by simp only [Int32.ofInt_add, Int32.ofInt_sub, Int32.ofInt_mul, Int32.ofInt_neg, p_and, p_or, p_xor, p_shl, p_shr, p_usr, p_w8, p_c16, p_lI, q_and, q_or, q_shl, q_shr, q_w32, Int64.ofInt_add, Int64.ofInt_sub, Int64.ofInt_mul, p_mx, p_mn, q_mx, q_mn]; rfl) ?_
    obtain ⟨i16, e17, hx⟩ := bd hx
    obtain ⟨s18, e19, hx⟩ := bd hx
    refine wx_wa (x := 156) (n := 130) (ln := 1) (a := 0) (b := 0) (zz := 0) (by decide +kernel) h15 (hS _ _ sm_156) e17 e19 (fun w20 h21 => ?_)
    refine wp_g 2 (pc1 := 15) (lv1 := [(1, .int (Int32.ofInt (x1 + 1))), (2, .int (Int32.ofInt (12 + (4 * x1)))), (0, .ref 146)]) (st1 := []) (w1 := w20) (by simp only [Int32.ofInt_add, Int32.ofInt_sub, Int32.ofInt_mul, Int32.ofInt_neg, p_and, p_or, p_xor, p_shl, p_shr, p_usr, p_w8, p_c16, p_lI, q_and, q_or, q_shl, q_shr, q_w32, Int64.ofInt_add, Int64.ofInt_sub, Int64.ofInt_mul, p_mx, p_mn, q_mx, q_mn]; rfl) ?_
    refine wp_lv (lv1 := [(0, .ref 146), (1, .int (Int32.ofInt (x1 + 1)))]) (lsub_p [2, 0] rfl rfl rfl) ?_
    cases hx
    exact kn _ _ rfl h21
/-- FoldDeedsModel.liesOpen ()V -/
noncomputable def xm_liesOpen (s : Hp) : Option Hp :=
  (ix 130 0).bind fun i1 => (ix 130 10).bind fun i3 => (some (uh s 156 i3 (s 156 i1))).bind fun s5 => (lp (fun (q : Int × Hp) => xm_liesOpen_b15 q.2 q.1) (0, s5)).bind fun q9 => some q9.2
set_option maxRecDepth 100000 in
theorem xm_liesOpen_ok {d : Nat} {P : Option Value → pm_H → Prop} {w : pm_H} {sh : Shp} {w0 : pm_H} {s : Hp} (hS : StM sh) (h : Rw sh w0 s w) {o : Hp} (hx : xm_liesOpen s = some o) (kr : ∀ w1, Rw sh w0 o w1 → P none w1) : wp d 196 0 (lv_args 0 [.ref 146]) [] w P := by
  show wp _ 196 0 [(0, .ref 146)] [] w _
  unfold xm_liesOpen at hx
  refine wp_g 1 (pc1 := 1) (lv1 := [(0, .ref 146)]) (st1 := [.ref 146]) (w1 := w) rfl ?_
  refine wx_gr (o := 10) (kf := 39) (ln := 3) (ci := 12) (b := 20) (zz := 0) (x := 146) (by decide +kernel) h (hS _ _ sm_146) rfl ?_
  show wp _ 196 4 [(0, .ref 146)] [.ref 156] w _
  refine wp_g 2 (pc1 := 7) (lv1 := [(0, .ref 146)]) (st1 := [.ref 146, .int (Int32.ofInt 10), .ref 156]) (w1 := w) rfl ?_
  refine wx_gr (o := 10) (kf := 39) (ln := 3) (ci := 12) (b := 20) (zz := 0) (x := 146) (by decide +kernel) h (hS _ _ sm_146) rfl ?_
  show wp _ 196 10 [(0, .ref 146)] [.ref 156, .int (Int32.ofInt 10), .ref 156] w _
  refine wp_g 1 (pc1 := 11) (lv1 := [(0, .ref 146)]) (st1 := [.int (Int32.ofInt 0), .ref 156, .int (Int32.ofInt 10), .ref 156]) (w1 := w) rfl ?_
  obtain ⟨i1, e2, hx⟩ := bd hx
  refine wx_ra (x := 156) (n := 130) (ln := 1) (a := 0) (b := 0) (zz := 0) (by decide +kernel) h (hS _ _ sm_156) e2 ?_
  show wp _ 196 12 [(0, .ref 146)] [.int (Int32.ofInt (s 156 i1)), .int (Int32.ofInt 10), .ref 156] w _
  obtain ⟨i3, e4, hx⟩ := bd hx
  obtain ⟨s5, e6, hx⟩ := bd hx
  refine wx_wa (x := 156) (n := 130) (ln := 1) (a := 0) (b := 0) (zz := 0) (by decide +kernel) h (hS _ _ sm_156) e4 e6 (fun w7 h8 => ?_)
  refine wp_g 2 (pc1 := 15) (lv1 := [(1, .int (Int32.ofInt 0)), (0, .ref 146)]) (st1 := []) (w1 := w7) rfl ?_
  refine wp_lv (lv1 := [(0, .ref 146), (1, .int (Int32.ofInt 0))]) (lsub_p [1, 0] rfl rfl rfl) ?_
  obtain ⟨q9, e10, hx⟩ := bd hx
  refine wp_lp (σ := Int × Hp) (ρ := (Int × Hp)) (B := fun q => xm_liesOpen_b15 q.2 q.1) (R := fun q w' => Rw sh w0 q.2 w') (C := fun r => ∀ w1, Rw sh w0 r.2 w1 → wp d 196 63 [(0, .ref 146), (1, .int (Int32.ofInt r.1))] [] w1 P) (lv := fun q => [(0, .ref 146), (1, .int (Int32.ofInt q.1))]) (hd := 15) (fun q w' o hR hb kn kc => xm_liesOpen_b15_ok hS hR hb kn kc) _ _ _ e10 h8 ?_
  intro w11 h12
  show wp _ 196 63 [(0, .ref 146), (1, .int (Int32.ofInt q9.1))] [] w11 _
  refine wp_rt (i := .return_) (r := none) (ln := 1) (a := 0) (b := 0) (z := 0) (by decide +kernel) rfl (ret_v (by decide +kernel)) ?_
  cases hx
  exact kr _ h12
noncomputable def xm_begins_b14 (s : Hp) (x1 : Int) : Option ((Int × Hp) ⊕ (Int × Hp)) :=
  if w32 x1 < w32 8 then (ix 130 (63 + x1)).bind fun i2 => (ix 130 ((12 + (4 * x1)) + 3)).bind fun i4 => (some (uh s 156 i4 (s 156 i2))).bind fun s6 => some (.inl (x1 + 1, s6)) else some (.inr (x1, s))
set_option maxRecDepth 100000 in
theorem xm_begins_b14_ok {d : Nat} {P : Option Value → pm_H → Prop} {w : pm_H} {sh : Shp} {w0 : pm_H} {s : Hp} (hS : StM sh) {x1 : Int} (h : Rw sh w0 s w) {o : ((Int × Hp) ⊕ (Int × Hp))} (hx : xm_begins_b14 s x1 = some o) (kn : ∀ (q : Int × Hp) w1, o = .inl q → Rw sh w0 q.2 w1 → wp (d + 1) 197 14 [(0, .ref 146), (1, .int (Int32.ofInt q.1))] [] w1 P) (kc : ∀ (r : (Int × Hp)), o = .inr r → (∀ w1, Rw sh w0 r.2 w1 → wp (d + 1) 197 48 [(0, .ref 146), (1, .int (Int32.ofInt r.1))] [] w1 P)) : wp (d + 1) 197 14 [(0, .ref 146), (1, .int (Int32.ofInt x1))] [] w P := by
  unfold xm_begins_b14 at hx
  refine wp_g 2 (pc1 := 17) (lv1 := [(0, .ref 146), (1, .int (Int32.ofInt x1))]) (st1 := [.int (Int32.ofInt 8), .int (Int32.ofInt x1)]) (w1 := w) rfl ?_
  refine wx_ge (oo := 31) (ln := 3) (a := 48) (b := 0) (zz := 0) (by decide +kernel) (fun h1 => ?_) (fun h1 => ?_)
  · have hx := ite_f h1 hx
    cases hx
    exact kc _ rfl _ h
  · have hx := ite_t h1 hx
    refine wp_g 1 (pc1 := 21) (lv1 := [(0, .ref 146), (1, .int (Int32.ofInt x1))]) (st1 := [.ref 146]) (w1 := w) rfl ?_
    refine wx_gr (o := 10) (kf := 39) (ln := 3) (ci := 12) (b := 20) (zz := 0) (x := 146) (by decide +kernel) h (hS _ _ sm_146) rfl ?_
    show wp _ 197 24 [(0, .ref 146), (1, .int (Int32.ofInt x1))] [.ref 156] w _
    refine wp_g 8 (pc1 := 33) (lv1 := [(0, .ref 146), (1, .int (Int32.ofInt x1))]) (st1 := [.ref 146, .int (Int32.ofInt ((12 + (4 * x1)) + 3)), .ref 156]) (w1 := w) (by simp only [Int32.ofInt_add, Int32.ofInt_sub, Int32.ofInt_mul, Int32.ofInt_neg, p_and, p_or, p_xor, p_shl, p_shr, p_usr, p_w8, p_c16, p_lI, q_and, q_or, q_shl, q_shr, q_w32, Int64.ofInt_add, Int64.ofInt_sub, Int64.ofInt_mul, p_mx, p_mn, q_mx, q_mn]; rfl) ?_
    refine wx_gr (o := 10) (kf := 39) (ln := 3) (ci := 12) (b := 20) (zz := 0) (x := 146) (by decide +kernel) h (hS _ _ sm_146) rfl ?_
    show wp _ 197 36 [(0, .ref 146), (1, .int (Int32.ofInt x1))] [.ref 156, .int (Int32.ofInt ((12 + (4 * x1)) + 3)), .ref 156] w _
    refine wp_g 3 (pc1 := 40) (lv1 := [(0, .ref 146), (1, .int (Int32.ofInt x1))]) (st1 := [.int (Int32.ofInt (63 + x1)), .ref 156, .int (Int32.ofInt ((12 + (4 * x1)) + 3)), .ref 156]) (w1 := w) (by simp only [Int32.ofInt_add, Int32.ofInt_sub, Int32.ofInt_mul, Int32.ofInt_neg, p_and, p_or, p_xor, p_shl, p_shr, p_usr, p_w8, p_c16, p_lI, q_and, q_or, q_shl, q_shr, q_w32, Int64.ofInt_add, Int64.ofInt_sub, Int64.ofInt_mul, p_mx, p_mn, q_mx, q_mn]; rfl) ?_
    obtain ⟨i2, e3, hx⟩ := bd hx
    refine wx_ra (x := 156) (n := 130) (ln := 1) (a := 0) (b := 0) (zz := 0) (by decide +kernel) h (hS _ _ sm_156) e3 ?_
    show wp _ 197 41 [(0, .ref 146), (1, .int (Int32.ofInt x1))] [.int (Int32.ofInt (s 156 i2)), .int (Int32.ofInt ((12 + (4 * x1)) + 3)), .ref 156] w _
    obtain ⟨i4, e5, hx⟩ := bd hx
    obtain ⟨s6, e7, hx⟩ := bd hx
    refine wx_wa (x := 156) (n := 130) (ln := 1) (a := 0) (b := 0) (zz := 0) (by decide +kernel) h (hS _ _ sm_156) e5 e7 (fun w8 h9 => ?_)
    refine wp_g 2 (pc1 := 14) (lv1 := [(1, .int (Int32.ofInt (x1 + 1))), (0, .ref 146)]) (st1 := []) (w1 := w8) (by simp only [Int32.ofInt_add, Int32.ofInt_sub, Int32.ofInt_mul, Int32.ofInt_neg, p_and, p_or, p_xor, p_shl, p_shr, p_usr, p_w8, p_c16, p_lI, q_and, q_or, q_shl, q_shr, q_w32, Int64.ofInt_add, Int64.ofInt_sub, Int64.ofInt_mul, p_mx, p_mn, q_mx, q_mn]; rfl) ?_
    refine wp_lv (lv1 := [(0, .ref 146), (1, .int (Int32.ofInt (x1 + 1)))]) (lsub_p [1, 0] rfl rfl rfl) ?_
    cases hx
    exact kn _ _ rfl h9
noncomputable def xm_begins_b50 (s : Hp) (x1 : Int) : Option ((Int × Hp) ⊕ (Int × Hp)) :=
  if w32 x1 < w32 7 then (ix 130 (71 + x1)).bind fun i2 => (ix 130 (44 + x1)).bind fun i4 => (some (uh s 156 i4 (s 156 i2))).bind fun s6 => some (.inl (x1 + 1, s6)) else some (.inr (x1, s))
set_option maxRecDepth 100000 in
theorem xm_begins_b50_ok {d : Nat} {P : Option Value → pm_H → Prop} {w : pm_H} {sh : Shp} {w0 : pm_H} {s : Hp} (hS : StM sh) {x1 : Int} (h : Rw sh w0 s w) {o : ((Int × Hp) ⊕ (Int × Hp))} (hx : xm_begins_b50 s x1 = some o) (kn : ∀ (q : Int × Hp) w1, o = .inl q → Rw sh w0 q.2 w1 → wp (d + 1) 197 50 [(0, .ref 146), (1, .int (Int32.ofInt q.1))] [] w1 P) (kc : ∀ (r : (Int × Hp)), o = .inr r → (∀ w1, Rw sh w0 r.2 w1 → wp (d + 1) 197 80 [(0, .ref 146), (1, .int (Int32.ofInt r.1))] [] w1 P)) : wp (d + 1) 197 50 [(0, .ref 146), (1, .int (Int32.ofInt x1))] [] w P := by
  unfold xm_begins_b50 at hx
  refine wp_g 2 (pc1 := 53) (lv1 := [(0, .ref 146), (1, .int (Int32.ofInt x1))]) (st1 := [.int (Int32.ofInt 7), .int (Int32.ofInt x1)]) (w1 := w) rfl ?_
  refine wx_ge (oo := 27) (ln := 3) (a := 80) (b := 0) (zz := 0) (by decide +kernel) (fun h1 => ?_) (fun h1 => ?_)
  · have hx := ite_f h1 hx
    cases hx
    exact kc _ rfl _ h
  · have hx := ite_t h1 hx
    refine wp_g 1 (pc1 := 57) (lv1 := [(0, .ref 146), (1, .int (Int32.ofInt x1))]) (st1 := [.ref 146]) (w1 := w) rfl ?_
    refine wx_gr (o := 10) (kf := 39) (ln := 3) (ci := 12) (b := 20) (zz := 0) (x := 146) (by decide +kernel) h (hS _ _ sm_146) rfl ?_
    show wp _ 197 60 [(0, .ref 146), (1, .int (Int32.ofInt x1))] [.ref 156] w _
    refine wp_g 4 (pc1 := 65) (lv1 := [(0, .ref 146), (1, .int (Int32.ofInt x1))]) (st1 := [.ref 146, .int (Int32.ofInt (44 + x1)), .ref 156]) (w1 := w) (by simp only [Int32.ofInt_add, Int32.ofInt_sub, Int32.ofInt_mul, Int32.ofInt_neg, p_and, p_or, p_xor, p_shl, p_shr, p_usr, p_w8, p_c16, p_lI, q_and, q_or, q_shl, q_shr, q_w32, Int64.ofInt_add, Int64.ofInt_sub, Int64.ofInt_mul, p_mx, p_mn, q_mx, q_mn]; rfl) ?_
    refine wx_gr (o := 10) (kf := 39) (ln := 3) (ci := 12) (b := 20) (zz := 0) (x := 146) (by decide +kernel) h (hS _ _ sm_146) rfl ?_
    show wp _ 197 68 [(0, .ref 146), (1, .int (Int32.ofInt x1))] [.ref 156, .int (Int32.ofInt (44 + x1)), .ref 156] w _
    refine wp_g 3 (pc1 := 72) (lv1 := [(0, .ref 146), (1, .int (Int32.ofInt x1))]) (st1 := [.int (Int32.ofInt (71 + x1)), .ref 156, .int (Int32.ofInt (44 + x1)), .ref 156]) (w1 := w) (by simp only [Int32.ofInt_add, Int32.ofInt_sub, Int32.ofInt_mul, Int32.ofInt_neg, p_and, p_or, p_xor, p_shl, p_shr, p_usr, p_w8, p_c16, p_lI, q_and, q_or, q_shl, q_shr, q_w32, Int64.ofInt_add, Int64.ofInt_sub, Int64.ofInt_mul, p_mx, p_mn, q_mx, q_mn]; rfl) ?_
    obtain ⟨i2, e3, hx⟩ := bd hx
    refine wx_ra (x := 156) (n := 130) (ln := 1) (a := 0) (b := 0) (zz := 0) (by decide +kernel) h (hS _ _ sm_156) e3 ?_
    show wp _ 197 73 [(0, .ref 146), (1, .int (Int32.ofInt x1))] [.int (Int32.ofInt (s 156 i2)), .int (Int32.ofInt (44 + x1)), .ref 156] w _
    obtain ⟨i4, e5, hx⟩ := bd hx
    obtain ⟨s6, e7, hx⟩ := bd hx
    refine wx_wa (x := 156) (n := 130) (ln := 1) (a := 0) (b := 0) (zz := 0) (by decide +kernel) h (hS _ _ sm_156) e5 e7 (fun w8 h9 => ?_)
    refine wp_g 2 (pc1 := 50) (lv1 := [(1, .int (Int32.ofInt (x1 + 1))), (0, .ref 146)]) (st1 := []) (w1 := w8) (by simp only [Int32.ofInt_add, Int32.ofInt_sub, Int32.ofInt_mul, Int32.ofInt_neg, p_and, p_or, p_xor, p_shl, p_shr, p_usr, p_w8, p_c16, p_lI, q_and, q_or, q_shl, q_shr, q_w32, Int64.ofInt_add, Int64.ofInt_sub, Int64.ofInt_mul, p_mx, p_mn, q_mx, q_mn]; rfl) ?_
    refine wp_lv (lv1 := [(0, .ref 146), (1, .int (Int32.ofInt (x1 + 1)))]) (lsub_p [1, 0] rfl rfl rfl) ?_
    cases hx
    exact kn _ _ rfl h9
noncomputable def xm_begins_b82 (s : Hp) (x1 : Int) : Option ((Int × Hp) ⊕ (Int × Hp)) :=
  if w32 x1 < w32 4 then (ix 130 (78 + x1)).bind fun i2 => (ix 130 (51 + x1)).bind fun i4 => (some (uh s 156 i4 (s 156 i2))).bind fun s6 => some (.inl (x1 + 1, s6)) else some (.inr (x1, s))
set_option maxRecDepth 100000 in
theorem xm_begins_b82_ok {d : Nat} {P : Option Value → pm_H → Prop} {w : pm_H} {sh : Shp} {w0 : pm_H} {s : Hp} (hS : StM sh) {x1 : Int} (h : Rw sh w0 s w) {o : ((Int × Hp) ⊕ (Int × Hp))} (hx : xm_begins_b82 s x1 = some o) (kn : ∀ (q : Int × Hp) w1, o = .inl q → Rw sh w0 q.2 w1 → wp (d + 1) 197 82 [(0, .ref 146), (1, .int (Int32.ofInt q.1))] [] w1 P) (kc : ∀ (r : (Int × Hp)), o = .inr r → (∀ w1, Rw sh w0 r.2 w1 → wp (d + 1) 197 111 [(0, .ref 146), (1, .int (Int32.ofInt r.1))] [] w1 P)) : wp (d + 1) 197 82 [(0, .ref 146), (1, .int (Int32.ofInt x1))] [] w P := by
  unfold xm_begins_b82 at hx
  refine wp_g 2 (pc1 := 84) (lv1 := [(0, .ref 146), (1, .int (Int32.ofInt x1))]) (st1 := [.int (Int32.ofInt 4), .int (Int32.ofInt x1)]) (w1 := w) rfl ?_
  refine wx_ge (oo := 27) (ln := 3) (a := 111) (b := 0) (zz := 0) (by decide +kernel) (fun h1 => ?_) (fun h1 => ?_)
  · have hx := ite_f h1 hx
    cases hx
    exact kc _ rfl _ h
  · have hx := ite_t h1 hx
    refine wp_g 1 (pc1 := 88) (lv1 := [(0, .ref 146), (1, .int (Int32.ofInt x1))]) (st1 := [.ref 146]) (w1 := w) rfl ?_
    refine wx_gr (o := 10) (kf := 39) (ln := 3) (ci := 12) (b := 20) (zz := 0) (x := 146) (by decide +kernel) h (hS _ _ sm_146) rfl ?_
    show wp _ 197 91 [(0, .ref 146), (1, .int (Int32.ofInt x1))] [.ref 156] w _
    refine wp_g 4 (pc1 := 96) (lv1 := [(0, .ref 146), (1, .int (Int32.ofInt x1))]) (st1 := [.ref 146, .int (Int32.ofInt (51 + x1)), .ref 156]) (w1 := w) (by simp only [Int32.ofInt_add, Int32.ofInt_sub, Int32.ofInt_mul, Int32.ofInt_neg, p_and, p_or, p_xor, p_shl, p_shr, p_usr, p_w8, p_c16, p_lI, q_and, q_or, q_shl, q_shr, q_w32, Int64.ofInt_add, Int64.ofInt_sub, Int64.ofInt_mul, p_mx, p_mn, q_mx, q_mn]; rfl) ?_
    refine wx_gr (o := 10) (kf := 39) (ln := 3) (ci := 12) (b := 20) (zz := 0) (x := 146) (by decide +kernel) h (hS _ _ sm_146) rfl ?_
    show wp _ 197 99 [(0, .ref 146), (1, .int (Int32.ofInt x1))] [.ref 156, .int (Int32.ofInt (51 + x1)), .ref 156] w _
    refine wp_g 3 (pc1 := 103) (lv1 := [(0, .ref 146), (1, .int (Int32.ofInt x1))]) (st1 := [.int (Int32.ofInt (78 + x1)), .ref 156, .int (Int32.ofInt (51 + x1)), .ref 156]) (w1 := w) (by simp only [Int32.ofInt_add, Int32.ofInt_sub, Int32.ofInt_mul, Int32.ofInt_neg, p_and, p_or, p_xor, p_shl, p_shr, p_usr, p_w8, p_c16, p_lI, q_and, q_or, q_shl, q_shr, q_w32, Int64.ofInt_add, Int64.ofInt_sub, Int64.ofInt_mul, p_mx, p_mn, q_mx, q_mn]; rfl) ?_
    obtain ⟨i2, e3, hx⟩ := bd hx
    refine wx_ra (x := 156) (n := 130) (ln := 1) (a := 0) (b := 0) (zz := 0) (by decide +kernel) h (hS _ _ sm_156) e3 ?_
    show wp _ 197 104 [(0, .ref 146), (1, .int (Int32.ofInt x1))] [.int (Int32.ofInt (s 156 i2)), .int (Int32.ofInt (51 + x1)), .ref 156] w _
    obtain ⟨i4, e5, hx⟩ := bd hx
    obtain ⟨s6, e7, hx⟩ := bd hx
    refine wx_wa (x := 156) (n := 130) (ln := 1) (a := 0) (b := 0) (zz := 0) (by decide +kernel) h (hS _ _ sm_156) e5 e7 (fun w8 h9 => ?_)
    refine wp_g 2 (pc1 := 82) (lv1 := [(1, .int (Int32.ofInt (x1 + 1))), (0, .ref 146)]) (st1 := []) (w1 := w8) (by simp only [Int32.ofInt_add, Int32.ofInt_sub, Int32.ofInt_mul, Int32.ofInt_neg, p_and, p_or, p_xor, p_shl, p_shr, p_usr, p_w8, p_c16, p_lI, q_and, q_or, q_shl, q_shr, q_w32, Int64.ofInt_add, Int64.ofInt_sub, Int64.ofInt_mul, p_mx, p_mn, q_mx, q_mn]; rfl) ?_
    refine wp_lv (lv1 := [(0, .ref 146), (1, .int (Int32.ofInt (x1 + 1)))]) (lsub_p [1, 0] rfl rfl rfl) ?_
    cases hx
    exact kn _ _ rfl h9
/-- FoldDeedsModel.begins ()V -/
noncomputable def xm_begins (s : Hp) : Option Hp :=
  (ix 130 11).bind fun i1 => (some (uh s 156 i1 0)).bind fun s3 => (xm_liesOpen s3).bind fun o7 => (lp (fun (q : Int × Hp) => xm_begins_b14 q.2 q.1) (0, o7)).bind fun q11 => (lp (fun (q : Int × Hp) => xm_begins_b50 q.2 q.1) (0, q11.2)).bind fun q15 => (lp (fun (q : Int × Hp) => xm_begins_b82 q.2 q.1) (0, q15.2)).bind fun q19 => some q19.2
set_option maxRecDepth 100000 in
theorem xm_begins_ok {d : Nat} {P : Option Value → pm_H → Prop} {w : pm_H} {sh : Shp} {w0 : pm_H} {s : Hp} (hS : StM sh) (h : Rw sh w0 s w) {o : Hp} (hx : xm_begins s = some o) (kr : ∀ w1, Rw sh w0 o w1 → P none w1) : wp (d + 1) 197 0 (lv_args 0 [.ref 146]) [] w P := by
  show wp _ 197 0 [(0, .ref 146)] [] w _
  unfold xm_begins at hx
  refine wp_g 1 (pc1 := 1) (lv1 := [(0, .ref 146)]) (st1 := [.ref 146]) (w1 := w) rfl ?_
  refine wx_gr (o := 10) (kf := 39) (ln := 3) (ci := 12) (b := 20) (zz := 0) (x := 146) (by decide +kernel) h (hS _ _ sm_146) rfl ?_
  show wp _ 197 4 [(0, .ref 146)] [.ref 156] w _
  refine wp_g 2 (pc1 := 7) (lv1 := [(0, .ref 146)]) (st1 := [.int (Int32.ofInt 0), .int (Int32.ofInt 11), .ref 156]) (w1 := w) rfl ?_
  obtain ⟨i1, e2, hx⟩ := bd hx
  obtain ⟨s3, e4, hx⟩ := bd hx
  refine wx_wa (x := 156) (n := 130) (ln := 1) (a := 0) (b := 0) (zz := 0) (by decide +kernel) h (hS _ _ sm_156) e2 e4 (fun w5 h6 => ?_)
  refine wp_g 1 (pc1 := 9) (lv1 := [(0, .ref 146)]) (st1 := [.ref 146]) (w1 := w5) rfl ?_
  obtain ⟨o7, e8, hx⟩ := bd hx
  refine wp_cl [.ref 146] [] (i := .invokevirtual 308) (ln := 3) (a := 196) (b := 0) (z := 0) (by decide +kernel) rfl rfl (by decide) rfl (show (1 : Nat) = pm_na 196 by decide +kernel) (Nat.le_of_ble_eq_true rfl) (show (1 : Nat) ≤ pm_n 196 by decide +kernel) (rcv_x 12 h6 (hS _ _ sm_146) (by decide +kernel)) (xm_liesOpen_ok (d := d) hS h6 e8 (fun w9 h10 => ?_))
  show wp _ 197 12 [(0, .ref 146)] [] w9 _
  refine wp_g 2 (pc1 := 14) (lv1 := [(1, .int (Int32.ofInt 0)), (0, .ref 146)]) (st1 := []) (w1 := w9) rfl ?_
  refine wp_lv (lv1 := [(0, .ref 146), (1, .int (Int32.ofInt 0))]) (lsub_p [1, 0] rfl rfl rfl) ?_
  obtain ⟨q11, e12, hx⟩ := bd hx
  refine wp_lp (σ := Int × Hp) (ρ := (Int × Hp)) (B := fun q => xm_begins_b14 q.2 q.1) (R := fun q w' => Rw sh w0 q.2 w') (C := fun r => ∀ w1, Rw sh w0 r.2 w1 → wp (d + 1) 197 48 [(0, .ref 146), (1, .int (Int32.ofInt r.1))] [] w1 P) (lv := fun q => [(0, .ref 146), (1, .int (Int32.ofInt q.1))]) (hd := 14) (fun q w' o hR hb kn kc => xm_begins_b14_ok hS hR hb kn kc) _ _ _ e12 h10 ?_
  intro w13 h14
  show wp _ 197 48 [(0, .ref 146), (1, .int (Int32.ofInt q11.1))] [] w13 _
  refine wp_g 2 (pc1 := 50) (lv1 := [(1, .int (Int32.ofInt 0)), (0, .ref 146)]) (st1 := []) (w1 := w13) rfl ?_
  refine wp_lv (lv1 := [(0, .ref 146), (1, .int (Int32.ofInt 0))]) (lsub_p [1, 0] rfl rfl rfl) ?_
  obtain ⟨q15, e16, hx⟩ := bd hx
  refine wp_lp (σ := Int × Hp) (ρ := (Int × Hp)) (B := fun q => xm_begins_b50 q.2 q.1) (R := fun q w' => Rw sh w0 q.2 w') (C := fun r => ∀ w1, Rw sh w0 r.2 w1 → wp (d + 1) 197 80 [(0, .ref 146), (1, .int (Int32.ofInt r.1))] [] w1 P) (lv := fun q => [(0, .ref 146), (1, .int (Int32.ofInt q.1))]) (hd := 50) (fun q w' o hR hb kn kc => xm_begins_b50_ok hS hR hb kn kc) _ _ _ e16 h14 ?_
  intro w17 h18
  show wp _ 197 80 [(0, .ref 146), (1, .int (Int32.ofInt q15.1))] [] w17 _
  refine wp_g 2 (pc1 := 82) (lv1 := [(1, .int (Int32.ofInt 0)), (0, .ref 146)]) (st1 := []) (w1 := w17) rfl ?_
  refine wp_lv (lv1 := [(0, .ref 146), (1, .int (Int32.ofInt 0))]) (lsub_p [1, 0] rfl rfl rfl) ?_
  obtain ⟨q19, e20, hx⟩ := bd hx
  refine wp_lp (σ := Int × Hp) (ρ := (Int × Hp)) (B := fun q => xm_begins_b82 q.2 q.1) (R := fun q w' => Rw sh w0 q.2 w') (C := fun r => ∀ w1, Rw sh w0 r.2 w1 → wp (d + 1) 197 111 [(0, .ref 146), (1, .int (Int32.ofInt r.1))] [] w1 P) (lv := fun q => [(0, .ref 146), (1, .int (Int32.ofInt q.1))]) (hd := 82) (fun q w' o hR hb kn kc => xm_begins_b82_ok hS hR hb kn kc) _ _ _ e20 h18 ?_
  intro w21 h22
  show wp _ 197 111 [(0, .ref 146), (1, .int (Int32.ofInt q19.1))] [] w21 _
  refine wp_rt (i := .return_) (r := none) (ln := 1) (a := 0) (b := 0) (z := 0) (by decide +kernel) rfl (ret_v (by decide +kernel)) ?_
  cases hx
  exact kr _ h22
noncomputable def xm_cloth_b8 (s : Hp) (x1 : Int) : Option ((Int × Hp) ⊕ (Int × Hp)) :=
  if w32 x1 < w32 82 then (ix 82 x1).bind fun i2 => (some (uh s 152 i2 0)).bind fun s4 => some (.inl (x1 + 1, s4)) else some (.inr (x1, s))
set_option maxRecDepth 100000 in
theorem xm_cloth_b8_ok {d : Nat} {P : Option Value → pm_H → Prop} {w : pm_H} {sh : Shp} {w0 : pm_H} {s : Hp} (hS : StM sh) {x1 : Int} (h : Rw sh w0 s w) {o : ((Int × Hp) ⊕ (Int × Hp))} (hx : xm_cloth_b8 s x1 = some o) (kn : ∀ (q : Int × Hp) w1, o = .inl q → Rw sh w0 q.2 w1 → wp (d + 12) 184 8 [(0, .ref 146), (1, .int (Int32.ofInt q.1))] [] w1 P) (kc : ∀ (r : (Int × Hp)), o = .inr r → (∀ w1, Rw sh w0 r.2 w1 → wp (d + 12) 184 27 [(0, .ref 146), (1, .int (Int32.ofInt r.1))] [] w1 P)) : wp (d + 12) 184 8 [(0, .ref 146), (1, .int (Int32.ofInt x1))] [] w P := by
  unfold xm_cloth_b8 at hx
  refine wp_g 2 (pc1 := 11) (lv1 := [(0, .ref 146), (1, .int (Int32.ofInt x1))]) (st1 := [.int (Int32.ofInt 82), .int (Int32.ofInt x1)]) (w1 := w) rfl ?_
  refine wx_ge (oo := 16) (ln := 3) (a := 27) (b := 0) (zz := 0) (by decide +kernel) (fun h1 => ?_) (fun h1 => ?_)
  · have hx := ite_f h1 hx
    cases hx
    exact kc _ rfl _ h
  · have hx := ite_t h1 hx
    refine wp_g 1 (pc1 := 15) (lv1 := [(0, .ref 146), (1, .int (Int32.ofInt x1))]) (st1 := [.ref 146]) (w1 := w) rfl ?_
    refine wx_gr (o := 6) (kf := 26) (ln := 3) (ci := 12) (b := 7) (zz := 0) (x := 146) (by decide +kernel) h (hS _ _ sm_146) rfl ?_
    show wp _ 184 18 [(0, .ref 146), (1, .int (Int32.ofInt x1))] [.ref 152] w _
    refine wp_g 2 (pc1 := 20) (lv1 := [(0, .ref 146), (1, .int (Int32.ofInt x1))]) (st1 := [.int (Int32.ofInt 0), .int (Int32.ofInt x1), .ref 152]) (w1 := w) rfl ?_
    obtain ⟨i2, e3, hx⟩ := bd hx
    obtain ⟨s4, e5, hx⟩ := bd hx
    refine wx_wa (x := 152) (n := 82) (ln := 1) (a := 0) (b := 0) (zz := 0) (by decide +kernel) h (hS _ _ sm_152) e3 e5 (fun w6 h7 => ?_)
    refine wp_g 2 (pc1 := 8) (lv1 := [(1, .int (Int32.ofInt (x1 + 1))), (0, .ref 146)]) (st1 := []) (w1 := w6) (by simp only [Int32.ofInt_add, Int32.ofInt_sub, Int32.ofInt_mul, Int32.ofInt_neg, p_and, p_or, p_xor, p_shl, p_shr, p_usr, p_w8, p_c16, p_lI, q_and, q_or, q_shl, q_shr, q_w32, Int64.ofInt_add, Int64.ofInt_sub, Int64.ofInt_mul, p_mx, p_mn, q_mx, q_mn]; rfl) ?_
    refine wp_lv (lv1 := [(0, .ref 146), (1, .int (Int32.ofInt (x1 + 1)))]) (lsub_p [1, 0] rfl rfl rfl) ?_
    cases hx
    exact kn _ _ rfl h7
noncomputable def xm_cloth_b44 (s : Hp) (x1 : Int) : Option ((Int × Hp) ⊕ (Int × Hp)) :=
  if w32 x1 < w32 130 then if w32 x1 < w32 82 then (ix 82 x1).bind fun i9 => (ix 130 x1).bind fun i11 => (some (uh s 156 i11 (s 152 i9))).bind fun s13 => some (.inl (x1 + 1, s13)) else (ix 130 x1).bind fun i3 => (some (uh s 156 i3 0)).bind fun s5 => some (.inl (x1 + 1, s5)) else some (.inr (x1, s))
set_option maxRecDepth 100000 in
theorem xm_cloth_b44_ok {d : Nat} {P : Option Value → pm_H → Prop} {w : pm_H} {sh : Shp} {w0 : pm_H} {s : Hp} (hS : StM sh) {x1 : Int} (h : Rw sh w0 s w) {o : ((Int × Hp) ⊕ (Int × Hp))} (hx : xm_cloth_b44 s x1 = some o) (kn : ∀ (q : Int × Hp) w1, o = .inl q → Rw sh w0 q.2 w1 → wp (d + 12) 184 44 [(0, .ref 146), (1, .int (Int32.ofInt q.1))] [] w1 P) (kc : ∀ (r : (Int × Hp)), o = .inr r → (∀ w1, Rw sh w0 r.2 w1 → wp (d + 12) 184 79 [(0, .ref 146), (1, .int (Int32.ofInt r.1))] [] w1 P)) : wp (d + 12) 184 44 [(0, .ref 146), (1, .int (Int32.ofInt x1))] [] w P := by
  unfold xm_cloth_b44 at hx
  refine wp_g 2 (pc1 := 48) (lv1 := [(0, .ref 146), (1, .int (Int32.ofInt x1))]) (st1 := [.int (Int32.ofInt 130), .int (Int32.ofInt x1)]) (w1 := w) rfl ?_
  refine wx_ge (oo := 31) (ln := 3) (a := 79) (b := 0) (zz := 0) (by decide +kernel) (fun h1 => ?_) (fun h1 => ?_)
  · have hx := ite_f h1 hx
    cases hx
    exact kc _ rfl _ h
  · have hx := ite_t h1 hx
    refine wp_g 1 (pc1 := 52) (lv1 := [(0, .ref 146), (1, .int (Int32.ofInt x1))]) (st1 := [.ref 146]) (w1 := w) rfl ?_
    refine wx_gr (o := 10) (kf := 39) (ln := 3) (ci := 12) (b := 20) (zz := 0) (x := 146) (by decide +kernel) h (hS _ _ sm_146) rfl ?_
    show wp _ 184 55 [(0, .ref 146), (1, .int (Int32.ofInt x1))] [.ref 156] w _
    refine wp_g 3 (pc1 := 59) (lv1 := [(0, .ref 146), (1, .int (Int32.ofInt x1))]) (st1 := [.int (Int32.ofInt 82), .int (Int32.ofInt x1), .int (Int32.ofInt x1), .ref 156]) (w1 := w) rfl ?_
    refine wx_ge (oo := 12) (ln := 3) (a := 71) (b := 0) (zz := 0) (by decide +kernel) (fun h2 => ?_) (fun h2 => ?_)
    · have hx := ite_f h2 hx
      refine wp_g 1 (pc1 := 72) (lv1 := [(0, .ref 146), (1, .int (Int32.ofInt x1))]) (st1 := [.int (Int32.ofInt 0), .int (Int32.ofInt x1), .ref 156]) (w1 := w) rfl ?_
      obtain ⟨i3, e4, hx⟩ := bd hx
      obtain ⟨s5, e6, hx⟩ := bd hx
      refine wx_wa (x := 156) (n := 130) (ln := 1) (a := 0) (b := 0) (zz := 0) (by decide +kernel) h (hS _ _ sm_156) e4 e6 (fun w7 h8 => ?_)
      refine wp_g 2 (pc1 := 44) (lv1 := [(1, .int (Int32.ofInt (x1 + 1))), (0, .ref 146)]) (st1 := []) (w1 := w7) (by simp only [Int32.ofInt_add, Int32.ofInt_sub, Int32.ofInt_mul, Int32.ofInt_neg, p_and, p_or, p_xor, p_shl, p_shr, p_usr, p_w8, p_c16, p_lI, q_and, q_or, q_shl, q_shr, q_w32, Int64.ofInt_add, Int64.ofInt_sub, Int64.ofInt_mul, p_mx, p_mn, q_mx, q_mn]; rfl) ?_
      refine wp_lv (lv1 := [(0, .ref 146), (1, .int (Int32.ofInt (x1 + 1)))]) (lsub_p [1, 0] rfl rfl rfl) ?_
      cases hx
      exact kn _ _ rfl h8
    · have hx := ite_t h2 hx
      refine wp_g 1 (pc1 := 63) (lv1 := [(0, .ref 146), (1, .int (Int32.ofInt x1))]) (st1 := [.ref 146, .int (Int32.ofInt x1), .ref 156]) (w1 := w) rfl ?_
      refine wx_gr (o := 6) (kf := 26) (ln := 3) (ci := 12) (b := 7) (zz := 0) (x := 146) (by decide +kernel) h (hS _ _ sm_146) rfl ?_
      show wp _ 184 66 [(0, .ref 146), (1, .int (Int32.ofInt x1))] [.ref 152, .int (Int32.ofInt x1), .ref 156] w _
      refine wp_g 1 (pc1 := 67) (lv1 := [(0, .ref 146), (1, .int (Int32.ofInt x1))]) (st1 := [.int (Int32.ofInt x1), .ref 152, .int (Int32.ofInt x1), .ref 156]) (w1 := w) rfl ?_
      obtain ⟨i9, e10, hx⟩ := bd hx
      refine wx_ra (x := 152) (n := 82) (ln := 1) (a := 0) (b := 0) (zz := 0) (by decide +kernel) h (hS _ _ sm_152) e10 ?_
      show wp _ 184 68 [(0, .ref 146), (1, .int (Int32.ofInt x1))] [.int (Int32.ofInt (s 152 i9)), .int (Int32.ofInt x1), .ref 156] w _
      refine wp_g 1 (pc1 := 72) (lv1 := [(0, .ref 146), (1, .int (Int32.ofInt x1))]) (st1 := [.int (Int32.ofInt (s 152 i9)), .int (Int32.ofInt x1), .ref 156]) (w1 := w) rfl ?_
      obtain ⟨i11, e12, hx⟩ := bd hx
      obtain ⟨s13, e14, hx⟩ := bd hx
      refine wx_wa (x := 156) (n := 130) (ln := 1) (a := 0) (b := 0) (zz := 0) (by decide +kernel) h (hS _ _ sm_156) e12 e14 (fun w15 h16 => ?_)
      refine wp_g 2 (pc1 := 44) (lv1 := [(1, .int (Int32.ofInt (x1 + 1))), (0, .ref 146)]) (st1 := []) (w1 := w15) (by simp only [Int32.ofInt_add, Int32.ofInt_sub, Int32.ofInt_mul, Int32.ofInt_neg, p_and, p_or, p_xor, p_shl, p_shr, p_usr, p_w8, p_c16, p_lI, q_and, q_or, q_shl, q_shr, q_w32, Int64.ofInt_add, Int64.ofInt_sub, Int64.ofInt_mul, p_mx, p_mn, q_mx, q_mn]; rfl) ?_
      refine wp_lv (lv1 := [(0, .ref 146), (1, .int (Int32.ofInt (x1 + 1)))]) (lsub_p [1, 0] rfl rfl rfl) ?_
      cases hx
      exact kn _ _ rfl h16
/-- FoldDeedsModel.cloth ()I -/
noncomputable def xm_cloth (s : Hp) : Option (Int × Hp) :=
  (some (uh s 146 11 6)).bind fun s1 => (lp (fun (q : Int × Hp) => xm_cloth_b8 q.2 q.1) (0, s1)).bind fun q5 => (xm_readsAll q5.2).bind fun o9 => if w32 o9.1 = 0 then some ((-2) - (o9.2 146 9), o9.2) else (lp (fun (q : Int × Hp) => xm_cloth_b44 q.2 q.1) (0, o9.2)).bind fun q14 => (xm_begins q14.2).bind fun o18 => (some (uh o18 146 26 0)).bind fun s22 => (ix 130 0).bind fun i26 => some (s22 156 i26, s22)
set_option maxRecDepth 100000 in
theorem xm_cloth_ok {d : Nat} {P : Option Value → pm_H → Prop} {w : pm_H} {sh : Shp} {w0 : pm_H} {s : Hp} (hS : StM sh) (h : Rw sh w0 s w) {o : Int × Hp} (hx : xm_cloth s = some o) (kr : ∀ w1, Rw sh w0 o.2 w1 → P (some (.int (Int32.ofInt o.1))) w1) : wp (d + 12) 184 0 (lv_args 0 [.ref 146]) [] w P := by
  show wp _ 184 0 [(0, .ref 146)] [] w _
  unfold xm_cloth at hx
  refine wp_g 2 (pc1 := 3) (lv1 := [(0, .ref 146)]) (st1 := [.int (Int32.ofInt 6), .ref 146]) (w1 := w) rfl ?_
  obtain ⟨s1, e2, hx⟩ := bd hx
  refine wx_pi (kf := 165) (ln := 3) (ci := 12) (b := 11) (zz := 0) (x := 146) (by decide +kernel) h (hS _ _ sm_146) rfl (by decide +kernel) e2 (fun w3 h4 => ?_)
  refine wp_g 2 (pc1 := 8) (lv1 := [(1, .int (Int32.ofInt 0)), (0, .ref 146)]) (st1 := []) (w1 := w3) rfl ?_
  refine wp_lv (lv1 := [(0, .ref 146), (1, .int (Int32.ofInt 0))]) (lsub_p [1, 0] rfl rfl rfl) ?_
  obtain ⟨q5, e6, hx⟩ := bd hx
  refine wp_lp (σ := Int × Hp) (ρ := (Int × Hp)) (B := fun q => xm_cloth_b8 q.2 q.1) (R := fun q w' => Rw sh w0 q.2 w') (C := fun r => ∀ w1, Rw sh w0 r.2 w1 → wp (d + 12) 184 27 [(0, .ref 146), (1, .int (Int32.ofInt r.1))] [] w1 P) (lv := fun q => [(0, .ref 146), (1, .int (Int32.ofInt q.1))]) (hd := 8) (fun q w' o hR hb kn kc => xm_cloth_b8_ok hS hR hb kn kc) _ _ _ e6 h4 ?_
  intro w7 h8
  show wp _ 184 27 [(0, .ref 146), (1, .int (Int32.ofInt q5.1))] [] w7 _
  refine wp_g 1 (pc1 := 28) (lv1 := [(0, .ref 146), (1, .int (Int32.ofInt q5.1))]) (st1 := [.ref 146]) (w1 := w7) rfl ?_
  obtain ⟨o9, e10, hx⟩ := bd hx
  refine wp_cl [.ref 146] [] (i := .invokevirtual 277) (ln := 3) (a := 182) (b := 0) (z := 0) (by decide +kernel) rfl rfl (by decide) rfl (show (1 : Nat) = pm_na 182 by decide +kernel) (Nat.le_of_ble_eq_true rfl) (show (1 : Nat) ≤ pm_n 182 by decide +kernel) (rcv_x 12 h8 (hS _ _ sm_146) (by decide +kernel)) (xm_readsAll_ok (d := d) hS h8 e10 (fun w11 h12 => ?_))
  show wp _ 184 31 [(0, .ref 146), (1, .int (Int32.ofInt q5.1))] [.int (Int32.ofInt o9.1)] w11 _
  refine wz_ne (oo := 11) (ln := 3) (a := 42) (b := 0) (zz := 0) (by decide +kernel) (fun h13 => ?_) (fun h13 => ?_)
  · have hx := ite_f h13 hx
    refine wp_g 2 (pc1 := 44) (lv1 := [(1, .int (Int32.ofInt 0)), (0, .ref 146)]) (st1 := []) (w1 := w11) rfl ?_
    refine wp_lv (lv1 := [(0, .ref 146), (1, .int (Int32.ofInt 0))]) (lsub_p [1, 0] rfl rfl rfl) ?_
    obtain ⟨q14, e15, hx⟩ := bd hx
    refine wp_lp (σ := Int × Hp) (ρ := (Int × Hp)) (B := fun q => xm_cloth_b44 q.2 q.1) (R := fun q w' => Rw sh w0 q.2 w') (C := fun r => ∀ w1, Rw sh w0 r.2 w1 → wp (d + 12) 184 79 [(0, .ref 146), (1, .int (Int32.ofInt r.1))] [] w1 P) (lv := fun q => [(0, .ref 146), (1, .int (Int32.ofInt q.1))]) (hd := 44) (fun q w' o hR hb kn kc => xm_cloth_b44_ok hS hR hb kn kc) _ _ _ e15 h12 ?_
    intro w16 h17
    show wp _ 184 79 [(0, .ref 146), (1, .int (Int32.ofInt q14.1))] [] w16 _
    refine wp_g 1 (pc1 := 80) (lv1 := [(0, .ref 146), (1, .int (Int32.ofInt q14.1))]) (st1 := [.ref 146]) (w1 := w16) rfl ?_
    obtain ⟨o18, e19, hx⟩ := bd hx
    refine wp_cl [.ref 146] [] (i := .invokevirtual 280) (ln := 3) (a := 197) (b := 0) (z := 0) (by decide +kernel) rfl rfl (by decide) rfl (show (1 : Nat) = pm_na 197 by decide +kernel) (Nat.le_of_ble_eq_true rfl) (show (1 : Nat) ≤ pm_n 197 by decide +kernel) (rcv_x 12 h17 (hS _ _ sm_146) (by decide +kernel)) (xm_begins_ok (d := d + 10) hS h17 e19 (fun w20 h21 => ?_))
    show wp _ 184 83 [(0, .ref 146), (1, .int (Int32.ofInt q14.1))] [] w20 _
    refine wp_g 2 (pc1 := 85) (lv1 := [(0, .ref 146), (1, .int (Int32.ofInt q14.1))]) (st1 := [.int (Int32.ofInt 0), .ref 146]) (w1 := w20) rfl ?_
    obtain ⟨s22, e23, hx⟩ := bd hx
    refine wx_pi (kf := 283) (ln := 3) (ci := 12) (b := 26) (zz := 0) (x := 146) (by decide +kernel) h21 (hS _ _ sm_146) rfl (by decide +kernel) e23 (fun w24 h25 => ?_)
    refine wp_g 1 (pc1 := 89) (lv1 := [(0, .ref 146), (1, .int (Int32.ofInt q14.1))]) (st1 := [.ref 146]) (w1 := w24) rfl ?_
    refine wx_gr (o := 10) (kf := 39) (ln := 3) (ci := 12) (b := 20) (zz := 0) (x := 146) (by decide +kernel) h25 (hS _ _ sm_146) rfl ?_
    show wp _ 184 92 [(0, .ref 146), (1, .int (Int32.ofInt q14.1))] [.ref 156] w24 _
    refine wp_g 1 (pc1 := 93) (lv1 := [(0, .ref 146), (1, .int (Int32.ofInt q14.1))]) (st1 := [.int (Int32.ofInt 0), .ref 156]) (w1 := w24) rfl ?_
    obtain ⟨i26, e27, hx⟩ := bd hx
    refine wx_ra (x := 156) (n := 130) (ln := 1) (a := 0) (b := 0) (zz := 0) (by decide +kernel) h25 (hS _ _ sm_156) e27 ?_
    show wp _ 184 94 [(0, .ref 146), (1, .int (Int32.ofInt q14.1))] [.int (Int32.ofInt (s22 156 i26))] w24 _
    refine wp_rt (i := .ireturn) (r := some (.int (Int32.ofInt (s22 156 i26)))) (ln := 1) (a := 0) (b := 0) (z := 0) (by decide +kernel) rfl (ret_ok (by decide +kernel)) ?_
    cases hx
    exact kr _ h25
  · have hx := ite_t h13 hx
    refine wp_g 2 (pc1 := 37) (lv1 := [(0, .ref 146), (1, .int (Int32.ofInt q5.1))]) (st1 := [.ref 146, .int (Int32.ofInt (-2))]) (w1 := w11) rfl ?_
    refine wx_gi (kf := 108) (ln := 3) (ci := 12) (b := 9) (zz := 0) (x := 146) (by decide +kernel) h12 (hS _ _ sm_146) rfl ?_
    show wp _ 184 40 [(0, .ref 146), (1, .int (Int32.ofInt q5.1))] [.int (Int32.ofInt (o9.2 146 9)), .int (Int32.ofInt (-2))] w11 _
    refine wp_g 1 (pc1 := 41) (lv1 := [(0, .ref 146), (1, .int (Int32.ofInt q5.1))]) (st1 := [.int (Int32.ofInt ((-2) - (o9.2 146 9)))]) (w1 := w11) (by simp only [Int32.ofInt_add, Int32.ofInt_sub, Int32.ofInt_mul, Int32.ofInt_neg, p_and, p_or, p_xor, p_shl, p_shr, p_usr, p_w8, p_c16, p_lI, q_and, q_or, q_shl, q_shr, q_w32, Int64.ofInt_add, Int64.ofInt_sub, Int64.ofInt_mul, p_mx, p_mn, q_mx, q_mn]; rfl) ?_
    refine wp_rt (i := .ireturn) (r := some (.int (Int32.ofInt ((-2) - (o9.2 146 9))))) (ln := 1) (a := 0) (b := 0) (z := 0) (by decide +kernel) rfl (ret_ok (by decide +kernel)) ?_
    cases hx
    exact kr _ h12
