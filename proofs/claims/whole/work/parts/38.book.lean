/-! by program (wip/whole/gx.py) -/
/-- StackBook.shiftOf (I)I -/
noncomputable def xb_shiftOf (p0 : Int) : Option Int :=
  some (7 + (3 * (7 - p0)))
set_option maxRecDepth 100000 in
theorem xb_shiftOf_ok {d : Nat} {P : Option Value → pm_H → Prop} {w : pm_H} {p0 : Int} {o : Int} (hx : xb_shiftOf p0 = some o) (kr : P (some (.int (Int32.ofInt o))) w) : wp d 75 0 (lv_args 0 [.int (Int32.ofInt p0)]) [] w P := by
  show wp _ 75 0 [(0, .int (Int32.ofInt p0))] [] w _
  unfold xb_shiftOf at hx
  refine wp_g 7 (pc1 := 9) (lv1 := [(0, .int (Int32.ofInt p0))]) (st1 := [.int (Int32.ofInt (7 + (3 * (7 - p0))))]) (w1 := w) (by simp only [Int32.ofInt_add, Int32.ofInt_sub, Int32.ofInt_mul, Int32.ofInt_neg, p_and, p_or, p_xor, p_shl, p_shr, p_usr, p_w8, p_c16, p_lI, q_and, q_or, q_shl, q_shr, q_w32, Int64.ofInt_add, Int64.ofInt_sub, Int64.ofInt_mul, p_mx, p_mn, q_mx, q_mn]; rfl) ?_
  refine wp_rt (i := .ireturn) (r := some (.int (Int32.ofInt (7 + (3 * (7 - p0)))))) (ln := 1) (a := 0) (b := 0) (z := 0) (by decide +kernel) rfl (ret_ok (by decide +kernel)) ?_
  cases hx
  exact kr
noncomputable def xb_addRow_b17 (s : Hp) (x2 : Int) (x3 : Int) : Option ((Int × Int) ⊕ (Int × Int)) :=
  if w32 x3 < w32 (s 130 2) then (ix 8 x3).bind fun i2 => (xb_shiftOf (s 132 i2)).bind fun o4 => some (.inl (bOr x2 (bShl x3 o4), x3 + 1)) else some (.inr (x2, x3))
set_option maxRecDepth 100000 in
theorem xb_addRow_b17_ok {d : Nat} {P : Option Value → pm_H → Prop} {w : pm_H} {sh : Shp} {w0 : pm_H} {s : Hp} (hS : St sh) {x2 : Int} {x3 : Int} (h : Rw sh w0 s w) {o : ((Int × Int) ⊕ (Int × Int))} (hx : xb_addRow_b17 s x2 x3 = some o) (kn : ∀ (q : Int × Int) w1, o = .inl q → w = w1 → wp (d + 1) 81 17 [(0, .ref 130), (2, .int (Int32.ofInt q.1)), (3, .int (Int32.ofInt q.2))] [] w1 P) (kc : ∀ (r : (Int × Int)), o = .inr r → (∀ w1, w = w1 → wp (d + 1) 81 45 [(0, .ref 130), (2, .int (Int32.ofInt r.1)), (3, .int (Int32.ofInt r.2))] [] w1 P)) : wp (d + 1) 81 17 [(0, .ref 130), (2, .int (Int32.ofInt x2)), (3, .int (Int32.ofInt x3))] [] w P := by
  unfold xb_addRow_b17 at hx
  refine wp_g 2 (pc1 := 19) (lv1 := [(0, .ref 130), (2, .int (Int32.ofInt x2)), (3, .int (Int32.ofInt x3))]) (st1 := [.ref 130, .int (Int32.ofInt x3)]) (w1 := w) rfl ?_
  refine wx_gi (kf := 19) (ln := 3) (ci := 8) (b := 2) (zz := 0) (x := 130) (by decide +kernel) h (hS _ _ sx_130) rfl ?_
  show wp _ 81 22 [(0, .ref 130), (2, .int (Int32.ofInt x2)), (3, .int (Int32.ofInt x3))] [.int (Int32.ofInt (s 130 2)), .int (Int32.ofInt x3)] w _
  refine wx_ge (oo := 23) (ln := 3) (a := 45) (b := 0) (zz := 0) (by decide +kernel) (fun h1 => ?_) (fun h1 => ?_)
  · have hx := ite_f h1 hx
    cases hx
    exact kc _ rfl _ rfl
  · have hx := ite_t h1 hx
    refine wp_g 3 (pc1 := 28) (lv1 := [(0, .ref 130), (2, .int (Int32.ofInt x2)), (3, .int (Int32.ofInt x3))]) (st1 := [.ref 130, .int (Int32.ofInt x3), .int (Int32.ofInt x2)]) (w1 := w) rfl ?_
    refine wx_gr (o := 2) (kf := 22) (ln := 3) (ci := 8) (b := 3) (zz := 0) (x := 130) (by decide +kernel) h (hS _ _ sx_130) rfl ?_
    show wp _ 81 31 [(0, .ref 130), (2, .int (Int32.ofInt x2)), (3, .int (Int32.ofInt x3))] [.ref 132, .int (Int32.ofInt x3), .int (Int32.ofInt x2)] w _
    refine wp_g 1 (pc1 := 32) (lv1 := [(0, .ref 130), (2, .int (Int32.ofInt x2)), (3, .int (Int32.ofInt x3))]) (st1 := [.int (Int32.ofInt x3), .ref 132, .int (Int32.ofInt x3), .int (Int32.ofInt x2)]) (w1 := w) rfl ?_
    obtain ⟨i2, e3, hx⟩ := bd hx
    refine wx_ra (x := 132) (n := 8) (ln := 1) (a := 0) (b := 0) (zz := 0) (by decide +kernel) h (hS _ _ sx_132) e3 ?_
    show wp _ 81 33 [(0, .ref 130), (2, .int (Int32.ofInt x2)), (3, .int (Int32.ofInt x3))] [.int (Int32.ofInt (s 132 i2)), .int (Int32.ofInt x3), .int (Int32.ofInt x2)] w _
    obtain ⟨o4, e5, hx⟩ := bd hx
    refine wp_cl [.int (Int32.ofInt (s 132 i2))] [.int (Int32.ofInt x3), .int (Int32.ofInt x2)] (i := .invokestatic 68) (ln := 3) (a := 75) (b := 1) (z := 0) (by decide +kernel) rfl rfl (by decide) rfl (show (1 : Nat) = pm_na 75 by decide +kernel) (Nat.le_of_ble_eq_true rfl) (show (1 : Nat) ≤ pm_n 75 by decide +kernel) (by rw [show pm_k 75 = 1 by decide +kernel]; rfl) (xb_shiftOf_ok (d := d) e5 ?_)
    show wp _ 81 36 [(0, .ref 130), (2, .int (Int32.ofInt x2)), (3, .int (Int32.ofInt x3))] [.int (Int32.ofInt o4), .int (Int32.ofInt x3), .int (Int32.ofInt x2)] w _
    refine wp_g 5 (pc1 := 17) (lv1 := [(3, .int (Int32.ofInt (x3 + 1))), (2, .int (Int32.ofInt (bOr x2 (bShl x3 o4)))), (0, .ref 130)]) (st1 := []) (w1 := w) (by simp only [Int32.ofInt_add, Int32.ofInt_sub, Int32.ofInt_mul, Int32.ofInt_neg, p_and, p_or, p_xor, p_shl, p_shr, p_usr, p_w8, p_c16, p_lI, q_and, q_or, q_shl, q_shr, q_w32, Int64.ofInt_add, Int64.ofInt_sub, Int64.ofInt_mul, p_mx, p_mn, q_mx, q_mn]; rfl) ?_
    refine wp_lv (lv1 := [(0, .ref 130), (2, .int (Int32.ofInt (bOr x2 (bShl x3 o4)))), (3, .int (Int32.ofInt (x3 + 1)))]) (lsub_p [2, 1, 0] rfl rfl rfl) ?_
    cases hx
    exact kn _ _ rfl rfl
/-- StackBook.addRow (I)V -/
noncomputable def xb_addRow (s : Hp) (p1 : Int) : Option Hp :=
  if w32 (s 130 1) < w32 1392 then (lp (fun (q : Int × Int) => xb_addRow_b17 s q.1 q.2) (p1, 0)).bind fun q2 => (ix 1392 (s 130 1)).bind fun i6 => (some (uh s 131 i6 q2.1)).bind fun s8 => (some (uh s8 130 1 ((s8 130 1) + 1))).bind fun s12 => some s12 else some s
set_option maxRecDepth 100000 in
theorem xb_addRow_ok {d : Nat} {P : Option Value → pm_H → Prop} {w : pm_H} {sh : Shp} {w0 : pm_H} {s : Hp} (hS : St sh) {p1 : Int} (h : Rw sh w0 s w) {o : Hp} (hx : xb_addRow s p1 = some o) (kr : ∀ w1, Rw sh w0 o w1 → P none w1) : wp (d + 1) 81 0 (lv_args 0 [.ref 130, .int (Int32.ofInt p1)]) [] w P := by
  show wp _ 81 0 [(0, .ref 130), (1, .int (Int32.ofInt p1))] [] w _
  unfold xb_addRow at hx
  refine wp_g 1 (pc1 := 1) (lv1 := [(0, .ref 130), (1, .int (Int32.ofInt p1))]) (st1 := [.ref 130]) (w1 := w) rfl ?_
  refine wx_gi (kf := 15) (ln := 3) (ci := 8) (b := 1) (zz := 0) (x := 130) (by decide +kernel) h (hS _ _ sx_130) rfl ?_
  show wp _ 81 4 [(0, .ref 130), (1, .int (Int32.ofInt p1))] [.int (Int32.ofInt (s 130 1))] w _
  refine wp_g 1 (pc1 := 5) (lv1 := [(0, .ref 130), (1, .int (Int32.ofInt p1))]) (st1 := [.ref 130, .int (Int32.ofInt (s 130 1))]) (w1 := w) rfl ?_
  refine wx_gr (o := 1) (kf := 9) (ln := 3) (ci := 8) (b := 0) (zz := 0) (x := 130) (by decide +kernel) h (hS _ _ sx_130) rfl ?_
  show wp _ 81 8 [(0, .ref 130), (1, .int (Int32.ofInt p1))] [.ref 131, .int (Int32.ofInt (s 130 1))] w _
  refine wx_ln (n := 1392) (t := 0) (ln := 1) (a := 0) (b := 0) (zz := 0) (by decide +kernel) h (hS _ _ sx_131) ?_
  show wp _ 81 9 [(0, .ref 130), (1, .int (Int32.ofInt p1))] [.int (Int32.ofInt 1392), .int (Int32.ofInt (s 130 1))] w _
  refine wx_lt (oo := 4) (ln := 3) (a := 13) (b := 0) (zz := 0) (by decide +kernel) (fun h1 => ?_) (fun h1 => ?_)
  · have hx := ite_t h1 hx
    refine wp_g 4 (pc1 := 17) (lv1 := [(3, .int (Int32.ofInt 0)), (2, .int (Int32.ofInt p1)), (0, .ref 130), (1, .int (Int32.ofInt p1))]) (st1 := []) (w1 := w) rfl ?_
    refine wp_lv (lv1 := [(0, .ref 130), (2, .int (Int32.ofInt p1)), (3, .int (Int32.ofInt 0))]) (lsub_p [2, 1, 0] rfl rfl rfl) ?_
    obtain ⟨q2, e3, hx⟩ := bd hx
    refine wp_lp (σ := Int × Int) (ρ := (Int × Int)) (B := fun q => xb_addRow_b17 s q.1 q.2) (R := fun q w' => w = w') (C := fun r => ∀ w1, w = w1 → wp (d + 1) 81 45 [(0, .ref 130), (2, .int (Int32.ofInt r.1)), (3, .int (Int32.ofInt r.2))] [] w1 P) (lv := fun q => [(0, .ref 130), (2, .int (Int32.ofInt q.1)), (3, .int (Int32.ofInt q.2))]) (hd := 17) (fun q w' o hR hb kn kc => by subst hR; exact xb_addRow_b17_ok hS h hb kn kc) _ _ _ e3 rfl ?_
    intro w4 h5
    subst h5
    show wp _ 81 45 [(0, .ref 130), (2, .int (Int32.ofInt q2.1)), (3, .int (Int32.ofInt q2.2))] [] w _
    refine wp_g 1 (pc1 := 46) (lv1 := [(0, .ref 130), (2, .int (Int32.ofInt q2.1)), (3, .int (Int32.ofInt q2.2))]) (st1 := [.ref 130]) (w1 := w) rfl ?_
    refine wx_gr (o := 1) (kf := 9) (ln := 3) (ci := 8) (b := 0) (zz := 0) (x := 130) (by decide +kernel) h (hS _ _ sx_130) rfl ?_
    show wp _ 81 49 [(0, .ref 130), (2, .int (Int32.ofInt q2.1)), (3, .int (Int32.ofInt q2.2))] [.ref 131] w _
    refine wp_g 1 (pc1 := 50) (lv1 := [(0, .ref 130), (2, .int (Int32.ofInt q2.1)), (3, .int (Int32.ofInt q2.2))]) (st1 := [.ref 130, .ref 131]) (w1 := w) rfl ?_
    refine wx_gi (kf := 15) (ln := 3) (ci := 8) (b := 1) (zz := 0) (x := 130) (by decide +kernel) h (hS _ _ sx_130) rfl ?_
    show wp _ 81 53 [(0, .ref 130), (2, .int (Int32.ofInt q2.1)), (3, .int (Int32.ofInt q2.2))] [.int (Int32.ofInt (s 130 1)), .ref 131] w _
    refine wp_g 1 (pc1 := 54) (lv1 := [(0, .ref 130), (2, .int (Int32.ofInt q2.1)), (3, .int (Int32.ofInt q2.2))]) (st1 := [.int (Int32.ofInt q2.1), .int (Int32.ofInt (s 130 1)), .ref 131]) (w1 := w) rfl ?_
    obtain ⟨i6, e7, hx⟩ := bd hx
    obtain ⟨s8, e9, hx⟩ := bd hx
    refine wx_wa (x := 131) (n := 1392) (ln := 1) (a := 0) (b := 0) (zz := 0) (by decide +kernel) h (hS _ _ sx_131) e7 e9 (fun w10 h11 => ?_)
    refine wp_g 2 (pc1 := 57) (lv1 := [(0, .ref 130), (2, .int (Int32.ofInt q2.1)), (3, .int (Int32.ofInt q2.2))]) (st1 := [.ref 130, .ref 130]) (w1 := w10) rfl ?_
    refine wx_gi (kf := 15) (ln := 3) (ci := 8) (b := 1) (zz := 0) (x := 130) (by decide +kernel) h11 (hS _ _ sx_130) rfl ?_
    show wp _ 81 60 [(0, .ref 130), (2, .int (Int32.ofInt q2.1)), (3, .int (Int32.ofInt q2.2))] [.int (Int32.ofInt (s8 130 1)), .ref 130] w10 _
    refine wp_g 2 (pc1 := 62) (lv1 := [(0, .ref 130), (2, .int (Int32.ofInt q2.1)), (3, .int (Int32.ofInt q2.2))]) (st1 := [.int (Int32.ofInt ((s8 130 1) + 1)), .ref 130]) (w1 := w10) (by simp only [Int32.ofInt_add, Int32.ofInt_sub, Int32.ofInt_mul, Int32.ofInt_neg, p_and, p_or, p_xor, p_shl, p_shr, p_usr, p_w8, p_c16, p_lI, q_and, q_or, q_shl, q_shr, q_w32, Int64.ofInt_add, Int64.ofInt_sub, Int64.ofInt_mul, p_mx, p_mn, q_mx, q_mn]; rfl) ?_
    obtain ⟨s12, e13, hx⟩ := bd hx
    refine wx_pi (kf := 15) (ln := 3) (ci := 8) (b := 1) (zz := 0) (x := 130) (by decide +kernel) h11 (hS _ _ sx_130) rfl (by decide +kernel) e13 (fun w14 h15 => ?_)
    refine wp_rt (i := .return_) (r := none) (ln := 1) (a := 0) (b := 0) (z := 0) (by decide +kernel) rfl (ret_v (by decide +kernel)) ?_
    cases hx
    exact kr _ h15
  · have hx := ite_f h1 hx
    refine wp_rt (i := .return_) (r := none) (ln := 1) (a := 0) (b := 0) (z := 0) (by decide +kernel) rfl (ret_v (by decide +kernel)) ?_
    cases hx
    exact kr _ h
noncomputable def xb_crosses_b40_j74 (s : Hp) (x4 : Int) (x5 : Int) (x6 : Int) (k0 : Int) : Option (Int ⊕ (Int ⊕ Int)) :=
  (ix 8 (x6 + 1)).bind fun i1 => if w32 (s 132 i1) < w32 x4 then if w32 k0 = w32 0 then some (.inl (x6 + (-2))) else some (.inr (.inr 1)) else if w32 (s 132 i1) < w32 x5 then if w32 k0 = w32 1 then some (.inl (x6 + (-2))) else some (.inr (.inr 1)) else if w32 k0 = w32 0 then some (.inl (x6 + (-2))) else some (.inr (.inr 1))
set_option maxRecDepth 100000 in
theorem xb_crosses_b40_j74_ok {d : Nat} {P : Option Value → pm_H → Prop} {w : pm_H} {sh : Shp} {w0 : pm_H} {s : Hp} (hS : St sh) {x4 : Int} {x5 : Int} {x6 : Int} {k0 : Int} (h : Rw sh w0 s w) {o : (Int ⊕ (Int ⊕ Int))} (hx : xb_crosses_b40_j74 s x4 x5 x6 k0 = some o) (kn : ∀ (q : Int) w1, o = .inl q → w = w1 → wp d 78 40 [(0, .ref 130), (4, .int (Int32.ofInt x4)), (5, .int (Int32.ofInt x5)), (6, .int (Int32.ofInt q))] [] w1 P) (kc : ∀ (r : (Int ⊕ Int)), o = .inr r → ((∀ q1 w1, r = .inl q1 → w = w1 → wp d 78 126 [(0, .ref 130), (4, .int (Int32.ofInt x4)), (5, .int (Int32.ofInt x5)), (6, .int (Int32.ofInt q1))] [] w1 P) ∧ (∀ v1 w1, r = .inr v1 → w = w1 → P (some (.int (Int32.ofInt v1))) w1))) : wp d 78 74 [(0, .ref 130), (4, .int (Int32.ofInt x4)), (5, .int (Int32.ofInt x5)), (6, .int (Int32.ofInt x6))] [.int (Int32.ofInt k0)] w P := by
  unfold xb_crosses_b40_j74 at hx
  refine wp_g 2 (pc1 := 77) (lv1 := [(7, .int (Int32.ofInt k0)), (0, .ref 130), (4, .int (Int32.ofInt x4)), (5, .int (Int32.ofInt x5)), (6, .int (Int32.ofInt x6))]) (st1 := [.ref 130]) (w1 := w) rfl ?_
  refine wx_gr (o := 2) (kf := 22) (ln := 3) (ci := 8) (b := 3) (zz := 0) (x := 130) (by decide +kernel) h (hS _ _ sx_130) rfl ?_
  show wp _ 78 80 [(7, .int (Int32.ofInt k0)), (0, .ref 130), (4, .int (Int32.ofInt x4)), (5, .int (Int32.ofInt x5)), (6, .int (Int32.ofInt x6))] [.ref 132] w _
  refine wp_g 3 (pc1 := 84) (lv1 := [(7, .int (Int32.ofInt k0)), (0, .ref 130), (4, .int (Int32.ofInt x4)), (5, .int (Int32.ofInt x5)), (6, .int (Int32.ofInt x6))]) (st1 := [.int (Int32.ofInt (x6 + 1)), .ref 132]) (w1 := w) (by simp only [Int32.ofInt_add, Int32.ofInt_sub, Int32.ofInt_mul, Int32.ofInt_neg, p_and, p_or, p_xor, p_shl, p_shr, p_usr, p_w8, p_c16, p_lI, q_and, q_or, q_shl, q_shr, q_w32, Int64.ofInt_add, Int64.ofInt_sub, Int64.ofInt_mul, p_mx, p_mn, q_mx, q_mn]; rfl) ?_
  obtain ⟨i1, e2, hx⟩ := bd hx
  refine wx_ra (x := 132) (n := 8) (ln := 1) (a := 0) (b := 0) (zz := 0) (by decide +kernel) h (hS _ _ sx_132) e2 ?_
  show wp _ 78 85 [(7, .int (Int32.ofInt k0)), (0, .ref 130), (4, .int (Int32.ofInt x4)), (5, .int (Int32.ofInt x5)), (6, .int (Int32.ofInt x6))] [.int (Int32.ofInt (s 132 i1))] w _
  refine wp_g 1 (pc1 := 87) (lv1 := [(7, .int (Int32.ofInt k0)), (0, .ref 130), (4, .int (Int32.ofInt x4)), (5, .int (Int32.ofInt x5)), (6, .int (Int32.ofInt x6))]) (st1 := [.int (Int32.ofInt x4), .int (Int32.ofInt (s 132 i1))]) (w1 := w) rfl ?_
  refine wx_lt (oo := 21) (ln := 3) (a := 108) (b := 0) (zz := 0) (by decide +kernel) (fun h3 => ?_) (fun h3 => ?_)
  · have hx := ite_t h3 hx
    refine wp_g 4 (pc1 := 115) (lv1 := [(8, .int (Int32.ofInt 0)), (7, .int (Int32.ofInt k0)), (0, .ref 130), (4, .int (Int32.ofInt x4)), (5, .int (Int32.ofInt x5)), (6, .int (Int32.ofInt x6))]) (st1 := [.int (Int32.ofInt 0), .int (Int32.ofInt k0)]) (w1 := w) rfl ?_
    refine wx_eq (oo := 5) (ln := 3) (a := 120) (b := 0) (zz := 0) (by decide +kernel) (fun h4 => ?_) (fun h4 => ?_)
    · have hx := ite_t h4 hx
      refine wp_g 2 (pc1 := 40) (lv1 := [(6, .int (Int32.ofInt (x6 + (-2)))), (8, .int (Int32.ofInt 0)), (7, .int (Int32.ofInt k0)), (0, .ref 130), (4, .int (Int32.ofInt x4)), (5, .int (Int32.ofInt x5))]) (st1 := []) (w1 := w) (by simp only [Int32.ofInt_add, Int32.ofInt_sub, Int32.ofInt_mul, Int32.ofInt_neg, p_and, p_or, p_xor, p_shl, p_shr, p_usr, p_w8, p_c16, p_lI, q_and, q_or, q_shl, q_shr, q_w32, Int64.ofInt_add, Int64.ofInt_sub, Int64.ofInt_mul, p_mx, p_mn, q_mx, q_mn]; rfl) ?_
      refine wp_lv (lv1 := [(0, .ref 130), (4, .int (Int32.ofInt x4)), (5, .int (Int32.ofInt x5)), (6, .int (Int32.ofInt (x6 + (-2))))]) (lsub_p [3, 4, 5, 0] rfl rfl rfl) ?_
      cases hx
      exact kn _ _ rfl rfl
    · have hx := ite_f h4 hx
      refine wp_g 1 (pc1 := 119) (lv1 := [(8, .int (Int32.ofInt 0)), (7, .int (Int32.ofInt k0)), (0, .ref 130), (4, .int (Int32.ofInt x4)), (5, .int (Int32.ofInt x5)), (6, .int (Int32.ofInt x6))]) (st1 := [.int (Int32.ofInt 1)]) (w1 := w) rfl ?_
      refine wp_rt (i := .ireturn) (r := some (.int (Int32.ofInt 1))) (ln := 1) (a := 0) (b := 0) (z := 0) (by decide +kernel) rfl (ret_b (by decide +kernel) (Or.inr rfl)) ?_
      cases hx
      exact (kc _ rfl).2 _ _ rfl rfl
  · have hx := ite_f h3 hx
    refine wp_g 1 (pc1 := 91) (lv1 := [(7, .int (Int32.ofInt k0)), (0, .ref 130), (4, .int (Int32.ofInt x4)), (5, .int (Int32.ofInt x5)), (6, .int (Int32.ofInt x6))]) (st1 := [.ref 130]) (w1 := w) rfl ?_
    refine wx_gr (o := 2) (kf := 22) (ln := 3) (ci := 8) (b := 3) (zz := 0) (x := 130) (by decide +kernel) h (hS _ _ sx_130) rfl ?_
    show wp _ 78 94 [(7, .int (Int32.ofInt k0)), (0, .ref 130), (4, .int (Int32.ofInt x4)), (5, .int (Int32.ofInt x5)), (6, .int (Int32.ofInt x6))] [.ref 132] w _
    refine wp_g 3 (pc1 := 98) (lv1 := [(7, .int (Int32.ofInt k0)), (0, .ref 130), (4, .int (Int32.ofInt x4)), (5, .int (Int32.ofInt x5)), (6, .int (Int32.ofInt x6))]) (st1 := [.int (Int32.ofInt (x6 + 1)), .ref 132]) (w1 := w) (by simp only [Int32.ofInt_add, Int32.ofInt_sub, Int32.ofInt_mul, Int32.ofInt_neg, p_and, p_or, p_xor, p_shl, p_shr, p_usr, p_w8, p_c16, p_lI, q_and, q_or, q_shl, q_shr, q_w32, Int64.ofInt_add, Int64.ofInt_sub, Int64.ofInt_mul, p_mx, p_mn, q_mx, q_mn]; rfl) ?_
    refine wx_ra (x := 132) (n := 8) (ln := 1) (a := 0) (b := 0) (zz := 0) (by decide +kernel) h (hS _ _ sx_132) e2 ?_
    show wp _ 78 99 [(7, .int (Int32.ofInt k0)), (0, .ref 130), (4, .int (Int32.ofInt x4)), (5, .int (Int32.ofInt x5)), (6, .int (Int32.ofInt x6))] [.int (Int32.ofInt (s 132 i1))] w _
    refine wp_g 1 (pc1 := 101) (lv1 := [(7, .int (Int32.ofInt k0)), (0, .ref 130), (4, .int (Int32.ofInt x4)), (5, .int (Int32.ofInt x5)), (6, .int (Int32.ofInt x6))]) (st1 := [.int (Int32.ofInt x5), .int (Int32.ofInt (s 132 i1))]) (w1 := w) rfl ?_
    refine wx_ge (oo := 7) (ln := 3) (a := 108) (b := 0) (zz := 0) (by decide +kernel) (fun h5 => ?_) (fun h5 => ?_)
    · have hx := ite_f h5 hx
      refine wp_g 4 (pc1 := 115) (lv1 := [(8, .int (Int32.ofInt 0)), (7, .int (Int32.ofInt k0)), (0, .ref 130), (4, .int (Int32.ofInt x4)), (5, .int (Int32.ofInt x5)), (6, .int (Int32.ofInt x6))]) (st1 := [.int (Int32.ofInt 0), .int (Int32.ofInt k0)]) (w1 := w) rfl ?_
      refine wx_eq (oo := 5) (ln := 3) (a := 120) (b := 0) (zz := 0) (by decide +kernel) (fun h6 => ?_) (fun h6 => ?_)
      · have hx := ite_t h6 hx
        refine wp_g 2 (pc1 := 40) (lv1 := [(6, .int (Int32.ofInt (x6 + (-2)))), (8, .int (Int32.ofInt 0)), (7, .int (Int32.ofInt k0)), (0, .ref 130), (4, .int (Int32.ofInt x4)), (5, .int (Int32.ofInt x5))]) (st1 := []) (w1 := w) (by simp only [Int32.ofInt_add, Int32.ofInt_sub, Int32.ofInt_mul, Int32.ofInt_neg, p_and, p_or, p_xor, p_shl, p_shr, p_usr, p_w8, p_c16, p_lI, q_and, q_or, q_shl, q_shr, q_w32, Int64.ofInt_add, Int64.ofInt_sub, Int64.ofInt_mul, p_mx, p_mn, q_mx, q_mn]; rfl) ?_
        refine wp_lv (lv1 := [(0, .ref 130), (4, .int (Int32.ofInt x4)), (5, .int (Int32.ofInt x5)), (6, .int (Int32.ofInt (x6 + (-2))))]) (lsub_p [3, 4, 5, 0] rfl rfl rfl) ?_
        cases hx
        exact kn _ _ rfl rfl
      · have hx := ite_f h6 hx
        refine wp_g 1 (pc1 := 119) (lv1 := [(8, .int (Int32.ofInt 0)), (7, .int (Int32.ofInt k0)), (0, .ref 130), (4, .int (Int32.ofInt x4)), (5, .int (Int32.ofInt x5)), (6, .int (Int32.ofInt x6))]) (st1 := [.int (Int32.ofInt 1)]) (w1 := w) rfl ?_
        refine wp_rt (i := .ireturn) (r := some (.int (Int32.ofInt 1))) (ln := 1) (a := 0) (b := 0) (z := 0) (by decide +kernel) rfl (ret_b (by decide +kernel) (Or.inr rfl)) ?_
        cases hx
        exact (kc _ rfl).2 _ _ rfl rfl
    · have hx := ite_t h5 hx
      refine wp_g 5 (pc1 := 115) (lv1 := [(8, .int (Int32.ofInt 1)), (7, .int (Int32.ofInt k0)), (0, .ref 130), (4, .int (Int32.ofInt x4)), (5, .int (Int32.ofInt x5)), (6, .int (Int32.ofInt x6))]) (st1 := [.int (Int32.ofInt 1), .int (Int32.ofInt k0)]) (w1 := w) rfl ?_
      refine wx_eq (oo := 5) (ln := 3) (a := 120) (b := 0) (zz := 0) (by decide +kernel) (fun h7 => ?_) (fun h7 => ?_)
      · have hx := ite_t h7 hx
        refine wp_g 2 (pc1 := 40) (lv1 := [(6, .int (Int32.ofInt (x6 + (-2)))), (8, .int (Int32.ofInt 1)), (7, .int (Int32.ofInt k0)), (0, .ref 130), (4, .int (Int32.ofInt x4)), (5, .int (Int32.ofInt x5))]) (st1 := []) (w1 := w) (by simp only [Int32.ofInt_add, Int32.ofInt_sub, Int32.ofInt_mul, Int32.ofInt_neg, p_and, p_or, p_xor, p_shl, p_shr, p_usr, p_w8, p_c16, p_lI, q_and, q_or, q_shl, q_shr, q_w32, Int64.ofInt_add, Int64.ofInt_sub, Int64.ofInt_mul, p_mx, p_mn, q_mx, q_mn]; rfl) ?_
        refine wp_lv (lv1 := [(0, .ref 130), (4, .int (Int32.ofInt x4)), (5, .int (Int32.ofInt x5)), (6, .int (Int32.ofInt (x6 + (-2))))]) (lsub_p [3, 4, 5, 0] rfl rfl rfl) ?_
        cases hx
        exact kn _ _ rfl rfl
      · have hx := ite_f h7 hx
        refine wp_g 1 (pc1 := 119) (lv1 := [(8, .int (Int32.ofInt 1)), (7, .int (Int32.ofInt k0)), (0, .ref 130), (4, .int (Int32.ofInt x4)), (5, .int (Int32.ofInt x5)), (6, .int (Int32.ofInt x6))]) (st1 := [.int (Int32.ofInt 1)]) (w1 := w) rfl ?_
        refine wp_rt (i := .ireturn) (r := some (.int (Int32.ofInt 1))) (ln := 1) (a := 0) (b := 0) (z := 0) (by decide +kernel) rfl (ret_b (by decide +kernel) (Or.inr rfl)) ?_
        cases hx
        exact (kc _ rfl).2 _ _ rfl rfl
noncomputable def xb_crosses_b40 (s : Hp) (x4 : Int) (x5 : Int) (x6 : Int) : Option (Int ⊕ (Int ⊕ Int)) :=
  if w32 x6 < 0 then some (.inr (.inl x6)) else (ix 8 x6).bind fun i2 => if w32 (s 132 i2) < w32 x4 then xb_crosses_b40_j74 s x4 x5 x6 0 else if w32 (s 132 i2) < w32 x5 then xb_crosses_b40_j74 s x4 x5 x6 1 else xb_crosses_b40_j74 s x4 x5 x6 0
set_option maxRecDepth 100000 in
theorem xb_crosses_b40_ok {d : Nat} {P : Option Value → pm_H → Prop} {w : pm_H} {sh : Shp} {w0 : pm_H} {s : Hp} (hS : St sh) {x4 : Int} {x5 : Int} {x6 : Int} (h : Rw sh w0 s w) {o : (Int ⊕ (Int ⊕ Int))} (hx : xb_crosses_b40 s x4 x5 x6 = some o) (kn : ∀ (q : Int) w1, o = .inl q → w = w1 → wp d 78 40 [(0, .ref 130), (4, .int (Int32.ofInt x4)), (5, .int (Int32.ofInt x5)), (6, .int (Int32.ofInt q))] [] w1 P) (kc : ∀ (r : (Int ⊕ Int)), o = .inr r → ((∀ q1 w1, r = .inl q1 → w = w1 → wp d 78 126 [(0, .ref 130), (4, .int (Int32.ofInt x4)), (5, .int (Int32.ofInt x5)), (6, .int (Int32.ofInt q1))] [] w1 P) ∧ (∀ v1 w1, r = .inr v1 → w = w1 → P (some (.int (Int32.ofInt v1))) w1))) : wp d 78 40 [(0, .ref 130), (4, .int (Int32.ofInt x4)), (5, .int (Int32.ofInt x5)), (6, .int (Int32.ofInt x6))] [] w P := by
  unfold xb_crosses_b40 at hx
  refine wp_g 1 (pc1 := 42) (lv1 := [(0, .ref 130), (4, .int (Int32.ofInt x4)), (5, .int (Int32.ofInt x5)), (6, .int (Int32.ofInt x6))]) (st1 := [.int (Int32.ofInt x6)]) (w1 := w) rfl ?_
  refine wz_lt (oo := 84) (ln := 3) (a := 126) (b := 0) (zz := 0) (by decide +kernel) (fun h1 => ?_) (fun h1 => ?_)
  · have hx := ite_t h1 hx
    cases hx
    exact (kc _ rfl).1 _ _ rfl rfl
  · have hx := ite_f h1 hx
    refine wp_g 1 (pc1 := 46) (lv1 := [(0, .ref 130), (4, .int (Int32.ofInt x4)), (5, .int (Int32.ofInt x5)), (6, .int (Int32.ofInt x6))]) (st1 := [.ref 130]) (w1 := w) rfl ?_
    refine wx_gr (o := 2) (kf := 22) (ln := 3) (ci := 8) (b := 3) (zz := 0) (x := 130) (by decide +kernel) h (hS _ _ sx_130) rfl ?_
    show wp _ 78 49 [(0, .ref 130), (4, .int (Int32.ofInt x4)), (5, .int (Int32.ofInt x5)), (6, .int (Int32.ofInt x6))] [.ref 132] w _
    refine wp_g 1 (pc1 := 51) (lv1 := [(0, .ref 130), (4, .int (Int32.ofInt x4)), (5, .int (Int32.ofInt x5)), (6, .int (Int32.ofInt x6))]) (st1 := [.int (Int32.ofInt x6), .ref 132]) (w1 := w) rfl ?_
    obtain ⟨i2, e3, hx⟩ := bd hx
    refine wx_ra (x := 132) (n := 8) (ln := 1) (a := 0) (b := 0) (zz := 0) (by decide +kernel) h (hS _ _ sx_132) e3 ?_
    show wp _ 78 52 [(0, .ref 130), (4, .int (Int32.ofInt x4)), (5, .int (Int32.ofInt x5)), (6, .int (Int32.ofInt x6))] [.int (Int32.ofInt (s 132 i2))] w _
    refine wp_g 1 (pc1 := 54) (lv1 := [(0, .ref 130), (4, .int (Int32.ofInt x4)), (5, .int (Int32.ofInt x5)), (6, .int (Int32.ofInt x6))]) (st1 := [.int (Int32.ofInt x4), .int (Int32.ofInt (s 132 i2))]) (w1 := w) rfl ?_
    refine wx_lt (oo := 19) (ln := 3) (a := 73) (b := 0) (zz := 0) (by decide +kernel) (fun h4 => ?_) (fun h4 => ?_)
    · have hx := ite_t h4 hx
      refine wp_g 1 (pc1 := 74) (lv1 := [(0, .ref 130), (4, .int (Int32.ofInt x4)), (5, .int (Int32.ofInt x5)), (6, .int (Int32.ofInt x6))]) (st1 := [.int (Int32.ofInt 0)]) (w1 := w) rfl ?_
      exact xb_crosses_b40_j74_ok hS h hx kn kc
    · have hx := ite_f h4 hx
      refine wp_g 1 (pc1 := 58) (lv1 := [(0, .ref 130), (4, .int (Int32.ofInt x4)), (5, .int (Int32.ofInt x5)), (6, .int (Int32.ofInt x6))]) (st1 := [.ref 130]) (w1 := w) rfl ?_
      refine wx_gr (o := 2) (kf := 22) (ln := 3) (ci := 8) (b := 3) (zz := 0) (x := 130) (by decide +kernel) h (hS _ _ sx_130) rfl ?_
      show wp _ 78 61 [(0, .ref 130), (4, .int (Int32.ofInt x4)), (5, .int (Int32.ofInt x5)), (6, .int (Int32.ofInt x6))] [.ref 132] w _
      refine wp_g 1 (pc1 := 63) (lv1 := [(0, .ref 130), (4, .int (Int32.ofInt x4)), (5, .int (Int32.ofInt x5)), (6, .int (Int32.ofInt x6))]) (st1 := [.int (Int32.ofInt x6), .ref 132]) (w1 := w) rfl ?_
      refine wx_ra (x := 132) (n := 8) (ln := 1) (a := 0) (b := 0) (zz := 0) (by decide +kernel) h (hS _ _ sx_132) e3 ?_
      show wp _ 78 64 [(0, .ref 130), (4, .int (Int32.ofInt x4)), (5, .int (Int32.ofInt x5)), (6, .int (Int32.ofInt x6))] [.int (Int32.ofInt (s 132 i2))] w _
      refine wp_g 1 (pc1 := 66) (lv1 := [(0, .ref 130), (4, .int (Int32.ofInt x4)), (5, .int (Int32.ofInt x5)), (6, .int (Int32.ofInt x6))]) (st1 := [.int (Int32.ofInt x5), .int (Int32.ofInt (s 132 i2))]) (w1 := w) rfl ?_
      refine wx_ge (oo := 7) (ln := 3) (a := 73) (b := 0) (zz := 0) (by decide +kernel) (fun h5 => ?_) (fun h5 => ?_)
      · have hx := ite_f h5 hx
        refine wp_g 1 (pc1 := 74) (lv1 := [(0, .ref 130), (4, .int (Int32.ofInt x4)), (5, .int (Int32.ofInt x5)), (6, .int (Int32.ofInt x6))]) (st1 := [.int (Int32.ofInt 0)]) (w1 := w) rfl ?_
        exact xb_crosses_b40_j74_ok hS h hx kn kc
      · have hx := ite_t h5 hx
        refine wp_g 2 (pc1 := 74) (lv1 := [(0, .ref 130), (4, .int (Int32.ofInt x4)), (5, .int (Int32.ofInt x5)), (6, .int (Int32.ofInt x6))]) (st1 := [.int (Int32.ofInt 1)]) (w1 := w) rfl ?_
        exact xb_crosses_b40_j74_ok hS h hx kn kc
noncomputable def xb_crosses_j33 (s : Hp) (x1 : Int) (x4 : Int) (k0 : Int) : Option Int :=
  (lp (fun (q : Int) => xb_crosses_b40 s x4 k0 q) (x1 - 3)).bind fun q1 => q1.elim (fun q5 => some 0) (fun r => some r)
set_option maxRecDepth 100000 in
theorem xb_crosses_j33_ok {d : Nat} {P : Option Value → pm_H → Prop} {w : pm_H} {sh : Shp} {w0 : pm_H} {s : Hp} (hS : St sh) {x1 : Int} {x4 : Int} {k0 : Int} (h : Rw sh w0 s w) {o : Int} (hx : xb_crosses_j33 s x1 x4 k0 = some o) (kr : P (some (.int (Int32.ofInt o))) w) : wp d 78 33 [(0, .ref 130), (1, .int (Int32.ofInt x1)), (4, .int (Int32.ofInt x4))] [.int (Int32.ofInt k0)] w P := by
  unfold xb_crosses_j33 at hx
  refine wp_g 5 (pc1 := 40) (lv1 := [(6, .int (Int32.ofInt (x1 - 3))), (5, .int (Int32.ofInt k0)), (0, .ref 130), (1, .int (Int32.ofInt x1)), (4, .int (Int32.ofInt x4))]) (st1 := []) (w1 := w) (by simp only [Int32.ofInt_add, Int32.ofInt_sub, Int32.ofInt_mul, Int32.ofInt_neg, p_and, p_or, p_xor, p_shl, p_shr, p_usr, p_w8, p_c16, p_lI, q_and, q_or, q_shl, q_shr, q_w32, Int64.ofInt_add, Int64.ofInt_sub, Int64.ofInt_mul, p_mx, p_mn, q_mx, q_mn]; rfl) ?_
  refine wp_lv (lv1 := [(0, .ref 130), (4, .int (Int32.ofInt x4)), (5, .int (Int32.ofInt k0)), (6, .int (Int32.ofInt (x1 - 3)))]) (lsub_p [2, 4, 1, 0] rfl rfl rfl) ?_
  obtain ⟨q1, e2, hx⟩ := bd hx
  refine wp_lp (σ := Int) (ρ := (Int ⊕ Int)) (B := fun q => xb_crosses_b40 s x4 k0 q) (R := fun q w' => w = w') (C := fun r => (∀ q1 w1, r = .inl q1 → w = w1 → wp d 78 126 [(0, .ref 130), (4, .int (Int32.ofInt x4)), (5, .int (Int32.ofInt k0)), (6, .int (Int32.ofInt q1))] [] w1 P) ∧ (∀ v1 w1, r = .inr v1 → w = w1 → P (some (.int (Int32.ofInt v1))) w1)) (lv := fun q => [(0, .ref 130), (4, .int (Int32.ofInt x4)), (5, .int (Int32.ofInt k0)), (6, .int (Int32.ofInt q))]) (hd := 40) (fun q w' o hR hb kn kc => by subst hR; exact xb_crosses_b40_ok hS h hb kn kc) _ _ _ e2 rfl ?_
  refine ⟨?_, fun v6 w1 hs h1 => by subst hs; cases (se_r hx); subst h1; exact kr⟩
  intro q5 w3 hs h4
  subst hs
  replace hx := se_l hx
  subst h4
  show wp _ 78 126 [(0, .ref 130), (4, .int (Int32.ofInt x4)), (5, .int (Int32.ofInt k0)), (6, .int (Int32.ofInt q5))] [] w _
  refine wp_g 1 (pc1 := 127) (lv1 := [(0, .ref 130), (4, .int (Int32.ofInt x4)), (5, .int (Int32.ofInt k0)), (6, .int (Int32.ofInt q5))]) (st1 := [.int (Int32.ofInt 0)]) (w1 := w) rfl ?_
  refine wp_rt (i := .ireturn) (r := some (.int (Int32.ofInt 0))) (ln := 1) (a := 0) (b := 0) (z := 0) (by decide +kernel) rfl (ret_b (by decide +kernel) (Or.inl rfl)) ?_
  cases hx
  exact kr
/-- StackBook.crosses (II)Z -/
noncomputable def xb_crosses (s : Hp) (p1 : Int) (p2 : Int) : Option Int :=
  (ix 8 (p1 - 1)).bind fun i1 => if w32 (s 132 i1) < w32 p2 then if w32 (s 132 i1) < w32 p2 then xb_crosses_j33 s p1 ((s 132 i1) + 1) p2 else xb_crosses_j33 s p1 ((s 132 i1) + 1) (s 132 i1) else if w32 (s 132 i1) < w32 p2 then xb_crosses_j33 s p1 p2 p2 else xb_crosses_j33 s p1 p2 (s 132 i1)
set_option maxRecDepth 100000 in
theorem xb_crosses_ok {d : Nat} {P : Option Value → pm_H → Prop} {w : pm_H} {sh : Shp} {w0 : pm_H} {s : Hp} (hS : St sh) {p1 : Int} {p2 : Int} (h : Rw sh w0 s w) {o : Int} (hx : xb_crosses s p1 p2 = some o) (kr : P (some (.int (Int32.ofInt o))) w) : wp d 78 0 (lv_args 0 [.ref 130, .int (Int32.ofInt p1), .int (Int32.ofInt p2)]) [] w P := by
  show wp _ 78 0 [(0, .ref 130), (1, .int (Int32.ofInt p1)), (2, .int (Int32.ofInt p2))] [] w _
  unfold xb_crosses at hx
  refine wp_g 1 (pc1 := 1) (lv1 := [(0, .ref 130), (1, .int (Int32.ofInt p1)), (2, .int (Int32.ofInt p2))]) (st1 := [.ref 130]) (w1 := w) rfl ?_
  refine wx_gr (o := 2) (kf := 22) (ln := 3) (ci := 8) (b := 3) (zz := 0) (x := 130) (by decide +kernel) h (hS _ _ sx_130) rfl ?_
  show wp _ 78 4 [(0, .ref 130), (1, .int (Int32.ofInt p1)), (2, .int (Int32.ofInt p2))] [.ref 132] w _
  refine wp_g 3 (pc1 := 7) (lv1 := [(0, .ref 130), (1, .int (Int32.ofInt p1)), (2, .int (Int32.ofInt p2))]) (st1 := [.int (Int32.ofInt (p1 - 1)), .ref 132]) (w1 := w) (by simp only [Int32.ofInt_add, Int32.ofInt_sub, Int32.ofInt_mul, Int32.ofInt_neg, p_and, p_or, p_xor, p_shl, p_shr, p_usr, p_w8, p_c16, p_lI, q_and, q_or, q_shl, q_shr, q_w32, Int64.ofInt_add, Int64.ofInt_sub, Int64.ofInt_mul, p_mx, p_mn, q_mx, q_mn]; rfl) ?_
  obtain ⟨i1, e2, hx⟩ := bd hx
  refine wx_ra (x := 132) (n := 8) (ln := 1) (a := 0) (b := 0) (zz := 0) (by decide +kernel) h (hS _ _ sx_132) e2 ?_
  show wp _ 78 8 [(0, .ref 130), (1, .int (Int32.ofInt p1)), (2, .int (Int32.ofInt p2))] [.int (Int32.ofInt (s 132 i1))] w _
  refine wp_g 3 (pc1 := 11) (lv1 := [(3, .int (Int32.ofInt (s 132 i1))), (0, .ref 130), (1, .int (Int32.ofInt p1)), (2, .int (Int32.ofInt p2))]) (st1 := [.int (Int32.ofInt (s 132 i1)), .int (Int32.ofInt p2)]) (w1 := w) rfl ?_
  refine wx_le (oo := 9) (ln := 3) (a := 20) (b := 0) (zz := 0) (by decide +kernel) (fun h3 => ?_) (fun h3 => ?_)
  · have hx := ite_f h3 hx
    refine wp_g 4 (pc1 := 25) (lv1 := [(4, .int (Int32.ofInt p2)), (3, .int (Int32.ofInt (s 132 i1))), (0, .ref 130), (1, .int (Int32.ofInt p1)), (2, .int (Int32.ofInt p2))]) (st1 := [.int (Int32.ofInt (s 132 i1)), .int (Int32.ofInt p2)]) (w1 := w) rfl ?_
    refine wx_le (oo := 7) (ln := 3) (a := 32) (b := 0) (zz := 0) (by decide +kernel) (fun h4 => ?_) (fun h4 => ?_)
    · have hx := ite_f h4 hx
      refine wp_g 1 (pc1 := 33) (lv1 := [(4, .int (Int32.ofInt p2)), (3, .int (Int32.ofInt (s 132 i1))), (0, .ref 130), (1, .int (Int32.ofInt p1)), (2, .int (Int32.ofInt p2))]) (st1 := [.int (Int32.ofInt (s 132 i1))]) (w1 := w) rfl ?_
      refine wp_lv (lv1 := [(0, .ref 130), (1, .int (Int32.ofInt p1)), (4, .int (Int32.ofInt p2))]) (lsub_p [2, 3, 0] rfl rfl rfl) ?_
      exact xb_crosses_j33_ok hS h hx kr
    · have hx := ite_t h4 hx
      refine wp_g 2 (pc1 := 33) (lv1 := [(4, .int (Int32.ofInt p2)), (3, .int (Int32.ofInt (s 132 i1))), (0, .ref 130), (1, .int (Int32.ofInt p1)), (2, .int (Int32.ofInt p2))]) (st1 := [.int (Int32.ofInt p2)]) (w1 := w) rfl ?_
      refine wp_lv (lv1 := [(0, .ref 130), (1, .int (Int32.ofInt p1)), (4, .int (Int32.ofInt p2))]) (lsub_p [2, 3, 0] rfl rfl rfl) ?_
      exact xb_crosses_j33_ok hS h hx kr
  · have hx := ite_t h3 hx
    refine wp_g 7 (pc1 := 25) (lv1 := [(4, .int (Int32.ofInt ((s 132 i1) + 1))), (3, .int (Int32.ofInt (s 132 i1))), (0, .ref 130), (1, .int (Int32.ofInt p1)), (2, .int (Int32.ofInt p2))]) (st1 := [.int (Int32.ofInt (s 132 i1)), .int (Int32.ofInt p2)]) (w1 := w) (by simp only [Int32.ofInt_add, Int32.ofInt_sub, Int32.ofInt_mul, Int32.ofInt_neg, p_and, p_or, p_xor, p_shl, p_shr, p_usr, p_w8, p_c16, p_lI, q_and, q_or, q_shl, q_shr, q_w32, Int64.ofInt_add, Int64.ofInt_sub, Int64.ofInt_mul, p_mx, p_mn, q_mx, q_mn]; rfl) ?_
    refine wx_le (oo := 7) (ln := 3) (a := 32) (b := 0) (zz := 0) (by decide +kernel) (fun h5 => ?_) (fun h5 => ?_)
    · have hx := ite_f h5 hx
      refine wp_g 1 (pc1 := 33) (lv1 := [(4, .int (Int32.ofInt ((s 132 i1) + 1))), (3, .int (Int32.ofInt (s 132 i1))), (0, .ref 130), (1, .int (Int32.ofInt p1)), (2, .int (Int32.ofInt p2))]) (st1 := [.int (Int32.ofInt (s 132 i1))]) (w1 := w) rfl ?_
      refine wp_lv (lv1 := [(0, .ref 130), (1, .int (Int32.ofInt p1)), (4, .int (Int32.ofInt ((s 132 i1) + 1)))]) (lsub_p [2, 3, 0] rfl rfl rfl) ?_
      exact xb_crosses_j33_ok hS h hx kr
    · have hx := ite_t h5 hx
      refine wp_g 2 (pc1 := 33) (lv1 := [(4, .int (Int32.ofInt ((s 132 i1) + 1))), (3, .int (Int32.ofInt (s 132 i1))), (0, .ref 130), (1, .int (Int32.ofInt p1)), (2, .int (Int32.ofInt p2))]) (st1 := [.int (Int32.ofInt p2)]) (w1 := w) rfl ?_
      refine wp_lv (lv1 := [(0, .ref 130), (1, .int (Int32.ofInt p1)), (4, .int (Int32.ofInt ((s 132 i1) + 1)))]) (lsub_p [2, 3, 0] rfl rfl rfl) ?_
      exact xb_crosses_j33_ok hS h hx kr
noncomputable def xb_makeRoom_b2 (s : Hp) (x1 : Int) (x2 : Int) (x3 : Int) : Option ((Int × Hp) ⊕ (Int × Hp)) :=
  if w32 x3 < w32 x1 then (ix 8 x3).bind fun i2 => if w32 (s 132 i2) < w32 x2 then some (.inl (x3 + 1, s)) else (some (uh s 132 i2 ((s 132 i2) + 1))).bind fun s5 => some (.inl (x3 + 1, s5)) else some (.inr (x3, s))
set_option maxRecDepth 100000 in
theorem xb_makeRoom_b2_ok {d : Nat} {P : Option Value → pm_H → Prop} {w : pm_H} {sh : Shp} {w0 : pm_H} {s : Hp} (hS : St sh) {x1 : Int} {x2 : Int} {x3 : Int} (h : Rw sh w0 s w) {o : ((Int × Hp) ⊕ (Int × Hp))} (hx : xb_makeRoom_b2 s x1 x2 x3 = some o) (kn : ∀ (q : Int × Hp) w1, o = .inl q → Rw sh w0 q.2 w1 → wp d 79 2 [(0, .ref 130), (1, .int (Int32.ofInt x1)), (2, .int (Int32.ofInt x2)), (3, .int (Int32.ofInt q.1))] [] w1 P) (kc : ∀ (r : (Int × Hp)), o = .inr r → (∀ w1, Rw sh w0 r.2 w1 → wp d 79 33 [(0, .ref 130), (1, .int (Int32.ofInt x1)), (2, .int (Int32.ofInt x2)), (3, .int (Int32.ofInt r.1))] [] w1 P)) : wp d 79 2 [(0, .ref 130), (1, .int (Int32.ofInt x1)), (2, .int (Int32.ofInt x2)), (3, .int (Int32.ofInt x3))] [] w P := by
  unfold xb_makeRoom_b2 at hx
  refine wp_g 2 (pc1 := 4) (lv1 := [(0, .ref 130), (1, .int (Int32.ofInt x1)), (2, .int (Int32.ofInt x2)), (3, .int (Int32.ofInt x3))]) (st1 := [.int (Int32.ofInt x1), .int (Int32.ofInt x3)]) (w1 := w) rfl ?_
  refine wx_ge (oo := 29) (ln := 3) (a := 33) (b := 0) (zz := 0) (by decide +kernel) (fun h1 => ?_) (fun h1 => ?_)
  · have hx := ite_f h1 hx
    cases hx
    exact kc _ rfl _ h
  · have hx := ite_t h1 hx
    refine wp_g 1 (pc1 := 8) (lv1 := [(0, .ref 130), (1, .int (Int32.ofInt x1)), (2, .int (Int32.ofInt x2)), (3, .int (Int32.ofInt x3))]) (st1 := [.ref 130]) (w1 := w) rfl ?_
    refine wx_gr (o := 2) (kf := 22) (ln := 3) (ci := 8) (b := 3) (zz := 0) (x := 130) (by decide +kernel) h (hS _ _ sx_130) rfl ?_
    show wp _ 79 11 [(0, .ref 130), (1, .int (Int32.ofInt x1)), (2, .int (Int32.ofInt x2)), (3, .int (Int32.ofInt x3))] [.ref 132] w _
    refine wp_g 1 (pc1 := 12) (lv1 := [(0, .ref 130), (1, .int (Int32.ofInt x1)), (2, .int (Int32.ofInt x2)), (3, .int (Int32.ofInt x3))]) (st1 := [.int (Int32.ofInt x3), .ref 132]) (w1 := w) rfl ?_
    obtain ⟨i2, e3, hx⟩ := bd hx
    refine wx_ra (x := 132) (n := 8) (ln := 1) (a := 0) (b := 0) (zz := 0) (by decide +kernel) h (hS _ _ sx_132) e3 ?_
    show wp _ 79 13 [(0, .ref 130), (1, .int (Int32.ofInt x1)), (2, .int (Int32.ofInt x2)), (3, .int (Int32.ofInt x3))] [.int (Int32.ofInt (s 132 i2))] w _
    refine wp_g 1 (pc1 := 14) (lv1 := [(0, .ref 130), (1, .int (Int32.ofInt x1)), (2, .int (Int32.ofInt x2)), (3, .int (Int32.ofInt x3))]) (st1 := [.int (Int32.ofInt x2), .int (Int32.ofInt (s 132 i2))]) (w1 := w) rfl ?_
    refine wx_lt (oo := 13) (ln := 3) (a := 27) (b := 0) (zz := 0) (by decide +kernel) (fun h4 => ?_) (fun h4 => ?_)
    · have hx := ite_t h4 hx
      refine wp_g 2 (pc1 := 2) (lv1 := [(3, .int (Int32.ofInt (x3 + 1))), (0, .ref 130), (1, .int (Int32.ofInt x1)), (2, .int (Int32.ofInt x2))]) (st1 := []) (w1 := w) (by simp only [Int32.ofInt_add, Int32.ofInt_sub, Int32.ofInt_mul, Int32.ofInt_neg, p_and, p_or, p_xor, p_shl, p_shr, p_usr, p_w8, p_c16, p_lI, q_and, q_or, q_shl, q_shr, q_w32, Int64.ofInt_add, Int64.ofInt_sub, Int64.ofInt_mul, p_mx, p_mn, q_mx, q_mn]; rfl) ?_
      refine wp_lv (lv1 := [(0, .ref 130), (1, .int (Int32.ofInt x1)), (2, .int (Int32.ofInt x2)), (3, .int (Int32.ofInt (x3 + 1)))]) (lsub_p [1, 2, 3, 0] rfl rfl rfl) ?_
      cases hx
      exact kn _ _ rfl h
    · have hx := ite_f h4 hx
      refine wp_g 1 (pc1 := 18) (lv1 := [(0, .ref 130), (1, .int (Int32.ofInt x1)), (2, .int (Int32.ofInt x2)), (3, .int (Int32.ofInt x3))]) (st1 := [.ref 130]) (w1 := w) rfl ?_
      refine wx_gr (o := 2) (kf := 22) (ln := 3) (ci := 8) (b := 3) (zz := 0) (x := 130) (by decide +kernel) h (hS _ _ sx_130) rfl ?_
      show wp _ 79 21 [(0, .ref 130), (1, .int (Int32.ofInt x1)), (2, .int (Int32.ofInt x2)), (3, .int (Int32.ofInt x3))] [.ref 132] w _
      refine wp_g 2 (pc1 := 23) (lv1 := [(0, .ref 130), (1, .int (Int32.ofInt x1)), (2, .int (Int32.ofInt x2)), (3, .int (Int32.ofInt x3))]) (st1 := [.int (Int32.ofInt x3), .ref 132, .int (Int32.ofInt x3), .ref 132]) (w1 := w) rfl ?_
      refine wx_ra (x := 132) (n := 8) (ln := 1) (a := 0) (b := 0) (zz := 0) (by decide +kernel) h (hS _ _ sx_132) e3 ?_
      show wp _ 79 24 [(0, .ref 130), (1, .int (Int32.ofInt x1)), (2, .int (Int32.ofInt x2)), (3, .int (Int32.ofInt x3))] [.int (Int32.ofInt (s 132 i2)), .int (Int32.ofInt x3), .ref 132] w _
      refine wp_g 2 (pc1 := 26) (lv1 := [(0, .ref 130), (1, .int (Int32.ofInt x1)), (2, .int (Int32.ofInt x2)), (3, .int (Int32.ofInt x3))]) (st1 := [.int (Int32.ofInt ((s 132 i2) + 1)), .int (Int32.ofInt x3), .ref 132]) (w1 := w) (by simp only [Int32.ofInt_add, Int32.ofInt_sub, Int32.ofInt_mul, Int32.ofInt_neg, p_and, p_or, p_xor, p_shl, p_shr, p_usr, p_w8, p_c16, p_lI, q_and, q_or, q_shl, q_shr, q_w32, Int64.ofInt_add, Int64.ofInt_sub, Int64.ofInt_mul, p_mx, p_mn, q_mx, q_mn]; rfl) ?_
      obtain ⟨s5, e6, hx⟩ := bd hx
      refine wx_wa (x := 132) (n := 8) (ln := 1) (a := 0) (b := 0) (zz := 0) (by decide +kernel) h (hS _ _ sx_132) e3 e6 (fun w7 h8 => ?_)
      refine wp_g 2 (pc1 := 2) (lv1 := [(3, .int (Int32.ofInt (x3 + 1))), (0, .ref 130), (1, .int (Int32.ofInt x1)), (2, .int (Int32.ofInt x2))]) (st1 := []) (w1 := w7) (by simp only [Int32.ofInt_add, Int32.ofInt_sub, Int32.ofInt_mul, Int32.ofInt_neg, p_and, p_or, p_xor, p_shl, p_shr, p_usr, p_w8, p_c16, p_lI, q_and, q_or, q_shl, q_shr, q_w32, Int64.ofInt_add, Int64.ofInt_sub, Int64.ofInt_mul, p_mx, p_mn, q_mx, q_mn]; rfl) ?_
      refine wp_lv (lv1 := [(0, .ref 130), (1, .int (Int32.ofInt x1)), (2, .int (Int32.ofInt x2)), (3, .int (Int32.ofInt (x3 + 1)))]) (lsub_p [1, 2, 3, 0] rfl rfl rfl) ?_
      cases hx
      exact kn _ _ rfl h8
/-- StackBook.makeRoom (II)V -/
noncomputable def xb_makeRoom (s : Hp) (p1 : Int) (p2 : Int) : Option Hp :=
  (lp (fun (q : Int × Hp) => xb_makeRoom_b2 q.2 p1 p2 q.1) (0, s)).bind fun q1 => some q1.2
set_option maxRecDepth 100000 in
theorem xb_makeRoom_ok {d : Nat} {P : Option Value → pm_H → Prop} {w : pm_H} {sh : Shp} {w0 : pm_H} {s : Hp} (hS : St sh) {p1 : Int} {p2 : Int} (h : Rw sh w0 s w) {o : Hp} (hx : xb_makeRoom s p1 p2 = some o) (kr : ∀ w1, Rw sh w0 o w1 → P none w1) : wp d 79 0 (lv_args 0 [.ref 130, .int (Int32.ofInt p1), .int (Int32.ofInt p2)]) [] w P := by
  show wp _ 79 0 [(0, .ref 130), (1, .int (Int32.ofInt p1)), (2, .int (Int32.ofInt p2))] [] w _
  unfold xb_makeRoom at hx
  refine wp_g 2 (pc1 := 2) (lv1 := [(3, .int (Int32.ofInt 0)), (0, .ref 130), (1, .int (Int32.ofInt p1)), (2, .int (Int32.ofInt p2))]) (st1 := []) (w1 := w) rfl ?_
  refine wp_lv (lv1 := [(0, .ref 130), (1, .int (Int32.ofInt p1)), (2, .int (Int32.ofInt p2)), (3, .int (Int32.ofInt 0))]) (lsub_p [1, 2, 3, 0] rfl rfl rfl) ?_
  obtain ⟨q1, e2, hx⟩ := bd hx
  refine wp_lp (σ := Int × Hp) (ρ := (Int × Hp)) (B := fun q => xb_makeRoom_b2 q.2 p1 p2 q.1) (R := fun q w' => Rw sh w0 q.2 w') (C := fun r => ∀ w1, Rw sh w0 r.2 w1 → wp d 79 33 [(0, .ref 130), (1, .int (Int32.ofInt p1)), (2, .int (Int32.ofInt p2)), (3, .int (Int32.ofInt r.1))] [] w1 P) (lv := fun q => [(0, .ref 130), (1, .int (Int32.ofInt p1)), (2, .int (Int32.ofInt p2)), (3, .int (Int32.ofInt q.1))]) (hd := 2) (fun q w' o hR hb kn kc => xb_makeRoom_b2_ok hS hR hb kn kc) _ _ _ e2 h ?_
  intro w3 h4
  show wp _ 79 33 [(0, .ref 130), (1, .int (Int32.ofInt p1)), (2, .int (Int32.ofInt p2)), (3, .int (Int32.ofInt q1.1))] [] w3 _
  refine wp_rt (i := .return_) (r := none) (ln := 1) (a := 0) (b := 0) (z := 0) (by decide +kernel) rfl (ret_v (by decide +kernel)) ?_
  cases hx
  exact kr _ h4
noncomputable def xb_closeRoom_b2 (s : Hp) (x1 : Int) (x2 : Int) (x3 : Int) : Option ((Int × Hp) ⊕ (Int × Hp)) :=
  if w32 x3 < w32 x1 then (ix 8 x3).bind fun i2 => if w32 x2 < w32 (s 132 i2) then (some (uh s 132 i2 ((s 132 i2) - 1))).bind fun s5 => some (.inl (x3 + 1, s5)) else some (.inl (x3 + 1, s)) else some (.inr (x3, s))
set_option maxRecDepth 100000 in
theorem xb_closeRoom_b2_ok {d : Nat} {P : Option Value → pm_H → Prop} {w : pm_H} {sh : Shp} {w0 : pm_H} {s : Hp} (hS : St sh) {x1 : Int} {x2 : Int} {x3 : Int} (h : Rw sh w0 s w) {o : ((Int × Hp) ⊕ (Int × Hp))} (hx : xb_closeRoom_b2 s x1 x2 x3 = some o) (kn : ∀ (q : Int × Hp) w1, o = .inl q → Rw sh w0 q.2 w1 → wp d 80 2 [(0, .ref 130), (1, .int (Int32.ofInt x1)), (2, .int (Int32.ofInt x2)), (3, .int (Int32.ofInt q.1))] [] w1 P) (kc : ∀ (r : (Int × Hp)), o = .inr r → (∀ w1, Rw sh w0 r.2 w1 → wp d 80 33 [(0, .ref 130), (1, .int (Int32.ofInt x1)), (2, .int (Int32.ofInt x2)), (3, .int (Int32.ofInt r.1))] [] w1 P)) : wp d 80 2 [(0, .ref 130), (1, .int (Int32.ofInt x1)), (2, .int (Int32.ofInt x2)), (3, .int (Int32.ofInt x3))] [] w P := by
  unfold xb_closeRoom_b2 at hx
  refine wp_g 2 (pc1 := 4) (lv1 := [(0, .ref 130), (1, .int (Int32.ofInt x1)), (2, .int (Int32.ofInt x2)), (3, .int (Int32.ofInt x3))]) (st1 := [.int (Int32.ofInt x1), .int (Int32.ofInt x3)]) (w1 := w) rfl ?_
  refine wx_ge (oo := 29) (ln := 3) (a := 33) (b := 0) (zz := 0) (by decide +kernel) (fun h1 => ?_) (fun h1 => ?_)
  · have hx := ite_f h1 hx
    cases hx
    exact kc _ rfl _ h
  · have hx := ite_t h1 hx
    refine wp_g 1 (pc1 := 8) (lv1 := [(0, .ref 130), (1, .int (Int32.ofInt x1)), (2, .int (Int32.ofInt x2)), (3, .int (Int32.ofInt x3))]) (st1 := [.ref 130]) (w1 := w) rfl ?_
    refine wx_gr (o := 2) (kf := 22) (ln := 3) (ci := 8) (b := 3) (zz := 0) (x := 130) (by decide +kernel) h (hS _ _ sx_130) rfl ?_
    show wp _ 80 11 [(0, .ref 130), (1, .int (Int32.ofInt x1)), (2, .int (Int32.ofInt x2)), (3, .int (Int32.ofInt x3))] [.ref 132] w _
    refine wp_g 1 (pc1 := 12) (lv1 := [(0, .ref 130), (1, .int (Int32.ofInt x1)), (2, .int (Int32.ofInt x2)), (3, .int (Int32.ofInt x3))]) (st1 := [.int (Int32.ofInt x3), .ref 132]) (w1 := w) rfl ?_
    obtain ⟨i2, e3, hx⟩ := bd hx
    refine wx_ra (x := 132) (n := 8) (ln := 1) (a := 0) (b := 0) (zz := 0) (by decide +kernel) h (hS _ _ sx_132) e3 ?_
    show wp _ 80 13 [(0, .ref 130), (1, .int (Int32.ofInt x1)), (2, .int (Int32.ofInt x2)), (3, .int (Int32.ofInt x3))] [.int (Int32.ofInt (s 132 i2))] w _
    refine wp_g 1 (pc1 := 14) (lv1 := [(0, .ref 130), (1, .int (Int32.ofInt x1)), (2, .int (Int32.ofInt x2)), (3, .int (Int32.ofInt x3))]) (st1 := [.int (Int32.ofInt x2), .int (Int32.ofInt (s 132 i2))]) (w1 := w) rfl ?_
    refine wx_le (oo := 13) (ln := 3) (a := 27) (b := 0) (zz := 0) (by decide +kernel) (fun h4 => ?_) (fun h4 => ?_)
    · have hx := ite_f h4 hx
      refine wp_g 2 (pc1 := 2) (lv1 := [(3, .int (Int32.ofInt (x3 + 1))), (0, .ref 130), (1, .int (Int32.ofInt x1)), (2, .int (Int32.ofInt x2))]) (st1 := []) (w1 := w) (by simp only [Int32.ofInt_add, Int32.ofInt_sub, Int32.ofInt_mul, Int32.ofInt_neg, p_and, p_or, p_xor, p_shl, p_shr, p_usr, p_w8, p_c16, p_lI, q_and, q_or, q_shl, q_shr, q_w32, Int64.ofInt_add, Int64.ofInt_sub, Int64.ofInt_mul, p_mx, p_mn, q_mx, q_mn]; rfl) ?_
      refine wp_lv (lv1 := [(0, .ref 130), (1, .int (Int32.ofInt x1)), (2, .int (Int32.ofInt x2)), (3, .int (Int32.ofInt (x3 + 1)))]) (lsub_p [1, 2, 3, 0] rfl rfl rfl) ?_
      cases hx
      exact kn _ _ rfl h
    · have hx := ite_t h4 hx
      refine wp_g 1 (pc1 := 18) (lv1 := [(0, .ref 130), (1, .int (Int32.ofInt x1)), (2, .int (Int32.ofInt x2)), (3, .int (Int32.ofInt x3))]) (st1 := [.ref 130]) (w1 := w) rfl ?_
      refine wx_gr (o := 2) (kf := 22) (ln := 3) (ci := 8) (b := 3) (zz := 0) (x := 130) (by decide +kernel) h (hS _ _ sx_130) rfl ?_
      show wp _ 80 21 [(0, .ref 130), (1, .int (Int32.ofInt x1)), (2, .int (Int32.ofInt x2)), (3, .int (Int32.ofInt x3))] [.ref 132] w _
      refine wp_g 2 (pc1 := 23) (lv1 := [(0, .ref 130), (1, .int (Int32.ofInt x1)), (2, .int (Int32.ofInt x2)), (3, .int (Int32.ofInt x3))]) (st1 := [.int (Int32.ofInt x3), .ref 132, .int (Int32.ofInt x3), .ref 132]) (w1 := w) rfl ?_
      refine wx_ra (x := 132) (n := 8) (ln := 1) (a := 0) (b := 0) (zz := 0) (by decide +kernel) h (hS _ _ sx_132) e3 ?_
      show wp _ 80 24 [(0, .ref 130), (1, .int (Int32.ofInt x1)), (2, .int (Int32.ofInt x2)), (3, .int (Int32.ofInt x3))] [.int (Int32.ofInt (s 132 i2)), .int (Int32.ofInt x3), .ref 132] w _
      refine wp_g 2 (pc1 := 26) (lv1 := [(0, .ref 130), (1, .int (Int32.ofInt x1)), (2, .int (Int32.ofInt x2)), (3, .int (Int32.ofInt x3))]) (st1 := [.int (Int32.ofInt ((s 132 i2) - 1)), .int (Int32.ofInt x3), .ref 132]) (w1 := w) (by simp only [Int32.ofInt_add, Int32.ofInt_sub, Int32.ofInt_mul, Int32.ofInt_neg, p_and, p_or, p_xor, p_shl, p_shr, p_usr, p_w8, p_c16, p_lI, q_and, q_or, q_shl, q_shr, q_w32, Int64.ofInt_add, Int64.ofInt_sub, Int64.ofInt_mul, p_mx, p_mn, q_mx, q_mn]; rfl) ?_
      obtain ⟨s5, e6, hx⟩ := bd hx
      refine wx_wa (x := 132) (n := 8) (ln := 1) (a := 0) (b := 0) (zz := 0) (by decide +kernel) h (hS _ _ sx_132) e3 e6 (fun w7 h8 => ?_)
      refine wp_g 2 (pc1 := 2) (lv1 := [(3, .int (Int32.ofInt (x3 + 1))), (0, .ref 130), (1, .int (Int32.ofInt x1)), (2, .int (Int32.ofInt x2))]) (st1 := []) (w1 := w7) (by simp only [Int32.ofInt_add, Int32.ofInt_sub, Int32.ofInt_mul, Int32.ofInt_neg, p_and, p_or, p_xor, p_shl, p_shr, p_usr, p_w8, p_c16, p_lI, q_and, q_or, q_shl, q_shr, q_w32, Int64.ofInt_add, Int64.ofInt_sub, Int64.ofInt_mul, p_mx, p_mn, q_mx, q_mn]; rfl) ?_
      refine wp_lv (lv1 := [(0, .ref 130), (1, .int (Int32.ofInt x1)), (2, .int (Int32.ofInt x2)), (3, .int (Int32.ofInt (x3 + 1)))]) (lsub_p [1, 2, 3, 0] rfl rfl rfl) ?_
      cases hx
      exact kn _ _ rfl h8
/-- StackBook.closeRoom (II)V -/
noncomputable def xb_closeRoom (s : Hp) (p1 : Int) (p2 : Int) : Option Hp :=
  (lp (fun (q : Int × Hp) => xb_closeRoom_b2 q.2 p1 p2 q.1) (0, s)).bind fun q1 => some q1.2
set_option maxRecDepth 100000 in
theorem xb_closeRoom_ok {d : Nat} {P : Option Value → pm_H → Prop} {w : pm_H} {sh : Shp} {w0 : pm_H} {s : Hp} (hS : St sh) {p1 : Int} {p2 : Int} (h : Rw sh w0 s w) {o : Hp} (hx : xb_closeRoom s p1 p2 = some o) (kr : ∀ w1, Rw sh w0 o w1 → P none w1) : wp d 80 0 (lv_args 0 [.ref 130, .int (Int32.ofInt p1), .int (Int32.ofInt p2)]) [] w P := by
  show wp _ 80 0 [(0, .ref 130), (1, .int (Int32.ofInt p1)), (2, .int (Int32.ofInt p2))] [] w _
  unfold xb_closeRoom at hx
  refine wp_g 2 (pc1 := 2) (lv1 := [(3, .int (Int32.ofInt 0)), (0, .ref 130), (1, .int (Int32.ofInt p1)), (2, .int (Int32.ofInt p2))]) (st1 := []) (w1 := w) rfl ?_
  refine wp_lv (lv1 := [(0, .ref 130), (1, .int (Int32.ofInt p1)), (2, .int (Int32.ofInt p2)), (3, .int (Int32.ofInt 0))]) (lsub_p [1, 2, 3, 0] rfl rfl rfl) ?_
  obtain ⟨q1, e2, hx⟩ := bd hx
  refine wp_lp (σ := Int × Hp) (ρ := (Int × Hp)) (B := fun q => xb_closeRoom_b2 q.2 p1 p2 q.1) (R := fun q w' => Rw sh w0 q.2 w') (C := fun r => ∀ w1, Rw sh w0 r.2 w1 → wp d 80 33 [(0, .ref 130), (1, .int (Int32.ofInt p1)), (2, .int (Int32.ofInt p2)), (3, .int (Int32.ofInt r.1))] [] w1 P) (lv := fun q => [(0, .ref 130), (1, .int (Int32.ofInt p1)), (2, .int (Int32.ofInt p2)), (3, .int (Int32.ofInt q.1))]) (hd := 2) (fun q w' o hR hb kn kc => xb_closeRoom_b2_ok hS hR hb kn kc) _ _ _ e2 h ?_
  intro w3 h4
  show wp _ 80 33 [(0, .ref 130), (1, .int (Int32.ofInt p1)), (2, .int (Int32.ofInt p2)), (3, .int (Int32.ofInt q1.1))] [] w3 _
  refine wp_rt (i := .return_) (r := none) (ln := 1) (a := 0) (b := 0) (z := 0) (by decide +kernel) rfl (ret_v (by decide +kernel)) ?_
  cases hx
  exact kr _ h4
noncomputable def xb_addFrom_b22_j91 (F77 : Hp → Int → Int → Option Hp) (s : Hp) (x1 : Int) (x2 : Int) (x3 : Int) (k0 : Int) : Option ((Int × Hp) ⊕ (Int × Hp)) :=
  (xb_makeRoom s x1 x3).bind fun o1 => (ix 8 x1).bind fun i5 => (some (uh o1 132 i5 x3)).bind fun s7 => (F77 s7 (x1 + 1) (bOr x2 k0)).bind fun o11 => (xb_closeRoom o11 x1 x3).bind fun o15 => some (.inl (x3 + 1, o15))
set_option maxRecDepth 100000 in
theorem xb_addFrom_b22_j91_ok {d : Nat} {P : Option Value → pm_H → Prop} {w : pm_H} {sh : Shp} {w0 : pm_H} {s : Hp} (hS : St sh) {F77 : Hp → Int → Int → Option Hp} (hF77 : ∀ (w : pm_H) (s : Hp) (p1 : Int) (p2 : Int) (o : Hp) (P : Option Value → pm_H → Prop), Rw sh w0 s w → F77 s p1 p2 = some o → (∀ w1, Rw sh w0 o w1 → P none w1) → wp (d + 2) 77 0 (lv_args 0 [.ref 130, .int (Int32.ofInt p1), .int (Int32.ofInt p2)]) [] w P) {x1 : Int} {x2 : Int} {x3 : Int} {k0 : Int} (h : Rw sh w0 s w) {o : ((Int × Hp) ⊕ (Int × Hp))} (hx : xb_addFrom_b22_j91 F77 s x1 x2 x3 k0 = some o) (kn : ∀ (q : Int × Hp) w1, o = .inl q → Rw sh w0 q.2 w1 → wp (d + 3) 77 22 [(0, .ref 130), (1, .int (Int32.ofInt x1)), (2, .int (Int32.ofInt x2)), (3, .int (Int32.ofInt q.1))] [] w1 P) (kc : ∀ (r : (Int × Hp)), o = .inr r → (∀ w1, Rw sh w0 r.2 w1 → wp (d + 3) 77 129 [(0, .ref 130), (1, .int (Int32.ofInt x1)), (2, .int (Int32.ofInt x2)), (3, .int (Int32.ofInt r.1))] [] w1 P)) : wp (d + 3) 77 91 [(0, .ref 130), (1, .int (Int32.ofInt x1)), (2, .int (Int32.ofInt x2)), (3, .int (Int32.ofInt x3))] [.int (Int32.ofInt k0)] w P := by
  unfold xb_addFrom_b22_j91 at hx
  refine wp_g 4 (pc1 := 96) (lv1 := [(7, .int (Int32.ofInt k0)), (0, .ref 130), (1, .int (Int32.ofInt x1)), (2, .int (Int32.ofInt x2)), (3, .int (Int32.ofInt x3))]) (st1 := [.int (Int32.ofInt x3), .int (Int32.ofInt x1), .ref 130]) (w1 := w) rfl ?_
  obtain ⟨o1, e2, hx⟩ := bd hx
  refine wp_cl [.ref 130, .int (Int32.ofInt x1), .int (Int32.ofInt x3)] [] (i := .invokevirtual 82) (ln := 3) (a := 79) (b := 0) (z := 0) (by decide +kernel) rfl rfl (by decide) rfl (show (3 : Nat) = pm_na 79 by decide +kernel) (Nat.le_of_ble_eq_true rfl) (show (3 : Nat) ≤ pm_n 79 by decide +kernel) (rcv_x 8 h (hS _ _ sx_130) (by decide +kernel)) (xb_makeRoom_ok (d := d + 2) hS h e2 (fun w3 h4 => ?_))
  show wp _ 77 99 [(7, .int (Int32.ofInt k0)), (0, .ref 130), (1, .int (Int32.ofInt x1)), (2, .int (Int32.ofInt x2)), (3, .int (Int32.ofInt x3))] [] w3 _
  refine wp_g 1 (pc1 := 100) (lv1 := [(7, .int (Int32.ofInt k0)), (0, .ref 130), (1, .int (Int32.ofInt x1)), (2, .int (Int32.ofInt x2)), (3, .int (Int32.ofInt x3))]) (st1 := [.ref 130]) (w1 := w3) rfl ?_
  refine wx_gr (o := 2) (kf := 22) (ln := 3) (ci := 8) (b := 3) (zz := 0) (x := 130) (by decide +kernel) h4 (hS _ _ sx_130) rfl ?_
  show wp _ 77 103 [(7, .int (Int32.ofInt k0)), (0, .ref 130), (1, .int (Int32.ofInt x1)), (2, .int (Int32.ofInt x2)), (3, .int (Int32.ofInt x3))] [.ref 132] w3 _
  refine wp_g 2 (pc1 := 105) (lv1 := [(7, .int (Int32.ofInt k0)), (0, .ref 130), (1, .int (Int32.ofInt x1)), (2, .int (Int32.ofInt x2)), (3, .int (Int32.ofInt x3))]) (st1 := [.int (Int32.ofInt x3), .int (Int32.ofInt x1), .ref 132]) (w1 := w3) rfl ?_
  obtain ⟨i5, e6, hx⟩ := bd hx
  obtain ⟨s7, e8, hx⟩ := bd hx
  refine wx_wa (x := 132) (n := 8) (ln := 1) (a := 0) (b := 0) (zz := 0) (by decide +kernel) h4 (hS _ _ sx_132) e6 e8 (fun w9 h10 => ?_)
  refine wp_g 7 (pc1 := 114) (lv1 := [(7, .int (Int32.ofInt k0)), (0, .ref 130), (1, .int (Int32.ofInt x1)), (2, .int (Int32.ofInt x2)), (3, .int (Int32.ofInt x3))]) (st1 := [.int (Int32.ofInt (bOr x2 k0)), .int (Int32.ofInt (x1 + 1)), .ref 130]) (w1 := w9) (by simp only [Int32.ofInt_add, Int32.ofInt_sub, Int32.ofInt_mul, Int32.ofInt_neg, p_and, p_or, p_xor, p_shl, p_shr, p_usr, p_w8, p_c16, p_lI, q_and, q_or, q_shl, q_shr, q_w32, Int64.ofInt_add, Int64.ofInt_sub, Int64.ofInt_mul, p_mx, p_mn, q_mx, q_mn]; rfl) ?_
  obtain ⟨o11, e12, hx⟩ := bd hx
  refine wp_cl [.ref 130, .int (Int32.ofInt (x1 + 1)), .int (Int32.ofInt (bOr x2 k0))] [] (i := .invokevirtual 71) (ln := 3) (a := 77) (b := 0) (z := 0) (by decide +kernel) rfl rfl (by decide) rfl (show (3 : Nat) = pm_na 77 by decide +kernel) (Nat.le_of_ble_eq_true rfl) (show (3 : Nat) ≤ pm_n 77 by decide +kernel) (rcv_x 8 h10 (hS _ _ sx_130) (by decide +kernel)) (hF77 _ _ (x1 + 1) (bOr x2 k0) _ _ h10 e12 (fun w13 h14 => ?_))
  show wp _ 77 117 [(7, .int (Int32.ofInt k0)), (0, .ref 130), (1, .int (Int32.ofInt x1)), (2, .int (Int32.ofInt x2)), (3, .int (Int32.ofInt x3))] [] w13 _
  refine wp_g 3 (pc1 := 120) (lv1 := [(7, .int (Int32.ofInt k0)), (0, .ref 130), (1, .int (Int32.ofInt x1)), (2, .int (Int32.ofInt x2)), (3, .int (Int32.ofInt x3))]) (st1 := [.int (Int32.ofInt x3), .int (Int32.ofInt x1), .ref 130]) (w1 := w13) rfl ?_
  obtain ⟨o15, e16, hx⟩ := bd hx
  refine wp_cl [.ref 130, .int (Int32.ofInt x1), .int (Int32.ofInt x3)] [] (i := .invokevirtual 85) (ln := 3) (a := 80) (b := 0) (z := 0) (by decide +kernel) rfl rfl (by decide) rfl (show (3 : Nat) = pm_na 80 by decide +kernel) (Nat.le_of_ble_eq_true rfl) (show (3 : Nat) ≤ pm_n 80 by decide +kernel) (rcv_x 8 h14 (hS _ _ sx_130) (by decide +kernel)) (xb_closeRoom_ok (d := d + 2) hS h14 e16 (fun w17 h18 => ?_))
  show wp _ 77 123 [(7, .int (Int32.ofInt k0)), (0, .ref 130), (1, .int (Int32.ofInt x1)), (2, .int (Int32.ofInt x2)), (3, .int (Int32.ofInt x3))] [] w17 _
  refine wp_g 2 (pc1 := 22) (lv1 := [(3, .int (Int32.ofInt (x3 + 1))), (7, .int (Int32.ofInt k0)), (0, .ref 130), (1, .int (Int32.ofInt x1)), (2, .int (Int32.ofInt x2))]) (st1 := []) (w1 := w17) (by simp only [Int32.ofInt_add, Int32.ofInt_sub, Int32.ofInt_mul, Int32.ofInt_neg, p_and, p_or, p_xor, p_shl, p_shr, p_usr, p_w8, p_c16, p_lI, q_and, q_or, q_shl, q_shr, q_w32, Int64.ofInt_add, Int64.ofInt_sub, Int64.ofInt_mul, p_mx, p_mn, q_mx, q_mn]; rfl) ?_
  refine wp_lv (lv1 := [(0, .ref 130), (1, .int (Int32.ofInt x1)), (2, .int (Int32.ofInt x2)), (3, .int (Int32.ofInt (x3 + 1)))]) (lsub_p [2, 3, 4, 0] rfl rfl rfl) ?_
  cases hx
  exact kn _ _ rfl h18
noncomputable def xb_addFrom_b22_j74 (F77 : Hp → Int → Int → Option Hp) (s : Hp) (x1 : Int) (x2 : Int) (x3 : Int) (x4 : Int) (x5 : Int) (k0 : Int) : Option ((Int × Hp) ⊕ (Int × Hp)) :=
  if w32 x5 = w32 k0 then xb_addFrom_b22_j91 F77 s x1 x2 x3 0 else xb_addFrom_b22_j91 F77 s x1 x2 x3 (bShl 1 x4)
set_option maxRecDepth 100000 in
theorem xb_addFrom_b22_j74_ok {d : Nat} {P : Option Value → pm_H → Prop} {w : pm_H} {sh : Shp} {w0 : pm_H} {s : Hp} (hS : St sh) {F77 : Hp → Int → Int → Option Hp} (hF77 : ∀ (w : pm_H) (s : Hp) (p1 : Int) (p2 : Int) (o : Hp) (P : Option Value → pm_H → Prop), Rw sh w0 s w → F77 s p1 p2 = some o → (∀ w1, Rw sh w0 o w1 → P none w1) → wp (d + 2) 77 0 (lv_args 0 [.ref 130, .int (Int32.ofInt p1), .int (Int32.ofInt p2)]) [] w P) {x1 : Int} {x2 : Int} {x3 : Int} {x4 : Int} {x5 : Int} {k0 : Int} (h : Rw sh w0 s w) {o : ((Int × Hp) ⊕ (Int × Hp))} (hx : xb_addFrom_b22_j74 F77 s x1 x2 x3 x4 x5 k0 = some o) (kn : ∀ (q : Int × Hp) w1, o = .inl q → Rw sh w0 q.2 w1 → wp (d + 3) 77 22 [(0, .ref 130), (1, .int (Int32.ofInt x1)), (2, .int (Int32.ofInt x2)), (3, .int (Int32.ofInt q.1))] [] w1 P) (kc : ∀ (r : (Int × Hp)), o = .inr r → (∀ w1, Rw sh w0 r.2 w1 → wp (d + 3) 77 129 [(0, .ref 130), (1, .int (Int32.ofInt x1)), (2, .int (Int32.ofInt x2)), (3, .int (Int32.ofInt r.1))] [] w1 P)) : wp (d + 3) 77 74 [(0, .ref 130), (1, .int (Int32.ofInt x1)), (2, .int (Int32.ofInt x2)), (3, .int (Int32.ofInt x3)), (4, .int (Int32.ofInt x4)), (5, .int (Int32.ofInt x5))] [.int (Int32.ofInt k0)] w P := by
  unfold xb_addFrom_b22_j74 at hx
  refine wp_g 3 (pc1 := 80) (lv1 := [(6, .int (Int32.ofInt k0)), (0, .ref 130), (1, .int (Int32.ofInt x1)), (2, .int (Int32.ofInt x2)), (3, .int (Int32.ofInt x3)), (4, .int (Int32.ofInt x4)), (5, .int (Int32.ofInt x5))]) (st1 := [.int (Int32.ofInt k0), .int (Int32.ofInt x5)]) (w1 := w) rfl ?_
  refine wx_ne (oo := 7) (ln := 3) (a := 87) (b := 0) (zz := 0) (by decide +kernel) (fun h1 => ?_) (fun h1 => ?_)
  · have hx := ite_f h1 hx
    refine wp_g 3 (pc1 := 91) (lv1 := [(6, .int (Int32.ofInt k0)), (0, .ref 130), (1, .int (Int32.ofInt x1)), (2, .int (Int32.ofInt x2)), (3, .int (Int32.ofInt x3)), (4, .int (Int32.ofInt x4)), (5, .int (Int32.ofInt x5))]) (st1 := [.int (Int32.ofInt (bShl 1 x4))]) (w1 := w) (by simp only [Int32.ofInt_add, Int32.ofInt_sub, Int32.ofInt_mul, Int32.ofInt_neg, p_and, p_or, p_xor, p_shl, p_shr, p_usr, p_w8, p_c16, p_lI, q_and, q_or, q_shl, q_shr, q_w32, Int64.ofInt_add, Int64.ofInt_sub, Int64.ofInt_mul, p_mx, p_mn, q_mx, q_mn]; rfl) ?_
    refine wp_lv (lv1 := [(0, .ref 130), (1, .int (Int32.ofInt x1)), (2, .int (Int32.ofInt x2)), (3, .int (Int32.ofInt x3))]) (lsub_p [1, 2, 3, 4] rfl rfl rfl) ?_
    exact xb_addFrom_b22_j91_ok hS hF77 h hx kn kc
  · have hx := ite_t h1 hx
    refine wp_g 2 (pc1 := 91) (lv1 := [(6, .int (Int32.ofInt k0)), (0, .ref 130), (1, .int (Int32.ofInt x1)), (2, .int (Int32.ofInt x2)), (3, .int (Int32.ofInt x3)), (4, .int (Int32.ofInt x4)), (5, .int (Int32.ofInt x5))]) (st1 := [.int (Int32.ofInt 0)]) (w1 := w) rfl ?_
    refine wp_lv (lv1 := [(0, .ref 130), (1, .int (Int32.ofInt x1)), (2, .int (Int32.ofInt x2)), (3, .int (Int32.ofInt x3))]) (lsub_p [1, 2, 3, 4] rfl rfl rfl) ?_
    exact xb_addFrom_b22_j91_ok hS hF77 h hx kn kc
noncomputable def xb_addFrom_b22_j56 (F77 : Hp → Int → Int → Option Hp) (s : Hp) (x1 : Int) (x2 : Int) (x3 : Int) (x4 : Int) (k0 : Int) : Option ((Int × Hp) ⊕ (Int × Hp)) :=
  (ix 8 x4).bind fun i1 => if w32 (s 132 i1) < w32 x3 then xb_addFrom_b22_j74 F77 s x1 x2 x3 x4 k0 1 else xb_addFrom_b22_j74 F77 s x1 x2 x3 x4 k0 0
set_option maxRecDepth 100000 in
theorem xb_addFrom_b22_j56_ok {d : Nat} {P : Option Value → pm_H → Prop} {w : pm_H} {sh : Shp} {w0 : pm_H} {s : Hp} (hS : St sh) {F77 : Hp → Int → Int → Option Hp} (hF77 : ∀ (w : pm_H) (s : Hp) (p1 : Int) (p2 : Int) (o : Hp) (P : Option Value → pm_H → Prop), Rw sh w0 s w → F77 s p1 p2 = some o → (∀ w1, Rw sh w0 o w1 → P none w1) → wp (d + 2) 77 0 (lv_args 0 [.ref 130, .int (Int32.ofInt p1), .int (Int32.ofInt p2)]) [] w P) {x1 : Int} {x2 : Int} {x3 : Int} {x4 : Int} {k0 : Int} (h : Rw sh w0 s w) {o : ((Int × Hp) ⊕ (Int × Hp))} (hx : xb_addFrom_b22_j56 F77 s x1 x2 x3 x4 k0 = some o) (kn : ∀ (q : Int × Hp) w1, o = .inl q → Rw sh w0 q.2 w1 → wp (d + 3) 77 22 [(0, .ref 130), (1, .int (Int32.ofInt x1)), (2, .int (Int32.ofInt x2)), (3, .int (Int32.ofInt q.1))] [] w1 P) (kc : ∀ (r : (Int × Hp)), o = .inr r → (∀ w1, Rw sh w0 r.2 w1 → wp (d + 3) 77 129 [(0, .ref 130), (1, .int (Int32.ofInt x1)), (2, .int (Int32.ofInt x2)), (3, .int (Int32.ofInt r.1))] [] w1 P)) : wp (d + 3) 77 56 [(0, .ref 130), (1, .int (Int32.ofInt x1)), (2, .int (Int32.ofInt x2)), (3, .int (Int32.ofInt x3)), (4, .int (Int32.ofInt x4))] [.int (Int32.ofInt k0)] w P := by
  unfold xb_addFrom_b22_j56 at hx
  refine wp_g 3 (pc1 := 60) (lv1 := [(5, .int (Int32.ofInt k0)), (0, .ref 130), (1, .int (Int32.ofInt x1)), (2, .int (Int32.ofInt x2)), (3, .int (Int32.ofInt x3)), (4, .int (Int32.ofInt x4))]) (st1 := [.ref 130, .int (Int32.ofInt x3)]) (w1 := w) rfl ?_
  refine wx_gr (o := 2) (kf := 22) (ln := 3) (ci := 8) (b := 3) (zz := 0) (x := 130) (by decide +kernel) h (hS _ _ sx_130) rfl ?_
  show wp _ 77 63 [(5, .int (Int32.ofInt k0)), (0, .ref 130), (1, .int (Int32.ofInt x1)), (2, .int (Int32.ofInt x2)), (3, .int (Int32.ofInt x3)), (4, .int (Int32.ofInt x4))] [.ref 132, .int (Int32.ofInt x3)] w _
  refine wp_g 1 (pc1 := 65) (lv1 := [(5, .int (Int32.ofInt k0)), (0, .ref 130), (1, .int (Int32.ofInt x1)), (2, .int (Int32.ofInt x2)), (3, .int (Int32.ofInt x3)), (4, .int (Int32.ofInt x4))]) (st1 := [.int (Int32.ofInt x4), .ref 132, .int (Int32.ofInt x3)]) (w1 := w) rfl ?_
  obtain ⟨i1, e2, hx⟩ := bd hx
  refine wx_ra (x := 132) (n := 8) (ln := 1) (a := 0) (b := 0) (zz := 0) (by decide +kernel) h (hS _ _ sx_132) e2 ?_
  show wp _ 77 66 [(5, .int (Int32.ofInt k0)), (0, .ref 130), (1, .int (Int32.ofInt x1)), (2, .int (Int32.ofInt x2)), (3, .int (Int32.ofInt x3)), (4, .int (Int32.ofInt x4))] [.int (Int32.ofInt (s 132 i1)), .int (Int32.ofInt x3)] w _
  refine wx_le (oo := 7) (ln := 3) (a := 73) (b := 0) (zz := 0) (by decide +kernel) (fun h3 => ?_) (fun h3 => ?_)
  · have hx := ite_f h3 hx
    refine wp_g 1 (pc1 := 74) (lv1 := [(5, .int (Int32.ofInt k0)), (0, .ref 130), (1, .int (Int32.ofInt x1)), (2, .int (Int32.ofInt x2)), (3, .int (Int32.ofInt x3)), (4, .int (Int32.ofInt x4))]) (st1 := [.int (Int32.ofInt 0)]) (w1 := w) rfl ?_
    refine wp_lv (lv1 := [(0, .ref 130), (1, .int (Int32.ofInt x1)), (2, .int (Int32.ofInt x2)), (3, .int (Int32.ofInt x3)), (4, .int (Int32.ofInt x4)), (5, .int (Int32.ofInt k0))]) (lsub_p [1, 2, 3, 4, 5, 0] rfl rfl rfl) ?_
    exact xb_addFrom_b22_j74_ok hS hF77 h hx kn kc
  · have hx := ite_t h3 hx
    refine wp_g 2 (pc1 := 74) (lv1 := [(5, .int (Int32.ofInt k0)), (0, .ref 130), (1, .int (Int32.ofInt x1)), (2, .int (Int32.ofInt x2)), (3, .int (Int32.ofInt x3)), (4, .int (Int32.ofInt x4))]) (st1 := [.int (Int32.ofInt 1)]) (w1 := w) rfl ?_
    refine wp_lv (lv1 := [(0, .ref 130), (1, .int (Int32.ofInt x1)), (2, .int (Int32.ofInt x2)), (3, .int (Int32.ofInt x3)), (4, .int (Int32.ofInt x4)), (5, .int (Int32.ofInt k0))]) (lsub_p [1, 2, 3, 4, 5, 0] rfl rfl rfl) ?_
    exact xb_addFrom_b22_j74_ok hS hF77 h hx kn kc
noncomputable def xb_addFrom_b22 (F77 : Hp → Int → Int → Option Hp) (s : Hp) (x1 : Int) (x2 : Int) (x3 : Int) : Option ((Int × Hp) ⊕ (Int × Hp)) :=
  if w32 x1 < w32 x3 then some (.inr (x3, s)) else (xb_crosses s x1 x3).bind fun o2 => if w32 o2 = 0 then if w32 (bAnd (x1 - 1) 1) = 0 then xb_addFrom_b22_j56 F77 s x1 x2 x3 (x1 - 1) 1 else xb_addFrom_b22_j56 F77 s x1 x2 x3 (x1 - 1) 0 else some (.inl (x3 + 1, s))
set_option maxRecDepth 100000 in
theorem xb_addFrom_b22_ok {d : Nat} {P : Option Value → pm_H → Prop} {w : pm_H} {sh : Shp} {w0 : pm_H} {s : Hp} (hS : St sh) {F77 : Hp → Int → Int → Option Hp} (hF77 : ∀ (w : pm_H) (s : Hp) (p1 : Int) (p2 : Int) (o : Hp) (P : Option Value → pm_H → Prop), Rw sh w0 s w → F77 s p1 p2 = some o → (∀ w1, Rw sh w0 o w1 → P none w1) → wp (d + 2) 77 0 (lv_args 0 [.ref 130, .int (Int32.ofInt p1), .int (Int32.ofInt p2)]) [] w P) {x1 : Int} {x2 : Int} {x3 : Int} (h : Rw sh w0 s w) {o : ((Int × Hp) ⊕ (Int × Hp))} (hx : xb_addFrom_b22 F77 s x1 x2 x3 = some o) (kn : ∀ (q : Int × Hp) w1, o = .inl q → Rw sh w0 q.2 w1 → wp (d + 3) 77 22 [(0, .ref 130), (1, .int (Int32.ofInt x1)), (2, .int (Int32.ofInt x2)), (3, .int (Int32.ofInt q.1))] [] w1 P) (kc : ∀ (r : (Int × Hp)), o = .inr r → (∀ w1, Rw sh w0 r.2 w1 → wp (d + 3) 77 129 [(0, .ref 130), (1, .int (Int32.ofInt x1)), (2, .int (Int32.ofInt x2)), (3, .int (Int32.ofInt r.1))] [] w1 P)) : wp (d + 3) 77 22 [(0, .ref 130), (1, .int (Int32.ofInt x1)), (2, .int (Int32.ofInt x2)), (3, .int (Int32.ofInt x3))] [] w P := by
  unfold xb_addFrom_b22 at hx
  refine wp_g 2 (pc1 := 24) (lv1 := [(0, .ref 130), (1, .int (Int32.ofInt x1)), (2, .int (Int32.ofInt x2)), (3, .int (Int32.ofInt x3))]) (st1 := [.int (Int32.ofInt x1), .int (Int32.ofInt x3)]) (w1 := w) rfl ?_
  refine wx_gt (oo := 105) (ln := 3) (a := 129) (b := 0) (zz := 0) (by decide +kernel) (fun h1 => ?_) (fun h1 => ?_)
  · have hx := ite_t h1 hx
    cases hx
    exact kc _ rfl _ h
  · have hx := ite_f h1 hx
    refine wp_g 3 (pc1 := 30) (lv1 := [(0, .ref 130), (1, .int (Int32.ofInt x1)), (2, .int (Int32.ofInt x2)), (3, .int (Int32.ofInt x3))]) (st1 := [.int (Int32.ofInt x3), .int (Int32.ofInt x1), .ref 130]) (w1 := w) rfl ?_
    obtain ⟨o2, e3, hx⟩ := bd hx
    refine wp_cl [.ref 130, .int (Int32.ofInt x1), .int (Int32.ofInt x3)] [] (i := .invokevirtual 78) (ln := 3) (a := 78) (b := 0) (z := 0) (by decide +kernel) rfl rfl (by decide) rfl (show (3 : Nat) = pm_na 78 by decide +kernel) (Nat.le_of_ble_eq_true rfl) (show (3 : Nat) ≤ pm_n 78 by decide +kernel) (rcv_x 8 h (hS _ _ sx_130) (by decide +kernel)) (xb_crosses_ok (d := d + 2) hS h e3 ?_)
    show wp _ 77 33 [(0, .ref 130), (1, .int (Int32.ofInt x1)), (2, .int (Int32.ofInt x2)), (3, .int (Int32.ofInt x3))] [.int (Int32.ofInt o2)] w _
    refine wz_eq (oo := 6) (ln := 3) (a := 39) (b := 0) (zz := 0) (by decide +kernel) (fun h6 => ?_) (fun h6 => ?_)
    · have hx := ite_t h6 hx
      refine wp_g 7 (pc1 := 48) (lv1 := [(4, .int (Int32.ofInt (x1 - 1))), (0, .ref 130), (1, .int (Int32.ofInt x1)), (2, .int (Int32.ofInt x2)), (3, .int (Int32.ofInt x3))]) (st1 := [.int (Int32.ofInt (bAnd (x1 - 1) 1))]) (w1 := w) (by simp only [Int32.ofInt_add, Int32.ofInt_sub, Int32.ofInt_mul, Int32.ofInt_neg, p_and, p_or, p_xor, p_shl, p_shr, p_usr, p_w8, p_c16, p_lI, q_and, q_or, q_shl, q_shr, q_w32, Int64.ofInt_add, Int64.ofInt_sub, Int64.ofInt_mul, p_mx, p_mn, q_mx, q_mn]; rfl) ?_
      refine wz_ne (oo := 7) (ln := 3) (a := 55) (b := 0) (zz := 0) (by decide +kernel) (fun h7 => ?_) (fun h7 => ?_)
      · have hx := ite_f h7 hx
        refine wp_g 1 (pc1 := 56) (lv1 := [(4, .int (Int32.ofInt (x1 - 1))), (0, .ref 130), (1, .int (Int32.ofInt x1)), (2, .int (Int32.ofInt x2)), (3, .int (Int32.ofInt x3))]) (st1 := [.int (Int32.ofInt 0)]) (w1 := w) rfl ?_
        refine wp_lv (lv1 := [(0, .ref 130), (1, .int (Int32.ofInt x1)), (2, .int (Int32.ofInt x2)), (3, .int (Int32.ofInt x3)), (4, .int (Int32.ofInt (x1 - 1)))]) (lsub_p [1, 2, 3, 4, 0] rfl rfl rfl) ?_
        exact xb_addFrom_b22_j56_ok hS hF77 h hx kn kc
      · have hx := ite_t h7 hx
        refine wp_g 2 (pc1 := 56) (lv1 := [(4, .int (Int32.ofInt (x1 - 1))), (0, .ref 130), (1, .int (Int32.ofInt x1)), (2, .int (Int32.ofInt x2)), (3, .int (Int32.ofInt x3))]) (st1 := [.int (Int32.ofInt 1)]) (w1 := w) rfl ?_
        refine wp_lv (lv1 := [(0, .ref 130), (1, .int (Int32.ofInt x1)), (2, .int (Int32.ofInt x2)), (3, .int (Int32.ofInt x3)), (4, .int (Int32.ofInt (x1 - 1)))]) (lsub_p [1, 2, 3, 4, 0] rfl rfl rfl) ?_
        exact xb_addFrom_b22_j56_ok hS hF77 h hx kn kc
    · have hx := ite_f h6 hx
      refine wp_g 3 (pc1 := 22) (lv1 := [(3, .int (Int32.ofInt (x3 + 1))), (0, .ref 130), (1, .int (Int32.ofInt x1)), (2, .int (Int32.ofInt x2))]) (st1 := []) (w1 := w) (by simp only [Int32.ofInt_add, Int32.ofInt_sub, Int32.ofInt_mul, Int32.ofInt_neg, p_and, p_or, p_xor, p_shl, p_shr, p_usr, p_w8, p_c16, p_lI, q_and, q_or, q_shl, q_shr, q_w32, Int64.ofInt_add, Int64.ofInt_sub, Int64.ofInt_mul, p_mx, p_mn, q_mx, q_mn]; rfl) ?_
      refine wp_lv (lv1 := [(0, .ref 130), (1, .int (Int32.ofInt x1)), (2, .int (Int32.ofInt x2)), (3, .int (Int32.ofInt (x3 + 1)))]) (lsub_p [1, 2, 3, 0] rfl rfl rfl) ?_
      cases hx
      exact kn _ _ rfl h
/-- StackBook.addFrom (II)V -/
noncomputable def xb_addFrom_b (F77 : Hp → Int → Int → Option Hp) (s : Hp) (p1 : Int) (p2 : Int) : Option Hp :=
  if w32 p1 < w32 (s 130 2) then if w32 p1 < w32 8 then (lp (fun (q : Int × Hp) => xb_addFrom_b22 F77 q.2 p1 p2 q.1) (0, s)).bind fun q7 => some q7.2 else (xb_addRow s p2).bind fun o11 => some o11 else (xb_addRow s p2).bind fun o2 => some o2
set_option maxRecDepth 100000 in
theorem xb_addFrom_b_ok {d : Nat} {P : Option Value → pm_H → Prop} {w : pm_H} {sh : Shp} {w0 : pm_H} {s : Hp} (hS : St sh) {F77 : Hp → Int → Int → Option Hp} (hF77 : ∀ (w : pm_H) (s : Hp) (p1 : Int) (p2 : Int) (o : Hp) (P : Option Value → pm_H → Prop), Rw sh w0 s w → F77 s p1 p2 = some o → (∀ w1, Rw sh w0 o w1 → P none w1) → wp (d + 2) 77 0 (lv_args 0 [.ref 130, .int (Int32.ofInt p1), .int (Int32.ofInt p2)]) [] w P) {p1 : Int} {p2 : Int} (h : Rw sh w0 s w) {o : Hp} (hx : xb_addFrom_b F77 s p1 p2 = some o) (kr : ∀ w1, Rw sh w0 o w1 → P none w1) : wp (d + 3) 77 0 (lv_args 0 [.ref 130, .int (Int32.ofInt p1), .int (Int32.ofInt p2)]) [] w P := by
  show wp _ 77 0 [(0, .ref 130), (1, .int (Int32.ofInt p1)), (2, .int (Int32.ofInt p2))] [] w _
  unfold xb_addFrom_b at hx
  refine wp_g 2 (pc1 := 2) (lv1 := [(0, .ref 130), (1, .int (Int32.ofInt p1)), (2, .int (Int32.ofInt p2))]) (st1 := [.ref 130, .int (Int32.ofInt p1)]) (w1 := w) rfl ?_
  refine wx_gi (kf := 19) (ln := 3) (ci := 8) (b := 2) (zz := 0) (x := 130) (by decide +kernel) h (hS _ _ sx_130) rfl ?_
  show wp _ 77 5 [(0, .ref 130), (1, .int (Int32.ofInt p1)), (2, .int (Int32.ofInt p2))] [.int (Int32.ofInt (s 130 2)), .int (Int32.ofInt p1)] w _
  refine wx_ge (oo := 9) (ln := 3) (a := 14) (b := 0) (zz := 0) (by decide +kernel) (fun h1 => ?_) (fun h1 => ?_)
  · have hx := ite_f h1 hx
    refine wp_g 2 (pc1 := 16) (lv1 := [(0, .ref 130), (1, .int (Int32.ofInt p1)), (2, .int (Int32.ofInt p2))]) (st1 := [.int (Int32.ofInt p2), .ref 130]) (w1 := w) rfl ?_
    obtain ⟨o2, e3, hx⟩ := bd hx
    refine wp_cl [.ref 130, .int (Int32.ofInt p2)] [] (i := .invokevirtual 75) (ln := 3) (a := 81) (b := 0) (z := 0) (by decide +kernel) rfl rfl (by decide) rfl (show (2 : Nat) = pm_na 81 by decide +kernel) (Nat.le_of_ble_eq_true rfl) (show (2 : Nat) ≤ pm_n 81 by decide +kernel) (rcv_x 8 h (hS _ _ sx_130) (by decide +kernel)) (xb_addRow_ok (d := d + 1) hS h e3 (fun w4 h5 => ?_))
    show wp _ 77 19 [(0, .ref 130), (1, .int (Int32.ofInt p1)), (2, .int (Int32.ofInt p2))] [] w4 _
    refine wp_rt (i := .return_) (r := none) (ln := 1) (a := 0) (b := 0) (z := 0) (by decide +kernel) rfl (ret_v (by decide +kernel)) ?_
    cases hx
    exact kr _ h5
  · have hx := ite_t h1 hx
    refine wp_g 2 (pc1 := 11) (lv1 := [(0, .ref 130), (1, .int (Int32.ofInt p1)), (2, .int (Int32.ofInt p2))]) (st1 := [.int (Int32.ofInt 8), .int (Int32.ofInt p1)]) (w1 := w) rfl ?_
    refine wx_lt (oo := 9) (ln := 3) (a := 20) (b := 0) (zz := 0) (by decide +kernel) (fun h6 => ?_) (fun h6 => ?_)
    · have hx := ite_t h6 hx
      refine wp_g 2 (pc1 := 22) (lv1 := [(3, .int (Int32.ofInt 0)), (0, .ref 130), (1, .int (Int32.ofInt p1)), (2, .int (Int32.ofInt p2))]) (st1 := []) (w1 := w) rfl ?_
      refine wp_lv (lv1 := [(0, .ref 130), (1, .int (Int32.ofInt p1)), (2, .int (Int32.ofInt p2)), (3, .int (Int32.ofInt 0))]) (lsub_p [1, 2, 3, 0] rfl rfl rfl) ?_
      obtain ⟨q7, e8, hx⟩ := bd hx
      refine wp_lp (σ := Int × Hp) (ρ := (Int × Hp)) (B := fun q => xb_addFrom_b22 F77 q.2 p1 p2 q.1) (R := fun q w' => Rw sh w0 q.2 w') (C := fun r => ∀ w1, Rw sh w0 r.2 w1 → wp (d + 3) 77 129 [(0, .ref 130), (1, .int (Int32.ofInt p1)), (2, .int (Int32.ofInt p2)), (3, .int (Int32.ofInt r.1))] [] w1 P) (lv := fun q => [(0, .ref 130), (1, .int (Int32.ofInt p1)), (2, .int (Int32.ofInt p2)), (3, .int (Int32.ofInt q.1))]) (hd := 22) (fun q w' o hR hb kn kc => xb_addFrom_b22_ok hS hF77 hR hb kn kc) _ _ _ e8 h ?_
      intro w9 h10
      show wp _ 77 129 [(0, .ref 130), (1, .int (Int32.ofInt p1)), (2, .int (Int32.ofInt p2)), (3, .int (Int32.ofInt q7.1))] [] w9 _
      refine wp_rt (i := .return_) (r := none) (ln := 1) (a := 0) (b := 0) (z := 0) (by decide +kernel) rfl (ret_v (by decide +kernel)) ?_
      cases hx
      exact kr _ h10
    · have hx := ite_f h6 hx
      refine wp_g 2 (pc1 := 16) (lv1 := [(0, .ref 130), (1, .int (Int32.ofInt p1)), (2, .int (Int32.ofInt p2))]) (st1 := [.int (Int32.ofInt p2), .ref 130]) (w1 := w) rfl ?_
      obtain ⟨o11, e12, hx⟩ := bd hx
      refine wp_cl [.ref 130, .int (Int32.ofInt p2)] [] (i := .invokevirtual 75) (ln := 3) (a := 81) (b := 0) (z := 0) (by decide +kernel) rfl rfl (by decide) rfl (show (2 : Nat) = pm_na 81 by decide +kernel) (Nat.le_of_ble_eq_true rfl) (show (2 : Nat) ≤ pm_n 81 by decide +kernel) (rcv_x 8 h (hS _ _ sx_130) (by decide +kernel)) (xb_addRow_ok (d := d + 1) hS h e12 (fun w13 h14 => ?_))
      show wp _ 77 19 [(0, .ref 130), (1, .int (Int32.ofInt p1)), (2, .int (Int32.ofInt p2))] [] w13 _
      refine wp_rt (i := .return_) (r := none) (ln := 1) (a := 0) (b := 0) (z := 0) (by decide +kernel) rfl (ret_v (by decide +kernel)) ?_
      cases hx
      exact kr _ h14
noncomputable def RC77  : Nat → (Hp → Int → Int → Option Hp)
  | 0 => fun _ _ _ => none
  | n + 1 => fun s p1 p2 => xb_addFrom_b (RC77 n)  s p1 p2
theorem RC77_ok {sh : Shp} {w0 : pm_H} (hS : St sh) : ∀ n d : Nat, (∀ (w : pm_H) (s : Hp) (p1 : Int) (p2 : Int) (o : Hp) (P : Option Value → pm_H → Prop), Rw sh w0 s w → (RC77 n) s p1 p2 = some o → (∀ w1, Rw sh w0 o w1 → P none w1) → wp (d + 2 + n) 77 0 (lv_args 0 [.ref 130, .int (Int32.ofInt p1), .int (Int32.ofInt p2)]) [] w P)
  | 0, d => fun w s p1 p2 o P h hx kr => (by cases hx)
  | n + 1, d => by
    have ih := RC77_ok (w0 := w0) hS n d
    have e : d + 2 + n = d + n + 2 := by omega
    have e2 : d + 2 + (n + 1) = d + n + (2 + 1) := by omega
    rw [e] at ih
    rw [e2]
    exact fun w s p1 p2 o P h hx kr => xb_addFrom_b_ok (d := d + n) hS ih h hx kr
/-- StackBook.addFrom (II)V -/
noncomputable def xb_addFrom (s : Hp) (p1 : Int) (p2 : Int) : Option Hp := (RC77 12) s p1 p2
theorem xb_addFrom_ok {d : Nat} {P : Option Value → pm_H → Prop} {w : pm_H} {sh : Shp} {w0 : pm_H} {s : Hp} (hS : St sh) {p1 : Int} {p2 : Int} (h : Rw sh w0 s w) {o : Hp} (hx : xb_addFrom s p1 p2 = some o) (kr : ∀ w1, Rw sh w0 o w1 → P none w1) : wp (d + 14) 77 0 (lv_args 0 [.ref 130, .int (Int32.ofInt p1), .int (Int32.ofInt p2)]) [] w P := (RC77_ok hS 12 d) w s p1 p2 _ P h hx kr
/-- StackBook.makeRows (I)V -/
noncomputable def xb_makeRows (s : Hp) (p1 : Int) : Option Hp :=
  if w32 p1 = w32 (s 130 2) then some s else if w32 p1 < w32 1 then some s else if w32 8 < w32 p1 then some s else (some (uh s 130 2 p1)).bind fun s4 => (some (uh s4 130 1 0)).bind fun s8 => (ix 8 0).bind fun i12 => (some (uh s8 132 i12 0)).bind fun s14 => (xb_addFrom s14 1 0).bind fun o18 => some o18
set_option maxRecDepth 100000 in
theorem xb_makeRows_ok {d : Nat} {P : Option Value → pm_H → Prop} {w : pm_H} {sh : Shp} {w0 : pm_H} {s : Hp} (hS : St sh) {p1 : Int} (h : Rw sh w0 s w) {o : Hp} (hx : xb_makeRows s p1 = some o) (kr : ∀ w1, Rw sh w0 o w1 → P none w1) : wp (d + 15) 76 0 (lv_args 0 [.ref 130, .int (Int32.ofInt p1)]) [] w P := by
  show wp _ 76 0 [(0, .ref 130), (1, .int (Int32.ofInt p1))] [] w _
  unfold xb_makeRows at hx
  refine wp_g 2 (pc1 := 2) (lv1 := [(0, .ref 130), (1, .int (Int32.ofInt p1))]) (st1 := [.ref 130, .int (Int32.ofInt p1)]) (w1 := w) rfl ?_
  refine wx_gi (kf := 19) (ln := 3) (ci := 8) (b := 2) (zz := 0) (x := 130) (by decide +kernel) h (hS _ _ sx_130) rfl ?_
  show wp _ 76 5 [(0, .ref 130), (1, .int (Int32.ofInt p1))] [.int (Int32.ofInt (s 130 2)), .int (Int32.ofInt p1)] w _
  refine wx_eq (oo := 14) (ln := 3) (a := 19) (b := 0) (zz := 0) (by decide +kernel) (fun h1 => ?_) (fun h1 => ?_)
  · have hx := ite_t h1 hx
    refine wp_rt (i := .return_) (r := none) (ln := 1) (a := 0) (b := 0) (z := 0) (by decide +kernel) rfl (ret_v (by decide +kernel)) ?_
    cases hx
    exact kr _ h
  · have hx := ite_f h1 hx
    refine wp_g 2 (pc1 := 10) (lv1 := [(0, .ref 130), (1, .int (Int32.ofInt p1))]) (st1 := [.int (Int32.ofInt 1), .int (Int32.ofInt p1)]) (w1 := w) rfl ?_
    refine wx_lt (oo := 9) (ln := 3) (a := 19) (b := 0) (zz := 0) (by decide +kernel) (fun h2 => ?_) (fun h2 => ?_)
    · have hx := ite_t h2 hx
      refine wp_rt (i := .return_) (r := none) (ln := 1) (a := 0) (b := 0) (z := 0) (by decide +kernel) rfl (ret_v (by decide +kernel)) ?_
      cases hx
      exact kr _ h
    · have hx := ite_f h2 hx
      refine wp_g 2 (pc1 := 16) (lv1 := [(0, .ref 130), (1, .int (Int32.ofInt p1))]) (st1 := [.int (Int32.ofInt 8), .int (Int32.ofInt p1)]) (w1 := w) rfl ?_
      refine wx_le (oo := 4) (ln := 3) (a := 20) (b := 0) (zz := 0) (by decide +kernel) (fun h3 => ?_) (fun h3 => ?_)
      · have hx := ite_f h3 hx
        refine wp_g 2 (pc1 := 22) (lv1 := [(0, .ref 130), (1, .int (Int32.ofInt p1))]) (st1 := [.int (Int32.ofInt p1), .ref 130]) (w1 := w) rfl ?_
        obtain ⟨s4, e5, hx⟩ := bd hx
        refine wx_pi (kf := 19) (ln := 3) (ci := 8) (b := 2) (zz := 0) (x := 130) (by decide +kernel) h (hS _ _ sx_130) rfl (by decide +kernel) e5 (fun w6 h7 => ?_)
        refine wp_g 2 (pc1 := 27) (lv1 := [(0, .ref 130), (1, .int (Int32.ofInt p1))]) (st1 := [.int (Int32.ofInt 0), .ref 130]) (w1 := w6) rfl ?_
        obtain ⟨s8, e9, hx⟩ := bd hx
        refine wx_pi (kf := 15) (ln := 3) (ci := 8) (b := 1) (zz := 0) (x := 130) (by decide +kernel) h7 (hS _ _ sx_130) rfl (by decide +kernel) e9 (fun w10 h11 => ?_)
        refine wp_g 1 (pc1 := 31) (lv1 := [(0, .ref 130), (1, .int (Int32.ofInt p1))]) (st1 := [.ref 130]) (w1 := w10) rfl ?_
        refine wx_gr (o := 2) (kf := 22) (ln := 3) (ci := 8) (b := 3) (zz := 0) (x := 130) (by decide +kernel) h11 (hS _ _ sx_130) rfl ?_
        show wp _ 76 34 [(0, .ref 130), (1, .int (Int32.ofInt p1))] [.ref 132] w10 _
        refine wp_g 2 (pc1 := 36) (lv1 := [(0, .ref 130), (1, .int (Int32.ofInt p1))]) (st1 := [.int (Int32.ofInt 0), .int (Int32.ofInt 0), .ref 132]) (w1 := w10) rfl ?_
        obtain ⟨i12, e13, hx⟩ := bd hx
        obtain ⟨s14, e15, hx⟩ := bd hx
        refine wx_wa (x := 132) (n := 8) (ln := 1) (a := 0) (b := 0) (zz := 0) (by decide +kernel) h11 (hS _ _ sx_132) e13 e15 (fun w16 h17 => ?_)
        refine wp_g 3 (pc1 := 40) (lv1 := [(0, .ref 130), (1, .int (Int32.ofInt p1))]) (st1 := [.int (Int32.ofInt 0), .int (Int32.ofInt 1), .ref 130]) (w1 := w16) rfl ?_
        obtain ⟨o18, e19, hx⟩ := bd hx
        refine wp_cl [.ref 130, .int (Int32.ofInt 1), .int (Int32.ofInt 0)] [] (i := .invokevirtual 71) (ln := 3) (a := 77) (b := 0) (z := 0) (by decide +kernel) rfl rfl (by decide) rfl (show (3 : Nat) = pm_na 77 by decide +kernel) (Nat.le_of_ble_eq_true rfl) (show (3 : Nat) ≤ pm_n 77 by decide +kernel) (rcv_x 8 h17 (hS _ _ sx_130) (by decide +kernel)) (xb_addFrom_ok (d := d) hS h17 e19 (fun w20 h21 => ?_))
        show wp _ 76 43 [(0, .ref 130), (1, .int (Int32.ofInt p1))] [] w20 _
        refine wp_rt (i := .return_) (r := none) (ln := 1) (a := 0) (b := 0) (z := 0) (by decide +kernel) rfl (ret_v (by decide +kernel)) ?_
        cases hx
        exact kr _ h21
      · have hx := ite_t h3 hx
        refine wp_rt (i := .return_) (r := none) (ln := 1) (a := 0) (b := 0) (z := 0) (by decide +kernel) rfl (ret_v (by decide +kernel)) ?_
        cases hx
        exact kr _ h
noncomputable def xb_clearTally_b2 (s : Hp) (x1 : Int) : Option ((Int × Hp) ⊕ (Int × Hp)) :=
  if w32 x1 < w32 128 then (ix 128 x1).bind fun i2 => (some (uh s 133 i2 0)).bind fun s4 => some (.inl (x1 + 1, s4)) else some (.inr (x1, s))
set_option maxRecDepth 100000 in
theorem xb_clearTally_b2_ok {d : Nat} {P : Option Value → pm_H → Prop} {w : pm_H} {sh : Shp} {w0 : pm_H} {s : Hp} (hS : St sh) {x1 : Int} (h : Rw sh w0 s w) {o : ((Int × Hp) ⊕ (Int × Hp))} (hx : xb_clearTally_b2 s x1 = some o) (kn : ∀ (q : Int × Hp) w1, o = .inl q → Rw sh w0 q.2 w1 → wp d 73 2 [(0, .ref 130), (1, .int (Int32.ofInt q.1))] [] w1 P) (kc : ∀ (r : (Int × Hp)), o = .inr r → (∀ w1, Rw sh w0 r.2 w1 → wp d 73 22 [(0, .ref 130), (1, .int (Int32.ofInt r.1))] [] w1 P)) : wp d 73 2 [(0, .ref 130), (1, .int (Int32.ofInt x1))] [] w P := by
  unfold xb_clearTally_b2 at hx
  refine wp_g 2 (pc1 := 6) (lv1 := [(0, .ref 130), (1, .int (Int32.ofInt x1))]) (st1 := [.int (Int32.ofInt 128), .int (Int32.ofInt x1)]) (w1 := w) rfl ?_
  refine wx_ge (oo := 16) (ln := 3) (a := 22) (b := 0) (zz := 0) (by decide +kernel) (fun h1 => ?_) (fun h1 => ?_)
  · have hx := ite_f h1 hx
    cases hx
    exact kc _ rfl _ h
  · have hx := ite_t h1 hx
    refine wp_g 1 (pc1 := 10) (lv1 := [(0, .ref 130), (1, .int (Int32.ofInt x1))]) (st1 := [.ref 130]) (w1 := w) rfl ?_
    refine wx_gr (o := 3) (kf := 25) (ln := 3) (ci := 8) (b := 4) (zz := 0) (x := 130) (by decide +kernel) h (hS _ _ sx_130) rfl ?_
    show wp _ 73 13 [(0, .ref 130), (1, .int (Int32.ofInt x1))] [.ref 133] w _
    refine wp_g 2 (pc1 := 15) (lv1 := [(0, .ref 130), (1, .int (Int32.ofInt x1))]) (st1 := [.int (Int32.ofInt 0), .int (Int32.ofInt x1), .ref 133]) (w1 := w) rfl ?_
    obtain ⟨i2, e3, hx⟩ := bd hx
    obtain ⟨s4, e5, hx⟩ := bd hx
    refine wx_wa (x := 133) (n := 128) (ln := 1) (a := 0) (b := 0) (zz := 0) (by decide +kernel) h (hS _ _ sx_133) e3 e5 (fun w6 h7 => ?_)
    refine wp_g 2 (pc1 := 2) (lv1 := [(1, .int (Int32.ofInt (x1 + 1))), (0, .ref 130)]) (st1 := []) (w1 := w6) (by simp only [Int32.ofInt_add, Int32.ofInt_sub, Int32.ofInt_mul, Int32.ofInt_neg, p_and, p_or, p_xor, p_shl, p_shr, p_usr, p_w8, p_c16, p_lI, q_and, q_or, q_shl, q_shr, q_w32, Int64.ofInt_add, Int64.ofInt_sub, Int64.ofInt_mul, p_mx, p_mn, q_mx, q_mn]; rfl) ?_
    refine wp_lv (lv1 := [(0, .ref 130), (1, .int (Int32.ofInt (x1 + 1)))]) (lsub_p [1, 0] rfl rfl rfl) ?_
    cases hx
    exact kn _ _ rfl h7
/-- StackBook.clearTally ()V -/
noncomputable def xb_clearTally (s : Hp) : Option Hp :=
  (lp (fun (q : Int × Hp) => xb_clearTally_b2 q.2 q.1) (0, s)).bind fun q1 => some q1.2
set_option maxRecDepth 100000 in
theorem xb_clearTally_ok {d : Nat} {P : Option Value → pm_H → Prop} {w : pm_H} {sh : Shp} {w0 : pm_H} {s : Hp} (hS : St sh) (h : Rw sh w0 s w) {o : Hp} (hx : xb_clearTally s = some o) (kr : ∀ w1, Rw sh w0 o w1 → P none w1) : wp d 73 0 (lv_args 0 [.ref 130]) [] w P := by
  show wp _ 73 0 [(0, .ref 130)] [] w _
  unfold xb_clearTally at hx
  refine wp_g 2 (pc1 := 2) (lv1 := [(1, .int (Int32.ofInt 0)), (0, .ref 130)]) (st1 := []) (w1 := w) rfl ?_
  refine wp_lv (lv1 := [(0, .ref 130), (1, .int (Int32.ofInt 0))]) (lsub_p [1, 0] rfl rfl rfl) ?_
  obtain ⟨q1, e2, hx⟩ := bd hx
  refine wp_lp (σ := Int × Hp) (ρ := (Int × Hp)) (B := fun q => xb_clearTally_b2 q.2 q.1) (R := fun q w' => Rw sh w0 q.2 w') (C := fun r => ∀ w1, Rw sh w0 r.2 w1 → wp d 73 22 [(0, .ref 130), (1, .int (Int32.ofInt r.1))] [] w1 P) (lv := fun q => [(0, .ref 130), (1, .int (Int32.ofInt q.1))]) (hd := 2) (fun q w' o hR hb kn kc => xb_clearTally_b2_ok hS hR hb kn kc) _ _ _ e2 h ?_
  intro w3 h4
  show wp _ 73 22 [(0, .ref 130), (1, .int (Int32.ofInt q1.1))] [] w3 _
  refine wp_rt (i := .return_) (r := none) (ln := 1) (a := 0) (b := 0) (z := 0) (by decide +kernel) rfl (ret_v (by decide +kernel)) ?_
  cases hx
  exact kr _ h4
noncomputable def xb_markedAs_b5 (s : Hp) (x2 : Int) (x3 : Int) (x4 : Int) : Option ((Int × Int) ⊕ (Int × Int)) :=
  if w32 x4 < w32 ((s 130 2) - 1) then if w32 x4 < w32 8 then (ix 8 x4).bind fun i3 => if w32 (s 35 i3) = w32 x2 then some (.inl (bOr x3 (bShl 1 x4), x4 + 1)) else some (.inl (x3, x4 + 1)) else some (.inr (x3, x4)) else some (.inr (x3, x4))
set_option maxRecDepth 100000 in
theorem xb_markedAs_b5_ok {d : Nat} {P : Option Value → pm_H → Prop} {w : pm_H} {sh : Shp} {w0 : pm_H} {s : Hp} (hS : St sh) {x2 : Int} {x3 : Int} {x4 : Int} (h : Rw sh w0 s w) {o : ((Int × Int) ⊕ (Int × Int))} (hx : xb_markedAs_b5 s x2 x3 x4 = some o) (kn : ∀ (q : Int × Int) w1, o = .inl q → w = w1 → wp d 65 5 [(0, .ref 130), (1, .ref 35), (2, .int (Int32.ofInt x2)), (3, .int (Int32.ofInt q.1)), (4, .int (Int32.ofInt q.2))] [] w1 P) (kc : ∀ (r : (Int × Int)), o = .inr r → (∀ w1, w = w1 → wp d 65 44 [(0, .ref 130), (1, .ref 35), (2, .int (Int32.ofInt x2)), (3, .int (Int32.ofInt r.1)), (4, .int (Int32.ofInt r.2))] [] w1 P)) : wp d 65 5 [(0, .ref 130), (1, .ref 35), (2, .int (Int32.ofInt x2)), (3, .int (Int32.ofInt x3)), (4, .int (Int32.ofInt x4))] [] w P := by
  unfold xb_markedAs_b5 at hx
  refine wp_g 2 (pc1 := 8) (lv1 := [(0, .ref 130), (1, .ref 35), (2, .int (Int32.ofInt x2)), (3, .int (Int32.ofInt x3)), (4, .int (Int32.ofInt x4))]) (st1 := [.ref 130, .int (Int32.ofInt x4)]) (w1 := w) rfl ?_
  refine wx_gi (kf := 19) (ln := 3) (ci := 8) (b := 2) (zz := 0) (x := 130) (by decide +kernel) h (hS _ _ sx_130) rfl ?_
  show wp _ 65 11 [(0, .ref 130), (1, .ref 35), (2, .int (Int32.ofInt x2)), (3, .int (Int32.ofInt x3)), (4, .int (Int32.ofInt x4))] [.int (Int32.ofInt (s 130 2)), .int (Int32.ofInt x4)] w _
  refine wp_g 2 (pc1 := 13) (lv1 := [(0, .ref 130), (1, .ref 35), (2, .int (Int32.ofInt x2)), (3, .int (Int32.ofInt x3)), (4, .int (Int32.ofInt x4))]) (st1 := [.int (Int32.ofInt ((s 130 2) - 1)), .int (Int32.ofInt x4)]) (w1 := w) (by simp only [Int32.ofInt_add, Int32.ofInt_sub, Int32.ofInt_mul, Int32.ofInt_neg, p_and, p_or, p_xor, p_shl, p_shr, p_usr, p_w8, p_c16, p_lI, q_and, q_or, q_shl, q_shr, q_w32, Int64.ofInt_add, Int64.ofInt_sub, Int64.ofInt_mul, p_mx, p_mn, q_mx, q_mn]; rfl) ?_
  refine wx_ge (oo := 31) (ln := 3) (a := 44) (b := 0) (zz := 0) (by decide +kernel) (fun h1 => ?_) (fun h1 => ?_)
  · have hx := ite_f h1 hx
    cases hx
    exact kc _ rfl _ rfl
  · have hx := ite_t h1 hx
    refine wp_g 2 (pc1 := 19) (lv1 := [(0, .ref 130), (1, .ref 35), (2, .int (Int32.ofInt x2)), (3, .int (Int32.ofInt x3)), (4, .int (Int32.ofInt x4))]) (st1 := [.ref 35, .int (Int32.ofInt x4)]) (w1 := w) rfl ?_
    refine wx_ln (n := 8) (t := 0) (ln := 1) (a := 0) (b := 0) (zz := 0) (by decide +kernel) h (hS _ _ sx_35) ?_
    show wp _ 65 20 [(0, .ref 130), (1, .ref 35), (2, .int (Int32.ofInt x2)), (3, .int (Int32.ofInt x3)), (4, .int (Int32.ofInt x4))] [.int (Int32.ofInt 8), .int (Int32.ofInt x4)] w _
    refine wx_ge (oo := 24) (ln := 3) (a := 44) (b := 0) (zz := 0) (by decide +kernel) (fun h2 => ?_) (fun h2 => ?_)
    · have hx := ite_f h2 hx
      cases hx
      exact kc _ rfl _ rfl
    · have hx := ite_t h2 hx
      refine wp_g 2 (pc1 := 26) (lv1 := [(0, .ref 130), (1, .ref 35), (2, .int (Int32.ofInt x2)), (3, .int (Int32.ofInt x3)), (4, .int (Int32.ofInt x4))]) (st1 := [.int (Int32.ofInt x4), .ref 35]) (w1 := w) rfl ?_
      obtain ⟨i3, e4, hx⟩ := bd hx
      refine wx_ra (x := 35) (n := 8) (ln := 1) (a := 0) (b := 0) (zz := 0) (by decide +kernel) h (hS _ _ sx_35) e4 ?_
      show wp _ 65 27 [(0, .ref 130), (1, .ref 35), (2, .int (Int32.ofInt x2)), (3, .int (Int32.ofInt x3)), (4, .int (Int32.ofInt x4))] [.int (Int32.ofInt (s 35 i3))] w _
      refine wp_g 1 (pc1 := 28) (lv1 := [(0, .ref 130), (1, .ref 35), (2, .int (Int32.ofInt x2)), (3, .int (Int32.ofInt x3)), (4, .int (Int32.ofInt x4))]) (st1 := [.int (Int32.ofInt x2), .int (Int32.ofInt (s 35 i3))]) (w1 := w) rfl ?_
      refine wx_ne (oo := 10) (ln := 3) (a := 38) (b := 0) (zz := 0) (by decide +kernel) (fun h5 => ?_) (fun h5 => ?_)
      · have hx := ite_f h5 hx
        refine wp_g 2 (pc1 := 5) (lv1 := [(4, .int (Int32.ofInt (x4 + 1))), (0, .ref 130), (1, .ref 35), (2, .int (Int32.ofInt x2)), (3, .int (Int32.ofInt x3))]) (st1 := []) (w1 := w) (by simp only [Int32.ofInt_add, Int32.ofInt_sub, Int32.ofInt_mul, Int32.ofInt_neg, p_and, p_or, p_xor, p_shl, p_shr, p_usr, p_w8, p_c16, p_lI, q_and, q_or, q_shl, q_shr, q_w32, Int64.ofInt_add, Int64.ofInt_sub, Int64.ofInt_mul, p_mx, p_mn, q_mx, q_mn]; rfl) ?_
        refine wp_lv (lv1 := [(0, .ref 130), (1, .ref 35), (2, .int (Int32.ofInt x2)), (3, .int (Int32.ofInt x3)), (4, .int (Int32.ofInt (x4 + 1)))]) (lsub_p [1, 2, 3, 4, 0] rfl rfl rfl) ?_
        cases hx
        exact kn _ _ rfl rfl
      · have hx := ite_t h5 hx
        refine wp_g 8 (pc1 := 5) (lv1 := [(4, .int (Int32.ofInt (x4 + 1))), (3, .int (Int32.ofInt (bOr x3 (bShl 1 x4)))), (0, .ref 130), (1, .ref 35), (2, .int (Int32.ofInt x2))]) (st1 := []) (w1 := w) (by simp only [Int32.ofInt_add, Int32.ofInt_sub, Int32.ofInt_mul, Int32.ofInt_neg, p_and, p_or, p_xor, p_shl, p_shr, p_usr, p_w8, p_c16, p_lI, q_and, q_or, q_shl, q_shr, q_w32, Int64.ofInt_add, Int64.ofInt_sub, Int64.ofInt_mul, p_mx, p_mn, q_mx, q_mn]; rfl) ?_
        refine wp_lv (lv1 := [(0, .ref 130), (1, .ref 35), (2, .int (Int32.ofInt x2)), (3, .int (Int32.ofInt (bOr x3 (bShl 1 x4)))), (4, .int (Int32.ofInt (x4 + 1)))]) (lsub_p [2, 3, 4, 1, 0] rfl rfl rfl) ?_
        cases hx
        exact kn _ _ rfl rfl
/-- StackBook.markedAs ([II)I -/
noncomputable def xb_markedAs (s : Hp) (p2 : Int) : Option Int :=
  (lp (fun (q : Int × Int) => xb_markedAs_b5 s p2 q.1 q.2) (0, 0)).bind fun q1 => some q1.1
set_option maxRecDepth 100000 in
theorem xb_markedAs_ok {d : Nat} {P : Option Value → pm_H → Prop} {w : pm_H} {sh : Shp} {w0 : pm_H} {s : Hp} (hS : St sh) {p2 : Int} (h : Rw sh w0 s w) {o : Int} (hx : xb_markedAs s p2 = some o) (kr : P (some (.int (Int32.ofInt o))) w) : wp d 65 0 (lv_args 0 [.ref 130, .ref 35, .int (Int32.ofInt p2)]) [] w P := by
  show wp _ 65 0 [(0, .ref 130), (1, .ref 35), (2, .int (Int32.ofInt p2))] [] w _
  unfold xb_markedAs at hx
  refine wp_g 4 (pc1 := 5) (lv1 := [(4, .int (Int32.ofInt 0)), (3, .int (Int32.ofInt 0)), (0, .ref 130), (1, .ref 35), (2, .int (Int32.ofInt p2))]) (st1 := []) (w1 := w) rfl ?_
  refine wp_lv (lv1 := [(0, .ref 130), (1, .ref 35), (2, .int (Int32.ofInt p2)), (3, .int (Int32.ofInt 0)), (4, .int (Int32.ofInt 0))]) (lsub_p [2, 3, 4, 1, 0] rfl rfl rfl) ?_
  obtain ⟨q1, e2, hx⟩ := bd hx
  refine wp_lp (σ := Int × Int) (ρ := (Int × Int)) (B := fun q => xb_markedAs_b5 s p2 q.1 q.2) (R := fun q w' => w = w') (C := fun r => ∀ w1, w = w1 → wp d 65 44 [(0, .ref 130), (1, .ref 35), (2, .int (Int32.ofInt p2)), (3, .int (Int32.ofInt r.1)), (4, .int (Int32.ofInt r.2))] [] w1 P) (lv := fun q => [(0, .ref 130), (1, .ref 35), (2, .int (Int32.ofInt p2)), (3, .int (Int32.ofInt q.1)), (4, .int (Int32.ofInt q.2))]) (hd := 5) (fun q w' o hR hb kn kc => by subst hR; exact xb_markedAs_b5_ok hS h hb kn kc) _ _ _ e2 rfl ?_
  intro w3 h4
  subst h4
  show wp _ 65 44 [(0, .ref 130), (1, .ref 35), (2, .int (Int32.ofInt p2)), (3, .int (Int32.ofInt q1.1)), (4, .int (Int32.ofInt q1.2))] [] w _
  refine wp_g 1 (pc1 := 45) (lv1 := [(0, .ref 130), (1, .ref 35), (2, .int (Int32.ofInt p2)), (3, .int (Int32.ofInt q1.1)), (4, .int (Int32.ofInt q1.2))]) (st1 := [.int (Int32.ofInt q1.1)]) (w1 := w) rfl ?_
  refine wp_rt (i := .ireturn) (r := some (.int (Int32.ofInt q1.1))) (ln := 1) (a := 0) (b := 0) (z := 0) (by decide +kernel) rfl (ret_ok (by decide +kernel)) ?_
  cases hx
  exact kr
/-- StackBook.cellAt (II)I -/
noncomputable def xb_cellAt (p0 : Int) (p1 : Int) : Option Int :=
  (xb_shiftOf p1).bind fun o1 => some (bAnd (bShr p0 o1) 7)
set_option maxRecDepth 100000 in
theorem xb_cellAt_ok {d : Nat} {P : Option Value → pm_H → Prop} {w : pm_H} {p0 : Int} {p1 : Int} {o : Int} (hx : xb_cellAt p0 p1 = some o) (kr : P (some (.int (Int32.ofInt o))) w) : wp (d + 1) 74 0 (lv_args 0 [.int (Int32.ofInt p0), .int (Int32.ofInt p1)]) [] w P := by
  show wp _ 74 0 [(0, .int (Int32.ofInt p0)), (1, .int (Int32.ofInt p1))] [] w _
  unfold xb_cellAt at hx
  refine wp_g 2 (pc1 := 2) (lv1 := [(0, .int (Int32.ofInt p0)), (1, .int (Int32.ofInt p1))]) (st1 := [.int (Int32.ofInt p1), .int (Int32.ofInt p0)]) (w1 := w) rfl ?_
  obtain ⟨o1, e2, hx⟩ := bd hx
  refine wp_cl [.int (Int32.ofInt p1)] [.int (Int32.ofInt p0)] (i := .invokestatic 68) (ln := 3) (a := 75) (b := 1) (z := 0) (by decide +kernel) rfl rfl (by decide) rfl (show (1 : Nat) = pm_na 75 by decide +kernel) (Nat.le_of_ble_eq_true rfl) (show (1 : Nat) ≤ pm_n 75 by decide +kernel) (by rw [show pm_k 75 = 1 by decide +kernel]; rfl) (xb_shiftOf_ok (d := d) e2 ?_)
  show wp _ 74 5 [(0, .int (Int32.ofInt p0)), (1, .int (Int32.ofInt p1))] [.int (Int32.ofInt o1), .int (Int32.ofInt p0)] w _
  refine wp_g 3 (pc1 := 9) (lv1 := [(0, .int (Int32.ofInt p0)), (1, .int (Int32.ofInt p1))]) (st1 := [.int (Int32.ofInt (bAnd (bShr p0 o1) 7))]) (w1 := w) (by simp only [Int32.ofInt_add, Int32.ofInt_sub, Int32.ofInt_mul, Int32.ofInt_neg, p_and, p_or, p_xor, p_shl, p_shr, p_usr, p_w8, p_c16, p_lI, q_and, q_or, q_shl, q_shr, q_w32, Int64.ofInt_add, Int64.ofInt_sub, Int64.ofInt_mul, p_mx, p_mn, q_mx, q_mn]; rfl) ?_
  refine wp_rt (i := .ireturn) (r := some (.int (Int32.ofInt (bAnd (bShr p0 o1) 7)))) (ln := 1) (a := 0) (b := 0) (z := 0) (by decide +kernel) rfl (ret_ok (by decide +kernel)) ?_
  cases hx
  exact kr
noncomputable def xb_countLayers_b2 (s : Hp) (x1 : Int) (x2 : Int) : Option ((Int × Hp) ⊕ (Int × Hp)) :=
  if w32 x2 < w32 (s 130 2) then (xb_cellAt x1 x2).bind fun o2 => (ix 128 ((8 * o2) + x2)).bind fun i6 => (some (uh s 133 i6 ((s 133 i6) + 1))).bind fun s8 => some (.inl (x2 + 1, s8)) else some (.inr (x2, s))
set_option maxRecDepth 100000 in
theorem xb_countLayers_b2_ok {d : Nat} {P : Option Value → pm_H → Prop} {w : pm_H} {sh : Shp} {w0 : pm_H} {s : Hp} (hS : St sh) {x1 : Int} {x2 : Int} (h : Rw sh w0 s w) {o : ((Int × Hp) ⊕ (Int × Hp))} (hx : xb_countLayers_b2 s x1 x2 = some o) (kn : ∀ (q : Int × Hp) w1, o = .inl q → Rw sh w0 q.2 w1 → wp (d + 2) 66 2 [(0, .ref 130), (1, .int (Int32.ofInt x1)), (2, .int (Int32.ofInt q.1))] [] w1 P) (kc : ∀ (r : (Int × Hp)), o = .inr r → (∀ w1, Rw sh w0 r.2 w1 → wp (d + 2) 66 35 [(0, .ref 130), (1, .int (Int32.ofInt x1)), (2, .int (Int32.ofInt r.1))] [] w1 P)) : wp (d + 2) 66 2 [(0, .ref 130), (1, .int (Int32.ofInt x1)), (2, .int (Int32.ofInt x2))] [] w P := by
  unfold xb_countLayers_b2 at hx
  refine wp_g 2 (pc1 := 4) (lv1 := [(0, .ref 130), (1, .int (Int32.ofInt x1)), (2, .int (Int32.ofInt x2))]) (st1 := [.ref 130, .int (Int32.ofInt x2)]) (w1 := w) rfl ?_
  refine wx_gi (kf := 19) (ln := 3) (ci := 8) (b := 2) (zz := 0) (x := 130) (by decide +kernel) h (hS _ _ sx_130) rfl ?_
  show wp _ 66 7 [(0, .ref 130), (1, .int (Int32.ofInt x1)), (2, .int (Int32.ofInt x2))] [.int (Int32.ofInt (s 130 2)), .int (Int32.ofInt x2)] w _
  refine wx_ge (oo := 28) (ln := 3) (a := 35) (b := 0) (zz := 0) (by decide +kernel) (fun h1 => ?_) (fun h1 => ?_)
  · have hx := ite_f h1 hx
    cases hx
    exact kc _ rfl _ h
  · have hx := ite_t h1 hx
    refine wp_g 1 (pc1 := 11) (lv1 := [(0, .ref 130), (1, .int (Int32.ofInt x1)), (2, .int (Int32.ofInt x2))]) (st1 := [.ref 130]) (w1 := w) rfl ?_
    refine wx_gr (o := 3) (kf := 25) (ln := 3) (ci := 8) (b := 4) (zz := 0) (x := 130) (by decide +kernel) h (hS _ _ sx_130) rfl ?_
    show wp _ 66 14 [(0, .ref 130), (1, .int (Int32.ofInt x1)), (2, .int (Int32.ofInt x2))] [.ref 133] w _
    refine wp_g 3 (pc1 := 18) (lv1 := [(0, .ref 130), (1, .int (Int32.ofInt x1)), (2, .int (Int32.ofInt x2))]) (st1 := [.int (Int32.ofInt x2), .int (Int32.ofInt x1), .int (Int32.ofInt 8), .ref 133]) (w1 := w) rfl ?_
    obtain ⟨o2, e3, hx⟩ := bd hx
    refine wp_cl [.int (Int32.ofInt x1), .int (Int32.ofInt x2)] [.int (Int32.ofInt 8), .ref 133] (i := .invokestatic 55) (ln := 3) (a := 74) (b := 1) (z := 0) (by decide +kernel) rfl rfl (by decide) rfl (show (2 : Nat) = pm_na 74 by decide +kernel) (Nat.le_of_ble_eq_true rfl) (show (2 : Nat) ≤ pm_n 74 by decide +kernel) (by rw [show pm_k 74 = 1 by decide +kernel]; rfl) (xb_cellAt_ok (d := d) e3 ?_)
    show wp _ 66 21 [(0, .ref 130), (1, .int (Int32.ofInt x1)), (2, .int (Int32.ofInt x2))] [.int (Int32.ofInt o2), .int (Int32.ofInt 8), .ref 133] w _
    refine wp_g 4 (pc1 := 25) (lv1 := [(0, .ref 130), (1, .int (Int32.ofInt x1)), (2, .int (Int32.ofInt x2))]) (st1 := [.int (Int32.ofInt ((8 * o2) + x2)), .ref 133, .int (Int32.ofInt ((8 * o2) + x2)), .ref 133]) (w1 := w) (by simp only [Int32.ofInt_add, Int32.ofInt_sub, Int32.ofInt_mul, Int32.ofInt_neg, p_and, p_or, p_xor, p_shl, p_shr, p_usr, p_w8, p_c16, p_lI, q_and, q_or, q_shl, q_shr, q_w32, Int64.ofInt_add, Int64.ofInt_sub, Int64.ofInt_mul, p_mx, p_mn, q_mx, q_mn]; rfl) ?_
    obtain ⟨i6, e7, hx⟩ := bd hx
    refine wx_ra (x := 133) (n := 128) (ln := 1) (a := 0) (b := 0) (zz := 0) (by decide +kernel) h (hS _ _ sx_133) e7 ?_
    show wp _ 66 26 [(0, .ref 130), (1, .int (Int32.ofInt x1)), (2, .int (Int32.ofInt x2))] [.int (Int32.ofInt (s 133 i6)), .int (Int32.ofInt ((8 * o2) + x2)), .ref 133] w _
    refine wp_g 2 (pc1 := 28) (lv1 := [(0, .ref 130), (1, .int (Int32.ofInt x1)), (2, .int (Int32.ofInt x2))]) (st1 := [.int (Int32.ofInt ((s 133 i6) + 1)), .int (Int32.ofInt ((8 * o2) + x2)), .ref 133]) (w1 := w) (by simp only [Int32.ofInt_add, Int32.ofInt_sub, Int32.ofInt_mul, Int32.ofInt_neg, p_and, p_or, p_xor, p_shl, p_shr, p_usr, p_w8, p_c16, p_lI, q_and, q_or, q_shl, q_shr, q_w32, Int64.ofInt_add, Int64.ofInt_sub, Int64.ofInt_mul, p_mx, p_mn, q_mx, q_mn]; rfl) ?_
    obtain ⟨s8, e9, hx⟩ := bd hx
    refine wx_wa (x := 133) (n := 128) (ln := 1) (a := 0) (b := 0) (zz := 0) (by decide +kernel) h (hS _ _ sx_133) e7 e9 (fun w10 h11 => ?_)
    refine wp_g 2 (pc1 := 2) (lv1 := [(2, .int (Int32.ofInt (x2 + 1))), (0, .ref 130), (1, .int (Int32.ofInt x1))]) (st1 := []) (w1 := w10) (by simp only [Int32.ofInt_add, Int32.ofInt_sub, Int32.ofInt_mul, Int32.ofInt_neg, p_and, p_or, p_xor, p_shl, p_shr, p_usr, p_w8, p_c16, p_lI, q_and, q_or, q_shl, q_shr, q_w32, Int64.ofInt_add, Int64.ofInt_sub, Int64.ofInt_mul, p_mx, p_mn, q_mx, q_mn]; rfl) ?_
    refine wp_lv (lv1 := [(0, .ref 130), (1, .int (Int32.ofInt x1)), (2, .int (Int32.ofInt (x2 + 1)))]) (lsub_p [1, 2, 0] rfl rfl rfl) ?_
    cases hx
    exact kn _ _ rfl h11
/-- StackBook.countLayers (I)V -/
noncomputable def xb_countLayers (s : Hp) (p1 : Int) : Option Hp :=
  (lp (fun (q : Int × Hp) => xb_countLayers_b2 q.2 p1 q.1) (0, s)).bind fun q1 => some q1.2
set_option maxRecDepth 100000 in
theorem xb_countLayers_ok {d : Nat} {P : Option Value → pm_H → Prop} {w : pm_H} {sh : Shp} {w0 : pm_H} {s : Hp} (hS : St sh) {p1 : Int} (h : Rw sh w0 s w) {o : Hp} (hx : xb_countLayers s p1 = some o) (kr : ∀ w1, Rw sh w0 o w1 → P none w1) : wp (d + 2) 66 0 (lv_args 0 [.ref 130, .int (Int32.ofInt p1)]) [] w P := by
  show wp _ 66 0 [(0, .ref 130), (1, .int (Int32.ofInt p1))] [] w _
  unfold xb_countLayers at hx
  refine wp_g 2 (pc1 := 2) (lv1 := [(2, .int (Int32.ofInt 0)), (0, .ref 130), (1, .int (Int32.ofInt p1))]) (st1 := []) (w1 := w) rfl ?_
  refine wp_lv (lv1 := [(0, .ref 130), (1, .int (Int32.ofInt p1)), (2, .int (Int32.ofInt 0))]) (lsub_p [1, 2, 0] rfl rfl rfl) ?_
  obtain ⟨q1, e2, hx⟩ := bd hx
  refine wp_lp (σ := Int × Hp) (ρ := (Int × Hp)) (B := fun q => xb_countLayers_b2 q.2 p1 q.1) (R := fun q w' => Rw sh w0 q.2 w') (C := fun r => ∀ w1, Rw sh w0 r.2 w1 → wp (d + 2) 66 35 [(0, .ref 130), (1, .int (Int32.ofInt p1)), (2, .int (Int32.ofInt r.1))] [] w1 P) (lv := fun q => [(0, .ref 130), (1, .int (Int32.ofInt p1)), (2, .int (Int32.ofInt q.1))]) (hd := 2) (fun q w' o hR hb kn kc => xb_countLayers_b2_ok hS hR hb kn kc) _ _ _ e2 h ?_
  intro w3 h4
  show wp _ 66 35 [(0, .ref 130), (1, .int (Int32.ofInt p1)), (2, .int (Int32.ofInt q1.1))] [] w3 _
  refine wp_rt (i := .return_) (r := none) (ln := 1) (a := 0) (b := 0) (z := 0) (by decide +kernel) rfl (ret_v (by decide +kernel)) ?_
  cases hx
  exact kr _ h4
noncomputable def xb_choose_b45 (s : Hp) (x3 : Int) (x4 : Int) (x5 : Int) : Option ((Int × Hp) ⊕ (Int × Hp)) :=
  if w32 x5 < w32 (s 130 1) then (ix 1392 x5).bind fun i2 => if w32 (bAnd (s 131 i2) x3) = w32 x4 then (some (uh s 130 5 ((s 130 5) + 1))).bind fun s5 => (some (uh s5 130 6 (mnI (s5 130 6) (s5 131 i2)))).bind fun s9 => (xb_countLayers s9 (s9 131 i2)).bind fun o13 => some (.inl (x5 + 1, o13)) else some (.inl (x5 + 1, s)) else some (.inr (x5, s))
set_option maxRecDepth 100000 in
theorem xb_choose_b45_ok {d : Nat} {P : Option Value → pm_H → Prop} {w : pm_H} {sh : Shp} {w0 : pm_H} {s : Hp} (hS : St sh) {x3 : Int} {x4 : Int} {x5 : Int} (h : Rw sh w0 s w) {o : ((Int × Hp) ⊕ (Int × Hp))} (hx : xb_choose_b45 s x3 x4 x5 = some o) (kn : ∀ (q : Int × Hp) w1, o = .inl q → Rw sh w0 q.2 w1 → wp (d + 16) 64 45 [(0, .ref 130), (3, .int (Int32.ofInt x3)), (4, .int (Int32.ofInt x4)), (5, .int (Int32.ofInt q.1))] [] w1 P) (kc : ∀ (r : (Int × Hp)), o = .inr r → (∀ w1, Rw sh w0 r.2 w1 → wp (d + 16) 64 113 [(0, .ref 130), (3, .int (Int32.ofInt x3)), (4, .int (Int32.ofInt x4)), (5, .int (Int32.ofInt r.1))] [] w1 P)) : wp (d + 16) 64 45 [(0, .ref 130), (3, .int (Int32.ofInt x3)), (4, .int (Int32.ofInt x4)), (5, .int (Int32.ofInt x5))] [] w P := by
  unfold xb_choose_b45 at hx
  refine wp_g 2 (pc1 := 48) (lv1 := [(0, .ref 130), (3, .int (Int32.ofInt x3)), (4, .int (Int32.ofInt x4)), (5, .int (Int32.ofInt x5))]) (st1 := [.ref 130, .int (Int32.ofInt x5)]) (w1 := w) rfl ?_
  refine wx_gi (kf := 15) (ln := 3) (ci := 8) (b := 1) (zz := 0) (x := 130) (by decide +kernel) h (hS _ _ sx_130) rfl ?_
  show wp _ 64 51 [(0, .ref 130), (3, .int (Int32.ofInt x3)), (4, .int (Int32.ofInt x4)), (5, .int (Int32.ofInt x5))] [.int (Int32.ofInt (s 130 1)), .int (Int32.ofInt x5)] w _
  refine wx_ge (oo := 62) (ln := 3) (a := 113) (b := 0) (zz := 0) (by decide +kernel) (fun h1 => ?_) (fun h1 => ?_)
  · have hx := ite_f h1 hx
    cases hx
    exact kc _ rfl _ h
  · have hx := ite_t h1 hx
    refine wp_g 1 (pc1 := 55) (lv1 := [(0, .ref 130), (3, .int (Int32.ofInt x3)), (4, .int (Int32.ofInt x4)), (5, .int (Int32.ofInt x5))]) (st1 := [.ref 130]) (w1 := w) rfl ?_
    refine wx_gr (o := 1) (kf := 9) (ln := 3) (ci := 8) (b := 0) (zz := 0) (x := 130) (by decide +kernel) h (hS _ _ sx_130) rfl ?_
    show wp _ 64 58 [(0, .ref 130), (3, .int (Int32.ofInt x3)), (4, .int (Int32.ofInt x4)), (5, .int (Int32.ofInt x5))] [.ref 131] w _
    refine wp_g 1 (pc1 := 60) (lv1 := [(0, .ref 130), (3, .int (Int32.ofInt x3)), (4, .int (Int32.ofInt x4)), (5, .int (Int32.ofInt x5))]) (st1 := [.int (Int32.ofInt x5), .ref 131]) (w1 := w) rfl ?_
    obtain ⟨i2, e3, hx⟩ := bd hx
    refine wx_ra (x := 131) (n := 1392) (ln := 1) (a := 0) (b := 0) (zz := 0) (by decide +kernel) h (hS _ _ sx_131) e3 ?_
    show wp _ 64 61 [(0, .ref 130), (3, .int (Int32.ofInt x3)), (4, .int (Int32.ofInt x4)), (5, .int (Int32.ofInt x5))] [.int (Int32.ofInt (s 131 i2))] w _
    refine wp_g 3 (pc1 := 65) (lv1 := [(0, .ref 130), (3, .int (Int32.ofInt x3)), (4, .int (Int32.ofInt x4)), (5, .int (Int32.ofInt x5))]) (st1 := [.int (Int32.ofInt x4), .int (Int32.ofInt (bAnd (s 131 i2) x3))]) (w1 := w) (by simp only [Int32.ofInt_add, Int32.ofInt_sub, Int32.ofInt_mul, Int32.ofInt_neg, p_and, p_or, p_xor, p_shl, p_shr, p_usr, p_w8, p_c16, p_lI, q_and, q_or, q_shl, q_shr, q_w32, Int64.ofInt_add, Int64.ofInt_sub, Int64.ofInt_mul, p_mx, p_mn, q_mx, q_mn]; rfl) ?_
    refine wx_ne (oo := 42) (ln := 3) (a := 107) (b := 0) (zz := 0) (by decide +kernel) (fun h4 => ?_) (fun h4 => ?_)
    · have hx := ite_f h4 hx
      refine wp_g 2 (pc1 := 45) (lv1 := [(5, .int (Int32.ofInt (x5 + 1))), (0, .ref 130), (3, .int (Int32.ofInt x3)), (4, .int (Int32.ofInt x4))]) (st1 := []) (w1 := w) (by simp only [Int32.ofInt_add, Int32.ofInt_sub, Int32.ofInt_mul, Int32.ofInt_neg, p_and, p_or, p_xor, p_shl, p_shr, p_usr, p_w8, p_c16, p_lI, q_and, q_or, q_shl, q_shr, q_w32, Int64.ofInt_add, Int64.ofInt_sub, Int64.ofInt_mul, p_mx, p_mn, q_mx, q_mn]; rfl) ?_
      refine wp_lv (lv1 := [(0, .ref 130), (3, .int (Int32.ofInt x3)), (4, .int (Int32.ofInt x4)), (5, .int (Int32.ofInt (x5 + 1)))]) (lsub_p [1, 2, 3, 0] rfl rfl rfl) ?_
      cases hx
      exact kn _ _ rfl h
    · have hx := ite_t h4 hx
      refine wp_g 2 (pc1 := 70) (lv1 := [(0, .ref 130), (3, .int (Int32.ofInt x3)), (4, .int (Int32.ofInt x4)), (5, .int (Int32.ofInt x5))]) (st1 := [.ref 130, .ref 130]) (w1 := w) rfl ?_
      refine wx_gi (kf := 28) (ln := 3) (ci := 8) (b := 5) (zz := 0) (x := 130) (by decide +kernel) h (hS _ _ sx_130) rfl ?_
      show wp _ 64 73 [(0, .ref 130), (3, .int (Int32.ofInt x3)), (4, .int (Int32.ofInt x4)), (5, .int (Int32.ofInt x5))] [.int (Int32.ofInt (s 130 5)), .ref 130] w _
      refine wp_g 2 (pc1 := 75) (lv1 := [(0, .ref 130), (3, .int (Int32.ofInt x3)), (4, .int (Int32.ofInt x4)), (5, .int (Int32.ofInt x5))]) (st1 := [.int (Int32.ofInt ((s 130 5) + 1)), .ref 130]) (w1 := w) (by simp only [Int32.ofInt_add, Int32.ofInt_sub, Int32.ofInt_mul, Int32.ofInt_neg, p_and, p_or, p_xor, p_shl, p_shr, p_usr, p_w8, p_c16, p_lI, q_and, q_or, q_shl, q_shr, q_w32, Int64.ofInt_add, Int64.ofInt_sub, Int64.ofInt_mul, p_mx, p_mn, q_mx, q_mn]; rfl) ?_
      obtain ⟨s5, e6, hx⟩ := bd hx
      refine wx_pi (kf := 28) (ln := 3) (ci := 8) (b := 5) (zz := 0) (x := 130) (by decide +kernel) h (hS _ _ sx_130) rfl (by decide +kernel) e6 (fun w7 h8 => ?_)
      refine wp_g 2 (pc1 := 80) (lv1 := [(0, .ref 130), (3, .int (Int32.ofInt x3)), (4, .int (Int32.ofInt x4)), (5, .int (Int32.ofInt x5))]) (st1 := [.ref 130, .ref 130]) (w1 := w7) rfl ?_
      refine wx_gi (kf := 31) (ln := 3) (ci := 8) (b := 6) (zz := 0) (x := 130) (by decide +kernel) h8 (hS _ _ sx_130) rfl ?_
      show wp _ 64 83 [(0, .ref 130), (3, .int (Int32.ofInt x3)), (4, .int (Int32.ofInt x4)), (5, .int (Int32.ofInt x5))] [.int (Int32.ofInt (s5 130 6)), .ref 130] w7 _
      refine wp_g 1 (pc1 := 84) (lv1 := [(0, .ref 130), (3, .int (Int32.ofInt x3)), (4, .int (Int32.ofInt x4)), (5, .int (Int32.ofInt x5))]) (st1 := [.ref 130, .int (Int32.ofInt (s5 130 6)), .ref 130]) (w1 := w7) rfl ?_
      refine wx_gr (o := 1) (kf := 9) (ln := 3) (ci := 8) (b := 0) (zz := 0) (x := 130) (by decide +kernel) h8 (hS _ _ sx_130) rfl ?_
      show wp _ 64 87 [(0, .ref 130), (3, .int (Int32.ofInt x3)), (4, .int (Int32.ofInt x4)), (5, .int (Int32.ofInt x5))] [.ref 131, .int (Int32.ofInt (s5 130 6)), .ref 130] w7 _
      refine wp_g 1 (pc1 := 89) (lv1 := [(0, .ref 130), (3, .int (Int32.ofInt x3)), (4, .int (Int32.ofInt x4)), (5, .int (Int32.ofInt x5))]) (st1 := [.int (Int32.ofInt x5), .ref 131, .int (Int32.ofInt (s5 130 6)), .ref 130]) (w1 := w7) rfl ?_
      refine wx_ra (x := 131) (n := 1392) (ln := 1) (a := 0) (b := 0) (zz := 0) (by decide +kernel) h8 (hS _ _ sx_131) e3 ?_
      show wp _ 64 90 [(0, .ref 130), (3, .int (Int32.ofInt x3)), (4, .int (Int32.ofInt x4)), (5, .int (Int32.ofInt x5))] [.int (Int32.ofInt (s5 131 i2)), .int (Int32.ofInt (s5 130 6)), .ref 130] w7 _
      refine wp_lb (i := .invokestatic 46) (ln := 3) (a := 1002) (b := 9) (z := 0) (st1 := [.int (Int32.ofInt (mnI (s5 130 6) (s5 131 i2))), .ref 130]) (w1 := w7) (by decide +kernel) rfl rfl (by decide) (by simp only [Int32.ofInt_add, Int32.ofInt_sub, Int32.ofInt_mul, Int32.ofInt_neg, p_and, p_or, p_xor, p_shl, p_shr, p_usr, p_w8, p_c16, p_lI, q_and, q_or, q_shl, q_shr, q_w32, Int64.ofInt_add, Int64.ofInt_sub, Int64.ofInt_mul, p_mx, p_mn, q_mx, q_mn]; rfl) (Nat.le_of_ble_eq_true rfl) (by omega) ?_
      obtain ⟨s9, e10, hx⟩ := bd hx
      refine wx_pi (kf := 31) (ln := 3) (ci := 8) (b := 6) (zz := 0) (x := 130) (by decide +kernel) h8 (hS _ _ sx_130) rfl (by decide +kernel) e10 (fun w11 h12 => ?_)
      refine wp_g 2 (pc1 := 98) (lv1 := [(0, .ref 130), (3, .int (Int32.ofInt x3)), (4, .int (Int32.ofInt x4)), (5, .int (Int32.ofInt x5))]) (st1 := [.ref 130, .ref 130]) (w1 := w11) rfl ?_
      refine wx_gr (o := 1) (kf := 9) (ln := 3) (ci := 8) (b := 0) (zz := 0) (x := 130) (by decide +kernel) h12 (hS _ _ sx_130) rfl ?_
      show wp _ 64 101 [(0, .ref 130), (3, .int (Int32.ofInt x3)), (4, .int (Int32.ofInt x4)), (5, .int (Int32.ofInt x5))] [.ref 131, .ref 130] w11 _
      refine wp_g 1 (pc1 := 103) (lv1 := [(0, .ref 130), (3, .int (Int32.ofInt x3)), (4, .int (Int32.ofInt x4)), (5, .int (Int32.ofInt x5))]) (st1 := [.int (Int32.ofInt x5), .ref 131, .ref 130]) (w1 := w11) rfl ?_
      refine wx_ra (x := 131) (n := 1392) (ln := 1) (a := 0) (b := 0) (zz := 0) (by decide +kernel) h12 (hS _ _ sx_131) e3 ?_
      show wp _ 64 104 [(0, .ref 130), (3, .int (Int32.ofInt x3)), (4, .int (Int32.ofInt x4)), (5, .int (Int32.ofInt x5))] [.int (Int32.ofInt (s9 131 i2)), .ref 130] w11 _
      obtain ⟨o13, e14, hx⟩ := bd hx
      refine wp_cl [.ref 130, .int (Int32.ofInt (s9 131 i2))] [] (i := .invokevirtual 52) (ln := 3) (a := 66) (b := 0) (z := 0) (by decide +kernel) rfl rfl (by decide) rfl (show (2 : Nat) = pm_na 66 by decide +kernel) (Nat.le_of_ble_eq_true rfl) (show (2 : Nat) ≤ pm_n 66 by decide +kernel) (rcv_x 8 h12 (hS _ _ sx_130) (by decide +kernel)) (xb_countLayers_ok (d := d + 13) hS h12 e14 (fun w15 h16 => ?_))
      show wp _ 64 107 [(0, .ref 130), (3, .int (Int32.ofInt x3)), (4, .int (Int32.ofInt x4)), (5, .int (Int32.ofInt x5))] [] w15 _
      refine wp_g 2 (pc1 := 45) (lv1 := [(5, .int (Int32.ofInt (x5 + 1))), (0, .ref 130), (3, .int (Int32.ofInt x3)), (4, .int (Int32.ofInt x4))]) (st1 := []) (w1 := w15) (by simp only [Int32.ofInt_add, Int32.ofInt_sub, Int32.ofInt_mul, Int32.ofInt_neg, p_and, p_or, p_xor, p_shl, p_shr, p_usr, p_w8, p_c16, p_lI, q_and, q_or, q_shl, q_shr, q_w32, Int64.ofInt_add, Int64.ofInt_sub, Int64.ofInt_mul, p_mx, p_mn, q_mx, q_mn]; rfl) ?_
      refine wp_lv (lv1 := [(0, .ref 130), (3, .int (Int32.ofInt x3)), (4, .int (Int32.ofInt x4)), (5, .int (Int32.ofInt (x5 + 1)))]) (lsub_p [1, 2, 3, 0] rfl rfl rfl) ?_
      cases hx
      exact kn _ _ rfl h16
/-- StackBook.choose (I[I)V -/
noncomputable def xb_choose (s : Hp) (p1 : Int) : Option Hp :=
  (xb_makeRows s p1).bind fun o1 => (xb_clearTally o1).bind fun o5 => (xb_markedAs o5 1).bind fun o9 => (xb_markedAs o5 2).bind fun o13 => (xb_markedAs o5 2).bind fun o17 => (some (uh o5 130 5 0)).bind fun s21 => (some (uh s21 130 6 2147483647)).bind fun s25 => (lp (fun (q : Int × Hp) => xb_choose_b45 q.2 (bOr o9 o13) o17 q.1) (0, s25)).bind fun q29 => some q29.2
set_option maxRecDepth 100000 in
theorem xb_choose_ok {d : Nat} {P : Option Value → pm_H → Prop} {w : pm_H} {sh : Shp} {w0 : pm_H} {s : Hp} (hS : St sh) {p1 : Int} (h : Rw sh w0 s w) {o : Hp} (hx : xb_choose s p1 = some o) (kr : ∀ w1, Rw sh w0 o w1 → P none w1) : wp (d + 16) 64 0 (lv_args 0 [.ref 130, .int (Int32.ofInt p1), .ref 35]) [] w P := by
  show wp _ 64 0 [(0, .ref 130), (1, .int (Int32.ofInt p1)), (2, .ref 35)] [] w _
  unfold xb_choose at hx
  refine wp_g 2 (pc1 := 2) (lv1 := [(0, .ref 130), (1, .int (Int32.ofInt p1)), (2, .ref 35)]) (st1 := [.int (Int32.ofInt p1), .ref 130]) (w1 := w) rfl ?_
  obtain ⟨o1, e2, hx⟩ := bd hx
  refine wp_cl [.ref 130, .int (Int32.ofInt p1)] [] (i := .invokevirtual 34) (ln := 3) (a := 76) (b := 0) (z := 0) (by decide +kernel) rfl rfl (by decide) rfl (show (2 : Nat) = pm_na 76 by decide +kernel) (Nat.le_of_ble_eq_true rfl) (show (2 : Nat) ≤ pm_n 76 by decide +kernel) (rcv_x 8 h (hS _ _ sx_130) (by decide +kernel)) (xb_makeRows_ok (d := d) hS h e2 (fun w3 h4 => ?_))
  show wp _ 64 5 [(0, .ref 130), (1, .int (Int32.ofInt p1)), (2, .ref 35)] [] w3 _
  refine wp_g 1 (pc1 := 6) (lv1 := [(0, .ref 130), (1, .int (Int32.ofInt p1)), (2, .ref 35)]) (st1 := [.ref 130]) (w1 := w3) rfl ?_
  obtain ⟨o5, e6, hx⟩ := bd hx
  refine wp_cl [.ref 130] [] (i := .invokevirtual 38) (ln := 3) (a := 73) (b := 0) (z := 0) (by decide +kernel) rfl rfl (by decide) rfl (show (1 : Nat) = pm_na 73 by decide +kernel) (Nat.le_of_ble_eq_true rfl) (show (1 : Nat) ≤ pm_n 73 by decide +kernel) (rcv_x 8 h4 (hS _ _ sx_130) (by decide +kernel)) (xb_clearTally_ok (d := d + 15) hS h4 e6 (fun w7 h8 => ?_))
  show wp _ 64 9 [(0, .ref 130), (1, .int (Int32.ofInt p1)), (2, .ref 35)] [] w7 _
  refine wp_g 3 (pc1 := 12) (lv1 := [(0, .ref 130), (1, .int (Int32.ofInt p1)), (2, .ref 35)]) (st1 := [.int (Int32.ofInt 1), .ref 35, .ref 130]) (w1 := w7) rfl ?_
  obtain ⟨o9, e10, hx⟩ := bd hx
  refine wp_cl [.ref 130, .ref 35, .int (Int32.ofInt 1)] [] (i := .invokevirtual 41) (ln := 3) (a := 65) (b := 0) (z := 0) (by decide +kernel) rfl rfl (by decide) rfl (show (3 : Nat) = pm_na 65 by decide +kernel) (Nat.le_of_ble_eq_true rfl) (show (3 : Nat) ≤ pm_n 65 by decide +kernel) (rcv_x 8 h8 (hS _ _ sx_130) (by decide +kernel)) (xb_markedAs_ok (d := d + 15) hS h8 e10 ?_)
  show wp _ 64 15 [(0, .ref 130), (1, .int (Int32.ofInt p1)), (2, .ref 35)] [.int (Int32.ofInt o9)] w7 _
  refine wp_g 3 (pc1 := 18) (lv1 := [(0, .ref 130), (1, .int (Int32.ofInt p1)), (2, .ref 35)]) (st1 := [.int (Int32.ofInt 2), .ref 35, .ref 130, .int (Int32.ofInt o9)]) (w1 := w7) rfl ?_
  obtain ⟨o13, e14, hx⟩ := bd hx
  refine wp_cl [.ref 130, .ref 35, .int (Int32.ofInt 2)] [.int (Int32.ofInt o9)] (i := .invokevirtual 41) (ln := 3) (a := 65) (b := 0) (z := 0) (by decide +kernel) rfl rfl (by decide) rfl (show (3 : Nat) = pm_na 65 by decide +kernel) (Nat.le_of_ble_eq_true rfl) (show (3 : Nat) ≤ pm_n 65 by decide +kernel) (rcv_x 8 h8 (hS _ _ sx_130) (by decide +kernel)) (xb_markedAs_ok (d := d + 15) hS h8 e14 ?_)
  show wp _ 64 21 [(0, .ref 130), (1, .int (Int32.ofInt p1)), (2, .ref 35)] [.int (Int32.ofInt o13), .int (Int32.ofInt o9)] w7 _
  refine wp_g 5 (pc1 := 26) (lv1 := [(3, .int (Int32.ofInt (bOr o9 o13))), (0, .ref 130), (1, .int (Int32.ofInt p1)), (2, .ref 35)]) (st1 := [.int (Int32.ofInt 2), .ref 35, .ref 130]) (w1 := w7) (by simp only [Int32.ofInt_add, Int32.ofInt_sub, Int32.ofInt_mul, Int32.ofInt_neg, p_and, p_or, p_xor, p_shl, p_shr, p_usr, p_w8, p_c16, p_lI, q_and, q_or, q_shl, q_shr, q_w32, Int64.ofInt_add, Int64.ofInt_sub, Int64.ofInt_mul, p_mx, p_mn, q_mx, q_mn]; rfl) ?_
  obtain ⟨o17, e18, hx⟩ := bd hx
  refine wp_cl [.ref 130, .ref 35, .int (Int32.ofInt 2)] [] (i := .invokevirtual 41) (ln := 3) (a := 65) (b := 0) (z := 0) (by decide +kernel) rfl rfl (by decide) rfl (show (3 : Nat) = pm_na 65 by decide +kernel) (Nat.le_of_ble_eq_true rfl) (show (3 : Nat) ≤ pm_n 65 by decide +kernel) (rcv_x 8 h8 (hS _ _ sx_130) (by decide +kernel)) (xb_markedAs_ok (d := d + 15) hS h8 e18 ?_)
  show wp _ 64 29 [(3, .int (Int32.ofInt (bOr o9 o13))), (0, .ref 130), (1, .int (Int32.ofInt p1)), (2, .ref 35)] [.int (Int32.ofInt o17)] w7 _
  refine wp_g 3 (pc1 := 33) (lv1 := [(4, .int (Int32.ofInt o17)), (3, .int (Int32.ofInt (bOr o9 o13))), (0, .ref 130), (1, .int (Int32.ofInt p1)), (2, .ref 35)]) (st1 := [.int (Int32.ofInt 0), .ref 130]) (w1 := w7) rfl ?_
  obtain ⟨s21, e22, hx⟩ := bd hx
  refine wx_pi (kf := 28) (ln := 3) (ci := 8) (b := 5) (zz := 0) (x := 130) (by decide +kernel) h8 (hS _ _ sx_130) rfl (by decide +kernel) e22 (fun w23 h24 => ?_)
  refine wp_g 2 (pc1 := 39) (lv1 := [(4, .int (Int32.ofInt o17)), (3, .int (Int32.ofInt (bOr o9 o13))), (0, .ref 130), (1, .int (Int32.ofInt p1)), (2, .ref 35)]) (st1 := [.int (Int32.ofInt 2147483647), .ref 130]) (w1 := w23) rfl ?_
  obtain ⟨s25, e26, hx⟩ := bd hx
  refine wx_pi (kf := 31) (ln := 3) (ci := 8) (b := 6) (zz := 0) (x := 130) (by decide +kernel) h24 (hS _ _ sx_130) rfl (by decide +kernel) e26 (fun w27 h28 => ?_)
  refine wp_g 2 (pc1 := 45) (lv1 := [(5, .int (Int32.ofInt 0)), (4, .int (Int32.ofInt o17)), (3, .int (Int32.ofInt (bOr o9 o13))), (0, .ref 130), (1, .int (Int32.ofInt p1)), (2, .ref 35)]) (st1 := []) (w1 := w27) rfl ?_
  refine wp_lv (lv1 := [(0, .ref 130), (3, .int (Int32.ofInt (bOr o9 o13))), (4, .int (Int32.ofInt o17)), (5, .int (Int32.ofInt 0))]) (lsub_p [3, 2, 1, 0] rfl rfl rfl) ?_
  obtain ⟨q29, e30, hx⟩ := bd hx
  refine wp_lp (σ := Int × Hp) (ρ := (Int × Hp)) (B := fun q => xb_choose_b45 q.2 (bOr o9 o13) o17 q.1) (R := fun q w' => Rw sh w0 q.2 w') (C := fun r => ∀ w1, Rw sh w0 r.2 w1 → wp (d + 16) 64 113 [(0, .ref 130), (3, .int (Int32.ofInt (bOr o9 o13))), (4, .int (Int32.ofInt o17)), (5, .int (Int32.ofInt r.1))] [] w1 P) (lv := fun q => [(0, .ref 130), (3, .int (Int32.ofInt (bOr o9 o13))), (4, .int (Int32.ofInt o17)), (5, .int (Int32.ofInt q.1))]) (hd := 45) (fun q w' o hR hb kn kc => xb_choose_b45_ok hS hR hb kn kc) _ _ _ e30 h28 ?_
  intro w31 h32
  show wp _ 64 113 [(0, .ref 130), (3, .int (Int32.ofInt (bOr o9 o13))), (4, .int (Int32.ofInt o17)), (5, .int (Int32.ofInt q29.1))] [] w31 _
  refine wp_rt (i := .return_) (r := none) (ln := 1) (a := 0) (b := 0) (z := 0) (by decide +kernel) rfl (ret_v (by decide +kernel)) ?_
  cases hx
  exact kr _ h32
/-- StackBook.firstAt (I)I -/
noncomputable def xb_firstAt (s : Hp) (p1 : Int) : Option Int :=
  (xb_cellAt (s 130 6) p1).bind fun o1 => some o1
set_option maxRecDepth 100000 in
theorem xb_firstAt_ok {d : Nat} {P : Option Value → pm_H → Prop} {w : pm_H} {sh : Shp} {w0 : pm_H} {s : Hp} (hS : St sh) {p1 : Int} (h : Rw sh w0 s w) {o : Int} (hx : xb_firstAt s p1 = some o) (kr : P (some (.int (Int32.ofInt o))) w) : wp (d + 2) 67 0 (lv_args 0 [.ref 130, .int (Int32.ofInt p1)]) [] w P := by
  show wp _ 67 0 [(0, .ref 130), (1, .int (Int32.ofInt p1))] [] w _
  unfold xb_firstAt at hx
  refine wp_g 1 (pc1 := 1) (lv1 := [(0, .ref 130), (1, .int (Int32.ofInt p1))]) (st1 := [.ref 130]) (w1 := w) rfl ?_
  refine wx_gi (kf := 31) (ln := 3) (ci := 8) (b := 6) (zz := 0) (x := 130) (by decide +kernel) h (hS _ _ sx_130) rfl ?_
  show wp _ 67 4 [(0, .ref 130), (1, .int (Int32.ofInt p1))] [.int (Int32.ofInt (s 130 6))] w _
  refine wp_g 1 (pc1 := 5) (lv1 := [(0, .ref 130), (1, .int (Int32.ofInt p1))]) (st1 := [.int (Int32.ofInt p1), .int (Int32.ofInt (s 130 6))]) (w1 := w) rfl ?_
  obtain ⟨o1, e2, hx⟩ := bd hx
  refine wp_cl [.int (Int32.ofInt (s 130 6)), .int (Int32.ofInt p1)] [] (i := .invokestatic 55) (ln := 3) (a := 74) (b := 1) (z := 0) (by decide +kernel) rfl rfl (by decide) rfl (show (2 : Nat) = pm_na 74 by decide +kernel) (Nat.le_of_ble_eq_true rfl) (show (2 : Nat) ≤ pm_n 74 by decide +kernel) (by rw [show pm_k 74 = 1 by decide +kernel]; rfl) (xb_cellAt_ok (d := d) e2 ?_)
  show wp _ 67 8 [(0, .ref 130), (1, .int (Int32.ofInt p1))] [.int (Int32.ofInt o1)] w _
  refine wp_rt (i := .ireturn) (r := some (.int (Int32.ofInt o1))) (ln := 1) (a := 0) (b := 0) (z := 0) (by decide +kernel) rfl (ret_ok (by decide +kernel)) ?_
  cases hx
  exact kr
/-- StackBook.countOf (I)I -/
noncomputable def xb_countOf (s : Hp) (p1 : Int) : Option Int :=
  if w32 p1 < 0 then some 0 else if w32 p1 < w32 128 then (ix 128 p1).bind fun i3 => some (s 133 i3) else some 0
set_option maxRecDepth 100000 in
theorem xb_countOf_ok {d : Nat} {P : Option Value → pm_H → Prop} {w : pm_H} {sh : Shp} {w0 : pm_H} {s : Hp} (hS : St sh) {p1 : Int} (h : Rw sh w0 s w) {o : Int} (hx : xb_countOf s p1 = some o) (kr : P (some (.int (Int32.ofInt o))) w) : wp d 72 0 (lv_args 0 [.ref 130, .int (Int32.ofInt p1)]) [] w P := by
  show wp _ 72 0 [(0, .ref 130), (1, .int (Int32.ofInt p1))] [] w _
  unfold xb_countOf at hx
  refine wp_g 1 (pc1 := 1) (lv1 := [(0, .ref 130), (1, .int (Int32.ofInt p1))]) (st1 := [.int (Int32.ofInt p1)]) (w1 := w) rfl ?_
  refine wz_lt (oo := 19) (ln := 3) (a := 20) (b := 0) (zz := 0) (by decide +kernel) (fun h1 => ?_) (fun h1 => ?_)
  · have hx := ite_t h1 hx
    refine wp_g 1 (pc1 := 21) (lv1 := [(0, .ref 130), (1, .int (Int32.ofInt p1))]) (st1 := [.int (Int32.ofInt 0)]) (w1 := w) rfl ?_
    refine wp_rt (i := .ireturn) (r := some (.int (Int32.ofInt 0))) (ln := 1) (a := 0) (b := 0) (z := 0) (by decide +kernel) rfl (ret_ok (by decide +kernel)) ?_
    cases hx
    exact kr
  · have hx := ite_f h1 hx
    refine wp_g 2 (pc1 := 8) (lv1 := [(0, .ref 130), (1, .int (Int32.ofInt p1))]) (st1 := [.int (Int32.ofInt 128), .int (Int32.ofInt p1)]) (w1 := w) rfl ?_
    refine wx_ge (oo := 12) (ln := 3) (a := 20) (b := 0) (zz := 0) (by decide +kernel) (fun h2 => ?_) (fun h2 => ?_)
    · have hx := ite_f h2 hx
      refine wp_g 1 (pc1 := 21) (lv1 := [(0, .ref 130), (1, .int (Int32.ofInt p1))]) (st1 := [.int (Int32.ofInt 0)]) (w1 := w) rfl ?_
      refine wp_rt (i := .ireturn) (r := some (.int (Int32.ofInt 0))) (ln := 1) (a := 0) (b := 0) (z := 0) (by decide +kernel) rfl (ret_ok (by decide +kernel)) ?_
      cases hx
      exact kr
    · have hx := ite_t h2 hx
      refine wp_g 1 (pc1 := 12) (lv1 := [(0, .ref 130), (1, .int (Int32.ofInt p1))]) (st1 := [.ref 130]) (w1 := w) rfl ?_
      refine wx_gr (o := 3) (kf := 25) (ln := 3) (ci := 8) (b := 4) (zz := 0) (x := 130) (by decide +kernel) h (hS _ _ sx_130) rfl ?_
      show wp _ 72 15 [(0, .ref 130), (1, .int (Int32.ofInt p1))] [.ref 133] w _
      refine wp_g 1 (pc1 := 16) (lv1 := [(0, .ref 130), (1, .int (Int32.ofInt p1))]) (st1 := [.int (Int32.ofInt p1), .ref 133]) (w1 := w) rfl ?_
      obtain ⟨i3, e4, hx⟩ := bd hx
      refine wx_ra (x := 133) (n := 128) (ln := 1) (a := 0) (b := 0) (zz := 0) (by decide +kernel) h (hS _ _ sx_133) e4 ?_
      show wp _ 72 17 [(0, .ref 130), (1, .int (Int32.ofInt p1))] [.int (Int32.ofInt (s 133 i3))] w _
      refine wp_g 1 (pc1 := 21) (lv1 := [(0, .ref 130), (1, .int (Int32.ofInt p1))]) (st1 := [.int (Int32.ofInt (s 133 i3))]) (w1 := w) rfl ?_
      refine wp_rt (i := .ireturn) (r := some (.int (Int32.ofInt (s 133 i3)))) (ln := 1) (a := 0) (b := 0) (z := 0) (by decide +kernel) rfl (ret_ok (by decide +kernel)) ?_
      cases hx
      exact kr
noncomputable def xb_layersOf_b4 (s : Hp) (x1 : Int) (x2 : Int) (x3 : Int) : Option ((Int × Int) ⊕ (Int × Int)) :=
  if w32 x3 < w32 (s 130 2) then (xb_countOf s ((8 * x1) + x3)).bind fun o2 => if 0 < w32 o2 then some (.inl (bOr x2 (bShl 1 x3), x3 + 1)) else some (.inl (x2, x3 + 1)) else some (.inr (x2, x3))
set_option maxRecDepth 100000 in
theorem xb_layersOf_b4_ok {d : Nat} {P : Option Value → pm_H → Prop} {w : pm_H} {sh : Shp} {w0 : pm_H} {s : Hp} (hS : St sh) {x1 : Int} {x2 : Int} {x3 : Int} (h : Rw sh w0 s w) {o : ((Int × Int) ⊕ (Int × Int))} (hx : xb_layersOf_b4 s x1 x2 x3 = some o) (kn : ∀ (q : Int × Int) w1, o = .inl q → w = w1 → wp (d + 1) 68 4 [(0, .ref 130), (1, .int (Int32.ofInt x1)), (2, .int (Int32.ofInt q.1)), (3, .int (Int32.ofInt q.2))] [] w1 P) (kc : ∀ (r : (Int × Int)), o = .inr r → (∀ w1, w = w1 → wp (d + 1) 68 37 [(0, .ref 130), (1, .int (Int32.ofInt x1)), (2, .int (Int32.ofInt r.1)), (3, .int (Int32.ofInt r.2))] [] w1 P)) : wp (d + 1) 68 4 [(0, .ref 130), (1, .int (Int32.ofInt x1)), (2, .int (Int32.ofInt x2)), (3, .int (Int32.ofInt x3))] [] w P := by
  unfold xb_layersOf_b4 at hx
  refine wp_g 2 (pc1 := 6) (lv1 := [(0, .ref 130), (1, .int (Int32.ofInt x1)), (2, .int (Int32.ofInt x2)), (3, .int (Int32.ofInt x3))]) (st1 := [.ref 130, .int (Int32.ofInt x3)]) (w1 := w) rfl ?_
  refine wx_gi (kf := 19) (ln := 3) (ci := 8) (b := 2) (zz := 0) (x := 130) (by decide +kernel) h (hS _ _ sx_130) rfl ?_
  show wp _ 68 9 [(0, .ref 130), (1, .int (Int32.ofInt x1)), (2, .int (Int32.ofInt x2)), (3, .int (Int32.ofInt x3))] [.int (Int32.ofInt (s 130 2)), .int (Int32.ofInt x3)] w _
  refine wx_ge (oo := 28) (ln := 3) (a := 37) (b := 0) (zz := 0) (by decide +kernel) (fun h1 => ?_) (fun h1 => ?_)
  · have hx := ite_f h1 hx
    cases hx
    exact kc _ rfl _ rfl
  · have hx := ite_t h1 hx
    refine wp_g 6 (pc1 := 19) (lv1 := [(0, .ref 130), (1, .int (Int32.ofInt x1)), (2, .int (Int32.ofInt x2)), (3, .int (Int32.ofInt x3))]) (st1 := [.int (Int32.ofInt ((8 * x1) + x3)), .ref 130]) (w1 := w) (by simp only [Int32.ofInt_add, Int32.ofInt_sub, Int32.ofInt_mul, Int32.ofInt_neg, p_and, p_or, p_xor, p_shl, p_shr, p_usr, p_w8, p_c16, p_lI, q_and, q_or, q_shl, q_shr, q_w32, Int64.ofInt_add, Int64.ofInt_sub, Int64.ofInt_mul, p_mx, p_mn, q_mx, q_mn]; rfl) ?_
    obtain ⟨o2, e3, hx⟩ := bd hx
    refine wp_cl [.ref 130, .int (Int32.ofInt ((8 * x1) + x3))] [] (i := .invokevirtual 58) (ln := 3) (a := 72) (b := 0) (z := 0) (by decide +kernel) rfl rfl (by decide) rfl (show (2 : Nat) = pm_na 72 by decide +kernel) (Nat.le_of_ble_eq_true rfl) (show (2 : Nat) ≤ pm_n 72 by decide +kernel) (rcv_x 8 h (hS _ _ sx_130) (by decide +kernel)) (xb_countOf_ok (d := d) hS h e3 ?_)
    show wp _ 68 22 [(0, .ref 130), (1, .int (Int32.ofInt x1)), (2, .int (Int32.ofInt x2)), (3, .int (Int32.ofInt x3))] [.int (Int32.ofInt o2)] w _
    refine wz_le (oo := 9) (ln := 3) (a := 31) (b := 0) (zz := 0) (by decide +kernel) (fun h6 => ?_) (fun h6 => ?_)
    · have hx := ite_f h6 hx
      refine wp_g 2 (pc1 := 4) (lv1 := [(3, .int (Int32.ofInt (x3 + 1))), (0, .ref 130), (1, .int (Int32.ofInt x1)), (2, .int (Int32.ofInt x2))]) (st1 := []) (w1 := w) (by simp only [Int32.ofInt_add, Int32.ofInt_sub, Int32.ofInt_mul, Int32.ofInt_neg, p_and, p_or, p_xor, p_shl, p_shr, p_usr, p_w8, p_c16, p_lI, q_and, q_or, q_shl, q_shr, q_w32, Int64.ofInt_add, Int64.ofInt_sub, Int64.ofInt_mul, p_mx, p_mn, q_mx, q_mn]; rfl) ?_
      refine wp_lv (lv1 := [(0, .ref 130), (1, .int (Int32.ofInt x1)), (2, .int (Int32.ofInt x2)), (3, .int (Int32.ofInt (x3 + 1)))]) (lsub_p [1, 2, 3, 0] rfl rfl rfl) ?_
      cases hx
      exact kn _ _ rfl rfl
    · have hx := ite_t h6 hx
      refine wp_g 8 (pc1 := 4) (lv1 := [(3, .int (Int32.ofInt (x3 + 1))), (2, .int (Int32.ofInt (bOr x2 (bShl 1 x3)))), (0, .ref 130), (1, .int (Int32.ofInt x1))]) (st1 := []) (w1 := w) (by simp only [Int32.ofInt_add, Int32.ofInt_sub, Int32.ofInt_mul, Int32.ofInt_neg, p_and, p_or, p_xor, p_shl, p_shr, p_usr, p_w8, p_c16, p_lI, q_and, q_or, q_shl, q_shr, q_w32, Int64.ofInt_add, Int64.ofInt_sub, Int64.ofInt_mul, p_mx, p_mn, q_mx, q_mn]; rfl) ?_
      refine wp_lv (lv1 := [(0, .ref 130), (1, .int (Int32.ofInt x1)), (2, .int (Int32.ofInt (bOr x2 (bShl 1 x3)))), (3, .int (Int32.ofInt (x3 + 1)))]) (lsub_p [2, 3, 1, 0] rfl rfl rfl) ?_
      cases hx
      exact kn _ _ rfl rfl
/-- StackBook.layersOf (I)I -/
noncomputable def xb_layersOf (s : Hp) (p1 : Int) : Option Int :=
  (lp (fun (q : Int × Int) => xb_layersOf_b4 s p1 q.1 q.2) (0, 0)).bind fun q1 => some q1.1
set_option maxRecDepth 100000 in
theorem xb_layersOf_ok {d : Nat} {P : Option Value → pm_H → Prop} {w : pm_H} {sh : Shp} {w0 : pm_H} {s : Hp} (hS : St sh) {p1 : Int} (h : Rw sh w0 s w) {o : Int} (hx : xb_layersOf s p1 = some o) (kr : P (some (.int (Int32.ofInt o))) w) : wp (d + 1) 68 0 (lv_args 0 [.ref 130, .int (Int32.ofInt p1)]) [] w P := by
  show wp _ 68 0 [(0, .ref 130), (1, .int (Int32.ofInt p1))] [] w _
  unfold xb_layersOf at hx
  refine wp_g 4 (pc1 := 4) (lv1 := [(3, .int (Int32.ofInt 0)), (2, .int (Int32.ofInt 0)), (0, .ref 130), (1, .int (Int32.ofInt p1))]) (st1 := []) (w1 := w) rfl ?_
  refine wp_lv (lv1 := [(0, .ref 130), (1, .int (Int32.ofInt p1)), (2, .int (Int32.ofInt 0)), (3, .int (Int32.ofInt 0))]) (lsub_p [2, 3, 1, 0] rfl rfl rfl) ?_
  obtain ⟨q1, e2, hx⟩ := bd hx
  refine wp_lp (σ := Int × Int) (ρ := (Int × Int)) (B := fun q => xb_layersOf_b4 s p1 q.1 q.2) (R := fun q w' => w = w') (C := fun r => ∀ w1, w = w1 → wp (d + 1) 68 37 [(0, .ref 130), (1, .int (Int32.ofInt p1)), (2, .int (Int32.ofInt r.1)), (3, .int (Int32.ofInt r.2))] [] w1 P) (lv := fun q => [(0, .ref 130), (1, .int (Int32.ofInt p1)), (2, .int (Int32.ofInt q.1)), (3, .int (Int32.ofInt q.2))]) (hd := 4) (fun q w' o hR hb kn kc => by subst hR; exact xb_layersOf_b4_ok hS h hb kn kc) _ _ _ e2 rfl ?_
  intro w3 h4
  subst h4
  show wp _ 68 37 [(0, .ref 130), (1, .int (Int32.ofInt p1)), (2, .int (Int32.ofInt q1.1)), (3, .int (Int32.ofInt q1.2))] [] w _
  refine wp_g 1 (pc1 := 38) (lv1 := [(0, .ref 130), (1, .int (Int32.ofInt p1)), (2, .int (Int32.ofInt q1.1)), (3, .int (Int32.ofInt q1.2))]) (st1 := [.int (Int32.ofInt q1.1)]) (w1 := w) rfl ?_
  refine wp_rt (i := .ireturn) (r := some (.int (Int32.ofInt q1.1))) (ln := 1) (a := 0) (b := 0) (z := 0) (by decide +kernel) rfl (ret_ok (by decide +kernel)) ?_
  cases hx
  exact kr
noncomputable def xb_mostAlike_b4 (s : Hp) (x1 : Int) (x2 : Int) (x3 : Int) : Option ((Int × Int) ⊕ (Int × Int)) :=
  if w32 x3 < w32 (s 130 2) then (xb_countOf s ((8 * x1) + x3)).bind fun o2 => some (.inl (mxI x2 o2, x3 + 1)) else some (.inr (x2, x3))
set_option maxRecDepth 100000 in
theorem xb_mostAlike_b4_ok {d : Nat} {P : Option Value → pm_H → Prop} {w : pm_H} {sh : Shp} {w0 : pm_H} {s : Hp} (hS : St sh) {x1 : Int} {x2 : Int} {x3 : Int} (h : Rw sh w0 s w) {o : ((Int × Int) ⊕ (Int × Int))} (hx : xb_mostAlike_b4 s x1 x2 x3 = some o) (kn : ∀ (q : Int × Int) w1, o = .inl q → w = w1 → wp (d + 6) 70 4 [(0, .ref 130), (1, .int (Int32.ofInt x1)), (2, .int (Int32.ofInt q.1)), (3, .int (Int32.ofInt q.2))] [] w1 P) (kc : ∀ (r : (Int × Int)), o = .inr r → (∀ w1, w = w1 → wp (d + 6) 70 33 [(0, .ref 130), (1, .int (Int32.ofInt x1)), (2, .int (Int32.ofInt r.1)), (3, .int (Int32.ofInt r.2))] [] w1 P)) : wp (d + 6) 70 4 [(0, .ref 130), (1, .int (Int32.ofInt x1)), (2, .int (Int32.ofInt x2)), (3, .int (Int32.ofInt x3))] [] w P := by
  unfold xb_mostAlike_b4 at hx
  refine wp_g 2 (pc1 := 6) (lv1 := [(0, .ref 130), (1, .int (Int32.ofInt x1)), (2, .int (Int32.ofInt x2)), (3, .int (Int32.ofInt x3))]) (st1 := [.ref 130, .int (Int32.ofInt x3)]) (w1 := w) rfl ?_
  refine wx_gi (kf := 19) (ln := 3) (ci := 8) (b := 2) (zz := 0) (x := 130) (by decide +kernel) h (hS _ _ sx_130) rfl ?_
  show wp _ 70 9 [(0, .ref 130), (1, .int (Int32.ofInt x1)), (2, .int (Int32.ofInt x2)), (3, .int (Int32.ofInt x3))] [.int (Int32.ofInt (s 130 2)), .int (Int32.ofInt x3)] w _
  refine wx_ge (oo := 24) (ln := 3) (a := 33) (b := 0) (zz := 0) (by decide +kernel) (fun h1 => ?_) (fun h1 => ?_)
  · have hx := ite_f h1 hx
    cases hx
    exact kc _ rfl _ rfl
  · have hx := ite_t h1 hx
    refine wp_g 7 (pc1 := 20) (lv1 := [(0, .ref 130), (1, .int (Int32.ofInt x1)), (2, .int (Int32.ofInt x2)), (3, .int (Int32.ofInt x3))]) (st1 := [.int (Int32.ofInt ((8 * x1) + x3)), .ref 130, .int (Int32.ofInt x2)]) (w1 := w) (by simp only [Int32.ofInt_add, Int32.ofInt_sub, Int32.ofInt_mul, Int32.ofInt_neg, p_and, p_or, p_xor, p_shl, p_shr, p_usr, p_w8, p_c16, p_lI, q_and, q_or, q_shl, q_shr, q_w32, Int64.ofInt_add, Int64.ofInt_sub, Int64.ofInt_mul, p_mx, p_mn, q_mx, q_mn]; rfl) ?_
    obtain ⟨o2, e3, hx⟩ := bd hx
    refine wp_cl [.ref 130, .int (Int32.ofInt ((8 * x1) + x3))] [.int (Int32.ofInt x2)] (i := .invokevirtual 58) (ln := 3) (a := 72) (b := 0) (z := 0) (by decide +kernel) rfl rfl (by decide) rfl (show (2 : Nat) = pm_na 72 by decide +kernel) (Nat.le_of_ble_eq_true rfl) (show (2 : Nat) ≤ pm_n 72 by decide +kernel) (rcv_x 8 h (hS _ _ sx_130) (by decide +kernel)) (xb_countOf_ok (d := d + 5) hS h e3 ?_)
    show wp _ 70 23 [(0, .ref 130), (1, .int (Int32.ofInt x1)), (2, .int (Int32.ofInt x2)), (3, .int (Int32.ofInt x3))] [.int (Int32.ofInt o2), .int (Int32.ofInt x2)] w _
    refine wp_lb (i := .invokestatic 65) (ln := 3) (a := 1001) (b := 9) (z := 0) (st1 := [.int (Int32.ofInt (mxI x2 o2))]) (w1 := w) (by decide +kernel) rfl rfl (by decide) (by simp only [Int32.ofInt_add, Int32.ofInt_sub, Int32.ofInt_mul, Int32.ofInt_neg, p_and, p_or, p_xor, p_shl, p_shr, p_usr, p_w8, p_c16, p_lI, q_and, q_or, q_shl, q_shr, q_w32, Int64.ofInt_add, Int64.ofInt_sub, Int64.ofInt_mul, p_mx, p_mn, q_mx, q_mn]; rfl) (Nat.le_of_ble_eq_true rfl) (by omega) ?_
    refine wp_g 3 (pc1 := 4) (lv1 := [(3, .int (Int32.ofInt (x3 + 1))), (2, .int (Int32.ofInt (mxI x2 o2))), (0, .ref 130), (1, .int (Int32.ofInt x1))]) (st1 := []) (w1 := w) (by simp only [Int32.ofInt_add, Int32.ofInt_sub, Int32.ofInt_mul, Int32.ofInt_neg, p_and, p_or, p_xor, p_shl, p_shr, p_usr, p_w8, p_c16, p_lI, q_and, q_or, q_shl, q_shr, q_w32, Int64.ofInt_add, Int64.ofInt_sub, Int64.ofInt_mul, p_mx, p_mn, q_mx, q_mn]; rfl) ?_
    refine wp_lv (lv1 := [(0, .ref 130), (1, .int (Int32.ofInt x1)), (2, .int (Int32.ofInt (mxI x2 o2))), (3, .int (Int32.ofInt (x3 + 1)))]) (lsub_p [2, 3, 1, 0] rfl rfl rfl) ?_
    cases hx
    exact kn _ _ rfl rfl
/-- StackBook.mostAlike (I)I -/
noncomputable def xb_mostAlike (s : Hp) (p1 : Int) : Option Int :=
  (lp (fun (q : Int × Int) => xb_mostAlike_b4 s p1 q.1 q.2) (0, 0)).bind fun q1 => some q1.1
set_option maxRecDepth 100000 in
theorem xb_mostAlike_ok {d : Nat} {P : Option Value → pm_H → Prop} {w : pm_H} {sh : Shp} {w0 : pm_H} {s : Hp} (hS : St sh) {p1 : Int} (h : Rw sh w0 s w) {o : Int} (hx : xb_mostAlike s p1 = some o) (kr : P (some (.int (Int32.ofInt o))) w) : wp (d + 6) 70 0 (lv_args 0 [.ref 130, .int (Int32.ofInt p1)]) [] w P := by
  show wp _ 70 0 [(0, .ref 130), (1, .int (Int32.ofInt p1))] [] w _
  unfold xb_mostAlike at hx
  refine wp_g 4 (pc1 := 4) (lv1 := [(3, .int (Int32.ofInt 0)), (2, .int (Int32.ofInt 0)), (0, .ref 130), (1, .int (Int32.ofInt p1))]) (st1 := []) (w1 := w) rfl ?_
  refine wp_lv (lv1 := [(0, .ref 130), (1, .int (Int32.ofInt p1)), (2, .int (Int32.ofInt 0)), (3, .int (Int32.ofInt 0))]) (lsub_p [2, 3, 1, 0] rfl rfl rfl) ?_
  obtain ⟨q1, e2, hx⟩ := bd hx
  refine wp_lp (σ := Int × Int) (ρ := (Int × Int)) (B := fun q => xb_mostAlike_b4 s p1 q.1 q.2) (R := fun q w' => w = w') (C := fun r => ∀ w1, w = w1 → wp (d + 6) 70 33 [(0, .ref 130), (1, .int (Int32.ofInt p1)), (2, .int (Int32.ofInt r.1)), (3, .int (Int32.ofInt r.2))] [] w1 P) (lv := fun q => [(0, .ref 130), (1, .int (Int32.ofInt p1)), (2, .int (Int32.ofInt q.1)), (3, .int (Int32.ofInt q.2))]) (hd := 4) (fun q w' o hR hb kn kc => by subst hR; exact xb_mostAlike_b4_ok hS h hb kn kc) _ _ _ e2 rfl ?_
  intro w3 h4
  subst h4
  show wp _ 70 33 [(0, .ref 130), (1, .int (Int32.ofInt p1)), (2, .int (Int32.ofInt q1.1)), (3, .int (Int32.ofInt q1.2))] [] w _
  refine wp_g 1 (pc1 := 34) (lv1 := [(0, .ref 130), (1, .int (Int32.ofInt p1)), (2, .int (Int32.ofInt q1.1)), (3, .int (Int32.ofInt q1.2))]) (st1 := [.int (Int32.ofInt q1.1)]) (w1 := w) rfl ?_
  refine wp_rt (i := .ireturn) (r := some (.int (Int32.ofInt q1.1))) (ln := 1) (a := 0) (b := 0) (z := 0) (by decide +kernel) rfl (ret_ok (by decide +kernel)) ?_
  cases hx
  exact kr
noncomputable def xb_bestCell_b4 (s : Hp) (x1 : Int) (x2 : Int) : Option ((Int × Int) ⊕ (Int × Int)) :=
  if w32 x2 < w32 (s 130 2) then (xb_mostAlike s x2).bind fun o2 => (xb_mostAlike s x1).bind fun o6 => if w32 o2 < w32 o6 then some (.inl (x2, x2 + 1)) else some (.inl (x1, x2 + 1)) else some (.inr (x1, x2))
set_option maxRecDepth 100000 in
theorem xb_bestCell_b4_ok {d : Nat} {P : Option Value → pm_H → Prop} {w : pm_H} {sh : Shp} {w0 : pm_H} {s : Hp} (hS : St sh) {x1 : Int} {x2 : Int} (h : Rw sh w0 s w) {o : ((Int × Int) ⊕ (Int × Int))} (hx : xb_bestCell_b4 s x1 x2 = some o) (kn : ∀ (q : Int × Int) w1, o = .inl q → w = w1 → wp (d + 7) 69 4 [(0, .ref 130), (1, .int (Int32.ofInt q.1)), (2, .int (Int32.ofInt q.2))] [] w1 P) (kc : ∀ (r : (Int × Int)), o = .inr r → (∀ w1, w = w1 → wp (d + 7) 69 33 [(0, .ref 130), (1, .int (Int32.ofInt r.1)), (2, .int (Int32.ofInt r.2))] [] w1 P)) : wp (d + 7) 69 4 [(0, .ref 130), (1, .int (Int32.ofInt x1)), (2, .int (Int32.ofInt x2))] [] w P := by
  unfold xb_bestCell_b4 at hx
  refine wp_g 2 (pc1 := 6) (lv1 := [(0, .ref 130), (1, .int (Int32.ofInt x1)), (2, .int (Int32.ofInt x2))]) (st1 := [.ref 130, .int (Int32.ofInt x2)]) (w1 := w) rfl ?_
  refine wx_gi (kf := 19) (ln := 3) (ci := 8) (b := 2) (zz := 0) (x := 130) (by decide +kernel) h (hS _ _ sx_130) rfl ?_
  show wp _ 69 9 [(0, .ref 130), (1, .int (Int32.ofInt x1)), (2, .int (Int32.ofInt x2))] [.int (Int32.ofInt (s 130 2)), .int (Int32.ofInt x2)] w _
  refine wx_ge (oo := 24) (ln := 3) (a := 33) (b := 0) (zz := 0) (by decide +kernel) (fun h1 => ?_) (fun h1 => ?_)
  · have hx := ite_f h1 hx
    cases hx
    exact kc _ rfl _ rfl
  · have hx := ite_t h1 hx
    refine wp_g 2 (pc1 := 14) (lv1 := [(0, .ref 130), (1, .int (Int32.ofInt x1)), (2, .int (Int32.ofInt x2))]) (st1 := [.int (Int32.ofInt x2), .ref 130]) (w1 := w) rfl ?_
    obtain ⟨o2, e3, hx⟩ := bd hx
    refine wp_cl [.ref 130, .int (Int32.ofInt x2)] [] (i := .invokevirtual 62) (ln := 3) (a := 70) (b := 0) (z := 0) (by decide +kernel) rfl rfl (by decide) rfl (show (2 : Nat) = pm_na 70 by decide +kernel) (Nat.le_of_ble_eq_true rfl) (show (2 : Nat) ≤ pm_n 70 by decide +kernel) (rcv_x 8 h (hS _ _ sx_130) (by decide +kernel)) (xb_mostAlike_ok (d := d) hS h e3 ?_)
    show wp _ 69 17 [(0, .ref 130), (1, .int (Int32.ofInt x1)), (2, .int (Int32.ofInt x2))] [.int (Int32.ofInt o2)] w _
    refine wp_g 2 (pc1 := 19) (lv1 := [(0, .ref 130), (1, .int (Int32.ofInt x1)), (2, .int (Int32.ofInt x2))]) (st1 := [.int (Int32.ofInt x1), .ref 130, .int (Int32.ofInt o2)]) (w1 := w) rfl ?_
    obtain ⟨o6, e7, hx⟩ := bd hx
    refine wp_cl [.ref 130, .int (Int32.ofInt x1)] [.int (Int32.ofInt o2)] (i := .invokevirtual 62) (ln := 3) (a := 70) (b := 0) (z := 0) (by decide +kernel) rfl rfl (by decide) rfl (show (2 : Nat) = pm_na 70 by decide +kernel) (Nat.le_of_ble_eq_true rfl) (show (2 : Nat) ≤ pm_n 70 by decide +kernel) (rcv_x 8 h (hS _ _ sx_130) (by decide +kernel)) (xb_mostAlike_ok (d := d) hS h e7 ?_)
    show wp _ 69 22 [(0, .ref 130), (1, .int (Int32.ofInt x1)), (2, .int (Int32.ofInt x2))] [.int (Int32.ofInt o6), .int (Int32.ofInt o2)] w _
    refine wx_ge (oo := 5) (ln := 3) (a := 27) (b := 0) (zz := 0) (by decide +kernel) (fun h10 => ?_) (fun h10 => ?_)
    · have hx := ite_f h10 hx
      refine wp_g 2 (pc1 := 4) (lv1 := [(2, .int (Int32.ofInt (x2 + 1))), (0, .ref 130), (1, .int (Int32.ofInt x1))]) (st1 := []) (w1 := w) (by simp only [Int32.ofInt_add, Int32.ofInt_sub, Int32.ofInt_mul, Int32.ofInt_neg, p_and, p_or, p_xor, p_shl, p_shr, p_usr, p_w8, p_c16, p_lI, q_and, q_or, q_shl, q_shr, q_w32, Int64.ofInt_add, Int64.ofInt_sub, Int64.ofInt_mul, p_mx, p_mn, q_mx, q_mn]; rfl) ?_
      refine wp_lv (lv1 := [(0, .ref 130), (1, .int (Int32.ofInt x1)), (2, .int (Int32.ofInt (x2 + 1)))]) (lsub_p [1, 2, 0] rfl rfl rfl) ?_
      cases hx
      exact kn _ _ rfl rfl
    · have hx := ite_t h10 hx
      refine wp_g 4 (pc1 := 4) (lv1 := [(2, .int (Int32.ofInt (x2 + 1))), (1, .int (Int32.ofInt x2)), (0, .ref 130)]) (st1 := []) (w1 := w) (by simp only [Int32.ofInt_add, Int32.ofInt_sub, Int32.ofInt_mul, Int32.ofInt_neg, p_and, p_or, p_xor, p_shl, p_shr, p_usr, p_w8, p_c16, p_lI, q_and, q_or, q_shl, q_shr, q_w32, Int64.ofInt_add, Int64.ofInt_sub, Int64.ofInt_mul, p_mx, p_mn, q_mx, q_mn]; rfl) ?_
      refine wp_lv (lv1 := [(0, .ref 130), (1, .int (Int32.ofInt x2)), (2, .int (Int32.ofInt (x2 + 1)))]) (lsub_p [2, 1, 0] rfl rfl rfl) ?_
      cases hx
      exact kn _ _ rfl rfl
/-- StackBook.bestCell ()I -/
noncomputable def xb_bestCell (s : Hp) : Option Int :=
  (lp (fun (q : Int × Int) => xb_bestCell_b4 s q.1 q.2) (0, 1)).bind fun q1 => some q1.1
set_option maxRecDepth 100000 in
theorem xb_bestCell_ok {d : Nat} {P : Option Value → pm_H → Prop} {w : pm_H} {sh : Shp} {w0 : pm_H} {s : Hp} (hS : St sh) (h : Rw sh w0 s w) {o : Int} (hx : xb_bestCell s = some o) (kr : P (some (.int (Int32.ofInt o))) w) : wp (d + 7) 69 0 (lv_args 0 [.ref 130]) [] w P := by
  show wp _ 69 0 [(0, .ref 130)] [] w _
  unfold xb_bestCell at hx
  refine wp_g 4 (pc1 := 4) (lv1 := [(2, .int (Int32.ofInt 1)), (1, .int (Int32.ofInt 0)), (0, .ref 130)]) (st1 := []) (w1 := w) rfl ?_
  refine wp_lv (lv1 := [(0, .ref 130), (1, .int (Int32.ofInt 0)), (2, .int (Int32.ofInt 1))]) (lsub_p [2, 1, 0] rfl rfl rfl) ?_
  obtain ⟨q1, e2, hx⟩ := bd hx
  refine wp_lp (σ := Int × Int) (ρ := (Int × Int)) (B := fun q => xb_bestCell_b4 s q.1 q.2) (R := fun q w' => w = w') (C := fun r => ∀ w1, w = w1 → wp (d + 7) 69 33 [(0, .ref 130), (1, .int (Int32.ofInt r.1)), (2, .int (Int32.ofInt r.2))] [] w1 P) (lv := fun q => [(0, .ref 130), (1, .int (Int32.ofInt q.1)), (2, .int (Int32.ofInt q.2))]) (hd := 4) (fun q w' o hR hb kn kc => by subst hR; exact xb_bestCell_b4_ok hS h hb kn kc) _ _ _ e2 rfl ?_
  intro w3 h4
  subst h4
  show wp _ 69 33 [(0, .ref 130), (1, .int (Int32.ofInt q1.1)), (2, .int (Int32.ofInt q1.2))] [] w _
  refine wp_g 1 (pc1 := 34) (lv1 := [(0, .ref 130), (1, .int (Int32.ofInt q1.1)), (2, .int (Int32.ofInt q1.2))]) (st1 := [.int (Int32.ofInt q1.1)]) (w1 := w) rfl ?_
  refine wp_rt (i := .ireturn) (r := some (.int (Int32.ofInt q1.1))) (ln := 1) (a := 0) (b := 0) (z := 0) (by decide +kernel) rfl (ret_ok (by decide +kernel)) ?_
  cases hx
  exact kr
noncomputable def xb_richestHills_b11 (s : Hp) (x2 : Int) : Option ((Int × Hp) ⊕ (Int × Hp)) :=
  if w32 x2 < w32 (s 130 1) then (ix 1392 x2).bind fun i2 => (ix 128 (bAnd (s 131 i2) 127)).bind fun i4 => (some (uh s 133 i4 ((s 133 i4) + 1))).bind fun s6 => some (.inl (x2 + 1, s6)) else some (.inr (x2, s))
set_option maxRecDepth 100000 in
theorem xb_richestHills_b11_ok {d : Nat} {P : Option Value → pm_H → Prop} {w : pm_H} {sh : Shp} {w0 : pm_H} {s : Hp} (hS : St sh) {x2 : Int} (h : Rw sh w0 s w) {o : ((Int × Hp) ⊕ (Int × Hp))} (hx : xb_richestHills_b11 s x2 = some o) (kn : ∀ (q : Int × Hp) w1, o = .inl q → Rw sh w0 q.2 w1 → wp (d + 16) 71 11 [(0, .ref 130), (2, .int (Int32.ofInt q.1))] [] w1 P) (kc : ∀ (r : (Int × Hp)), o = .inr r → (∀ w1, Rw sh w0 r.2 w1 → wp (d + 16) 71 43 [(0, .ref 130), (2, .int (Int32.ofInt r.1))] [] w1 P)) : wp (d + 16) 71 11 [(0, .ref 130), (2, .int (Int32.ofInt x2))] [] w P := by
  unfold xb_richestHills_b11 at hx
  refine wp_g 2 (pc1 := 13) (lv1 := [(0, .ref 130), (2, .int (Int32.ofInt x2))]) (st1 := [.ref 130, .int (Int32.ofInt x2)]) (w1 := w) rfl ?_
  refine wx_gi (kf := 15) (ln := 3) (ci := 8) (b := 1) (zz := 0) (x := 130) (by decide +kernel) h (hS _ _ sx_130) rfl ?_
  show wp _ 71 16 [(0, .ref 130), (2, .int (Int32.ofInt x2))] [.int (Int32.ofInt (s 130 1)), .int (Int32.ofInt x2)] w _
  refine wx_ge (oo := 27) (ln := 3) (a := 43) (b := 0) (zz := 0) (by decide +kernel) (fun h1 => ?_) (fun h1 => ?_)
  · have hx := ite_f h1 hx
    cases hx
    exact kc _ rfl _ h
  · have hx := ite_t h1 hx
    refine wp_g 1 (pc1 := 20) (lv1 := [(0, .ref 130), (2, .int (Int32.ofInt x2))]) (st1 := [.ref 130]) (w1 := w) rfl ?_
    refine wx_gr (o := 3) (kf := 25) (ln := 3) (ci := 8) (b := 4) (zz := 0) (x := 130) (by decide +kernel) h (hS _ _ sx_130) rfl ?_
    show wp _ 71 23 [(0, .ref 130), (2, .int (Int32.ofInt x2))] [.ref 133] w _
    refine wp_g 1 (pc1 := 24) (lv1 := [(0, .ref 130), (2, .int (Int32.ofInt x2))]) (st1 := [.ref 130, .ref 133]) (w1 := w) rfl ?_
    refine wx_gr (o := 1) (kf := 9) (ln := 3) (ci := 8) (b := 0) (zz := 0) (x := 130) (by decide +kernel) h (hS _ _ sx_130) rfl ?_
    show wp _ 71 27 [(0, .ref 130), (2, .int (Int32.ofInt x2))] [.ref 131, .ref 133] w _
    refine wp_g 1 (pc1 := 28) (lv1 := [(0, .ref 130), (2, .int (Int32.ofInt x2))]) (st1 := [.int (Int32.ofInt x2), .ref 131, .ref 133]) (w1 := w) rfl ?_
    obtain ⟨i2, e3, hx⟩ := bd hx
    refine wx_ra (x := 131) (n := 1392) (ln := 1) (a := 0) (b := 0) (zz := 0) (by decide +kernel) h (hS _ _ sx_131) e3 ?_
    show wp _ 71 29 [(0, .ref 130), (2, .int (Int32.ofInt x2))] [.int (Int32.ofInt (s 131 i2)), .ref 133] w _
    refine wp_g 3 (pc1 := 33) (lv1 := [(0, .ref 130), (2, .int (Int32.ofInt x2))]) (st1 := [.int (Int32.ofInt (bAnd (s 131 i2) 127)), .ref 133, .int (Int32.ofInt (bAnd (s 131 i2) 127)), .ref 133]) (w1 := w) (by simp only [Int32.ofInt_add, Int32.ofInt_sub, Int32.ofInt_mul, Int32.ofInt_neg, p_and, p_or, p_xor, p_shl, p_shr, p_usr, p_w8, p_c16, p_lI, q_and, q_or, q_shl, q_shr, q_w32, Int64.ofInt_add, Int64.ofInt_sub, Int64.ofInt_mul, p_mx, p_mn, q_mx, q_mn]; rfl) ?_
    obtain ⟨i4, e5, hx⟩ := bd hx
    refine wx_ra (x := 133) (n := 128) (ln := 1) (a := 0) (b := 0) (zz := 0) (by decide +kernel) h (hS _ _ sx_133) e5 ?_
    show wp _ 71 34 [(0, .ref 130), (2, .int (Int32.ofInt x2))] [.int (Int32.ofInt (s 133 i4)), .int (Int32.ofInt (bAnd (s 131 i2) 127)), .ref 133] w _
    refine wp_g 2 (pc1 := 36) (lv1 := [(0, .ref 130), (2, .int (Int32.ofInt x2))]) (st1 := [.int (Int32.ofInt ((s 133 i4) + 1)), .int (Int32.ofInt (bAnd (s 131 i2) 127)), .ref 133]) (w1 := w) (by simp only [Int32.ofInt_add, Int32.ofInt_sub, Int32.ofInt_mul, Int32.ofInt_neg, p_and, p_or, p_xor, p_shl, p_shr, p_usr, p_w8, p_c16, p_lI, q_and, q_or, q_shl, q_shr, q_w32, Int64.ofInt_add, Int64.ofInt_sub, Int64.ofInt_mul, p_mx, p_mn, q_mx, q_mn]; rfl) ?_
    obtain ⟨s6, e7, hx⟩ := bd hx
    refine wx_wa (x := 133) (n := 128) (ln := 1) (a := 0) (b := 0) (zz := 0) (by decide +kernel) h (hS _ _ sx_133) e5 e7 (fun w8 h9 => ?_)
    refine wp_g 2 (pc1 := 11) (lv1 := [(2, .int (Int32.ofInt (x2 + 1))), (0, .ref 130)]) (st1 := []) (w1 := w8) (by simp only [Int32.ofInt_add, Int32.ofInt_sub, Int32.ofInt_mul, Int32.ofInt_neg, p_and, p_or, p_xor, p_shl, p_shr, p_usr, p_w8, p_c16, p_lI, q_and, q_or, q_shl, q_shr, q_w32, Int64.ofInt_add, Int64.ofInt_sub, Int64.ofInt_mul, p_mx, p_mn, q_mx, q_mn]; rfl) ?_
    refine wp_lv (lv1 := [(0, .ref 130), (2, .int (Int32.ofInt (x2 + 1)))]) (lsub_p [1, 0] rfl rfl rfl) ?_
    cases hx
    exact kn _ _ rfl h9
noncomputable def xb_richestHills_b47 (s : Hp) (x2 : Int) (x3 : Int) : Option ((Int × Int) ⊕ (Int × Int)) :=
  if w32 x3 < w32 128 then (ix 128 x3).bind fun i2 => (ix 128 x2).bind fun i4 => if w32 (s 133 i4) < w32 (s 133 i2) then some (.inl (x3, x3 + 1)) else some (.inl (x2, x3 + 1)) else some (.inr (x2, x3))
set_option maxRecDepth 100000 in
theorem xb_richestHills_b47_ok {d : Nat} {P : Option Value → pm_H → Prop} {w : pm_H} {sh : Shp} {w0 : pm_H} {s : Hp} (hS : St sh) {x2 : Int} {x3 : Int} (h : Rw sh w0 s w) {o : ((Int × Int) ⊕ (Int × Int))} (hx : xb_richestHills_b47 s x2 x3 = some o) (kn : ∀ (q : Int × Int) w1, o = .inl q → w = w1 → wp (d + 16) 71 47 [(0, .ref 130), (2, .int (Int32.ofInt q.1)), (3, .int (Int32.ofInt q.2))] [] w1 P) (kc : ∀ (r : (Int × Int)), o = .inr r → (∀ w1, w = w1 → wp (d + 16) 71 77 [(0, .ref 130), (2, .int (Int32.ofInt r.1)), (3, .int (Int32.ofInt r.2))] [] w1 P)) : wp (d + 16) 71 47 [(0, .ref 130), (2, .int (Int32.ofInt x2)), (3, .int (Int32.ofInt x3))] [] w P := by
  unfold xb_richestHills_b47 at hx
  refine wp_g 2 (pc1 := 51) (lv1 := [(0, .ref 130), (2, .int (Int32.ofInt x2)), (3, .int (Int32.ofInt x3))]) (st1 := [.int (Int32.ofInt 128), .int (Int32.ofInt x3)]) (w1 := w) rfl ?_
  refine wx_ge (oo := 26) (ln := 3) (a := 77) (b := 0) (zz := 0) (by decide +kernel) (fun h1 => ?_) (fun h1 => ?_)
  · have hx := ite_f h1 hx
    cases hx
    exact kc _ rfl _ rfl
  · have hx := ite_t h1 hx
    refine wp_g 1 (pc1 := 55) (lv1 := [(0, .ref 130), (2, .int (Int32.ofInt x2)), (3, .int (Int32.ofInt x3))]) (st1 := [.ref 130]) (w1 := w) rfl ?_
    refine wx_gr (o := 3) (kf := 25) (ln := 3) (ci := 8) (b := 4) (zz := 0) (x := 130) (by decide +kernel) h (hS _ _ sx_130) rfl ?_
    show wp _ 71 58 [(0, .ref 130), (2, .int (Int32.ofInt x2)), (3, .int (Int32.ofInt x3))] [.ref 133] w _
    refine wp_g 1 (pc1 := 59) (lv1 := [(0, .ref 130), (2, .int (Int32.ofInt x2)), (3, .int (Int32.ofInt x3))]) (st1 := [.int (Int32.ofInt x3), .ref 133]) (w1 := w) rfl ?_
    obtain ⟨i2, e3, hx⟩ := bd hx
    refine wx_ra (x := 133) (n := 128) (ln := 1) (a := 0) (b := 0) (zz := 0) (by decide +kernel) h (hS _ _ sx_133) e3 ?_
    show wp _ 71 60 [(0, .ref 130), (2, .int (Int32.ofInt x2)), (3, .int (Int32.ofInt x3))] [.int (Int32.ofInt (s 133 i2))] w _
    refine wp_g 1 (pc1 := 61) (lv1 := [(0, .ref 130), (2, .int (Int32.ofInt x2)), (3, .int (Int32.ofInt x3))]) (st1 := [.ref 130, .int (Int32.ofInt (s 133 i2))]) (w1 := w) rfl ?_
    refine wx_gr (o := 3) (kf := 25) (ln := 3) (ci := 8) (b := 4) (zz := 0) (x := 130) (by decide +kernel) h (hS _ _ sx_130) rfl ?_
    show wp _ 71 64 [(0, .ref 130), (2, .int (Int32.ofInt x2)), (3, .int (Int32.ofInt x3))] [.ref 133, .int (Int32.ofInt (s 133 i2))] w _
    refine wp_g 1 (pc1 := 65) (lv1 := [(0, .ref 130), (2, .int (Int32.ofInt x2)), (3, .int (Int32.ofInt x3))]) (st1 := [.int (Int32.ofInt x2), .ref 133, .int (Int32.ofInt (s 133 i2))]) (w1 := w) rfl ?_
    obtain ⟨i4, e5, hx⟩ := bd hx
    refine wx_ra (x := 133) (n := 128) (ln := 1) (a := 0) (b := 0) (zz := 0) (by decide +kernel) h (hS _ _ sx_133) e5 ?_
    show wp _ 71 66 [(0, .ref 130), (2, .int (Int32.ofInt x2)), (3, .int (Int32.ofInt x3))] [.int (Int32.ofInt (s 133 i4)), .int (Int32.ofInt (s 133 i2))] w _
    refine wx_le (oo := 5) (ln := 3) (a := 71) (b := 0) (zz := 0) (by decide +kernel) (fun h6 => ?_) (fun h6 => ?_)
    · have hx := ite_f h6 hx
      refine wp_g 2 (pc1 := 47) (lv1 := [(3, .int (Int32.ofInt (x3 + 1))), (0, .ref 130), (2, .int (Int32.ofInt x2))]) (st1 := []) (w1 := w) (by simp only [Int32.ofInt_add, Int32.ofInt_sub, Int32.ofInt_mul, Int32.ofInt_neg, p_and, p_or, p_xor, p_shl, p_shr, p_usr, p_w8, p_c16, p_lI, q_and, q_or, q_shl, q_shr, q_w32, Int64.ofInt_add, Int64.ofInt_sub, Int64.ofInt_mul, p_mx, p_mn, q_mx, q_mn]; rfl) ?_
      refine wp_lv (lv1 := [(0, .ref 130), (2, .int (Int32.ofInt x2)), (3, .int (Int32.ofInt (x3 + 1)))]) (lsub_p [1, 2, 0] rfl rfl rfl) ?_
      cases hx
      exact kn _ _ rfl rfl
    · have hx := ite_t h6 hx
      refine wp_g 4 (pc1 := 47) (lv1 := [(3, .int (Int32.ofInt (x3 + 1))), (2, .int (Int32.ofInt x3)), (0, .ref 130)]) (st1 := []) (w1 := w) (by simp only [Int32.ofInt_add, Int32.ofInt_sub, Int32.ofInt_mul, Int32.ofInt_neg, p_and, p_or, p_xor, p_shl, p_shr, p_usr, p_w8, p_c16, p_lI, q_and, q_or, q_shl, q_shr, q_w32, Int64.ofInt_add, Int64.ofInt_sub, Int64.ofInt_mul, p_mx, p_mn, q_mx, q_mn]; rfl) ?_
      refine wp_lv (lv1 := [(0, .ref 130), (2, .int (Int32.ofInt x3)), (3, .int (Int32.ofInt (x3 + 1)))]) (lsub_p [2, 1, 0] rfl rfl rfl) ?_
      cases hx
      exact kn _ _ rfl rfl
/-- StackBook.richestHills (I)I -/
noncomputable def xb_richestHills (s : Hp) (p1 : Int) : Option (Int × Hp) :=
  (xb_makeRows s p1).bind fun o1 => (xb_clearTally o1).bind fun o5 => (lp (fun (q : Int × Hp) => xb_richestHills_b11 q.2 q.1) (0, o5)).bind fun q9 => (lp (fun (q : Int × Int) => xb_richestHills_b47 q9.2 q.1 q.2) (0, 1)).bind fun q13 => some (q13.1, q9.2)
set_option maxRecDepth 100000 in
theorem xb_richestHills_ok {d : Nat} {P : Option Value → pm_H → Prop} {w : pm_H} {sh : Shp} {w0 : pm_H} {s : Hp} (hS : St sh) {p1 : Int} (h : Rw sh w0 s w) {o : Int × Hp} (hx : xb_richestHills s p1 = some o) (kr : ∀ w1, Rw sh w0 o.2 w1 → P (some (.int (Int32.ofInt o.1))) w1) : wp (d + 16) 71 0 (lv_args 0 [.ref 130, .int (Int32.ofInt p1)]) [] w P := by
  show wp _ 71 0 [(0, .ref 130), (1, .int (Int32.ofInt p1))] [] w _
  unfold xb_richestHills at hx
  refine wp_g 2 (pc1 := 2) (lv1 := [(0, .ref 130), (1, .int (Int32.ofInt p1))]) (st1 := [.int (Int32.ofInt p1), .ref 130]) (w1 := w) rfl ?_
  obtain ⟨o1, e2, hx⟩ := bd hx
  refine wp_cl [.ref 130, .int (Int32.ofInt p1)] [] (i := .invokevirtual 34) (ln := 3) (a := 76) (b := 0) (z := 0) (by decide +kernel) rfl rfl (by decide) rfl (show (2 : Nat) = pm_na 76 by decide +kernel) (Nat.le_of_ble_eq_true rfl) (show (2 : Nat) ≤ pm_n 76 by decide +kernel) (rcv_x 8 h (hS _ _ sx_130) (by decide +kernel)) (xb_makeRows_ok (d := d) hS h e2 (fun w3 h4 => ?_))
  show wp _ 71 5 [(0, .ref 130), (1, .int (Int32.ofInt p1))] [] w3 _
  refine wp_g 1 (pc1 := 6) (lv1 := [(0, .ref 130), (1, .int (Int32.ofInt p1))]) (st1 := [.ref 130]) (w1 := w3) rfl ?_
  obtain ⟨o5, e6, hx⟩ := bd hx
  refine wp_cl [.ref 130] [] (i := .invokevirtual 38) (ln := 3) (a := 73) (b := 0) (z := 0) (by decide +kernel) rfl rfl (by decide) rfl (show (1 : Nat) = pm_na 73 by decide +kernel) (Nat.le_of_ble_eq_true rfl) (show (1 : Nat) ≤ pm_n 73 by decide +kernel) (rcv_x 8 h4 (hS _ _ sx_130) (by decide +kernel)) (xb_clearTally_ok (d := d + 15) hS h4 e6 (fun w7 h8 => ?_))
  show wp _ 71 9 [(0, .ref 130), (1, .int (Int32.ofInt p1))] [] w7 _
  refine wp_g 2 (pc1 := 11) (lv1 := [(2, .int (Int32.ofInt 0)), (0, .ref 130), (1, .int (Int32.ofInt p1))]) (st1 := []) (w1 := w7) rfl ?_
  refine wp_lv (lv1 := [(0, .ref 130), (2, .int (Int32.ofInt 0))]) (lsub_p [1, 0] rfl rfl rfl) ?_
  obtain ⟨q9, e10, hx⟩ := bd hx
  refine wp_lp (σ := Int × Hp) (ρ := (Int × Hp)) (B := fun q => xb_richestHills_b11 q.2 q.1) (R := fun q w' => Rw sh w0 q.2 w') (C := fun r => ∀ w1, Rw sh w0 r.2 w1 → wp (d + 16) 71 43 [(0, .ref 130), (2, .int (Int32.ofInt r.1))] [] w1 P) (lv := fun q => [(0, .ref 130), (2, .int (Int32.ofInt q.1))]) (hd := 11) (fun q w' o hR hb kn kc => xb_richestHills_b11_ok hS hR hb kn kc) _ _ _ e10 h8 ?_
  intro w11 h12
  show wp _ 71 43 [(0, .ref 130), (2, .int (Int32.ofInt q9.1))] [] w11 _
  refine wp_g 4 (pc1 := 47) (lv1 := [(3, .int (Int32.ofInt 1)), (2, .int (Int32.ofInt 0)), (0, .ref 130)]) (st1 := []) (w1 := w11) rfl ?_
  refine wp_lv (lv1 := [(0, .ref 130), (2, .int (Int32.ofInt 0)), (3, .int (Int32.ofInt 1))]) (lsub_p [2, 1, 0] rfl rfl rfl) ?_
  obtain ⟨q13, e14, hx⟩ := bd hx
  refine wp_lp (σ := Int × Int) (ρ := (Int × Int)) (B := fun q => xb_richestHills_b47 q9.2 q.1 q.2) (R := fun q w' => w11 = w') (C := fun r => ∀ w1, w11 = w1 → wp (d + 16) 71 77 [(0, .ref 130), (2, .int (Int32.ofInt r.1)), (3, .int (Int32.ofInt r.2))] [] w1 P) (lv := fun q => [(0, .ref 130), (2, .int (Int32.ofInt q.1)), (3, .int (Int32.ofInt q.2))]) (hd := 47) (fun q w' o hR hb kn kc => by subst hR; exact xb_richestHills_b47_ok hS h12 hb kn kc) _ _ _ e14 rfl ?_
  intro w15 h16
  subst h16
  show wp _ 71 77 [(0, .ref 130), (2, .int (Int32.ofInt q13.1)), (3, .int (Int32.ofInt q13.2))] [] w11 _
  refine wp_g 1 (pc1 := 78) (lv1 := [(0, .ref 130), (2, .int (Int32.ofInt q13.1)), (3, .int (Int32.ofInt q13.2))]) (st1 := [.int (Int32.ofInt q13.1)]) (w1 := w11) rfl ?_
  refine wp_rt (i := .ireturn) (r := some (.int (Int32.ofInt q13.1))) (ln := 1) (a := 0) (b := 0) (z := 0) (by decide +kernel) rfl (ret_ok (by decide +kernel)) ?_
  cases hx
  exact kr _ h12
