/-! by program (wip/whole/gx.py) -/
/-- Past.keep (LCloth;)V -/
noncomputable def xp_keep (ks : Nat → Int) (L : Nat) (sh : Shp) (s : Hp) (a1 : Nat) : Option (Hp × Shp) :=
  (ix 20 (s 39 1)).bind fun i1 => (rsA (s 40 i1) (ks i1)).bind fun y3 => if y3 < 0 then (some (zr s L)).bind fun s22 => (some (uh s22 40 i1 ((L : Nat) : Int))).bind fun s27 => (ix 20 (s27 39 1)).bind fun i31 => (eqA i31 i1).bind fun u33 => (xl_copyFrom s27 L a1).bind fun o35 => (some (uh o35 39 1 (iRem ((o35 39 1) + 1) 20))).bind fun s39 => (some (uh s39 39 2 (mnI ((s39 39 2) + 1) 20))).bind fun s43 => some (s43, (shCn sh L)) else (xl_copyFrom s y3.toNat a1).bind fun o6 => (some (uh o6 39 1 (iRem ((o6 39 1) + 1) 20))).bind fun s10 => (some (uh s10 39 2 (mnI ((s10 39 2) + 1) 20))).bind fun s14 => some (s14, sh)
set_option maxRecDepth 100000 in
theorem xp_keep_ok {d : Nat} {P : Option Value → pm_H → Prop} {w : pm_H} {sh : Shp} {s : Hp} (hS : St sh) {ks : Nat → Int} (hK : ∀ i, ¬ ks i < 0 → okC 3 sh (ks i).toNat) {a1 r1 : Nat} (ca1 : okC r1 sh a1) {L : Nat} (hL : L = w.length) (h : RH sh s w) {o : Hp × Shp} (hx : xp_keep ks L sh s a1 = some o) (kr : ∀ w1, Gr sh o.2 w w1 → RH o.2 o.1 w1 → P none w1) : wp (d + 9) 40 0 (lv_args 0 [.ref 39, .ref a1]) [] w P := by
  replace h : Rw sh w s w := ⟨h, Fr_rf⟩
  show wp _ 40 0 [(0, .ref 39), (1, .ref a1)] [] w _
  unfold xp_keep at hx
  refine wp_g 1 (pc1 := 1) (lv1 := [(0, .ref 39), (1, .ref a1)]) (st1 := [.ref 39]) (w1 := w) rfl ?_
  refine wx_gr (o := 1) (kf := 11) (ln := 3) (ci := 4) (b := 0) (zz := 0) (x := 39) (by decide +kernel) h (hS _ _ sx_39) rfl ?_
  show wp _ 40 4 [(0, .ref 39), (1, .ref a1)] [.ref 40] w _
  refine wp_g 1 (pc1 := 5) (lv1 := [(0, .ref 39), (1, .ref a1)]) (st1 := [.ref 39, .ref 40]) (w1 := w) rfl ?_
  refine wx_gi (kf := 17) (ln := 3) (ci := 4) (b := 1) (zz := 0) (x := 39) (by decide +kernel) h (hS _ _ sx_39) rfl ?_
  show wp _ 40 8 [(0, .ref 39), (1, .ref a1)] [.int (Int32.ofInt (s 39 1)), .ref 40] w _
  obtain ⟨i1, e2, hx⟩ := bd hx
  refine wx_rr (x := 40) (n := 20) (ln := 1) (a := 0) (b := 0) (zz := 0) (by decide +kernel) h (hS _ _ sx_40) (by decide) e2 ?_
  obtain ⟨y3, e4, hx⟩ := bd hx
  have cy3 : ¬ y3 < 0 → okC 3 sh y3.toNat := by rw [(rsA_e e4).2]; exact hK _
  rw [(rsA_e e4).1, ← (rsA_e e4).2]
  show wp _ 40 9 [(0, .ref 39), (1, .ref a1)] [vR y3] w _
  refine wx_nn (oo := 19) (ln := 3) (a := 28) (b := 0) (zz := 0) (by decide +kernel) (fun h5 => ?_) (fun h5 => ?_)
  · have hx := ite_f h5 hx
    refine wp_g 1 (pc1 := 29) (lv1 := [(0, .ref 39), (1, .ref a1)]) (st1 := [.ref 39]) (w1 := w) rfl ?_
    refine wx_gr (o := 1) (kf := 11) (ln := 3) (ci := 4) (b := 0) (zz := 0) (x := 39) (by decide +kernel) h (hS _ _ sx_39) rfl ?_
    show wp _ 40 32 [(0, .ref 39), (1, .ref a1)] [.ref 40] w _
    refine wp_g 1 (pc1 := 33) (lv1 := [(0, .ref 39), (1, .ref a1)]) (st1 := [.ref 39, .ref 40]) (w1 := w) rfl ?_
    refine wx_gi (kf := 17) (ln := 3) (ci := 4) (b := 1) (zz := 0) (x := 39) (by decide +kernel) h (hS _ _ sx_39) rfl ?_
    show wp _ 40 36 [(0, .ref 39), (1, .ref a1)] [.int (Int32.ofInt (s 39 1)), .ref 40] w _
    refine wx_rr (x := 40) (n := 20) (ln := 1) (a := 0) (b := 0) (zz := 0) (by decide +kernel) h (hS _ _ sx_40) (by decide) e2 ?_
    rw [(rsA_e e4).1, ← (rsA_e e4).2]
    show wp _ 40 37 [(0, .ref 39), (1, .ref a1)] [vR y3] w _
    refine wp_g 1 (pc1 := 38) (lv1 := [(0, .ref 39), (1, .ref a1)]) (st1 := [.ref a1, vR y3]) (w1 := w) (by rcases vR_c y3 with e | ⟨_, e⟩ <;> simp only [e] <;> rfl) ?_
    rw [vR_r h5]
    obtain ⟨o6, e7, hx⟩ := bd hx
    refine wp_cl [.ref y3.toNat, .ref a1] [] (i := .invokevirtual 25) (ln := 3) (a := 1) (b := 0) (z := 0) (by decide +kernel) rfl rfl (by decide) rfl (show (2 : Nat) = pm_na 1 by decide +kernel) (Nat.le_of_ble_eq_true rfl) (show (2 : Nat) ≤ pm_n 1 by decide +kernel) (rcv_x 0 h (cy3 h5).1 (by decide +kernel)) (xl_copyFrom_ok (d := d + 2) hS (cy3 h5) ca1 h e7 (fun w8 h9 => ?_))
    show wp _ 40 41 [(0, .ref 39), (1, .ref a1)] [] w8 _
    refine wp_g 2 (pc1 := 43) (lv1 := [(0, .ref 39), (1, .ref a1)]) (st1 := [.ref 39, .ref 39]) (w1 := w8) rfl ?_
    refine wx_gi (kf := 17) (ln := 3) (ci := 4) (b := 1) (zz := 0) (x := 39) (by decide +kernel) h9 (hS _ _ sx_39) rfl ?_
    show wp _ 40 46 [(0, .ref 39), (1, .ref a1)] [.int (Int32.ofInt (o6 39 1)), .ref 39] w8 _
    refine wp_g 3 (pc1 := 50) (lv1 := [(0, .ref 39), (1, .ref a1)]) (st1 := [.int (Int32.ofInt 20), .int (Int32.ofInt ((o6 39 1) + 1)), .ref 39]) (w1 := w8) (by simp only [Int32.ofInt_add, Int32.ofInt_sub, Int32.ofInt_mul, Int32.ofInt_neg, p_and, p_or, p_xor, p_shl, p_shr, p_usr, p_w8, p_c16, p_lI, q_and, q_or, q_shl, q_shr, q_w32, Int64.ofInt_add, Int64.ofInt_sub, Int64.ofInt_mul, p_mx, p_mn, q_mx, q_mn]; rfl) ?_
    refine wx_rm (ln := 1) (a := 0) (b := 0) (zz := 0) (by decide +kernel) (by decide) ?_
    obtain ⟨s10, e11, hx⟩ := bd hx
    refine wx_pi (kf := 17) (ln := 3) (ci := 4) (b := 1) (zz := 0) (x := 39) (by decide +kernel) h9 (hS _ _ sx_39) rfl (by decide +kernel) e11 (fun w12 h13 => ?_)
    refine wp_g 2 (pc1 := 56) (lv1 := [(0, .ref 39), (1, .ref a1)]) (st1 := [.ref 39, .ref 39]) (w1 := w12) rfl ?_
    refine wx_gi (kf := 21) (ln := 3) (ci := 4) (b := 2) (zz := 0) (x := 39) (by decide +kernel) h13 (hS _ _ sx_39) rfl ?_
    show wp _ 40 59 [(0, .ref 39), (1, .ref a1)] [.int (Int32.ofInt (s10 39 2)), .ref 39] w12 _
    refine wp_g 3 (pc1 := 63) (lv1 := [(0, .ref 39), (1, .ref a1)]) (st1 := [.int (Int32.ofInt 20), .int (Int32.ofInt ((s10 39 2) + 1)), .ref 39]) (w1 := w12) (by simp only [Int32.ofInt_add, Int32.ofInt_sub, Int32.ofInt_mul, Int32.ofInt_neg, p_and, p_or, p_xor, p_shl, p_shr, p_usr, p_w8, p_c16, p_lI, q_and, q_or, q_shl, q_shr, q_w32, Int64.ofInt_add, Int64.ofInt_sub, Int64.ofInt_mul, p_mx, p_mn, q_mx, q_mn]; rfl) ?_
    refine wp_lb (i := .invokestatic 29) (ln := 3) (a := 1002) (b := 9) (z := 0) (st1 := [.int (Int32.ofInt (mnI ((s10 39 2) + 1) 20)), .ref 39]) (w1 := w12) (by decide +kernel) rfl rfl (by decide) (by simp only [Int32.ofInt_add, Int32.ofInt_sub, Int32.ofInt_mul, Int32.ofInt_neg, p_and, p_or, p_xor, p_shl, p_shr, p_usr, p_w8, p_c16, p_lI, q_and, q_or, q_shl, q_shr, q_w32, Int64.ofInt_add, Int64.ofInt_sub, Int64.ofInt_mul, p_mx, p_mn, q_mx, q_mn]; rfl) (Nat.le_of_ble_eq_true rfl) (by omega) ?_
    obtain ⟨s14, e15, hx⟩ := bd hx
    refine wx_pi (kf := 21) (ln := 3) (ci := 4) (b := 2) (zz := 0) (x := 39) (by decide +kernel) h13 (hS _ _ sx_39) rfl (by decide +kernel) e15 (fun w16 h17 => ?_)
    refine wp_rt (i := .return_) (r := none) (ln := 1) (a := 0) (b := 0) (z := 0) (by decide +kernel) rfl (ret_v (by decide +kernel)) ?_
    cases hx
    exact kr _ (Gr_fr Gr_rf h17.2) h17.1
  · have hx := ite_t h5 hx
    refine wp_g 1 (pc1 := 13) (lv1 := [(0, .ref 39), (1, .ref a1)]) (st1 := [.ref 39]) (w1 := w) rfl ?_
    refine wx_gr (o := 1) (kf := 11) (ln := 3) (ci := 4) (b := 0) (zz := 0) (x := 39) (by decide +kernel) h (hS _ _ sx_39) rfl ?_
    show wp _ 40 16 [(0, .ref 39), (1, .ref a1)] [.ref 40] w _
    refine wp_g 1 (pc1 := 17) (lv1 := [(0, .ref 39), (1, .ref a1)]) (st1 := [.ref 39, .ref 40]) (w1 := w) rfl ?_
    refine wx_gi (kf := 17) (ln := 3) (ci := 4) (b := 1) (zz := 0) (x := 39) (by decide +kernel) h (hS _ _ sx_39) rfl ?_
    show wp _ 40 20 [(0, .ref 39), (1, .ref a1)] [.int (Int32.ofInt (s 39 1)), .ref 40] w _
    obtain ⟨s22, e23, hx⟩ := bd hx
    refine wx_newC (kf := 9) (kg := 24) (kd := 3) (by decide +kernel) (by decide +kernel) (by decide +kernel) h.1 (hL.trans h.2.1.symm) e23 (Nat.le_of_ble_eq_true rfl) (by omega) (fun w18 h20 h19 => ?_)
    have h24 := fr_Gr h.2 h20
    have h25 := Gr_sub h.1 h20
    have hS := St_sub h25 hS
    have hK := fun i q => okC_sub h25 (hK i q)
    have ca1 := okC_sub h25 ca1
    have h26 : Rw (shCn sh L) w18 _ w18 := ⟨h19, Fr_rf⟩
    have hLo := okC_new (sh := sh) (L := L)
    show wp _ 40 27 [(0, .ref 39), (1, .ref a1)] [.ref L, .int (Int32.ofInt (s 39 1)), .ref 40] w18 _
    obtain ⟨s27, e28, hx⟩ := bd hx
    refine wx_wr (x := 40) (y := L) (ci := 0) (n := 20) (ln := 1) (a := 0) (b := 0) (zz := 0) (by decide +kernel) h26 (hS _ _ sx_40) hLo.1 e2 e28 (fun w29 h30 => ?_)
    refine wp_g 1 (pc1 := 29) (lv1 := [(0, .ref 39), (1, .ref a1)]) (st1 := [.ref 39]) (w1 := w29) rfl ?_
    refine wx_gr (o := 1) (kf := 11) (ln := 3) (ci := 4) (b := 0) (zz := 0) (x := 39) (by decide +kernel) h30 (hS _ _ sx_39) rfl ?_
    show wp _ 40 32 [(0, .ref 39), (1, .ref a1)] [.ref 40] w29 _
    refine wp_g 1 (pc1 := 33) (lv1 := [(0, .ref 39), (1, .ref a1)]) (st1 := [.ref 39, .ref 40]) (w1 := w29) rfl ?_
    refine wx_gi (kf := 17) (ln := 3) (ci := 4) (b := 1) (zz := 0) (x := 39) (by decide +kernel) h30 (hS _ _ sx_39) rfl ?_
    show wp _ 40 36 [(0, .ref 39), (1, .ref a1)] [.int (Int32.ofInt (s27 39 1)), .ref 40] w29 _
    obtain ⟨i31, e32, hx⟩ := bd hx
    refine wx_rr (x := 40) (n := 20) (ln := 1) (a := 0) (b := 0) (zz := 0) (by decide +kernel) h30 (hS _ _ sx_40) (by decide) e32 ?_
    obtain ⟨u33, e34, hx⟩ := bd hx
    rw [eqA_e e34, uh_rd e28, vR_nat]
    show wp _ 40 37 [(0, .ref 39), (1, .ref a1)] [.ref L] w29 _
    refine wp_g 1 (pc1 := 38) (lv1 := [(0, .ref 39), (1, .ref a1)]) (st1 := [.ref a1, .ref L]) (w1 := w29) rfl ?_
    obtain ⟨o35, e36, hx⟩ := bd hx
    refine wp_cl [.ref L, .ref a1] [] (i := .invokevirtual 25) (ln := 3) (a := 1) (b := 0) (z := 0) (by decide +kernel) rfl rfl (by decide) rfl (show (2 : Nat) = pm_na 1 by decide +kernel) (Nat.le_of_ble_eq_true rfl) (show (2 : Nat) ≤ pm_n 1 by decide +kernel) (rcv_x 0 h30 hLo.1 (by decide +kernel)) (xl_copyFrom_ok (d := d + 2) hS hLo ca1 h30 e36 (fun w37 h38 => ?_))
    show wp _ 40 41 [(0, .ref 39), (1, .ref a1)] [] w37 _
    refine wp_g 2 (pc1 := 43) (lv1 := [(0, .ref 39), (1, .ref a1)]) (st1 := [.ref 39, .ref 39]) (w1 := w37) rfl ?_
    refine wx_gi (kf := 17) (ln := 3) (ci := 4) (b := 1) (zz := 0) (x := 39) (by decide +kernel) h38 (hS _ _ sx_39) rfl ?_
    show wp _ 40 46 [(0, .ref 39), (1, .ref a1)] [.int (Int32.ofInt (o35 39 1)), .ref 39] w37 _
    refine wp_g 3 (pc1 := 50) (lv1 := [(0, .ref 39), (1, .ref a1)]) (st1 := [.int (Int32.ofInt 20), .int (Int32.ofInt ((o35 39 1) + 1)), .ref 39]) (w1 := w37) (by simp only [Int32.ofInt_add, Int32.ofInt_sub, Int32.ofInt_mul, Int32.ofInt_neg, p_and, p_or, p_xor, p_shl, p_shr, p_usr, p_w8, p_c16, p_lI, q_and, q_or, q_shl, q_shr, q_w32, Int64.ofInt_add, Int64.ofInt_sub, Int64.ofInt_mul, p_mx, p_mn, q_mx, q_mn]; rfl) ?_
    refine wx_rm (ln := 1) (a := 0) (b := 0) (zz := 0) (by decide +kernel) (by decide) ?_
    obtain ⟨s39, e40, hx⟩ := bd hx
    refine wx_pi (kf := 17) (ln := 3) (ci := 4) (b := 1) (zz := 0) (x := 39) (by decide +kernel) h38 (hS _ _ sx_39) rfl (by decide +kernel) e40 (fun w41 h42 => ?_)
    refine wp_g 2 (pc1 := 56) (lv1 := [(0, .ref 39), (1, .ref a1)]) (st1 := [.ref 39, .ref 39]) (w1 := w41) rfl ?_
    refine wx_gi (kf := 21) (ln := 3) (ci := 4) (b := 2) (zz := 0) (x := 39) (by decide +kernel) h42 (hS _ _ sx_39) rfl ?_
    show wp _ 40 59 [(0, .ref 39), (1, .ref a1)] [.int (Int32.ofInt (s39 39 2)), .ref 39] w41 _
    refine wp_g 3 (pc1 := 63) (lv1 := [(0, .ref 39), (1, .ref a1)]) (st1 := [.int (Int32.ofInt 20), .int (Int32.ofInt ((s39 39 2) + 1)), .ref 39]) (w1 := w41) (by simp only [Int32.ofInt_add, Int32.ofInt_sub, Int32.ofInt_mul, Int32.ofInt_neg, p_and, p_or, p_xor, p_shl, p_shr, p_usr, p_w8, p_c16, p_lI, q_and, q_or, q_shl, q_shr, q_w32, Int64.ofInt_add, Int64.ofInt_sub, Int64.ofInt_mul, p_mx, p_mn, q_mx, q_mn]; rfl) ?_
    refine wp_lb (i := .invokestatic 29) (ln := 3) (a := 1002) (b := 9) (z := 0) (st1 := [.int (Int32.ofInt (mnI ((s39 39 2) + 1) 20)), .ref 39]) (w1 := w41) (by decide +kernel) rfl rfl (by decide) (by simp only [Int32.ofInt_add, Int32.ofInt_sub, Int32.ofInt_mul, Int32.ofInt_neg, p_and, p_or, p_xor, p_shl, p_shr, p_usr, p_w8, p_c16, p_lI, q_and, q_or, q_shl, q_shr, q_w32, Int64.ofInt_add, Int64.ofInt_sub, Int64.ofInt_mul, p_mx, p_mn, q_mx, q_mn]; rfl) (Nat.le_of_ble_eq_true rfl) (by omega) ?_
    obtain ⟨s43, e44, hx⟩ := bd hx
    refine wx_pi (kf := 21) (ln := 3) (ci := 4) (b := 2) (zz := 0) (x := 39) (by decide +kernel) h42 (hS _ _ sx_39) rfl (by decide +kernel) e44 (fun w45 h46 => ?_)
    refine wp_rt (i := .return_) (r := none) (ln := 1) (a := 0) (b := 0) (z := 0) (by decide +kernel) rfl (ret_v (by decide +kernel)) ?_
    cases hx
    exact kr _ (Gr_fr h24 h46.2) h46.1
/-- Past.bringBack (LCloth;)V -/
noncomputable def xp_bringBack (ks : Nat → Int) (s : Hp) (a1 : Nat) : Option Hp :=
  if 0 < w32 (s 39 2) then (ix 20 (iRem (((s 39 1) + 20) - 1) 20)).bind fun i2 => (rsA (s 40 i2) (ks i2)).bind fun y4 => if y4 < 0 then some s else (xl_copyFrom s a1 y4.toNat).bind fun o7 => (some (uh o7 39 1 (iRem (((s 39 1) + 20) - 1) 20))).bind fun s11 => (some (uh s11 39 2 ((s11 39 2) - 1))).bind fun s15 => some s15 else some s
set_option maxRecDepth 100000 in
theorem xp_bringBack_ok {d : Nat} {P : Option Value → pm_H → Prop} {w : pm_H} {sh : Shp} {w0 : pm_H} {s : Hp} (hS : St sh) {ks : Nat → Int} (hK : ∀ i, ¬ ks i < 0 → okC 3 sh (ks i).toNat) {a1 r1 : Nat} (ca1 : okC r1 sh a1) (h : Rw sh w0 s w) {o : Hp} (hx : xp_bringBack ks s a1 = some o) (kr : ∀ w1, Rw sh w0 o w1 → P none w1) : wp (d + 7) 41 0 (lv_args 0 [.ref 39, .ref a1]) [] w P := by
  show wp _ 41 0 [(0, .ref 39), (1, .ref a1)] [] w _
  unfold xp_bringBack at hx
  refine wp_g 1 (pc1 := 1) (lv1 := [(0, .ref 39), (1, .ref a1)]) (st1 := [.ref 39]) (w1 := w) rfl ?_
  refine wx_gi (kf := 17) (ln := 3) (ci := 4) (b := 1) (zz := 0) (x := 39) (by decide +kernel) h (hS _ _ sx_39) rfl ?_
  show wp _ 41 4 [(0, .ref 39), (1, .ref a1)] [.int (Int32.ofInt (s 39 1))] w _
  refine wp_g 5 (pc1 := 11) (lv1 := [(0, .ref 39), (1, .ref a1)]) (st1 := [.int (Int32.ofInt 20), .int (Int32.ofInt (((s 39 1) + 20) - 1))]) (w1 := w) (by simp only [Int32.ofInt_add, Int32.ofInt_sub, Int32.ofInt_mul, Int32.ofInt_neg, p_and, p_or, p_xor, p_shl, p_shr, p_usr, p_w8, p_c16, p_lI, q_and, q_or, q_shl, q_shr, q_w32, Int64.ofInt_add, Int64.ofInt_sub, Int64.ofInt_mul, p_mx, p_mn, q_mx, q_mn]; rfl) ?_
  refine wx_rm (ln := 1) (a := 0) (b := 0) (zz := 0) (by decide +kernel) (by decide) ?_
  refine wp_g 2 (pc1 := 14) (lv1 := [(2, .int (Int32.ofInt (iRem (((s 39 1) + 20) - 1) 20))), (0, .ref 39), (1, .ref a1)]) (st1 := [.ref 39]) (w1 := w) rfl ?_
  refine wx_gi (kf := 21) (ln := 3) (ci := 4) (b := 2) (zz := 0) (x := 39) (by decide +kernel) h (hS _ _ sx_39) rfl ?_
  show wp _ 41 17 [(2, .int (Int32.ofInt (iRem (((s 39 1) + 20) - 1) 20))), (0, .ref 39), (1, .ref a1)] [.int (Int32.ofInt (s 39 2))] w _
  refine wz_le (oo := 37) (ln := 3) (a := 54) (b := 0) (zz := 0) (by decide +kernel) (fun h1 => ?_) (fun h1 => ?_)
  · have hx := ite_f h1 hx
    refine wp_rt (i := .return_) (r := none) (ln := 1) (a := 0) (b := 0) (z := 0) (by decide +kernel) rfl (ret_v (by decide +kernel)) ?_
    cases hx
    exact kr _ h
  · have hx := ite_t h1 hx
    refine wp_g 1 (pc1 := 21) (lv1 := [(2, .int (Int32.ofInt (iRem (((s 39 1) + 20) - 1) 20))), (0, .ref 39), (1, .ref a1)]) (st1 := [.ref 39]) (w1 := w) rfl ?_
    refine wx_gr (o := 1) (kf := 11) (ln := 3) (ci := 4) (b := 0) (zz := 0) (x := 39) (by decide +kernel) h (hS _ _ sx_39) rfl ?_
    show wp _ 41 24 [(2, .int (Int32.ofInt (iRem (((s 39 1) + 20) - 1) 20))), (0, .ref 39), (1, .ref a1)] [.ref 40] w _
    refine wp_g 1 (pc1 := 25) (lv1 := [(2, .int (Int32.ofInt (iRem (((s 39 1) + 20) - 1) 20))), (0, .ref 39), (1, .ref a1)]) (st1 := [.int (Int32.ofInt (iRem (((s 39 1) + 20) - 1) 20)), .ref 40]) (w1 := w) rfl ?_
    obtain ⟨i2, e3, hx⟩ := bd hx
    refine wx_rr (x := 40) (n := 20) (ln := 1) (a := 0) (b := 0) (zz := 0) (by decide +kernel) h (hS _ _ sx_40) (by decide) e3 ?_
    obtain ⟨y4, e5, hx⟩ := bd hx
    have cy4 : ¬ y4 < 0 → okC 3 sh y4.toNat := by rw [(rsA_e e5).2]; exact hK _
    rw [(rsA_e e5).1, ← (rsA_e e5).2]
    show wp _ 41 26 [(2, .int (Int32.ofInt (iRem (((s 39 1) + 20) - 1) 20))), (0, .ref 39), (1, .ref a1)] [vR y4] w _
    refine wx_nu (oo := 28) (ln := 3) (a := 54) (b := 0) (zz := 0) (by decide +kernel) (fun h6 => ?_) (fun h6 => ?_)
    · have hx := ite_t h6 hx
      refine wp_rt (i := .return_) (r := none) (ln := 1) (a := 0) (b := 0) (z := 0) (by decide +kernel) rfl (ret_v (by decide +kernel)) ?_
      cases hx
      exact kr _ h
    · have hx := ite_f h6 hx
      refine wp_g 2 (pc1 := 31) (lv1 := [(2, .int (Int32.ofInt (iRem (((s 39 1) + 20) - 1) 20))), (0, .ref 39), (1, .ref a1)]) (st1 := [.ref 39, .ref a1]) (w1 := w) rfl ?_
      refine wx_gr (o := 1) (kf := 11) (ln := 3) (ci := 4) (b := 0) (zz := 0) (x := 39) (by decide +kernel) h (hS _ _ sx_39) rfl ?_
      show wp _ 41 34 [(2, .int (Int32.ofInt (iRem (((s 39 1) + 20) - 1) 20))), (0, .ref 39), (1, .ref a1)] [.ref 40, .ref a1] w _
      refine wp_g 1 (pc1 := 35) (lv1 := [(2, .int (Int32.ofInt (iRem (((s 39 1) + 20) - 1) 20))), (0, .ref 39), (1, .ref a1)]) (st1 := [.int (Int32.ofInt (iRem (((s 39 1) + 20) - 1) 20)), .ref 40, .ref a1]) (w1 := w) rfl ?_
      refine wx_rr (x := 40) (n := 20) (ln := 1) (a := 0) (b := 0) (zz := 0) (by decide +kernel) h (hS _ _ sx_40) (by decide) e3 ?_
      rw [(rsA_e e5).1, ← (rsA_e e5).2]
      show wp _ 41 36 [(2, .int (Int32.ofInt (iRem (((s 39 1) + 20) - 1) 20))), (0, .ref 39), (1, .ref a1)] [vR y4, .ref a1] w _
      rw [vR_r h6]
      obtain ⟨o7, e8, hx⟩ := bd hx
      refine wp_cl [.ref a1, .ref y4.toNat] [] (i := .invokevirtual 25) (ln := 3) (a := 1) (b := 0) (z := 0) (by decide +kernel) rfl rfl (by decide) rfl (show (2 : Nat) = pm_na 1 by decide +kernel) (Nat.le_of_ble_eq_true rfl) (show (2 : Nat) ≤ pm_n 1 by decide +kernel) (rcv_x 0 h ca1.1 (by decide +kernel)) (xl_copyFrom_ok (d := d) hS ca1 (cy4 h6) h e8 (fun w9 h10 => ?_))
      show wp _ 41 39 [(2, .int (Int32.ofInt (iRem (((s 39 1) + 20) - 1) 20))), (0, .ref 39), (1, .ref a1)] [] w9 _
      refine wp_g 2 (pc1 := 41) (lv1 := [(2, .int (Int32.ofInt (iRem (((s 39 1) + 20) - 1) 20))), (0, .ref 39), (1, .ref a1)]) (st1 := [.int (Int32.ofInt (iRem (((s 39 1) + 20) - 1) 20)), .ref 39]) (w1 := w9) rfl ?_
      obtain ⟨s11, e12, hx⟩ := bd hx
      refine wx_pi (kf := 17) (ln := 3) (ci := 4) (b := 1) (zz := 0) (x := 39) (by decide +kernel) h10 (hS _ _ sx_39) rfl (by decide +kernel) e12 (fun w13 h14 => ?_)
      refine wp_g 2 (pc1 := 46) (lv1 := [(2, .int (Int32.ofInt (iRem (((s 39 1) + 20) - 1) 20))), (0, .ref 39), (1, .ref a1)]) (st1 := [.ref 39, .ref 39]) (w1 := w13) rfl ?_
      refine wx_gi (kf := 21) (ln := 3) (ci := 4) (b := 2) (zz := 0) (x := 39) (by decide +kernel) h14 (hS _ _ sx_39) rfl ?_
      show wp _ 41 49 [(2, .int (Int32.ofInt (iRem (((s 39 1) + 20) - 1) 20))), (0, .ref 39), (1, .ref a1)] [.int (Int32.ofInt (s11 39 2)), .ref 39] w13 _
      refine wp_g 2 (pc1 := 51) (lv1 := [(2, .int (Int32.ofInt (iRem (((s 39 1) + 20) - 1) 20))), (0, .ref 39), (1, .ref a1)]) (st1 := [.int (Int32.ofInt ((s11 39 2) - 1)), .ref 39]) (w1 := w13) (by simp only [Int32.ofInt_add, Int32.ofInt_sub, Int32.ofInt_mul, Int32.ofInt_neg, p_and, p_or, p_xor, p_shl, p_shr, p_usr, p_w8, p_c16, p_lI, q_and, q_or, q_shl, q_shr, q_w32, Int64.ofInt_add, Int64.ofInt_sub, Int64.ofInt_mul, p_mx, p_mn, q_mx, q_mn]; rfl) ?_
      obtain ⟨s15, e16, hx⟩ := bd hx
      refine wx_pi (kf := 21) (ln := 3) (ci := 4) (b := 2) (zz := 0) (x := 39) (by decide +kernel) h14 (hS _ _ sx_39) rfl (by decide +kernel) e16 (fun w17 h18 => ?_)
      refine wp_rt (i := .return_) (r := none) (ln := 1) (a := 0) (b := 0) (z := 0) (by decide +kernel) rfl (ret_v (by decide +kernel)) ?_
      cases hx
      exact kr _ h18
/-- FoldDeeds.rule ()I -/
noncomputable def xf_rule (L : Nat) (sh : Shp) (s : Hp) : Option (Int × Hp × Shp) :=
  if w32 (s 0 4) < w32 6 then (xr_read s).bind fun o2 => (some (uh o2.2 1 1 0)).bind fun s6 => if w32 o2.1 = 0 then (xr_made L sh s6).bind fun o11 => (ix 6 (s6 0 4)).bind fun i19 => (some (uh o11.2.1 15 i19 ((L : Nat) : Int))).bind fun s21 => (some (uh s21 0 4 ((s21 0 4) + 1))).bind fun s25 => some ((s25 0 4) - 1, s25, o11.2.2) else some ((-2) - o2.1, s6, sh) else some ((-1), s, sh)
set_option maxRecDepth 100000 in
theorem xf_rule_ok {d : Nat} {P : Option Value → pm_H → Prop} {w : pm_H} {sh : Shp} {s : Hp} (hS : St sh) {L : Nat} (hL : L = w.length) (h : RH sh s w) {o : Int × Hp × Shp} (hx : xf_rule L sh s = some o) (kr : ∀ w1, Gr sh o.2.2 w w1 → RH o.2.2 o.2.1 w1 → P (some (.int (Int32.ofInt o.1))) w1) : wp (d + 53) 110 0 (lv_args 0 [.ref 0]) [] w P := by
  replace h : Rw sh w s w := ⟨h, Fr_rf⟩
  show wp _ 110 0 [(0, .ref 0)] [] w _
  unfold xf_rule at hx
  refine wp_g 1 (pc1 := 1) (lv1 := [(0, .ref 0)]) (st1 := [.ref 0]) (w1 := w) rfl ?_
  refine wx_gi (kf := 36) (ln := 3) (ci := 11) (b := 4) (zz := 0) (x := 0) (by decide +kernel) h (hS _ _ sx_0) rfl ?_
  show wp _ 110 4 [(0, .ref 0)] [.int (Int32.ofInt (s 0 4))] w _
  refine wp_g 1 (pc1 := 6) (lv1 := [(0, .ref 0)]) (st1 := [.int (Int32.ofInt 6), .int (Int32.ofInt (s 0 4))]) (w1 := w) rfl ?_
  refine wx_lt (oo := 5) (ln := 3) (a := 11) (b := 0) (zz := 0) (by decide +kernel) (fun h1 => ?_) (fun h1 => ?_)
  · have hx := ite_t h1 hx
    refine wp_g 1 (pc1 := 12) (lv1 := [(0, .ref 0)]) (st1 := [.ref 0]) (w1 := w) rfl ?_
    refine wx_gr (o := 13) (kf := 26) (ln := 3) (ci := 11) (b := 2) (zz := 0) (x := 0) (by decide +kernel) h (hS _ _ sx_0) rfl ?_
    show wp _ 110 15 [(0, .ref 0)] [.ref 13] w _
    refine wp_g 1 (pc1 := 16) (lv1 := [(0, .ref 0)]) (st1 := [.ref 0, .ref 13]) (w1 := w) rfl ?_
    refine wx_gr (o := 1) (kf := 10) (ln := 3) (ci := 11) (b := 0) (zz := 0) (x := 0) (by decide +kernel) h (hS _ _ sx_0) rfl ?_
    show wp _ 110 19 [(0, .ref 0)] [.ref 1, .ref 13] w _
    obtain ⟨o2, e3, hx⟩ := bd hx
    refine wp_cl [.ref 13, .ref 1] [] (i := .invokevirtual 124) (ln := 3) (a := 48) (b := 0) (z := 0) (by decide +kernel) rfl rfl (by decide) rfl (show (2 : Nat) = pm_na 48 by decide +kernel) (Nat.le_of_ble_eq_true rfl) (show (2 : Nat) ≤ pm_n 48 by decide +kernel) (rcv_x 6 h (hS _ _ sx_13) (by decide +kernel)) (xr_read_ok (d := d) hS h e3 (fun w4 h5 => ?_))
    show wp _ 110 22 [(0, .ref 0)] [.int (Int32.ofInt o2.1)] w4 _
    refine wp_g 2 (pc1 := 24) (lv1 := [(1, .int (Int32.ofInt o2.1)), (0, .ref 0)]) (st1 := [.ref 0]) (w1 := w4) rfl ?_
    refine wx_gr (o := 1) (kf := 10) (ln := 3) (ci := 11) (b := 0) (zz := 0) (x := 0) (by decide +kernel) h5 (hS _ _ sx_0) rfl ?_
    show wp _ 110 27 [(1, .int (Int32.ofInt o2.1)), (0, .ref 0)] [.ref 1] w4 _
    refine wp_g 1 (pc1 := 28) (lv1 := [(1, .int (Int32.ofInt o2.1)), (0, .ref 0)]) (st1 := [.int (Int32.ofInt 0), .ref 1]) (w1 := w4) rfl ?_
    obtain ⟨s6, e7, hx⟩ := bd hx
    refine wx_pi (kf := 94) (ln := 3) (ci := 9) (b := 1) (zz := 0) (x := 1) (by decide +kernel) h5 (hS _ _ sx_1) rfl (by decide +kernel) e7 (fun w8 h9 => ?_)
    refine wp_g 1 (pc1 := 32) (lv1 := [(1, .int (Int32.ofInt o2.1)), (0, .ref 0)]) (st1 := [.int (Int32.ofInt o2.1)]) (w1 := w8) rfl ?_
    refine wz_eq (oo := 8) (ln := 3) (a := 40) (b := 0) (zz := 0) (by decide +kernel) (fun h10 => ?_) (fun h10 => ?_)
    · have hx := ite_t h10 hx
      refine wp_g 1 (pc1 := 41) (lv1 := [(1, .int (Int32.ofInt o2.1)), (0, .ref 0)]) (st1 := [.ref 0]) (w1 := w8) rfl ?_
      refine wx_gr (o := 15) (kf := 32) (ln := 3) (ci := 11) (b := 3) (zz := 0) (x := 0) (by decide +kernel) h9 (hS _ _ sx_0) rfl ?_
      show wp _ 110 44 [(1, .int (Int32.ofInt o2.1)), (0, .ref 0)] [.ref 15] w8 _
      refine wp_g 1 (pc1 := 45) (lv1 := [(1, .int (Int32.ofInt o2.1)), (0, .ref 0)]) (st1 := [.ref 0, .ref 15]) (w1 := w8) rfl ?_
      refine wx_gi (kf := 36) (ln := 3) (ci := 11) (b := 4) (zz := 0) (x := 0) (by decide +kernel) h9 (hS _ _ sx_0) rfl ?_
      show wp _ 110 48 [(1, .int (Int32.ofInt o2.1)), (0, .ref 0)] [.int (Int32.ofInt (s6 0 4)), .ref 15] w8 _
      refine wp_g 1 (pc1 := 49) (lv1 := [(1, .int (Int32.ofInt o2.1)), (0, .ref 0)]) (st1 := [.ref 0, .int (Int32.ofInt (s6 0 4)), .ref 15]) (w1 := w8) rfl ?_
      refine wx_gr (o := 13) (kf := 26) (ln := 3) (ci := 11) (b := 2) (zz := 0) (x := 0) (by decide +kernel) h9 (hS _ _ sx_0) rfl ?_
      show wp _ 110 52 [(1, .int (Int32.ofInt o2.1)), (0, .ref 0)] [.ref 13, .int (Int32.ofInt (s6 0 4)), .ref 15] w8 _
      obtain ⟨o11, e12, hx⟩ := bd hx
      refine wp_cl [.ref 13] [.int (Int32.ofInt (s6 0 4)), .ref 15] (i := .invokevirtual 125) (ln := 3) (a := 49) (b := 0) (z := 0) (by decide +kernel) rfl rfl (by decide) rfl (show (1 : Nat) = pm_na 49 by decide +kernel) (Nat.le_of_ble_eq_true rfl) (show (1 : Nat) ≤ pm_n 49 by decide +kernel) (rcv_x 6 h9 (hS _ _ sx_13) (by decide +kernel)) (xr_made_ok (d := d + 43) hS (hL.trans h9.2.1.symm) h9.1 e12 (fun w13 h15 h14 => ?_))
      have h16 := fr_Gr h9.2 h15
      have h17 := Gr_sub h9.1 h15
      have hS := St_sub h17 hS
      have h18 : Rw o11.2.2 w13 _ w13 := ⟨h14, Fr_rf⟩
      have hLo := okM_new e12
      show wp _ 110 55 [(1, .int (Int32.ofInt o2.1)), (0, .ref 0)] [.ref L, .int (Int32.ofInt (s6 0 4)), .ref 15] w13 _
      obtain ⟨i19, e20, hx⟩ := bd hx
      obtain ⟨s21, e22, hx⟩ := bd hx
      refine wx_wr (x := 15) (y := L) (ci := 5) (n := 6) (ln := 1) (a := 0) (b := 0) (zz := 0) (by decide +kernel) h18 (hS _ _ sx_15) hLo.1 e20 e22 (fun w23 h24 => ?_)
      refine wp_g 2 (pc1 := 58) (lv1 := [(1, .int (Int32.ofInt o2.1)), (0, .ref 0)]) (st1 := [.ref 0, .ref 0]) (w1 := w23) rfl ?_
      refine wx_gi (kf := 36) (ln := 3) (ci := 11) (b := 4) (zz := 0) (x := 0) (by decide +kernel) h24 (hS _ _ sx_0) rfl ?_
      show wp _ 110 61 [(1, .int (Int32.ofInt o2.1)), (0, .ref 0)] [.int (Int32.ofInt (s21 0 4)), .ref 0] w23 _
      refine wp_g 2 (pc1 := 63) (lv1 := [(1, .int (Int32.ofInt o2.1)), (0, .ref 0)]) (st1 := [.int (Int32.ofInt ((s21 0 4) + 1)), .ref 0]) (w1 := w23) (by simp only [Int32.ofInt_add, Int32.ofInt_sub, Int32.ofInt_mul, Int32.ofInt_neg, p_and, p_or, p_xor, p_shl, p_shr, p_usr, p_w8, p_c16, p_lI, q_and, q_or, q_shl, q_shr, q_w32, Int64.ofInt_add, Int64.ofInt_sub, Int64.ofInt_mul, p_mx, p_mn, q_mx, q_mn]; rfl) ?_
      obtain ⟨s25, e26, hx⟩ := bd hx
      refine wx_pi (kf := 36) (ln := 3) (ci := 11) (b := 4) (zz := 0) (x := 0) (by decide +kernel) h24 (hS _ _ sx_0) rfl (by decide +kernel) e26 (fun w27 h28 => ?_)
      refine wp_g 1 (pc1 := 67) (lv1 := [(1, .int (Int32.ofInt o2.1)), (0, .ref 0)]) (st1 := [.ref 0]) (w1 := w27) rfl ?_
      refine wx_gi (kf := 36) (ln := 3) (ci := 11) (b := 4) (zz := 0) (x := 0) (by decide +kernel) h28 (hS _ _ sx_0) rfl ?_
      show wp _ 110 70 [(1, .int (Int32.ofInt o2.1)), (0, .ref 0)] [.int (Int32.ofInt (s25 0 4))] w27 _
      refine wp_g 2 (pc1 := 72) (lv1 := [(1, .int (Int32.ofInt o2.1)), (0, .ref 0)]) (st1 := [.int (Int32.ofInt ((s25 0 4) - 1))]) (w1 := w27) (by simp only [Int32.ofInt_add, Int32.ofInt_sub, Int32.ofInt_mul, Int32.ofInt_neg, p_and, p_or, p_xor, p_shl, p_shr, p_usr, p_w8, p_c16, p_lI, q_and, q_or, q_shl, q_shr, q_w32, Int64.ofInt_add, Int64.ofInt_sub, Int64.ofInt_mul, p_mx, p_mn, q_mx, q_mn]; rfl) ?_
      refine wp_rt (i := .ireturn) (r := some (.int (Int32.ofInt ((s25 0 4) - 1)))) (ln := 1) (a := 0) (b := 0) (z := 0) (by decide +kernel) rfl (ret_ok (by decide +kernel)) ?_
      cases hx
      exact kr _ (Gr_fr h16 h28.2) h28.1
    · have hx := ite_f h10 hx
      refine wp_g 3 (pc1 := 39) (lv1 := [(1, .int (Int32.ofInt o2.1)), (0, .ref 0)]) (st1 := [.int (Int32.ofInt ((-2) - o2.1))]) (w1 := w8) (by simp only [Int32.ofInt_add, Int32.ofInt_sub, Int32.ofInt_mul, Int32.ofInt_neg, p_and, p_or, p_xor, p_shl, p_shr, p_usr, p_w8, p_c16, p_lI, q_and, q_or, q_shl, q_shr, q_w32, Int64.ofInt_add, Int64.ofInt_sub, Int64.ofInt_mul, p_mx, p_mn, q_mx, q_mn]; rfl) ?_
      refine wp_rt (i := .ireturn) (r := some (.int (Int32.ofInt ((-2) - o2.1)))) (ln := 1) (a := 0) (b := 0) (z := 0) (by decide +kernel) rfl (ret_ok (by decide +kernel)) ?_
      cases hx
      exact kr _ (Gr_fr Gr_rf h9.2) h9.1
  · have hx := ite_f h1 hx
    refine wp_g 1 (pc1 := 10) (lv1 := [(0, .ref 0)]) (st1 := [.int (Int32.ofInt (-1))]) (w1 := w) rfl ?_
    refine wp_rt (i := .ireturn) (r := some (.int (Int32.ofInt (-1)))) (ln := 1) (a := 0) (b := 0) (z := 0) (by decide +kernel) rfl (ret_ok (by decide +kernel)) ?_
    cases hx
    exact kr _ (Gr_fr Gr_rf h.2) h.1
/-- FoldDeeds.image (I)I -/
noncomputable def xf_image (gs : Nat → Int) (L : Nat) (sh : Shp) (s : Hp) (p1 : Int) : Option (Int × Hp × Shp) :=
  if w32 p1 < 0 then some ((-1), s, sh) else if w32 p1 < w32 4 then (ix 4 p1).bind fun i3 => (rsA (s 38 i3) (gs i3)).bind fun y5 => if y5 < 0 then (some (zs s L)).bind fun s16 => (some (uh s16 38 i3 ((L : Nat) : Int))).bind fun s21 => (xs_copyFrom s21 L 16).bind fun o25 => some (o25 17 3, o25, (shSn sh L)) else (xs_copyFrom s y5.toNat 16).bind fun o8 => some (o8 17 3, o8, sh) else some ((-1), s, sh)
set_option maxRecDepth 100000 in
theorem xf_image_ok {d : Nat} {P : Option Value → pm_H → Prop} {w : pm_H} {sh : Shp} {s : Hp} (hS : St sh) {gs : Nat → Int} (hJ : ∀ i, ¬ gs i < 0 → okS 2 sh (gs i).toNat) {p1 : Int} {L : Nat} (hL : L = w.length) (h : RH sh s w) {o : Int × Hp × Shp} (hx : xf_image gs L sh s p1 = some o) (kr : ∀ w1, Gr sh o.2.2 w w1 → RH o.2.2 o.2.1 w1 → P (some (.int (Int32.ofInt o.1))) w1) : wp (d + 9) 136 0 (lv_args 0 [.ref 0, .int (Int32.ofInt p1)]) [] w P := by
  replace h : Rw sh w s w := ⟨h, Fr_rf⟩
  show wp _ 136 0 [(0, .ref 0), (1, .int (Int32.ofInt p1))] [] w _
  unfold xf_image at hx
  refine wp_g 1 (pc1 := 1) (lv1 := [(0, .ref 0), (1, .int (Int32.ofInt p1))]) (st1 := [.int (Int32.ofInt p1)]) (w1 := w) rfl ?_
  refine wz_lt (oo := 8) (ln := 3) (a := 9) (b := 0) (zz := 0) (by decide +kernel) (fun h1 => ?_) (fun h1 => ?_)
  · have hx := ite_t h1 hx
    refine wp_g 1 (pc1 := 10) (lv1 := [(0, .ref 0), (1, .int (Int32.ofInt p1))]) (st1 := [.int (Int32.ofInt (-1))]) (w1 := w) rfl ?_
    refine wp_rt (i := .ireturn) (r := some (.int (Int32.ofInt (-1)))) (ln := 1) (a := 0) (b := 0) (z := 0) (by decide +kernel) rfl (ret_ok (by decide +kernel)) ?_
    cases hx
    exact kr _ (Gr_fr Gr_rf h.2) h.1
  · have hx := ite_f h1 hx
    refine wp_g 2 (pc1 := 6) (lv1 := [(0, .ref 0), (1, .int (Int32.ofInt p1))]) (st1 := [.int (Int32.ofInt 4), .int (Int32.ofInt p1)]) (w1 := w) rfl ?_
    refine wx_lt (oo := 5) (ln := 3) (a := 11) (b := 0) (zz := 0) (by decide +kernel) (fun h2 => ?_) (fun h2 => ?_)
    · have hx := ite_t h2 hx
      refine wp_g 1 (pc1 := 12) (lv1 := [(0, .ref 0), (1, .int (Int32.ofInt p1))]) (st1 := [.ref 0]) (w1 := w) rfl ?_
      refine wx_gr (o := 38) (kf := 47) (ln := 3) (ci := 11) (b := 6) (zz := 0) (x := 0) (by decide +kernel) h (hS _ _ sx_0) rfl ?_
      show wp _ 136 15 [(0, .ref 0), (1, .int (Int32.ofInt p1))] [.ref 38] w _
      refine wp_g 1 (pc1 := 16) (lv1 := [(0, .ref 0), (1, .int (Int32.ofInt p1))]) (st1 := [.int (Int32.ofInt p1), .ref 38]) (w1 := w) rfl ?_
      obtain ⟨i3, e4, hx⟩ := bd hx
      refine wx_rr (x := 38) (n := 4) (ln := 1) (a := 0) (b := 0) (zz := 0) (by decide +kernel) h (hS _ _ sx_38) (by decide) e4 ?_
      obtain ⟨y5, e6, hx⟩ := bd hx
      have cy5 : ¬ y5 < 0 → okS 2 sh y5.toNat := by rw [(rsA_e e6).2]; exact hJ _
      rw [(rsA_e e6).1, ← (rsA_e e6).2]
      show wp _ 136 17 [(0, .ref 0), (1, .int (Int32.ofInt p1))] [vR y5] w _
      refine wx_nn (oo := 16) (ln := 3) (a := 33) (b := 0) (zz := 0) (by decide +kernel) (fun h7 => ?_) (fun h7 => ?_)
      · have hx := ite_f h7 hx
        refine wp_g 1 (pc1 := 34) (lv1 := [(0, .ref 0), (1, .int (Int32.ofInt p1))]) (st1 := [.ref 0]) (w1 := w) rfl ?_
        refine wx_gr (o := 38) (kf := 47) (ln := 3) (ci := 11) (b := 6) (zz := 0) (x := 0) (by decide +kernel) h (hS _ _ sx_0) rfl ?_
        show wp _ 136 37 [(0, .ref 0), (1, .int (Int32.ofInt p1))] [.ref 38] w _
        refine wp_g 1 (pc1 := 38) (lv1 := [(0, .ref 0), (1, .int (Int32.ofInt p1))]) (st1 := [.int (Int32.ofInt p1), .ref 38]) (w1 := w) rfl ?_
        refine wx_rr (x := 38) (n := 4) (ln := 1) (a := 0) (b := 0) (zz := 0) (by decide +kernel) h (hS _ _ sx_38) (by decide) e4 ?_
        rw [(rsA_e e6).1, ← (rsA_e e6).2]
        show wp _ 136 39 [(0, .ref 0), (1, .int (Int32.ofInt p1))] [vR y5] w _
        refine wp_g 1 (pc1 := 40) (lv1 := [(0, .ref 0), (1, .int (Int32.ofInt p1))]) (st1 := [.ref 0, vR y5]) (w1 := w) (by rcases vR_c y5 with e | ⟨_, e⟩ <;> simp only [e] <;> rfl) ?_
        refine wx_gr (o := 16) (kf := 43) (ln := 3) (ci := 11) (b := 5) (zz := 0) (x := 0) (by decide +kernel) h (hS _ _ sx_0) rfl ?_
        show wp _ 136 43 [(0, .ref 0), (1, .int (Int32.ofInt p1))] [.ref 16, vR y5] w _
        rw [vR_r h7]
        obtain ⟨o8, e9, hx⟩ := bd hx
        refine wp_cl [.ref y5.toNat, .ref 16] [] (i := .invokevirtual 289) (ln := 3) (a := 62) (b := 0) (z := 0) (by decide +kernel) rfl rfl (by decide) rfl (show (2 : Nat) = pm_na 62 by decide +kernel) (Nat.le_of_ble_eq_true rfl) (show (2 : Nat) ≤ pm_n 62 by decide +kernel) (rcv_x 7 h (cy5 h7).1 (by decide +kernel)) (xs_copyFrom_ok (d := d + 1) hS (cy5 h7) (okS_16 hS) h e9 (fun w10 h11 => ?_))
        show wp _ 136 46 [(0, .ref 0), (1, .int (Int32.ofInt p1))] [] w10 _
        refine wp_g 1 (pc1 := 47) (lv1 := [(0, .ref 0), (1, .int (Int32.ofInt p1))]) (st1 := [.ref 0]) (w1 := w10) rfl ?_
        refine wx_gr (o := 16) (kf := 43) (ln := 3) (ci := 11) (b := 5) (zz := 0) (x := 0) (by decide +kernel) h11 (hS _ _ sx_0) rfl ?_
        show wp _ 136 50 [(0, .ref 0), (1, .int (Int32.ofInt p1))] [.ref 16] w10 _
        refine wx_gr (o := 1) (kf := 116) (ln := 3) (ci := 7) (b := 0) (zz := 0) (x := 16) (by decide +kernel) h11 (hS _ _ sx_16) rfl ?_
        show wp _ 136 53 [(0, .ref 0), (1, .int (Int32.ofInt p1))] [.ref 17] w10 _
        refine wx_gi (kf := 283) (ln := 3) (ci := 0) (b := 3) (zz := 0) (x := 17) (by decide +kernel) h11 (hS _ _ sx_17) rfl ?_
        show wp _ 136 56 [(0, .ref 0), (1, .int (Int32.ofInt p1))] [.int (Int32.ofInt (o8 17 3))] w10 _
        refine wp_rt (i := .ireturn) (r := some (.int (Int32.ofInt (o8 17 3)))) (ln := 1) (a := 0) (b := 0) (z := 0) (by decide +kernel) rfl (ret_ok (by decide +kernel)) ?_
        cases hx
        exact kr _ (Gr_fr Gr_rf h11.2) h11.1
      · have hx := ite_t h7 hx
        refine wp_g 1 (pc1 := 21) (lv1 := [(0, .ref 0), (1, .int (Int32.ofInt p1))]) (st1 := [.ref 0]) (w1 := w) rfl ?_
        refine wx_gr (o := 38) (kf := 47) (ln := 3) (ci := 11) (b := 6) (zz := 0) (x := 0) (by decide +kernel) h (hS _ _ sx_0) rfl ?_
        show wp _ 136 24 [(0, .ref 0), (1, .int (Int32.ofInt p1))] [.ref 38] w _
        refine wp_g 1 (pc1 := 25) (lv1 := [(0, .ref 0), (1, .int (Int32.ofInt p1))]) (st1 := [.int (Int32.ofInt p1), .ref 38]) (w1 := w) rfl ?_
        obtain ⟨s16, e17, hx⟩ := bd hx
        refine wx_newS (kf := 40) (kg := 42) (kd := 3) (by decide +kernel) (by decide +kernel) (by decide +kernel) h.1 (hL.trans h.2.1.symm) e17 (Nat.le_of_ble_eq_true rfl) (by omega) (fun w12 h14 h13 => ?_)
        have h18 := fr_Gr h.2 h14
        have h19 := Gr_sub h.1 h14
        have hS := St_sub h19 hS
        have hJ := fun i q => okS_sub h19 (hJ i q)
        have h20 : Rw (shSn sh L) w12 _ w12 := ⟨h13, Fr_rf⟩
        have hLo := okS_new (sh := sh) (L := L)
        show wp _ 136 32 [(0, .ref 0), (1, .int (Int32.ofInt p1))] [.ref L, .int (Int32.ofInt p1), .ref 38] w12 _
        obtain ⟨s21, e22, hx⟩ := bd hx
        refine wx_wr (x := 38) (y := L) (ci := 7) (n := 4) (ln := 1) (a := 0) (b := 0) (zz := 0) (by decide +kernel) h20 (hS _ _ sx_38) hLo.1 e4 e22 (fun w23 h24 => ?_)
        refine wp_g 1 (pc1 := 34) (lv1 := [(0, .ref 0), (1, .int (Int32.ofInt p1))]) (st1 := [.ref 0]) (w1 := w23) rfl ?_
        refine wx_gr (o := 38) (kf := 47) (ln := 3) (ci := 11) (b := 6) (zz := 0) (x := 0) (by decide +kernel) h24 (hS _ _ sx_0) rfl ?_
        show wp _ 136 37 [(0, .ref 0), (1, .int (Int32.ofInt p1))] [.ref 38] w23 _
        refine wp_g 1 (pc1 := 38) (lv1 := [(0, .ref 0), (1, .int (Int32.ofInt p1))]) (st1 := [.int (Int32.ofInt p1), .ref 38]) (w1 := w23) rfl ?_
        refine wx_rr (x := 38) (n := 4) (ln := 1) (a := 0) (b := 0) (zz := 0) (by decide +kernel) h24 (hS _ _ sx_38) (by decide) e4 ?_
        rw [uh_rd e22, vR_nat]
        show wp _ 136 39 [(0, .ref 0), (1, .int (Int32.ofInt p1))] [.ref L] w23 _
        refine wp_g 1 (pc1 := 40) (lv1 := [(0, .ref 0), (1, .int (Int32.ofInt p1))]) (st1 := [.ref 0, .ref L]) (w1 := w23) rfl ?_
        refine wx_gr (o := 16) (kf := 43) (ln := 3) (ci := 11) (b := 5) (zz := 0) (x := 0) (by decide +kernel) h24 (hS _ _ sx_0) rfl ?_
        show wp _ 136 43 [(0, .ref 0), (1, .int (Int32.ofInt p1))] [.ref 16, .ref L] w23 _
        obtain ⟨o25, e26, hx⟩ := bd hx
        refine wp_cl [.ref L, .ref 16] [] (i := .invokevirtual 289) (ln := 3) (a := 62) (b := 0) (z := 0) (by decide +kernel) rfl rfl (by decide) rfl (show (2 : Nat) = pm_na 62 by decide +kernel) (Nat.le_of_ble_eq_true rfl) (show (2 : Nat) ≤ pm_n 62 by decide +kernel) (rcv_x 7 h24 hLo.1 (by decide +kernel)) (xs_copyFrom_ok (d := d + 1) hS hLo (okS_16 hS) h24 e26 (fun w27 h28 => ?_))
        show wp _ 136 46 [(0, .ref 0), (1, .int (Int32.ofInt p1))] [] w27 _
        refine wp_g 1 (pc1 := 47) (lv1 := [(0, .ref 0), (1, .int (Int32.ofInt p1))]) (st1 := [.ref 0]) (w1 := w27) rfl ?_
        refine wx_gr (o := 16) (kf := 43) (ln := 3) (ci := 11) (b := 5) (zz := 0) (x := 0) (by decide +kernel) h28 (hS _ _ sx_0) rfl ?_
        show wp _ 136 50 [(0, .ref 0), (1, .int (Int32.ofInt p1))] [.ref 16] w27 _
        refine wx_gr (o := 1) (kf := 116) (ln := 3) (ci := 7) (b := 0) (zz := 0) (x := 16) (by decide +kernel) h28 (hS _ _ sx_16) rfl ?_
        show wp _ 136 53 [(0, .ref 0), (1, .int (Int32.ofInt p1))] [.ref 17] w27 _
        refine wx_gi (kf := 283) (ln := 3) (ci := 0) (b := 3) (zz := 0) (x := 17) (by decide +kernel) h28 (hS _ _ sx_17) rfl ?_
        show wp _ 136 56 [(0, .ref 0), (1, .int (Int32.ofInt p1))] [.int (Int32.ofInt (o25 17 3))] w27 _
        refine wp_rt (i := .ireturn) (r := some (.int (Int32.ofInt (o25 17 3)))) (ln := 1) (a := 0) (b := 0) (z := 0) (by decide +kernel) rfl (ret_ok (by decide +kernel)) ?_
        cases hx
        exact kr _ (Gr_fr h18 h28.2) h28.1
    · have hx := ite_f h2 hx
      refine wp_g 1 (pc1 := 10) (lv1 := [(0, .ref 0), (1, .int (Int32.ofInt p1))]) (st1 := [.int (Int32.ofInt (-1))]) (w1 := w) rfl ?_
      refine wp_rt (i := .ireturn) (r := some (.int (Int32.ofInt (-1)))) (ln := 1) (a := 0) (b := 0) (z := 0) (by decide +kernel) rfl (ret_ok (by decide +kernel)) ?_
      cases hx
      exact kr _ (Gr_fr Gr_rf h.2) h.1
/-- FoldDeeds.back (I)I -/
noncomputable def xf_back (gs : Nat → Int) (s : Hp) (p1 : Int) : Option (Int × Hp) :=
  if w32 p1 < 0 then some ((-1), s) else if w32 p1 < w32 4 then (ix 4 p1).bind fun i3 => (rsA (s 38 i3) (gs i3)).bind fun y5 => if y5 < 0 then some ((-1), s) else (xs_copyFrom s 16 y5.toNat).bind fun o8 => (xp_forget o8).bind fun o12 => some (o12 17 3, o12) else some ((-1), s)
set_option maxRecDepth 100000 in
theorem xf_back_ok {d : Nat} {P : Option Value → pm_H → Prop} {w : pm_H} {sh : Shp} {w0 : pm_H} {s : Hp} (hS : St sh) {gs : Nat → Int} (hJ : ∀ i, ¬ gs i < 0 → okS 2 sh (gs i).toNat) {p1 : Int} (h : Rw sh w0 s w) {o : Int × Hp} (hx : xf_back gs s p1 = some o) (kr : ∀ w1, Rw sh w0 o.2 w1 → P (some (.int (Int32.ofInt o.1))) w1) : wp (d + 8) 137 0 (lv_args 0 [.ref 0, .int (Int32.ofInt p1)]) [] w P := by
  show wp _ 137 0 [(0, .ref 0), (1, .int (Int32.ofInt p1))] [] w _
  unfold xf_back at hx
  refine wp_g 1 (pc1 := 1) (lv1 := [(0, .ref 0), (1, .int (Int32.ofInt p1))]) (st1 := [.int (Int32.ofInt p1)]) (w1 := w) rfl ?_
  refine wz_lt (oo := 17) (ln := 3) (a := 18) (b := 0) (zz := 0) (by decide +kernel) (fun h1 => ?_) (fun h1 => ?_)
  · have hx := ite_t h1 hx
    refine wp_g 1 (pc1 := 19) (lv1 := [(0, .ref 0), (1, .int (Int32.ofInt p1))]) (st1 := [.int (Int32.ofInt (-1))]) (w1 := w) rfl ?_
    refine wp_rt (i := .ireturn) (r := some (.int (Int32.ofInt (-1)))) (ln := 1) (a := 0) (b := 0) (z := 0) (by decide +kernel) rfl (ret_ok (by decide +kernel)) ?_
    cases hx
    exact kr _ h
  · have hx := ite_f h1 hx
    refine wp_g 2 (pc1 := 6) (lv1 := [(0, .ref 0), (1, .int (Int32.ofInt p1))]) (st1 := [.int (Int32.ofInt 4), .int (Int32.ofInt p1)]) (w1 := w) rfl ?_
    refine wx_ge (oo := 12) (ln := 3) (a := 18) (b := 0) (zz := 0) (by decide +kernel) (fun h2 => ?_) (fun h2 => ?_)
    · have hx := ite_f h2 hx
      refine wp_g 1 (pc1 := 19) (lv1 := [(0, .ref 0), (1, .int (Int32.ofInt p1))]) (st1 := [.int (Int32.ofInt (-1))]) (w1 := w) rfl ?_
      refine wp_rt (i := .ireturn) (r := some (.int (Int32.ofInt (-1)))) (ln := 1) (a := 0) (b := 0) (z := 0) (by decide +kernel) rfl (ret_ok (by decide +kernel)) ?_
      cases hx
      exact kr _ h
    · have hx := ite_t h2 hx
      refine wp_g 1 (pc1 := 10) (lv1 := [(0, .ref 0), (1, .int (Int32.ofInt p1))]) (st1 := [.ref 0]) (w1 := w) rfl ?_
      refine wx_gr (o := 38) (kf := 47) (ln := 3) (ci := 11) (b := 6) (zz := 0) (x := 0) (by decide +kernel) h (hS _ _ sx_0) rfl ?_
      show wp _ 137 13 [(0, .ref 0), (1, .int (Int32.ofInt p1))] [.ref 38] w _
      refine wp_g 1 (pc1 := 14) (lv1 := [(0, .ref 0), (1, .int (Int32.ofInt p1))]) (st1 := [.int (Int32.ofInt p1), .ref 38]) (w1 := w) rfl ?_
      obtain ⟨i3, e4, hx⟩ := bd hx
      refine wx_rr (x := 38) (n := 4) (ln := 1) (a := 0) (b := 0) (zz := 0) (by decide +kernel) h (hS _ _ sx_38) (by decide) e4 ?_
      obtain ⟨y5, e6, hx⟩ := bd hx
      have cy5 : ¬ y5 < 0 → okS 2 sh y5.toNat := by rw [(rsA_e e6).2]; exact hJ _
      rw [(rsA_e e6).1, ← (rsA_e e6).2]
      show wp _ 137 15 [(0, .ref 0), (1, .int (Int32.ofInt p1))] [vR y5] w _
      refine wx_nn (oo := 5) (ln := 3) (a := 20) (b := 0) (zz := 0) (by decide +kernel) (fun h7 => ?_) (fun h7 => ?_)
      · have hx := ite_f h7 hx
        refine wp_g 1 (pc1 := 21) (lv1 := [(0, .ref 0), (1, .int (Int32.ofInt p1))]) (st1 := [.ref 0]) (w1 := w) rfl ?_
        refine wx_gr (o := 16) (kf := 43) (ln := 3) (ci := 11) (b := 5) (zz := 0) (x := 0) (by decide +kernel) h (hS _ _ sx_0) rfl ?_
        show wp _ 137 24 [(0, .ref 0), (1, .int (Int32.ofInt p1))] [.ref 16] w _
        refine wp_g 1 (pc1 := 25) (lv1 := [(0, .ref 0), (1, .int (Int32.ofInt p1))]) (st1 := [.ref 0, .ref 16]) (w1 := w) rfl ?_
        refine wx_gr (o := 38) (kf := 47) (ln := 3) (ci := 11) (b := 6) (zz := 0) (x := 0) (by decide +kernel) h (hS _ _ sx_0) rfl ?_
        show wp _ 137 28 [(0, .ref 0), (1, .int (Int32.ofInt p1))] [.ref 38, .ref 16] w _
        refine wp_g 1 (pc1 := 29) (lv1 := [(0, .ref 0), (1, .int (Int32.ofInt p1))]) (st1 := [.int (Int32.ofInt p1), .ref 38, .ref 16]) (w1 := w) rfl ?_
        refine wx_rr (x := 38) (n := 4) (ln := 1) (a := 0) (b := 0) (zz := 0) (by decide +kernel) h (hS _ _ sx_38) (by decide) e4 ?_
        rw [(rsA_e e6).1, ← (rsA_e e6).2]
        show wp _ 137 30 [(0, .ref 0), (1, .int (Int32.ofInt p1))] [vR y5, .ref 16] w _
        rw [vR_r h7]
        obtain ⟨o8, e9, hx⟩ := bd hx
        refine wp_cl [.ref 16, .ref y5.toNat] [] (i := .invokevirtual 289) (ln := 3) (a := 62) (b := 0) (z := 0) (by decide +kernel) rfl rfl (by decide) rfl (show (2 : Nat) = pm_na 62 by decide +kernel) (Nat.le_of_ble_eq_true rfl) (show (2 : Nat) ≤ pm_n 62 by decide +kernel) (rcv_x 7 h (hS _ _ sx_16) (by decide +kernel)) (xs_copyFrom_ok (d := d) hS (okS_16 hS) (cy5 h7) h e9 (fun w10 h11 => ?_))
        show wp _ 137 33 [(0, .ref 0), (1, .int (Int32.ofInt p1))] [] w10 _
        refine wp_g 1 (pc1 := 34) (lv1 := [(0, .ref 0), (1, .int (Int32.ofInt p1))]) (st1 := [.ref 0]) (w1 := w10) rfl ?_
        refine wx_gr (o := 39) (kf := 54) (ln := 3) (ci := 11) (b := 7) (zz := 0) (x := 0) (by decide +kernel) h11 (hS _ _ sx_0) rfl ?_
        show wp _ 137 37 [(0, .ref 0), (1, .int (Int32.ofInt p1))] [.ref 39] w10 _
        obtain ⟨o12, e13, hx⟩ := bd hx
        refine wp_cl [.ref 39] [] (i := .invokevirtual 113) (ln := 3) (a := 42) (b := 0) (z := 0) (by decide +kernel) rfl rfl (by decide) rfl (show (1 : Nat) = pm_na 42 by decide +kernel) (Nat.le_of_ble_eq_true rfl) (show (1 : Nat) ≤ pm_n 42 by decide +kernel) (rcv_x 4 h11 (hS _ _ sx_39) (by decide +kernel)) (xp_forget_ok (d := d + 7) hS h11 e13 (fun w14 h15 => ?_))
        show wp _ 137 40 [(0, .ref 0), (1, .int (Int32.ofInt p1))] [] w14 _
        refine wp_g 1 (pc1 := 41) (lv1 := [(0, .ref 0), (1, .int (Int32.ofInt p1))]) (st1 := [.ref 0]) (w1 := w14) rfl ?_
        refine wx_gr (o := 16) (kf := 43) (ln := 3) (ci := 11) (b := 5) (zz := 0) (x := 0) (by decide +kernel) h15 (hS _ _ sx_0) rfl ?_
        show wp _ 137 44 [(0, .ref 0), (1, .int (Int32.ofInt p1))] [.ref 16] w14 _
        refine wx_gr (o := 1) (kf := 116) (ln := 3) (ci := 7) (b := 0) (zz := 0) (x := 16) (by decide +kernel) h15 (hS _ _ sx_16) rfl ?_
        show wp _ 137 47 [(0, .ref 0), (1, .int (Int32.ofInt p1))] [.ref 17] w14 _
        refine wx_gi (kf := 283) (ln := 3) (ci := 0) (b := 3) (zz := 0) (x := 17) (by decide +kernel) h15 (hS _ _ sx_17) rfl ?_
        show wp _ 137 50 [(0, .ref 0), (1, .int (Int32.ofInt p1))] [.int (Int32.ofInt (o12 17 3))] w14 _
        refine wp_rt (i := .ireturn) (r := some (.int (Int32.ofInt (o12 17 3)))) (ln := 1) (a := 0) (b := 0) (z := 0) (by decide +kernel) rfl (ret_ok (by decide +kernel)) ?_
        cases hx
        exact kr _ h15
      · have hx := ite_t h7 hx
        refine wp_g 1 (pc1 := 19) (lv1 := [(0, .ref 0), (1, .int (Int32.ofInt p1))]) (st1 := [.int (Int32.ofInt (-1))]) (w1 := w) rfl ?_
        refine wp_rt (i := .ireturn) (r := some (.int (Int32.ofInt (-1)))) (ln := 1) (a := 0) (b := 0) (z := 0) (by decide +kernel) rfl (ret_ok (by decide +kernel)) ?_
        cases hx
        exact kr _ h
/-- FoldDeeds.fold (IIII)I -/
noncomputable def xf_fold (ln : Nat → Nat) (rs : Nat → Int) (ks : Nat → Int) (L : Nat) (sh : Shp) (s : Hp) (p1 : Int) (p2 : Int) (p3 : Int) (p4 : Int) : Option (Int × Hp × Shp) :=
  (xl_hasPerson s 17 p1).bind fun o1 => if w32 o1 = 0 then some ((-1), s, sh) else (xl_hasFold s 17 p2 p3 p4).bind fun o6 => if w32 o6 = 0 then some ((-1), s, sh) else (xf_ruleInForce ln rs s).bind fun o11 => (xk_quote ln rs s 17 o11 p1 (((4 * p2) + (2 * p3)) + p4)).bind fun o16 => if w32 o16.1 = w32 (-2) then some ((-1), o16.2, sh) else (ix 4 p1).bind fun i21 => if w32 (o16.2 25 i21) < w32 o16.1 then some ((-1), o16.2, sh) else (xp_keep ks L sh o16.2 17).bind fun o24 => (xk_settle o24.1 17 p1 (((4 * p2) + (2 * p3)) + p4)).bind fun o32 => some (o16.1, o32, o24.2)
set_option maxRecDepth 100000 in
theorem xf_fold_ok {d : Nat} {P : Option Value → pm_H → Prop} {w : pm_H} {sh : Shp} {s : Hp} (hS : St sh) {ln : Nat → Nat} {rs : Nat → Int} (hG : ∀ i, okR ln sh (rs i)) {ks : Nat → Int} (hK : ∀ i, ¬ ks i < 0 → okC 3 sh (ks i).toNat) {p1 : Int} {p2 : Int} {p3 : Int} {p4 : Int} {L : Nat} (hL : L = w.length) (h : RH sh s w) {o : Int × Hp × Shp} (hx : xf_fold ln rs ks L sh s p1 p2 p3 p4 = some o) (kr : ∀ w1, Gr sh o.2.2 w w1 → RH o.2.2 o.2.1 w1 → P (some (.int (Int32.ofInt o.1))) w1) : wp (d + 10) 116 0 (lv_args 0 [.ref 0, .int (Int32.ofInt p1), .int (Int32.ofInt p2), .int (Int32.ofInt p3), .int (Int32.ofInt p4)]) [] w P := by
  replace h : Rw sh w s w := ⟨h, Fr_rf⟩
  show wp _ 116 0 [(0, .ref 0), (1, .int (Int32.ofInt p1)), (2, .int (Int32.ofInt p2)), (3, .int (Int32.ofInt p3)), (4, .int (Int32.ofInt p4))] [] w _
  unfold xf_fold at hx
  refine wp_g 1 (pc1 := 1) (lv1 := [(0, .ref 0), (1, .int (Int32.ofInt p1)), (2, .int (Int32.ofInt p2)), (3, .int (Int32.ofInt p3)), (4, .int (Int32.ofInt p4))]) (st1 := [.ref 0]) (w1 := w) rfl ?_
  refine wx_gr (o := 16) (kf := 43) (ln := 3) (ci := 11) (b := 5) (zz := 0) (x := 0) (by decide +kernel) h (hS _ _ sx_0) rfl ?_
  show wp _ 116 4 [(0, .ref 0), (1, .int (Int32.ofInt p1)), (2, .int (Int32.ofInt p2)), (3, .int (Int32.ofInt p3)), (4, .int (Int32.ofInt p4))] [.ref 16] w _
  refine wx_gr (o := 1) (kf := 116) (ln := 3) (ci := 7) (b := 0) (zz := 0) (x := 16) (by decide +kernel) h (hS _ _ sx_16) rfl ?_
  show wp _ 116 7 [(0, .ref 0), (1, .int (Int32.ofInt p1)), (2, .int (Int32.ofInt p2)), (3, .int (Int32.ofInt p3)), (4, .int (Int32.ofInt p4))] [.ref 17] w _
  refine wp_g 3 (pc1 := 12) (lv1 := [(5, .ref 17), (0, .ref 0), (1, .int (Int32.ofInt p1)), (2, .int (Int32.ofInt p2)), (3, .int (Int32.ofInt p3)), (4, .int (Int32.ofInt p4))]) (st1 := [.int (Int32.ofInt p1), .ref 17]) (w1 := w) rfl ?_
  obtain ⟨o1, e2, hx⟩ := bd hx
  refine wp_cl [.ref 17, .int (Int32.ofInt p1)] [] (i := .invokevirtual 160) (ln := 3) (a := 7) (b := 0) (z := 0) (by decide +kernel) rfl rfl (by decide) rfl (show (2 : Nat) = pm_na 7 by decide +kernel) (Nat.le_of_ble_eq_true rfl) (show (2 : Nat) ≤ pm_n 7 by decide +kernel) (rcv_x 0 h (hS _ _ sx_17) (by decide +kernel)) (xl_hasPerson_ok (d := d + 9) hS (okC_17 hS) h e2 ?_)
  show wp _ 116 15 [(5, .ref 17), (0, .ref 0), (1, .int (Int32.ofInt p1)), (2, .int (Int32.ofInt p2)), (3, .int (Int32.ofInt p3)), (4, .int (Int32.ofInt p4))] [.int (Int32.ofInt o1)] w _
  refine wz_eq (oo := 15) (ln := 3) (a := 30) (b := 0) (zz := 0) (by decide +kernel) (fun h5 => ?_) (fun h5 => ?_)
  · have hx := ite_t h5 hx
    refine wp_g 1 (pc1 := 31) (lv1 := [(5, .ref 17), (0, .ref 0), (1, .int (Int32.ofInt p1)), (2, .int (Int32.ofInt p2)), (3, .int (Int32.ofInt p3)), (4, .int (Int32.ofInt p4))]) (st1 := [.int (Int32.ofInt (-1))]) (w1 := w) rfl ?_
    refine wp_rt (i := .ireturn) (r := some (.int (Int32.ofInt (-1)))) (ln := 1) (a := 0) (b := 0) (z := 0) (by decide +kernel) rfl (ret_ok (by decide +kernel)) ?_
    cases hx
    exact kr _ (Gr_fr Gr_rf h.2) h.1
  · have hx := ite_f h5 hx
    refine wp_g 4 (pc1 := 24) (lv1 := [(5, .ref 17), (0, .ref 0), (1, .int (Int32.ofInt p1)), (2, .int (Int32.ofInt p2)), (3, .int (Int32.ofInt p3)), (4, .int (Int32.ofInt p4))]) (st1 := [.int (Int32.ofInt p4), .int (Int32.ofInt p3), .int (Int32.ofInt p2), .ref 17]) (w1 := w) rfl ?_
    obtain ⟨o6, e7, hx⟩ := bd hx
    refine wp_cl [.ref 17, .int (Int32.ofInt p2), .int (Int32.ofInt p3), .int (Int32.ofInt p4)] [] (i := .invokevirtual 176) (ln := 3) (a := 8) (b := 0) (z := 0) (by decide +kernel) rfl rfl (by decide) rfl (show (4 : Nat) = pm_na 8 by decide +kernel) (Nat.le_of_ble_eq_true rfl) (show (4 : Nat) ≤ pm_n 8 by decide +kernel) (rcv_x 0 h (hS _ _ sx_17) (by decide +kernel)) (xl_hasFold_ok (d := d + 9) hS (okC_17 hS) h e7 ?_)
    show wp _ 116 27 [(5, .ref 17), (0, .ref 0), (1, .int (Int32.ofInt p1)), (2, .int (Int32.ofInt p2)), (3, .int (Int32.ofInt p3)), (4, .int (Int32.ofInt p4))] [.int (Int32.ofInt o6)] w _
    refine wz_ne (oo := 5) (ln := 3) (a := 32) (b := 0) (zz := 0) (by decide +kernel) (fun h10 => ?_) (fun h10 => ?_)
    · have hx := ite_f h10 hx
      refine wp_g 11 (pc1 := 45) (lv1 := [(6, .int (Int32.ofInt (((4 * p2) + (2 * p3)) + p4))), (5, .ref 17), (0, .ref 0), (1, .int (Int32.ofInt p1)), (2, .int (Int32.ofInt p2)), (3, .int (Int32.ofInt p3)), (4, .int (Int32.ofInt p4))]) (st1 := [.ref 0]) (w1 := w) (by simp only [Int32.ofInt_add, Int32.ofInt_sub, Int32.ofInt_mul, Int32.ofInt_neg, p_and, p_or, p_xor, p_shl, p_shr, p_usr, p_w8, p_c16, p_lI, q_and, q_or, q_shl, q_shr, q_w32, Int64.ofInt_add, Int64.ofInt_sub, Int64.ofInt_mul, p_mx, p_mn, q_mx, q_mn]; rfl) ?_
      refine wx_gr (o := 41) (kf := 61) (ln := 3) (ci := 11) (b := 8) (zz := 0) (x := 0) (by decide +kernel) h (hS _ _ sx_0) rfl ?_
      show wp _ 116 48 [(6, .int (Int32.ofInt (((4 * p2) + (2 * p3)) + p4))), (5, .ref 17), (0, .ref 0), (1, .int (Int32.ofInt p1)), (2, .int (Int32.ofInt p2)), (3, .int (Int32.ofInt p3)), (4, .int (Int32.ofInt p4))] [.ref 41] w _
      refine wp_g 2 (pc1 := 51) (lv1 := [(6, .int (Int32.ofInt (((4 * p2) + (2 * p3)) + p4))), (5, .ref 17), (0, .ref 0), (1, .int (Int32.ofInt p1)), (2, .int (Int32.ofInt p2)), (3, .int (Int32.ofInt p3)), (4, .int (Int32.ofInt p4))]) (st1 := [.ref 0, .ref 17, .ref 41]) (w1 := w) rfl ?_
      obtain ⟨o11, e12, hx⟩ := bd hx
      refine wp_cl [.ref 0] [.ref 17, .ref 41] (i := .invokevirtual 180) (ln := 3) (a := 138) (b := 0) (z := 0) (by decide +kernel) rfl rfl (by decide) rfl (show (1 : Nat) = pm_na 138 by decide +kernel) (Nat.le_of_ble_eq_true rfl) (show (1 : Nat) ≤ pm_n 138 by decide +kernel) (rcv_x 11 h (hS _ _ sx_0) (by decide +kernel)) (xf_ruleInForce_ok (d := d + 8) hS hG h e12 (fun h15 => ?_))
      show wp _ 116 54 [(6, .int (Int32.ofInt (((4 * p2) + (2 * p3)) + p4))), (5, .ref 17), (0, .ref 0), (1, .int (Int32.ofInt p1)), (2, .int (Int32.ofInt p2)), (3, .int (Int32.ofInt p3)), (4, .int (Int32.ofInt p4))] [vR o11, .ref 17, .ref 41] w _
      refine wp_g 2 (pc1 := 57) (lv1 := [(6, .int (Int32.ofInt (((4 * p2) + (2 * p3)) + p4))), (5, .ref 17), (0, .ref 0), (1, .int (Int32.ofInt p1)), (2, .int (Int32.ofInt p2)), (3, .int (Int32.ofInt p3)), (4, .int (Int32.ofInt p4))]) (st1 := [.int (Int32.ofInt (((4 * p2) + (2 * p3)) + p4)), .int (Int32.ofInt p1), vR o11, .ref 17, .ref 41]) (w1 := w) (by rcases vR_c o11 with e | ⟨_, e⟩ <;> simp only [e] <;> rfl) ?_
      obtain ⟨o16, e17, hx⟩ := bd hx
      refine wp_cl [.ref 41, .ref 17, vR o11, .int (Int32.ofInt p1), .int (Int32.ofInt (((4 * p2) + (2 * p3)) + p4))] [] (i := .invokevirtual 183) (ln := 3) (a := 36) (b := 0) (z := 0) (by decide +kernel) rfl rfl (by decide) rfl (show (5 : Nat) = pm_na 36 by decide +kernel) (Nat.le_of_ble_eq_true rfl) (by rcases vR_c o11 with e | ⟨_, e⟩ <;> simp only [e] <;> exact (show (5 : Nat) ≤ pm_n 36 by decide +kernel)) (rcv_x 3 h (hS _ _ sx_41) (by decide +kernel)) (xk_quote_ok (d := d + 2) hS hG (okC_17 hS) h15 h e17 (fun w18 h19 => ?_))
      show wp _ 116 60 [(6, .int (Int32.ofInt (((4 * p2) + (2 * p3)) + p4))), (5, .ref 17), (0, .ref 0), (1, .int (Int32.ofInt p1)), (2, .int (Int32.ofInt p2)), (3, .int (Int32.ofInt p3)), (4, .int (Int32.ofInt p4))] [.int (Int32.ofInt o16.1)] w18 _
      refine wp_g 3 (pc1 := 66) (lv1 := [(7, .int (Int32.ofInt o16.1)), (6, .int (Int32.ofInt (((4 * p2) + (2 * p3)) + p4))), (5, .ref 17), (0, .ref 0), (1, .int (Int32.ofInt p1)), (2, .int (Int32.ofInt p2)), (3, .int (Int32.ofInt p3)), (4, .int (Int32.ofInt p4))]) (st1 := [.int (Int32.ofInt (-2)), .int (Int32.ofInt o16.1)]) (w1 := w18) rfl ?_
      refine wx_eq (oo := 15) (ln := 3) (a := 81) (b := 0) (zz := 0) (by decide +kernel) (fun h20 => ?_) (fun h20 => ?_)
      · have hx := ite_t h20 hx
        refine wp_g 1 (pc1 := 82) (lv1 := [(7, .int (Int32.ofInt o16.1)), (6, .int (Int32.ofInt (((4 * p2) + (2 * p3)) + p4))), (5, .ref 17), (0, .ref 0), (1, .int (Int32.ofInt p1)), (2, .int (Int32.ofInt p2)), (3, .int (Int32.ofInt p3)), (4, .int (Int32.ofInt p4))]) (st1 := [.int (Int32.ofInt (-1))]) (w1 := w18) rfl ?_
        refine wp_rt (i := .ireturn) (r := some (.int (Int32.ofInt (-1)))) (ln := 1) (a := 0) (b := 0) (z := 0) (by decide +kernel) rfl (ret_ok (by decide +kernel)) ?_
        cases hx
        exact kr _ (Gr_fr Gr_rf h19.2) h19.1
      · have hx := ite_f h20 hx
        refine wp_g 2 (pc1 := 73) (lv1 := [(7, .int (Int32.ofInt o16.1)), (6, .int (Int32.ofInt (((4 * p2) + (2 * p3)) + p4))), (5, .ref 17), (0, .ref 0), (1, .int (Int32.ofInt p1)), (2, .int (Int32.ofInt p2)), (3, .int (Int32.ofInt p3)), (4, .int (Int32.ofInt p4))]) (st1 := [.ref 17, .int (Int32.ofInt o16.1)]) (w1 := w18) rfl ?_
        refine wx_gr (o := 8) (kf := 163) (ln := 3) (ci := 0) (b := 11) (zz := 0) (x := 17) (by decide +kernel) h19 (hS _ _ sx_17) rfl ?_
        show wp _ 116 76 [(7, .int (Int32.ofInt o16.1)), (6, .int (Int32.ofInt (((4 * p2) + (2 * p3)) + p4))), (5, .ref 17), (0, .ref 0), (1, .int (Int32.ofInt p1)), (2, .int (Int32.ofInt p2)), (3, .int (Int32.ofInt p3)), (4, .int (Int32.ofInt p4))] [.ref 25, .int (Int32.ofInt o16.1)] w18 _
        refine wp_g 1 (pc1 := 77) (lv1 := [(7, .int (Int32.ofInt o16.1)), (6, .int (Int32.ofInt (((4 * p2) + (2 * p3)) + p4))), (5, .ref 17), (0, .ref 0), (1, .int (Int32.ofInt p1)), (2, .int (Int32.ofInt p2)), (3, .int (Int32.ofInt p3)), (4, .int (Int32.ofInt p4))]) (st1 := [.int (Int32.ofInt p1), .ref 25, .int (Int32.ofInt o16.1)]) (w1 := w18) rfl ?_
        obtain ⟨i21, e22, hx⟩ := bd hx
        refine wx_ra (x := 25) (n := 4) (ln := 1) (a := 0) (b := 0) (zz := 0) (by decide +kernel) h19 (hS _ _ sx_25) e22 ?_
        show wp _ 116 78 [(7, .int (Int32.ofInt o16.1)), (6, .int (Int32.ofInt (((4 * p2) + (2 * p3)) + p4))), (5, .ref 17), (0, .ref 0), (1, .int (Int32.ofInt p1)), (2, .int (Int32.ofInt p2)), (3, .int (Int32.ofInt p3)), (4, .int (Int32.ofInt p4))] [.int (Int32.ofInt (o16.2 25 i21)), .int (Int32.ofInt o16.1)] w18 _
        refine wx_le (oo := 5) (ln := 3) (a := 83) (b := 0) (zz := 0) (by decide +kernel) (fun h23 => ?_) (fun h23 => ?_)
        · have hx := ite_f h23 hx
          refine wp_g 1 (pc1 := 84) (lv1 := [(7, .int (Int32.ofInt o16.1)), (6, .int (Int32.ofInt (((4 * p2) + (2 * p3)) + p4))), (5, .ref 17), (0, .ref 0), (1, .int (Int32.ofInt p1)), (2, .int (Int32.ofInt p2)), (3, .int (Int32.ofInt p3)), (4, .int (Int32.ofInt p4))]) (st1 := [.ref 0]) (w1 := w18) rfl ?_
          refine wx_gr (o := 39) (kf := 54) (ln := 3) (ci := 11) (b := 7) (zz := 0) (x := 0) (by decide +kernel) h19 (hS _ _ sx_0) rfl ?_
          show wp _ 116 87 [(7, .int (Int32.ofInt o16.1)), (6, .int (Int32.ofInt (((4 * p2) + (2 * p3)) + p4))), (5, .ref 17), (0, .ref 0), (1, .int (Int32.ofInt p1)), (2, .int (Int32.ofInt p2)), (3, .int (Int32.ofInt p3)), (4, .int (Int32.ofInt p4))] [.ref 39] w18 _
          refine wp_g 1 (pc1 := 89) (lv1 := [(7, .int (Int32.ofInt o16.1)), (6, .int (Int32.ofInt (((4 * p2) + (2 * p3)) + p4))), (5, .ref 17), (0, .ref 0), (1, .int (Int32.ofInt p1)), (2, .int (Int32.ofInt p2)), (3, .int (Int32.ofInt p3)), (4, .int (Int32.ofInt p4))]) (st1 := [.ref 17, .ref 39]) (w1 := w18) rfl ?_
          obtain ⟨o24, e25, hx⟩ := bd hx
          refine wp_cl [.ref 39, .ref 17] [] (i := .invokevirtual 187) (ln := 3) (a := 40) (b := 0) (z := 0) (by decide +kernel) rfl rfl (by decide) rfl (show (2 : Nat) = pm_na 40 by decide +kernel) (Nat.le_of_ble_eq_true rfl) (show (2 : Nat) ≤ pm_n 40 by decide +kernel) (rcv_x 4 h19 (hS _ _ sx_39) (by decide +kernel)) (xp_keep_ok (d := d) hS hK (okC_17 hS) (hL.trans h19.2.1.symm) h19.1 e25 (fun w26 h28 h27 => ?_))
          have h29 := fr_Gr h19.2 h28
          have h30 := Gr_sub h19.1 h28
          have hS := St_sub h30 hS
          have hG := fun i => okR_sub h30 (hG i)
          have hK := fun i q => okC_sub h30 (hK i q)
          have h31 : Rw o24.2 w26 _ w26 := ⟨h27, Fr_rf⟩
          show wp _ 116 92 [(7, .int (Int32.ofInt o16.1)), (6, .int (Int32.ofInt (((4 * p2) + (2 * p3)) + p4))), (5, .ref 17), (0, .ref 0), (1, .int (Int32.ofInt p1)), (2, .int (Int32.ofInt p2)), (3, .int (Int32.ofInt p3)), (4, .int (Int32.ofInt p4))] [] w26 _
          refine wp_g 1 (pc1 := 93) (lv1 := [(7, .int (Int32.ofInt o16.1)), (6, .int (Int32.ofInt (((4 * p2) + (2 * p3)) + p4))), (5, .ref 17), (0, .ref 0), (1, .int (Int32.ofInt p1)), (2, .int (Int32.ofInt p2)), (3, .int (Int32.ofInt p3)), (4, .int (Int32.ofInt p4))]) (st1 := [.ref 0]) (w1 := w26) rfl ?_
          refine wx_gr (o := 41) (kf := 61) (ln := 3) (ci := 11) (b := 8) (zz := 0) (x := 0) (by decide +kernel) h31 (hS _ _ sx_0) rfl ?_
          show wp _ 116 96 [(7, .int (Int32.ofInt o16.1)), (6, .int (Int32.ofInt (((4 * p2) + (2 * p3)) + p4))), (5, .ref 17), (0, .ref 0), (1, .int (Int32.ofInt p1)), (2, .int (Int32.ofInt p2)), (3, .int (Int32.ofInt p3)), (4, .int (Int32.ofInt p4))] [.ref 41] w26 _
          refine wp_g 3 (pc1 := 101) (lv1 := [(7, .int (Int32.ofInt o16.1)), (6, .int (Int32.ofInt (((4 * p2) + (2 * p3)) + p4))), (5, .ref 17), (0, .ref 0), (1, .int (Int32.ofInt p1)), (2, .int (Int32.ofInt p2)), (3, .int (Int32.ofInt p3)), (4, .int (Int32.ofInt p4))]) (st1 := [.int (Int32.ofInt (((4 * p2) + (2 * p3)) + p4)), .int (Int32.ofInt p1), .ref 17, .ref 41]) (w1 := w26) rfl ?_
          obtain ⟨o32, e33, hx⟩ := bd hx
          refine wp_cl [.ref 41, .ref 17, .int (Int32.ofInt p1), .int (Int32.ofInt (((4 * p2) + (2 * p3)) + p4))] [] (i := .invokevirtual 190) (ln := 3) (a := 38) (b := 0) (z := 0) (by decide +kernel) rfl rfl (by decide) rfl (show (4 : Nat) = pm_na 38 by decide +kernel) (Nat.le_of_ble_eq_true rfl) (show (4 : Nat) ≤ pm_n 38 by decide +kernel) (rcv_x 3 h31 (hS _ _ sx_41) (by decide +kernel)) (xk_settle_ok (d := d + 1) hS (okC_17 hS) h31 e33 (fun w34 h35 => ?_))
          show wp _ 116 104 [(7, .int (Int32.ofInt o16.1)), (6, .int (Int32.ofInt (((4 * p2) + (2 * p3)) + p4))), (5, .ref 17), (0, .ref 0), (1, .int (Int32.ofInt p1)), (2, .int (Int32.ofInt p2)), (3, .int (Int32.ofInt p3)), (4, .int (Int32.ofInt p4))] [] w34 _
          refine wp_g 1 (pc1 := 106) (lv1 := [(7, .int (Int32.ofInt o16.1)), (6, .int (Int32.ofInt (((4 * p2) + (2 * p3)) + p4))), (5, .ref 17), (0, .ref 0), (1, .int (Int32.ofInt p1)), (2, .int (Int32.ofInt p2)), (3, .int (Int32.ofInt p3)), (4, .int (Int32.ofInt p4))]) (st1 := [.int (Int32.ofInt o16.1)]) (w1 := w34) rfl ?_
          refine wp_rt (i := .ireturn) (r := some (.int (Int32.ofInt o16.1))) (ln := 1) (a := 0) (b := 0) (z := 0) (by decide +kernel) rfl (ret_ok (by decide +kernel)) ?_
          cases hx
          exact kr _ (Gr_fr h29 h35.2) h35.1
        · have hx := ite_t h23 hx
          refine wp_g 1 (pc1 := 82) (lv1 := [(7, .int (Int32.ofInt o16.1)), (6, .int (Int32.ofInt (((4 * p2) + (2 * p3)) + p4))), (5, .ref 17), (0, .ref 0), (1, .int (Int32.ofInt p1)), (2, .int (Int32.ofInt p2)), (3, .int (Int32.ofInt p3)), (4, .int (Int32.ofInt p4))]) (st1 := [.int (Int32.ofInt (-1))]) (w1 := w18) rfl ?_
          refine wp_rt (i := .ireturn) (r := some (.int (Int32.ofInt (-1)))) (ln := 1) (a := 0) (b := 0) (z := 0) (by decide +kernel) rfl (ret_ok (by decide +kernel)) ?_
          cases hx
          exact kr _ (Gr_fr Gr_rf h19.2) h19.1
    · have hx := ite_t h10 hx
      refine wp_g 1 (pc1 := 31) (lv1 := [(5, .ref 17), (0, .ref 0), (1, .int (Int32.ofInt p1)), (2, .int (Int32.ofInt p2)), (3, .int (Int32.ofInt p3)), (4, .int (Int32.ofInt p4))]) (st1 := [.int (Int32.ofInt (-1))]) (w1 := w) rfl ?_
      refine wp_rt (i := .ireturn) (r := some (.int (Int32.ofInt (-1)))) (ln := 1) (a := 0) (b := 0) (z := 0) (by decide +kernel) rfl (ret_ok (by decide +kernel)) ?_
      cases hx
      exact kr _ (Gr_fr Gr_rf h.2) h.1
/-- FoldDeeds.open ()I -/
noncomputable def xf_open (ks : Nat → Int) (L : Nat) (sh : Shp) (s : Hp) : Option (Int × Hp × Shp) :=
  (xl_liesOpen s 17).bind fun o1 => if w32 o1 = 0 then (xp_keep ks L sh s 17).bind fun o6 => (xl_layOpen o6.1 17).bind fun o14 => some (s 17 2, o14, o6.2) else some ((-1), s, sh)
set_option maxRecDepth 100000 in
theorem xf_open_ok {d : Nat} {P : Option Value → pm_H → Prop} {w : pm_H} {sh : Shp} {s : Hp} (hS : St sh) {ks : Nat → Int} (hK : ∀ i, ¬ ks i < 0 → okC 3 sh (ks i).toNat) {L : Nat} (hL : L = w.length) (h : RH sh s w) {o : Int × Hp × Shp} (hx : xf_open ks L sh s = some o) (kr : ∀ w1, Gr sh o.2.2 w w1 → RH o.2.2 o.2.1 w1 → P (some (.int (Int32.ofInt o.1))) w1) : wp (d + 10) 117 0 (lv_args 0 [.ref 0]) [] w P := by
  replace h : Rw sh w s w := ⟨h, Fr_rf⟩
  show wp _ 117 0 [(0, .ref 0)] [] w _
  unfold xf_open at hx
  refine wp_g 1 (pc1 := 1) (lv1 := [(0, .ref 0)]) (st1 := [.ref 0]) (w1 := w) rfl ?_
  refine wx_gr (o := 16) (kf := 43) (ln := 3) (ci := 11) (b := 5) (zz := 0) (x := 0) (by decide +kernel) h (hS _ _ sx_0) rfl ?_
  show wp _ 117 4 [(0, .ref 0)] [.ref 16] w _
  refine wx_gr (o := 1) (kf := 116) (ln := 3) (ci := 7) (b := 0) (zz := 0) (x := 16) (by decide +kernel) h (hS _ _ sx_16) rfl ?_
  show wp _ 117 7 [(0, .ref 0)] [.ref 17] w _
  refine wp_g 2 (pc1 := 9) (lv1 := [(1, .ref 17), (0, .ref 0)]) (st1 := [.ref 17]) (w1 := w) rfl ?_
  obtain ⟨o1, e2, hx⟩ := bd hx
  refine wp_cl [.ref 17] [] (i := .invokevirtual 194) (ln := 3) (a := 4) (b := 0) (z := 0) (by decide +kernel) rfl rfl (by decide) rfl (show (1 : Nat) = pm_na 4 by decide +kernel) (Nat.le_of_ble_eq_true rfl) (show (1 : Nat) ≤ pm_n 4 by decide +kernel) (rcv_x 0 h (hS _ _ sx_17) (by decide +kernel)) (xl_liesOpen_ok (d := d + 9) hS (okC_17 hS) h e2 ?_)
  show wp _ 117 12 [(1, .ref 17), (0, .ref 0)] [.int (Int32.ofInt o1)] w _
  refine wz_eq (oo := 5) (ln := 3) (a := 17) (b := 0) (zz := 0) (by decide +kernel) (fun h5 => ?_) (fun h5 => ?_)
  · have hx := ite_t h5 hx
    refine wp_g 1 (pc1 := 18) (lv1 := [(1, .ref 17), (0, .ref 0)]) (st1 := [.ref 17]) (w1 := w) rfl ?_
    refine wx_gi (kf := 170) (ln := 3) (ci := 0) (b := 2) (zz := 0) (x := 17) (by decide +kernel) h (hS _ _ sx_17) rfl ?_
    show wp _ 117 21 [(1, .ref 17), (0, .ref 0)] [.int (Int32.ofInt (s 17 2))] w _
    refine wp_g 2 (pc1 := 23) (lv1 := [(2, .int (Int32.ofInt (s 17 2))), (1, .ref 17), (0, .ref 0)]) (st1 := [.ref 0]) (w1 := w) rfl ?_
    refine wx_gr (o := 39) (kf := 54) (ln := 3) (ci := 11) (b := 7) (zz := 0) (x := 0) (by decide +kernel) h (hS _ _ sx_0) rfl ?_
    show wp _ 117 26 [(2, .int (Int32.ofInt (s 17 2))), (1, .ref 17), (0, .ref 0)] [.ref 39] w _
    refine wp_g 1 (pc1 := 27) (lv1 := [(2, .int (Int32.ofInt (s 17 2))), (1, .ref 17), (0, .ref 0)]) (st1 := [.ref 17, .ref 39]) (w1 := w) rfl ?_
    obtain ⟨o6, e7, hx⟩ := bd hx
    refine wp_cl [.ref 39, .ref 17] [] (i := .invokevirtual 187) (ln := 3) (a := 40) (b := 0) (z := 0) (by decide +kernel) rfl rfl (by decide) rfl (show (2 : Nat) = pm_na 40 by decide +kernel) (Nat.le_of_ble_eq_true rfl) (show (2 : Nat) ≤ pm_n 40 by decide +kernel) (rcv_x 4 h (hS _ _ sx_39) (by decide +kernel)) (xp_keep_ok (d := d) hS hK (okC_17 hS) (hL.trans h.2.1.symm) h.1 e7 (fun w8 h10 h9 => ?_))
    have h11 := fr_Gr h.2 h10
    have h12 := Gr_sub h.1 h10
    have hS := St_sub h12 hS
    have hK := fun i q => okC_sub h12 (hK i q)
    have h13 : Rw o6.2 w8 _ w8 := ⟨h9, Fr_rf⟩
    show wp _ 117 30 [(2, .int (Int32.ofInt (s 17 2))), (1, .ref 17), (0, .ref 0)] [] w8 _
    refine wp_g 1 (pc1 := 31) (lv1 := [(2, .int (Int32.ofInt (s 17 2))), (1, .ref 17), (0, .ref 0)]) (st1 := [.ref 17]) (w1 := w8) rfl ?_
    obtain ⟨o14, e15, hx⟩ := bd hx
    refine wp_cl [.ref 17] [] (i := .invokevirtual 198) (ln := 3) (a := 3) (b := 0) (z := 0) (by decide +kernel) rfl rfl (by decide) rfl (show (1 : Nat) = pm_na 3 by decide +kernel) (Nat.le_of_ble_eq_true rfl) (show (1 : Nat) ≤ pm_n 3 by decide +kernel) (rcv_x 0 h13 (hS _ _ sx_17) (by decide +kernel)) (xl_layOpen_ok (d := d + 9) hS (okC_17 hS) h13 e15 (fun w16 h17 => ?_))
    show wp _ 117 34 [(2, .int (Int32.ofInt (s 17 2))), (1, .ref 17), (0, .ref 0)] [] w16 _
    refine wp_g 1 (pc1 := 35) (lv1 := [(2, .int (Int32.ofInt (s 17 2))), (1, .ref 17), (0, .ref 0)]) (st1 := [.int (Int32.ofInt (s 17 2))]) (w1 := w16) rfl ?_
    refine wp_rt (i := .ireturn) (r := some (.int (Int32.ofInt (s 17 2)))) (ln := 1) (a := 0) (b := 0) (z := 0) (by decide +kernel) rfl (ret_ok (by decide +kernel)) ?_
    cases hx
    exact kr _ (Gr_fr h11 h17.2) h17.1
  · have hx := ite_f h5 hx
    refine wp_g 1 (pc1 := 16) (lv1 := [(1, .ref 17), (0, .ref 0)]) (st1 := [.int (Int32.ofInt (-1))]) (w1 := w) rfl ?_
    refine wp_rt (i := .ireturn) (r := some (.int (Int32.ofInt (-1)))) (ln := 1) (a := 0) (b := 0) (z := 0) (by decide +kernel) rfl (ret_ok (by decide +kernel)) ?_
    cases hx
    exact kr _ (Gr_fr Gr_rf h.2) h.1
/-- FoldDeeds.iron (I)I -/
noncomputable def xf_iron (ks : Nat → Int) (L : Nat) (sh : Shp) (s : Hp) (p1 : Int) : Option (Int × Hp × Shp) :=
  (xl_hasJoint s 17 p1).bind fun o1 => if w32 o1 = 0 then some ((-1), s, sh) else (xl_liesOpen s 17).bind fun o6 => if w32 o6 = 0 then some ((-1), s, sh) else (ix 8 p1).bind fun i11 => if w32 (s 23 i11) = 0 then some ((-1), s, sh) else (xp_keep ks L sh s 17).bind fun o14 => (some (uh o14.1 23 i11 0)).bind fun s22 => some (s 23 i11, s22, o14.2)
set_option maxRecDepth 100000 in
theorem xf_iron_ok {d : Nat} {P : Option Value → pm_H → Prop} {w : pm_H} {sh : Shp} {s : Hp} (hS : St sh) {ks : Nat → Int} (hK : ∀ i, ¬ ks i < 0 → okC 3 sh (ks i).toNat) {p1 : Int} {L : Nat} (hL : L = w.length) (h : RH sh s w) {o : Int × Hp × Shp} (hx : xf_iron ks L sh s p1 = some o) (kr : ∀ w1, Gr sh o.2.2 w w1 → RH o.2.2 o.2.1 w1 → P (some (.int (Int32.ofInt o.1))) w1) : wp (d + 10) 118 0 (lv_args 0 [.ref 0, .int (Int32.ofInt p1)]) [] w P := by
  replace h : Rw sh w s w := ⟨h, Fr_rf⟩
  show wp _ 118 0 [(0, .ref 0), (1, .int (Int32.ofInt p1))] [] w _
  unfold xf_iron at hx
  refine wp_g 1 (pc1 := 1) (lv1 := [(0, .ref 0), (1, .int (Int32.ofInt p1))]) (st1 := [.ref 0]) (w1 := w) rfl ?_
  refine wx_gr (o := 16) (kf := 43) (ln := 3) (ci := 11) (b := 5) (zz := 0) (x := 0) (by decide +kernel) h (hS _ _ sx_0) rfl ?_
  show wp _ 118 4 [(0, .ref 0), (1, .int (Int32.ofInt p1))] [.ref 16] w _
  refine wx_gr (o := 1) (kf := 116) (ln := 3) (ci := 7) (b := 0) (zz := 0) (x := 16) (by decide +kernel) h (hS _ _ sx_16) rfl ?_
  show wp _ 118 7 [(0, .ref 0), (1, .int (Int32.ofInt p1))] [.ref 17] w _
  refine wp_g 3 (pc1 := 10) (lv1 := [(2, .ref 17), (0, .ref 0), (1, .int (Int32.ofInt p1))]) (st1 := [.int (Int32.ofInt p1), .ref 17]) (w1 := w) rfl ?_
  obtain ⟨o1, e2, hx⟩ := bd hx
  refine wp_cl [.ref 17, .int (Int32.ofInt p1)] [] (i := .invokevirtual 151) (ln := 3) (a := 6) (b := 0) (z := 0) (by decide +kernel) rfl rfl (by decide) rfl (show (2 : Nat) = pm_na 6 by decide +kernel) (Nat.le_of_ble_eq_true rfl) (show (2 : Nat) ≤ pm_n 6 by decide +kernel) (rcv_x 0 h (hS _ _ sx_17) (by decide +kernel)) (xl_hasJoint_ok (d := d + 9) hS (okC_17 hS) h e2 ?_)
  show wp _ 118 13 [(2, .ref 17), (0, .ref 0), (1, .int (Int32.ofInt p1))] [.int (Int32.ofInt o1)] w _
  refine wz_eq (oo := 19) (ln := 3) (a := 32) (b := 0) (zz := 0) (by decide +kernel) (fun h5 => ?_) (fun h5 => ?_)
  · have hx := ite_t h5 hx
    refine wp_g 1 (pc1 := 33) (lv1 := [(2, .ref 17), (0, .ref 0), (1, .int (Int32.ofInt p1))]) (st1 := [.int (Int32.ofInt (-1))]) (w1 := w) rfl ?_
    refine wp_rt (i := .ireturn) (r := some (.int (Int32.ofInt (-1)))) (ln := 1) (a := 0) (b := 0) (z := 0) (by decide +kernel) rfl (ret_ok (by decide +kernel)) ?_
    cases hx
    exact kr _ (Gr_fr Gr_rf h.2) h.1
  · have hx := ite_f h5 hx
    refine wp_g 1 (pc1 := 17) (lv1 := [(2, .ref 17), (0, .ref 0), (1, .int (Int32.ofInt p1))]) (st1 := [.ref 17]) (w1 := w) rfl ?_
    obtain ⟨o6, e7, hx⟩ := bd hx
    refine wp_cl [.ref 17] [] (i := .invokevirtual 194) (ln := 3) (a := 4) (b := 0) (z := 0) (by decide +kernel) rfl rfl (by decide) rfl (show (1 : Nat) = pm_na 4 by decide +kernel) (Nat.le_of_ble_eq_true rfl) (show (1 : Nat) ≤ pm_n 4 by decide +kernel) (rcv_x 0 h (hS _ _ sx_17) (by decide +kernel)) (xl_liesOpen_ok (d := d + 9) hS (okC_17 hS) h e7 ?_)
    show wp _ 118 20 [(2, .ref 17), (0, .ref 0), (1, .int (Int32.ofInt p1))] [.int (Int32.ofInt o6)] w _
    refine wz_eq (oo := 12) (ln := 3) (a := 32) (b := 0) (zz := 0) (by decide +kernel) (fun h10 => ?_) (fun h10 => ?_)
    · have hx := ite_t h10 hx
      refine wp_g 1 (pc1 := 33) (lv1 := [(2, .ref 17), (0, .ref 0), (1, .int (Int32.ofInt p1))]) (st1 := [.int (Int32.ofInt (-1))]) (w1 := w) rfl ?_
      refine wp_rt (i := .ireturn) (r := some (.int (Int32.ofInt (-1)))) (ln := 1) (a := 0) (b := 0) (z := 0) (by decide +kernel) rfl (ret_ok (by decide +kernel)) ?_
      cases hx
      exact kr _ (Gr_fr Gr_rf h.2) h.1
    · have hx := ite_f h10 hx
      refine wp_g 1 (pc1 := 24) (lv1 := [(2, .ref 17), (0, .ref 0), (1, .int (Int32.ofInt p1))]) (st1 := [.ref 17]) (w1 := w) rfl ?_
      refine wx_gr (o := 6) (kf := 154) (ln := 3) (ci := 0) (b := 9) (zz := 0) (x := 17) (by decide +kernel) h (hS _ _ sx_17) rfl ?_
      show wp _ 118 27 [(2, .ref 17), (0, .ref 0), (1, .int (Int32.ofInt p1))] [.ref 23] w _
      refine wp_g 1 (pc1 := 28) (lv1 := [(2, .ref 17), (0, .ref 0), (1, .int (Int32.ofInt p1))]) (st1 := [.int (Int32.ofInt p1), .ref 23]) (w1 := w) rfl ?_
      obtain ⟨i11, e12, hx⟩ := bd hx
      refine wx_ra (x := 23) (n := 8) (ln := 1) (a := 0) (b := 0) (zz := 0) (by decide +kernel) h (hS _ _ sx_23) e12 ?_
      show wp _ 118 29 [(2, .ref 17), (0, .ref 0), (1, .int (Int32.ofInt p1))] [.int (Int32.ofInt (s 23 i11))] w _
      refine wz_ne (oo := 5) (ln := 3) (a := 34) (b := 0) (zz := 0) (by decide +kernel) (fun h13 => ?_) (fun h13 => ?_)
      · have hx := ite_f h13 hx
        refine wp_g 1 (pc1 := 35) (lv1 := [(2, .ref 17), (0, .ref 0), (1, .int (Int32.ofInt p1))]) (st1 := [.ref 17]) (w1 := w) rfl ?_
        refine wx_gr (o := 6) (kf := 154) (ln := 3) (ci := 0) (b := 9) (zz := 0) (x := 17) (by decide +kernel) h (hS _ _ sx_17) rfl ?_
        show wp _ 118 38 [(2, .ref 17), (0, .ref 0), (1, .int (Int32.ofInt p1))] [.ref 23] w _
        refine wp_g 1 (pc1 := 39) (lv1 := [(2, .ref 17), (0, .ref 0), (1, .int (Int32.ofInt p1))]) (st1 := [.int (Int32.ofInt p1), .ref 23]) (w1 := w) rfl ?_
        refine wx_ra (x := 23) (n := 8) (ln := 1) (a := 0) (b := 0) (zz := 0) (by decide +kernel) h (hS _ _ sx_23) e12 ?_
        show wp _ 118 40 [(2, .ref 17), (0, .ref 0), (1, .int (Int32.ofInt p1))] [.int (Int32.ofInt (s 23 i11))] w _
        refine wp_g 2 (pc1 := 42) (lv1 := [(3, .int (Int32.ofInt (s 23 i11))), (2, .ref 17), (0, .ref 0), (1, .int (Int32.ofInt p1))]) (st1 := [.ref 0]) (w1 := w) rfl ?_
        refine wx_gr (o := 39) (kf := 54) (ln := 3) (ci := 11) (b := 7) (zz := 0) (x := 0) (by decide +kernel) h (hS _ _ sx_0) rfl ?_
        show wp _ 118 45 [(3, .int (Int32.ofInt (s 23 i11))), (2, .ref 17), (0, .ref 0), (1, .int (Int32.ofInt p1))] [.ref 39] w _
        refine wp_g 1 (pc1 := 46) (lv1 := [(3, .int (Int32.ofInt (s 23 i11))), (2, .ref 17), (0, .ref 0), (1, .int (Int32.ofInt p1))]) (st1 := [.ref 17, .ref 39]) (w1 := w) rfl ?_
        obtain ⟨o14, e15, hx⟩ := bd hx
        refine wp_cl [.ref 39, .ref 17] [] (i := .invokevirtual 187) (ln := 3) (a := 40) (b := 0) (z := 0) (by decide +kernel) rfl rfl (by decide) rfl (show (2 : Nat) = pm_na 40 by decide +kernel) (Nat.le_of_ble_eq_true rfl) (show (2 : Nat) ≤ pm_n 40 by decide +kernel) (rcv_x 4 h (hS _ _ sx_39) (by decide +kernel)) (xp_keep_ok (d := d) hS hK (okC_17 hS) (hL.trans h.2.1.symm) h.1 e15 (fun w16 h18 h17 => ?_))
        have h19 := fr_Gr h.2 h18
        have h20 := Gr_sub h.1 h18
        have hS := St_sub h20 hS
        have hK := fun i q => okC_sub h20 (hK i q)
        have h21 : Rw o14.2 w16 _ w16 := ⟨h17, Fr_rf⟩
        show wp _ 118 49 [(3, .int (Int32.ofInt (s 23 i11))), (2, .ref 17), (0, .ref 0), (1, .int (Int32.ofInt p1))] [] w16 _
        refine wp_g 1 (pc1 := 50) (lv1 := [(3, .int (Int32.ofInt (s 23 i11))), (2, .ref 17), (0, .ref 0), (1, .int (Int32.ofInt p1))]) (st1 := [.ref 17]) (w1 := w16) rfl ?_
        refine wx_gr (o := 6) (kf := 154) (ln := 3) (ci := 0) (b := 9) (zz := 0) (x := 17) (by decide +kernel) h21 (hS _ _ sx_17) rfl ?_
        show wp _ 118 53 [(3, .int (Int32.ofInt (s 23 i11))), (2, .ref 17), (0, .ref 0), (1, .int (Int32.ofInt p1))] [.ref 23] w16 _
        refine wp_g 2 (pc1 := 55) (lv1 := [(3, .int (Int32.ofInt (s 23 i11))), (2, .ref 17), (0, .ref 0), (1, .int (Int32.ofInt p1))]) (st1 := [.int (Int32.ofInt 0), .int (Int32.ofInt p1), .ref 23]) (w1 := w16) rfl ?_
        obtain ⟨s22, e23, hx⟩ := bd hx
        refine wx_wa (x := 23) (n := 8) (ln := 1) (a := 0) (b := 0) (zz := 0) (by decide +kernel) h21 (hS _ _ sx_23) e12 e23 (fun w24 h25 => ?_)
        refine wp_g 1 (pc1 := 57) (lv1 := [(3, .int (Int32.ofInt (s 23 i11))), (2, .ref 17), (0, .ref 0), (1, .int (Int32.ofInt p1))]) (st1 := [.int (Int32.ofInt (s 23 i11))]) (w1 := w24) rfl ?_
        refine wp_rt (i := .ireturn) (r := some (.int (Int32.ofInt (s 23 i11)))) (ln := 1) (a := 0) (b := 0) (z := 0) (by decide +kernel) rfl (ret_ok (by decide +kernel)) ?_
        cases hx
        exact kr _ (Gr_fr h19 h25.2) h25.1
      · have hx := ite_t h13 hx
        refine wp_g 1 (pc1 := 33) (lv1 := [(2, .ref 17), (0, .ref 0), (1, .int (Int32.ofInt p1))]) (st1 := [.int (Int32.ofInt (-1))]) (w1 := w) rfl ?_
        refine wp_rt (i := .ireturn) (r := some (.int (Int32.ofInt (-1)))) (ln := 1) (a := 0) (b := 0) (z := 0) (by decide +kernel) rfl (ret_ok (by decide +kernel)) ?_
        cases hx
        exact kr _ (Gr_fr Gr_rf h.2) h.1
/-- FoldDeeds.give (II)I -/
noncomputable def xf_give (ks : Nat → Int) (L : Nat) (sh : Shp) (s : Hp) (p1 : Int) (p2 : Int) : Option (Int × Hp × Shp) :=
  (xl_hasCell s 17 p1).bind fun o1 => if w32 o1 = 0 then some ((-1), s, sh) else (xl_hasPerson s 17 p2).bind fun o6 => if w32 o6 = 0 then some ((-1), s, sh) else (ix 8 p1).bind fun i11 => if w32 (s 21 i11) = w32 (-1) then some ((-1), s, sh) else if w32 (s 21 i11) = w32 p2 then some ((-1), s, sh) else (xp_keep ks L sh s 17).bind fun o15 => (some (uh o15.1 21 i11 p2)).bind fun s23 => some (s 21 i11, s23, o15.2)
set_option maxRecDepth 100000 in
theorem xf_give_ok {d : Nat} {P : Option Value → pm_H → Prop} {w : pm_H} {sh : Shp} {s : Hp} (hS : St sh) {ks : Nat → Int} (hK : ∀ i, ¬ ks i < 0 → okC 3 sh (ks i).toNat) {p1 : Int} {p2 : Int} {L : Nat} (hL : L = w.length) (h : RH sh s w) {o : Int × Hp × Shp} (hx : xf_give ks L sh s p1 p2 = some o) (kr : ∀ w1, Gr sh o.2.2 w w1 → RH o.2.2 o.2.1 w1 → P (some (.int (Int32.ofInt o.1))) w1) : wp (d + 10) 119 0 (lv_args 0 [.ref 0, .int (Int32.ofInt p1), .int (Int32.ofInt p2)]) [] w P := by
  replace h : Rw sh w s w := ⟨h, Fr_rf⟩
  show wp _ 119 0 [(0, .ref 0), (1, .int (Int32.ofInt p1)), (2, .int (Int32.ofInt p2))] [] w _
  unfold xf_give at hx
  refine wp_g 1 (pc1 := 1) (lv1 := [(0, .ref 0), (1, .int (Int32.ofInt p1)), (2, .int (Int32.ofInt p2))]) (st1 := [.ref 0]) (w1 := w) rfl ?_
  refine wx_gr (o := 16) (kf := 43) (ln := 3) (ci := 11) (b := 5) (zz := 0) (x := 0) (by decide +kernel) h (hS _ _ sx_0) rfl ?_
  show wp _ 119 4 [(0, .ref 0), (1, .int (Int32.ofInt p1)), (2, .int (Int32.ofInt p2))] [.ref 16] w _
  refine wx_gr (o := 1) (kf := 116) (ln := 3) (ci := 7) (b := 0) (zz := 0) (x := 16) (by decide +kernel) h (hS _ _ sx_16) rfl ?_
  show wp _ 119 7 [(0, .ref 0), (1, .int (Int32.ofInt p1)), (2, .int (Int32.ofInt p2))] [.ref 17] w _
  refine wp_g 3 (pc1 := 10) (lv1 := [(3, .ref 17), (0, .ref 0), (1, .int (Int32.ofInt p1)), (2, .int (Int32.ofInt p2))]) (st1 := [.int (Int32.ofInt p1), .ref 17]) (w1 := w) rfl ?_
  obtain ⟨o1, e2, hx⟩ := bd hx
  refine wp_cl [.ref 17, .int (Int32.ofInt p1)] [] (i := .invokevirtual 132) (ln := 3) (a := 5) (b := 0) (z := 0) (by decide +kernel) rfl rfl (by decide) rfl (show (2 : Nat) = pm_na 5 by decide +kernel) (Nat.le_of_ble_eq_true rfl) (show (2 : Nat) ≤ pm_n 5 by decide +kernel) (rcv_x 0 h (hS _ _ sx_17) (by decide +kernel)) (xl_hasCell_ok (d := d + 9) hS (okC_17 hS) h e2 ?_)
  show wp _ 119 13 [(3, .ref 17), (0, .ref 0), (1, .int (Int32.ofInt p1)), (2, .int (Int32.ofInt p2))] [.int (Int32.ofInt o1)] w _
  refine wz_eq (oo := 11) (ln := 3) (a := 24) (b := 0) (zz := 0) (by decide +kernel) (fun h5 => ?_) (fun h5 => ?_)
  · have hx := ite_t h5 hx
    refine wp_g 1 (pc1 := 25) (lv1 := [(3, .ref 17), (0, .ref 0), (1, .int (Int32.ofInt p1)), (2, .int (Int32.ofInt p2))]) (st1 := [.int (Int32.ofInt (-1))]) (w1 := w) rfl ?_
    refine wp_rt (i := .ireturn) (r := some (.int (Int32.ofInt (-1)))) (ln := 1) (a := 0) (b := 0) (z := 0) (by decide +kernel) rfl (ret_ok (by decide +kernel)) ?_
    cases hx
    exact kr _ (Gr_fr Gr_rf h.2) h.1
  · have hx := ite_f h5 hx
    refine wp_g 2 (pc1 := 18) (lv1 := [(3, .ref 17), (0, .ref 0), (1, .int (Int32.ofInt p1)), (2, .int (Int32.ofInt p2))]) (st1 := [.int (Int32.ofInt p2), .ref 17]) (w1 := w) rfl ?_
    obtain ⟨o6, e7, hx⟩ := bd hx
    refine wp_cl [.ref 17, .int (Int32.ofInt p2)] [] (i := .invokevirtual 160) (ln := 3) (a := 7) (b := 0) (z := 0) (by decide +kernel) rfl rfl (by decide) rfl (show (2 : Nat) = pm_na 7 by decide +kernel) (Nat.le_of_ble_eq_true rfl) (show (2 : Nat) ≤ pm_n 7 by decide +kernel) (rcv_x 0 h (hS _ _ sx_17) (by decide +kernel)) (xl_hasPerson_ok (d := d + 9) hS (okC_17 hS) h e7 ?_)
    show wp _ 119 21 [(3, .ref 17), (0, .ref 0), (1, .int (Int32.ofInt p1)), (2, .int (Int32.ofInt p2))] [.int (Int32.ofInt o6)] w _
    refine wz_ne (oo := 5) (ln := 3) (a := 26) (b := 0) (zz := 0) (by decide +kernel) (fun h10 => ?_) (fun h10 => ?_)
    · have hx := ite_f h10 hx
      refine wp_g 1 (pc1 := 27) (lv1 := [(3, .ref 17), (0, .ref 0), (1, .int (Int32.ofInt p1)), (2, .int (Int32.ofInt p2))]) (st1 := [.ref 17]) (w1 := w) rfl ?_
      refine wx_gr (o := 4) (kf := 145) (ln := 3) (ci := 0) (b := 7) (zz := 0) (x := 17) (by decide +kernel) h (hS _ _ sx_17) rfl ?_
      show wp _ 119 30 [(3, .ref 17), (0, .ref 0), (1, .int (Int32.ofInt p1)), (2, .int (Int32.ofInt p2))] [.ref 21] w _
      refine wp_g 1 (pc1 := 31) (lv1 := [(3, .ref 17), (0, .ref 0), (1, .int (Int32.ofInt p1)), (2, .int (Int32.ofInt p2))]) (st1 := [.int (Int32.ofInt p1), .ref 21]) (w1 := w) rfl ?_
      obtain ⟨i11, e12, hx⟩ := bd hx
      refine wx_ra (x := 21) (n := 8) (ln := 1) (a := 0) (b := 0) (zz := 0) (by decide +kernel) h (hS _ _ sx_21) e12 ?_
      show wp _ 119 32 [(3, .ref 17), (0, .ref 0), (1, .int (Int32.ofInt p1)), (2, .int (Int32.ofInt p2))] [.int (Int32.ofInt (s 21 i11))] w _
      refine wp_g 3 (pc1 := 37) (lv1 := [(4, .int (Int32.ofInt (s 21 i11))), (3, .ref 17), (0, .ref 0), (1, .int (Int32.ofInt p1)), (2, .int (Int32.ofInt p2))]) (st1 := [.int (Int32.ofInt (-1)), .int (Int32.ofInt (s 21 i11))]) (w1 := w) rfl ?_
      refine wx_eq (oo := 9) (ln := 3) (a := 46) (b := 0) (zz := 0) (by decide +kernel) (fun h13 => ?_) (fun h13 => ?_)
      · have hx := ite_t h13 hx
        refine wp_g 1 (pc1 := 47) (lv1 := [(4, .int (Int32.ofInt (s 21 i11))), (3, .ref 17), (0, .ref 0), (1, .int (Int32.ofInt p1)), (2, .int (Int32.ofInt p2))]) (st1 := [.int (Int32.ofInt (-1))]) (w1 := w) rfl ?_
        refine wp_rt (i := .ireturn) (r := some (.int (Int32.ofInt (-1)))) (ln := 1) (a := 0) (b := 0) (z := 0) (by decide +kernel) rfl (ret_ok (by decide +kernel)) ?_
        cases hx
        exact kr _ (Gr_fr Gr_rf h.2) h.1
      · have hx := ite_f h13 hx
        refine wp_g 2 (pc1 := 43) (lv1 := [(4, .int (Int32.ofInt (s 21 i11))), (3, .ref 17), (0, .ref 0), (1, .int (Int32.ofInt p1)), (2, .int (Int32.ofInt p2))]) (st1 := [.int (Int32.ofInt p2), .int (Int32.ofInt (s 21 i11))]) (w1 := w) rfl ?_
        refine wx_ne (oo := 5) (ln := 3) (a := 48) (b := 0) (zz := 0) (by decide +kernel) (fun h14 => ?_) (fun h14 => ?_)
        · have hx := ite_f h14 hx
          refine wp_g 1 (pc1 := 49) (lv1 := [(4, .int (Int32.ofInt (s 21 i11))), (3, .ref 17), (0, .ref 0), (1, .int (Int32.ofInt p1)), (2, .int (Int32.ofInt p2))]) (st1 := [.ref 0]) (w1 := w) rfl ?_
          refine wx_gr (o := 39) (kf := 54) (ln := 3) (ci := 11) (b := 7) (zz := 0) (x := 0) (by decide +kernel) h (hS _ _ sx_0) rfl ?_
          show wp _ 119 52 [(4, .int (Int32.ofInt (s 21 i11))), (3, .ref 17), (0, .ref 0), (1, .int (Int32.ofInt p1)), (2, .int (Int32.ofInt p2))] [.ref 39] w _
          refine wp_g 1 (pc1 := 53) (lv1 := [(4, .int (Int32.ofInt (s 21 i11))), (3, .ref 17), (0, .ref 0), (1, .int (Int32.ofInt p1)), (2, .int (Int32.ofInt p2))]) (st1 := [.ref 17, .ref 39]) (w1 := w) rfl ?_
          obtain ⟨o15, e16, hx⟩ := bd hx
          refine wp_cl [.ref 39, .ref 17] [] (i := .invokevirtual 187) (ln := 3) (a := 40) (b := 0) (z := 0) (by decide +kernel) rfl rfl (by decide) rfl (show (2 : Nat) = pm_na 40 by decide +kernel) (Nat.le_of_ble_eq_true rfl) (show (2 : Nat) ≤ pm_n 40 by decide +kernel) (rcv_x 4 h (hS _ _ sx_39) (by decide +kernel)) (xp_keep_ok (d := d) hS hK (okC_17 hS) (hL.trans h.2.1.symm) h.1 e16 (fun w17 h19 h18 => ?_))
          have h20 := fr_Gr h.2 h19
          have h21 := Gr_sub h.1 h19
          have hS := St_sub h21 hS
          have hK := fun i q => okC_sub h21 (hK i q)
          have h22 : Rw o15.2 w17 _ w17 := ⟨h18, Fr_rf⟩
          show wp _ 119 56 [(4, .int (Int32.ofInt (s 21 i11))), (3, .ref 17), (0, .ref 0), (1, .int (Int32.ofInt p1)), (2, .int (Int32.ofInt p2))] [] w17 _
          refine wp_g 1 (pc1 := 57) (lv1 := [(4, .int (Int32.ofInt (s 21 i11))), (3, .ref 17), (0, .ref 0), (1, .int (Int32.ofInt p1)), (2, .int (Int32.ofInt p2))]) (st1 := [.ref 17]) (w1 := w17) rfl ?_
          refine wx_gr (o := 4) (kf := 145) (ln := 3) (ci := 0) (b := 7) (zz := 0) (x := 17) (by decide +kernel) h22 (hS _ _ sx_17) rfl ?_
          show wp _ 119 60 [(4, .int (Int32.ofInt (s 21 i11))), (3, .ref 17), (0, .ref 0), (1, .int (Int32.ofInt p1)), (2, .int (Int32.ofInt p2))] [.ref 21] w17 _
          refine wp_g 2 (pc1 := 62) (lv1 := [(4, .int (Int32.ofInt (s 21 i11))), (3, .ref 17), (0, .ref 0), (1, .int (Int32.ofInt p1)), (2, .int (Int32.ofInt p2))]) (st1 := [.int (Int32.ofInt p2), .int (Int32.ofInt p1), .ref 21]) (w1 := w17) rfl ?_
          obtain ⟨s23, e24, hx⟩ := bd hx
          refine wx_wa (x := 21) (n := 8) (ln := 1) (a := 0) (b := 0) (zz := 0) (by decide +kernel) h22 (hS _ _ sx_21) e12 e24 (fun w25 h26 => ?_)
          refine wp_g 1 (pc1 := 65) (lv1 := [(4, .int (Int32.ofInt (s 21 i11))), (3, .ref 17), (0, .ref 0), (1, .int (Int32.ofInt p1)), (2, .int (Int32.ofInt p2))]) (st1 := [.int (Int32.ofInt (s 21 i11))]) (w1 := w25) rfl ?_
          refine wp_rt (i := .ireturn) (r := some (.int (Int32.ofInt (s 21 i11)))) (ln := 1) (a := 0) (b := 0) (z := 0) (by decide +kernel) rfl (ret_ok (by decide +kernel)) ?_
          cases hx
          exact kr _ (Gr_fr h20 h26.2) h26.1
        · have hx := ite_t h14 hx
          refine wp_g 1 (pc1 := 47) (lv1 := [(4, .int (Int32.ofInt (s 21 i11))), (3, .ref 17), (0, .ref 0), (1, .int (Int32.ofInt p1)), (2, .int (Int32.ofInt p2))]) (st1 := [.int (Int32.ofInt (-1))]) (w1 := w) rfl ?_
          refine wp_rt (i := .ireturn) (r := some (.int (Int32.ofInt (-1)))) (ln := 1) (a := 0) (b := 0) (z := 0) (by decide +kernel) rfl (ret_ok (by decide +kernel)) ?_
          cases hx
          exact kr _ (Gr_fr Gr_rf h.2) h.1
    · have hx := ite_t h10 hx
      refine wp_g 1 (pc1 := 25) (lv1 := [(3, .ref 17), (0, .ref 0), (1, .int (Int32.ofInt p1)), (2, .int (Int32.ofInt p2))]) (st1 := [.int (Int32.ofInt (-1))]) (w1 := w) rfl ?_
      refine wp_rt (i := .ireturn) (r := some (.int (Int32.ofInt (-1)))) (ln := 1) (a := 0) (b := 0) (z := 0) (by decide +kernel) rfl (ret_ok (by decide +kernel)) ?_
      cases hx
      exact kr _ (Gr_fr Gr_rf h.2) h.1
/-- FoldDeeds.undo ()I -/
noncomputable def xf_undo (ks : Nat → Int) (s : Hp) : Option (Int × Hp) :=
  if w32 (s 39 2) = 0 then some ((-1), s) else (xp_bringBack ks s 17).bind fun o2 => some (o2 39 2, o2)
set_option maxRecDepth 100000 in
theorem xf_undo_ok {d : Nat} {P : Option Value → pm_H → Prop} {w : pm_H} {sh : Shp} {w0 : pm_H} {s : Hp} (hS : St sh) {ks : Nat → Int} (hK : ∀ i, ¬ ks i < 0 → okC 3 sh (ks i).toNat) (h : Rw sh w0 s w) {o : Int × Hp} (hx : xf_undo ks s = some o) (kr : ∀ w1, Rw sh w0 o.2 w1 → P (some (.int (Int32.ofInt o.1))) w1) : wp (d + 8) 120 0 (lv_args 0 [.ref 0]) [] w P := by
  show wp _ 120 0 [(0, .ref 0)] [] w _
  unfold xf_undo at hx
  refine wp_g 1 (pc1 := 1) (lv1 := [(0, .ref 0)]) (st1 := [.ref 0]) (w1 := w) rfl ?_
  refine wx_gr (o := 39) (kf := 54) (ln := 3) (ci := 11) (b := 7) (zz := 0) (x := 0) (by decide +kernel) h (hS _ _ sx_0) rfl ?_
  show wp _ 120 4 [(0, .ref 0)] [.ref 39] w _
  refine wx_gi (kf := 201) (ln := 3) (ci := 4) (b := 2) (zz := 0) (x := 39) (by decide +kernel) h (hS _ _ sx_39) rfl ?_
  show wp _ 120 7 [(0, .ref 0)] [.int (Int32.ofInt (s 39 2))] w _
  refine wz_ne (oo := 5) (ln := 3) (a := 12) (b := 0) (zz := 0) (by decide +kernel) (fun h1 => ?_) (fun h1 => ?_)
  · have hx := ite_f h1 hx
    refine wp_g 1 (pc1 := 13) (lv1 := [(0, .ref 0)]) (st1 := [.ref 0]) (w1 := w) rfl ?_
    refine wx_gr (o := 39) (kf := 54) (ln := 3) (ci := 11) (b := 7) (zz := 0) (x := 0) (by decide +kernel) h (hS _ _ sx_0) rfl ?_
    show wp _ 120 16 [(0, .ref 0)] [.ref 39] w _
    refine wp_g 1 (pc1 := 17) (lv1 := [(0, .ref 0)]) (st1 := [.ref 0, .ref 39]) (w1 := w) rfl ?_
    refine wx_gr (o := 16) (kf := 43) (ln := 3) (ci := 11) (b := 5) (zz := 0) (x := 0) (by decide +kernel) h (hS _ _ sx_0) rfl ?_
    show wp _ 120 20 [(0, .ref 0)] [.ref 16, .ref 39] w _
    refine wx_gr (o := 1) (kf := 116) (ln := 3) (ci := 7) (b := 0) (zz := 0) (x := 16) (by decide +kernel) h (hS _ _ sx_16) rfl ?_
    show wp _ 120 23 [(0, .ref 0)] [.ref 17, .ref 39] w _
    obtain ⟨o2, e3, hx⟩ := bd hx
    refine wp_cl [.ref 39, .ref 17] [] (i := .invokevirtual 202) (ln := 3) (a := 41) (b := 0) (z := 0) (by decide +kernel) rfl rfl (by decide) rfl (show (2 : Nat) = pm_na 41 by decide +kernel) (Nat.le_of_ble_eq_true rfl) (show (2 : Nat) ≤ pm_n 41 by decide +kernel) (rcv_x 4 h (hS _ _ sx_39) (by decide +kernel)) (xp_bringBack_ok (d := d) hS hK (okC_17 hS) h e3 (fun w4 h5 => ?_))
    show wp _ 120 26 [(0, .ref 0)] [] w4 _
    refine wp_g 1 (pc1 := 27) (lv1 := [(0, .ref 0)]) (st1 := [.ref 0]) (w1 := w4) rfl ?_
    refine wx_gr (o := 39) (kf := 54) (ln := 3) (ci := 11) (b := 7) (zz := 0) (x := 0) (by decide +kernel) h5 (hS _ _ sx_0) rfl ?_
    show wp _ 120 30 [(0, .ref 0)] [.ref 39] w4 _
    refine wx_gi (kf := 201) (ln := 3) (ci := 4) (b := 2) (zz := 0) (x := 39) (by decide +kernel) h5 (hS _ _ sx_39) rfl ?_
    show wp _ 120 33 [(0, .ref 0)] [.int (Int32.ofInt (o2 39 2))] w4 _
    refine wp_rt (i := .ireturn) (r := some (.int (Int32.ofInt (o2 39 2)))) (ln := 1) (a := 0) (b := 0) (z := 0) (by decide +kernel) rfl (ret_ok (by decide +kernel)) ?_
    cases hx
    exact kr _ h5
  · have hx := ite_t h1 hx
    refine wp_g 1 (pc1 := 11) (lv1 := [(0, .ref 0)]) (st1 := [.int (Int32.ofInt (-1))]) (w1 := w) rfl ?_
    refine wp_rt (i := .ireturn) (r := some (.int (Int32.ofInt (-1)))) (ln := 1) (a := 0) (b := 0) (z := 0) (by decide +kernel) rfl (ret_ok (by decide +kernel)) ?_
    cases hx
    exact kr _ h
