/-! by program (wip/whole/gx.py) -/
/-- FoldSearch.answer (I)I -/
noncomputable def xg_answer (s : Hp) (p1 : Int) : Option Int :=
  if w32 (s 54 3) = w32 (-1) then some (-2) else if w32 p1 = w32 (-1) then some (s 54 3) else if w32 p1 < 0 then some (-2) else if w32 p1 < w32 (s 54 3) then if w32 p1 < w32 8 then (ix 8 p1).bind fun i6 => some (s 57 i6) else some (-2) else some (-2)
set_option maxRecDepth 100000 in
theorem xg_answer_ok {d : Nat} {P : Option Value → pm_H → Prop} {w : pm_H} {sh : Shp} {w0 : pm_H} {s : Hp} (hS : St sh) {p1 : Int} (h : Rw sh w0 s w) {o : Int} (hx : xg_answer s p1 = some o) (kr : P (some (.int (Int32.ofInt o))) w) : wp d 29 0 (lv_args 0 [.ref 54, .int (Int32.ofInt p1)]) [] w P := by
  show wp _ 29 0 [(0, .ref 54), (1, .int (Int32.ofInt p1))] [] w _
  unfold xg_answer at hx
  refine wp_g 1 (pc1 := 1) (lv1 := [(0, .ref 54), (1, .int (Int32.ofInt p1))]) (st1 := [.ref 54]) (w1 := w) rfl ?_
  refine wx_gi (kf := 24) (ln := 3) (ci := 2) (b := 3) (zz := 0) (x := 54) (by decide +kernel) h (hS _ _ sx_54) rfl ?_
  show wp _ 29 4 [(0, .ref 54), (1, .int (Int32.ofInt p1))] [.int (Int32.ofInt (s 54 3))] w _
  refine wp_g 1 (pc1 := 5) (lv1 := [(0, .ref 54), (1, .int (Int32.ofInt p1))]) (st1 := [.int (Int32.ofInt (-1)), .int (Int32.ofInt (s 54 3))]) (w1 := w) rfl ?_
  refine wx_ne (oo := 6) (ln := 3) (a := 11) (b := 0) (zz := 0) (by decide +kernel) (fun h1 => ?_) (fun h1 => ?_)
  · have hx := ite_f h1 hx
    refine wp_g 2 (pc1 := 13) (lv1 := [(0, .ref 54), (1, .int (Int32.ofInt p1))]) (st1 := [.int (Int32.ofInt (-1)), .int (Int32.ofInt p1)]) (w1 := w) rfl ?_
    refine wx_ne (oo := 8) (ln := 3) (a := 21) (b := 0) (zz := 0) (by decide +kernel) (fun h2 => ?_) (fun h2 => ?_)
    · have hx := ite_f h2 hx
      refine wp_g 1 (pc1 := 22) (lv1 := [(0, .ref 54), (1, .int (Int32.ofInt p1))]) (st1 := [.int (Int32.ofInt p1)]) (w1 := w) rfl ?_
      refine wz_lt (oo := 29) (ln := 3) (a := 51) (b := 0) (zz := 0) (by decide +kernel) (fun h3 => ?_) (fun h3 => ?_)
      · have hx := ite_t h3 hx
        refine wp_g 1 (pc1 := 53) (lv1 := [(0, .ref 54), (1, .int (Int32.ofInt p1))]) (st1 := [.int (Int32.ofInt (-2))]) (w1 := w) rfl ?_
        refine wp_rt (i := .ireturn) (r := some (.int (Int32.ofInt (-2)))) (ln := 1) (a := 0) (b := 0) (z := 0) (by decide +kernel) rfl (ret_ok (by decide +kernel)) ?_
        cases hx
        exact kr
      · have hx := ite_f h3 hx
        refine wp_g 2 (pc1 := 27) (lv1 := [(0, .ref 54), (1, .int (Int32.ofInt p1))]) (st1 := [.ref 54, .int (Int32.ofInt p1)]) (w1 := w) rfl ?_
        refine wx_gi (kf := 24) (ln := 3) (ci := 2) (b := 3) (zz := 0) (x := 54) (by decide +kernel) h (hS _ _ sx_54) rfl ?_
        show wp _ 29 30 [(0, .ref 54), (1, .int (Int32.ofInt p1))] [.int (Int32.ofInt (s 54 3)), .int (Int32.ofInt p1)] w _
        refine wx_ge (oo := 21) (ln := 3) (a := 51) (b := 0) (zz := 0) (by decide +kernel) (fun h4 => ?_) (fun h4 => ?_)
        · have hx := ite_f h4 hx
          refine wp_g 1 (pc1 := 53) (lv1 := [(0, .ref 54), (1, .int (Int32.ofInt p1))]) (st1 := [.int (Int32.ofInt (-2))]) (w1 := w) rfl ?_
          refine wp_rt (i := .ireturn) (r := some (.int (Int32.ofInt (-2)))) (ln := 1) (a := 0) (b := 0) (z := 0) (by decide +kernel) rfl (ret_ok (by decide +kernel)) ?_
          cases hx
          exact kr
        · have hx := ite_t h4 hx
          refine wp_g 2 (pc1 := 35) (lv1 := [(0, .ref 54), (1, .int (Int32.ofInt p1))]) (st1 := [.ref 54, .int (Int32.ofInt p1)]) (w1 := w) rfl ?_
          refine wx_gr (o := 3) (kf := 21) (ln := 3) (ci := 2) (b := 2) (zz := 0) (x := 54) (by decide +kernel) h (hS _ _ sx_54) rfl ?_
          show wp _ 29 38 [(0, .ref 54), (1, .int (Int32.ofInt p1))] [.ref 57, .int (Int32.ofInt p1)] w _
          refine wx_ln (n := 8) (t := 0) (ln := 1) (a := 0) (b := 0) (zz := 0) (by decide +kernel) h (hS _ _ sx_57) ?_
          show wp _ 29 39 [(0, .ref 54), (1, .int (Int32.ofInt p1))] [.int (Int32.ofInt 8), .int (Int32.ofInt p1)] w _
          refine wx_ge (oo := 12) (ln := 3) (a := 51) (b := 0) (zz := 0) (by decide +kernel) (fun h5 => ?_) (fun h5 => ?_)
          · have hx := ite_f h5 hx
            refine wp_g 1 (pc1 := 53) (lv1 := [(0, .ref 54), (1, .int (Int32.ofInt p1))]) (st1 := [.int (Int32.ofInt (-2))]) (w1 := w) rfl ?_
            refine wp_rt (i := .ireturn) (r := some (.int (Int32.ofInt (-2)))) (ln := 1) (a := 0) (b := 0) (z := 0) (by decide +kernel) rfl (ret_ok (by decide +kernel)) ?_
            cases hx
            exact kr
          · have hx := ite_t h5 hx
            refine wp_g 1 (pc1 := 43) (lv1 := [(0, .ref 54), (1, .int (Int32.ofInt p1))]) (st1 := [.ref 54]) (w1 := w) rfl ?_
            refine wx_gr (o := 3) (kf := 21) (ln := 3) (ci := 2) (b := 2) (zz := 0) (x := 54) (by decide +kernel) h (hS _ _ sx_54) rfl ?_
            show wp _ 29 46 [(0, .ref 54), (1, .int (Int32.ofInt p1))] [.ref 57] w _
            refine wp_g 1 (pc1 := 47) (lv1 := [(0, .ref 54), (1, .int (Int32.ofInt p1))]) (st1 := [.int (Int32.ofInt p1), .ref 57]) (w1 := w) rfl ?_
            obtain ⟨i6, e7, hx⟩ := bd hx
            refine wx_ra (x := 57) (n := 8) (ln := 1) (a := 0) (b := 0) (zz := 0) (by decide +kernel) h (hS _ _ sx_57) e7 ?_
            show wp _ 29 48 [(0, .ref 54), (1, .int (Int32.ofInt p1))] [.int (Int32.ofInt (s 57 i6))] w _
            refine wp_g 1 (pc1 := 53) (lv1 := [(0, .ref 54), (1, .int (Int32.ofInt p1))]) (st1 := [.int (Int32.ofInt (s 57 i6))]) (w1 := w) rfl ?_
            refine wp_rt (i := .ireturn) (r := some (.int (Int32.ofInt (s 57 i6)))) (ln := 1) (a := 0) (b := 0) (z := 0) (by decide +kernel) rfl (ret_ok (by decide +kernel)) ?_
            cases hx
            exact kr
    · have hx := ite_t h2 hx
      refine wp_g 1 (pc1 := 17) (lv1 := [(0, .ref 54), (1, .int (Int32.ofInt p1))]) (st1 := [.ref 54]) (w1 := w) rfl ?_
      refine wx_gi (kf := 24) (ln := 3) (ci := 2) (b := 3) (zz := 0) (x := 54) (by decide +kernel) h (hS _ _ sx_54) rfl ?_
      show wp _ 29 20 [(0, .ref 54), (1, .int (Int32.ofInt p1))] [.int (Int32.ofInt (s 54 3))] w _
      refine wp_rt (i := .ireturn) (r := some (.int (Int32.ofInt (s 54 3)))) (ln := 1) (a := 0) (b := 0) (z := 0) (by decide +kernel) rfl (ret_ok (by decide +kernel)) ?_
      cases hx
      exact kr
  · have hx := ite_t h1 hx
    refine wp_g 1 (pc1 := 10) (lv1 := [(0, .ref 54), (1, .int (Int32.ofInt p1))]) (st1 := [.int (Int32.ofInt (-2))]) (w1 := w) rfl ?_
    refine wp_rt (i := .ireturn) (r := some (.int (Int32.ofInt (-2)))) (ln := 1) (a := 0) (b := 0) (z := 0) (by decide +kernel) rfl (ret_ok (by decide +kernel)) ?_
    cases hx
    exact kr
/-- FoldSearch.keepRow (I)V -/
noncomputable def xg_keepRow (s : Hp) (p1 : Int) : Option Hp :=
  (some (uh s 54 3 p1)).bind fun s1 => if ¬ 56 = 57 then (some (uc s1 56 57 8)).bind fun s8 => some s8 else none
set_option maxRecDepth 100000 in
theorem xg_keepRow_ok {d : Nat} {P : Option Value → pm_H → Prop} {w : pm_H} {sh : Shp} {w0 : pm_H} {s : Hp} (hS : St sh) {p1 : Int} (h : Rw sh w0 s w) {o : Hp} (hx : xg_keepRow s p1 = some o) (kr : ∀ w1, Rw sh w0 o w1 → P none w1) : wp (d + 6) 32 0 (lv_args 0 [.ref 54, .int (Int32.ofInt p1)]) [] w P := by
  show wp _ 32 0 [(0, .ref 54), (1, .int (Int32.ofInt p1))] [] w _
  unfold xg_keepRow at hx
  refine wp_g 2 (pc1 := 2) (lv1 := [(0, .ref 54), (1, .int (Int32.ofInt p1))]) (st1 := [.int (Int32.ofInt p1), .ref 54]) (w1 := w) rfl ?_
  obtain ⟨s1, e2, hx⟩ := bd hx
  refine wx_pi (kf := 24) (ln := 3) (ci := 2) (b := 3) (zz := 0) (x := 54) (by decide +kernel) h (hS _ _ sx_54) rfl (by decide +kernel) e2 (fun w3 h4 => ?_)
  refine wp_g 1 (pc1 := 6) (lv1 := [(0, .ref 54), (1, .int (Int32.ofInt p1))]) (st1 := [.ref 54]) (w1 := w3) rfl ?_
  refine wx_gr (o := 2) (kf := 17) (ln := 3) (ci := 2) (b := 1) (zz := 0) (x := 54) (by decide +kernel) h4 (hS _ _ sx_54) rfl ?_
  show wp _ 32 9 [(0, .ref 54), (1, .int (Int32.ofInt p1))] [.ref 56] w3 _
  refine wp_g 2 (pc1 := 11) (lv1 := [(0, .ref 54), (1, .int (Int32.ofInt p1))]) (st1 := [.ref 54, .int (Int32.ofInt 0), .ref 56]) (w1 := w3) rfl ?_
  refine wx_gr (o := 3) (kf := 21) (ln := 3) (ci := 2) (b := 2) (zz := 0) (x := 54) (by decide +kernel) h4 (hS _ _ sx_54) rfl ?_
  show wp _ 32 14 [(0, .ref 54), (1, .int (Int32.ofInt p1))] [.ref 57, .int (Int32.ofInt 0), .ref 56] w3 _
  refine wp_g 2 (pc1 := 16) (lv1 := [(0, .ref 54), (1, .int (Int32.ofInt p1))]) (st1 := [.ref 54, .int (Int32.ofInt 0), .ref 57, .int (Int32.ofInt 0), .ref 56]) (w1 := w3) rfl ?_
  refine wx_gr (o := 3) (kf := 21) (ln := 3) (ci := 2) (b := 2) (zz := 0) (x := 54) (by decide +kernel) h4 (hS _ _ sx_54) rfl ?_
  show wp _ 32 19 [(0, .ref 54), (1, .int (Int32.ofInt p1))] [.ref 57, .int (Int32.ofInt 0), .ref 57, .int (Int32.ofInt 0), .ref 56] w3 _
  refine wx_ln (n := 8) (t := 0) (ln := 1) (a := 0) (b := 0) (zz := 0) (by decide +kernel) h4 (hS _ _ sx_57) ?_
  show wp _ 32 20 [(0, .ref 54), (1, .int (Int32.ofInt p1))] [.int (Int32.ofInt 8), .int (Int32.ofInt 0), .ref 57, .int (Int32.ofInt 0), .ref 56] w3 _
  obtain ⟨h5, hx⟩ := gd hx
  obtain ⟨s8, e9, hx⟩ := bd hx
  refine wx_cp (kf := 56) (x := 56) (y := 57) (m := 8) (n := 8) (n1 := 8) (ln := 3) (b := 9) (zz := 0) (by decide +kernel) h4 (hS _ _ sx_56) (hS _ _ sx_57) h5 (by decide) (by decide) (by decide) e9 (Nat.le_of_ble_eq_true rfl) (by omega) (fun w6 h7 => ?_)
  refine wp_rt (i := .return_) (r := none) (ln := 1) (a := 0) (b := 0) (z := 0) (by decide +kernel) rfl (ret_v (by decide +kernel)) ?_
  cases hx
  exact kr _ h7
noncomputable def xg_seekMarksFrom_b68 (F31 : Hp → Int → Option Hp) (s : Hp) (x1 : Int) (y3 : Nat) (x4 : Int) (x5 : Int) : Option ((Int × Hp) ⊕ (Int × Hp)) :=
  if w32 x5 < w32 x4 then if w32 (bAnd x5 2) = 0 then (xl_keepsToMarks s y3 x5).bind fun o3 => if w32 o3 = 0 then some (.inl (x5 + 1, s)) else (ix 8 x1).bind fun i8 => (some (uh s 56 i8 x5)).bind fun s10 => (ix 8 (x1 + 1)).bind fun i14 => (lvA (s10 55 i14) i14).bind fun b16 => (xl_lieFolded s10 b16 y3 x5).bind fun o18 => (F31 o18 (x1 + 1)).bind fun o22 => some (.inl (x5 + 1, o22)) else some (.inl (x5 + 1, s)) else some (.inr (x5, s))
set_option maxRecDepth 100000 in
theorem xg_seekMarksFrom_b68_ok {d : Nat} {P : Option Value → pm_H → Prop} {w : pm_H} {sh : Shp} {w0 : pm_H} {s : Hp} (hS : St sh) {F31 : Hp → Int → Option Hp} (hF31 : ∀ (w : pm_H) (s : Hp) (p1 : Int) (o : Hp) (P : Option Value → pm_H → Prop), Rw sh w0 s w → F31 s p1 = some o → (∀ w1, Rw sh w0 o w1 → P none w1) → wp (d + 8) 31 0 (lv_args 0 [.ref 54, .int (Int32.ofInt p1), .ref 35]) [] w P) {x1 : Int} {y3 ry3 : Nat} (cy3 : okC ry3 sh y3) {x4 : Int} {x5 : Int} (h : Rw sh w0 s w) {o : ((Int × Hp) ⊕ (Int × Hp))} (hx : xg_seekMarksFrom_b68 F31 s x1 y3 x4 x5 = some o) (kn : ∀ (q : Int × Hp) w1, o = .inl q → Rw sh w0 q.2 w1 → wp (d + 9) 31 68 [(0, .ref 54), (1, .int (Int32.ofInt x1)), (2, .ref 35), (3, .ref y3), (4, .int (Int32.ofInt x4)), (5, .int (Int32.ofInt q.1))] [] w1 P) (kc : ∀ (r : (Int × Hp)), o = .inr r → (∀ w1, Rw sh w0 r.2 w1 → wp (d + 9) 31 128 [(0, .ref 54), (1, .int (Int32.ofInt x1)), (2, .ref 35), (3, .ref y3), (4, .int (Int32.ofInt x4)), (5, .int (Int32.ofInt r.1))] [] w1 P)) : wp (d + 9) 31 68 [(0, .ref 54), (1, .int (Int32.ofInt x1)), (2, .ref 35), (3, .ref y3), (4, .int (Int32.ofInt x4)), (5, .int (Int32.ofInt x5))] [] w P := by
  unfold xg_seekMarksFrom_b68 at hx
  refine wp_g 2 (pc1 := 72) (lv1 := [(0, .ref 54), (1, .int (Int32.ofInt x1)), (2, .ref 35), (3, .ref y3), (4, .int (Int32.ofInt x4)), (5, .int (Int32.ofInt x5))]) (st1 := [.int (Int32.ofInt x4), .int (Int32.ofInt x5)]) (w1 := w) rfl ?_
  refine wx_ge (oo := 56) (ln := 3) (a := 128) (b := 0) (zz := 0) (by decide +kernel) (fun h1 => ?_) (fun h1 => ?_)
  · have hx := ite_f h1 hx
    cases hx
    exact kc _ rfl _ h
  · have hx := ite_t h1 hx
    refine wp_g 3 (pc1 := 79) (lv1 := [(0, .ref 54), (1, .int (Int32.ofInt x1)), (2, .ref 35), (3, .ref y3), (4, .int (Int32.ofInt x4)), (5, .int (Int32.ofInt x5))]) (st1 := [.int (Int32.ofInt (bAnd x5 2))]) (w1 := w) (by simp only [Int32.ofInt_add, Int32.ofInt_sub, Int32.ofInt_mul, Int32.ofInt_neg, p_and, p_or, p_xor, p_shl, p_shr, p_usr, p_w8, p_c16, p_lI, q_and, q_or, q_shl, q_shr, q_w32, Int64.ofInt_add, Int64.ofInt_sub, Int64.ofInt_mul, p_mx, p_mn, q_mx, q_mn]; rfl) ?_
    refine wz_ne (oo := 43) (ln := 3) (a := 122) (b := 0) (zz := 0) (by decide +kernel) (fun h2 => ?_) (fun h2 => ?_)
    · have hx := ite_f h2 hx
      refine wp_g 2 (pc1 := 68) (lv1 := [(5, .int (Int32.ofInt (x5 + 1))), (0, .ref 54), (1, .int (Int32.ofInt x1)), (2, .ref 35), (3, .ref y3), (4, .int (Int32.ofInt x4))]) (st1 := []) (w1 := w) (by simp only [Int32.ofInt_add, Int32.ofInt_sub, Int32.ofInt_mul, Int32.ofInt_neg, p_and, p_or, p_xor, p_shl, p_shr, p_usr, p_w8, p_c16, p_lI, q_and, q_or, q_shl, q_shr, q_w32, Int64.ofInt_add, Int64.ofInt_sub, Int64.ofInt_mul, p_mx, p_mn, q_mx, q_mn]; rfl) ?_
      refine wp_lv (lv1 := [(0, .ref 54), (1, .int (Int32.ofInt x1)), (2, .ref 35), (3, .ref y3), (4, .int (Int32.ofInt x4)), (5, .int (Int32.ofInt (x5 + 1)))]) (lsub_p [1, 2, 3, 4, 5, 0] rfl rfl rfl) ?_
      cases hx
      exact kn _ _ rfl h
    · have hx := ite_t h2 hx
      refine wp_g 3 (pc1 := 86) (lv1 := [(0, .ref 54), (1, .int (Int32.ofInt x1)), (2, .ref 35), (3, .ref y3), (4, .int (Int32.ofInt x4)), (5, .int (Int32.ofInt x5))]) (st1 := [.int (Int32.ofInt x5), .ref 35, .ref y3]) (w1 := w) rfl ?_
      obtain ⟨o3, e4, hx⟩ := bd hx
      refine wp_cl [.ref y3, .ref 35, .int (Int32.ofInt x5)] [] (i := .invokevirtual 48) (ln := 3) (a := 16) (b := 0) (z := 0) (by decide +kernel) rfl rfl (by decide) rfl (show (3 : Nat) = pm_na 16 by decide +kernel) (Nat.le_of_ble_eq_true rfl) (show (3 : Nat) ≤ pm_n 16 by decide +kernel) (rcv_x 0 h cy3.1 (by decide +kernel)) (xl_keepsToMarks_ok (d := d + 7) hS cy3 h e4 ?_)
      show wp _ 31 89 [(0, .ref 54), (1, .int (Int32.ofInt x1)), (2, .ref 35), (3, .ref y3), (4, .int (Int32.ofInt x4)), (5, .int (Int32.ofInt x5))] [.int (Int32.ofInt o3)] w _
      refine wz_eq (oo := 33) (ln := 3) (a := 122) (b := 0) (zz := 0) (by decide +kernel) (fun h7 => ?_) (fun h7 => ?_)
      · have hx := ite_t h7 hx
        refine wp_g 2 (pc1 := 68) (lv1 := [(5, .int (Int32.ofInt (x5 + 1))), (0, .ref 54), (1, .int (Int32.ofInt x1)), (2, .ref 35), (3, .ref y3), (4, .int (Int32.ofInt x4))]) (st1 := []) (w1 := w) (by simp only [Int32.ofInt_add, Int32.ofInt_sub, Int32.ofInt_mul, Int32.ofInt_neg, p_and, p_or, p_xor, p_shl, p_shr, p_usr, p_w8, p_c16, p_lI, q_and, q_or, q_shl, q_shr, q_w32, Int64.ofInt_add, Int64.ofInt_sub, Int64.ofInt_mul, p_mx, p_mn, q_mx, q_mn]; rfl) ?_
        refine wp_lv (lv1 := [(0, .ref 54), (1, .int (Int32.ofInt x1)), (2, .ref 35), (3, .ref y3), (4, .int (Int32.ofInt x4)), (5, .int (Int32.ofInt (x5 + 1)))]) (lsub_p [1, 2, 3, 4, 5, 0] rfl rfl rfl) ?_
        cases hx
        exact kn _ _ rfl h
      · have hx := ite_f h7 hx
        refine wp_g 1 (pc1 := 93) (lv1 := [(0, .ref 54), (1, .int (Int32.ofInt x1)), (2, .ref 35), (3, .ref y3), (4, .int (Int32.ofInt x4)), (5, .int (Int32.ofInt x5))]) (st1 := [.ref 54]) (w1 := w) rfl ?_
        refine wx_gr (o := 2) (kf := 17) (ln := 3) (ci := 2) (b := 1) (zz := 0) (x := 54) (by decide +kernel) h (hS _ _ sx_54) rfl ?_
        show wp _ 31 96 [(0, .ref 54), (1, .int (Int32.ofInt x1)), (2, .ref 35), (3, .ref y3), (4, .int (Int32.ofInt x4)), (5, .int (Int32.ofInt x5))] [.ref 56] w _
        refine wp_g 2 (pc1 := 99) (lv1 := [(0, .ref 54), (1, .int (Int32.ofInt x1)), (2, .ref 35), (3, .ref y3), (4, .int (Int32.ofInt x4)), (5, .int (Int32.ofInt x5))]) (st1 := [.int (Int32.ofInt x5), .int (Int32.ofInt x1), .ref 56]) (w1 := w) rfl ?_
        obtain ⟨i8, e9, hx⟩ := bd hx
        obtain ⟨s10, e11, hx⟩ := bd hx
        refine wx_wa (x := 56) (n := 8) (ln := 1) (a := 0) (b := 0) (zz := 0) (by decide +kernel) h (hS _ _ sx_56) e9 e11 (fun w12 h13 => ?_)
        refine wp_g 1 (pc1 := 101) (lv1 := [(0, .ref 54), (1, .int (Int32.ofInt x1)), (2, .ref 35), (3, .ref y3), (4, .int (Int32.ofInt x4)), (5, .int (Int32.ofInt x5))]) (st1 := [.ref 54]) (w1 := w12) rfl ?_
        refine wx_gr (o := 1) (kf := 11) (ln := 3) (ci := 2) (b := 0) (zz := 0) (x := 54) (by decide +kernel) h13 (hS _ _ sx_54) rfl ?_
        show wp _ 31 104 [(0, .ref 54), (1, .int (Int32.ofInt x1)), (2, .ref 35), (3, .ref y3), (4, .int (Int32.ofInt x4)), (5, .int (Int32.ofInt x5))] [.ref 55] w12 _
        refine wp_g 3 (pc1 := 107) (lv1 := [(0, .ref 54), (1, .int (Int32.ofInt x1)), (2, .ref 35), (3, .ref y3), (4, .int (Int32.ofInt x4)), (5, .int (Int32.ofInt x5))]) (st1 := [.int (Int32.ofInt (x1 + 1)), .ref 55]) (w1 := w12) (by simp only [Int32.ofInt_add, Int32.ofInt_sub, Int32.ofInt_mul, Int32.ofInt_neg, p_and, p_or, p_xor, p_shl, p_shr, p_usr, p_w8, p_c16, p_lI, q_and, q_or, q_shl, q_shr, q_w32, Int64.ofInt_add, Int64.ofInt_sub, Int64.ofInt_mul, p_mx, p_mn, q_mx, q_mn]; rfl) ?_
        obtain ⟨i14, e15, hx⟩ := bd hx
        refine wx_rr (x := 55) (n := 8) (ln := 1) (a := 0) (b := 0) (zz := 0) (by decide +kernel) h13 (hS _ _ sx_55) (by decide) e15 ?_
        obtain ⟨b16, e17, hx⟩ := bd hx
        rw [lvA_r e17]
        show wp _ 31 108 [(0, .ref 54), (1, .int (Int32.ofInt x1)), (2, .ref 35), (3, .ref y3), (4, .int (Int32.ofInt x4)), (5, .int (Int32.ofInt x5))] [.ref b16] w12 _
        refine wp_g 2 (pc1 := 111) (lv1 := [(0, .ref 54), (1, .int (Int32.ofInt x1)), (2, .ref 35), (3, .ref y3), (4, .int (Int32.ofInt x4)), (5, .int (Int32.ofInt x5))]) (st1 := [.int (Int32.ofInt x5), .ref y3, .ref b16]) (w1 := w12) rfl ?_
        obtain ⟨o18, e19, hx⟩ := bd hx
        refine wp_cl [.ref b16, .ref y3, .int (Int32.ofInt x5)] [] (i := .invokevirtual 52) (ln := 3) (a := 18) (b := 0) (z := 0) (by decide +kernel) rfl rfl (by decide) rfl (show (3 : Nat) = pm_na 18 by decide +kernel) (Nat.le_of_ble_eq_true rfl) (show (3 : Nat) ≤ pm_n 18 by decide +kernel) (rcv_x 0 h13 (lvA_c hS e17).1 (by decide +kernel)) (xl_lieFolded_ok (d := d + 1) hS (lvA_c hS e17) cy3 h13 e19 (fun w20 h21 => ?_))
        show wp _ 31 114 [(0, .ref 54), (1, .int (Int32.ofInt x1)), (2, .ref 35), (3, .ref y3), (4, .int (Int32.ofInt x4)), (5, .int (Int32.ofInt x5))] [] w20 _
        refine wp_g 5 (pc1 := 119) (lv1 := [(0, .ref 54), (1, .int (Int32.ofInt x1)), (2, .ref 35), (3, .ref y3), (4, .int (Int32.ofInt x4)), (5, .int (Int32.ofInt x5))]) (st1 := [.ref 35, .int (Int32.ofInt (x1 + 1)), .ref 54]) (w1 := w20) (by simp only [Int32.ofInt_add, Int32.ofInt_sub, Int32.ofInt_mul, Int32.ofInt_neg, p_and, p_or, p_xor, p_shl, p_shr, p_usr, p_w8, p_c16, p_lI, q_and, q_or, q_shl, q_shr, q_w32, Int64.ofInt_add, Int64.ofInt_sub, Int64.ofInt_mul, p_mx, p_mn, q_mx, q_mn]; rfl) ?_
        obtain ⟨o22, e23, hx⟩ := bd hx
        refine wp_cl [.ref 54, .int (Int32.ofInt (x1 + 1)), .ref 35] [] (i := .invokevirtual 33) (ln := 3) (a := 31) (b := 0) (z := 0) (by decide +kernel) rfl rfl (by decide) rfl (show (3 : Nat) = pm_na 31 by decide +kernel) (Nat.le_of_ble_eq_true rfl) (show (3 : Nat) ≤ pm_n 31 by decide +kernel) (rcv_x 2 h21 (hS _ _ sx_54) (by decide +kernel)) (hF31 _ _ (x1 + 1) _ _ h21 e23 (fun w24 h25 => ?_))
        show wp _ 31 122 [(0, .ref 54), (1, .int (Int32.ofInt x1)), (2, .ref 35), (3, .ref y3), (4, .int (Int32.ofInt x4)), (5, .int (Int32.ofInt x5))] [] w24 _
        refine wp_g 2 (pc1 := 68) (lv1 := [(5, .int (Int32.ofInt (x5 + 1))), (0, .ref 54), (1, .int (Int32.ofInt x1)), (2, .ref 35), (3, .ref y3), (4, .int (Int32.ofInt x4))]) (st1 := []) (w1 := w24) (by simp only [Int32.ofInt_add, Int32.ofInt_sub, Int32.ofInt_mul, Int32.ofInt_neg, p_and, p_or, p_xor, p_shl, p_shr, p_usr, p_w8, p_c16, p_lI, q_and, q_or, q_shl, q_shr, q_w32, Int64.ofInt_add, Int64.ofInt_sub, Int64.ofInt_mul, p_mx, p_mn, q_mx, q_mn]; rfl) ?_
        refine wp_lv (lv1 := [(0, .ref 54), (1, .int (Int32.ofInt x1)), (2, .ref 35), (3, .ref y3), (4, .int (Int32.ofInt x4)), (5, .int (Int32.ofInt (x5 + 1)))]) (lsub_p [1, 2, 3, 4, 5, 0] rfl rfl rfl) ?_
        cases hx
        exact kn _ _ rfl h25
noncomputable def xg_seekMarksFrom_j26 (F31 : Hp → Int → Option Hp) (s : Hp) (x1 : Int) : Option Hp :=
  (ix 8 x1).bind fun i1 => (lvA (s 55 i1) i1).bind fun b3 => (xl_hasMarks s b3).bind fun o5 => if w32 o5 = 0 then if w32 (x1 + 1) < w32 8 then (xl_foldCount s b3).bind fun o11 => (lp (fun (q : Int × Hp) => xg_seekMarksFrom_b68 F31 q.2 x1 b3 o11 q.1) (0, s)).bind fun q15 => some q15.2 else some s else (xg_keepRow s x1).bind fun o19 => some o19
set_option maxRecDepth 100000 in
theorem xg_seekMarksFrom_j26_ok {d : Nat} {P : Option Value → pm_H → Prop} {w : pm_H} {sh : Shp} {w0 : pm_H} {s : Hp} (hS : St sh) {F31 : Hp → Int → Option Hp} (hF31 : ∀ (w : pm_H) (s : Hp) (p1 : Int) (o : Hp) (P : Option Value → pm_H → Prop), Rw sh w0 s w → F31 s p1 = some o → (∀ w1, Rw sh w0 o w1 → P none w1) → wp (d + 8) 31 0 (lv_args 0 [.ref 54, .int (Int32.ofInt p1), .ref 35]) [] w P) {x1 : Int} (h : Rw sh w0 s w) {o : Hp} (hx : xg_seekMarksFrom_j26 F31 s x1 = some o) (kr : ∀ w1, Rw sh w0 o w1 → P none w1) : wp (d + 9) 31 26 [(0, .ref 54), (1, .int (Int32.ofInt x1)), (2, .ref 35)] [] w P := by
  unfold xg_seekMarksFrom_j26 at hx
  refine wp_g 1 (pc1 := 27) (lv1 := [(0, .ref 54), (1, .int (Int32.ofInt x1)), (2, .ref 35)]) (st1 := [.ref 54]) (w1 := w) rfl ?_
  refine wx_gr (o := 1) (kf := 11) (ln := 3) (ci := 2) (b := 0) (zz := 0) (x := 54) (by decide +kernel) h (hS _ _ sx_54) rfl ?_
  show wp _ 31 30 [(0, .ref 54), (1, .int (Int32.ofInt x1)), (2, .ref 35)] [.ref 55] w _
  refine wp_g 1 (pc1 := 31) (lv1 := [(0, .ref 54), (1, .int (Int32.ofInt x1)), (2, .ref 35)]) (st1 := [.int (Int32.ofInt x1), .ref 55]) (w1 := w) rfl ?_
  obtain ⟨i1, e2, hx⟩ := bd hx
  refine wx_rr (x := 55) (n := 8) (ln := 1) (a := 0) (b := 0) (zz := 0) (by decide +kernel) h (hS _ _ sx_55) (by decide) e2 ?_
  obtain ⟨b3, e4, hx⟩ := bd hx
  rw [lvA_r e4]
  show wp _ 31 32 [(0, .ref 54), (1, .int (Int32.ofInt x1)), (2, .ref 35)] [.ref b3] w _
  refine wp_g 3 (pc1 := 35) (lv1 := [(3, .ref b3), (0, .ref 54), (1, .int (Int32.ofInt x1)), (2, .ref 35)]) (st1 := [.ref 35, .ref b3]) (w1 := w) rfl ?_
  obtain ⟨o5, e6, hx⟩ := bd hx
  refine wp_cl [.ref b3, .ref 35] [] (i := .invokevirtual 37) (ln := 3) (a := 17) (b := 0) (z := 0) (by decide +kernel) rfl rfl (by decide) rfl (show (2 : Nat) = pm_na 17 by decide +kernel) (Nat.le_of_ble_eq_true rfl) (show (2 : Nat) ≤ pm_n 17 by decide +kernel) (rcv_x 0 h (lvA_c hS e4).1 (by decide +kernel)) (xl_hasMarks_ok (d := d + 8) hS (lvA_c hS e4) h e6 ?_)
  show wp _ 31 38 [(3, .ref b3), (0, .ref 54), (1, .int (Int32.ofInt x1)), (2, .ref 35)] [.int (Int32.ofInt o5)] w _
  refine wz_eq (oo := 9) (ln := 3) (a := 47) (b := 0) (zz := 0) (by decide +kernel) (fun h9 => ?_) (fun h9 => ?_)
  · have hx := ite_t h9 hx
    refine wp_g 4 (pc1 := 51) (lv1 := [(3, .ref b3), (0, .ref 54), (1, .int (Int32.ofInt x1)), (2, .ref 35)]) (st1 := [.ref 54, .int (Int32.ofInt (x1 + 1))]) (w1 := w) (by simp only [Int32.ofInt_add, Int32.ofInt_sub, Int32.ofInt_mul, Int32.ofInt_neg, p_and, p_or, p_xor, p_shl, p_shr, p_usr, p_w8, p_c16, p_lI, q_and, q_or, q_shl, q_shr, q_w32, Int64.ofInt_add, Int64.ofInt_sub, Int64.ofInt_mul, p_mx, p_mn, q_mx, q_mn]; rfl) ?_
    refine wx_gr (o := 1) (kf := 11) (ln := 3) (ci := 2) (b := 0) (zz := 0) (x := 54) (by decide +kernel) h (hS _ _ sx_54) rfl ?_
    show wp _ 31 54 [(3, .ref b3), (0, .ref 54), (1, .int (Int32.ofInt x1)), (2, .ref 35)] [.ref 55, .int (Int32.ofInt (x1 + 1))] w _
    refine wx_ln (n := 8) (t := 4) (ln := 1) (a := 0) (b := 0) (zz := 0) (by decide +kernel) h (hS _ _ sx_55) ?_
    show wp _ 31 55 [(3, .ref b3), (0, .ref 54), (1, .int (Int32.ofInt x1)), (2, .ref 35)] [.int (Int32.ofInt 8), .int (Int32.ofInt (x1 + 1))] w _
    refine wx_lt (oo := 4) (ln := 3) (a := 59) (b := 0) (zz := 0) (by decide +kernel) (fun h10 => ?_) (fun h10 => ?_)
    · have hx := ite_t h10 hx
      refine wp_g 1 (pc1 := 60) (lv1 := [(3, .ref b3), (0, .ref 54), (1, .int (Int32.ofInt x1)), (2, .ref 35)]) (st1 := [.ref b3]) (w1 := w) rfl ?_
      obtain ⟨o11, e12, hx⟩ := bd hx
      refine wp_cl [.ref b3] [] (i := .invokevirtual 44) (ln := 3) (a := 9) (b := 0) (z := 0) (by decide +kernel) rfl rfl (by decide) rfl (show (1 : Nat) = pm_na 9 by decide +kernel) (Nat.le_of_ble_eq_true rfl) (show (1 : Nat) ≤ pm_n 9 by decide +kernel) (rcv_x 0 h (lvA_c hS e4).1 (by decide +kernel)) (xl_foldCount_ok (d := d + 2) hS (lvA_c hS e4) h e12 ?_)
      show wp _ 31 63 [(3, .ref b3), (0, .ref 54), (1, .int (Int32.ofInt x1)), (2, .ref 35)] [.int (Int32.ofInt o11)] w _
      refine wp_g 3 (pc1 := 68) (lv1 := [(5, .int (Int32.ofInt 0)), (4, .int (Int32.ofInt o11)), (3, .ref b3), (0, .ref 54), (1, .int (Int32.ofInt x1)), (2, .ref 35)]) (st1 := []) (w1 := w) rfl ?_
      refine wp_lv (lv1 := [(0, .ref 54), (1, .int (Int32.ofInt x1)), (2, .ref 35), (3, .ref b3), (4, .int (Int32.ofInt o11)), (5, .int (Int32.ofInt 0))]) (lsub_p [3, 4, 5, 2, 1, 0] rfl rfl rfl) ?_
      obtain ⟨q15, e16, hx⟩ := bd hx
      refine wp_lp (σ := Int × Hp) (ρ := (Int × Hp)) (B := fun q => xg_seekMarksFrom_b68 F31 q.2 x1 b3 o11 q.1) (R := fun q w' => Rw sh w0 q.2 w') (C := fun r => ∀ w1, Rw sh w0 r.2 w1 → wp (d + 9) 31 128 [(0, .ref 54), (1, .int (Int32.ofInt x1)), (2, .ref 35), (3, .ref b3), (4, .int (Int32.ofInt o11)), (5, .int (Int32.ofInt r.1))] [] w1 P) (lv := fun q => [(0, .ref 54), (1, .int (Int32.ofInt x1)), (2, .ref 35), (3, .ref b3), (4, .int (Int32.ofInt o11)), (5, .int (Int32.ofInt q.1))]) (hd := 68) (fun q w' o hR hb kn kc => xg_seekMarksFrom_b68_ok hS hF31 (lvA_c hS e4) hR hb kn kc) _ _ _ e16 h ?_
      intro w17 h18
      show wp _ 31 128 [(0, .ref 54), (1, .int (Int32.ofInt x1)), (2, .ref 35), (3, .ref b3), (4, .int (Int32.ofInt o11)), (5, .int (Int32.ofInt q15.1))] [] w17 _
      refine wp_rt (i := .return_) (r := none) (ln := 1) (a := 0) (b := 0) (z := 0) (by decide +kernel) rfl (ret_v (by decide +kernel)) ?_
      cases hx
      exact kr _ h18
    · have hx := ite_f h10 hx
      refine wp_rt (i := .return_) (r := none) (ln := 1) (a := 0) (b := 0) (z := 0) (by decide +kernel) rfl (ret_v (by decide +kernel)) ?_
      cases hx
      exact kr _ h
  · have hx := ite_f h9 hx
    refine wp_g 2 (pc1 := 43) (lv1 := [(3, .ref b3), (0, .ref 54), (1, .int (Int32.ofInt x1)), (2, .ref 35)]) (st1 := [.int (Int32.ofInt x1), .ref 54]) (w1 := w) rfl ?_
    obtain ⟨o19, e20, hx⟩ := bd hx
    refine wp_cl [.ref 54, .int (Int32.ofInt x1)] [] (i := .invokevirtual 41) (ln := 3) (a := 32) (b := 0) (z := 0) (by decide +kernel) rfl rfl (by decide) rfl (show (2 : Nat) = pm_na 32 by decide +kernel) (Nat.le_of_ble_eq_true rfl) (show (2 : Nat) ≤ pm_n 32 by decide +kernel) (rcv_x 2 h (hS _ _ sx_54) (by decide +kernel)) (xg_keepRow_ok (d := d + 2) hS h e20 (fun w21 h22 => ?_))
    show wp _ 31 46 [(3, .ref b3), (0, .ref 54), (1, .int (Int32.ofInt x1)), (2, .ref 35)] [] w21 _
    refine wp_rt (i := .return_) (r := none) (ln := 1) (a := 0) (b := 0) (z := 0) (by decide +kernel) rfl (ret_v (by decide +kernel)) ?_
    cases hx
    exact kr _ h22
/-- FoldSearch.seekMarksFrom (I[I)V -/
noncomputable def xg_seekMarksFrom_b (F31 : Hp → Int → Option Hp) (s : Hp) (p1 : Int) : Option Hp :=
  if w32 p1 < w32 8 then if w32 (s 54 3) = w32 (-1) then xg_seekMarksFrom_j26 F31 s p1 else if w32 p1 < w32 (s 54 3) then xg_seekMarksFrom_j26 F31 s p1 else some s else some s
set_option maxRecDepth 100000 in
theorem xg_seekMarksFrom_b_ok {d : Nat} {P : Option Value → pm_H → Prop} {w : pm_H} {sh : Shp} {w0 : pm_H} {s : Hp} (hS : St sh) {F31 : Hp → Int → Option Hp} (hF31 : ∀ (w : pm_H) (s : Hp) (p1 : Int) (o : Hp) (P : Option Value → pm_H → Prop), Rw sh w0 s w → F31 s p1 = some o → (∀ w1, Rw sh w0 o w1 → P none w1) → wp (d + 8) 31 0 (lv_args 0 [.ref 54, .int (Int32.ofInt p1), .ref 35]) [] w P) {p1 : Int} (h : Rw sh w0 s w) {o : Hp} (hx : xg_seekMarksFrom_b F31 s p1 = some o) (kr : ∀ w1, Rw sh w0 o w1 → P none w1) : wp (d + 9) 31 0 (lv_args 0 [.ref 54, .int (Int32.ofInt p1), .ref 35]) [] w P := by
  show wp _ 31 0 [(0, .ref 54), (1, .int (Int32.ofInt p1)), (2, .ref 35)] [] w _
  unfold xg_seekMarksFrom_b at hx
  refine wp_g 2 (pc1 := 2) (lv1 := [(0, .ref 54), (1, .int (Int32.ofInt p1)), (2, .ref 35)]) (st1 := [.ref 54, .int (Int32.ofInt p1)]) (w1 := w) rfl ?_
  refine wx_gr (o := 1) (kf := 11) (ln := 3) (ci := 2) (b := 0) (zz := 0) (x := 54) (by decide +kernel) h (hS _ _ sx_54) rfl ?_
  show wp _ 31 5 [(0, .ref 54), (1, .int (Int32.ofInt p1)), (2, .ref 35)] [.ref 55, .int (Int32.ofInt p1)] w _
  refine wx_ln (n := 8) (t := 4) (ln := 1) (a := 0) (b := 0) (zz := 0) (by decide +kernel) h (hS _ _ sx_55) ?_
  show wp _ 31 6 [(0, .ref 54), (1, .int (Int32.ofInt p1)), (2, .ref 35)] [.int (Int32.ofInt 8), .int (Int32.ofInt p1)] w _
  refine wx_ge (oo := 19) (ln := 3) (a := 25) (b := 0) (zz := 0) (by decide +kernel) (fun h1 => ?_) (fun h1 => ?_)
  · have hx := ite_f h1 hx
    refine wp_rt (i := .return_) (r := none) (ln := 1) (a := 0) (b := 0) (z := 0) (by decide +kernel) rfl (ret_v (by decide +kernel)) ?_
    cases hx
    exact kr _ h
  · have hx := ite_t h1 hx
    refine wp_g 1 (pc1 := 10) (lv1 := [(0, .ref 54), (1, .int (Int32.ofInt p1)), (2, .ref 35)]) (st1 := [.ref 54]) (w1 := w) rfl ?_
    refine wx_gi (kf := 24) (ln := 3) (ci := 2) (b := 3) (zz := 0) (x := 54) (by decide +kernel) h (hS _ _ sx_54) rfl ?_
    show wp _ 31 13 [(0, .ref 54), (1, .int (Int32.ofInt p1)), (2, .ref 35)] [.int (Int32.ofInt (s 54 3))] w _
    refine wp_g 1 (pc1 := 14) (lv1 := [(0, .ref 54), (1, .int (Int32.ofInt p1)), (2, .ref 35)]) (st1 := [.int (Int32.ofInt (-1)), .int (Int32.ofInt (s 54 3))]) (w1 := w) rfl ?_
    refine wx_eq (oo := 12) (ln := 3) (a := 26) (b := 0) (zz := 0) (by decide +kernel) (fun h2 => ?_) (fun h2 => ?_)
    · have hx := ite_t h2 hx
      exact xg_seekMarksFrom_j26_ok hS hF31 h hx kr
    · have hx := ite_f h2 hx
      refine wp_g 2 (pc1 := 19) (lv1 := [(0, .ref 54), (1, .int (Int32.ofInt p1)), (2, .ref 35)]) (st1 := [.ref 54, .int (Int32.ofInt p1)]) (w1 := w) rfl ?_
      refine wx_gi (kf := 24) (ln := 3) (ci := 2) (b := 3) (zz := 0) (x := 54) (by decide +kernel) h (hS _ _ sx_54) rfl ?_
      show wp _ 31 22 [(0, .ref 54), (1, .int (Int32.ofInt p1)), (2, .ref 35)] [.int (Int32.ofInt (s 54 3)), .int (Int32.ofInt p1)] w _
      refine wx_lt (oo := 4) (ln := 3) (a := 26) (b := 0) (zz := 0) (by decide +kernel) (fun h3 => ?_) (fun h3 => ?_)
      · have hx := ite_t h3 hx
        exact xg_seekMarksFrom_j26_ok hS hF31 h hx kr
      · have hx := ite_f h3 hx
        refine wp_rt (i := .return_) (r := none) (ln := 1) (a := 0) (b := 0) (z := 0) (by decide +kernel) rfl (ret_v (by decide +kernel)) ?_
        cases hx
        exact kr _ h
noncomputable def RC31  : Nat → (Hp → Int → Option Hp)
  | 0 => fun _ _ => none
  | n + 1 => fun s p1 => xg_seekMarksFrom_b (RC31 n)  s p1
theorem RC31_ok {sh : Shp} {w0 : pm_H} (hS : St sh) : ∀ n d : Nat, (∀ (w : pm_H) (s : Hp) (p1 : Int) (o : Hp) (P : Option Value → pm_H → Prop), Rw sh w0 s w → (RC31 n) s p1 = some o → (∀ w1, Rw sh w0 o w1 → P none w1) → wp (d + 8 + n) 31 0 (lv_args 0 [.ref 54, .int (Int32.ofInt p1), .ref 35]) [] w P)
  | 0, d => fun w s p1 o P h hx kr => (by cases hx)
  | n + 1, d => by
    have ih := RC31_ok (w0 := w0) hS n d
    have e : d + 8 + n = d + n + 8 := by omega
    have e2 : d + 8 + (n + 1) = d + n + (8 + 1) := by omega
    rw [e] at ih
    rw [e2]
    exact fun w s p1 o P h hx kr => xg_seekMarksFrom_b_ok (d := d + n) hS ih h hx kr
/-- FoldSearch.seekMarksFrom (I[I)V -/
noncomputable def xg_seekMarksFrom (s : Hp) (p1 : Int) : Option Hp := (RC31 12) s p1
theorem xg_seekMarksFrom_ok {d : Nat} {P : Option Value → pm_H → Prop} {w : pm_H} {sh : Shp} {w0 : pm_H} {s : Hp} (hS : St sh) {p1 : Int} (h : Rw sh w0 s w) {o : Hp} (hx : xg_seekMarksFrom s p1 = some o) (kr : ∀ w1, Rw sh w0 o w1 → P none w1) : wp (d + 20) 31 0 (lv_args 0 [.ref 54, .int (Int32.ofInt p1), .ref 35]) [] w P := (RC31_ok hS 12 d) w s p1 _ P h hx kr
/-- FoldSearch.seekMarks (I[I)V -/
noncomputable def xg_seekMarks (s : Hp) (p1 : Int) : Option Hp :=
  (some (uh s 54 3 (-1))).bind fun s1 => (ix 8 0).bind fun i5 => (lvA (s1 55 i5) i5).bind fun b7 => (xl_beginFlat s1 b7 p1).bind fun o9 => (xg_seekMarksFrom o9 0).bind fun o13 => some o13
set_option maxRecDepth 100000 in
theorem xg_seekMarks_ok {d : Nat} {P : Option Value → pm_H → Prop} {w : pm_H} {sh : Shp} {w0 : pm_H} {s : Hp} (hS : St sh) {p1 : Int} (h : Rw sh w0 s w) {o : Hp} (hx : xg_seekMarks s p1 = some o) (kr : ∀ w1, Rw sh w0 o w1 → P none w1) : wp (d + 21) 30 0 (lv_args 0 [.ref 54, .int (Int32.ofInt p1), .ref 35]) [] w P := by
  show wp _ 30 0 [(0, .ref 54), (1, .int (Int32.ofInt p1)), (2, .ref 35)] [] w _
  unfold xg_seekMarks at hx
  refine wp_g 2 (pc1 := 2) (lv1 := [(0, .ref 54), (1, .int (Int32.ofInt p1)), (2, .ref 35)]) (st1 := [.int (Int32.ofInt (-1)), .ref 54]) (w1 := w) rfl ?_
  obtain ⟨s1, e2, hx⟩ := bd hx
  refine wx_pi (kf := 24) (ln := 3) (ci := 2) (b := 3) (zz := 0) (x := 54) (by decide +kernel) h (hS _ _ sx_54) rfl (by decide +kernel) e2 (fun w3 h4 => ?_)
  refine wp_g 1 (pc1 := 6) (lv1 := [(0, .ref 54), (1, .int (Int32.ofInt p1)), (2, .ref 35)]) (st1 := [.ref 54]) (w1 := w3) rfl ?_
  refine wx_gr (o := 1) (kf := 11) (ln := 3) (ci := 2) (b := 0) (zz := 0) (x := 54) (by decide +kernel) h4 (hS _ _ sx_54) rfl ?_
  show wp _ 30 9 [(0, .ref 54), (1, .int (Int32.ofInt p1)), (2, .ref 35)] [.ref 55] w3 _
  refine wp_g 1 (pc1 := 10) (lv1 := [(0, .ref 54), (1, .int (Int32.ofInt p1)), (2, .ref 35)]) (st1 := [.int (Int32.ofInt 0), .ref 55]) (w1 := w3) rfl ?_
  obtain ⟨i5, e6, hx⟩ := bd hx
  refine wx_rr (x := 55) (n := 8) (ln := 1) (a := 0) (b := 0) (zz := 0) (by decide +kernel) h4 (hS _ _ sx_55) (by decide) e6 ?_
  obtain ⟨b7, e8, hx⟩ := bd hx
  rw [lvA_r e8]
  show wp _ 30 11 [(0, .ref 54), (1, .int (Int32.ofInt p1)), (2, .ref 35)] [.ref b7] w3 _
  refine wp_g 1 (pc1 := 12) (lv1 := [(0, .ref 54), (1, .int (Int32.ofInt p1)), (2, .ref 35)]) (st1 := [.int (Int32.ofInt p1), .ref b7]) (w1 := w3) rfl ?_
  obtain ⟨o9, e10, hx⟩ := bd hx
  refine wp_cl [.ref b7, .int (Int32.ofInt p1)] [] (i := .invokevirtual 29) (ln := 3) (a := 2) (b := 0) (z := 0) (by decide +kernel) rfl rfl (by decide) rfl (show (2 : Nat) = pm_na 2 by decide +kernel) (Nat.le_of_ble_eq_true rfl) (show (2 : Nat) ≤ pm_n 2 by decide +kernel) (rcv_x 0 h4 (lvA_c hS e8).1 (by decide +kernel)) (xl_beginFlat_ok (d := d + 19) hS (lvA_c hS e8) h4 e10 (fun w11 h12 => ?_))
  show wp _ 30 15 [(0, .ref 54), (1, .int (Int32.ofInt p1)), (2, .ref 35)] [] w11 _
  refine wp_g 3 (pc1 := 18) (lv1 := [(0, .ref 54), (1, .int (Int32.ofInt p1)), (2, .ref 35)]) (st1 := [.ref 35, .int (Int32.ofInt 0), .ref 54]) (w1 := w11) rfl ?_
  obtain ⟨o13, e14, hx⟩ := bd hx
  refine wp_cl [.ref 54, .int (Int32.ofInt 0), .ref 35] [] (i := .invokevirtual 33) (ln := 3) (a := 31) (b := 0) (z := 0) (by decide +kernel) rfl rfl (by decide) rfl (show (3 : Nat) = pm_na 31 by decide +kernel) (Nat.le_of_ble_eq_true rfl) (show (3 : Nat) ≤ pm_n 31 by decide +kernel) (rcv_x 2 h12 (hS _ _ sx_54) (by decide +kernel)) (xg_seekMarksFrom_ok (d := d) hS h12 e14 (fun w15 h16 => ?_))
  show wp _ 30 21 [(0, .ref 54), (1, .int (Int32.ofInt p1)), (2, .ref 35)] [] w15 _
  refine wp_rt (i := .return_) (r := none) (ln := 1) (a := 0) (b := 0) (z := 0) (by decide +kernel) rfl (ret_v (by decide +kernel)) ?_
  cases hx
  exact kr _ h16
noncomputable def xg_ownsBy_b52_j83 (F34 : Hp → Int → Int → Int → Int → Int → Option (Int × Hp)) (ln : Nat → Nat) (rs : Nat → Int) (s : Hp) (u2 : Int) (x3 : Int) (x4 : Int) (x5 : Int) (x6 : Int) (y7 : Nat) (x8 : Int) (x9 : Int) (x10 : Int) : Option ((Int × Hp) ⊕ ((Int × Hp) ⊕ (Int × Hp))) :=
  (xk_quote ln rs s y7 u2 x3 x10).bind fun o1 => if w32 o1.1 = w32 (-2) then some (.inl (x10 + 1, o1.2)) else (ix 4 x3).bind fun i6 => if w32 (o1.2 (y7 + 8) i6) < w32 o1.1 then some (.inl (x10 + 1, o1.2)) else (ix 8 x5).bind fun i9 => (some (uh o1.2 56 i9 x10)).bind fun s11 => if w32 x6 = w32 1 then some (.inr (.inr (1, s11))) else (ix 8 (x5 + 1)).bind fun i16 => (lvA (s11 55 i16) i16).bind fun b18 => (xl_copyFrom s11 b18 y7).bind fun o20 => (lvA (o20 55 i16) i16).bind fun b24 => (xk_settle o20 b24 x3 x10).bind fun o26 => (F34 o26 u2 x3 x4 (x5 + 1) (x6 - 1)).bind fun o30 => if w32 o30.1 = 0 then some (.inl (x10 + 1, o30.2)) else some (.inr (.inr (1, o30.2)))
set_option maxRecDepth 100000 in
theorem xg_ownsBy_b52_j83_ok {d : Nat} {P : Option Value → pm_H → Prop} {w : pm_H} {sh : Shp} {w0 : pm_H} {s : Hp} (hS : St sh) {ln : Nat → Nat} {rs : Nat → Int} (hG : ∀ i, okR ln sh (rs i)) {u2 : Int} (hu2 : okR ln sh u2) {F34 : Hp → Int → Int → Int → Int → Int → Option (Int × Hp)} (hF34 : ∀ (w : pm_H) (s : Hp) (u2 : Int) (p3 : Int) (p4 : Int) (p5 : Int) (p6 : Int) (o : Int × Hp) (P : Option Value → pm_H → Prop), Rw sh w0 s w → okR ln sh u2 → F34 s u2 p3 p4 p5 p6 = some o → (∀ w1, Rw sh w0 o.2 w1 → P (some (.int (Int32.ofInt o.1))) w1) → wp (d + 9) 34 0 (lv_args 0 [.ref 54, .ref 41, vR u2, .int (Int32.ofInt p3), .int (Int32.ofInt p4), .int (Int32.ofInt p5), .int (Int32.ofInt p6)]) [] w P) {x3 : Int} {x4 : Int} {x5 : Int} {x6 : Int} {y7 ry7 : Nat} (cy7 : okC ry7 sh y7) {x8 : Int} {x9 : Int} {x10 : Int} (h : Rw sh w0 s w) {o : ((Int × Hp) ⊕ ((Int × Hp) ⊕ (Int × Hp)))} (hx : xg_ownsBy_b52_j83 F34 ln rs s u2 x3 x4 x5 x6 y7 x8 x9 x10 = some o) (kn : ∀ (q : Int × Hp) w1, o = .inl q → Rw sh w0 q.2 w1 → wp (d + 10) 34 52 [(0, .ref 54), (1, .ref 41), (2, vR u2), (3, .int (Int32.ofInt x3)), (4, .int (Int32.ofInt x4)), (5, .int (Int32.ofInt x5)), (6, .int (Int32.ofInt x6)), (7, .ref y7), (8, .int (Int32.ofInt x8)), (9, .int (Int32.ofInt x9)), (10, .int (Int32.ofInt q.1))] [] w1 P) (kc : ∀ (r : ((Int × Hp) ⊕ (Int × Hp))), o = .inr r → ((∀ q1 w1, r = .inl q1 → Rw sh w0 q1.2 w1 → wp (d + 10) 34 192 [(0, .ref 54), (1, .ref 41), (2, vR u2), (3, .int (Int32.ofInt x3)), (4, .int (Int32.ofInt x4)), (5, .int (Int32.ofInt x5)), (6, .int (Int32.ofInt x6)), (7, .ref y7), (8, .int (Int32.ofInt x8)), (9, .int (Int32.ofInt x9)), (10, .int (Int32.ofInt q1.1))] [] w1 P) ∧ (∀ v1 w1, r = .inr v1 → Rw sh w0 v1.2 w1 → P (some (.int (Int32.ofInt v1.1))) w1))) : wp (d + 10) 34 83 [(0, .ref 54), (1, .ref 41), (2, vR u2), (3, .int (Int32.ofInt x3)), (4, .int (Int32.ofInt x4)), (5, .int (Int32.ofInt x5)), (6, .int (Int32.ofInt x6)), (7, .ref y7), (8, .int (Int32.ofInt x8)), (9, .int (Int32.ofInt x9)), (10, .int (Int32.ofInt x10))] [] w P := by
  unfold xg_ownsBy_b52_j83 at hx
  refine wp_g 5 (pc1 := 90) (lv1 := [(0, .ref 54), (1, .ref 41), (2, vR u2), (3, .int (Int32.ofInt x3)), (4, .int (Int32.ofInt x4)), (5, .int (Int32.ofInt x5)), (6, .int (Int32.ofInt x6)), (7, .ref y7), (8, .int (Int32.ofInt x8)), (9, .int (Int32.ofInt x9)), (10, .int (Int32.ofInt x10))]) (st1 := [.int (Int32.ofInt x10), .int (Int32.ofInt x3), vR u2, .ref y7, .ref 41]) (w1 := w) (by rcases vR_c u2 with e | ⟨_, e⟩ <;> simp only [e] <;> rfl) ?_
  obtain ⟨o1, e2, hx⟩ := bd hx
  refine wp_cl [.ref 41, .ref y7, vR u2, .int (Int32.ofInt x3), .int (Int32.ofInt x10)] [] (i := .invokevirtual 77) (ln := 3) (a := 36) (b := 0) (z := 0) (by decide +kernel) rfl rfl (by decide) rfl (show (5 : Nat) = pm_na 36 by decide +kernel) (Nat.le_of_ble_eq_true rfl) (by rcases vR_c u2 with e | ⟨_, e⟩ <;> simp only [e] <;> exact (show (5 : Nat) ≤ pm_n 36 by decide +kernel)) (rcv_x 3 h (hS _ _ sx_41) (by decide +kernel)) (xk_quote_ok (d := d + 2) hS hG cy7 hu2 h e2 (fun w3 h4 => ?_))
  show wp _ 34 93 [(0, .ref 54), (1, .ref 41), (2, vR u2), (3, .int (Int32.ofInt x3)), (4, .int (Int32.ofInt x4)), (5, .int (Int32.ofInt x5)), (6, .int (Int32.ofInt x6)), (7, .ref y7), (8, .int (Int32.ofInt x8)), (9, .int (Int32.ofInt x9)), (10, .int (Int32.ofInt x10))] [.int (Int32.ofInt o1.1)] w3 _
  refine wp_g 3 (pc1 := 99) (lv1 := [(11, .int (Int32.ofInt o1.1)), (0, .ref 54), (1, .ref 41), (2, vR u2), (3, .int (Int32.ofInt x3)), (4, .int (Int32.ofInt x4)), (5, .int (Int32.ofInt x5)), (6, .int (Int32.ofInt x6)), (7, .ref y7), (8, .int (Int32.ofInt x8)), (9, .int (Int32.ofInt x9)), (10, .int (Int32.ofInt x10))]) (st1 := [.int (Int32.ofInt (-2)), .int (Int32.ofInt o1.1)]) (w1 := w3) (by rcases vR_c u2 with e | ⟨_, e⟩ <;> simp only [e] <;> rfl) ?_
  refine wx_eq (oo := 87) (ln := 3) (a := 186) (b := 0) (zz := 0) (by decide +kernel) (fun h5 => ?_) (fun h5 => ?_)
  · have hx := ite_t h5 hx
    refine wp_g 2 (pc1 := 52) (lv1 := [(10, .int (Int32.ofInt (x10 + 1))), (11, .int (Int32.ofInt o1.1)), (0, .ref 54), (1, .ref 41), (2, vR u2), (3, .int (Int32.ofInt x3)), (4, .int (Int32.ofInt x4)), (5, .int (Int32.ofInt x5)), (6, .int (Int32.ofInt x6)), (7, .ref y7), (8, .int (Int32.ofInt x8)), (9, .int (Int32.ofInt x9))]) (st1 := []) (w1 := w3) (by simp only [Int32.ofInt_add, Int32.ofInt_sub, Int32.ofInt_mul, Int32.ofInt_neg, p_and, p_or, p_xor, p_shl, p_shr, p_usr, p_w8, p_c16, p_lI, q_and, q_or, q_shl, q_shr, q_w32, Int64.ofInt_add, Int64.ofInt_sub, Int64.ofInt_mul, p_mx, p_mn, q_mx, q_mn]; rcases vR_c u2 with e | ⟨_, e⟩ <;> simp only [e] <;> rfl) ?_
    refine wp_lv (lv1 := [(0, .ref 54), (1, .ref 41), (2, vR u2), (3, .int (Int32.ofInt x3)), (4, .int (Int32.ofInt x4)), (5, .int (Int32.ofInt x5)), (6, .int (Int32.ofInt x6)), (7, .ref y7), (8, .int (Int32.ofInt x8)), (9, .int (Int32.ofInt x9)), (10, .int (Int32.ofInt (x10 + 1)))]) (lsub_p [2, 3, 4, 5, 6, 7, 8, 9, 10, 11, 0] rfl rfl rfl) ?_
    cases hx
    exact kn _ _ rfl h4
  · have hx := ite_f h5 hx
    refine wp_g 2 (pc1 := 106) (lv1 := [(11, .int (Int32.ofInt o1.1)), (0, .ref 54), (1, .ref 41), (2, vR u2), (3, .int (Int32.ofInt x3)), (4, .int (Int32.ofInt x4)), (5, .int (Int32.ofInt x5)), (6, .int (Int32.ofInt x6)), (7, .ref y7), (8, .int (Int32.ofInt x8)), (9, .int (Int32.ofInt x9)), (10, .int (Int32.ofInt x10))]) (st1 := [.ref y7, .int (Int32.ofInt o1.1)]) (w1 := w3) (by rcases vR_c u2 with e | ⟨_, e⟩ <;> simp only [e] <;> rfl) ?_
    refine wx_gr (o := 8) (kf := 83) (ln := 3) (ci := 0) (b := 11) (zz := 0) (x := y7) (by decide +kernel) h4 cy7.1 rfl ?_
    show wp _ 34 109 [(11, .int (Int32.ofInt o1.1)), (0, .ref 54), (1, .ref 41), (2, vR u2), (3, .int (Int32.ofInt x3)), (4, .int (Int32.ofInt x4)), (5, .int (Int32.ofInt x5)), (6, .int (Int32.ofInt x6)), (7, .ref y7), (8, .int (Int32.ofInt x8)), (9, .int (Int32.ofInt x9)), (10, .int (Int32.ofInt x10))] [.ref (y7 + 8), .int (Int32.ofInt o1.1)] w3 _
    refine wp_g 1 (pc1 := 110) (lv1 := [(11, .int (Int32.ofInt o1.1)), (0, .ref 54), (1, .ref 41), (2, vR u2), (3, .int (Int32.ofInt x3)), (4, .int (Int32.ofInt x4)), (5, .int (Int32.ofInt x5)), (6, .int (Int32.ofInt x6)), (7, .ref y7), (8, .int (Int32.ofInt x8)), (9, .int (Int32.ofInt x9)), (10, .int (Int32.ofInt x10))]) (st1 := [.int (Int32.ofInt x3), .ref (y7 + 8), .int (Int32.ofInt o1.1)]) (w1 := w3) (by rcases vR_c u2 with e | ⟨_, e⟩ <;> simp only [e] <;> rfl) ?_
    obtain ⟨i6, e7, hx⟩ := bd hx
    refine wx_ra (x := (y7 + 8)) (n := 4) (ln := 1) (a := 0) (b := 0) (zz := 0) (by decide +kernel) h4 cy7.2.2 e7 ?_
    show wp _ 34 111 [(11, .int (Int32.ofInt o1.1)), (0, .ref 54), (1, .ref 41), (2, vR u2), (3, .int (Int32.ofInt x3)), (4, .int (Int32.ofInt x4)), (5, .int (Int32.ofInt x5)), (6, .int (Int32.ofInt x6)), (7, .ref y7), (8, .int (Int32.ofInt x8)), (9, .int (Int32.ofInt x9)), (10, .int (Int32.ofInt x10))] [.int (Int32.ofInt (o1.2 (y7 + 8) i6)), .int (Int32.ofInt o1.1)] w3 _
    refine wx_le (oo := 6) (ln := 3) (a := 117) (b := 0) (zz := 0) (by decide +kernel) (fun h8 => ?_) (fun h8 => ?_)
    · have hx := ite_f h8 hx
      refine wp_g 1 (pc1 := 118) (lv1 := [(11, .int (Int32.ofInt o1.1)), (0, .ref 54), (1, .ref 41), (2, vR u2), (3, .int (Int32.ofInt x3)), (4, .int (Int32.ofInt x4)), (5, .int (Int32.ofInt x5)), (6, .int (Int32.ofInt x6)), (7, .ref y7), (8, .int (Int32.ofInt x8)), (9, .int (Int32.ofInt x9)), (10, .int (Int32.ofInt x10))]) (st1 := [.ref 54]) (w1 := w3) (by rcases vR_c u2 with e | ⟨_, e⟩ <;> simp only [e] <;> rfl) ?_
      refine wx_gr (o := 2) (kf := 17) (ln := 3) (ci := 2) (b := 1) (zz := 0) (x := 54) (by decide +kernel) h4 (hS _ _ sx_54) rfl ?_
      show wp _ 34 121 [(11, .int (Int32.ofInt o1.1)), (0, .ref 54), (1, .ref 41), (2, vR u2), (3, .int (Int32.ofInt x3)), (4, .int (Int32.ofInt x4)), (5, .int (Int32.ofInt x5)), (6, .int (Int32.ofInt x6)), (7, .ref y7), (8, .int (Int32.ofInt x8)), (9, .int (Int32.ofInt x9)), (10, .int (Int32.ofInt x10))] [.ref 56] w3 _
      refine wp_g 2 (pc1 := 125) (lv1 := [(11, .int (Int32.ofInt o1.1)), (0, .ref 54), (1, .ref 41), (2, vR u2), (3, .int (Int32.ofInt x3)), (4, .int (Int32.ofInt x4)), (5, .int (Int32.ofInt x5)), (6, .int (Int32.ofInt x6)), (7, .ref y7), (8, .int (Int32.ofInt x8)), (9, .int (Int32.ofInt x9)), (10, .int (Int32.ofInt x10))]) (st1 := [.int (Int32.ofInt x10), .int (Int32.ofInt x5), .ref 56]) (w1 := w3) (by rcases vR_c u2 with e | ⟨_, e⟩ <;> simp only [e] <;> rfl) ?_
      obtain ⟨i9, e10, hx⟩ := bd hx
      obtain ⟨s11, e12, hx⟩ := bd hx
      refine wx_wa (x := 56) (n := 8) (ln := 1) (a := 0) (b := 0) (zz := 0) (by decide +kernel) h4 (hS _ _ sx_56) e10 e12 (fun w13 h14 => ?_)
      refine wp_g 2 (pc1 := 129) (lv1 := [(11, .int (Int32.ofInt o1.1)), (0, .ref 54), (1, .ref 41), (2, vR u2), (3, .int (Int32.ofInt x3)), (4, .int (Int32.ofInt x4)), (5, .int (Int32.ofInt x5)), (6, .int (Int32.ofInt x6)), (7, .ref y7), (8, .int (Int32.ofInt x8)), (9, .int (Int32.ofInt x9)), (10, .int (Int32.ofInt x10))]) (st1 := [.int (Int32.ofInt 1), .int (Int32.ofInt x6)]) (w1 := w13) (by rcases vR_c u2 with e | ⟨_, e⟩ <;> simp only [e] <;> rfl) ?_
      refine wx_ne (oo := 5) (ln := 3) (a := 134) (b := 0) (zz := 0) (by decide +kernel) (fun h15 => ?_) (fun h15 => ?_)
      · have hx := ite_f h15 hx
        refine wp_g 1 (pc1 := 135) (lv1 := [(11, .int (Int32.ofInt o1.1)), (0, .ref 54), (1, .ref 41), (2, vR u2), (3, .int (Int32.ofInt x3)), (4, .int (Int32.ofInt x4)), (5, .int (Int32.ofInt x5)), (6, .int (Int32.ofInt x6)), (7, .ref y7), (8, .int (Int32.ofInt x8)), (9, .int (Int32.ofInt x9)), (10, .int (Int32.ofInt x10))]) (st1 := [.ref 54]) (w1 := w13) (by rcases vR_c u2 with e | ⟨_, e⟩ <;> simp only [e] <;> rfl) ?_
        refine wx_gr (o := 1) (kf := 11) (ln := 3) (ci := 2) (b := 0) (zz := 0) (x := 54) (by decide +kernel) h14 (hS _ _ sx_54) rfl ?_
        show wp _ 34 138 [(11, .int (Int32.ofInt o1.1)), (0, .ref 54), (1, .ref 41), (2, vR u2), (3, .int (Int32.ofInt x3)), (4, .int (Int32.ofInt x4)), (5, .int (Int32.ofInt x5)), (6, .int (Int32.ofInt x6)), (7, .ref y7), (8, .int (Int32.ofInt x8)), (9, .int (Int32.ofInt x9)), (10, .int (Int32.ofInt x10))] [.ref 55] w13 _
        refine wp_g 3 (pc1 := 142) (lv1 := [(11, .int (Int32.ofInt o1.1)), (0, .ref 54), (1, .ref 41), (2, vR u2), (3, .int (Int32.ofInt x3)), (4, .int (Int32.ofInt x4)), (5, .int (Int32.ofInt x5)), (6, .int (Int32.ofInt x6)), (7, .ref y7), (8, .int (Int32.ofInt x8)), (9, .int (Int32.ofInt x9)), (10, .int (Int32.ofInt x10))]) (st1 := [.int (Int32.ofInt (x5 + 1)), .ref 55]) (w1 := w13) (by simp only [Int32.ofInt_add, Int32.ofInt_sub, Int32.ofInt_mul, Int32.ofInt_neg, p_and, p_or, p_xor, p_shl, p_shr, p_usr, p_w8, p_c16, p_lI, q_and, q_or, q_shl, q_shr, q_w32, Int64.ofInt_add, Int64.ofInt_sub, Int64.ofInt_mul, p_mx, p_mn, q_mx, q_mn]; rcases vR_c u2 with e | ⟨_, e⟩ <;> simp only [e] <;> rfl) ?_
        obtain ⟨i16, e17, hx⟩ := bd hx
        refine wx_rr (x := 55) (n := 8) (ln := 1) (a := 0) (b := 0) (zz := 0) (by decide +kernel) h14 (hS _ _ sx_55) (by decide) e17 ?_
        obtain ⟨b18, e19, hx⟩ := bd hx
        rw [lvA_r e19]
        show wp _ 34 143 [(11, .int (Int32.ofInt o1.1)), (0, .ref 54), (1, .ref 41), (2, vR u2), (3, .int (Int32.ofInt x3)), (4, .int (Int32.ofInt x4)), (5, .int (Int32.ofInt x5)), (6, .int (Int32.ofInt x6)), (7, .ref y7), (8, .int (Int32.ofInt x8)), (9, .int (Int32.ofInt x9)), (10, .int (Int32.ofInt x10))] [.ref b18] w13 _
        refine wp_g 1 (pc1 := 145) (lv1 := [(11, .int (Int32.ofInt o1.1)), (0, .ref 54), (1, .ref 41), (2, vR u2), (3, .int (Int32.ofInt x3)), (4, .int (Int32.ofInt x4)), (5, .int (Int32.ofInt x5)), (6, .int (Int32.ofInt x6)), (7, .ref y7), (8, .int (Int32.ofInt x8)), (9, .int (Int32.ofInt x9)), (10, .int (Int32.ofInt x10))]) (st1 := [.ref y7, .ref b18]) (w1 := w13) (by rcases vR_c u2 with e | ⟨_, e⟩ <;> simp only [e] <;> rfl) ?_
        obtain ⟨o20, e21, hx⟩ := bd hx
        refine wp_cl [.ref b18, .ref y7] [] (i := .invokevirtual 62) (ln := 3) (a := 1) (b := 0) (z := 0) (by decide +kernel) rfl rfl (by decide) rfl (show (2 : Nat) = pm_na 1 by decide +kernel) (Nat.le_of_ble_eq_true rfl) (show (2 : Nat) ≤ pm_n 1 by decide +kernel) (rcv_x 0 h14 (lvA_c hS e19).1 (by decide +kernel)) (xl_copyFrom_ok (d := d + 3) hS (lvA_c hS e19) cy7 h14 e21 (fun w22 h23 => ?_))
        show wp _ 34 148 [(11, .int (Int32.ofInt o1.1)), (0, .ref 54), (1, .ref 41), (2, vR u2), (3, .int (Int32.ofInt x3)), (4, .int (Int32.ofInt x4)), (5, .int (Int32.ofInt x5)), (6, .int (Int32.ofInt x6)), (7, .ref y7), (8, .int (Int32.ofInt x8)), (9, .int (Int32.ofInt x9)), (10, .int (Int32.ofInt x10))] [] w22 _
        refine wp_g 2 (pc1 := 150) (lv1 := [(11, .int (Int32.ofInt o1.1)), (0, .ref 54), (1, .ref 41), (2, vR u2), (3, .int (Int32.ofInt x3)), (4, .int (Int32.ofInt x4)), (5, .int (Int32.ofInt x5)), (6, .int (Int32.ofInt x6)), (7, .ref y7), (8, .int (Int32.ofInt x8)), (9, .int (Int32.ofInt x9)), (10, .int (Int32.ofInt x10))]) (st1 := [.ref 54, .ref 41]) (w1 := w22) (by rcases vR_c u2 with e | ⟨_, e⟩ <;> simp only [e] <;> rfl) ?_
        refine wx_gr (o := 1) (kf := 11) (ln := 3) (ci := 2) (b := 0) (zz := 0) (x := 54) (by decide +kernel) h23 (hS _ _ sx_54) rfl ?_
        show wp _ 34 153 [(11, .int (Int32.ofInt o1.1)), (0, .ref 54), (1, .ref 41), (2, vR u2), (3, .int (Int32.ofInt x3)), (4, .int (Int32.ofInt x4)), (5, .int (Int32.ofInt x5)), (6, .int (Int32.ofInt x6)), (7, .ref y7), (8, .int (Int32.ofInt x8)), (9, .int (Int32.ofInt x9)), (10, .int (Int32.ofInt x10))] [.ref 55, .ref 41] w22 _
        refine wp_g 3 (pc1 := 157) (lv1 := [(11, .int (Int32.ofInt o1.1)), (0, .ref 54), (1, .ref 41), (2, vR u2), (3, .int (Int32.ofInt x3)), (4, .int (Int32.ofInt x4)), (5, .int (Int32.ofInt x5)), (6, .int (Int32.ofInt x6)), (7, .ref y7), (8, .int (Int32.ofInt x8)), (9, .int (Int32.ofInt x9)), (10, .int (Int32.ofInt x10))]) (st1 := [.int (Int32.ofInt (x5 + 1)), .ref 55, .ref 41]) (w1 := w22) (by simp only [Int32.ofInt_add, Int32.ofInt_sub, Int32.ofInt_mul, Int32.ofInt_neg, p_and, p_or, p_xor, p_shl, p_shr, p_usr, p_w8, p_c16, p_lI, q_and, q_or, q_shl, q_shr, q_w32, Int64.ofInt_add, Int64.ofInt_sub, Int64.ofInt_mul, p_mx, p_mn, q_mx, q_mn]; rcases vR_c u2 with e | ⟨_, e⟩ <;> simp only [e] <;> rfl) ?_
        refine wx_rr (x := 55) (n := 8) (ln := 1) (a := 0) (b := 0) (zz := 0) (by decide +kernel) h23 (hS _ _ sx_55) (by decide) e17 ?_
        obtain ⟨b24, e25, hx⟩ := bd hx
        rw [lvA_r e25]
        show wp _ 34 158 [(11, .int (Int32.ofInt o1.1)), (0, .ref 54), (1, .ref 41), (2, vR u2), (3, .int (Int32.ofInt x3)), (4, .int (Int32.ofInt x4)), (5, .int (Int32.ofInt x5)), (6, .int (Int32.ofInt x6)), (7, .ref y7), (8, .int (Int32.ofInt x8)), (9, .int (Int32.ofInt x9)), (10, .int (Int32.ofInt x10))] [.ref b24, .ref 41] w22 _
        refine wp_g 2 (pc1 := 161) (lv1 := [(11, .int (Int32.ofInt o1.1)), (0, .ref 54), (1, .ref 41), (2, vR u2), (3, .int (Int32.ofInt x3)), (4, .int (Int32.ofInt x4)), (5, .int (Int32.ofInt x5)), (6, .int (Int32.ofInt x6)), (7, .ref y7), (8, .int (Int32.ofInt x8)), (9, .int (Int32.ofInt x9)), (10, .int (Int32.ofInt x10))]) (st1 := [.int (Int32.ofInt x10), .int (Int32.ofInt x3), .ref b24, .ref 41]) (w1 := w22) (by rcases vR_c u2 with e | ⟨_, e⟩ <;> simp only [e] <;> rfl) ?_
        obtain ⟨o26, e27, hx⟩ := bd hx
        refine wp_cl [.ref 41, .ref b24, .int (Int32.ofInt x3), .int (Int32.ofInt x10)] [] (i := .invokevirtual 86) (ln := 3) (a := 38) (b := 0) (z := 0) (by decide +kernel) rfl rfl (by decide) rfl (show (4 : Nat) = pm_na 38 by decide +kernel) (Nat.le_of_ble_eq_true rfl) (show (4 : Nat) ≤ pm_n 38 by decide +kernel) (rcv_x 3 h23 (hS _ _ sx_41) (by decide +kernel)) (xk_settle_ok (d := d + 1) hS (lvA_c hS e25) h23 e27 (fun w28 h29 => ?_))
        show wp _ 34 164 [(11, .int (Int32.ofInt o1.1)), (0, .ref 54), (1, .ref 41), (2, vR u2), (3, .int (Int32.ofInt x3)), (4, .int (Int32.ofInt x4)), (5, .int (Int32.ofInt x5)), (6, .int (Int32.ofInt x6)), (7, .ref y7), (8, .int (Int32.ofInt x8)), (9, .int (Int32.ofInt x9)), (10, .int (Int32.ofInt x10))] [] w28 _
        refine wp_g 11 (pc1 := 178) (lv1 := [(11, .int (Int32.ofInt o1.1)), (0, .ref 54), (1, .ref 41), (2, vR u2), (3, .int (Int32.ofInt x3)), (4, .int (Int32.ofInt x4)), (5, .int (Int32.ofInt x5)), (6, .int (Int32.ofInt x6)), (7, .ref y7), (8, .int (Int32.ofInt x8)), (9, .int (Int32.ofInt x9)), (10, .int (Int32.ofInt x10))]) (st1 := [.int (Int32.ofInt (x6 - 1)), .int (Int32.ofInt (x5 + 1)), .int (Int32.ofInt x4), .int (Int32.ofInt x3), vR u2, .ref 41, .ref 54]) (w1 := w28) (by simp only [Int32.ofInt_add, Int32.ofInt_sub, Int32.ofInt_mul, Int32.ofInt_neg, p_and, p_or, p_xor, p_shl, p_shr, p_usr, p_w8, p_c16, p_lI, q_and, q_or, q_shl, q_shr, q_w32, Int64.ofInt_add, Int64.ofInt_sub, Int64.ofInt_mul, p_mx, p_mn, q_mx, q_mn]; rcases vR_c u2 with e | ⟨_, e⟩ <;> simp only [e] <;> rfl) ?_
        obtain ⟨o30, e31, hx⟩ := bd hx
        refine wp_cl [.ref 54, .ref 41, vR u2, .int (Int32.ofInt x3), .int (Int32.ofInt x4), .int (Int32.ofInt (x5 + 1)), .int (Int32.ofInt (x6 - 1))] [] (i := .invokevirtual 70) (ln := 3) (a := 34) (b := 0) (z := 0) (by decide +kernel) rfl rfl (by decide) rfl (show (7 : Nat) = pm_na 34 by decide +kernel) (Nat.le_of_ble_eq_true rfl) (by rcases vR_c u2 with e | ⟨_, e⟩ <;> simp only [e] <;> exact (show (7 : Nat) ≤ pm_n 34 by decide +kernel)) (rcv_x 2 h29 (hS _ _ sx_54) (by decide +kernel)) (hF34 _ _ u2 x3 x4 (x5 + 1) (x6 - 1) _ _ h29 hu2 e31 (fun w32 h33 => ?_))
        show wp _ 34 181 [(11, .int (Int32.ofInt o1.1)), (0, .ref 54), (1, .ref 41), (2, vR u2), (3, .int (Int32.ofInt x3)), (4, .int (Int32.ofInt x4)), (5, .int (Int32.ofInt x5)), (6, .int (Int32.ofInt x6)), (7, .ref y7), (8, .int (Int32.ofInt x8)), (9, .int (Int32.ofInt x9)), (10, .int (Int32.ofInt x10))] [.int (Int32.ofInt o30.1)] w32 _
        refine wz_eq (oo := 5) (ln := 3) (a := 186) (b := 0) (zz := 0) (by decide +kernel) (fun h34 => ?_) (fun h34 => ?_)
        · have hx := ite_t h34 hx
          refine wp_g 2 (pc1 := 52) (lv1 := [(10, .int (Int32.ofInt (x10 + 1))), (11, .int (Int32.ofInt o1.1)), (0, .ref 54), (1, .ref 41), (2, vR u2), (3, .int (Int32.ofInt x3)), (4, .int (Int32.ofInt x4)), (5, .int (Int32.ofInt x5)), (6, .int (Int32.ofInt x6)), (7, .ref y7), (8, .int (Int32.ofInt x8)), (9, .int (Int32.ofInt x9))]) (st1 := []) (w1 := w32) (by simp only [Int32.ofInt_add, Int32.ofInt_sub, Int32.ofInt_mul, Int32.ofInt_neg, p_and, p_or, p_xor, p_shl, p_shr, p_usr, p_w8, p_c16, p_lI, q_and, q_or, q_shl, q_shr, q_w32, Int64.ofInt_add, Int64.ofInt_sub, Int64.ofInt_mul, p_mx, p_mn, q_mx, q_mn]; rcases vR_c u2 with e | ⟨_, e⟩ <;> simp only [e] <;> rfl) ?_
          refine wp_lv (lv1 := [(0, .ref 54), (1, .ref 41), (2, vR u2), (3, .int (Int32.ofInt x3)), (4, .int (Int32.ofInt x4)), (5, .int (Int32.ofInt x5)), (6, .int (Int32.ofInt x6)), (7, .ref y7), (8, .int (Int32.ofInt x8)), (9, .int (Int32.ofInt x9)), (10, .int (Int32.ofInt (x10 + 1)))]) (lsub_p [2, 3, 4, 5, 6, 7, 8, 9, 10, 11, 0] rfl rfl rfl) ?_
          cases hx
          exact kn _ _ rfl h33
        · have hx := ite_f h34 hx
          refine wp_g 1 (pc1 := 185) (lv1 := [(11, .int (Int32.ofInt o1.1)), (0, .ref 54), (1, .ref 41), (2, vR u2), (3, .int (Int32.ofInt x3)), (4, .int (Int32.ofInt x4)), (5, .int (Int32.ofInt x5)), (6, .int (Int32.ofInt x6)), (7, .ref y7), (8, .int (Int32.ofInt x8)), (9, .int (Int32.ofInt x9)), (10, .int (Int32.ofInt x10))]) (st1 := [.int (Int32.ofInt 1)]) (w1 := w32) (by rcases vR_c u2 with e | ⟨_, e⟩ <;> simp only [e] <;> rfl) ?_
          refine wp_rt (i := .ireturn) (r := some (.int (Int32.ofInt 1))) (ln := 1) (a := 0) (b := 0) (z := 0) (by decide +kernel) rfl (ret_b (by decide +kernel) (Or.inr rfl)) ?_
          cases hx
          exact (kc _ rfl).2 _ _ rfl h33
      · have hx := ite_t h15 hx
        refine wp_g 1 (pc1 := 133) (lv1 := [(11, .int (Int32.ofInt o1.1)), (0, .ref 54), (1, .ref 41), (2, vR u2), (3, .int (Int32.ofInt x3)), (4, .int (Int32.ofInt x4)), (5, .int (Int32.ofInt x5)), (6, .int (Int32.ofInt x6)), (7, .ref y7), (8, .int (Int32.ofInt x8)), (9, .int (Int32.ofInt x9)), (10, .int (Int32.ofInt x10))]) (st1 := [.int (Int32.ofInt 1)]) (w1 := w13) (by rcases vR_c u2 with e | ⟨_, e⟩ <;> simp only [e] <;> rfl) ?_
        refine wp_rt (i := .ireturn) (r := some (.int (Int32.ofInt 1))) (ln := 1) (a := 0) (b := 0) (z := 0) (by decide +kernel) rfl (ret_b (by decide +kernel) (Or.inr rfl)) ?_
        cases hx
        exact (kc _ rfl).2 _ _ rfl h14
    · have hx := ite_t h8 hx
      refine wp_g 3 (pc1 := 52) (lv1 := [(10, .int (Int32.ofInt (x10 + 1))), (11, .int (Int32.ofInt o1.1)), (0, .ref 54), (1, .ref 41), (2, vR u2), (3, .int (Int32.ofInt x3)), (4, .int (Int32.ofInt x4)), (5, .int (Int32.ofInt x5)), (6, .int (Int32.ofInt x6)), (7, .ref y7), (8, .int (Int32.ofInt x8)), (9, .int (Int32.ofInt x9))]) (st1 := []) (w1 := w3) (by simp only [Int32.ofInt_add, Int32.ofInt_sub, Int32.ofInt_mul, Int32.ofInt_neg, p_and, p_or, p_xor, p_shl, p_shr, p_usr, p_w8, p_c16, p_lI, q_and, q_or, q_shl, q_shr, q_w32, Int64.ofInt_add, Int64.ofInt_sub, Int64.ofInt_mul, p_mx, p_mn, q_mx, q_mn]; rcases vR_c u2 with e | ⟨_, e⟩ <;> simp only [e] <;> rfl) ?_
      refine wp_lv (lv1 := [(0, .ref 54), (1, .ref 41), (2, vR u2), (3, .int (Int32.ofInt x3)), (4, .int (Int32.ofInt x4)), (5, .int (Int32.ofInt x5)), (6, .int (Int32.ofInt x6)), (7, .ref y7), (8, .int (Int32.ofInt x8)), (9, .int (Int32.ofInt x9)), (10, .int (Int32.ofInt (x10 + 1)))]) (lsub_p [2, 3, 4, 5, 6, 7, 8, 9, 10, 11, 0] rfl rfl rfl) ?_
      cases hx
      exact kn _ _ rfl h4
noncomputable def xg_ownsBy_b52 (F34 : Hp → Int → Int → Int → Int → Int → Option (Int × Hp)) (ln : Nat → Nat) (rs : Nat → Int) (s : Hp) (u2 : Int) (x3 : Int) (x4 : Int) (x5 : Int) (x6 : Int) (y7 : Nat) (x8 : Int) (x9 : Int) (x10 : Int) : Option ((Int × Hp) ⊕ ((Int × Hp) ⊕ (Int × Hp))) :=
  if w32 x10 < w32 x9 then if w32 x6 = w32 1 then (xl_movedCells s y7 x10).bind fun o3 => if w32 (bAnd x8 (bXor o3 (-1))) = 0 then xg_ownsBy_b52_j83 F34 ln rs s u2 x3 x4 x5 x6 y7 x8 x9 x10 else some (.inl (x10 + 1, s)) else xg_ownsBy_b52_j83 F34 ln rs s u2 x3 x4 x5 x6 y7 x8 x9 x10 else some (.inr (.inl (x10, s)))
set_option maxRecDepth 100000 in
theorem xg_ownsBy_b52_ok {d : Nat} {P : Option Value → pm_H → Prop} {w : pm_H} {sh : Shp} {w0 : pm_H} {s : Hp} (hS : St sh) {ln : Nat → Nat} {rs : Nat → Int} (hG : ∀ i, okR ln sh (rs i)) {u2 : Int} (hu2 : okR ln sh u2) {F34 : Hp → Int → Int → Int → Int → Int → Option (Int × Hp)} (hF34 : ∀ (w : pm_H) (s : Hp) (u2 : Int) (p3 : Int) (p4 : Int) (p5 : Int) (p6 : Int) (o : Int × Hp) (P : Option Value → pm_H → Prop), Rw sh w0 s w → okR ln sh u2 → F34 s u2 p3 p4 p5 p6 = some o → (∀ w1, Rw sh w0 o.2 w1 → P (some (.int (Int32.ofInt o.1))) w1) → wp (d + 9) 34 0 (lv_args 0 [.ref 54, .ref 41, vR u2, .int (Int32.ofInt p3), .int (Int32.ofInt p4), .int (Int32.ofInt p5), .int (Int32.ofInt p6)]) [] w P) {x3 : Int} {x4 : Int} {x5 : Int} {x6 : Int} {y7 ry7 : Nat} (cy7 : okC ry7 sh y7) {x8 : Int} {x9 : Int} {x10 : Int} (h : Rw sh w0 s w) {o : ((Int × Hp) ⊕ ((Int × Hp) ⊕ (Int × Hp)))} (hx : xg_ownsBy_b52 F34 ln rs s u2 x3 x4 x5 x6 y7 x8 x9 x10 = some o) (kn : ∀ (q : Int × Hp) w1, o = .inl q → Rw sh w0 q.2 w1 → wp (d + 10) 34 52 [(0, .ref 54), (1, .ref 41), (2, vR u2), (3, .int (Int32.ofInt x3)), (4, .int (Int32.ofInt x4)), (5, .int (Int32.ofInt x5)), (6, .int (Int32.ofInt x6)), (7, .ref y7), (8, .int (Int32.ofInt x8)), (9, .int (Int32.ofInt x9)), (10, .int (Int32.ofInt q.1))] [] w1 P) (kc : ∀ (r : ((Int × Hp) ⊕ (Int × Hp))), o = .inr r → ((∀ q1 w1, r = .inl q1 → Rw sh w0 q1.2 w1 → wp (d + 10) 34 192 [(0, .ref 54), (1, .ref 41), (2, vR u2), (3, .int (Int32.ofInt x3)), (4, .int (Int32.ofInt x4)), (5, .int (Int32.ofInt x5)), (6, .int (Int32.ofInt x6)), (7, .ref y7), (8, .int (Int32.ofInt x8)), (9, .int (Int32.ofInt x9)), (10, .int (Int32.ofInt q1.1))] [] w1 P) ∧ (∀ v1 w1, r = .inr v1 → Rw sh w0 v1.2 w1 → P (some (.int (Int32.ofInt v1.1))) w1))) : wp (d + 10) 34 52 [(0, .ref 54), (1, .ref 41), (2, vR u2), (3, .int (Int32.ofInt x3)), (4, .int (Int32.ofInt x4)), (5, .int (Int32.ofInt x5)), (6, .int (Int32.ofInt x6)), (7, .ref y7), (8, .int (Int32.ofInt x8)), (9, .int (Int32.ofInt x9)), (10, .int (Int32.ofInt x10))] [] w P := by
  unfold xg_ownsBy_b52 at hx
  refine wp_g 2 (pc1 := 56) (lv1 := [(0, .ref 54), (1, .ref 41), (2, vR u2), (3, .int (Int32.ofInt x3)), (4, .int (Int32.ofInt x4)), (5, .int (Int32.ofInt x5)), (6, .int (Int32.ofInt x6)), (7, .ref y7), (8, .int (Int32.ofInt x8)), (9, .int (Int32.ofInt x9)), (10, .int (Int32.ofInt x10))]) (st1 := [.int (Int32.ofInt x9), .int (Int32.ofInt x10)]) (w1 := w) (by rcases vR_c u2 with e | ⟨_, e⟩ <;> simp only [e] <;> rfl) ?_
  refine wx_ge (oo := 136) (ln := 3) (a := 192) (b := 0) (zz := 0) (by decide +kernel) (fun h1 => ?_) (fun h1 => ?_)
  · have hx := ite_f h1 hx
    cases hx
    exact (kc _ rfl).1 _ _ rfl h
  · have hx := ite_t h1 hx
    refine wp_g 2 (pc1 := 62) (lv1 := [(0, .ref 54), (1, .ref 41), (2, vR u2), (3, .int (Int32.ofInt x3)), (4, .int (Int32.ofInt x4)), (5, .int (Int32.ofInt x5)), (6, .int (Int32.ofInt x6)), (7, .ref y7), (8, .int (Int32.ofInt x8)), (9, .int (Int32.ofInt x9)), (10, .int (Int32.ofInt x10))]) (st1 := [.int (Int32.ofInt 1), .int (Int32.ofInt x6)]) (w1 := w) (by rcases vR_c u2 with e | ⟨_, e⟩ <;> simp only [e] <;> rfl) ?_
    refine wx_ne (oo := 21) (ln := 3) (a := 83) (b := 0) (zz := 0) (by decide +kernel) (fun h2 => ?_) (fun h2 => ?_)
    · have hx := ite_f h2 hx
      exact xg_ownsBy_b52_j83_ok hS hG hu2 hF34 cy7 h hx kn kc
    · have hx := ite_t h2 hx
      refine wp_g 3 (pc1 := 71) (lv1 := [(0, .ref 54), (1, .ref 41), (2, vR u2), (3, .int (Int32.ofInt x3)), (4, .int (Int32.ofInt x4)), (5, .int (Int32.ofInt x5)), (6, .int (Int32.ofInt x6)), (7, .ref y7), (8, .int (Int32.ofInt x8)), (9, .int (Int32.ofInt x9)), (10, .int (Int32.ofInt x10))]) (st1 := [.int (Int32.ofInt x10), .ref y7, .int (Int32.ofInt x8)]) (w1 := w) (by rcases vR_c u2 with e | ⟨_, e⟩ <;> simp only [e] <;> rfl) ?_
      obtain ⟨o3, e4, hx⟩ := bd hx
      refine wp_cl [.ref y7, .int (Int32.ofInt x10)] [.int (Int32.ofInt x8)] (i := .invokevirtual 74) (ln := 3) (a := 13) (b := 0) (z := 0) (by decide +kernel) rfl rfl (by decide) rfl (show (2 : Nat) = pm_na 13 by decide +kernel) (Nat.le_of_ble_eq_true rfl) (show (2 : Nat) ≤ pm_n 13 by decide +kernel) (rcv_x 0 h cy7.1 (by decide +kernel)) (xl_movedCells_ok (d := d + 8) hS cy7 h e4 ?_)
      show wp _ 34 74 [(0, .ref 54), (1, .ref 41), (2, vR u2), (3, .int (Int32.ofInt x3)), (4, .int (Int32.ofInt x4)), (5, .int (Int32.ofInt x5)), (6, .int (Int32.ofInt x6)), (7, .ref y7), (8, .int (Int32.ofInt x8)), (9, .int (Int32.ofInt x9)), (10, .int (Int32.ofInt x10))] [.int (Int32.ofInt o3), .int (Int32.ofInt x8)] w _
      refine wp_g 3 (pc1 := 77) (lv1 := [(0, .ref 54), (1, .ref 41), (2, vR u2), (3, .int (Int32.ofInt x3)), (4, .int (Int32.ofInt x4)), (5, .int (Int32.ofInt x5)), (6, .int (Int32.ofInt x6)), (7, .ref y7), (8, .int (Int32.ofInt x8)), (9, .int (Int32.ofInt x9)), (10, .int (Int32.ofInt x10))]) (st1 := [.int (Int32.ofInt (bAnd x8 (bXor o3 (-1))))]) (w1 := w) (by simp only [Int32.ofInt_add, Int32.ofInt_sub, Int32.ofInt_mul, Int32.ofInt_neg, p_and, p_or, p_xor, p_shl, p_shr, p_usr, p_w8, p_c16, p_lI, q_and, q_or, q_shl, q_shr, q_w32, Int64.ofInt_add, Int64.ofInt_sub, Int64.ofInt_mul, p_mx, p_mn, q_mx, q_mn]; rcases vR_c u2 with e | ⟨_, e⟩ <;> simp only [e] <;> rfl) ?_
      refine wz_eq (oo := 6) (ln := 3) (a := 83) (b := 0) (zz := 0) (by decide +kernel) (fun h7 => ?_) (fun h7 => ?_)
      · have hx := ite_t h7 hx
        exact xg_ownsBy_b52_j83_ok hS hG hu2 hF34 cy7 h hx kn kc
      · have hx := ite_f h7 hx
        refine wp_g 3 (pc1 := 52) (lv1 := [(10, .int (Int32.ofInt (x10 + 1))), (0, .ref 54), (1, .ref 41), (2, vR u2), (3, .int (Int32.ofInt x3)), (4, .int (Int32.ofInt x4)), (5, .int (Int32.ofInt x5)), (6, .int (Int32.ofInt x6)), (7, .ref y7), (8, .int (Int32.ofInt x8)), (9, .int (Int32.ofInt x9))]) (st1 := []) (w1 := w) (by simp only [Int32.ofInt_add, Int32.ofInt_sub, Int32.ofInt_mul, Int32.ofInt_neg, p_and, p_or, p_xor, p_shl, p_shr, p_usr, p_w8, p_c16, p_lI, q_and, q_or, q_shl, q_shr, q_w32, Int64.ofInt_add, Int64.ofInt_sub, Int64.ofInt_mul, p_mx, p_mn, q_mx, q_mn]; rcases vR_c u2 with e | ⟨_, e⟩ <;> simp only [e] <;> rfl) ?_
        refine wp_lv (lv1 := [(0, .ref 54), (1, .ref 41), (2, vR u2), (3, .int (Int32.ofInt x3)), (4, .int (Int32.ofInt x4)), (5, .int (Int32.ofInt x5)), (6, .int (Int32.ofInt x6)), (7, .ref y7), (8, .int (Int32.ofInt x8)), (9, .int (Int32.ofInt x9)), (10, .int (Int32.ofInt (x10 + 1)))]) (lsub_p [1, 2, 3, 4, 5, 6, 7, 8, 9, 10, 0] rfl rfl rfl) ?_
        cases hx
        exact kn _ _ rfl h
/-- FoldSearch.ownsBy (LMarket;LRule;IIII)Z -/
noncomputable def xg_ownsBy_b (F34 : Hp → Int → Int → Int → Int → Int → Option (Int × Hp)) (ln : Nat → Nat) (rs : Nat → Int) (s : Hp) (u2 : Int) (p3 : Int) (p4 : Int) (p5 : Int) (p6 : Int) : Option (Int × Hp) :=
  if w32 (p5 + 1) < w32 8 then if w32 p6 < w32 1 then some (0, s) else (ix 8 p5).bind fun i3 => (lvA (s 55 i3) i3).bind fun b5 => (xl_cellsOf s b5 p3).bind fun o7 => (xl_foldCount s b5).bind fun o11 => (lp (fun (q : Int × Hp) => xg_ownsBy_b52 F34 ln rs q.2 u2 p3 p4 p5 p6 b5 (bAnd p4 (bXor o7 (-1))) o11 q.1) (0, s)).bind fun q15 => q15.elim (fun q19 => some (0, q19.2)) (fun r => some r) else some (0, s)
set_option maxRecDepth 100000 in
theorem xg_ownsBy_b_ok {d : Nat} {P : Option Value → pm_H → Prop} {w : pm_H} {sh : Shp} {w0 : pm_H} {s : Hp} (hS : St sh) {ln : Nat → Nat} {rs : Nat → Int} (hG : ∀ i, okR ln sh (rs i)) {u2 : Int} (hu2 : okR ln sh u2) {F34 : Hp → Int → Int → Int → Int → Int → Option (Int × Hp)} (hF34 : ∀ (w : pm_H) (s : Hp) (u2 : Int) (p3 : Int) (p4 : Int) (p5 : Int) (p6 : Int) (o : Int × Hp) (P : Option Value → pm_H → Prop), Rw sh w0 s w → okR ln sh u2 → F34 s u2 p3 p4 p5 p6 = some o → (∀ w1, Rw sh w0 o.2 w1 → P (some (.int (Int32.ofInt o.1))) w1) → wp (d + 9) 34 0 (lv_args 0 [.ref 54, .ref 41, vR u2, .int (Int32.ofInt p3), .int (Int32.ofInt p4), .int (Int32.ofInt p5), .int (Int32.ofInt p6)]) [] w P) {p3 : Int} {p4 : Int} {p5 : Int} {p6 : Int} (h : Rw sh w0 s w) {o : Int × Hp} (hx : xg_ownsBy_b F34 ln rs s u2 p3 p4 p5 p6 = some o) (kr : ∀ w1, Rw sh w0 o.2 w1 → P (some (.int (Int32.ofInt o.1))) w1) : wp (d + 10) 34 0 (lv_args 0 [.ref 54, .ref 41, vR u2, .int (Int32.ofInt p3), .int (Int32.ofInt p4), .int (Int32.ofInt p5), .int (Int32.ofInt p6)]) [] w P := by
  rw [show lv_args 0 [.ref 54, .ref 41, vR u2, .int (Int32.ofInt p3), .int (Int32.ofInt p4), .int (Int32.ofInt p5), .int (Int32.ofInt p6)] = [(0, .ref 54), (1, .ref 41), (2, vR u2), (3, .int (Int32.ofInt p3)), (4, .int (Int32.ofInt p4)), (5, .int (Int32.ofInt p5)), (6, .int (Int32.ofInt p6))] from by rcases vR_c u2 with e | ⟨_, e⟩ <;> simp only [e] <;> rfl]
  unfold xg_ownsBy_b at hx
  refine wp_g 4 (pc1 := 5) (lv1 := [(0, .ref 54), (1, .ref 41), (2, vR u2), (3, .int (Int32.ofInt p3)), (4, .int (Int32.ofInt p4)), (5, .int (Int32.ofInt p5)), (6, .int (Int32.ofInt p6))]) (st1 := [.ref 54, .int (Int32.ofInt (p5 + 1))]) (w1 := w) (by simp only [Int32.ofInt_add, Int32.ofInt_sub, Int32.ofInt_mul, Int32.ofInt_neg, p_and, p_or, p_xor, p_shl, p_shr, p_usr, p_w8, p_c16, p_lI, q_and, q_or, q_shl, q_shr, q_w32, Int64.ofInt_add, Int64.ofInt_sub, Int64.ofInt_mul, p_mx, p_mn, q_mx, q_mn]; rcases vR_c u2 with e | ⟨_, e⟩ <;> simp only [e] <;> rfl) ?_
  refine wx_gr (o := 1) (kf := 11) (ln := 3) (ci := 2) (b := 0) (zz := 0) (x := 54) (by decide +kernel) h (hS _ _ sx_54) rfl ?_
  show wp _ 34 8 [(0, .ref 54), (1, .ref 41), (2, vR u2), (3, .int (Int32.ofInt p3)), (4, .int (Int32.ofInt p4)), (5, .int (Int32.ofInt p5)), (6, .int (Int32.ofInt p6))] [.ref 55, .int (Int32.ofInt (p5 + 1))] w _
  refine wx_ln (n := 8) (t := 4) (ln := 1) (a := 0) (b := 0) (zz := 0) (by decide +kernel) h (hS _ _ sx_55) ?_
  show wp _ 34 9 [(0, .ref 54), (1, .ref 41), (2, vR u2), (3, .int (Int32.ofInt p3)), (4, .int (Int32.ofInt p4)), (5, .int (Int32.ofInt p5)), (6, .int (Int32.ofInt p6))] [.int (Int32.ofInt 8), .int (Int32.ofInt (p5 + 1))] w _
  refine wx_ge (oo := 9) (ln := 3) (a := 18) (b := 0) (zz := 0) (by decide +kernel) (fun h1 => ?_) (fun h1 => ?_)
  · have hx := ite_f h1 hx
    refine wp_g 1 (pc1 := 19) (lv1 := [(0, .ref 54), (1, .ref 41), (2, vR u2), (3, .int (Int32.ofInt p3)), (4, .int (Int32.ofInt p4)), (5, .int (Int32.ofInt p5)), (6, .int (Int32.ofInt p6))]) (st1 := [.int (Int32.ofInt 0)]) (w1 := w) (by rcases vR_c u2 with e | ⟨_, e⟩ <;> simp only [e] <;> rfl) ?_
    refine wp_rt (i := .ireturn) (r := some (.int (Int32.ofInt 0))) (ln := 1) (a := 0) (b := 0) (z := 0) (by decide +kernel) rfl (ret_b (by decide +kernel) (Or.inl rfl)) ?_
    cases hx
    exact kr _ h
  · have hx := ite_t h1 hx
    refine wp_g 2 (pc1 := 15) (lv1 := [(0, .ref 54), (1, .ref 41), (2, vR u2), (3, .int (Int32.ofInt p3)), (4, .int (Int32.ofInt p4)), (5, .int (Int32.ofInt p5)), (6, .int (Int32.ofInt p6))]) (st1 := [.int (Int32.ofInt 1), .int (Int32.ofInt p6)]) (w1 := w) (by rcases vR_c u2 with e | ⟨_, e⟩ <;> simp only [e] <;> rfl) ?_
    refine wx_ge (oo := 5) (ln := 3) (a := 20) (b := 0) (zz := 0) (by decide +kernel) (fun h2 => ?_) (fun h2 => ?_)
    · have hx := ite_f h2 hx
      refine wp_g 1 (pc1 := 21) (lv1 := [(0, .ref 54), (1, .ref 41), (2, vR u2), (3, .int (Int32.ofInt p3)), (4, .int (Int32.ofInt p4)), (5, .int (Int32.ofInt p5)), (6, .int (Int32.ofInt p6))]) (st1 := [.ref 54]) (w1 := w) (by rcases vR_c u2 with e | ⟨_, e⟩ <;> simp only [e] <;> rfl) ?_
      refine wx_gr (o := 1) (kf := 11) (ln := 3) (ci := 2) (b := 0) (zz := 0) (x := 54) (by decide +kernel) h (hS _ _ sx_54) rfl ?_
      show wp _ 34 24 [(0, .ref 54), (1, .ref 41), (2, vR u2), (3, .int (Int32.ofInt p3)), (4, .int (Int32.ofInt p4)), (5, .int (Int32.ofInt p5)), (6, .int (Int32.ofInt p6))] [.ref 55] w _
      refine wp_g 1 (pc1 := 26) (lv1 := [(0, .ref 54), (1, .ref 41), (2, vR u2), (3, .int (Int32.ofInt p3)), (4, .int (Int32.ofInt p4)), (5, .int (Int32.ofInt p5)), (6, .int (Int32.ofInt p6))]) (st1 := [.int (Int32.ofInt p5), .ref 55]) (w1 := w) (by rcases vR_c u2 with e | ⟨_, e⟩ <;> simp only [e] <;> rfl) ?_
      obtain ⟨i3, e4, hx⟩ := bd hx
      refine wx_rr (x := 55) (n := 8) (ln := 1) (a := 0) (b := 0) (zz := 0) (by decide +kernel) h (hS _ _ sx_55) (by decide) e4 ?_
      obtain ⟨b5, e6, hx⟩ := bd hx
      rw [lvA_r e6]
      show wp _ 34 27 [(0, .ref 54), (1, .ref 41), (2, vR u2), (3, .int (Int32.ofInt p3)), (4, .int (Int32.ofInt p4)), (5, .int (Int32.ofInt p5)), (6, .int (Int32.ofInt p6))] [.ref b5] w _
      refine wp_g 4 (pc1 := 34) (lv1 := [(7, .ref b5), (0, .ref 54), (1, .ref 41), (2, vR u2), (3, .int (Int32.ofInt p3)), (4, .int (Int32.ofInt p4)), (5, .int (Int32.ofInt p5)), (6, .int (Int32.ofInt p6))]) (st1 := [.int (Int32.ofInt p3), .ref b5, .int (Int32.ofInt p4)]) (w1 := w) (by rcases vR_c u2 with e | ⟨_, e⟩ <;> simp only [e] <;> rfl) ?_
      obtain ⟨o7, e8, hx⟩ := bd hx
      refine wp_cl [.ref b5, .int (Int32.ofInt p3)] [.int (Int32.ofInt p4)] (i := .invokevirtual 66) (ln := 3) (a := 10) (b := 0) (z := 0) (by decide +kernel) rfl rfl (by decide) rfl (show (2 : Nat) = pm_na 10 by decide +kernel) (Nat.le_of_ble_eq_true rfl) (show (2 : Nat) ≤ pm_n 10 by decide +kernel) (rcv_x 0 h (lvA_c hS e6).1 (by decide +kernel)) (xl_cellsOf_ok (d := d + 9) hS (lvA_c hS e6) h e8 ?_)
      show wp _ 34 37 [(7, .ref b5), (0, .ref 54), (1, .ref 41), (2, vR u2), (3, .int (Int32.ofInt p3)), (4, .int (Int32.ofInt p4)), (5, .int (Int32.ofInt p5)), (6, .int (Int32.ofInt p6))] [.int (Int32.ofInt o7), .int (Int32.ofInt p4)] w _
      refine wp_g 5 (pc1 := 44) (lv1 := [(8, .int (Int32.ofInt (bAnd p4 (bXor o7 (-1))))), (7, .ref b5), (0, .ref 54), (1, .ref 41), (2, vR u2), (3, .int (Int32.ofInt p3)), (4, .int (Int32.ofInt p4)), (5, .int (Int32.ofInt p5)), (6, .int (Int32.ofInt p6))]) (st1 := [.ref b5]) (w1 := w) (by simp only [Int32.ofInt_add, Int32.ofInt_sub, Int32.ofInt_mul, Int32.ofInt_neg, p_and, p_or, p_xor, p_shl, p_shr, p_usr, p_w8, p_c16, p_lI, q_and, q_or, q_shl, q_shr, q_w32, Int64.ofInt_add, Int64.ofInt_sub, Int64.ofInt_mul, p_mx, p_mn, q_mx, q_mn]; rcases vR_c u2 with e | ⟨_, e⟩ <;> simp only [e] <;> rfl) ?_
      obtain ⟨o11, e12, hx⟩ := bd hx
      refine wp_cl [.ref b5] [] (i := .invokevirtual 44) (ln := 3) (a := 9) (b := 0) (z := 0) (by decide +kernel) rfl rfl (by decide) rfl (show (1 : Nat) = pm_na 9 by decide +kernel) (Nat.le_of_ble_eq_true rfl) (show (1 : Nat) ≤ pm_n 9 by decide +kernel) (rcv_x 0 h (lvA_c hS e6).1 (by decide +kernel)) (xl_foldCount_ok (d := d + 3) hS (lvA_c hS e6) h e12 ?_)
      show wp _ 34 47 [(8, .int (Int32.ofInt (bAnd p4 (bXor o7 (-1))))), (7, .ref b5), (0, .ref 54), (1, .ref 41), (2, vR u2), (3, .int (Int32.ofInt p3)), (4, .int (Int32.ofInt p4)), (5, .int (Int32.ofInt p5)), (6, .int (Int32.ofInt p6))] [.int (Int32.ofInt o11)] w _
      refine wp_g 3 (pc1 := 52) (lv1 := [(10, .int (Int32.ofInt 0)), (9, .int (Int32.ofInt o11)), (8, .int (Int32.ofInt (bAnd p4 (bXor o7 (-1))))), (7, .ref b5), (0, .ref 54), (1, .ref 41), (2, vR u2), (3, .int (Int32.ofInt p3)), (4, .int (Int32.ofInt p4)), (5, .int (Int32.ofInt p5)), (6, .int (Int32.ofInt p6))]) (st1 := []) (w1 := w) (by rcases vR_c u2 with e | ⟨_, e⟩ <;> simp only [e] <;> rfl) ?_
      refine wp_lv (lv1 := [(0, .ref 54), (1, .ref 41), (2, vR u2), (3, .int (Int32.ofInt p3)), (4, .int (Int32.ofInt p4)), (5, .int (Int32.ofInt p5)), (6, .int (Int32.ofInt p6)), (7, .ref b5), (8, .int (Int32.ofInt (bAnd p4 (bXor o7 (-1))))), (9, .int (Int32.ofInt o11)), (10, .int (Int32.ofInt 0))]) (lsub_p [4, 5, 6, 7, 8, 9, 10, 3, 2, 1, 0] rfl rfl rfl) ?_
      obtain ⟨q15, e16, hx⟩ := bd hx
      refine wp_lp (σ := Int × Hp) (ρ := ((Int × Hp) ⊕ (Int × Hp))) (B := fun q => xg_ownsBy_b52 F34 ln rs q.2 u2 p3 p4 p5 p6 b5 (bAnd p4 (bXor o7 (-1))) o11 q.1) (R := fun q w' => Rw sh w0 q.2 w') (C := fun r => (∀ q1 w1, r = .inl q1 → Rw sh w0 q1.2 w1 → wp (d + 10) 34 192 [(0, .ref 54), (1, .ref 41), (2, vR u2), (3, .int (Int32.ofInt p3)), (4, .int (Int32.ofInt p4)), (5, .int (Int32.ofInt p5)), (6, .int (Int32.ofInt p6)), (7, .ref b5), (8, .int (Int32.ofInt (bAnd p4 (bXor o7 (-1))))), (9, .int (Int32.ofInt o11)), (10, .int (Int32.ofInt q1.1))] [] w1 P) ∧ (∀ v1 w1, r = .inr v1 → Rw sh w0 v1.2 w1 → P (some (.int (Int32.ofInt v1.1))) w1)) (lv := fun q => [(0, .ref 54), (1, .ref 41), (2, vR u2), (3, .int (Int32.ofInt p3)), (4, .int (Int32.ofInt p4)), (5, .int (Int32.ofInt p5)), (6, .int (Int32.ofInt p6)), (7, .ref b5), (8, .int (Int32.ofInt (bAnd p4 (bXor o7 (-1))))), (9, .int (Int32.ofInt o11)), (10, .int (Int32.ofInt q.1))]) (hd := 52) (fun q w' o hR hb kn kc => xg_ownsBy_b52_ok hS hG hu2 hF34 (lvA_c hS e6) hR hb kn kc) _ _ _ e16 h ?_
      refine ⟨?_, fun v20 w1 hs h1 => by subst hs; cases (se_r hx); exact kr _ h1⟩
      intro q19 w17 hs h18
      subst hs
      replace hx := se_l hx
      show wp _ 34 192 [(0, .ref 54), (1, .ref 41), (2, vR u2), (3, .int (Int32.ofInt p3)), (4, .int (Int32.ofInt p4)), (5, .int (Int32.ofInt p5)), (6, .int (Int32.ofInt p6)), (7, .ref b5), (8, .int (Int32.ofInt (bAnd p4 (bXor o7 (-1))))), (9, .int (Int32.ofInt o11)), (10, .int (Int32.ofInt q19.1))] [] w17 _
      refine wp_g 1 (pc1 := 193) (lv1 := [(0, .ref 54), (1, .ref 41), (2, vR u2), (3, .int (Int32.ofInt p3)), (4, .int (Int32.ofInt p4)), (5, .int (Int32.ofInt p5)), (6, .int (Int32.ofInt p6)), (7, .ref b5), (8, .int (Int32.ofInt (bAnd p4 (bXor o7 (-1))))), (9, .int (Int32.ofInt o11)), (10, .int (Int32.ofInt q19.1))]) (st1 := [.int (Int32.ofInt 0)]) (w1 := w17) (by rcases vR_c u2 with e | ⟨_, e⟩ <;> simp only [e] <;> rfl) ?_
      refine wp_rt (i := .ireturn) (r := some (.int (Int32.ofInt 0))) (ln := 1) (a := 0) (b := 0) (z := 0) (by decide +kernel) rfl (ret_b (by decide +kernel) (Or.inl rfl)) ?_
      cases hx
      exact kr _ h18
    · have hx := ite_t h2 hx
      refine wp_g 1 (pc1 := 19) (lv1 := [(0, .ref 54), (1, .ref 41), (2, vR u2), (3, .int (Int32.ofInt p3)), (4, .int (Int32.ofInt p4)), (5, .int (Int32.ofInt p5)), (6, .int (Int32.ofInt p6))]) (st1 := [.int (Int32.ofInt 0)]) (w1 := w) (by rcases vR_c u2 with e | ⟨_, e⟩ <;> simp only [e] <;> rfl) ?_
      refine wp_rt (i := .ireturn) (r := some (.int (Int32.ofInt 0))) (ln := 1) (a := 0) (b := 0) (z := 0) (by decide +kernel) rfl (ret_b (by decide +kernel) (Or.inl rfl)) ?_
      cases hx
      exact kr _ h
noncomputable def RC34 (ln : Nat → Nat) (rs : Nat → Int) : Nat → (Hp → Int → Int → Int → Int → Int → Option (Int × Hp))
  | 0 => fun _ _ _ _ _ _ => none
  | n + 1 => fun s u2 p3 p4 p5 p6 => xg_ownsBy_b (RC34 ln rs n) ln rs s u2 p3 p4 p5 p6
theorem RC34_ok {sh : Shp} {w0 : pm_H} (hS : St sh) {ln : Nat → Nat} {rs : Nat → Int} (hG : ∀ i, okR ln sh (rs i)) : ∀ n d : Nat, (∀ (w : pm_H) (s : Hp) (u2 : Int) (p3 : Int) (p4 : Int) (p5 : Int) (p6 : Int) (o : Int × Hp) (P : Option Value → pm_H → Prop), Rw sh w0 s w → okR ln sh u2 → (RC34 ln rs n) s u2 p3 p4 p5 p6 = some o → (∀ w1, Rw sh w0 o.2 w1 → P (some (.int (Int32.ofInt o.1))) w1) → wp (d + 9 + n) 34 0 (lv_args 0 [.ref 54, .ref 41, vR u2, .int (Int32.ofInt p3), .int (Int32.ofInt p4), .int (Int32.ofInt p5), .int (Int32.ofInt p6)]) [] w P)
  | 0, d => fun w s u2 p3 p4 p5 p6 o P h hu2 hx kr => (by cases hx)
  | n + 1, d => by
    have ih := RC34_ok (w0 := w0) hS hG n d
    have e : d + 9 + n = d + n + 9 := by omega
    have e2 : d + 9 + (n + 1) = d + n + (9 + 1) := by omega
    rw [e] at ih
    rw [e2]
    exact fun w s u2 p3 p4 p5 p6 o P h hu2 hx kr => xg_ownsBy_b_ok (d := d + n) hS hG hu2 ih h hx kr
/-- FoldSearch.ownsBy (LMarket;LRule;IIII)Z -/
noncomputable def xg_ownsBy (ln : Nat → Nat) (rs : Nat → Int) (s : Hp) (u2 : Int) (p3 : Int) (p4 : Int) (p5 : Int) (p6 : Int) : Option (Int × Hp) := (RC34 ln rs 6) s u2 p3 p4 p5 p6
theorem xg_ownsBy_ok {d : Nat} {P : Option Value → pm_H → Prop} {w : pm_H} {sh : Shp} {w0 : pm_H} {s : Hp} (hS : St sh) {ln : Nat → Nat} {rs : Nat → Int} (hG : ∀ i, okR ln sh (rs i)) {u2 : Int} (hu2 : okR ln sh u2) {p3 : Int} {p4 : Int} {p5 : Int} {p6 : Int} (h : Rw sh w0 s w) {o : Int × Hp} (hx : xg_ownsBy ln rs s u2 p3 p4 p5 p6 = some o) (kr : ∀ w1, Rw sh w0 o.2 w1 → P (some (.int (Int32.ofInt o.1))) w1) : wp (d + 15) 34 0 (lv_args 0 [.ref 54, .ref 41, vR u2, .int (Int32.ofInt p3), .int (Int32.ofInt p4), .int (Int32.ofInt p5), .int (Int32.ofInt p6)]) [] w P := (RC34_ok hS hG 6 d) w s u2 p3 p4 p5 p6 _ P h hu2 hx kr
noncomputable def xg_seekOwned_b37 (ln : Nat → Nat) (rs : Nat → Int) (s : Hp) (u2 : Int) (a3 : Nat) (x4 : Int) (x5 : Int) (x6 : Int) : Option ((Int × Hp) ⊕ (Int × Hp)) :=
  if w32 3 < w32 x6 then some (.inr (x6, s)) else if w32 (s 54 3) = w32 (-1) then (xg_ownsBy ln rs s u2 x4 x5 0 x6).bind fun o3 => if w32 o3.1 = 0 then some (.inl (x6 + 1, o3.2)) else (xg_keepRow o3.2 x6).bind fun o8 => some (.inl (x6 + 1, o8)) else some (.inr (x6, s))
set_option maxRecDepth 100000 in
theorem xg_seekOwned_b37_ok {d : Nat} {P : Option Value → pm_H → Prop} {w : pm_H} {sh : Shp} {w0 : pm_H} {s : Hp} (hS : St sh) {ln : Nat → Nat} {rs : Nat → Int} (hG : ∀ i, okR ln sh (rs i)) {u2 : Int} (hu2 : okR ln sh u2) {a3 r3 : Nat} (ca3 : okC r3 sh a3) {x4 : Int} {x5 : Int} {x6 : Int} (h : Rw sh w0 s w) {o : ((Int × Hp) ⊕ (Int × Hp))} (hx : xg_seekOwned_b37 ln rs s u2 a3 x4 x5 x6 = some o) (kn : ∀ (q : Int × Hp) w1, o = .inl q → Rw sh w0 q.2 w1 → wp (d + 16) 33 37 [(0, .ref 54), (1, .ref 41), (2, vR u2), (4, .int (Int32.ofInt x4)), (5, .int (Int32.ofInt x5)), (6, .int (Int32.ofInt q.1))] [] w1 P) (kc : ∀ (r : (Int × Hp)), o = .inr r → (∀ w1, Rw sh w0 r.2 w1 → wp (d + 16) 33 79 [(0, .ref 54), (1, .ref 41), (2, vR u2), (4, .int (Int32.ofInt x4)), (5, .int (Int32.ofInt x5)), (6, .int (Int32.ofInt r.1))] [] w1 P)) : wp (d + 16) 33 37 [(0, .ref 54), (1, .ref 41), (2, vR u2), (4, .int (Int32.ofInt x4)), (5, .int (Int32.ofInt x5)), (6, .int (Int32.ofInt x6))] [] w P := by
  unfold xg_seekOwned_b37 at hx
  refine wp_g 2 (pc1 := 40) (lv1 := [(0, .ref 54), (1, .ref 41), (2, vR u2), (4, .int (Int32.ofInt x4)), (5, .int (Int32.ofInt x5)), (6, .int (Int32.ofInt x6))]) (st1 := [.int (Int32.ofInt 3), .int (Int32.ofInt x6)]) (w1 := w) (by rcases vR_c u2 with e | ⟨_, e⟩ <;> simp only [e] <;> rfl) ?_
  refine wx_gt (oo := 39) (ln := 3) (a := 79) (b := 0) (zz := 0) (by decide +kernel) (fun h1 => ?_) (fun h1 => ?_)
  · have hx := ite_t h1 hx
    cases hx
    exact kc _ rfl _ h
  · have hx := ite_f h1 hx
    refine wp_g 1 (pc1 := 44) (lv1 := [(0, .ref 54), (1, .ref 41), (2, vR u2), (4, .int (Int32.ofInt x4)), (5, .int (Int32.ofInt x5)), (6, .int (Int32.ofInt x6))]) (st1 := [.ref 54]) (w1 := w) (by rcases vR_c u2 with e | ⟨_, e⟩ <;> simp only [e] <;> rfl) ?_
    refine wx_gi (kf := 24) (ln := 3) (ci := 2) (b := 3) (zz := 0) (x := 54) (by decide +kernel) h (hS _ _ sx_54) rfl ?_
    show wp _ 33 47 [(0, .ref 54), (1, .ref 41), (2, vR u2), (4, .int (Int32.ofInt x4)), (5, .int (Int32.ofInt x5)), (6, .int (Int32.ofInt x6))] [.int (Int32.ofInt (s 54 3))] w _
    refine wp_g 1 (pc1 := 48) (lv1 := [(0, .ref 54), (1, .ref 41), (2, vR u2), (4, .int (Int32.ofInt x4)), (5, .int (Int32.ofInt x5)), (6, .int (Int32.ofInt x6))]) (st1 := [.int (Int32.ofInt (-1)), .int (Int32.ofInt (s 54 3))]) (w1 := w) (by rcases vR_c u2 with e | ⟨_, e⟩ <;> simp only [e] <;> rfl) ?_
    refine wx_ne (oo := 31) (ln := 3) (a := 79) (b := 0) (zz := 0) (by decide +kernel) (fun h2 => ?_) (fun h2 => ?_)
    · have hx := ite_f h2 hx
      cases hx
      exact kc _ rfl _ h
    · have hx := ite_t h2 hx
      refine wp_g 7 (pc1 := 61) (lv1 := [(0, .ref 54), (1, .ref 41), (2, vR u2), (4, .int (Int32.ofInt x4)), (5, .int (Int32.ofInt x5)), (6, .int (Int32.ofInt x6))]) (st1 := [.int (Int32.ofInt x6), .int (Int32.ofInt 0), .int (Int32.ofInt x5), .int (Int32.ofInt x4), vR u2, .ref 41, .ref 54]) (w1 := w) (by rcases vR_c u2 with e | ⟨_, e⟩ <;> simp only [e] <;> rfl) ?_
      obtain ⟨o3, e4, hx⟩ := bd hx
      refine wp_cl [.ref 54, .ref 41, vR u2, .int (Int32.ofInt x4), .int (Int32.ofInt x5), .int (Int32.ofInt 0), .int (Int32.ofInt x6)] [] (i := .invokevirtual 70) (ln := 3) (a := 34) (b := 0) (z := 0) (by decide +kernel) rfl rfl (by decide) rfl (show (7 : Nat) = pm_na 34 by decide +kernel) (Nat.le_of_ble_eq_true rfl) (by rcases vR_c u2 with e | ⟨_, e⟩ <;> simp only [e] <;> exact (show (7 : Nat) ≤ pm_n 34 by decide +kernel)) (rcv_x 2 h (hS _ _ sx_54) (by decide +kernel)) (xg_ownsBy_ok (d := d) hS hG hu2 h e4 (fun w5 h6 => ?_))
      show wp _ 33 64 [(0, .ref 54), (1, .ref 41), (2, vR u2), (4, .int (Int32.ofInt x4)), (5, .int (Int32.ofInt x5)), (6, .int (Int32.ofInt x6))] [.int (Int32.ofInt o3.1)] w5 _
      refine wz_eq (oo := 9) (ln := 3) (a := 73) (b := 0) (zz := 0) (by decide +kernel) (fun h7 => ?_) (fun h7 => ?_)
      · have hx := ite_t h7 hx
        refine wp_g 2 (pc1 := 37) (lv1 := [(6, .int (Int32.ofInt (x6 + 1))), (0, .ref 54), (1, .ref 41), (2, vR u2), (4, .int (Int32.ofInt x4)), (5, .int (Int32.ofInt x5))]) (st1 := []) (w1 := w5) (by simp only [Int32.ofInt_add, Int32.ofInt_sub, Int32.ofInt_mul, Int32.ofInt_neg, p_and, p_or, p_xor, p_shl, p_shr, p_usr, p_w8, p_c16, p_lI, q_and, q_or, q_shl, q_shr, q_w32, Int64.ofInt_add, Int64.ofInt_sub, Int64.ofInt_mul, p_mx, p_mn, q_mx, q_mn]; rcases vR_c u2 with e | ⟨_, e⟩ <;> simp only [e] <;> rfl) ?_
        refine wp_lv (lv1 := [(0, .ref 54), (1, .ref 41), (2, vR u2), (4, .int (Int32.ofInt x4)), (5, .int (Int32.ofInt x5)), (6, .int (Int32.ofInt (x6 + 1)))]) (lsub_p [1, 2, 3, 4, 5, 0] rfl rfl rfl) ?_
        cases hx
        exact kn _ _ rfl h6
      · have hx := ite_f h7 hx
        refine wp_g 2 (pc1 := 70) (lv1 := [(0, .ref 54), (1, .ref 41), (2, vR u2), (4, .int (Int32.ofInt x4)), (5, .int (Int32.ofInt x5)), (6, .int (Int32.ofInt x6))]) (st1 := [.int (Int32.ofInt x6), .ref 54]) (w1 := w5) (by rcases vR_c u2 with e | ⟨_, e⟩ <;> simp only [e] <;> rfl) ?_
        obtain ⟨o8, e9, hx⟩ := bd hx
        refine wp_cl [.ref 54, .int (Int32.ofInt x6)] [] (i := .invokevirtual 41) (ln := 3) (a := 32) (b := 0) (z := 0) (by decide +kernel) rfl rfl (by decide) rfl (show (2 : Nat) = pm_na 32 by decide +kernel) (Nat.le_of_ble_eq_true rfl) (show (2 : Nat) ≤ pm_n 32 by decide +kernel) (rcv_x 2 h6 (hS _ _ sx_54) (by decide +kernel)) (xg_keepRow_ok (d := d + 9) hS h6 e9 (fun w10 h11 => ?_))
        show wp _ 33 73 [(0, .ref 54), (1, .ref 41), (2, vR u2), (4, .int (Int32.ofInt x4)), (5, .int (Int32.ofInt x5)), (6, .int (Int32.ofInt x6))] [] w10 _
        refine wp_g 2 (pc1 := 37) (lv1 := [(6, .int (Int32.ofInt (x6 + 1))), (0, .ref 54), (1, .ref 41), (2, vR u2), (4, .int (Int32.ofInt x4)), (5, .int (Int32.ofInt x5))]) (st1 := []) (w1 := w10) (by simp only [Int32.ofInt_add, Int32.ofInt_sub, Int32.ofInt_mul, Int32.ofInt_neg, p_and, p_or, p_xor, p_shl, p_shr, p_usr, p_w8, p_c16, p_lI, q_and, q_or, q_shl, q_shr, q_w32, Int64.ofInt_add, Int64.ofInt_sub, Int64.ofInt_mul, p_mx, p_mn, q_mx, q_mn]; rcases vR_c u2 with e | ⟨_, e⟩ <;> simp only [e] <;> rfl) ?_
        refine wp_lv (lv1 := [(0, .ref 54), (1, .ref 41), (2, vR u2), (4, .int (Int32.ofInt x4)), (5, .int (Int32.ofInt x5)), (6, .int (Int32.ofInt (x6 + 1)))]) (lsub_p [1, 2, 3, 4, 5, 0] rfl rfl rfl) ?_
        cases hx
        exact kn _ _ rfl h11
/-- FoldSearch.seekOwned (LMarket;LRule;LCloth;II)V -/
noncomputable def xg_seekOwned (ln : Nat → Nat) (rs : Nat → Int) (s : Hp) (u2 : Int) (a3 : Nat) (p4 : Int) (p5 : Int) : Option Hp :=
  (some (uh s 54 3 (-1))).bind fun s1 => (ix 8 0).bind fun i5 => (lvA (s1 55 i5) i5).bind fun b7 => (xl_copyFrom s1 b7 a3).bind fun o9 => (xl_cellsOf o9 a3 p4).bind fun o13 => if w32 (bAnd p5 (bXor o13 (-1))) = 0 then (xg_keepRow o9 0).bind fun o22 => (lp (fun (q : Int × Hp) => xg_seekOwned_b37 ln rs q.2 u2 a3 p4 p5 q.1) (1, o22)).bind fun q26 => some q26.2 else (lp (fun (q : Int × Hp) => xg_seekOwned_b37 ln rs q.2 u2 a3 p4 p5 q.1) (1, o9)).bind fun q18 => some q18.2
set_option maxRecDepth 100000 in
theorem xg_seekOwned_ok {d : Nat} {P : Option Value → pm_H → Prop} {w : pm_H} {sh : Shp} {w0 : pm_H} {s : Hp} (hS : St sh) {ln : Nat → Nat} {rs : Nat → Int} (hG : ∀ i, okR ln sh (rs i)) {u2 : Int} (hu2 : okR ln sh u2) {a3 r3 : Nat} (ca3 : okC r3 sh a3) {p4 : Int} {p5 : Int} (h : Rw sh w0 s w) {o : Hp} (hx : xg_seekOwned ln rs s u2 a3 p4 p5 = some o) (kr : ∀ w1, Rw sh w0 o w1 → P none w1) : wp (d + 16) 33 0 (lv_args 0 [.ref 54, .ref 41, vR u2, .ref a3, .int (Int32.ofInt p4), .int (Int32.ofInt p5)]) [] w P := by
  rw [show lv_args 0 [.ref 54, .ref 41, vR u2, .ref a3, .int (Int32.ofInt p4), .int (Int32.ofInt p5)] = [(0, .ref 54), (1, .ref 41), (2, vR u2), (3, .ref a3), (4, .int (Int32.ofInt p4)), (5, .int (Int32.ofInt p5))] from by rcases vR_c u2 with e | ⟨_, e⟩ <;> simp only [e] <;> rfl]
  unfold xg_seekOwned at hx
  refine wp_g 2 (pc1 := 2) (lv1 := [(0, .ref 54), (1, .ref 41), (2, vR u2), (3, .ref a3), (4, .int (Int32.ofInt p4)), (5, .int (Int32.ofInt p5))]) (st1 := [.int (Int32.ofInt (-1)), .ref 54]) (w1 := w) (by rcases vR_c u2 with e | ⟨_, e⟩ <;> simp only [e] <;> rfl) ?_
  obtain ⟨s1, e2, hx⟩ := bd hx
  refine wx_pi (kf := 24) (ln := 3) (ci := 2) (b := 3) (zz := 0) (x := 54) (by decide +kernel) h (hS _ _ sx_54) rfl (by decide +kernel) e2 (fun w3 h4 => ?_)
  refine wp_g 1 (pc1 := 6) (lv1 := [(0, .ref 54), (1, .ref 41), (2, vR u2), (3, .ref a3), (4, .int (Int32.ofInt p4)), (5, .int (Int32.ofInt p5))]) (st1 := [.ref 54]) (w1 := w3) (by rcases vR_c u2 with e | ⟨_, e⟩ <;> simp only [e] <;> rfl) ?_
  refine wx_gr (o := 1) (kf := 11) (ln := 3) (ci := 2) (b := 0) (zz := 0) (x := 54) (by decide +kernel) h4 (hS _ _ sx_54) rfl ?_
  show wp _ 33 9 [(0, .ref 54), (1, .ref 41), (2, vR u2), (3, .ref a3), (4, .int (Int32.ofInt p4)), (5, .int (Int32.ofInt p5))] [.ref 55] w3 _
  refine wp_g 1 (pc1 := 10) (lv1 := [(0, .ref 54), (1, .ref 41), (2, vR u2), (3, .ref a3), (4, .int (Int32.ofInt p4)), (5, .int (Int32.ofInt p5))]) (st1 := [.int (Int32.ofInt 0), .ref 55]) (w1 := w3) (by rcases vR_c u2 with e | ⟨_, e⟩ <;> simp only [e] <;> rfl) ?_
  obtain ⟨i5, e6, hx⟩ := bd hx
  refine wx_rr (x := 55) (n := 8) (ln := 1) (a := 0) (b := 0) (zz := 0) (by decide +kernel) h4 (hS _ _ sx_55) (by decide) e6 ?_
  obtain ⟨b7, e8, hx⟩ := bd hx
  rw [lvA_r e8]
  show wp _ 33 11 [(0, .ref 54), (1, .ref 41), (2, vR u2), (3, .ref a3), (4, .int (Int32.ofInt p4)), (5, .int (Int32.ofInt p5))] [.ref b7] w3 _
  refine wp_g 1 (pc1 := 12) (lv1 := [(0, .ref 54), (1, .ref 41), (2, vR u2), (3, .ref a3), (4, .int (Int32.ofInt p4)), (5, .int (Int32.ofInt p5))]) (st1 := [.ref a3, .ref b7]) (w1 := w3) (by rcases vR_c u2 with e | ⟨_, e⟩ <;> simp only [e] <;> rfl) ?_
  obtain ⟨o9, e10, hx⟩ := bd hx
  refine wp_cl [.ref b7, .ref a3] [] (i := .invokevirtual 62) (ln := 3) (a := 1) (b := 0) (z := 0) (by decide +kernel) rfl rfl (by decide) rfl (show (2 : Nat) = pm_na 1 by decide +kernel) (Nat.le_of_ble_eq_true rfl) (show (2 : Nat) ≤ pm_n 1 by decide +kernel) (rcv_x 0 h4 (lvA_c hS e8).1 (by decide +kernel)) (xl_copyFrom_ok (d := d + 9) hS (lvA_c hS e8) ca3 h4 e10 (fun w11 h12 => ?_))
  show wp _ 33 15 [(0, .ref 54), (1, .ref 41), (2, vR u2), (3, .ref a3), (4, .int (Int32.ofInt p4)), (5, .int (Int32.ofInt p5))] [] w11 _
  refine wp_g 3 (pc1 := 20) (lv1 := [(0, .ref 54), (1, .ref 41), (2, vR u2), (3, .ref a3), (4, .int (Int32.ofInt p4)), (5, .int (Int32.ofInt p5))]) (st1 := [.int (Int32.ofInt p4), .ref a3, .int (Int32.ofInt p5)]) (w1 := w11) (by rcases vR_c u2 with e | ⟨_, e⟩ <;> simp only [e] <;> rfl) ?_
  obtain ⟨o13, e14, hx⟩ := bd hx
  refine wp_cl [.ref a3, .int (Int32.ofInt p4)] [.int (Int32.ofInt p5)] (i := .invokevirtual 66) (ln := 3) (a := 10) (b := 0) (z := 0) (by decide +kernel) rfl rfl (by decide) rfl (show (2 : Nat) = pm_na 10 by decide +kernel) (Nat.le_of_ble_eq_true rfl) (show (2 : Nat) ≤ pm_n 10 by decide +kernel) (rcv_x 0 h12 ca3.1 (by decide +kernel)) (xl_cellsOf_ok (d := d + 15) hS ca3 h12 e14 ?_)
  show wp _ 33 23 [(0, .ref 54), (1, .ref 41), (2, vR u2), (3, .ref a3), (4, .int (Int32.ofInt p4)), (5, .int (Int32.ofInt p5))] [.int (Int32.ofInt o13), .int (Int32.ofInt p5)] w11 _
  refine wp_g 3 (pc1 := 26) (lv1 := [(0, .ref 54), (1, .ref 41), (2, vR u2), (3, .ref a3), (4, .int (Int32.ofInt p4)), (5, .int (Int32.ofInt p5))]) (st1 := [.int (Int32.ofInt (bAnd p5 (bXor o13 (-1))))]) (w1 := w11) (by simp only [Int32.ofInt_add, Int32.ofInt_sub, Int32.ofInt_mul, Int32.ofInt_neg, p_and, p_or, p_xor, p_shl, p_shr, p_usr, p_w8, p_c16, p_lI, q_and, q_or, q_shl, q_shr, q_w32, Int64.ofInt_add, Int64.ofInt_sub, Int64.ofInt_mul, p_mx, p_mn, q_mx, q_mn]; rcases vR_c u2 with e | ⟨_, e⟩ <;> simp only [e] <;> rfl) ?_
  refine wz_ne (oo := 8) (ln := 3) (a := 34) (b := 0) (zz := 0) (by decide +kernel) (fun h17 => ?_) (fun h17 => ?_)
  · have hx := ite_f h17 hx
    refine wp_g 2 (pc1 := 37) (lv1 := [(6, .int (Int32.ofInt 1)), (0, .ref 54), (1, .ref 41), (2, vR u2), (3, .ref a3), (4, .int (Int32.ofInt p4)), (5, .int (Int32.ofInt p5))]) (st1 := []) (w1 := w11) (by rcases vR_c u2 with e | ⟨_, e⟩ <;> simp only [e] <;> rfl) ?_
    refine wp_lv (lv1 := [(0, .ref 54), (1, .ref 41), (2, vR u2), (4, .int (Int32.ofInt p4)), (5, .int (Int32.ofInt p5)), (6, .int (Int32.ofInt 1))]) (lsub_p [1, 2, 3, 5, 6, 0] rfl rfl rfl) ?_
    obtain ⟨q18, e19, hx⟩ := bd hx
    refine wp_lp (σ := Int × Hp) (ρ := (Int × Hp)) (B := fun q => xg_seekOwned_b37 ln rs q.2 u2 a3 p4 p5 q.1) (R := fun q w' => Rw sh w0 q.2 w') (C := fun r => ∀ w1, Rw sh w0 r.2 w1 → wp (d + 16) 33 79 [(0, .ref 54), (1, .ref 41), (2, vR u2), (4, .int (Int32.ofInt p4)), (5, .int (Int32.ofInt p5)), (6, .int (Int32.ofInt r.1))] [] w1 P) (lv := fun q => [(0, .ref 54), (1, .ref 41), (2, vR u2), (4, .int (Int32.ofInt p4)), (5, .int (Int32.ofInt p5)), (6, .int (Int32.ofInt q.1))]) (hd := 37) (fun q w' o hR hb kn kc => xg_seekOwned_b37_ok hS hG hu2 ca3 hR hb kn kc) _ _ _ e19 h12 ?_
    intro w20 h21
    show wp _ 33 79 [(0, .ref 54), (1, .ref 41), (2, vR u2), (4, .int (Int32.ofInt p4)), (5, .int (Int32.ofInt p5)), (6, .int (Int32.ofInt q18.1))] [] w20 _
    refine wp_rt (i := .return_) (r := none) (ln := 1) (a := 0) (b := 0) (z := 0) (by decide +kernel) rfl (ret_v (by decide +kernel)) ?_
    cases hx
    exact kr _ h21
  · have hx := ite_t h17 hx
    refine wp_g 2 (pc1 := 31) (lv1 := [(0, .ref 54), (1, .ref 41), (2, vR u2), (3, .ref a3), (4, .int (Int32.ofInt p4)), (5, .int (Int32.ofInt p5))]) (st1 := [.int (Int32.ofInt 0), .ref 54]) (w1 := w11) (by rcases vR_c u2 with e | ⟨_, e⟩ <;> simp only [e] <;> rfl) ?_
    obtain ⟨o22, e23, hx⟩ := bd hx
    refine wp_cl [.ref 54, .int (Int32.ofInt 0)] [] (i := .invokevirtual 41) (ln := 3) (a := 32) (b := 0) (z := 0) (by decide +kernel) rfl rfl (by decide) rfl (show (2 : Nat) = pm_na 32 by decide +kernel) (Nat.le_of_ble_eq_true rfl) (show (2 : Nat) ≤ pm_n 32 by decide +kernel) (rcv_x 2 h12 (hS _ _ sx_54) (by decide +kernel)) (xg_keepRow_ok (d := d + 9) hS h12 e23 (fun w24 h25 => ?_))
    show wp _ 33 34 [(0, .ref 54), (1, .ref 41), (2, vR u2), (3, .ref a3), (4, .int (Int32.ofInt p4)), (5, .int (Int32.ofInt p5))] [] w24 _
    refine wp_g 2 (pc1 := 37) (lv1 := [(6, .int (Int32.ofInt 1)), (0, .ref 54), (1, .ref 41), (2, vR u2), (3, .ref a3), (4, .int (Int32.ofInt p4)), (5, .int (Int32.ofInt p5))]) (st1 := []) (w1 := w24) (by rcases vR_c u2 with e | ⟨_, e⟩ <;> simp only [e] <;> rfl) ?_
    refine wp_lv (lv1 := [(0, .ref 54), (1, .ref 41), (2, vR u2), (4, .int (Int32.ofInt p4)), (5, .int (Int32.ofInt p5)), (6, .int (Int32.ofInt 1))]) (lsub_p [1, 2, 3, 5, 6, 0] rfl rfl rfl) ?_
    obtain ⟨q26, e27, hx⟩ := bd hx
    refine wp_lp (σ := Int × Hp) (ρ := (Int × Hp)) (B := fun q => xg_seekOwned_b37 ln rs q.2 u2 a3 p4 p5 q.1) (R := fun q w' => Rw sh w0 q.2 w') (C := fun r => ∀ w1, Rw sh w0 r.2 w1 → wp (d + 16) 33 79 [(0, .ref 54), (1, .ref 41), (2, vR u2), (4, .int (Int32.ofInt p4)), (5, .int (Int32.ofInt p5)), (6, .int (Int32.ofInt r.1))] [] w1 P) (lv := fun q => [(0, .ref 54), (1, .ref 41), (2, vR u2), (4, .int (Int32.ofInt p4)), (5, .int (Int32.ofInt p5)), (6, .int (Int32.ofInt q.1))]) (hd := 37) (fun q w' o hR hb kn kc => xg_seekOwned_b37_ok hS hG hu2 ca3 hR hb kn kc) _ _ _ e27 h25 ?_
    intro w28 h29
    show wp _ 33 79 [(0, .ref 54), (1, .ref 41), (2, vR u2), (4, .int (Int32.ofInt p4)), (5, .int (Int32.ofInt p5)), (6, .int (Int32.ofInt q26.1))] [] w28 _
    refine wp_rt (i := .return_) (r := none) (ln := 1) (a := 0) (b := 0) (z := 0) (by decide +kernel) rfl (ret_v (by decide +kernel)) ?_
    cases hx
    exact kr _ h29
/-- Trial.begin (I)V -/
noncomputable def xd_begin (s : Hp) (p1 : Int) : Option Hp :=
  (some (uh s 134 1 (w32 p1))).bind fun s1 => (some (uh s1 134 2 0)).bind fun s5 => (some (uh s5 134 3 0)).bind fun s9 => some s9
set_option maxRecDepth 100000 in
theorem xd_begin_ok {d : Nat} {P : Option Value → pm_H → Prop} {w : pm_H} {sh : Shp} {w0 : pm_H} {s : Hp} (hS : St sh) {p1 : Int} (h : Rw sh w0 s w) {o : Hp} (hx : xd_begin s p1 = some o) (kr : ∀ w1, Rw sh w0 o w1 → P none w1) : wp d 102 0 (lv_args 0 [.ref 134, .int (Int32.ofInt p1)]) [] w P := by
  show wp _ 102 0 [(0, .ref 134), (1, .int (Int32.ofInt p1))] [] w _
  unfold xd_begin at hx
  refine wp_g 3 (pc1 := 3) (lv1 := [(0, .ref 134), (1, .int (Int32.ofInt p1))]) (st1 := [.long (Int64.ofInt (w32 p1)), .ref 134]) (w1 := w) (by simp only [Int32.ofInt_add, Int32.ofInt_sub, Int32.ofInt_mul, Int32.ofInt_neg, p_and, p_or, p_xor, p_shl, p_shr, p_usr, p_w8, p_c16, p_lI, q_and, q_or, q_shl, q_shr, q_w32, Int64.ofInt_add, Int64.ofInt_sub, Int64.ofInt_mul, p_mx, p_mn, q_mx, q_mn]; rfl) ?_
  obtain ⟨s1, e2, hx⟩ := bd hx
  refine wx_pl (kf := 18) (ln := 3) (ci := 10) (b := 1) (zz := 0) (x := 134) (by decide +kernel) h (hS _ _ sx_134) rfl (by decide +kernel) e2 (fun w3 h4 => ?_)
  refine wp_g 2 (pc1 := 8) (lv1 := [(0, .ref 134), (1, .int (Int32.ofInt p1))]) (st1 := [.int (Int32.ofInt 0), .ref 134]) (w1 := w3) rfl ?_
  obtain ⟨s5, e6, hx⟩ := bd hx
  refine wx_pi (kf := 22) (ln := 3) (ci := 10) (b := 2) (zz := 0) (x := 134) (by decide +kernel) h4 (hS _ _ sx_134) rfl (by decide +kernel) e6 (fun w7 h8 => ?_)
  refine wp_g 2 (pc1 := 13) (lv1 := [(0, .ref 134), (1, .int (Int32.ofInt p1))]) (st1 := [.int (Int32.ofInt 0), .ref 134]) (w1 := w7) rfl ?_
  obtain ⟨s9, e10, hx⟩ := bd hx
  refine wx_pi (kf := 26) (ln := 3) (ci := 10) (b := 3) (zz := 0) (x := 134) (by decide +kernel) h8 (hS _ _ sx_134) rfl (by decide +kernel) e10 (fun w11 h12 => ?_)
  refine wp_rt (i := .return_) (r := none) (ln := 1) (a := 0) (b := 0) (z := 0) (by decide +kernel) rfl (ret_v (by decide +kernel)) ?_
  cases hx
  exact kr _ h12
/-- Trial.drawBelow (I)I -/
noncomputable def xd_drawBelow (s : Hp) (p1 : Int) : Option (Int × Hp) :=
  (some (uh s 134 1 (lAnd (((s 134 1) * 1103515245) + 12345) 2147483647))).bind fun s1 => if w32 p1 < w32 1 then some (0, s1) else if ¬ w64 (w32 p1) = 0 then some (lI (lRem (lShr (s1 134 1) 16) (w32 p1)), s1) else none
set_option maxRecDepth 100000 in
theorem xd_drawBelow_ok {d : Nat} {P : Option Value → pm_H → Prop} {w : pm_H} {sh : Shp} {w0 : pm_H} {s : Hp} (hS : St sh) {p1 : Int} (h : Rw sh w0 s w) {o : Int × Hp} (hx : xd_drawBelow s p1 = some o) (kr : ∀ w1, Rw sh w0 o.2 w1 → P (some (.int (Int32.ofInt o.1))) w1) : wp d 105 0 (lv_args 0 [.ref 134, .int (Int32.ofInt p1)]) [] w P := by
  show wp _ 105 0 [(0, .ref 134), (1, .int (Int32.ofInt p1))] [] w _
  unfold xd_drawBelow at hx
  refine wp_g 2 (pc1 := 2) (lv1 := [(0, .ref 134), (1, .int (Int32.ofInt p1))]) (st1 := [.ref 134, .ref 134]) (w1 := w) rfl ?_
  refine wx_gl (kf := 18) (ln := 3) (ci := 10) (b := 1) (zz := 0) (x := 134) (by decide +kernel) h (hS _ _ sx_134) rfl ?_
  show wp _ 105 5 [(0, .ref 134), (1, .int (Int32.ofInt p1))] [.long (Int64.ofInt (s 134 1)), .ref 134] w _
  refine wp_g 6 (pc1 := 17) (lv1 := [(0, .ref 134), (1, .int (Int32.ofInt p1))]) (st1 := [.long (Int64.ofInt (lAnd (((s 134 1) * 1103515245) + 12345) 2147483647)), .ref 134]) (w1 := w) (by simp only [Int32.ofInt_add, Int32.ofInt_sub, Int32.ofInt_mul, Int32.ofInt_neg, p_and, p_or, p_xor, p_shl, p_shr, p_usr, p_w8, p_c16, p_lI, q_and, q_or, q_shl, q_shr, q_w32, Int64.ofInt_add, Int64.ofInt_sub, Int64.ofInt_mul, p_mx, p_mn, q_mx, q_mn]; rfl) ?_
  obtain ⟨s1, e2, hx⟩ := bd hx
  refine wx_pl (kf := 18) (ln := 3) (ci := 10) (b := 1) (zz := 0) (x := 134) (by decide +kernel) h (hS _ _ sx_134) rfl (by decide +kernel) e2 (fun w3 h4 => ?_)
  refine wp_g 2 (pc1 := 22) (lv1 := [(0, .ref 134), (1, .int (Int32.ofInt p1))]) (st1 := [.int (Int32.ofInt 1), .int (Int32.ofInt p1)]) (w1 := w3) rfl ?_
  refine wx_ge (oo := 7) (ln := 3) (a := 29) (b := 0) (zz := 0) (by decide +kernel) (fun h5 => ?_) (fun h5 => ?_)
  · have hx := ite_f h5 hx
    refine wp_g 1 (pc1 := 30) (lv1 := [(0, .ref 134), (1, .int (Int32.ofInt p1))]) (st1 := [.ref 134]) (w1 := w3) rfl ?_
    refine wx_gl (kf := 18) (ln := 3) (ci := 10) (b := 1) (zz := 0) (x := 134) (by decide +kernel) h4 (hS _ _ sx_134) rfl ?_
    show wp _ 105 33 [(0, .ref 134), (1, .int (Int32.ofInt p1))] [.long (Int64.ofInt (s1 134 1))] w3 _
    refine wp_g 4 (pc1 := 38) (lv1 := [(0, .ref 134), (1, .int (Int32.ofInt p1))]) (st1 := [.long (Int64.ofInt (w32 p1)), .long (Int64.ofInt (lShr (s1 134 1) 16))]) (w1 := w3) (by simp only [Int32.ofInt_add, Int32.ofInt_sub, Int32.ofInt_mul, Int32.ofInt_neg, p_and, p_or, p_xor, p_shl, p_shr, p_usr, p_w8, p_c16, p_lI, q_and, q_or, q_shl, q_shr, q_w32, Int64.ofInt_add, Int64.ofInt_sub, Int64.ofInt_mul, p_mx, p_mn, q_mx, q_mn]; rfl) ?_
    obtain ⟨h6, hx⟩ := gd hx
    refine wx_lr (ln := 1) (a := 0) (b := 0) (zz := 0) (by decide +kernel) h6 ?_
    refine wp_g 1 (pc1 := 40) (lv1 := [(0, .ref 134), (1, .int (Int32.ofInt p1))]) (st1 := [.int (Int32.ofInt (lI (lRem (lShr (s1 134 1) 16) (w32 p1))))]) (w1 := w3) (by simp only [Int32.ofInt_add, Int32.ofInt_sub, Int32.ofInt_mul, Int32.ofInt_neg, p_and, p_or, p_xor, p_shl, p_shr, p_usr, p_w8, p_c16, p_lI, q_and, q_or, q_shl, q_shr, q_w32, Int64.ofInt_add, Int64.ofInt_sub, Int64.ofInt_mul, p_mx, p_mn, q_mx, q_mn]; rfl) ?_
    refine wp_rt (i := .ireturn) (r := some (.int (Int32.ofInt (lI (lRem (lShr (s1 134 1) 16) (w32 p1)))))) (ln := 1) (a := 0) (b := 0) (z := 0) (by decide +kernel) rfl (ret_ok (by decide +kernel)) ?_
    cases hx
    exact kr _ h4
  · have hx := ite_t h5 hx
    refine wp_g 2 (pc1 := 40) (lv1 := [(0, .ref 134), (1, .int (Int32.ofInt p1))]) (st1 := [.int (Int32.ofInt 0)]) (w1 := w3) rfl ?_
    refine wp_rt (i := .ireturn) (r := some (.int (Int32.ofInt 0))) (ln := 1) (a := 0) (b := 0) (z := 0) (by decide +kernel) rfl (ret_ok (by decide +kernel)) ?_
    cases hx
    exact kr _ h4
/-- Trial.tryFold (LMarket;LRule;II)V -/
noncomputable def xd_tryFold (ln : Nat → Nat) (rs : Nat → Int) (s : Hp) (u2 : Int) (p3 : Int) (p4 : Int) : Option Hp :=
  (xk_quote ln rs s 135 u2 p3 p4).bind fun o1 => if w32 o1.1 = w32 (-2) then some o1.2 else (ix 4 p3).bind fun i6 => if w32 (o1.2 143 i6) < w32 o1.1 then some o1.2 else (xk_settle o1.2 135 p3 p4).bind fun o9 => (some (uh o9 134 2 ((o9 134 2) + 1))).bind fun s13 => (some (uh s13 134 3 ((s13 134 3) + o1.1))).bind fun s17 => some s17
set_option maxRecDepth 100000 in
theorem xd_tryFold_ok {d : Nat} {P : Option Value → pm_H → Prop} {w : pm_H} {sh : Shp} {w0 : pm_H} {s : Hp} (hS : St sh) {ln : Nat → Nat} {rs : Nat → Int} (hG : ∀ i, okR ln sh (rs i)) {u2 : Int} (hu2 : okR ln sh u2) {p3 : Int} {p4 : Int} (h : Rw sh w0 s w) {o : Hp} (hx : xd_tryFold ln rs s u2 p3 p4 = some o) (kr : ∀ w1, Rw sh w0 o w1 → P none w1) : wp (d + 9) 104 0 (lv_args 0 [.ref 134, .ref 41, vR u2, .int (Int32.ofInt p3), .int (Int32.ofInt p4)]) [] w P := by
  rw [show lv_args 0 [.ref 134, .ref 41, vR u2, .int (Int32.ofInt p3), .int (Int32.ofInt p4)] = [(0, .ref 134), (1, .ref 41), (2, vR u2), (3, .int (Int32.ofInt p3)), (4, .int (Int32.ofInt p4))] from by rcases vR_c u2 with e | ⟨_, e⟩ <;> simp only [e] <;> rfl]
  unfold xd_tryFold at hx
  refine wp_g 2 (pc1 := 2) (lv1 := [(0, .ref 134), (1, .ref 41), (2, vR u2), (3, .int (Int32.ofInt p3)), (4, .int (Int32.ofInt p4))]) (st1 := [.ref 134, .ref 41]) (w1 := w) (by rcases vR_c u2 with e | ⟨_, e⟩ <;> simp only [e] <;> rfl) ?_
  refine wx_gr (o := 1) (kf := 12) (ln := 3) (ci := 10) (b := 0) (zz := 0) (x := 134) (by decide +kernel) h (hS _ _ sx_134) rfl ?_
  show wp _ 104 5 [(0, .ref 134), (1, .ref 41), (2, vR u2), (3, .int (Int32.ofInt p3)), (4, .int (Int32.ofInt p4))] [.ref 135, .ref 41] w _
  refine wp_g 3 (pc1 := 9) (lv1 := [(0, .ref 134), (1, .ref 41), (2, vR u2), (3, .int (Int32.ofInt p3)), (4, .int (Int32.ofInt p4))]) (st1 := [.int (Int32.ofInt p4), .int (Int32.ofInt p3), vR u2, .ref 135, .ref 41]) (w1 := w) (by rcases vR_c u2 with e | ⟨_, e⟩ <;> simp only [e] <;> rfl) ?_
  obtain ⟨o1, e2, hx⟩ := bd hx
  refine wp_cl [.ref 41, .ref 135, vR u2, .int (Int32.ofInt p3), .int (Int32.ofInt p4)] [] (i := .invokevirtual 50) (ln := 3) (a := 36) (b := 0) (z := 0) (by decide +kernel) rfl rfl (by decide) rfl (show (5 : Nat) = pm_na 36 by decide +kernel) (Nat.le_of_ble_eq_true rfl) (by rcases vR_c u2 with e | ⟨_, e⟩ <;> simp only [e] <;> exact (show (5 : Nat) ≤ pm_n 36 by decide +kernel)) (rcv_x 3 h (hS _ _ sx_41) (by decide +kernel)) (xk_quote_ok (d := d + 1) hS hG (okC_135 hS) hu2 h e2 (fun w3 h4 => ?_))
  show wp _ 104 12 [(0, .ref 134), (1, .ref 41), (2, vR u2), (3, .int (Int32.ofInt p3)), (4, .int (Int32.ofInt p4))] [.int (Int32.ofInt o1.1)] w3 _
  refine wp_g 3 (pc1 := 18) (lv1 := [(5, .int (Int32.ofInt o1.1)), (0, .ref 134), (1, .ref 41), (2, vR u2), (3, .int (Int32.ofInt p3)), (4, .int (Int32.ofInt p4))]) (st1 := [.int (Int32.ofInt (-2)), .int (Int32.ofInt o1.1)]) (w1 := w3) (by rcases vR_c u2 with e | ⟨_, e⟩ <;> simp only [e] <;> rfl) ?_
  refine wx_eq (oo := 49) (ln := 3) (a := 67) (b := 0) (zz := 0) (by decide +kernel) (fun h5 => ?_) (fun h5 => ?_)
  · have hx := ite_t h5 hx
    refine wp_rt (i := .return_) (r := none) (ln := 1) (a := 0) (b := 0) (z := 0) (by decide +kernel) rfl (ret_v (by decide +kernel)) ?_
    cases hx
    exact kr _ h4
  · have hx := ite_f h5 hx
    refine wp_g 2 (pc1 := 24) (lv1 := [(5, .int (Int32.ofInt o1.1)), (0, .ref 134), (1, .ref 41), (2, vR u2), (3, .int (Int32.ofInt p3)), (4, .int (Int32.ofInt p4))]) (st1 := [.ref 134, .int (Int32.ofInt o1.1)]) (w1 := w3) (by rcases vR_c u2 with e | ⟨_, e⟩ <;> simp only [e] <;> rfl) ?_
    refine wx_gr (o := 1) (kf := 12) (ln := 3) (ci := 10) (b := 0) (zz := 0) (x := 134) (by decide +kernel) h4 (hS _ _ sx_134) rfl ?_
    show wp _ 104 27 [(5, .int (Int32.ofInt o1.1)), (0, .ref 134), (1, .ref 41), (2, vR u2), (3, .int (Int32.ofInt p3)), (4, .int (Int32.ofInt p4))] [.ref 135, .int (Int32.ofInt o1.1)] w3 _
    refine wx_gr (o := 8) (kf := 56) (ln := 3) (ci := 0) (b := 11) (zz := 0) (x := 135) (by decide +kernel) h4 (hS _ _ sx_135) rfl ?_
    show wp _ 104 30 [(5, .int (Int32.ofInt o1.1)), (0, .ref 134), (1, .ref 41), (2, vR u2), (3, .int (Int32.ofInt p3)), (4, .int (Int32.ofInt p4))] [.ref 143, .int (Int32.ofInt o1.1)] w3 _
    refine wp_g 1 (pc1 := 31) (lv1 := [(5, .int (Int32.ofInt o1.1)), (0, .ref 134), (1, .ref 41), (2, vR u2), (3, .int (Int32.ofInt p3)), (4, .int (Int32.ofInt p4))]) (st1 := [.int (Int32.ofInt p3), .ref 143, .int (Int32.ofInt o1.1)]) (w1 := w3) (by rcases vR_c u2 with e | ⟨_, e⟩ <;> simp only [e] <;> rfl) ?_
    obtain ⟨i6, e7, hx⟩ := bd hx
    refine wx_ra (x := 143) (n := 4) (ln := 1) (a := 0) (b := 0) (zz := 0) (by decide +kernel) h4 (hS _ _ sx_143) e7 ?_
    show wp _ 104 32 [(5, .int (Int32.ofInt o1.1)), (0, .ref 134), (1, .ref 41), (2, vR u2), (3, .int (Int32.ofInt p3)), (4, .int (Int32.ofInt p4))] [.int (Int32.ofInt (o1.2 143 i6)), .int (Int32.ofInt o1.1)] w3 _
    refine wx_gt (oo := 35) (ln := 3) (a := 67) (b := 0) (zz := 0) (by decide +kernel) (fun h8 => ?_) (fun h8 => ?_)
    · have hx := ite_t h8 hx
      refine wp_rt (i := .return_) (r := none) (ln := 1) (a := 0) (b := 0) (z := 0) (by decide +kernel) rfl (ret_v (by decide +kernel)) ?_
      cases hx
      exact kr _ h4
    · have hx := ite_f h8 hx
      refine wp_g 2 (pc1 := 37) (lv1 := [(5, .int (Int32.ofInt o1.1)), (0, .ref 134), (1, .ref 41), (2, vR u2), (3, .int (Int32.ofInt p3)), (4, .int (Int32.ofInt p4))]) (st1 := [.ref 134, .ref 41]) (w1 := w3) (by rcases vR_c u2 with e | ⟨_, e⟩ <;> simp only [e] <;> rfl) ?_
      refine wx_gr (o := 1) (kf := 12) (ln := 3) (ci := 10) (b := 0) (zz := 0) (x := 134) (by decide +kernel) h4 (hS _ _ sx_134) rfl ?_
      show wp _ 104 40 [(5, .int (Int32.ofInt o1.1)), (0, .ref 134), (1, .ref 41), (2, vR u2), (3, .int (Int32.ofInt p3)), (4, .int (Int32.ofInt p4))] [.ref 135, .ref 41] w3 _
      refine wp_g 2 (pc1 := 43) (lv1 := [(5, .int (Int32.ofInt o1.1)), (0, .ref 134), (1, .ref 41), (2, vR u2), (3, .int (Int32.ofInt p3)), (4, .int (Int32.ofInt p4))]) (st1 := [.int (Int32.ofInt p4), .int (Int32.ofInt p3), .ref 135, .ref 41]) (w1 := w3) (by rcases vR_c u2 with e | ⟨_, e⟩ <;> simp only [e] <;> rfl) ?_
      obtain ⟨o9, e10, hx⟩ := bd hx
      refine wp_cl [.ref 41, .ref 135, .int (Int32.ofInt p3), .int (Int32.ofInt p4)] [] (i := .invokevirtual 60) (ln := 3) (a := 38) (b := 0) (z := 0) (by decide +kernel) rfl rfl (by decide) rfl (show (4 : Nat) = pm_na 38 by decide +kernel) (Nat.le_of_ble_eq_true rfl) (show (4 : Nat) ≤ pm_n 38 by decide +kernel) (rcv_x 3 h4 (hS _ _ sx_41) (by decide +kernel)) (xk_settle_ok (d := d) hS (okC_135 hS) h4 e10 (fun w11 h12 => ?_))
      show wp _ 104 46 [(5, .int (Int32.ofInt o1.1)), (0, .ref 134), (1, .ref 41), (2, vR u2), (3, .int (Int32.ofInt p3)), (4, .int (Int32.ofInt p4))] [] w11 _
      refine wp_g 2 (pc1 := 48) (lv1 := [(5, .int (Int32.ofInt o1.1)), (0, .ref 134), (1, .ref 41), (2, vR u2), (3, .int (Int32.ofInt p3)), (4, .int (Int32.ofInt p4))]) (st1 := [.ref 134, .ref 134]) (w1 := w11) (by rcases vR_c u2 with e | ⟨_, e⟩ <;> simp only [e] <;> rfl) ?_
      refine wx_gi (kf := 22) (ln := 3) (ci := 10) (b := 2) (zz := 0) (x := 134) (by decide +kernel) h12 (hS _ _ sx_134) rfl ?_
      show wp _ 104 51 [(5, .int (Int32.ofInt o1.1)), (0, .ref 134), (1, .ref 41), (2, vR u2), (3, .int (Int32.ofInt p3)), (4, .int (Int32.ofInt p4))] [.int (Int32.ofInt (o9 134 2)), .ref 134] w11 _
      refine wp_g 2 (pc1 := 53) (lv1 := [(5, .int (Int32.ofInt o1.1)), (0, .ref 134), (1, .ref 41), (2, vR u2), (3, .int (Int32.ofInt p3)), (4, .int (Int32.ofInt p4))]) (st1 := [.int (Int32.ofInt ((o9 134 2) + 1)), .ref 134]) (w1 := w11) (by simp only [Int32.ofInt_add, Int32.ofInt_sub, Int32.ofInt_mul, Int32.ofInt_neg, p_and, p_or, p_xor, p_shl, p_shr, p_usr, p_w8, p_c16, p_lI, q_and, q_or, q_shl, q_shr, q_w32, Int64.ofInt_add, Int64.ofInt_sub, Int64.ofInt_mul, p_mx, p_mn, q_mx, q_mn]; rcases vR_c u2 with e | ⟨_, e⟩ <;> simp only [e] <;> rfl) ?_
      obtain ⟨s13, e14, hx⟩ := bd hx
      refine wx_pi (kf := 22) (ln := 3) (ci := 10) (b := 2) (zz := 0) (x := 134) (by decide +kernel) h12 (hS _ _ sx_134) rfl (by decide +kernel) e14 (fun w15 h16 => ?_)
      refine wp_g 2 (pc1 := 58) (lv1 := [(5, .int (Int32.ofInt o1.1)), (0, .ref 134), (1, .ref 41), (2, vR u2), (3, .int (Int32.ofInt p3)), (4, .int (Int32.ofInt p4))]) (st1 := [.ref 134, .ref 134]) (w1 := w15) (by rcases vR_c u2 with e | ⟨_, e⟩ <;> simp only [e] <;> rfl) ?_
      refine wx_gi (kf := 26) (ln := 3) (ci := 10) (b := 3) (zz := 0) (x := 134) (by decide +kernel) h16 (hS _ _ sx_134) rfl ?_
      show wp _ 104 61 [(5, .int (Int32.ofInt o1.1)), (0, .ref 134), (1, .ref 41), (2, vR u2), (3, .int (Int32.ofInt p3)), (4, .int (Int32.ofInt p4))] [.int (Int32.ofInt (s13 134 3)), .ref 134] w15 _
      refine wp_g 2 (pc1 := 64) (lv1 := [(5, .int (Int32.ofInt o1.1)), (0, .ref 134), (1, .ref 41), (2, vR u2), (3, .int (Int32.ofInt p3)), (4, .int (Int32.ofInt p4))]) (st1 := [.int (Int32.ofInt ((s13 134 3) + o1.1)), .ref 134]) (w1 := w15) (by simp only [Int32.ofInt_add, Int32.ofInt_sub, Int32.ofInt_mul, Int32.ofInt_neg, p_and, p_or, p_xor, p_shl, p_shr, p_usr, p_w8, p_c16, p_lI, q_and, q_or, q_shl, q_shr, q_w32, Int64.ofInt_add, Int64.ofInt_sub, Int64.ofInt_mul, p_mx, p_mn, q_mx, q_mn]; rcases vR_c u2 with e | ⟨_, e⟩ <;> simp only [e] <;> rfl) ?_
      obtain ⟨s17, e18, hx⟩ := bd hx
      refine wx_pi (kf := 26) (ln := 3) (ci := 10) (b := 3) (zz := 0) (x := 134) (by decide +kernel) h16 (hS _ _ sx_134) rfl (by decide +kernel) e18 (fun w19 h20 => ?_)
      refine wp_rt (i := .return_) (r := none) (ln := 1) (a := 0) (b := 0) (z := 0) (by decide +kernel) rfl (ret_v (by decide +kernel)) ?_
      cases hx
      exact kr _ h20
noncomputable def xd_run_b19 (ln : Nat → Nat) (rs : Nat → Int) (s : Hp) (u2 : Int) (a3 : Nat) (x4 : Int) (x5 : Int) : Option ((Int × Hp) ⊕ (Int × Hp)) :=
  if w32 x5 < w32 x4 then (xd_drawBelow s (s 135 1)).bind fun o2 => if w32 (o2.2 135 2) = w32 1 then (xl_layOpen o2.2 135).bind fun o23 => some (.inl (x5 + 1, o23)) else (xd_drawBelow o2.2 ((o2.2 135 2) - 1)).bind fun o7 => (xd_drawBelow o7.2 2).bind fun o11 => (xd_drawBelow o11.2 2).bind fun o15 => (xd_tryFold ln rs o15.2 u2 o2.1 (((4 * o7.1) + (2 * o11.1)) + o15.1)).bind fun o19 => some (.inl (x5 + 1, o19)) else some (.inr (x5, s))
set_option maxRecDepth 100000 in
theorem xd_run_b19_ok {d : Nat} {P : Option Value → pm_H → Prop} {w : pm_H} {sh : Shp} {w0 : pm_H} {s : Hp} (hS : St sh) {ln : Nat → Nat} {rs : Nat → Int} (hG : ∀ i, okR ln sh (rs i)) {u2 : Int} (hu2 : okR ln sh u2) {a3 r3 : Nat} (ca3 : okC r3 sh a3) {x4 : Int} {x5 : Int} (h : Rw sh w0 s w) {o : ((Int × Hp) ⊕ (Int × Hp))} (hx : xd_run_b19 ln rs s u2 a3 x4 x5 = some o) (kn : ∀ (q : Int × Hp) w1, o = .inl q → Rw sh w0 q.2 w1 → wp (d + 10) 103 19 [(0, .ref 134), (1, .ref 41), (2, vR u2), (4, .int (Int32.ofInt x4)), (5, .int (Int32.ofInt q.1))] [] w1 P) (kc : ∀ (r : (Int × Hp)), o = .inr r → (∀ w1, Rw sh w0 r.2 w1 → wp (d + 10) 103 115 [(0, .ref 134), (1, .ref 41), (2, vR u2), (4, .int (Int32.ofInt x4)), (5, .int (Int32.ofInt r.1))] [] w1 P)) : wp (d + 10) 103 19 [(0, .ref 134), (1, .ref 41), (2, vR u2), (4, .int (Int32.ofInt x4)), (5, .int (Int32.ofInt x5))] [] w P := by
  unfold xd_run_b19 at hx
  refine wp_g 2 (pc1 := 23) (lv1 := [(0, .ref 134), (1, .ref 41), (2, vR u2), (4, .int (Int32.ofInt x4)), (5, .int (Int32.ofInt x5))]) (st1 := [.int (Int32.ofInt x4), .int (Int32.ofInt x5)]) (w1 := w) (by rcases vR_c u2 with e | ⟨_, e⟩ <;> simp only [e] <;> rfl) ?_
  refine wx_ge (oo := 92) (ln := 3) (a := 115) (b := 0) (zz := 0) (by decide +kernel) (fun h1 => ?_) (fun h1 => ?_)
  · have hx := ite_f h1 hx
    cases hx
    exact kc _ rfl _ h
  · have hx := ite_t h1 hx
    refine wp_g 2 (pc1 := 28) (lv1 := [(0, .ref 134), (1, .ref 41), (2, vR u2), (4, .int (Int32.ofInt x4)), (5, .int (Int32.ofInt x5))]) (st1 := [.ref 134, .ref 134]) (w1 := w) (by rcases vR_c u2 with e | ⟨_, e⟩ <;> simp only [e] <;> rfl) ?_
    refine wx_gr (o := 1) (kf := 12) (ln := 3) (ci := 10) (b := 0) (zz := 0) (x := 134) (by decide +kernel) h (hS _ _ sx_134) rfl ?_
    show wp _ 103 31 [(0, .ref 134), (1, .ref 41), (2, vR u2), (4, .int (Int32.ofInt x4)), (5, .int (Int32.ofInt x5))] [.ref 135, .ref 134] w _
    refine wx_gi (kf := 29) (ln := 3) (ci := 0) (b := 1) (zz := 0) (x := 135) (by decide +kernel) h (hS _ _ sx_135) rfl ?_
    show wp _ 103 34 [(0, .ref 134), (1, .ref 41), (2, vR u2), (4, .int (Int32.ofInt x4)), (5, .int (Int32.ofInt x5))] [.int (Int32.ofInt (s 135 1)), .ref 134] w _
    obtain ⟨o2, e3, hx⟩ := bd hx
    refine wp_cl [.ref 134, .int (Int32.ofInt (s 135 1))] [] (i := .invokevirtual 36) (ln := 3) (a := 105) (b := 0) (z := 0) (by decide +kernel) rfl rfl (by decide) rfl (show (2 : Nat) = pm_na 105 by decide +kernel) (Nat.le_of_ble_eq_true rfl) (show (2 : Nat) ≤ pm_n 105 by decide +kernel) (rcv_x 10 h (hS _ _ sx_134) (by decide +kernel)) (xd_drawBelow_ok (d := d + 9) hS h e3 (fun w4 h5 => ?_))
    show wp _ 103 37 [(0, .ref 134), (1, .ref 41), (2, vR u2), (4, .int (Int32.ofInt x4)), (5, .int (Int32.ofInt x5))] [.int (Int32.ofInt o2.1)] w4 _
    refine wp_g 2 (pc1 := 40) (lv1 := [(6, .int (Int32.ofInt o2.1)), (0, .ref 134), (1, .ref 41), (2, vR u2), (4, .int (Int32.ofInt x4)), (5, .int (Int32.ofInt x5))]) (st1 := [.ref 134]) (w1 := w4) (by rcases vR_c u2 with e | ⟨_, e⟩ <;> simp only [e] <;> rfl) ?_
    refine wx_gr (o := 1) (kf := 12) (ln := 3) (ci := 10) (b := 0) (zz := 0) (x := 134) (by decide +kernel) h5 (hS _ _ sx_134) rfl ?_
    show wp _ 103 43 [(6, .int (Int32.ofInt o2.1)), (0, .ref 134), (1, .ref 41), (2, vR u2), (4, .int (Int32.ofInt x4)), (5, .int (Int32.ofInt x5))] [.ref 135] w4 _
    refine wx_gi (kf := 40) (ln := 3) (ci := 0) (b := 2) (zz := 0) (x := 135) (by decide +kernel) h5 (hS _ _ sx_135) rfl ?_
    show wp _ 103 46 [(6, .int (Int32.ofInt o2.1)), (0, .ref 134), (1, .ref 41), (2, vR u2), (4, .int (Int32.ofInt x4)), (5, .int (Int32.ofInt x5))] [.int (Int32.ofInt (o2.2 135 2))] w4 _
    refine wp_g 1 (pc1 := 47) (lv1 := [(6, .int (Int32.ofInt o2.1)), (0, .ref 134), (1, .ref 41), (2, vR u2), (4, .int (Int32.ofInt x4)), (5, .int (Int32.ofInt x5))]) (st1 := [.int (Int32.ofInt 1), .int (Int32.ofInt (o2.2 135 2))]) (w1 := w4) (by rcases vR_c u2 with e | ⟨_, e⟩ <;> simp only [e] <;> rfl) ?_
    refine wx_ne (oo := 13) (ln := 3) (a := 60) (b := 0) (zz := 0) (by decide +kernel) (fun h6 => ?_) (fun h6 => ?_)
    · have hx := ite_f h6 hx
      refine wp_g 2 (pc1 := 62) (lv1 := [(6, .int (Int32.ofInt o2.1)), (0, .ref 134), (1, .ref 41), (2, vR u2), (4, .int (Int32.ofInt x4)), (5, .int (Int32.ofInt x5))]) (st1 := [.ref 134, .ref 134]) (w1 := w4) (by rcases vR_c u2 with e | ⟨_, e⟩ <;> simp only [e] <;> rfl) ?_
      refine wx_gr (o := 1) (kf := 12) (ln := 3) (ci := 10) (b := 0) (zz := 0) (x := 134) (by decide +kernel) h5 (hS _ _ sx_134) rfl ?_
      show wp _ 103 65 [(6, .int (Int32.ofInt o2.1)), (0, .ref 134), (1, .ref 41), (2, vR u2), (4, .int (Int32.ofInt x4)), (5, .int (Int32.ofInt x5))] [.ref 135, .ref 134] w4 _
      refine wx_gi (kf := 40) (ln := 3) (ci := 0) (b := 2) (zz := 0) (x := 135) (by decide +kernel) h5 (hS _ _ sx_135) rfl ?_
      show wp _ 103 68 [(6, .int (Int32.ofInt o2.1)), (0, .ref 134), (1, .ref 41), (2, vR u2), (4, .int (Int32.ofInt x4)), (5, .int (Int32.ofInt x5))] [.int (Int32.ofInt (o2.2 135 2)), .ref 134] w4 _
      refine wp_g 2 (pc1 := 70) (lv1 := [(6, .int (Int32.ofInt o2.1)), (0, .ref 134), (1, .ref 41), (2, vR u2), (4, .int (Int32.ofInt x4)), (5, .int (Int32.ofInt x5))]) (st1 := [.int (Int32.ofInt ((o2.2 135 2) - 1)), .ref 134]) (w1 := w4) (by simp only [Int32.ofInt_add, Int32.ofInt_sub, Int32.ofInt_mul, Int32.ofInt_neg, p_and, p_or, p_xor, p_shl, p_shr, p_usr, p_w8, p_c16, p_lI, q_and, q_or, q_shl, q_shr, q_w32, Int64.ofInt_add, Int64.ofInt_sub, Int64.ofInt_mul, p_mx, p_mn, q_mx, q_mn]; rcases vR_c u2 with e | ⟨_, e⟩ <;> simp only [e] <;> rfl) ?_
      obtain ⟨o7, e8, hx⟩ := bd hx
      refine wp_cl [.ref 134, .int (Int32.ofInt ((o2.2 135 2) - 1))] [] (i := .invokevirtual 36) (ln := 3) (a := 105) (b := 0) (z := 0) (by decide +kernel) rfl rfl (by decide) rfl (show (2 : Nat) = pm_na 105 by decide +kernel) (Nat.le_of_ble_eq_true rfl) (show (2 : Nat) ≤ pm_n 105 by decide +kernel) (rcv_x 10 h5 (hS _ _ sx_134) (by decide +kernel)) (xd_drawBelow_ok (d := d + 9) hS h5 e8 (fun w9 h10 => ?_))
      show wp _ 103 73 [(6, .int (Int32.ofInt o2.1)), (0, .ref 134), (1, .ref 41), (2, vR u2), (4, .int (Int32.ofInt x4)), (5, .int (Int32.ofInt x5))] [.int (Int32.ofInt o7.1)] w9 _
      refine wp_g 3 (pc1 := 77) (lv1 := [(7, .int (Int32.ofInt o7.1)), (6, .int (Int32.ofInt o2.1)), (0, .ref 134), (1, .ref 41), (2, vR u2), (4, .int (Int32.ofInt x4)), (5, .int (Int32.ofInt x5))]) (st1 := [.int (Int32.ofInt 2), .ref 134]) (w1 := w9) (by rcases vR_c u2 with e | ⟨_, e⟩ <;> simp only [e] <;> rfl) ?_
      obtain ⟨o11, e12, hx⟩ := bd hx
      refine wp_cl [.ref 134, .int (Int32.ofInt 2)] [] (i := .invokevirtual 36) (ln := 3) (a := 105) (b := 0) (z := 0) (by decide +kernel) rfl rfl (by decide) rfl (show (2 : Nat) = pm_na 105 by decide +kernel) (Nat.le_of_ble_eq_true rfl) (show (2 : Nat) ≤ pm_n 105 by decide +kernel) (rcv_x 10 h10 (hS _ _ sx_134) (by decide +kernel)) (xd_drawBelow_ok (d := d + 9) hS h10 e12 (fun w13 h14 => ?_))
      show wp _ 103 80 [(7, .int (Int32.ofInt o7.1)), (6, .int (Int32.ofInt o2.1)), (0, .ref 134), (1, .ref 41), (2, vR u2), (4, .int (Int32.ofInt x4)), (5, .int (Int32.ofInt x5))] [.int (Int32.ofInt o11.1)] w13 _
      refine wp_g 3 (pc1 := 84) (lv1 := [(8, .int (Int32.ofInt o11.1)), (7, .int (Int32.ofInt o7.1)), (6, .int (Int32.ofInt o2.1)), (0, .ref 134), (1, .ref 41), (2, vR u2), (4, .int (Int32.ofInt x4)), (5, .int (Int32.ofInt x5))]) (st1 := [.int (Int32.ofInt 2), .ref 134]) (w1 := w13) (by rcases vR_c u2 with e | ⟨_, e⟩ <;> simp only [e] <;> rfl) ?_
      obtain ⟨o15, e16, hx⟩ := bd hx
      refine wp_cl [.ref 134, .int (Int32.ofInt 2)] [] (i := .invokevirtual 36) (ln := 3) (a := 105) (b := 0) (z := 0) (by decide +kernel) rfl rfl (by decide) rfl (show (2 : Nat) = pm_na 105 by decide +kernel) (Nat.le_of_ble_eq_true rfl) (show (2 : Nat) ≤ pm_n 105 by decide +kernel) (rcv_x 10 h14 (hS _ _ sx_134) (by decide +kernel)) (xd_drawBelow_ok (d := d + 9) hS h14 e16 (fun w17 h18 => ?_))
      show wp _ 103 87 [(8, .int (Int32.ofInt o11.1)), (7, .int (Int32.ofInt o7.1)), (6, .int (Int32.ofInt o2.1)), (0, .ref 134), (1, .ref 41), (2, vR u2), (4, .int (Int32.ofInt x4)), (5, .int (Int32.ofInt x5))] [.int (Int32.ofInt o15.1)] w17 _
      refine wp_g 14 (pc1 := 106) (lv1 := [(9, .int (Int32.ofInt o15.1)), (8, .int (Int32.ofInt o11.1)), (7, .int (Int32.ofInt o7.1)), (6, .int (Int32.ofInt o2.1)), (0, .ref 134), (1, .ref 41), (2, vR u2), (4, .int (Int32.ofInt x4)), (5, .int (Int32.ofInt x5))]) (st1 := [.int (Int32.ofInt (((4 * o7.1) + (2 * o11.1)) + o15.1)), .int (Int32.ofInt o2.1), vR u2, .ref 41, .ref 134]) (w1 := w17) (by simp only [Int32.ofInt_add, Int32.ofInt_sub, Int32.ofInt_mul, Int32.ofInt_neg, p_and, p_or, p_xor, p_shl, p_shr, p_usr, p_w8, p_c16, p_lI, q_and, q_or, q_shl, q_shr, q_w32, Int64.ofInt_add, Int64.ofInt_sub, Int64.ofInt_mul, p_mx, p_mn, q_mx, q_mn]; rcases vR_c u2 with e | ⟨_, e⟩ <;> simp only [e] <;> rfl) ?_
      obtain ⟨o19, e20, hx⟩ := bd hx
      refine wp_cl [.ref 134, .ref 41, vR u2, .int (Int32.ofInt o2.1), .int (Int32.ofInt (((4 * o7.1) + (2 * o11.1)) + o15.1))] [] (i := .invokevirtual 46) (ln := 3) (a := 104) (b := 0) (z := 0) (by decide +kernel) rfl rfl (by decide) rfl (show (5 : Nat) = pm_na 104 by decide +kernel) (Nat.le_of_ble_eq_true rfl) (by rcases vR_c u2 with e | ⟨_, e⟩ <;> simp only [e] <;> exact (show (5 : Nat) ≤ pm_n 104 by decide +kernel)) (rcv_x 10 h18 (hS _ _ sx_134) (by decide +kernel)) (xd_tryFold_ok (d := d) hS hG hu2 h18 e20 (fun w21 h22 => ?_))
      show wp _ 103 109 [(9, .int (Int32.ofInt o15.1)), (8, .int (Int32.ofInt o11.1)), (7, .int (Int32.ofInt o7.1)), (6, .int (Int32.ofInt o2.1)), (0, .ref 134), (1, .ref 41), (2, vR u2), (4, .int (Int32.ofInt x4)), (5, .int (Int32.ofInt x5))] [] w21 _
      refine wp_g 2 (pc1 := 19) (lv1 := [(5, .int (Int32.ofInt (x5 + 1))), (9, .int (Int32.ofInt o15.1)), (8, .int (Int32.ofInt o11.1)), (7, .int (Int32.ofInt o7.1)), (6, .int (Int32.ofInt o2.1)), (0, .ref 134), (1, .ref 41), (2, vR u2), (4, .int (Int32.ofInt x4))]) (st1 := []) (w1 := w21) (by simp only [Int32.ofInt_add, Int32.ofInt_sub, Int32.ofInt_mul, Int32.ofInt_neg, p_and, p_or, p_xor, p_shl, p_shr, p_usr, p_w8, p_c16, p_lI, q_and, q_or, q_shl, q_shr, q_w32, Int64.ofInt_add, Int64.ofInt_sub, Int64.ofInt_mul, p_mx, p_mn, q_mx, q_mn]; rcases vR_c u2 with e | ⟨_, e⟩ <;> simp only [e] <;> rfl) ?_
      refine wp_lv (lv1 := [(0, .ref 134), (1, .ref 41), (2, vR u2), (4, .int (Int32.ofInt x4)), (5, .int (Int32.ofInt (x5 + 1)))]) (lsub_p [5, 6, 7, 8, 0] rfl rfl rfl) ?_
      cases hx
      exact kn _ _ rfl h22
    · have hx := ite_t h6 hx
      refine wp_g 1 (pc1 := 51) (lv1 := [(6, .int (Int32.ofInt o2.1)), (0, .ref 134), (1, .ref 41), (2, vR u2), (4, .int (Int32.ofInt x4)), (5, .int (Int32.ofInt x5))]) (st1 := [.ref 134]) (w1 := w4) (by rcases vR_c u2 with e | ⟨_, e⟩ <;> simp only [e] <;> rfl) ?_
      refine wx_gr (o := 1) (kf := 12) (ln := 3) (ci := 10) (b := 0) (zz := 0) (x := 134) (by decide +kernel) h5 (hS _ _ sx_134) rfl ?_
      show wp _ 103 54 [(6, .int (Int32.ofInt o2.1)), (0, .ref 134), (1, .ref 41), (2, vR u2), (4, .int (Int32.ofInt x4)), (5, .int (Int32.ofInt x5))] [.ref 135] w4 _
      obtain ⟨o23, e24, hx⟩ := bd hx
      refine wp_cl [.ref 135] [] (i := .invokevirtual 43) (ln := 3) (a := 3) (b := 0) (z := 0) (by decide +kernel) rfl rfl (by decide) rfl (show (1 : Nat) = pm_na 3 by decide +kernel) (Nat.le_of_ble_eq_true rfl) (show (1 : Nat) ≤ pm_n 3 by decide +kernel) (rcv_x 0 h5 (hS _ _ sx_135) (by decide +kernel)) (xl_layOpen_ok (d := d + 9) hS (okC_135 hS) h5 e24 (fun w25 h26 => ?_))
      show wp _ 103 57 [(6, .int (Int32.ofInt o2.1)), (0, .ref 134), (1, .ref 41), (2, vR u2), (4, .int (Int32.ofInt x4)), (5, .int (Int32.ofInt x5))] [] w25 _
      refine wp_g 3 (pc1 := 19) (lv1 := [(5, .int (Int32.ofInt (x5 + 1))), (6, .int (Int32.ofInt o2.1)), (0, .ref 134), (1, .ref 41), (2, vR u2), (4, .int (Int32.ofInt x4))]) (st1 := []) (w1 := w25) (by simp only [Int32.ofInt_add, Int32.ofInt_sub, Int32.ofInt_mul, Int32.ofInt_neg, p_and, p_or, p_xor, p_shl, p_shr, p_usr, p_w8, p_c16, p_lI, q_and, q_or, q_shl, q_shr, q_w32, Int64.ofInt_add, Int64.ofInt_sub, Int64.ofInt_mul, p_mx, p_mn, q_mx, q_mn]; rcases vR_c u2 with e | ⟨_, e⟩ <;> simp only [e] <;> rfl) ?_
      refine wp_lv (lv1 := [(0, .ref 134), (1, .ref 41), (2, vR u2), (4, .int (Int32.ofInt x4)), (5, .int (Int32.ofInt (x5 + 1)))]) (lsub_p [2, 3, 4, 5, 0] rfl rfl rfl) ?_
      cases hx
      exact kn _ _ rfl h26
/-- Trial.run (LMarket;LRule;LCloth;I)V -/
noncomputable def xd_run (ln : Nat → Nat) (rs : Nat → Int) (s : Hp) (u2 : Int) (a3 : Nat) (p4 : Int) : Option Hp :=
  if w32 (s a3 1) = 0 then some s else (xl_copyFrom s 135 a3).bind fun o2 => (lp (fun (q : Int × Hp) => xd_run_b19 ln rs q.2 u2 a3 p4 q.1) (0, o2)).bind fun q6 => some q6.2
set_option maxRecDepth 100000 in
theorem xd_run_ok {d : Nat} {P : Option Value → pm_H → Prop} {w : pm_H} {sh : Shp} {w0 : pm_H} {s : Hp} (hS : St sh) {ln : Nat → Nat} {rs : Nat → Int} (hG : ∀ i, okR ln sh (rs i)) {u2 : Int} (hu2 : okR ln sh u2) {a3 r3 : Nat} (ca3 : okC r3 sh a3) {p4 : Int} (h : Rw sh w0 s w) {o : Hp} (hx : xd_run ln rs s u2 a3 p4 = some o) (kr : ∀ w1, Rw sh w0 o w1 → P none w1) : wp (d + 10) 103 0 (lv_args 0 [.ref 134, .ref 41, vR u2, .ref a3, .int (Int32.ofInt p4)]) [] w P := by
  rw [show lv_args 0 [.ref 134, .ref 41, vR u2, .ref a3, .int (Int32.ofInt p4)] = [(0, .ref 134), (1, .ref 41), (2, vR u2), (3, .ref a3), (4, .int (Int32.ofInt p4))] from by rcases vR_c u2 with e | ⟨_, e⟩ <;> simp only [e] <;> rfl]
  unfold xd_run at hx
  refine wp_g 1 (pc1 := 1) (lv1 := [(0, .ref 134), (1, .ref 41), (2, vR u2), (3, .ref a3), (4, .int (Int32.ofInt p4))]) (st1 := [.ref a3]) (w1 := w) (by rcases vR_c u2 with e | ⟨_, e⟩ <;> simp only [e] <;> rfl) ?_
  refine wx_gi (kf := 29) (ln := 3) (ci := 0) (b := 1) (zz := 0) (x := a3) (by decide +kernel) h ca3.1 rfl ?_
  show wp _ 103 4 [(0, .ref 134), (1, .ref 41), (2, vR u2), (3, .ref a3), (4, .int (Int32.ofInt p4))] [.int (Int32.ofInt (s a3 1))] w _
  refine wz_ne (oo := 4) (ln := 3) (a := 8) (b := 0) (zz := 0) (by decide +kernel) (fun h1 => ?_) (fun h1 => ?_)
  · have hx := ite_f h1 hx
    refine wp_g 1 (pc1 := 9) (lv1 := [(0, .ref 134), (1, .ref 41), (2, vR u2), (3, .ref a3), (4, .int (Int32.ofInt p4))]) (st1 := [.ref 134]) (w1 := w) (by rcases vR_c u2 with e | ⟨_, e⟩ <;> simp only [e] <;> rfl) ?_
    refine wx_gr (o := 1) (kf := 12) (ln := 3) (ci := 10) (b := 0) (zz := 0) (x := 134) (by decide +kernel) h (hS _ _ sx_134) rfl ?_
    show wp _ 103 12 [(0, .ref 134), (1, .ref 41), (2, vR u2), (3, .ref a3), (4, .int (Int32.ofInt p4))] [.ref 135] w _
    refine wp_g 1 (pc1 := 13) (lv1 := [(0, .ref 134), (1, .ref 41), (2, vR u2), (3, .ref a3), (4, .int (Int32.ofInt p4))]) (st1 := [.ref a3, .ref 135]) (w1 := w) (by rcases vR_c u2 with e | ⟨_, e⟩ <;> simp only [e] <;> rfl) ?_
    obtain ⟨o2, e3, hx⟩ := bd hx
    refine wp_cl [.ref 135, .ref a3] [] (i := .invokevirtual 32) (ln := 3) (a := 1) (b := 0) (z := 0) (by decide +kernel) rfl rfl (by decide) rfl (show (2 : Nat) = pm_na 1 by decide +kernel) (Nat.le_of_ble_eq_true rfl) (show (2 : Nat) ≤ pm_n 1 by decide +kernel) (rcv_x 0 h (hS _ _ sx_135) (by decide +kernel)) (xl_copyFrom_ok (d := d + 3) hS (okC_135 hS) ca3 h e3 (fun w4 h5 => ?_))
    show wp _ 103 16 [(0, .ref 134), (1, .ref 41), (2, vR u2), (3, .ref a3), (4, .int (Int32.ofInt p4))] [] w4 _
    refine wp_g 2 (pc1 := 19) (lv1 := [(5, .int (Int32.ofInt 0)), (0, .ref 134), (1, .ref 41), (2, vR u2), (3, .ref a3), (4, .int (Int32.ofInt p4))]) (st1 := []) (w1 := w4) (by rcases vR_c u2 with e | ⟨_, e⟩ <;> simp only [e] <;> rfl) ?_
    refine wp_lv (lv1 := [(0, .ref 134), (1, .ref 41), (2, vR u2), (4, .int (Int32.ofInt p4)), (5, .int (Int32.ofInt 0))]) (lsub_p [1, 2, 3, 5, 0] rfl rfl rfl) ?_
    obtain ⟨q6, e7, hx⟩ := bd hx
    refine wp_lp (σ := Int × Hp) (ρ := (Int × Hp)) (B := fun q => xd_run_b19 ln rs q.2 u2 a3 p4 q.1) (R := fun q w' => Rw sh w0 q.2 w') (C := fun r => ∀ w1, Rw sh w0 r.2 w1 → wp (d + 10) 103 115 [(0, .ref 134), (1, .ref 41), (2, vR u2), (4, .int (Int32.ofInt p4)), (5, .int (Int32.ofInt r.1))] [] w1 P) (lv := fun q => [(0, .ref 134), (1, .ref 41), (2, vR u2), (4, .int (Int32.ofInt p4)), (5, .int (Int32.ofInt q.1))]) (hd := 19) (fun q w' o hR hb kn kc => xd_run_b19_ok hS hG hu2 ca3 hR hb kn kc) _ _ _ e7 h5 ?_
    intro w8 h9
    show wp _ 103 115 [(0, .ref 134), (1, .ref 41), (2, vR u2), (4, .int (Int32.ofInt p4)), (5, .int (Int32.ofInt q6.1))] [] w8 _
    refine wp_rt (i := .return_) (r := none) (ln := 1) (a := 0) (b := 0) (z := 0) (by decide +kernel) rfl (ret_v (by decide +kernel)) ?_
    cases hx
    exact kr _ h9
  · have hx := ite_t h1 hx
    refine wp_rt (i := .return_) (r := none) (ln := 1) (a := 0) (b := 0) (z := 0) (by decide +kernel) rfl (ret_v (by decide +kernel)) ?_
    cases hx
    exact kr _ h
