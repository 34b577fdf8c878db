/-! by program (wip/whole/gx.py) -/
noncomputable def xm_keeps_b2 (s : Hp) (x1 : Int) : Option ((Int × Hp) ⊕ (Int × Hp)) :=
  if w32 x1 < w32 45 then (ix 130 (10 + x1)).bind fun i2 => (ix 45 x1).bind fun i4 => (some (uh s 160 i4 (s 156 i2))).bind fun s6 => some (.inl (x1 + 1, s6)) else some (.inr (x1, s))
set_option maxRecDepth 100000 in
theorem xm_keeps_b2_ok {d : Nat} {P : Option Value → pm_H → Prop} {w : pm_H} {sh : Shp} {w0 : pm_H} {s : Hp} (hS : StM sh) {x1 : Int} (h : Rw sh w0 s w) {o : ((Int × Hp) ⊕ (Int × Hp))} (hx : xm_keeps_b2 s x1 = some o) (kn : ∀ (q : Int × Hp) w1, o = .inl q → Rw sh w0 q.2 w1 → wp d 226 2 [(0, .ref 146), (1, .int (Int32.ofInt q.1))] [] w1 P) (kc : ∀ (r : (Int × Hp)), o = .inr r → (∀ w1, Rw sh w0 r.2 w1 → wp d 226 29 [(0, .ref 146), (1, .int (Int32.ofInt r.1))] [] w1 P)) : wp d 226 2 [(0, .ref 146), (1, .int (Int32.ofInt x1))] [] w P := by
  unfold xm_keeps_b2 at hx
  refine wp_g 2 (pc1 := 5) (lv1 := [(0, .ref 146), (1, .int (Int32.ofInt x1))]) (st1 := [.int (Int32.ofInt 45), .int (Int32.ofInt x1)]) (w1 := w) rfl ?_
  refine wx_ge (oo := 24) (ln := 3) (a := 29) (b := 0) (zz := 0) (by decide +kernel) (fun h1 => ?_) (fun h1 => ?_)
  · have hx := ite_f h1 hx
    cases hx
    exact kc _ rfl _ h
  · have hx := ite_t h1 hx
    refine wp_g 1 (pc1 := 9) (lv1 := [(0, .ref 146), (1, .int (Int32.ofInt x1))]) (st1 := [.ref 146]) (w1 := w) rfl ?_
    refine wx_gr (o := 14) (kf := 55) (ln := 3) (ci := 12) (b := 27) (zz := 0) (x := 146) (by decide +kernel) h (hS _ _ sm_146) rfl ?_
    show wp _ 226 12 [(0, .ref 146), (1, .int (Int32.ofInt x1))] [.ref 160] w _
    refine wp_g 2 (pc1 := 14) (lv1 := [(0, .ref 146), (1, .int (Int32.ofInt x1))]) (st1 := [.ref 146, .int (Int32.ofInt x1), .ref 160]) (w1 := w) rfl ?_
    refine wx_gr (o := 10) (kf := 39) (ln := 3) (ci := 12) (b := 20) (zz := 0) (x := 146) (by decide +kernel) h (hS _ _ sm_146) rfl ?_
    show wp _ 226 17 [(0, .ref 146), (1, .int (Int32.ofInt x1))] [.ref 156, .int (Int32.ofInt x1), .ref 160] w _
    refine wp_g 3 (pc1 := 21) (lv1 := [(0, .ref 146), (1, .int (Int32.ofInt x1))]) (st1 := [.int (Int32.ofInt (10 + x1)), .ref 156, .int (Int32.ofInt x1), .ref 160]) (w1 := w) (by simp only [Int32.ofInt_add, Int32.ofInt_sub, Int32.ofInt_mul, Int32.ofInt_neg, p_and, p_or, p_xor, p_shl, p_shr, p_usr, p_w8, p_c16, p_lI, q_and, q_or, q_shl, q_shr, q_w32, Int64.ofInt_add, Int64.ofInt_sub, Int64.ofInt_mul, p_mx, p_mn, q_mx, q_mn]; rfl) ?_
    obtain ⟨i2, e3, hx⟩ := bd hx
    refine wx_ra (x := 156) (n := 130) (ln := 1) (a := 0) (b := 0) (zz := 0) (by decide +kernel) h (hS _ _ sm_156) e3 ?_
    show wp _ 226 22 [(0, .ref 146), (1, .int (Int32.ofInt x1))] [.int (Int32.ofInt (s 156 i2)), .int (Int32.ofInt x1), .ref 160] w _
    obtain ⟨i4, e5, hx⟩ := bd hx
    obtain ⟨s6, e7, hx⟩ := bd hx
    refine wx_wa (x := 160) (n := 45) (ln := 1) (a := 0) (b := 0) (zz := 0) (by decide +kernel) h (hS _ _ sm_160) e5 e7 (fun w8 h9 => ?_)
    refine wp_g 2 (pc1 := 2) (lv1 := [(1, .int (Int32.ofInt (x1 + 1))), (0, .ref 146)]) (st1 := []) (w1 := w8) (by simp only [Int32.ofInt_add, Int32.ofInt_sub, Int32.ofInt_mul, Int32.ofInt_neg, p_and, p_or, p_xor, p_shl, p_shr, p_usr, p_w8, p_c16, p_lI, q_and, q_or, q_shl, q_shr, q_w32, Int64.ofInt_add, Int64.ofInt_sub, Int64.ofInt_mul, p_mx, p_mn, q_mx, q_mn]; rfl) ?_
    refine wp_lv (lv1 := [(0, .ref 146), (1, .int (Int32.ofInt (x1 + 1)))]) (lsub_p [1, 0] rfl rfl rfl) ?_
    cases hx
    exact kn _ _ rfl h9
/-- FoldDeedsModel.keeps ()V -/
noncomputable def xm_keeps (s : Hp) : Option Hp :=
  (lp (fun (q : Int × Hp) => xm_keeps_b2 q.2 q.1) (0, s)).bind fun q1 => some q1.2
set_option maxRecDepth 100000 in
theorem xm_keeps_ok {d : Nat} {P : Option Value → pm_H → Prop} {w : pm_H} {sh : Shp} {w0 : pm_H} {s : Hp} (hS : StM sh) (h : Rw sh w0 s w) {o : Hp} (hx : xm_keeps s = some o) (kr : ∀ w1, Rw sh w0 o w1 → P none w1) : wp d 226 0 (lv_args 0 [.ref 146]) [] w P := by
  show wp _ 226 0 [(0, .ref 146)] [] w _
  unfold xm_keeps at hx
  refine wp_g 2 (pc1 := 2) (lv1 := [(1, .int (Int32.ofInt 0)), (0, .ref 146)]) (st1 := []) (w1 := w) rfl ?_
  refine wp_lv (lv1 := [(0, .ref 146), (1, .int (Int32.ofInt 0))]) (lsub_p [1, 0] rfl rfl rfl) ?_
  obtain ⟨q1, e2, hx⟩ := bd hx
  refine wp_lp (σ := Int × Hp) (ρ := (Int × Hp)) (B := fun q => xm_keeps_b2 q.2 q.1) (R := fun q w' => Rw sh w0 q.2 w') (C := fun r => ∀ w1, Rw sh w0 r.2 w1 → wp d 226 29 [(0, .ref 146), (1, .int (Int32.ofInt r.1))] [] w1 P) (lv := fun q => [(0, .ref 146), (1, .int (Int32.ofInt q.1))]) (hd := 2) (fun q w' o hR hb kn kc => xm_keeps_b2_ok hS hR hb kn kc) _ _ _ e2 h ?_
  intro w3 h4
  show wp _ 226 29 [(0, .ref 146), (1, .int (Int32.ofInt q1.1))] [] w3 _
  refine wp_rt (i := .return_) (r := none) (ln := 1) (a := 0) (b := 0) (z := 0) (by decide +kernel) rfl (ret_v (by decide +kernel)) ?_
  cases hx
  exact kr _ h4
noncomputable def xm_laysBack_b2 (s : Hp) (x1 : Int) : Option ((Int × Hp) ⊕ (Int × Hp)) :=
  if w32 x1 < w32 45 then (ix 45 x1).bind fun i2 => (ix 130 (10 + x1)).bind fun i4 => (some (uh s 156 i4 (s 160 i2))).bind fun s6 => some (.inl (x1 + 1, s6)) else some (.inr (x1, s))
set_option maxRecDepth 100000 in
theorem xm_laysBack_b2_ok {d : Nat} {P : Option Value → pm_H → Prop} {w : pm_H} {sh : Shp} {w0 : pm_H} {s : Hp} (hS : StM sh) {x1 : Int} (h : Rw sh w0 s w) {o : ((Int × Hp) ⊕ (Int × Hp))} (hx : xm_laysBack_b2 s x1 = some o) (kn : ∀ (q : Int × Hp) w1, o = .inl q → Rw sh w0 q.2 w1 → wp d 227 2 [(0, .ref 146), (1, .int (Int32.ofInt q.1))] [] w1 P) (kc : ∀ (r : (Int × Hp)), o = .inr r → (∀ w1, Rw sh w0 r.2 w1 → wp d 227 29 [(0, .ref 146), (1, .int (Int32.ofInt r.1))] [] w1 P)) : wp d 227 2 [(0, .ref 146), (1, .int (Int32.ofInt x1))] [] w P := by
  unfold xm_laysBack_b2 at hx
  refine wp_g 2 (pc1 := 5) (lv1 := [(0, .ref 146), (1, .int (Int32.ofInt x1))]) (st1 := [.int (Int32.ofInt 45), .int (Int32.ofInt x1)]) (w1 := w) rfl ?_
  refine wx_ge (oo := 24) (ln := 3) (a := 29) (b := 0) (zz := 0) (by decide +kernel) (fun h1 => ?_) (fun h1 => ?_)
  · have hx := ite_f h1 hx
    cases hx
    exact kc _ rfl _ h
  · have hx := ite_t h1 hx
    refine wp_g 1 (pc1 := 9) (lv1 := [(0, .ref 146), (1, .int (Int32.ofInt x1))]) (st1 := [.ref 146]) (w1 := w) rfl ?_
    refine wx_gr (o := 10) (kf := 39) (ln := 3) (ci := 12) (b := 20) (zz := 0) (x := 146) (by decide +kernel) h (hS _ _ sm_146) rfl ?_
    show wp _ 227 12 [(0, .ref 146), (1, .int (Int32.ofInt x1))] [.ref 156] w _
    refine wp_g 4 (pc1 := 17) (lv1 := [(0, .ref 146), (1, .int (Int32.ofInt x1))]) (st1 := [.ref 146, .int (Int32.ofInt (10 + x1)), .ref 156]) (w1 := w) (by simp only [Int32.ofInt_add, Int32.ofInt_sub, Int32.ofInt_mul, Int32.ofInt_neg, p_and, p_or, p_xor, p_shl, p_shr, p_usr, p_w8, p_c16, p_lI, q_and, q_or, q_shl, q_shr, q_w32, Int64.ofInt_add, Int64.ofInt_sub, Int64.ofInt_mul, p_mx, p_mn, q_mx, q_mn]; rfl) ?_
    refine wx_gr (o := 14) (kf := 55) (ln := 3) (ci := 12) (b := 27) (zz := 0) (x := 146) (by decide +kernel) h (hS _ _ sm_146) rfl ?_
    show wp _ 227 20 [(0, .ref 146), (1, .int (Int32.ofInt x1))] [.ref 160, .int (Int32.ofInt (10 + x1)), .ref 156] w _
    refine wp_g 1 (pc1 := 21) (lv1 := [(0, .ref 146), (1, .int (Int32.ofInt x1))]) (st1 := [.int (Int32.ofInt x1), .ref 160, .int (Int32.ofInt (10 + x1)), .ref 156]) (w1 := w) rfl ?_
    obtain ⟨i2, e3, hx⟩ := bd hx
    refine wx_ra (x := 160) (n := 45) (ln := 1) (a := 0) (b := 0) (zz := 0) (by decide +kernel) h (hS _ _ sm_160) e3 ?_
    show wp _ 227 22 [(0, .ref 146), (1, .int (Int32.ofInt x1))] [.int (Int32.ofInt (s 160 i2)), .int (Int32.ofInt (10 + x1)), .ref 156] w _
    obtain ⟨i4, e5, hx⟩ := bd hx
    obtain ⟨s6, e7, hx⟩ := bd hx
    refine wx_wa (x := 156) (n := 130) (ln := 1) (a := 0) (b := 0) (zz := 0) (by decide +kernel) h (hS _ _ sm_156) e5 e7 (fun w8 h9 => ?_)
    refine wp_g 2 (pc1 := 2) (lv1 := [(1, .int (Int32.ofInt (x1 + 1))), (0, .ref 146)]) (st1 := []) (w1 := w8) (by simp only [Int32.ofInt_add, Int32.ofInt_sub, Int32.ofInt_mul, Int32.ofInt_neg, p_and, p_or, p_xor, p_shl, p_shr, p_usr, p_w8, p_c16, p_lI, q_and, q_or, q_shl, q_shr, q_w32, Int64.ofInt_add, Int64.ofInt_sub, Int64.ofInt_mul, p_mx, p_mn, q_mx, q_mn]; rfl) ?_
    refine wp_lv (lv1 := [(0, .ref 146), (1, .int (Int32.ofInt (x1 + 1)))]) (lsub_p [1, 0] rfl rfl rfl) ?_
    cases hx
    exact kn _ _ rfl h9
/-- FoldDeedsModel.laysBack ()V -/
noncomputable def xm_laysBack (s : Hp) : Option Hp :=
  (lp (fun (q : Int × Hp) => xm_laysBack_b2 q.2 q.1) (0, s)).bind fun q1 => some q1.2
set_option maxRecDepth 100000 in
theorem xm_laysBack_ok {d : Nat} {P : Option Value → pm_H → Prop} {w : pm_H} {sh : Shp} {w0 : pm_H} {s : Hp} (hS : StM sh) (h : Rw sh w0 s w) {o : Hp} (hx : xm_laysBack s = some o) (kr : ∀ w1, Rw sh w0 o w1 → P none w1) : wp d 227 0 (lv_args 0 [.ref 146]) [] w P := by
  show wp _ 227 0 [(0, .ref 146)] [] w _
  unfold xm_laysBack at hx
  refine wp_g 2 (pc1 := 2) (lv1 := [(1, .int (Int32.ofInt 0)), (0, .ref 146)]) (st1 := []) (w1 := w) rfl ?_
  refine wp_lv (lv1 := [(0, .ref 146), (1, .int (Int32.ofInt 0))]) (lsub_p [1, 0] rfl rfl rfl) ?_
  obtain ⟨q1, e2, hx⟩ := bd hx
  refine wp_lp (σ := Int × Hp) (ρ := (Int × Hp)) (B := fun q => xm_laysBack_b2 q.2 q.1) (R := fun q w' => Rw sh w0 q.2 w') (C := fun r => ∀ w1, Rw sh w0 r.2 w1 → wp d 227 29 [(0, .ref 146), (1, .int (Int32.ofInt r.1))] [] w1 P) (lv := fun q => [(0, .ref 146), (1, .int (Int32.ofInt q.1))]) (hd := 2) (fun q w' o hR hb kn kc => xm_laysBack_b2_ok hS hR hb kn kc) _ _ _ e2 h ?_
  intro w3 h4
  show wp _ 227 29 [(0, .ref 146), (1, .int (Int32.ofInt q1.1))] [] w3 _
  refine wp_rt (i := .return_) (r := none) (ln := 1) (a := 0) (b := 0) (z := 0) (by decide +kernel) rfl (ret_v (by decide +kernel)) ?_
  cases hx
  exact kr _ h4
noncomputable def xm_keepsPlace_b2 (s : Hp) (x1 : Int) (x2 : Int) : Option ((Int × Hp) ⊕ (Int × Hp)) :=
  if w32 x2 < w32 45 then (ix 130 (10 + x2)).bind fun i2 => (ix 405 ((45 * x1) + x2)).bind fun i4 => (some (uh s 162 i4 (s 156 i2))).bind fun s6 => some (.inl (x2 + 1, s6)) else some (.inr (x2, s))
set_option maxRecDepth 100000 in
theorem xm_keepsPlace_b2_ok {d : Nat} {P : Option Value → pm_H → Prop} {w : pm_H} {sh : Shp} {w0 : pm_H} {s : Hp} (hS : StM sh) {x1 : Int} {x2 : Int} (h : Rw sh w0 s w) {o : ((Int × Hp) ⊕ (Int × Hp))} (hx : xm_keepsPlace_b2 s x1 x2 = some o) (kn : ∀ (q : Int × Hp) w1, o = .inl q → Rw sh w0 q.2 w1 → wp d 228 2 [(0, .ref 146), (1, .int (Int32.ofInt x1)), (2, .int (Int32.ofInt q.1))] [] w1 P) (kc : ∀ (r : (Int × Hp)), o = .inr r → (∀ w1, Rw sh w0 r.2 w1 → wp d 228 34 [(0, .ref 146), (1, .int (Int32.ofInt x1)), (2, .int (Int32.ofInt r.1))] [] w1 P)) : wp d 228 2 [(0, .ref 146), (1, .int (Int32.ofInt x1)), (2, .int (Int32.ofInt x2))] [] w P := by
  unfold xm_keepsPlace_b2 at hx
  refine wp_g 2 (pc1 := 5) (lv1 := [(0, .ref 146), (1, .int (Int32.ofInt x1)), (2, .int (Int32.ofInt x2))]) (st1 := [.int (Int32.ofInt 45), .int (Int32.ofInt x2)]) (w1 := w) rfl ?_
  refine wx_ge (oo := 29) (ln := 3) (a := 34) (b := 0) (zz := 0) (by decide +kernel) (fun h1 => ?_) (fun h1 => ?_)
  · have hx := ite_f h1 hx
    cases hx
    exact kc _ rfl _ h
  · have hx := ite_t h1 hx
    refine wp_g 1 (pc1 := 9) (lv1 := [(0, .ref 146), (1, .int (Int32.ofInt x1)), (2, .int (Int32.ofInt x2))]) (st1 := [.ref 146]) (w1 := w) rfl ?_
    refine wx_gr (o := 16) (kf := 61) (ln := 3) (ci := 12) (b := 29) (zz := 0) (x := 146) (by decide +kernel) h (hS _ _ sm_146) rfl ?_
    show wp _ 228 12 [(0, .ref 146), (1, .int (Int32.ofInt x1)), (2, .int (Int32.ofInt x2))] [.ref 162] w _
    refine wp_g 6 (pc1 := 19) (lv1 := [(0, .ref 146), (1, .int (Int32.ofInt x1)), (2, .int (Int32.ofInt x2))]) (st1 := [.ref 146, .int (Int32.ofInt ((45 * x1) + x2)), .ref 162]) (w1 := w) (by simp only [Int32.ofInt_add, Int32.ofInt_sub, Int32.ofInt_mul, Int32.ofInt_neg, p_and, p_or, p_xor, p_shl, p_shr, p_usr, p_w8, p_c16, p_lI, q_and, q_or, q_shl, q_shr, q_w32, Int64.ofInt_add, Int64.ofInt_sub, Int64.ofInt_mul, p_mx, p_mn, q_mx, q_mn]; rfl) ?_
    refine wx_gr (o := 10) (kf := 39) (ln := 3) (ci := 12) (b := 20) (zz := 0) (x := 146) (by decide +kernel) h (hS _ _ sm_146) rfl ?_
    show wp _ 228 22 [(0, .ref 146), (1, .int (Int32.ofInt x1)), (2, .int (Int32.ofInt x2))] [.ref 156, .int (Int32.ofInt ((45 * x1) + x2)), .ref 162] w _
    refine wp_g 3 (pc1 := 26) (lv1 := [(0, .ref 146), (1, .int (Int32.ofInt x1)), (2, .int (Int32.ofInt x2))]) (st1 := [.int (Int32.ofInt (10 + x2)), .ref 156, .int (Int32.ofInt ((45 * x1) + x2)), .ref 162]) (w1 := w) (by simp only [Int32.ofInt_add, Int32.ofInt_sub, Int32.ofInt_mul, Int32.ofInt_neg, p_and, p_or, p_xor, p_shl, p_shr, p_usr, p_w8, p_c16, p_lI, q_and, q_or, q_shl, q_shr, q_w32, Int64.ofInt_add, Int64.ofInt_sub, Int64.ofInt_mul, p_mx, p_mn, q_mx, q_mn]; rfl) ?_
    obtain ⟨i2, e3, hx⟩ := bd hx
    refine wx_ra (x := 156) (n := 130) (ln := 1) (a := 0) (b := 0) (zz := 0) (by decide +kernel) h (hS _ _ sm_156) e3 ?_
    show wp _ 228 27 [(0, .ref 146), (1, .int (Int32.ofInt x1)), (2, .int (Int32.ofInt x2))] [.int (Int32.ofInt (s 156 i2)), .int (Int32.ofInt ((45 * x1) + x2)), .ref 162] w _
    obtain ⟨i4, e5, hx⟩ := bd hx
    obtain ⟨s6, e7, hx⟩ := bd hx
    refine wx_wa (x := 162) (n := 405) (ln := 1) (a := 0) (b := 0) (zz := 0) (by decide +kernel) h (hS _ _ sm_162) e5 e7 (fun w8 h9 => ?_)
    refine wp_g 2 (pc1 := 2) (lv1 := [(2, .int (Int32.ofInt (x2 + 1))), (0, .ref 146), (1, .int (Int32.ofInt x1))]) (st1 := []) (w1 := w8) (by simp only [Int32.ofInt_add, Int32.ofInt_sub, Int32.ofInt_mul, Int32.ofInt_neg, p_and, p_or, p_xor, p_shl, p_shr, p_usr, p_w8, p_c16, p_lI, q_and, q_or, q_shl, q_shr, q_w32, Int64.ofInt_add, Int64.ofInt_sub, Int64.ofInt_mul, p_mx, p_mn, q_mx, q_mn]; rfl) ?_
    refine wp_lv (lv1 := [(0, .ref 146), (1, .int (Int32.ofInt x1)), (2, .int (Int32.ofInt (x2 + 1)))]) (lsub_p [1, 2, 0] rfl rfl rfl) ?_
    cases hx
    exact kn _ _ rfl h9
/-- FoldDeedsModel.keepsPlace (I)V -/
noncomputable def xm_keepsPlace (s : Hp) (p1 : Int) : Option Hp :=
  (lp (fun (q : Int × Hp) => xm_keepsPlace_b2 q.2 p1 q.1) (0, s)).bind fun q1 => some q1.2
set_option maxRecDepth 100000 in
theorem xm_keepsPlace_ok {d : Nat} {P : Option Value → pm_H → Prop} {w : pm_H} {sh : Shp} {w0 : pm_H} {s : Hp} (hS : StM sh) {p1 : Int} (h : Rw sh w0 s w) {o : Hp} (hx : xm_keepsPlace s p1 = some o) (kr : ∀ w1, Rw sh w0 o w1 → P none w1) : wp d 228 0 (lv_args 0 [.ref 146, .int (Int32.ofInt p1)]) [] w P := by
  show wp _ 228 0 [(0, .ref 146), (1, .int (Int32.ofInt p1))] [] w _
  unfold xm_keepsPlace at hx
  refine wp_g 2 (pc1 := 2) (lv1 := [(2, .int (Int32.ofInt 0)), (0, .ref 146), (1, .int (Int32.ofInt p1))]) (st1 := []) (w1 := w) rfl ?_
  refine wp_lv (lv1 := [(0, .ref 146), (1, .int (Int32.ofInt p1)), (2, .int (Int32.ofInt 0))]) (lsub_p [1, 2, 0] rfl rfl rfl) ?_
  obtain ⟨q1, e2, hx⟩ := bd hx
  refine wp_lp (σ := Int × Hp) (ρ := (Int × Hp)) (B := fun q => xm_keepsPlace_b2 q.2 p1 q.1) (R := fun q w' => Rw sh w0 q.2 w') (C := fun r => ∀ w1, Rw sh w0 r.2 w1 → wp d 228 34 [(0, .ref 146), (1, .int (Int32.ofInt p1)), (2, .int (Int32.ofInt r.1))] [] w1 P) (lv := fun q => [(0, .ref 146), (1, .int (Int32.ofInt p1)), (2, .int (Int32.ofInt q.1))]) (hd := 2) (fun q w' o hR hb kn kc => xm_keepsPlace_b2_ok hS hR hb kn kc) _ _ _ e2 h ?_
  intro w3 h4
  show wp _ 228 34 [(0, .ref 146), (1, .int (Int32.ofInt p1)), (2, .int (Int32.ofInt q1.1))] [] w3 _
  refine wp_rt (i := .return_) (r := none) (ln := 1) (a := 0) (b := 0) (z := 0) (by decide +kernel) rfl (ret_v (by decide +kernel)) ?_
  cases hx
  exact kr _ h4
noncomputable def xm_laysPlace_b2 (s : Hp) (x1 : Int) (x2 : Int) : Option ((Int × Hp) ⊕ (Int × Hp)) :=
  if w32 x2 < w32 45 then (ix 405 ((45 * x1) + x2)).bind fun i2 => (ix 130 (10 + x2)).bind fun i4 => (some (uh s 156 i4 (s 162 i2))).bind fun s6 => some (.inl (x2 + 1, s6)) else some (.inr (x2, s))
set_option maxRecDepth 100000 in
theorem xm_laysPlace_b2_ok {d : Nat} {P : Option Value → pm_H → Prop} {w : pm_H} {sh : Shp} {w0 : pm_H} {s : Hp} (hS : StM sh) {x1 : Int} {x2 : Int} (h : Rw sh w0 s w) {o : ((Int × Hp) ⊕ (Int × Hp))} (hx : xm_laysPlace_b2 s x1 x2 = some o) (kn : ∀ (q : Int × Hp) w1, o = .inl q → Rw sh w0 q.2 w1 → wp d 229 2 [(0, .ref 146), (1, .int (Int32.ofInt x1)), (2, .int (Int32.ofInt q.1))] [] w1 P) (kc : ∀ (r : (Int × Hp)), o = .inr r → (∀ w1, Rw sh w0 r.2 w1 → wp d 229 34 [(0, .ref 146), (1, .int (Int32.ofInt x1)), (2, .int (Int32.ofInt r.1))] [] w1 P)) : wp d 229 2 [(0, .ref 146), (1, .int (Int32.ofInt x1)), (2, .int (Int32.ofInt x2))] [] w P := by
  unfold xm_laysPlace_b2 at hx
  refine wp_g 2 (pc1 := 5) (lv1 := [(0, .ref 146), (1, .int (Int32.ofInt x1)), (2, .int (Int32.ofInt x2))]) (st1 := [.int (Int32.ofInt 45), .int (Int32.ofInt x2)]) (w1 := w) rfl ?_
  refine wx_ge (oo := 29) (ln := 3) (a := 34) (b := 0) (zz := 0) (by decide +kernel) (fun h1 => ?_) (fun h1 => ?_)
  · have hx := ite_f h1 hx
    cases hx
    exact kc _ rfl _ h
  · have hx := ite_t h1 hx
    refine wp_g 1 (pc1 := 9) (lv1 := [(0, .ref 146), (1, .int (Int32.ofInt x1)), (2, .int (Int32.ofInt x2))]) (st1 := [.ref 146]) (w1 := w) rfl ?_
    refine wx_gr (o := 10) (kf := 39) (ln := 3) (ci := 12) (b := 20) (zz := 0) (x := 146) (by decide +kernel) h (hS _ _ sm_146) rfl ?_
    show wp _ 229 12 [(0, .ref 146), (1, .int (Int32.ofInt x1)), (2, .int (Int32.ofInt x2))] [.ref 156] w _
    refine wp_g 4 (pc1 := 17) (lv1 := [(0, .ref 146), (1, .int (Int32.ofInt x1)), (2, .int (Int32.ofInt x2))]) (st1 := [.ref 146, .int (Int32.ofInt (10 + x2)), .ref 156]) (w1 := w) (by simp only [Int32.ofInt_add, Int32.ofInt_sub, Int32.ofInt_mul, Int32.ofInt_neg, p_and, p_or, p_xor, p_shl, p_shr, p_usr, p_w8, p_c16, p_lI, q_and, q_or, q_shl, q_shr, q_w32, Int64.ofInt_add, Int64.ofInt_sub, Int64.ofInt_mul, p_mx, p_mn, q_mx, q_mn]; rfl) ?_
    refine wx_gr (o := 16) (kf := 61) (ln := 3) (ci := 12) (b := 29) (zz := 0) (x := 146) (by decide +kernel) h (hS _ _ sm_146) rfl ?_
    show wp _ 229 20 [(0, .ref 146), (1, .int (Int32.ofInt x1)), (2, .int (Int32.ofInt x2))] [.ref 162, .int (Int32.ofInt (10 + x2)), .ref 156] w _
    refine wp_g 5 (pc1 := 26) (lv1 := [(0, .ref 146), (1, .int (Int32.ofInt x1)), (2, .int (Int32.ofInt x2))]) (st1 := [.int (Int32.ofInt ((45 * x1) + x2)), .ref 162, .int (Int32.ofInt (10 + x2)), .ref 156]) (w1 := w) (by simp only [Int32.ofInt_add, Int32.ofInt_sub, Int32.ofInt_mul, Int32.ofInt_neg, p_and, p_or, p_xor, p_shl, p_shr, p_usr, p_w8, p_c16, p_lI, q_and, q_or, q_shl, q_shr, q_w32, Int64.ofInt_add, Int64.ofInt_sub, Int64.ofInt_mul, p_mx, p_mn, q_mx, q_mn]; rfl) ?_
    obtain ⟨i2, e3, hx⟩ := bd hx
    refine wx_ra (x := 162) (n := 405) (ln := 1) (a := 0) (b := 0) (zz := 0) (by decide +kernel) h (hS _ _ sm_162) e3 ?_
    show wp _ 229 27 [(0, .ref 146), (1, .int (Int32.ofInt x1)), (2, .int (Int32.ofInt x2))] [.int (Int32.ofInt (s 162 i2)), .int (Int32.ofInt (10 + x2)), .ref 156] w _
    obtain ⟨i4, e5, hx⟩ := bd hx
    obtain ⟨s6, e7, hx⟩ := bd hx
    refine wx_wa (x := 156) (n := 130) (ln := 1) (a := 0) (b := 0) (zz := 0) (by decide +kernel) h (hS _ _ sm_156) e5 e7 (fun w8 h9 => ?_)
    refine wp_g 2 (pc1 := 2) (lv1 := [(2, .int (Int32.ofInt (x2 + 1))), (0, .ref 146), (1, .int (Int32.ofInt x1))]) (st1 := []) (w1 := w8) (by simp only [Int32.ofInt_add, Int32.ofInt_sub, Int32.ofInt_mul, Int32.ofInt_neg, p_and, p_or, p_xor, p_shl, p_shr, p_usr, p_w8, p_c16, p_lI, q_and, q_or, q_shl, q_shr, q_w32, Int64.ofInt_add, Int64.ofInt_sub, Int64.ofInt_mul, p_mx, p_mn, q_mx, q_mn]; rfl) ?_
    refine wp_lv (lv1 := [(0, .ref 146), (1, .int (Int32.ofInt x1)), (2, .int (Int32.ofInt (x2 + 1)))]) (lsub_p [1, 2, 0] rfl rfl rfl) ?_
    cases hx
    exact kn _ _ rfl h9
/-- FoldDeedsModel.laysPlace (I)V -/
noncomputable def xm_laysPlace (s : Hp) (p1 : Int) : Option Hp :=
  (lp (fun (q : Int × Hp) => xm_laysPlace_b2 q.2 p1 q.1) (0, s)).bind fun q1 => some q1.2
set_option maxRecDepth 100000 in
theorem xm_laysPlace_ok {d : Nat} {P : Option Value → pm_H → Prop} {w : pm_H} {sh : Shp} {w0 : pm_H} {s : Hp} (hS : StM sh) {p1 : Int} (h : Rw sh w0 s w) {o : Hp} (hx : xm_laysPlace s p1 = some o) (kr : ∀ w1, Rw sh w0 o w1 → P none w1) : wp d 229 0 (lv_args 0 [.ref 146, .int (Int32.ofInt p1)]) [] w P := by
  show wp _ 229 0 [(0, .ref 146), (1, .int (Int32.ofInt p1))] [] w _
  unfold xm_laysPlace at hx
  refine wp_g 2 (pc1 := 2) (lv1 := [(2, .int (Int32.ofInt 0)), (0, .ref 146), (1, .int (Int32.ofInt p1))]) (st1 := []) (w1 := w) rfl ?_
  refine wp_lv (lv1 := [(0, .ref 146), (1, .int (Int32.ofInt p1)), (2, .int (Int32.ofInt 0))]) (lsub_p [1, 2, 0] rfl rfl rfl) ?_
  obtain ⟨q1, e2, hx⟩ := bd hx
  refine wp_lp (σ := Int × Hp) (ρ := (Int × Hp)) (B := fun q => xm_laysPlace_b2 q.2 p1 q.1) (R := fun q w' => Rw sh w0 q.2 w') (C := fun r => ∀ w1, Rw sh w0 r.2 w1 → wp d 229 34 [(0, .ref 146), (1, .int (Int32.ofInt p1)), (2, .int (Int32.ofInt r.1))] [] w1 P) (lv := fun q => [(0, .ref 146), (1, .int (Int32.ofInt p1)), (2, .int (Int32.ofInt q.1))]) (hd := 2) (fun q w' o hR hb kn kc => xm_laysPlace_b2_ok hS hR hb kn kc) _ _ _ e2 h ?_
  intro w3 h4
  show wp _ 229 34 [(0, .ref 146), (1, .int (Int32.ofInt p1)), (2, .int (Int32.ofInt q1.1))] [] w3 _
  refine wp_rt (i := .return_) (r := none) (ln := 1) (a := 0) (b := 0) (z := 0) (by decide +kernel) rfl (ret_v (by decide +kernel)) ?_
  cases hx
  exact kr _ h4
noncomputable def xm_areMarked_b2 (s : Hp) (x1 : Int) : Option (Int ⊕ (Int ⊕ Int)) :=
  (ix 130 0).bind fun i1 => if w32 x1 < w32 ((s 156 i1) - 1) then (ix 130 (44 + x1)).bind fun i4 => (ix 130 (82 + x1)).bind fun i6 => if w32 (s 156 i4) = w32 (s 156 i6) then some (.inl (x1 + 1)) else some (.inr (.inr 0)) else some (.inr (.inl x1))
set_option maxRecDepth 100000 in
theorem xm_areMarked_b2_ok {d : Nat} {P : Option Value → pm_H → Prop} {w : pm_H} {sh : Shp} {w0 : pm_H} {s : Hp} (hS : StM sh) {x1 : Int} (h : Rw sh w0 s w) {o : (Int ⊕ (Int ⊕ Int))} (hx : xm_areMarked_b2 s x1 = some o) (kn : ∀ (q : Int) w1, o = .inl q → w = w1 → wp d 230 2 [(0, .ref 146), (1, .int (Int32.ofInt q))] [] w1 P) (kc : ∀ (r : (Int ⊕ Int)), o = .inr r → ((∀ q1 w1, r = .inl q1 → w = w1 → wp d 230 43 [(0, .ref 146), (1, .int (Int32.ofInt q1))] [] w1 P) ∧ (∀ v1 w1, r = .inr v1 → w = w1 → P (some (.int (Int32.ofInt v1))) w1))) : wp d 230 2 [(0, .ref 146), (1, .int (Int32.ofInt x1))] [] w P := by
  unfold xm_areMarked_b2 at hx
  refine wp_g 2 (pc1 := 4) (lv1 := [(0, .ref 146), (1, .int (Int32.ofInt x1))]) (st1 := [.ref 146, .int (Int32.ofInt x1)]) (w1 := w) rfl ?_
  refine wx_gr (o := 10) (kf := 39) (ln := 3) (ci := 12) (b := 20) (zz := 0) (x := 146) (by decide +kernel) h (hS _ _ sm_146) rfl ?_
  show wp _ 230 7 [(0, .ref 146), (1, .int (Int32.ofInt x1))] [.ref 156, .int (Int32.ofInt x1)] w _
  refine wp_g 1 (pc1 := 8) (lv1 := [(0, .ref 146), (1, .int (Int32.ofInt x1))]) (st1 := [.int (Int32.ofInt 0), .ref 156, .int (Int32.ofInt x1)]) (w1 := w) rfl ?_
  obtain ⟨i1, e2, hx⟩ := bd hx
  refine wx_ra (x := 156) (n := 130) (ln := 1) (a := 0) (b := 0) (zz := 0) (by decide +kernel) h (hS _ _ sm_156) e2 ?_
  show wp _ 230 9 [(0, .ref 146), (1, .int (Int32.ofInt x1))] [.int (Int32.ofInt (s 156 i1)), .int (Int32.ofInt x1)] w _
  refine wp_g 2 (pc1 := 11) (lv1 := [(0, .ref 146), (1, .int (Int32.ofInt x1))]) (st1 := [.int (Int32.ofInt ((s 156 i1) - 1)), .int (Int32.ofInt x1)]) (w1 := w) (by simp only [Int32.ofInt_add, Int32.ofInt_sub, Int32.ofInt_mul, Int32.ofInt_neg, p_and, p_or, p_xor, p_shl, p_shr, p_usr, p_w8, p_c16, p_lI, q_and, q_or, q_shl, q_shr, q_w32, Int64.ofInt_add, Int64.ofInt_sub, Int64.ofInt_mul, p_mx, p_mn, q_mx, q_mn]; rfl) ?_
  refine wx_ge (oo := 32) (ln := 3) (a := 43) (b := 0) (zz := 0) (by decide +kernel) (fun h3 => ?_) (fun h3 => ?_)
  · have hx := ite_f h3 hx
    cases hx
    exact (kc _ rfl).1 _ _ rfl rfl
  · have hx := ite_t h3 hx
    refine wp_g 1 (pc1 := 15) (lv1 := [(0, .ref 146), (1, .int (Int32.ofInt x1))]) (st1 := [.ref 146]) (w1 := w) rfl ?_
    refine wx_gr (o := 10) (kf := 39) (ln := 3) (ci := 12) (b := 20) (zz := 0) (x := 146) (by decide +kernel) h (hS _ _ sm_146) rfl ?_
    show wp _ 230 18 [(0, .ref 146), (1, .int (Int32.ofInt x1))] [.ref 156] w _
    refine wp_g 3 (pc1 := 22) (lv1 := [(0, .ref 146), (1, .int (Int32.ofInt x1))]) (st1 := [.int (Int32.ofInt (44 + x1)), .ref 156]) (w1 := w) (by simp only [Int32.ofInt_add, Int32.ofInt_sub, Int32.ofInt_mul, Int32.ofInt_neg, p_and, p_or, p_xor, p_shl, p_shr, p_usr, p_w8, p_c16, p_lI, q_and, q_or, q_shl, q_shr, q_w32, Int64.ofInt_add, Int64.ofInt_sub, Int64.ofInt_mul, p_mx, p_mn, q_mx, q_mn]; rfl) ?_
    obtain ⟨i4, e5, hx⟩ := bd hx
    refine wx_ra (x := 156) (n := 130) (ln := 1) (a := 0) (b := 0) (zz := 0) (by decide +kernel) h (hS _ _ sm_156) e5 ?_
    show wp _ 230 23 [(0, .ref 146), (1, .int (Int32.ofInt x1))] [.int (Int32.ofInt (s 156 i4))] w _
    refine wp_g 1 (pc1 := 24) (lv1 := [(0, .ref 146), (1, .int (Int32.ofInt x1))]) (st1 := [.ref 146, .int (Int32.ofInt (s 156 i4))]) (w1 := w) rfl ?_
    refine wx_gr (o := 10) (kf := 39) (ln := 3) (ci := 12) (b := 20) (zz := 0) (x := 146) (by decide +kernel) h (hS _ _ sm_146) rfl ?_
    show wp _ 230 27 [(0, .ref 146), (1, .int (Int32.ofInt x1))] [.ref 156, .int (Int32.ofInt (s 156 i4))] w _
    refine wp_g 3 (pc1 := 31) (lv1 := [(0, .ref 146), (1, .int (Int32.ofInt x1))]) (st1 := [.int (Int32.ofInt (82 + x1)), .ref 156, .int (Int32.ofInt (s 156 i4))]) (w1 := w) (by simp only [Int32.ofInt_add, Int32.ofInt_sub, Int32.ofInt_mul, Int32.ofInt_neg, p_and, p_or, p_xor, p_shl, p_shr, p_usr, p_w8, p_c16, p_lI, q_and, q_or, q_shl, q_shr, q_w32, Int64.ofInt_add, Int64.ofInt_sub, Int64.ofInt_mul, p_mx, p_mn, q_mx, q_mn]; rfl) ?_
    obtain ⟨i6, e7, hx⟩ := bd hx
    refine wx_ra (x := 156) (n := 130) (ln := 1) (a := 0) (b := 0) (zz := 0) (by decide +kernel) h (hS _ _ sm_156) e7 ?_
    show wp _ 230 32 [(0, .ref 146), (1, .int (Int32.ofInt x1))] [.int (Int32.ofInt (s 156 i6)), .int (Int32.ofInt (s 156 i4))] w _
    refine wx_eq (oo := 5) (ln := 3) (a := 37) (b := 0) (zz := 0) (by decide +kernel) (fun h8 => ?_) (fun h8 => ?_)
    · have hx := ite_t h8 hx
      refine wp_g 2 (pc1 := 2) (lv1 := [(1, .int (Int32.ofInt (x1 + 1))), (0, .ref 146)]) (st1 := []) (w1 := w) (by simp only [Int32.ofInt_add, Int32.ofInt_sub, Int32.ofInt_mul, Int32.ofInt_neg, p_and, p_or, p_xor, p_shl, p_shr, p_usr, p_w8, p_c16, p_lI, q_and, q_or, q_shl, q_shr, q_w32, Int64.ofInt_add, Int64.ofInt_sub, Int64.ofInt_mul, p_mx, p_mn, q_mx, q_mn]; rfl) ?_
      refine wp_lv (lv1 := [(0, .ref 146), (1, .int (Int32.ofInt (x1 + 1)))]) (lsub_p [1, 0] rfl rfl rfl) ?_
      cases hx
      exact kn _ _ rfl rfl
    · have hx := ite_f h8 hx
      refine wp_g 1 (pc1 := 36) (lv1 := [(0, .ref 146), (1, .int (Int32.ofInt x1))]) (st1 := [.int (Int32.ofInt 0)]) (w1 := w) rfl ?_
      refine wp_rt (i := .ireturn) (r := some (.int (Int32.ofInt 0))) (ln := 1) (a := 0) (b := 0) (z := 0) (by decide +kernel) rfl (ret_b (by decide +kernel) (Or.inl rfl)) ?_
      cases hx
      exact (kc _ rfl).2 _ _ rfl rfl
/-- FoldDeedsModel.areMarked ()Z -/
noncomputable def xm_areMarked (s : Hp) : Option Int :=
  (lp (fun (q : Int) => xm_areMarked_b2 s q) 0).bind fun q1 => q1.elim (fun q5 => some 1) (fun r => some r)
set_option maxRecDepth 100000 in
theorem xm_areMarked_ok {d : Nat} {P : Option Value → pm_H → Prop} {w : pm_H} {sh : Shp} {w0 : pm_H} {s : Hp} (hS : StM sh) (h : Rw sh w0 s w) {o : Int} (hx : xm_areMarked s = some o) (kr : P (some (.int (Int32.ofInt o))) w) : wp d 230 0 (lv_args 0 [.ref 146]) [] w P := by
  show wp _ 230 0 [(0, .ref 146)] [] w _
  unfold xm_areMarked at hx
  refine wp_g 2 (pc1 := 2) (lv1 := [(1, .int (Int32.ofInt 0)), (0, .ref 146)]) (st1 := []) (w1 := w) rfl ?_
  refine wp_lv (lv1 := [(0, .ref 146), (1, .int (Int32.ofInt 0))]) (lsub_p [1, 0] rfl rfl rfl) ?_
  obtain ⟨q1, e2, hx⟩ := bd hx
  refine wp_lp (σ := Int) (ρ := (Int ⊕ Int)) (B := fun q => xm_areMarked_b2 s q) (R := fun q w' => w = w') (C := fun r => (∀ q1 w1, r = .inl q1 → w = w1 → wp d 230 43 [(0, .ref 146), (1, .int (Int32.ofInt q1))] [] w1 P) ∧ (∀ v1 w1, r = .inr v1 → w = w1 → P (some (.int (Int32.ofInt v1))) w1)) (lv := fun q => [(0, .ref 146), (1, .int (Int32.ofInt q))]) (hd := 2) (fun q w' o hR hb kn kc => by subst hR; exact xm_areMarked_b2_ok hS h hb kn kc) _ _ _ e2 rfl ?_
  refine ⟨?_, fun v6 w1 hs h1 => by subst hs; cases (se_r hx); subst h1; exact kr⟩
  intro q5 w3 hs h4
  subst hs
  replace hx := se_l hx
  subst h4
  show wp _ 230 43 [(0, .ref 146), (1, .int (Int32.ofInt q5))] [] w _
  refine wp_g 1 (pc1 := 44) (lv1 := [(0, .ref 146), (1, .int (Int32.ofInt q5))]) (st1 := [.int (Int32.ofInt 1)]) (w1 := w) rfl ?_
  refine wp_rt (i := .ireturn) (r := some (.int (Int32.ofInt 1))) (ln := 1) (a := 0) (b := 0) (z := 0) (by decide +kernel) rfl (ret_b (by decide +kernel) (Or.inr rfl)) ?_
  cases hx
  exact kr
noncomputable def xm_foldsAsMarked_b7 (s : Hp) (x1 : Int) (x2 : Int) (x3 : Int) : Option (Int ⊕ (Int ⊕ (Int × Hp))) :=
  (ix 130 0).bind fun i1 => if w32 x3 < w32 ((s 156 i1) - 1) then (xm_wayOf x1).bind fun o4 => (xm_kindBy s x3 x2 o4).bind fun o8 => if w32 o8 = 0 then some (.inl (x3 + 1)) else (ix 130 (82 + x3)).bind fun i13 => if w32 o8 = w32 (s 156 i13) then some (.inl (x3 + 1)) else some (.inr (.inr (0, s))) else some (.inr (.inl x3))
set_option maxRecDepth 100000 in
theorem xm_foldsAsMarked_b7_ok {d : Nat} {P : Option Value → pm_H → Prop} {w : pm_H} {sh : Shp} {w0 : pm_H} {s : Hp} (hS : StM sh) {x1 : Int} {x2 : Int} {x3 : Int} (h : Rw sh w0 s w) {o : (Int ⊕ (Int ⊕ (Int × Hp)))} (hx : xm_foldsAsMarked_b7 s x1 x2 x3 = some o) (kn : ∀ (q : Int) w1, o = .inl q → w = w1 → wp (d + 3) 231 7 [(0, .ref 146), (1, .int (Int32.ofInt x1)), (2, .int (Int32.ofInt x2)), (3, .int (Int32.ofInt q))] [] w1 P) (kc : ∀ (r : (Int ⊕ (Int × Hp))), o = .inr r → ((∀ q1 w1, r = .inl q1 → w = w1 → wp (d + 3) 231 58 [(0, .ref 146), (1, .int (Int32.ofInt x1)), (2, .int (Int32.ofInt x2)), (3, .int (Int32.ofInt q1))] [] w1 P) ∧ (∀ v1 w1, r = .inr v1 → Rw sh w0 v1.2 w1 → P (some (.int (Int32.ofInt v1.1))) w1))) : wp (d + 3) 231 7 [(0, .ref 146), (1, .int (Int32.ofInt x1)), (2, .int (Int32.ofInt x2)), (3, .int (Int32.ofInt x3))] [] w P := by
  unfold xm_foldsAsMarked_b7 at hx
  refine wp_g 2 (pc1 := 9) (lv1 := [(0, .ref 146), (1, .int (Int32.ofInt x1)), (2, .int (Int32.ofInt x2)), (3, .int (Int32.ofInt x3))]) (st1 := [.ref 146, .int (Int32.ofInt x3)]) (w1 := w) rfl ?_
  refine wx_gr (o := 10) (kf := 39) (ln := 3) (ci := 12) (b := 20) (zz := 0) (x := 146) (by decide +kernel) h (hS _ _ sm_146) rfl ?_
  show wp _ 231 12 [(0, .ref 146), (1, .int (Int32.ofInt x1)), (2, .int (Int32.ofInt x2)), (3, .int (Int32.ofInt x3))] [.ref 156, .int (Int32.ofInt x3)] w _
  refine wp_g 1 (pc1 := 13) (lv1 := [(0, .ref 146), (1, .int (Int32.ofInt x1)), (2, .int (Int32.ofInt x2)), (3, .int (Int32.ofInt x3))]) (st1 := [.int (Int32.ofInt 0), .ref 156, .int (Int32.ofInt x3)]) (w1 := w) rfl ?_
  obtain ⟨i1, e2, hx⟩ := bd hx
  refine wx_ra (x := 156) (n := 130) (ln := 1) (a := 0) (b := 0) (zz := 0) (by decide +kernel) h (hS _ _ sm_156) e2 ?_
  show wp _ 231 14 [(0, .ref 146), (1, .int (Int32.ofInt x1)), (2, .int (Int32.ofInt x2)), (3, .int (Int32.ofInt x3))] [.int (Int32.ofInt (s 156 i1)), .int (Int32.ofInt x3)] w _
  refine wp_g 2 (pc1 := 16) (lv1 := [(0, .ref 146), (1, .int (Int32.ofInt x1)), (2, .int (Int32.ofInt x2)), (3, .int (Int32.ofInt x3))]) (st1 := [.int (Int32.ofInt ((s 156 i1) - 1)), .int (Int32.ofInt x3)]) (w1 := w) (by simp only [Int32.ofInt_add, Int32.ofInt_sub, Int32.ofInt_mul, Int32.ofInt_neg, p_and, p_or, p_xor, p_shl, p_shr, p_usr, p_w8, p_c16, p_lI, q_and, q_or, q_shl, q_shr, q_w32, Int64.ofInt_add, Int64.ofInt_sub, Int64.ofInt_mul, p_mx, p_mn, q_mx, q_mn]; rfl) ?_
  refine wx_ge (oo := 42) (ln := 3) (a := 58) (b := 0) (zz := 0) (by decide +kernel) (fun h3 => ?_) (fun h3 => ?_)
  · have hx := ite_f h3 hx
    cases hx
    exact (kc _ rfl).1 _ _ rfl rfl
  · have hx := ite_t h3 hx
    refine wp_g 4 (pc1 := 23) (lv1 := [(0, .ref 146), (1, .int (Int32.ofInt x1)), (2, .int (Int32.ofInt x2)), (3, .int (Int32.ofInt x3))]) (st1 := [.int (Int32.ofInt x1), .int (Int32.ofInt x2), .int (Int32.ofInt x3), .ref 146]) (w1 := w) rfl ?_
    obtain ⟨o4, e5, hx⟩ := bd hx
    refine wp_cl [.int (Int32.ofInt x1)] [.int (Int32.ofInt x2), .int (Int32.ofInt x3), .ref 146] (i := .invokestatic 355) (ln := 3) (a := 215) (b := 1) (z := 0) (by decide +kernel) rfl rfl (by decide) rfl (show (1 : Nat) = pm_na 215 by decide +kernel) (Nat.le_of_ble_eq_true rfl) (show (1 : Nat) ≤ pm_n 215 by decide +kernel) (by rw [show pm_k 215 = 1 by decide +kernel]; rfl) (xm_wayOf_ok (d := d + 2) e5 ?_)
    show wp _ 231 26 [(0, .ref 146), (1, .int (Int32.ofInt x1)), (2, .int (Int32.ofInt x2)), (3, .int (Int32.ofInt x3))] [.int (Int32.ofInt o4), .int (Int32.ofInt x2), .int (Int32.ofInt x3), .ref 146] w _
    obtain ⟨o8, e9, hx⟩ := bd hx
    refine wp_cl [.ref 146, .int (Int32.ofInt x3), .int (Int32.ofInt x2), .int (Int32.ofInt o4)] [] (i := .invokevirtual 331) (ln := 3) (a := 206) (b := 0) (z := 0) (by decide +kernel) rfl rfl (by decide) rfl (show (4 : Nat) = pm_na 206 by decide +kernel) (Nat.le_of_ble_eq_true rfl) (show (4 : Nat) ≤ pm_n 206 by decide +kernel) (rcv_x 12 h (hS _ _ sm_146) (by decide +kernel)) (xm_kindBy_ok (d := d + 1) hS h e9 ?_)
    show wp _ 231 29 [(0, .ref 146), (1, .int (Int32.ofInt x1)), (2, .int (Int32.ofInt x2)), (3, .int (Int32.ofInt x3))] [.int (Int32.ofInt o8)] w _
    refine wp_g 2 (pc1 := 33) (lv1 := [(4, .int (Int32.ofInt o8)), (0, .ref 146), (1, .int (Int32.ofInt x1)), (2, .int (Int32.ofInt x2)), (3, .int (Int32.ofInt x3))]) (st1 := [.int (Int32.ofInt o8)]) (w1 := w) rfl ?_
    refine wz_eq (oo := 19) (ln := 3) (a := 52) (b := 0) (zz := 0) (by decide +kernel) (fun h12 => ?_) (fun h12 => ?_)
    · have hx := ite_t h12 hx
      refine wp_g 2 (pc1 := 7) (lv1 := [(3, .int (Int32.ofInt (x3 + 1))), (4, .int (Int32.ofInt o8)), (0, .ref 146), (1, .int (Int32.ofInt x1)), (2, .int (Int32.ofInt x2))]) (st1 := []) (w1 := w) (by simp only [Int32.ofInt_add, Int32.ofInt_sub, Int32.ofInt_mul, Int32.ofInt_neg, p_and, p_or, p_xor, p_shl, p_shr, p_usr, p_w8, p_c16, p_lI, q_and, q_or, q_shl, q_shr, q_w32, Int64.ofInt_add, Int64.ofInt_sub, Int64.ofInt_mul, p_mx, p_mn, q_mx, q_mn]; rfl) ?_
      refine wp_lv (lv1 := [(0, .ref 146), (1, .int (Int32.ofInt x1)), (2, .int (Int32.ofInt x2)), (3, .int (Int32.ofInt (x3 + 1)))]) (lsub_p [2, 3, 4, 0] rfl rfl rfl) ?_
      cases hx
      exact kn _ _ rfl rfl
    · have hx := ite_f h12 hx
      refine wp_g 2 (pc1 := 39) (lv1 := [(4, .int (Int32.ofInt o8)), (0, .ref 146), (1, .int (Int32.ofInt x1)), (2, .int (Int32.ofInt x2)), (3, .int (Int32.ofInt x3))]) (st1 := [.ref 146, .int (Int32.ofInt o8)]) (w1 := w) rfl ?_
      refine wx_gr (o := 10) (kf := 39) (ln := 3) (ci := 12) (b := 20) (zz := 0) (x := 146) (by decide +kernel) h (hS _ _ sm_146) rfl ?_
      show wp _ 231 42 [(4, .int (Int32.ofInt o8)), (0, .ref 146), (1, .int (Int32.ofInt x1)), (2, .int (Int32.ofInt x2)), (3, .int (Int32.ofInt x3))] [.ref 156, .int (Int32.ofInt o8)] w _
      refine wp_g 3 (pc1 := 46) (lv1 := [(4, .int (Int32.ofInt o8)), (0, .ref 146), (1, .int (Int32.ofInt x1)), (2, .int (Int32.ofInt x2)), (3, .int (Int32.ofInt x3))]) (st1 := [.int (Int32.ofInt (82 + x3)), .ref 156, .int (Int32.ofInt o8)]) (w1 := w) (by simp only [Int32.ofInt_add, Int32.ofInt_sub, Int32.ofInt_mul, Int32.ofInt_neg, p_and, p_or, p_xor, p_shl, p_shr, p_usr, p_w8, p_c16, p_lI, q_and, q_or, q_shl, q_shr, q_w32, Int64.ofInt_add, Int64.ofInt_sub, Int64.ofInt_mul, p_mx, p_mn, q_mx, q_mn]; rfl) ?_
      obtain ⟨i13, e14, hx⟩ := bd hx
      refine wx_ra (x := 156) (n := 130) (ln := 1) (a := 0) (b := 0) (zz := 0) (by decide +kernel) h (hS _ _ sm_156) e14 ?_
      show wp _ 231 47 [(4, .int (Int32.ofInt o8)), (0, .ref 146), (1, .int (Int32.ofInt x1)), (2, .int (Int32.ofInt x2)), (3, .int (Int32.ofInt x3))] [.int (Int32.ofInt (s 156 i13)), .int (Int32.ofInt o8)] w _
      refine wx_eq (oo := 5) (ln := 3) (a := 52) (b := 0) (zz := 0) (by decide +kernel) (fun h15 => ?_) (fun h15 => ?_)
      · have hx := ite_t h15 hx
        refine wp_g 2 (pc1 := 7) (lv1 := [(3, .int (Int32.ofInt (x3 + 1))), (4, .int (Int32.ofInt o8)), (0, .ref 146), (1, .int (Int32.ofInt x1)), (2, .int (Int32.ofInt x2))]) (st1 := []) (w1 := w) (by simp only [Int32.ofInt_add, Int32.ofInt_sub, Int32.ofInt_mul, Int32.ofInt_neg, p_and, p_or, p_xor, p_shl, p_shr, p_usr, p_w8, p_c16, p_lI, q_and, q_or, q_shl, q_shr, q_w32, Int64.ofInt_add, Int64.ofInt_sub, Int64.ofInt_mul, p_mx, p_mn, q_mx, q_mn]; rfl) ?_
        refine wp_lv (lv1 := [(0, .ref 146), (1, .int (Int32.ofInt x1)), (2, .int (Int32.ofInt x2)), (3, .int (Int32.ofInt (x3 + 1)))]) (lsub_p [2, 3, 4, 0] rfl rfl rfl) ?_
        cases hx
        exact kn _ _ rfl rfl
      · have hx := ite_f h15 hx
        refine wp_g 1 (pc1 := 51) (lv1 := [(4, .int (Int32.ofInt o8)), (0, .ref 146), (1, .int (Int32.ofInt x1)), (2, .int (Int32.ofInt x2)), (3, .int (Int32.ofInt x3))]) (st1 := [.int (Int32.ofInt 0)]) (w1 := w) rfl ?_
        refine wp_rt (i := .ireturn) (r := some (.int (Int32.ofInt 0))) (ln := 1) (a := 0) (b := 0) (z := 0) (by decide +kernel) rfl (ret_b (by decide +kernel) (Or.inl rfl)) ?_
        cases hx
        exact (kc _ rfl).2 _ _ rfl h
/-- FoldDeedsModel.foldsAsMarked (I)Z -/
noncomputable def xm_foldsAsMarked (s : Hp) (p1 : Int) : Option (Int × Hp) :=
  (xm_placeOf p1).bind fun o1 => (lp (fun (q : Int) => xm_foldsAsMarked_b7 s p1 o1 q) 0).bind fun q5 => q5.elim (fun q9 => (xm_sideOf p1).bind fun o11 => (xm_wayOf p1).bind fun o15 => (xm_turnsOver s o1 o11 o15).bind fun o19 => some (1, o19)) (fun r => some r)
set_option maxRecDepth 100000 in
theorem xm_foldsAsMarked_ok {d : Nat} {P : Option Value → pm_H → Prop} {w : pm_H} {sh : Shp} {w0 : pm_H} {s : Hp} (hS : StM sh) {p1 : Int} (h : Rw sh w0 s w) {o : Int × Hp} (hx : xm_foldsAsMarked s p1 = some o) (kr : ∀ w1, Rw sh w0 o.2 w1 → P (some (.int (Int32.ofInt o.1))) w1) : wp (d + 3) 231 0 (lv_args 0 [.ref 146, .int (Int32.ofInt p1)]) [] w P := by
  show wp _ 231 0 [(0, .ref 146), (1, .int (Int32.ofInt p1))] [] w _
  unfold xm_foldsAsMarked at hx
  refine wp_g 1 (pc1 := 1) (lv1 := [(0, .ref 146), (1, .int (Int32.ofInt p1))]) (st1 := [.int (Int32.ofInt p1)]) (w1 := w) rfl ?_
  obtain ⟨o1, e2, hx⟩ := bd hx
  refine wp_cl [.int (Int32.ofInt p1)] [] (i := .invokestatic 352) (ln := 3) (a := 213) (b := 1) (z := 0) (by decide +kernel) rfl rfl (by decide) rfl (show (1 : Nat) = pm_na 213 by decide +kernel) (Nat.le_of_ble_eq_true rfl) (show (1 : Nat) ≤ pm_n 213 by decide +kernel) (by rw [show pm_k 213 = 1 by decide +kernel]; rfl) (xm_placeOf_ok (d := d + 2) e2 ?_)
  show wp _ 231 4 [(0, .ref 146), (1, .int (Int32.ofInt p1))] [.int (Int32.ofInt o1)] w _
  refine wp_g 3 (pc1 := 7) (lv1 := [(3, .int (Int32.ofInt 0)), (2, .int (Int32.ofInt o1)), (0, .ref 146), (1, .int (Int32.ofInt p1))]) (st1 := []) (w1 := w) rfl ?_
  refine wp_lv (lv1 := [(0, .ref 146), (1, .int (Int32.ofInt p1)), (2, .int (Int32.ofInt o1)), (3, .int (Int32.ofInt 0))]) (lsub_p [2, 3, 1, 0] rfl rfl rfl) ?_
  obtain ⟨q5, e6, hx⟩ := bd hx
  refine wp_lp (σ := Int) (ρ := (Int ⊕ (Int × Hp))) (B := fun q => xm_foldsAsMarked_b7 s p1 o1 q) (R := fun q w' => w = w') (C := fun r => (∀ q1 w1, r = .inl q1 → w = w1 → wp (d + 3) 231 58 [(0, .ref 146), (1, .int (Int32.ofInt p1)), (2, .int (Int32.ofInt o1)), (3, .int (Int32.ofInt q1))] [] w1 P) ∧ (∀ v1 w1, r = .inr v1 → Rw sh w0 v1.2 w1 → P (some (.int (Int32.ofInt v1.1))) w1)) (lv := fun q => [(0, .ref 146), (1, .int (Int32.ofInt p1)), (2, .int (Int32.ofInt o1)), (3, .int (Int32.ofInt q))]) (hd := 7) (fun q w' o hR hb kn kc => by subst hR; exact xm_foldsAsMarked_b7_ok hS h hb kn kc) _ _ _ e6 rfl ?_
  refine ⟨?_, fun v10 w1 hs h1 => by subst hs; cases (se_r hx); exact kr _ h1⟩
  intro q9 w7 hs h8
  subst hs
  replace hx := se_l hx
  subst h8
  show wp _ 231 58 [(0, .ref 146), (1, .int (Int32.ofInt p1)), (2, .int (Int32.ofInt o1)), (3, .int (Int32.ofInt q9))] [] w _
  refine wp_g 3 (pc1 := 61) (lv1 := [(0, .ref 146), (1, .int (Int32.ofInt p1)), (2, .int (Int32.ofInt o1)), (3, .int (Int32.ofInt q9))]) (st1 := [.int (Int32.ofInt p1), .int (Int32.ofInt o1), .ref 146]) (w1 := w) rfl ?_
  obtain ⟨o11, e12, hx⟩ := bd hx
  refine wp_cl [.int (Int32.ofInt p1)] [.int (Int32.ofInt o1), .ref 146] (i := .invokestatic 361) (ln := 3) (a := 214) (b := 1) (z := 0) (by decide +kernel) rfl rfl (by decide) rfl (show (1 : Nat) = pm_na 214 by decide +kernel) (Nat.le_of_ble_eq_true rfl) (show (1 : Nat) ≤ pm_n 214 by decide +kernel) (by rw [show pm_k 214 = 1 by decide +kernel]; rfl) (xm_sideOf_ok (d := d + 2) e12 ?_)
  show wp _ 231 64 [(0, .ref 146), (1, .int (Int32.ofInt p1)), (2, .int (Int32.ofInt o1)), (3, .int (Int32.ofInt q9))] [.int (Int32.ofInt o11), .int (Int32.ofInt o1), .ref 146] w _
  refine wp_g 1 (pc1 := 65) (lv1 := [(0, .ref 146), (1, .int (Int32.ofInt p1)), (2, .int (Int32.ofInt o1)), (3, .int (Int32.ofInt q9))]) (st1 := [.int (Int32.ofInt p1), .int (Int32.ofInt o11), .int (Int32.ofInt o1), .ref 146]) (w1 := w) rfl ?_
  obtain ⟨o15, e16, hx⟩ := bd hx
  refine wp_cl [.int (Int32.ofInt p1)] [.int (Int32.ofInt o11), .int (Int32.ofInt o1), .ref 146] (i := .invokestatic 355) (ln := 3) (a := 215) (b := 1) (z := 0) (by decide +kernel) rfl rfl (by decide) rfl (show (1 : Nat) = pm_na 215 by decide +kernel) (Nat.le_of_ble_eq_true rfl) (show (1 : Nat) ≤ pm_n 215 by decide +kernel) (by rw [show pm_k 215 = 1 by decide +kernel]; rfl) (xm_wayOf_ok (d := d + 2) e16 ?_)
  show wp _ 231 68 [(0, .ref 146), (1, .int (Int32.ofInt p1)), (2, .int (Int32.ofInt o1)), (3, .int (Int32.ofInt q9))] [.int (Int32.ofInt o15), .int (Int32.ofInt o11), .int (Int32.ofInt o1), .ref 146] w _
  obtain ⟨o19, e20, hx⟩ := bd hx
  refine wp_cl [.ref 146, .int (Int32.ofInt o1), .int (Int32.ofInt o11), .int (Int32.ofInt o15)] [] (i := .invokevirtual 371) (ln := 3) (a := 208) (b := 0) (z := 0) (by decide +kernel) rfl rfl (by decide) rfl (show (4 : Nat) = pm_na 208 by decide +kernel) (Nat.le_of_ble_eq_true rfl) (show (4 : Nat) ≤ pm_n 208 by decide +kernel) (rcv_x 12 h (hS _ _ sm_146) (by decide +kernel)) (xm_turnsOver_ok (d := d) hS h e20 (fun w21 h22 => ?_))
  show wp _ 231 71 [(0, .ref 146), (1, .int (Int32.ofInt p1)), (2, .int (Int32.ofInt o1)), (3, .int (Int32.ofInt q9))] [] w21 _
  refine wp_g 1 (pc1 := 72) (lv1 := [(0, .ref 146), (1, .int (Int32.ofInt p1)), (2, .int (Int32.ofInt o1)), (3, .int (Int32.ofInt q9))]) (st1 := [.int (Int32.ofInt 1)]) (w1 := w21) rfl ?_
  refine wp_rt (i := .ireturn) (r := some (.int (Int32.ofInt 1))) (ln := 1) (a := 0) (b := 0) (z := 0) (by decide +kernel) rfl (ret_b (by decide +kernel) (Or.inr rfl)) ?_
  cases hx
  exact kr _ h22
/-- FoldDeedsModel.isGoal (II)Z -/
noncomputable def xm_isGoal (s : Hp) (p1 : Int) (p2 : Int) : Option Int :=
  if w32 p1 < 0 then (xm_areMarked s).bind fun o7 => if w32 o7 = 0 ∨ w32 o7 = 1 then some o7 else none else (xm_cellsOf s p1).bind fun o2 => if w32 (bAnd p2 (bXor o2 (-1))) = 0 then some 1 else some 0
set_option maxRecDepth 100000 in
theorem xm_isGoal_ok {d : Nat} {P : Option Value → pm_H → Prop} {w : pm_H} {sh : Shp} {w0 : pm_H} {s : Hp} (hS : StM sh) {p1 : Int} {p2 : Int} (h : Rw sh w0 s w) {o : Int} (hx : xm_isGoal s p1 p2 = some o) (kr : P (some (.int (Int32.ofInt o))) w) : wp (d + 2) 232 0 (lv_args 0 [.ref 146, .int (Int32.ofInt p1), .int (Int32.ofInt p2)]) [] w P := by
  show wp _ 232 0 [(0, .ref 146), (1, .int (Int32.ofInt p1)), (2, .int (Int32.ofInt p2))] [] w _
  unfold xm_isGoal at hx
  refine wp_g 1 (pc1 := 1) (lv1 := [(0, .ref 146), (1, .int (Int32.ofInt p1)), (2, .int (Int32.ofInt p2))]) (st1 := [.int (Int32.ofInt p1)]) (w1 := w) rfl ?_
  refine wz_ge (oo := 10) (ln := 3) (a := 11) (b := 0) (zz := 0) (by decide +kernel) (fun h1 => ?_) (fun h1 => ?_)
  · have hx := ite_f h1 hx
    refine wp_g 3 (pc1 := 14) (lv1 := [(0, .ref 146), (1, .int (Int32.ofInt p1)), (2, .int (Int32.ofInt p2))]) (st1 := [.int (Int32.ofInt p1), .ref 146, .int (Int32.ofInt p2)]) (w1 := w) rfl ?_
    obtain ⟨o2, e3, hx⟩ := bd hx
    refine wp_cl [.ref 146, .int (Int32.ofInt p1)] [.int (Int32.ofInt p2)] (i := .invokevirtual 325) (ln := 3) (a := 198) (b := 0) (z := 0) (by decide +kernel) rfl rfl (by decide) rfl (show (2 : Nat) = pm_na 198 by decide +kernel) (Nat.le_of_ble_eq_true rfl) (show (2 : Nat) ≤ pm_n 198 by decide +kernel) (rcv_x 12 h (hS _ _ sm_146) (by decide +kernel)) (xm_cellsOf_ok (d := d) hS h e3 ?_)
    show wp _ 232 17 [(0, .ref 146), (1, .int (Int32.ofInt p1)), (2, .int (Int32.ofInt p2))] [.int (Int32.ofInt o2), .int (Int32.ofInt p2)] w _
    refine wp_g 3 (pc1 := 20) (lv1 := [(0, .ref 146), (1, .int (Int32.ofInt p1)), (2, .int (Int32.ofInt p2))]) (st1 := [.int (Int32.ofInt (bAnd p2 (bXor o2 (-1))))]) (w1 := w) (by simp only [Int32.ofInt_add, Int32.ofInt_sub, Int32.ofInt_mul, Int32.ofInt_neg, p_and, p_or, p_xor, p_shl, p_shr, p_usr, p_w8, p_c16, p_lI, q_and, q_or, q_shl, q_shr, q_w32, Int64.ofInt_add, Int64.ofInt_sub, Int64.ofInt_mul, p_mx, p_mn, q_mx, q_mn]; rfl) ?_
    refine wz_ne (oo := 7) (ln := 3) (a := 27) (b := 0) (zz := 0) (by decide +kernel) (fun h6 => ?_) (fun h6 => ?_)
    · have hx := ite_f h6 hx
      refine wp_g 1 (pc1 := 28) (lv1 := [(0, .ref 146), (1, .int (Int32.ofInt p1)), (2, .int (Int32.ofInt p2))]) (st1 := [.int (Int32.ofInt 0)]) (w1 := w) rfl ?_
      refine wp_rt (i := .ireturn) (r := some (.int (Int32.ofInt 0))) (ln := 1) (a := 0) (b := 0) (z := 0) (by decide +kernel) rfl (ret_b (by decide +kernel) (Or.inl rfl)) ?_
      cases hx
      exact kr
    · have hx := ite_t h6 hx
      refine wp_g 2 (pc1 := 28) (lv1 := [(0, .ref 146), (1, .int (Int32.ofInt p1)), (2, .int (Int32.ofInt p2))]) (st1 := [.int (Int32.ofInt 1)]) (w1 := w) rfl ?_
      refine wp_rt (i := .ireturn) (r := some (.int (Int32.ofInt 1))) (ln := 1) (a := 0) (b := 0) (z := 0) (by decide +kernel) rfl (ret_b (by decide +kernel) (Or.inr rfl)) ?_
      cases hx
      exact kr
  · have hx := ite_t h1 hx
    refine wp_g 1 (pc1 := 5) (lv1 := [(0, .ref 146), (1, .int (Int32.ofInt p1)), (2, .int (Int32.ofInt p2))]) (st1 := [.ref 146]) (w1 := w) rfl ?_
    obtain ⟨o7, e8, hx⟩ := bd hx
    refine wp_cl [.ref 146] [] (i := .invokevirtual 389) (ln := 3) (a := 230) (b := 0) (z := 0) (by decide +kernel) rfl rfl (by decide) rfl (show (1 : Nat) = pm_na 230 by decide +kernel) (Nat.le_of_ble_eq_true rfl) (show (1 : Nat) ≤ pm_n 230 by decide +kernel) (rcv_x 12 h (hS _ _ sm_146) (by decide +kernel)) (xm_areMarked_ok (d := d + 1) hS h e8 ?_)
    show wp _ 232 8 [(0, .ref 146), (1, .int (Int32.ofInt p1)), (2, .int (Int32.ofInt p2))] [.int (Int32.ofInt o7)] w _
    refine wp_g 1 (pc1 := 28) (lv1 := [(0, .ref 146), (1, .int (Int32.ofInt p1)), (2, .int (Int32.ofInt p2))]) (st1 := [.int (Int32.ofInt o7)]) (w1 := w) rfl ?_
    obtain ⟨h11, hx⟩ := gd hx
    refine wp_rt (i := .ireturn) (r := some (.int (Int32.ofInt o7))) (ln := 1) (a := 0) (b := 0) (z := 0) (by decide +kernel) rfl (ret_b (by decide +kernel) (w01 h11)) ?_
    cases hx
    exact kr
noncomputable def xm_findsRow_b26_j109 (s : Hp) (x1 : Int) (x2 : Int) (x3 : Int) (x4 : Int) : Option ((Int × Hp) ⊕ ((Int × Hp) ⊕ (Int × Hp))) :=
  if w32 (x4 + 1) = w32 x1 then (xm_isGoal s x2 x3).bind fun o12 => if w32 o12 = 0 then some (.inl (x4, s)) else some (.inr (.inr (1, s))) else (ix 9 (x4 + 1)).bind fun i2 => (some (uh s 161 i2 (-1))).bind fun s4 => (xm_keepsPlace s4 (x4 + 1)).bind fun o8 => some (.inl (x4 + 1, o8))
set_option maxRecDepth 100000 in
theorem xm_findsRow_b26_j109_ok {d : Nat} {P : Option Value → pm_H → Prop} {w : pm_H} {sh : Shp} {w0 : pm_H} {s : Hp} (hS : StM sh) {x1 : Int} {x2 : Int} {x3 : Int} {x4 : Int} (h : Rw sh w0 s w) {o : ((Int × Hp) ⊕ ((Int × Hp) ⊕ (Int × Hp)))} (hx : xm_findsRow_b26_j109 s x1 x2 x3 x4 = some o) (kn : ∀ (q : Int × Hp) w1, o = .inl q → Rw sh w0 q.2 w1 → wp (d + 5) 233 26 [(0, .ref 146), (1, .int (Int32.ofInt x1)), (2, .int (Int32.ofInt x2)), (3, .int (Int32.ofInt x3)), (4, .int (Int32.ofInt q.1))] [] w1 P) (kc : ∀ (r : ((Int × Hp) ⊕ (Int × Hp))), o = .inr r → ((∀ q1 w1, r = .inl q1 → Rw sh w0 q1.2 w1 → wp (d + 5) 233 148 [(0, .ref 146), (1, .int (Int32.ofInt x1)), (2, .int (Int32.ofInt x2)), (3, .int (Int32.ofInt x3)), (4, .int (Int32.ofInt q1.1))] [] w1 P) ∧ (∀ v1 w1, r = .inr v1 → Rw sh w0 v1.2 w1 → P (some (.int (Int32.ofInt v1.1))) w1))) : wp (d + 5) 233 109 [(0, .ref 146), (1, .int (Int32.ofInt x1)), (2, .int (Int32.ofInt x2)), (3, .int (Int32.ofInt x3)), (4, .int (Int32.ofInt x4))] [] w P := by
  unfold xm_findsRow_b26_j109 at hx
  refine wp_g 4 (pc1 := 114) (lv1 := [(0, .ref 146), (1, .int (Int32.ofInt x1)), (2, .int (Int32.ofInt x2)), (3, .int (Int32.ofInt x3)), (4, .int (Int32.ofInt x4))]) (st1 := [.int (Int32.ofInt x1), .int (Int32.ofInt (x4 + 1))]) (w1 := w) (by simp only [Int32.ofInt_add, Int32.ofInt_sub, Int32.ofInt_mul, Int32.ofInt_neg, p_and, p_or, p_xor, p_shl, p_shr, p_usr, p_w8, p_c16, p_lI, q_and, q_or, q_shl, q_shr, q_w32, Int64.ofInt_add, Int64.ofInt_sub, Int64.ofInt_mul, p_mx, p_mn, q_mx, q_mn]; rfl) ?_
  refine wx_ne (oo := 14) (ln := 3) (a := 128) (b := 0) (zz := 0) (by decide +kernel) (fun h1 => ?_) (fun h1 => ?_)
  · have hx := ite_f h1 hx
    refine wp_g 2 (pc1 := 132) (lv1 := [(4, .int (Int32.ofInt (x4 + 1))), (0, .ref 146), (1, .int (Int32.ofInt x1)), (2, .int (Int32.ofInt x2)), (3, .int (Int32.ofInt x3))]) (st1 := [.ref 146]) (w1 := w) (by simp only [Int32.ofInt_add, Int32.ofInt_sub, Int32.ofInt_mul, Int32.ofInt_neg, p_and, p_or, p_xor, p_shl, p_shr, p_usr, p_w8, p_c16, p_lI, q_and, q_or, q_shl, q_shr, q_w32, Int64.ofInt_add, Int64.ofInt_sub, Int64.ofInt_mul, p_mx, p_mn, q_mx, q_mn]; rfl) ?_
    refine wx_gr (o := 15) (kf := 58) (ln := 3) (ci := 12) (b := 28) (zz := 0) (x := 146) (by decide +kernel) h (hS _ _ sm_146) rfl ?_
    show wp _ 233 135 [(4, .int (Int32.ofInt (x4 + 1))), (0, .ref 146), (1, .int (Int32.ofInt x1)), (2, .int (Int32.ofInt x2)), (3, .int (Int32.ofInt x3))] [.ref 161] w _
    refine wp_g 2 (pc1 := 138) (lv1 := [(4, .int (Int32.ofInt (x4 + 1))), (0, .ref 146), (1, .int (Int32.ofInt x1)), (2, .int (Int32.ofInt x2)), (3, .int (Int32.ofInt x3))]) (st1 := [.int (Int32.ofInt (-1)), .int (Int32.ofInt (x4 + 1)), .ref 161]) (w1 := w) rfl ?_
    obtain ⟨i2, e3, hx⟩ := bd hx
    obtain ⟨s4, e5, hx⟩ := bd hx
    refine wx_wa (x := 161) (n := 9) (ln := 1) (a := 0) (b := 0) (zz := 0) (by decide +kernel) h (hS _ _ sm_161) e3 e5 (fun w6 h7 => ?_)
    refine wp_g 2 (pc1 := 142) (lv1 := [(4, .int (Int32.ofInt (x4 + 1))), (0, .ref 146), (1, .int (Int32.ofInt x1)), (2, .int (Int32.ofInt x2)), (3, .int (Int32.ofInt x3))]) (st1 := [.int (Int32.ofInt (x4 + 1)), .ref 146]) (w1 := w6) rfl ?_
    obtain ⟨o8, e9, hx⟩ := bd hx
    refine wp_cl [.ref 146, .int (Int32.ofInt (x4 + 1))] [] (i := .invokevirtual 392) (ln := 3) (a := 228) (b := 0) (z := 0) (by decide +kernel) rfl rfl (by decide) rfl (show (2 : Nat) = pm_na 228 by decide +kernel) (Nat.le_of_ble_eq_true rfl) (show (2 : Nat) ≤ pm_n 228 by decide +kernel) (rcv_x 12 h7 (hS _ _ sm_146) (by decide +kernel)) (xm_keepsPlace_ok (d := d + 4) hS h7 e9 (fun w10 h11 => ?_))
    show wp _ 233 145 [(4, .int (Int32.ofInt (x4 + 1))), (0, .ref 146), (1, .int (Int32.ofInt x1)), (2, .int (Int32.ofInt x2)), (3, .int (Int32.ofInt x3))] [] w10 _
    refine wp_g 1 (pc1 := 26) (lv1 := [(4, .int (Int32.ofInt (x4 + 1))), (0, .ref 146), (1, .int (Int32.ofInt x1)), (2, .int (Int32.ofInt x2)), (3, .int (Int32.ofInt x3))]) (st1 := []) (w1 := w10) rfl ?_
    refine wp_lv (lv1 := [(0, .ref 146), (1, .int (Int32.ofInt x1)), (2, .int (Int32.ofInt x2)), (3, .int (Int32.ofInt x3)), (4, .int (Int32.ofInt (x4 + 1)))]) (lsub_p [1, 2, 3, 4, 0] rfl rfl rfl) ?_
    cases hx
    exact kn _ _ rfl h11
  · have hx := ite_t h1 hx
    refine wp_g 3 (pc1 := 120) (lv1 := [(0, .ref 146), (1, .int (Int32.ofInt x1)), (2, .int (Int32.ofInt x2)), (3, .int (Int32.ofInt x3)), (4, .int (Int32.ofInt x4))]) (st1 := [.int (Int32.ofInt x3), .int (Int32.ofInt x2), .ref 146]) (w1 := w) rfl ?_
    obtain ⟨o12, e13, hx⟩ := bd hx
    refine wp_cl [.ref 146, .int (Int32.ofInt x2), .int (Int32.ofInt x3)] [] (i := .invokevirtual 395) (ln := 3) (a := 232) (b := 0) (z := 0) (by decide +kernel) rfl rfl (by decide) rfl (show (3 : Nat) = pm_na 232 by decide +kernel) (Nat.le_of_ble_eq_true rfl) (show (3 : Nat) ≤ pm_n 232 by decide +kernel) (rcv_x 12 h (hS _ _ sm_146) (by decide +kernel)) (xm_isGoal_ok (d := d + 2) hS h e13 ?_)
    show wp _ 233 123 [(0, .ref 146), (1, .int (Int32.ofInt x1)), (2, .int (Int32.ofInt x2)), (3, .int (Int32.ofInt x3)), (4, .int (Int32.ofInt x4))] [.int (Int32.ofInt o12)] w _
    refine wz_eq (oo := (-97)) (ln := 3) (a := 26) (b := 0) (zz := 0) (by decide +kernel) (fun h16 => ?_) (fun h16 => ?_)
    · have hx := ite_t h16 hx
      cases hx
      exact kn _ _ rfl h
    · have hx := ite_f h16 hx
      refine wp_g 1 (pc1 := 127) (lv1 := [(0, .ref 146), (1, .int (Int32.ofInt x1)), (2, .int (Int32.ofInt x2)), (3, .int (Int32.ofInt x3)), (4, .int (Int32.ofInt x4))]) (st1 := [.int (Int32.ofInt 1)]) (w1 := w) rfl ?_
      refine wp_rt (i := .ireturn) (r := some (.int (Int32.ofInt 1))) (ln := 1) (a := 0) (b := 0) (z := 0) (by decide +kernel) rfl (ret_b (by decide +kernel) (Or.inr rfl)) ?_
      cases hx
      exact (kc _ rfl).2 _ _ rfl h
noncomputable def xm_findsRow_b26 (s : Hp) (x1 : Int) (x2 : Int) (x3 : Int) (x4 : Int) : Option ((Int × Hp) ⊕ ((Int × Hp) ⊕ (Int × Hp))) :=
  if w32 x4 < 0 then some (.inr (.inl (x4, s))) else (xm_laysPlace s x4).bind fun o2 => (ix 9 x4).bind fun i6 => (some (uh o2 161 i6 ((o2 161 i6) + 1))).bind fun s8 => (xm_placeOf (s8 161 i6)).bind fun o12 => (ix 130 10).bind fun i16 => if w32 o12 < w32 ((s8 156 i16) - 1) then if w32 x2 < 0 then (xm_foldsAsMarked s8 (s8 161 i6)).bind fun o25 => if w32 o25.1 = 0 then some (.inl (x4, o25.2)) else xm_findsRow_b26_j109 o25.2 x1 x2 x3 x4 else (xm_isFolded s8 x2 (s8 161 i6)).bind fun o20 => if w32 o20.1 = 0 then some (.inl (x4, o20.2)) else xm_findsRow_b26_j109 o20.2 x1 x2 x3 x4 else some (.inl (x4 + (-1), s8))
set_option maxRecDepth 100000 in
theorem xm_findsRow_b26_ok {d : Nat} {P : Option Value → pm_H → Prop} {w : pm_H} {sh : Shp} {w0 : pm_H} {s : Hp} (hS : StM sh) {x1 : Int} {x2 : Int} {x3 : Int} {x4 : Int} (h : Rw sh w0 s w) {o : ((Int × Hp) ⊕ ((Int × Hp) ⊕ (Int × Hp)))} (hx : xm_findsRow_b26 s x1 x2 x3 x4 = some o) (kn : ∀ (q : Int × Hp) w1, o = .inl q → Rw sh w0 q.2 w1 → wp (d + 5) 233 26 [(0, .ref 146), (1, .int (Int32.ofInt x1)), (2, .int (Int32.ofInt x2)), (3, .int (Int32.ofInt x3)), (4, .int (Int32.ofInt q.1))] [] w1 P) (kc : ∀ (r : ((Int × Hp) ⊕ (Int × Hp))), o = .inr r → ((∀ q1 w1, r = .inl q1 → Rw sh w0 q1.2 w1 → wp (d + 5) 233 148 [(0, .ref 146), (1, .int (Int32.ofInt x1)), (2, .int (Int32.ofInt x2)), (3, .int (Int32.ofInt x3)), (4, .int (Int32.ofInt q1.1))] [] w1 P) ∧ (∀ v1 w1, r = .inr v1 → Rw sh w0 v1.2 w1 → P (some (.int (Int32.ofInt v1.1))) w1))) : wp (d + 5) 233 26 [(0, .ref 146), (1, .int (Int32.ofInt x1)), (2, .int (Int32.ofInt x2)), (3, .int (Int32.ofInt x3)), (4, .int (Int32.ofInt x4))] [] w P := by
  unfold xm_findsRow_b26 at hx
  refine wp_g 1 (pc1 := 28) (lv1 := [(0, .ref 146), (1, .int (Int32.ofInt x1)), (2, .int (Int32.ofInt x2)), (3, .int (Int32.ofInt x3)), (4, .int (Int32.ofInt x4))]) (st1 := [.int (Int32.ofInt x4)]) (w1 := w) rfl ?_
  refine wz_lt (oo := 120) (ln := 3) (a := 148) (b := 0) (zz := 0) (by decide +kernel) (fun h1 => ?_) (fun h1 => ?_)
  · have hx := ite_t h1 hx
    cases hx
    exact (kc _ rfl).1 _ _ rfl h
  · have hx := ite_f h1 hx
    refine wp_g 2 (pc1 := 34) (lv1 := [(0, .ref 146), (1, .int (Int32.ofInt x1)), (2, .int (Int32.ofInt x2)), (3, .int (Int32.ofInt x3)), (4, .int (Int32.ofInt x4))]) (st1 := [.int (Int32.ofInt x4), .ref 146]) (w1 := w) rfl ?_
    obtain ⟨o2, e3, hx⟩ := bd hx
    refine wp_cl [.ref 146, .int (Int32.ofInt x4)] [] (i := .invokevirtual 398) (ln := 3) (a := 229) (b := 0) (z := 0) (by decide +kernel) rfl rfl (by decide) rfl (show (2 : Nat) = pm_na 229 by decide +kernel) (Nat.le_of_ble_eq_true rfl) (show (2 : Nat) ≤ pm_n 229 by decide +kernel) (rcv_x 12 h (hS _ _ sm_146) (by decide +kernel)) (xm_laysPlace_ok (d := d + 4) hS h e3 (fun w4 h5 => ?_))
    show wp _ 233 37 [(0, .ref 146), (1, .int (Int32.ofInt x1)), (2, .int (Int32.ofInt x2)), (3, .int (Int32.ofInt x3)), (4, .int (Int32.ofInt x4))] [] w4 _
    refine wp_g 1 (pc1 := 38) (lv1 := [(0, .ref 146), (1, .int (Int32.ofInt x1)), (2, .int (Int32.ofInt x2)), (3, .int (Int32.ofInt x3)), (4, .int (Int32.ofInt x4))]) (st1 := [.ref 146]) (w1 := w4) rfl ?_
    refine wx_gr (o := 15) (kf := 58) (ln := 3) (ci := 12) (b := 28) (zz := 0) (x := 146) (by decide +kernel) h5 (hS _ _ sm_146) rfl ?_
    show wp _ 233 41 [(0, .ref 146), (1, .int (Int32.ofInt x1)), (2, .int (Int32.ofInt x2)), (3, .int (Int32.ofInt x3)), (4, .int (Int32.ofInt x4))] [.ref 161] w4 _
    refine wp_g 2 (pc1 := 44) (lv1 := [(0, .ref 146), (1, .int (Int32.ofInt x1)), (2, .int (Int32.ofInt x2)), (3, .int (Int32.ofInt x3)), (4, .int (Int32.ofInt x4))]) (st1 := [.int (Int32.ofInt x4), .ref 161, .int (Int32.ofInt x4), .ref 161]) (w1 := w4) rfl ?_
    obtain ⟨i6, e7, hx⟩ := bd hx
    refine wx_ra (x := 161) (n := 9) (ln := 1) (a := 0) (b := 0) (zz := 0) (by decide +kernel) h5 (hS _ _ sm_161) e7 ?_
    show wp _ 233 45 [(0, .ref 146), (1, .int (Int32.ofInt x1)), (2, .int (Int32.ofInt x2)), (3, .int (Int32.ofInt x3)), (4, .int (Int32.ofInt x4))] [.int (Int32.ofInt (o2 161 i6)), .int (Int32.ofInt x4), .ref 161] w4 _
    refine wp_g 2 (pc1 := 47) (lv1 := [(0, .ref 146), (1, .int (Int32.ofInt x1)), (2, .int (Int32.ofInt x2)), (3, .int (Int32.ofInt x3)), (4, .int (Int32.ofInt x4))]) (st1 := [.int (Int32.ofInt ((o2 161 i6) + 1)), .int (Int32.ofInt x4), .ref 161]) (w1 := w4) (by simp only [Int32.ofInt_add, Int32.ofInt_sub, Int32.ofInt_mul, Int32.ofInt_neg, p_and, p_or, p_xor, p_shl, p_shr, p_usr, p_w8, p_c16, p_lI, q_and, q_or, q_shl, q_shr, q_w32, Int64.ofInt_add, Int64.ofInt_sub, Int64.ofInt_mul, p_mx, p_mn, q_mx, q_mn]; rfl) ?_
    obtain ⟨s8, e9, hx⟩ := bd hx
    refine wx_wa (x := 161) (n := 9) (ln := 1) (a := 0) (b := 0) (zz := 0) (by decide +kernel) h5 (hS _ _ sm_161) e7 e9 (fun w10 h11 => ?_)
    refine wp_g 1 (pc1 := 49) (lv1 := [(0, .ref 146), (1, .int (Int32.ofInt x1)), (2, .int (Int32.ofInt x2)), (3, .int (Int32.ofInt x3)), (4, .int (Int32.ofInt x4))]) (st1 := [.ref 146]) (w1 := w10) rfl ?_
    refine wx_gr (o := 15) (kf := 58) (ln := 3) (ci := 12) (b := 28) (zz := 0) (x := 146) (by decide +kernel) h11 (hS _ _ sm_146) rfl ?_
    show wp _ 233 52 [(0, .ref 146), (1, .int (Int32.ofInt x1)), (2, .int (Int32.ofInt x2)), (3, .int (Int32.ofInt x3)), (4, .int (Int32.ofInt x4))] [.ref 161] w10 _
    refine wp_g 1 (pc1 := 54) (lv1 := [(0, .ref 146), (1, .int (Int32.ofInt x1)), (2, .int (Int32.ofInt x2)), (3, .int (Int32.ofInt x3)), (4, .int (Int32.ofInt x4))]) (st1 := [.int (Int32.ofInt x4), .ref 161]) (w1 := w10) rfl ?_
    refine wx_ra (x := 161) (n := 9) (ln := 1) (a := 0) (b := 0) (zz := 0) (by decide +kernel) h11 (hS _ _ sm_161) e7 ?_
    show wp _ 233 55 [(0, .ref 146), (1, .int (Int32.ofInt x1)), (2, .int (Int32.ofInt x2)), (3, .int (Int32.ofInt x3)), (4, .int (Int32.ofInt x4))] [.int (Int32.ofInt (s8 161 i6))] w10 _
    refine wp_g 2 (pc1 := 59) (lv1 := [(5, .int (Int32.ofInt (s8 161 i6))), (0, .ref 146), (1, .int (Int32.ofInt x1)), (2, .int (Int32.ofInt x2)), (3, .int (Int32.ofInt x3)), (4, .int (Int32.ofInt x4))]) (st1 := [.int (Int32.ofInt (s8 161 i6))]) (w1 := w10) rfl ?_
    obtain ⟨o12, e13, hx⟩ := bd hx
    refine wp_cl [.int (Int32.ofInt (s8 161 i6))] [] (i := .invokestatic 352) (ln := 3) (a := 213) (b := 1) (z := 0) (by decide +kernel) rfl rfl (by decide) rfl (show (1 : Nat) = pm_na 213 by decide +kernel) (Nat.le_of_ble_eq_true rfl) (show (1 : Nat) ≤ pm_n 213 by decide +kernel) (by rw [show pm_k 213 = 1 by decide +kernel]; rfl) (xm_placeOf_ok (d := d + 4) e13 ?_)
    show wp _ 233 62 [(5, .int (Int32.ofInt (s8 161 i6))), (0, .ref 146), (1, .int (Int32.ofInt x1)), (2, .int (Int32.ofInt x2)), (3, .int (Int32.ofInt x3)), (4, .int (Int32.ofInt x4))] [.int (Int32.ofInt o12)] w10 _
    refine wp_g 1 (pc1 := 63) (lv1 := [(5, .int (Int32.ofInt (s8 161 i6))), (0, .ref 146), (1, .int (Int32.ofInt x1)), (2, .int (Int32.ofInt x2)), (3, .int (Int32.ofInt x3)), (4, .int (Int32.ofInt x4))]) (st1 := [.ref 146, .int (Int32.ofInt o12)]) (w1 := w10) rfl ?_
    refine wx_gr (o := 10) (kf := 39) (ln := 3) (ci := 12) (b := 20) (zz := 0) (x := 146) (by decide +kernel) h11 (hS _ _ sm_146) rfl ?_
    show wp _ 233 66 [(5, .int (Int32.ofInt (s8 161 i6))), (0, .ref 146), (1, .int (Int32.ofInt x1)), (2, .int (Int32.ofInt x2)), (3, .int (Int32.ofInt x3)), (4, .int (Int32.ofInt x4))] [.ref 156, .int (Int32.ofInt o12)] w10 _
    refine wp_g 1 (pc1 := 68) (lv1 := [(5, .int (Int32.ofInt (s8 161 i6))), (0, .ref 146), (1, .int (Int32.ofInt x1)), (2, .int (Int32.ofInt x2)), (3, .int (Int32.ofInt x3)), (4, .int (Int32.ofInt x4))]) (st1 := [.int (Int32.ofInt 10), .ref 156, .int (Int32.ofInt o12)]) (w1 := w10) rfl ?_
    obtain ⟨i16, e17, hx⟩ := bd hx
    refine wx_ra (x := 156) (n := 130) (ln := 1) (a := 0) (b := 0) (zz := 0) (by decide +kernel) h11 (hS _ _ sm_156) e17 ?_
    show wp _ 233 69 [(5, .int (Int32.ofInt (s8 161 i6))), (0, .ref 146), (1, .int (Int32.ofInt x1)), (2, .int (Int32.ofInt x2)), (3, .int (Int32.ofInt x3)), (4, .int (Int32.ofInt x4))] [.int (Int32.ofInt (s8 156 i16)), .int (Int32.ofInt o12)] w10 _
    refine wp_g 2 (pc1 := 71) (lv1 := [(5, .int (Int32.ofInt (s8 161 i6))), (0, .ref 146), (1, .int (Int32.ofInt x1)), (2, .int (Int32.ofInt x2)), (3, .int (Int32.ofInt x3)), (4, .int (Int32.ofInt x4))]) (st1 := [.int (Int32.ofInt ((s8 156 i16) - 1)), .int (Int32.ofInt o12)]) (w1 := w10) (by simp only [Int32.ofInt_add, Int32.ofInt_sub, Int32.ofInt_mul, Int32.ofInt_neg, p_and, p_or, p_xor, p_shl, p_shr, p_usr, p_w8, p_c16, p_lI, q_and, q_or, q_shl, q_shr, q_w32, Int64.ofInt_add, Int64.ofInt_sub, Int64.ofInt_mul, p_mx, p_mn, q_mx, q_mn]; rfl) ?_
    refine wx_lt (oo := 9) (ln := 3) (a := 80) (b := 0) (zz := 0) (by decide +kernel) (fun h18 => ?_) (fun h18 => ?_)
    · have hx := ite_t h18 hx
      refine wp_g 1 (pc1 := 81) (lv1 := [(5, .int (Int32.ofInt (s8 161 i6))), (0, .ref 146), (1, .int (Int32.ofInt x1)), (2, .int (Int32.ofInt x2)), (3, .int (Int32.ofInt x3)), (4, .int (Int32.ofInt x4))]) (st1 := [.int (Int32.ofInt x2)]) (w1 := w10) rfl ?_
      refine wz_ge (oo := 15) (ln := 3) (a := 96) (b := 0) (zz := 0) (by decide +kernel) (fun h19 => ?_) (fun h19 => ?_)
      · have hx := ite_f h19 hx
        refine wp_g 3 (pc1 := 100) (lv1 := [(5, .int (Int32.ofInt (s8 161 i6))), (0, .ref 146), (1, .int (Int32.ofInt x1)), (2, .int (Int32.ofInt x2)), (3, .int (Int32.ofInt x3)), (4, .int (Int32.ofInt x4))]) (st1 := [.int (Int32.ofInt (s8 161 i6)), .int (Int32.ofInt x2), .ref 146]) (w1 := w10) rfl ?_
        obtain ⟨o20, e21, hx⟩ := bd hx
        refine wp_cl [.ref 146, .int (Int32.ofInt x2), .int (Int32.ofInt (s8 161 i6))] [] (i := .invokevirtual 384) (ln := 3) (a := 216) (b := 0) (z := 0) (by decide +kernel) rfl rfl (by decide) rfl (show (3 : Nat) = pm_na 216 by decide +kernel) (Nat.le_of_ble_eq_true rfl) (show (3 : Nat) ≤ pm_n 216 by decide +kernel) (rcv_x 12 h11 (hS _ _ sm_146) (by decide +kernel)) (xm_isFolded_ok (d := d) hS h11 e21 (fun w22 h23 => ?_))
        show wp _ 233 103 [(5, .int (Int32.ofInt (s8 161 i6))), (0, .ref 146), (1, .int (Int32.ofInt x1)), (2, .int (Int32.ofInt x2)), (3, .int (Int32.ofInt x3)), (4, .int (Int32.ofInt x4))] [.int (Int32.ofInt o20.1)] w22 _
        refine wz_ne (oo := 6) (ln := 3) (a := 109) (b := 0) (zz := 0) (by decide +kernel) (fun h24 => ?_) (fun h24 => ?_)
        · have hx := ite_f h24 hx
          refine wp_lv (lv1 := [(0, .ref 146), (1, .int (Int32.ofInt x1)), (2, .int (Int32.ofInt x2)), (3, .int (Int32.ofInt x3)), (4, .int (Int32.ofInt x4))]) (lsub_p [1, 2, 3, 4, 5] rfl rfl rfl) ?_
          exact xm_findsRow_b26_j109_ok hS h23 hx kn kc
        · have hx := ite_t h24 hx
          refine wp_g 1 (pc1 := 26) (lv1 := [(5, .int (Int32.ofInt (s8 161 i6))), (0, .ref 146), (1, .int (Int32.ofInt x1)), (2, .int (Int32.ofInt x2)), (3, .int (Int32.ofInt x3)), (4, .int (Int32.ofInt x4))]) (st1 := []) (w1 := w22) rfl ?_
          refine wp_lv (lv1 := [(0, .ref 146), (1, .int (Int32.ofInt x1)), (2, .int (Int32.ofInt x2)), (3, .int (Int32.ofInt x3)), (4, .int (Int32.ofInt x4))]) (lsub_p [1, 2, 3, 4, 5] rfl rfl rfl) ?_
          cases hx
          exact kn _ _ rfl h23
      · have hx := ite_t h19 hx
        refine wp_g 2 (pc1 := 87) (lv1 := [(5, .int (Int32.ofInt (s8 161 i6))), (0, .ref 146), (1, .int (Int32.ofInt x1)), (2, .int (Int32.ofInt x2)), (3, .int (Int32.ofInt x3)), (4, .int (Int32.ofInt x4))]) (st1 := [.int (Int32.ofInt (s8 161 i6)), .ref 146]) (w1 := w10) rfl ?_
        obtain ⟨o25, e26, hx⟩ := bd hx
        refine wp_cl [.ref 146, .int (Int32.ofInt (s8 161 i6))] [] (i := .invokevirtual 401) (ln := 3) (a := 231) (b := 0) (z := 0) (by decide +kernel) rfl rfl (by decide) rfl (show (2 : Nat) = pm_na 231 by decide +kernel) (Nat.le_of_ble_eq_true rfl) (show (2 : Nat) ≤ pm_n 231 by decide +kernel) (rcv_x 12 h11 (hS _ _ sm_146) (by decide +kernel)) (xm_foldsAsMarked_ok (d := d + 1) hS h11 e26 (fun w27 h28 => ?_))
        show wp _ 233 90 [(5, .int (Int32.ofInt (s8 161 i6))), (0, .ref 146), (1, .int (Int32.ofInt x1)), (2, .int (Int32.ofInt x2)), (3, .int (Int32.ofInt x3)), (4, .int (Int32.ofInt x4))] [.int (Int32.ofInt o25.1)] w27 _
        refine wz_ne (oo := 19) (ln := 3) (a := 109) (b := 0) (zz := 0) (by decide +kernel) (fun h29 => ?_) (fun h29 => ?_)
        · have hx := ite_f h29 hx
          refine wp_lv (lv1 := [(0, .ref 146), (1, .int (Int32.ofInt x1)), (2, .int (Int32.ofInt x2)), (3, .int (Int32.ofInt x3)), (4, .int (Int32.ofInt x4))]) (lsub_p [1, 2, 3, 4, 5] rfl rfl rfl) ?_
          exact xm_findsRow_b26_j109_ok hS h28 hx kn kc
        · have hx := ite_t h29 hx
          refine wp_g 1 (pc1 := 26) (lv1 := [(5, .int (Int32.ofInt (s8 161 i6))), (0, .ref 146), (1, .int (Int32.ofInt x1)), (2, .int (Int32.ofInt x2)), (3, .int (Int32.ofInt x3)), (4, .int (Int32.ofInt x4))]) (st1 := []) (w1 := w27) rfl ?_
          refine wp_lv (lv1 := [(0, .ref 146), (1, .int (Int32.ofInt x1)), (2, .int (Int32.ofInt x2)), (3, .int (Int32.ofInt x3)), (4, .int (Int32.ofInt x4))]) (lsub_p [1, 2, 3, 4, 5] rfl rfl rfl) ?_
          cases hx
          exact kn _ _ rfl h28
    · have hx := ite_f h18 hx
      refine wp_g 2 (pc1 := 26) (lv1 := [(4, .int (Int32.ofInt (x4 + (-1)))), (5, .int (Int32.ofInt (s8 161 i6))), (0, .ref 146), (1, .int (Int32.ofInt x1)), (2, .int (Int32.ofInt x2)), (3, .int (Int32.ofInt x3))]) (st1 := []) (w1 := w10) (by simp only [Int32.ofInt_add, Int32.ofInt_sub, Int32.ofInt_mul, Int32.ofInt_neg, p_and, p_or, p_xor, p_shl, p_shr, p_usr, p_w8, p_c16, p_lI, q_and, q_or, q_shl, q_shr, q_w32, Int64.ofInt_add, Int64.ofInt_sub, Int64.ofInt_mul, p_mx, p_mn, q_mx, q_mn]; rfl) ?_
      refine wp_lv (lv1 := [(0, .ref 146), (1, .int (Int32.ofInt x1)), (2, .int (Int32.ofInt x2)), (3, .int (Int32.ofInt x3)), (4, .int (Int32.ofInt (x4 + (-1))))]) (lsub_p [2, 3, 4, 5, 0] rfl rfl rfl) ?_
      cases hx
      exact kn _ _ rfl h11
/-- FoldDeedsModel.findsRow (III)Z -/
noncomputable def xm_findsRow (s : Hp) (p1 : Int) (p2 : Int) (p3 : Int) : Option (Int × Hp) :=
  (ix 9 0).bind fun i1 => (some (uh s 161 i1 (-1))).bind fun s3 => (xm_keepsPlace s3 0).bind fun o7 => if w32 p1 = 0 then (xm_isGoal o7 p2 p3).bind fun o18 => if w32 o18 = 0 ∨ w32 o18 = 1 then some (o18, o7) else none else (lp (fun (q : Int × Hp) => xm_findsRow_b26 q.2 p1 p2 p3 q.1) (0, o7)).bind fun q12 => q12.elim (fun q16 => some (0, q16.2)) (fun r => some r)
set_option maxRecDepth 100000 in
theorem xm_findsRow_ok {d : Nat} {P : Option Value → pm_H → Prop} {w : pm_H} {sh : Shp} {w0 : pm_H} {s : Hp} (hS : StM sh) {p1 : Int} {p2 : Int} {p3 : Int} (h : Rw sh w0 s w) {o : Int × Hp} (hx : xm_findsRow s p1 p2 p3 = some o) (kr : ∀ w1, Rw sh w0 o.2 w1 → P (some (.int (Int32.ofInt o.1))) w1) : wp (d + 5) 233 0 (lv_args 0 [.ref 146, .int (Int32.ofInt p1), .int (Int32.ofInt p2), .int (Int32.ofInt p3)]) [] w P := by
  show wp _ 233 0 [(0, .ref 146), (1, .int (Int32.ofInt p1)), (2, .int (Int32.ofInt p2)), (3, .int (Int32.ofInt p3))] [] w _
  unfold xm_findsRow at hx
  refine wp_g 3 (pc1 := 4) (lv1 := [(4, .int (Int32.ofInt 0)), (0, .ref 146), (1, .int (Int32.ofInt p1)), (2, .int (Int32.ofInt p2)), (3, .int (Int32.ofInt p3))]) (st1 := [.ref 146]) (w1 := w) rfl ?_
  refine wx_gr (o := 15) (kf := 58) (ln := 3) (ci := 12) (b := 28) (zz := 0) (x := 146) (by decide +kernel) h (hS _ _ sm_146) rfl ?_
  show wp _ 233 7 [(4, .int (Int32.ofInt 0)), (0, .ref 146), (1, .int (Int32.ofInt p1)), (2, .int (Int32.ofInt p2)), (3, .int (Int32.ofInt p3))] [.ref 161] w _
  refine wp_g 2 (pc1 := 9) (lv1 := [(4, .int (Int32.ofInt 0)), (0, .ref 146), (1, .int (Int32.ofInt p1)), (2, .int (Int32.ofInt p2)), (3, .int (Int32.ofInt p3))]) (st1 := [.int (Int32.ofInt (-1)), .int (Int32.ofInt 0), .ref 161]) (w1 := w) rfl ?_
  obtain ⟨i1, e2, hx⟩ := bd hx
  obtain ⟨s3, e4, hx⟩ := bd hx
  refine wx_wa (x := 161) (n := 9) (ln := 1) (a := 0) (b := 0) (zz := 0) (by decide +kernel) h (hS _ _ sm_161) e2 e4 (fun w5 h6 => ?_)
  refine wp_g 2 (pc1 := 12) (lv1 := [(4, .int (Int32.ofInt 0)), (0, .ref 146), (1, .int (Int32.ofInt p1)), (2, .int (Int32.ofInt p2)), (3, .int (Int32.ofInt p3))]) (st1 := [.int (Int32.ofInt 0), .ref 146]) (w1 := w5) rfl ?_
  obtain ⟨o7, e8, hx⟩ := bd hx
  refine wp_cl [.ref 146, .int (Int32.ofInt 0)] [] (i := .invokevirtual 392) (ln := 3) (a := 228) (b := 0) (z := 0) (by decide +kernel) rfl rfl (by decide) rfl (show (2 : Nat) = pm_na 228 by decide +kernel) (Nat.le_of_ble_eq_true rfl) (show (2 : Nat) ≤ pm_n 228 by decide +kernel) (rcv_x 12 h6 (hS _ _ sm_146) (by decide +kernel)) (xm_keepsPlace_ok (d := d + 4) hS h6 e8 (fun w9 h10 => ?_))
  show wp _ 233 15 [(4, .int (Int32.ofInt 0)), (0, .ref 146), (1, .int (Int32.ofInt p1)), (2, .int (Int32.ofInt p2)), (3, .int (Int32.ofInt p3))] [] w9 _
  refine wp_g 1 (pc1 := 16) (lv1 := [(4, .int (Int32.ofInt 0)), (0, .ref 146), (1, .int (Int32.ofInt p1)), (2, .int (Int32.ofInt p2)), (3, .int (Int32.ofInt p3))]) (st1 := [.int (Int32.ofInt p1)]) (w1 := w9) rfl ?_
  refine wz_ne (oo := 10) (ln := 3) (a := 26) (b := 0) (zz := 0) (by decide +kernel) (fun h11 => ?_) (fun h11 => ?_)
  · have hx := ite_f h11 hx
    refine wp_lv (lv1 := [(0, .ref 146), (1, .int (Int32.ofInt p1)), (2, .int (Int32.ofInt p2)), (3, .int (Int32.ofInt p3)), (4, .int (Int32.ofInt 0))]) (lsub_p [1, 2, 3, 4, 0] rfl rfl rfl) ?_
    obtain ⟨q12, e13, hx⟩ := bd hx
    refine wp_lp (σ := Int × Hp) (ρ := ((Int × Hp) ⊕ (Int × Hp))) (B := fun q => xm_findsRow_b26 q.2 p1 p2 p3 q.1) (R := fun q w' => Rw sh w0 q.2 w') (C := fun r => (∀ q1 w1, r = .inl q1 → Rw sh w0 q1.2 w1 → wp (d + 5) 233 148 [(0, .ref 146), (1, .int (Int32.ofInt p1)), (2, .int (Int32.ofInt p2)), (3, .int (Int32.ofInt p3)), (4, .int (Int32.ofInt q1.1))] [] w1 P) ∧ (∀ v1 w1, r = .inr v1 → Rw sh w0 v1.2 w1 → P (some (.int (Int32.ofInt v1.1))) w1)) (lv := fun q => [(0, .ref 146), (1, .int (Int32.ofInt p1)), (2, .int (Int32.ofInt p2)), (3, .int (Int32.ofInt p3)), (4, .int (Int32.ofInt q.1))]) (hd := 26) (fun q w' o hR hb kn kc => xm_findsRow_b26_ok hS hR hb kn kc) _ _ _ e13 h10 ?_
    refine ⟨?_, fun v17 w1 hs h1 => by subst hs; cases (se_r hx); exact kr _ h1⟩
    intro q16 w14 hs h15
    subst hs
    replace hx := se_l hx
    show wp _ 233 148 [(0, .ref 146), (1, .int (Int32.ofInt p1)), (2, .int (Int32.ofInt p2)), (3, .int (Int32.ofInt p3)), (4, .int (Int32.ofInt q16.1))] [] w14 _
    refine wp_g 1 (pc1 := 149) (lv1 := [(0, .ref 146), (1, .int (Int32.ofInt p1)), (2, .int (Int32.ofInt p2)), (3, .int (Int32.ofInt p3)), (4, .int (Int32.ofInt q16.1))]) (st1 := [.int (Int32.ofInt 0)]) (w1 := w14) rfl ?_
    refine wp_rt (i := .ireturn) (r := some (.int (Int32.ofInt 0))) (ln := 1) (a := 0) (b := 0) (z := 0) (by decide +kernel) rfl (ret_b (by decide +kernel) (Or.inl rfl)) ?_
    cases hx
    exact kr _ h15
  · have hx := ite_t h11 hx
    refine wp_g 3 (pc1 := 22) (lv1 := [(4, .int (Int32.ofInt 0)), (0, .ref 146), (1, .int (Int32.ofInt p1)), (2, .int (Int32.ofInt p2)), (3, .int (Int32.ofInt p3))]) (st1 := [.int (Int32.ofInt p3), .int (Int32.ofInt p2), .ref 146]) (w1 := w9) rfl ?_
    obtain ⟨o18, e19, hx⟩ := bd hx
    refine wp_cl [.ref 146, .int (Int32.ofInt p2), .int (Int32.ofInt p3)] [] (i := .invokevirtual 395) (ln := 3) (a := 232) (b := 0) (z := 0) (by decide +kernel) rfl rfl (by decide) rfl (show (3 : Nat) = pm_na 232 by decide +kernel) (Nat.le_of_ble_eq_true rfl) (show (3 : Nat) ≤ pm_n 232 by decide +kernel) (rcv_x 12 h10 (hS _ _ sm_146) (by decide +kernel)) (xm_isGoal_ok (d := d + 2) hS h10 e19 ?_)
    show wp _ 233 25 [(4, .int (Int32.ofInt 0)), (0, .ref 146), (1, .int (Int32.ofInt p1)), (2, .int (Int32.ofInt p2)), (3, .int (Int32.ofInt p3))] [.int (Int32.ofInt o18)] w9 _
    obtain ⟨h22, hx⟩ := gd hx
    refine wp_rt (i := .ireturn) (r := some (.int (Int32.ofInt o18))) (ln := 1) (a := 0) (b := 0) (z := 0) (by decide +kernel) rfl (ret_b (by decide +kernel) (w01 h22)) ?_
    cases hx
    exact kr _ h10
noncomputable def xm_findsFewest_b8 (s : Hp) (x1 : Int) (x2 : Int) (x3 : Int) (x4 : Int) : Option ((Int × Hp) ⊕ (Int × Hp)) :=
  if w32 x1 < w32 x4 then some (.inr (x4, s)) else if w32 (s 146 30) < 0 then (xm_findsRow s x4 x2 x3).bind fun o3 => if w32 o3.1 = 0 then (xm_laysPlace o3.2 0).bind fun o8 => some (.inl (x4 + 1, o8)) else (some (uh o3.2 146 30 x4)).bind fun s12 => (xm_laysPlace s12 0).bind fun o16 => some (.inl (x4 + 1, o16)) else some (.inr (x4, s))
set_option maxRecDepth 100000 in
theorem xm_findsFewest_b8_ok {d : Nat} {P : Option Value → pm_H → Prop} {w : pm_H} {sh : Shp} {w0 : pm_H} {s : Hp} (hS : StM sh) {x1 : Int} {x2 : Int} {x3 : Int} {x4 : Int} (h : Rw sh w0 s w) {o : ((Int × Hp) ⊕ (Int × Hp))} (hx : xm_findsFewest_b8 s x1 x2 x3 x4 = some o) (kn : ∀ (q : Int × Hp) w1, o = .inl q → Rw sh w0 q.2 w1 → wp (d + 6) 234 8 [(0, .ref 146), (1, .int (Int32.ofInt x1)), (2, .int (Int32.ofInt x2)), (3, .int (Int32.ofInt x3)), (4, .int (Int32.ofInt q.1))] [] w1 P) (kc : ∀ (r : (Int × Hp)), o = .inr r → (∀ w1, Rw sh w0 r.2 w1 → wp (d + 6) 234 49 [(0, .ref 146), (1, .int (Int32.ofInt x1)), (2, .int (Int32.ofInt x2)), (3, .int (Int32.ofInt x3)), (4, .int (Int32.ofInt r.1))] [] w1 P)) : wp (d + 6) 234 8 [(0, .ref 146), (1, .int (Int32.ofInt x1)), (2, .int (Int32.ofInt x2)), (3, .int (Int32.ofInt x3)), (4, .int (Int32.ofInt x4))] [] w P := by
  unfold xm_findsFewest_b8 at hx
  refine wp_g 2 (pc1 := 11) (lv1 := [(0, .ref 146), (1, .int (Int32.ofInt x1)), (2, .int (Int32.ofInt x2)), (3, .int (Int32.ofInt x3)), (4, .int (Int32.ofInt x4))]) (st1 := [.int (Int32.ofInt x1), .int (Int32.ofInt x4)]) (w1 := w) rfl ?_
  refine wx_gt (oo := 38) (ln := 3) (a := 49) (b := 0) (zz := 0) (by decide +kernel) (fun h1 => ?_) (fun h1 => ?_)
  · have hx := ite_t h1 hx
    cases hx
    exact kc _ rfl _ h
  · have hx := ite_f h1 hx
    refine wp_g 1 (pc1 := 15) (lv1 := [(0, .ref 146), (1, .int (Int32.ofInt x1)), (2, .int (Int32.ofInt x2)), (3, .int (Int32.ofInt x3)), (4, .int (Int32.ofInt x4))]) (st1 := [.ref 146]) (w1 := w) rfl ?_
    refine wx_gi (kf := 404) (ln := 3) (ci := 12) (b := 30) (zz := 0) (x := 146) (by decide +kernel) h (hS _ _ sm_146) rfl ?_
    show wp _ 234 18 [(0, .ref 146), (1, .int (Int32.ofInt x1)), (2, .int (Int32.ofInt x2)), (3, .int (Int32.ofInt x3)), (4, .int (Int32.ofInt x4))] [.int (Int32.ofInt (s 146 30))] w _
    refine wz_ge (oo := 31) (ln := 3) (a := 49) (b := 0) (zz := 0) (by decide +kernel) (fun h2 => ?_) (fun h2 => ?_)
    · have hx := ite_f h2 hx
      cases hx
      exact kc _ rfl _ h
    · have hx := ite_t h2 hx
      refine wp_g 4 (pc1 := 26) (lv1 := [(0, .ref 146), (1, .int (Int32.ofInt x1)), (2, .int (Int32.ofInt x2)), (3, .int (Int32.ofInt x3)), (4, .int (Int32.ofInt x4))]) (st1 := [.int (Int32.ofInt x3), .int (Int32.ofInt x2), .int (Int32.ofInt x4), .ref 146]) (w1 := w) rfl ?_
      obtain ⟨o3, e4, hx⟩ := bd hx
      refine wp_cl [.ref 146, .int (Int32.ofInt x4), .int (Int32.ofInt x2), .int (Int32.ofInt x3)] [] (i := .invokevirtual 407) (ln := 3) (a := 233) (b := 0) (z := 0) (by decide +kernel) rfl rfl (by decide) rfl (show (4 : Nat) = pm_na 233 by decide +kernel) (Nat.le_of_ble_eq_true rfl) (show (4 : Nat) ≤ pm_n 233 by decide +kernel) (rcv_x 12 h (hS _ _ sm_146) (by decide +kernel)) (xm_findsRow_ok (d := d) hS h e4 (fun w5 h6 => ?_))
      show wp _ 234 29 [(0, .ref 146), (1, .int (Int32.ofInt x1)), (2, .int (Int32.ofInt x2)), (3, .int (Int32.ofInt x3)), (4, .int (Int32.ofInt x4))] [.int (Int32.ofInt o3.1)] w5 _
      refine wz_eq (oo := 9) (ln := 3) (a := 38) (b := 0) (zz := 0) (by decide +kernel) (fun h7 => ?_) (fun h7 => ?_)
      · have hx := ite_t h7 hx
        refine wp_g 2 (pc1 := 40) (lv1 := [(0, .ref 146), (1, .int (Int32.ofInt x1)), (2, .int (Int32.ofInt x2)), (3, .int (Int32.ofInt x3)), (4, .int (Int32.ofInt x4))]) (st1 := [.int (Int32.ofInt 0), .ref 146]) (w1 := w5) rfl ?_
        obtain ⟨o8, e9, hx⟩ := bd hx
        refine wp_cl [.ref 146, .int (Int32.ofInt 0)] [] (i := .invokevirtual 398) (ln := 3) (a := 229) (b := 0) (z := 0) (by decide +kernel) rfl rfl (by decide) rfl (show (2 : Nat) = pm_na 229 by decide +kernel) (Nat.le_of_ble_eq_true rfl) (show (2 : Nat) ≤ pm_n 229 by decide +kernel) (rcv_x 12 h6 (hS _ _ sm_146) (by decide +kernel)) (xm_laysPlace_ok (d := d + 5) hS h6 e9 (fun w10 h11 => ?_))
        show wp _ 234 43 [(0, .ref 146), (1, .int (Int32.ofInt x1)), (2, .int (Int32.ofInt x2)), (3, .int (Int32.ofInt x3)), (4, .int (Int32.ofInt x4))] [] w10 _
        refine wp_g 2 (pc1 := 8) (lv1 := [(4, .int (Int32.ofInt (x4 + 1))), (0, .ref 146), (1, .int (Int32.ofInt x1)), (2, .int (Int32.ofInt x2)), (3, .int (Int32.ofInt x3))]) (st1 := []) (w1 := w10) (by simp only [Int32.ofInt_add, Int32.ofInt_sub, Int32.ofInt_mul, Int32.ofInt_neg, p_and, p_or, p_xor, p_shl, p_shr, p_usr, p_w8, p_c16, p_lI, q_and, q_or, q_shl, q_shr, q_w32, Int64.ofInt_add, Int64.ofInt_sub, Int64.ofInt_mul, p_mx, p_mn, q_mx, q_mn]; rfl) ?_
        refine wp_lv (lv1 := [(0, .ref 146), (1, .int (Int32.ofInt x1)), (2, .int (Int32.ofInt x2)), (3, .int (Int32.ofInt x3)), (4, .int (Int32.ofInt (x4 + 1)))]) (lsub_p [1, 2, 3, 4, 0] rfl rfl rfl) ?_
        cases hx
        exact kn _ _ rfl h11
      · have hx := ite_f h7 hx
        refine wp_g 2 (pc1 := 35) (lv1 := [(0, .ref 146), (1, .int (Int32.ofInt x1)), (2, .int (Int32.ofInt x2)), (3, .int (Int32.ofInt x3)), (4, .int (Int32.ofInt x4))]) (st1 := [.int (Int32.ofInt x4), .ref 146]) (w1 := w5) rfl ?_
        obtain ⟨s12, e13, hx⟩ := bd hx
        refine wx_pi (kf := 404) (ln := 3) (ci := 12) (b := 30) (zz := 0) (x := 146) (by decide +kernel) h6 (hS _ _ sm_146) rfl (by decide +kernel) e13 (fun w14 h15 => ?_)
        refine wp_g 2 (pc1 := 40) (lv1 := [(0, .ref 146), (1, .int (Int32.ofInt x1)), (2, .int (Int32.ofInt x2)), (3, .int (Int32.ofInt x3)), (4, .int (Int32.ofInt x4))]) (st1 := [.int (Int32.ofInt 0), .ref 146]) (w1 := w14) rfl ?_
        obtain ⟨o16, e17, hx⟩ := bd hx
        refine wp_cl [.ref 146, .int (Int32.ofInt 0)] [] (i := .invokevirtual 398) (ln := 3) (a := 229) (b := 0) (z := 0) (by decide +kernel) rfl rfl (by decide) rfl (show (2 : Nat) = pm_na 229 by decide +kernel) (Nat.le_of_ble_eq_true rfl) (show (2 : Nat) ≤ pm_n 229 by decide +kernel) (rcv_x 12 h15 (hS _ _ sm_146) (by decide +kernel)) (xm_laysPlace_ok (d := d + 5) hS h15 e17 (fun w18 h19 => ?_))
        show wp _ 234 43 [(0, .ref 146), (1, .int (Int32.ofInt x1)), (2, .int (Int32.ofInt x2)), (3, .int (Int32.ofInt x3)), (4, .int (Int32.ofInt x4))] [] w18 _
        refine wp_g 2 (pc1 := 8) (lv1 := [(4, .int (Int32.ofInt (x4 + 1))), (0, .ref 146), (1, .int (Int32.ofInt x1)), (2, .int (Int32.ofInt x2)), (3, .int (Int32.ofInt x3))]) (st1 := []) (w1 := w18) (by simp only [Int32.ofInt_add, Int32.ofInt_sub, Int32.ofInt_mul, Int32.ofInt_neg, p_and, p_or, p_xor, p_shl, p_shr, p_usr, p_w8, p_c16, p_lI, q_and, q_or, q_shl, q_shr, q_w32, Int64.ofInt_add, Int64.ofInt_sub, Int64.ofInt_mul, p_mx, p_mn, q_mx, q_mn]; rfl) ?_
        refine wp_lv (lv1 := [(0, .ref 146), (1, .int (Int32.ofInt x1)), (2, .int (Int32.ofInt x2)), (3, .int (Int32.ofInt x3)), (4, .int (Int32.ofInt (x4 + 1)))]) (lsub_p [1, 2, 3, 4, 0] rfl rfl rfl) ?_
        cases hx
        exact kn _ _ rfl h19
/-- FoldDeedsModel.findsFewest (III)V -/
noncomputable def xm_findsFewest (s : Hp) (p1 : Int) (p2 : Int) (p3 : Int) : Option Hp :=
  (some (uh s 146 30 (-1))).bind fun s1 => (lp (fun (q : Int × Hp) => xm_findsFewest_b8 q.2 p1 p2 p3 q.1) (0, s1)).bind fun q5 => some q5.2
set_option maxRecDepth 100000 in
theorem xm_findsFewest_ok {d : Nat} {P : Option Value → pm_H → Prop} {w : pm_H} {sh : Shp} {w0 : pm_H} {s : Hp} (hS : StM sh) {p1 : Int} {p2 : Int} {p3 : Int} (h : Rw sh w0 s w) {o : Hp} (hx : xm_findsFewest s p1 p2 p3 = some o) (kr : ∀ w1, Rw sh w0 o w1 → P none w1) : wp (d + 6) 234 0 (lv_args 0 [.ref 146, .int (Int32.ofInt p1), .int (Int32.ofInt p2), .int (Int32.ofInt p3)]) [] w P := by
  show wp _ 234 0 [(0, .ref 146), (1, .int (Int32.ofInt p1)), (2, .int (Int32.ofInt p2)), (3, .int (Int32.ofInt p3))] [] w _
  unfold xm_findsFewest at hx
  refine wp_g 2 (pc1 := 2) (lv1 := [(0, .ref 146), (1, .int (Int32.ofInt p1)), (2, .int (Int32.ofInt p2)), (3, .int (Int32.ofInt p3))]) (st1 := [.int (Int32.ofInt (-1)), .ref 146]) (w1 := w) rfl ?_
  obtain ⟨s1, e2, hx⟩ := bd hx
  refine wx_pi (kf := 404) (ln := 3) (ci := 12) (b := 30) (zz := 0) (x := 146) (by decide +kernel) h (hS _ _ sm_146) rfl (by decide +kernel) e2 (fun w3 h4 => ?_)
  refine wp_g 2 (pc1 := 8) (lv1 := [(4, .int (Int32.ofInt 0)), (0, .ref 146), (1, .int (Int32.ofInt p1)), (2, .int (Int32.ofInt p2)), (3, .int (Int32.ofInt p3))]) (st1 := []) (w1 := w3) rfl ?_
  refine wp_lv (lv1 := [(0, .ref 146), (1, .int (Int32.ofInt p1)), (2, .int (Int32.ofInt p2)), (3, .int (Int32.ofInt p3)), (4, .int (Int32.ofInt 0))]) (lsub_p [1, 2, 3, 4, 0] rfl rfl rfl) ?_
  obtain ⟨q5, e6, hx⟩ := bd hx
  refine wp_lp (σ := Int × Hp) (ρ := (Int × Hp)) (B := fun q => xm_findsFewest_b8 q.2 p1 p2 p3 q.1) (R := fun q w' => Rw sh w0 q.2 w') (C := fun r => ∀ w1, Rw sh w0 r.2 w1 → wp (d + 6) 234 49 [(0, .ref 146), (1, .int (Int32.ofInt p1)), (2, .int (Int32.ofInt p2)), (3, .int (Int32.ofInt p3)), (4, .int (Int32.ofInt r.1))] [] w1 P) (lv := fun q => [(0, .ref 146), (1, .int (Int32.ofInt p1)), (2, .int (Int32.ofInt p2)), (3, .int (Int32.ofInt p3)), (4, .int (Int32.ofInt q.1))]) (hd := 8) (fun q w' o hR hb kn kc => xm_findsFewest_b8_ok hS hR hb kn kc) _ _ _ e6 h4 ?_
  intro w7 h8
  show wp _ 234 49 [(0, .ref 146), (1, .int (Int32.ofInt p1)), (2, .int (Int32.ofInt p2)), (3, .int (Int32.ofInt p3)), (4, .int (Int32.ofInt q5.1))] [] w7 _
  refine wp_rt (i := .return_) (r := none) (ln := 1) (a := 0) (b := 0) (z := 0) (by decide +kernel) rfl (ret_v (by decide +kernel)) ?_
  cases hx
  exact kr _ h8
/-- FoldDeedsModel.answerOfRow (I)I -/
noncomputable def xm_answerOfRow (s : Hp) (p1 : Int) : Option Int :=
  if w32 (s 146 30) < 0 then some (-2) else if w32 p1 = w32 (-1) then some (s 146 30) else if w32 p1 < w32 (s 146 30) then (ix 9 p1).bind fun i4 => some (s 161 i4) else some (-2)
set_option maxRecDepth 100000 in
theorem xm_answerOfRow_ok {d : Nat} {P : Option Value → pm_H → Prop} {w : pm_H} {sh : Shp} {w0 : pm_H} {s : Hp} (hS : StM sh) {p1 : Int} (h : Rw sh w0 s w) {o : Int} (hx : xm_answerOfRow s p1 = some o) (kr : P (some (.int (Int32.ofInt o))) w) : wp d 235 0 (lv_args 0 [.ref 146, .int (Int32.ofInt p1)]) [] w P := by
  show wp _ 235 0 [(0, .ref 146), (1, .int (Int32.ofInt p1))] [] w _
  unfold xm_answerOfRow at hx
  refine wp_g 1 (pc1 := 1) (lv1 := [(0, .ref 146), (1, .int (Int32.ofInt p1))]) (st1 := [.ref 146]) (w1 := w) rfl ?_
  refine wx_gi (kf := 404) (ln := 3) (ci := 12) (b := 30) (zz := 0) (x := 146) (by decide +kernel) h (hS _ _ sm_146) rfl ?_
  show wp _ 235 4 [(0, .ref 146), (1, .int (Int32.ofInt p1))] [.int (Int32.ofInt (s 146 30))] w _
  refine wz_ge (oo := 6) (ln := 3) (a := 10) (b := 0) (zz := 0) (by decide +kernel) (fun h1 => ?_) (fun h1 => ?_)
  · have hx := ite_f h1 hx
    refine wp_g 2 (pc1 := 12) (lv1 := [(0, .ref 146), (1, .int (Int32.ofInt p1))]) (st1 := [.int (Int32.ofInt (-1)), .int (Int32.ofInt p1)]) (w1 := w) rfl ?_
    refine wx_ne (oo := 10) (ln := 3) (a := 22) (b := 0) (zz := 0) (by decide +kernel) (fun h2 => ?_) (fun h2 => ?_)
    · have hx := ite_f h2 hx
      refine wp_g 2 (pc1 := 24) (lv1 := [(0, .ref 146), (1, .int (Int32.ofInt p1))]) (st1 := [.ref 146, .int (Int32.ofInt p1)]) (w1 := w) rfl ?_
      refine wx_gi (kf := 404) (ln := 3) (ci := 12) (b := 30) (zz := 0) (x := 146) (by decide +kernel) h (hS _ _ sm_146) rfl ?_
      show wp _ 235 27 [(0, .ref 146), (1, .int (Int32.ofInt p1))] [.int (Int32.ofInt (s 146 30)), .int (Int32.ofInt p1)] w _
      refine wx_ge (oo := 12) (ln := 3) (a := 39) (b := 0) (zz := 0) (by decide +kernel) (fun h3 => ?_) (fun h3 => ?_)
      · have hx := ite_f h3 hx
        refine wp_g 1 (pc1 := 41) (lv1 := [(0, .ref 146), (1, .int (Int32.ofInt p1))]) (st1 := [.int (Int32.ofInt (-2))]) (w1 := w) rfl ?_
        refine wp_rt (i := .ireturn) (r := some (.int (Int32.ofInt (-2)))) (ln := 1) (a := 0) (b := 0) (z := 0) (by decide +kernel) rfl (ret_ok (by decide +kernel)) ?_
        cases hx
        exact kr
      · have hx := ite_t h3 hx
        refine wp_g 1 (pc1 := 31) (lv1 := [(0, .ref 146), (1, .int (Int32.ofInt p1))]) (st1 := [.ref 146]) (w1 := w) rfl ?_
        refine wx_gr (o := 15) (kf := 58) (ln := 3) (ci := 12) (b := 28) (zz := 0) (x := 146) (by decide +kernel) h (hS _ _ sm_146) rfl ?_
        show wp _ 235 34 [(0, .ref 146), (1, .int (Int32.ofInt p1))] [.ref 161] w _
        refine wp_g 1 (pc1 := 35) (lv1 := [(0, .ref 146), (1, .int (Int32.ofInt p1))]) (st1 := [.int (Int32.ofInt p1), .ref 161]) (w1 := w) rfl ?_
        obtain ⟨i4, e5, hx⟩ := bd hx
        refine wx_ra (x := 161) (n := 9) (ln := 1) (a := 0) (b := 0) (zz := 0) (by decide +kernel) h (hS _ _ sm_161) e5 ?_
        show wp _ 235 36 [(0, .ref 146), (1, .int (Int32.ofInt p1))] [.int (Int32.ofInt (s 161 i4))] w _
        refine wp_g 1 (pc1 := 41) (lv1 := [(0, .ref 146), (1, .int (Int32.ofInt p1))]) (st1 := [.int (Int32.ofInt (s 161 i4))]) (w1 := w) rfl ?_
        refine wp_rt (i := .ireturn) (r := some (.int (Int32.ofInt (s 161 i4)))) (ln := 1) (a := 0) (b := 0) (z := 0) (by decide +kernel) rfl (ret_ok (by decide +kernel)) ?_
        cases hx
        exact kr
    · have hx := ite_t h2 hx
      refine wp_g 1 (pc1 := 16) (lv1 := [(0, .ref 146), (1, .int (Int32.ofInt p1))]) (st1 := [.ref 146]) (w1 := w) rfl ?_
      refine wx_gi (kf := 404) (ln := 3) (ci := 12) (b := 30) (zz := 0) (x := 146) (by decide +kernel) h (hS _ _ sm_146) rfl ?_
      show wp _ 235 19 [(0, .ref 146), (1, .int (Int32.ofInt p1))] [.int (Int32.ofInt (s 146 30))] w _
      refine wp_g 1 (pc1 := 41) (lv1 := [(0, .ref 146), (1, .int (Int32.ofInt p1))]) (st1 := [.int (Int32.ofInt (s 146 30))]) (w1 := w) rfl ?_
      refine wp_rt (i := .ireturn) (r := some (.int (Int32.ofInt (s 146 30)))) (ln := 1) (a := 0) (b := 0) (z := 0) (by decide +kernel) rfl (ret_ok (by decide +kernel)) ?_
      cases hx
      exact kr
  · have hx := ite_t h1 hx
    refine wp_g 1 (pc1 := 9) (lv1 := [(0, .ref 146), (1, .int (Int32.ofInt p1))]) (st1 := [.int (Int32.ofInt (-2))]) (w1 := w) rfl ?_
    refine wp_rt (i := .ireturn) (r := some (.int (Int32.ofInt (-2)))) (ln := 1) (a := 0) (b := 0) (z := 0) (by decide +kernel) rfl (ret_ok (by decide +kernel)) ?_
    cases hx
    exact kr
noncomputable def xm_folds_b34 (s : Hp) (x1 : Int) (x2 : Int) : Option ((Int × Hp) ⊕ (Int × Hp)) :=
  if w32 x2 < w32 7 then (ix 130 (44 + x2)).bind fun i2 => (some (uh s 156 i2 0)).bind fun s4 => some (.inl (x2 + 1, s4)) else some (.inr (x2, s))
set_option maxRecDepth 100000 in
theorem xm_folds_b34_ok {d : Nat} {P : Option Value → pm_H → Prop} {w : pm_H} {sh : Shp} {w0 : pm_H} {s : Hp} (hS : StM sh) {x1 : Int} {x2 : Int} (h : Rw sh w0 s w) {o : ((Int × Hp) ⊕ (Int × Hp))} (hx : xm_folds_b34 s x1 x2 = some o) (kn : ∀ (q : Int × Hp) w1, o = .inl q → Rw sh w0 q.2 w1 → wp (d + 7) 236 34 [(0, .ref 146), (1, .int (Int32.ofInt x1)), (2, .int (Int32.ofInt q.1))] [] w1 P) (kc : ∀ (r : (Int × Hp)), o = .inr r → (∀ w1, Rw sh w0 r.2 w1 → wp (d + 7) 236 56 [(0, .ref 146), (1, .int (Int32.ofInt x1)), (2, .int (Int32.ofInt r.1))] [] w1 P)) : wp (d + 7) 236 34 [(0, .ref 146), (1, .int (Int32.ofInt x1)), (2, .int (Int32.ofInt x2))] [] w P := by
  unfold xm_folds_b34 at hx
  refine wp_g 2 (pc1 := 37) (lv1 := [(0, .ref 146), (1, .int (Int32.ofInt x1)), (2, .int (Int32.ofInt x2))]) (st1 := [.int (Int32.ofInt 7), .int (Int32.ofInt x2)]) (w1 := w) rfl ?_
  refine wx_ge (oo := 19) (ln := 3) (a := 56) (b := 0) (zz := 0) (by decide +kernel) (fun h1 => ?_) (fun h1 => ?_)
  · have hx := ite_f h1 hx
    cases hx
    exact kc _ rfl _ h
  · have hx := ite_t h1 hx
    refine wp_g 1 (pc1 := 41) (lv1 := [(0, .ref 146), (1, .int (Int32.ofInt x1)), (2, .int (Int32.ofInt x2))]) (st1 := [.ref 146]) (w1 := w) rfl ?_
    refine wx_gr (o := 10) (kf := 39) (ln := 3) (ci := 12) (b := 20) (zz := 0) (x := 146) (by decide +kernel) h (hS _ _ sm_146) rfl ?_
    show wp _ 236 44 [(0, .ref 146), (1, .int (Int32.ofInt x1)), (2, .int (Int32.ofInt x2))] [.ref 156] w _
    refine wp_g 4 (pc1 := 49) (lv1 := [(0, .ref 146), (1, .int (Int32.ofInt x1)), (2, .int (Int32.ofInt x2))]) (st1 := [.int (Int32.ofInt 0), .int (Int32.ofInt (44 + x2)), .ref 156]) (w1 := w) (by simp only [Int32.ofInt_add, Int32.ofInt_sub, Int32.ofInt_mul, Int32.ofInt_neg, p_and, p_or, p_xor, p_shl, p_shr, p_usr, p_w8, p_c16, p_lI, q_and, q_or, q_shl, q_shr, q_w32, Int64.ofInt_add, Int64.ofInt_sub, Int64.ofInt_mul, p_mx, p_mn, q_mx, q_mn]; rfl) ?_
    obtain ⟨i2, e3, hx⟩ := bd hx
    obtain ⟨s4, e5, hx⟩ := bd hx
    refine wx_wa (x := 156) (n := 130) (ln := 1) (a := 0) (b := 0) (zz := 0) (by decide +kernel) h (hS _ _ sm_156) e3 e5 (fun w6 h7 => ?_)
    refine wp_g 2 (pc1 := 34) (lv1 := [(2, .int (Int32.ofInt (x2 + 1))), (0, .ref 146), (1, .int (Int32.ofInt x1))]) (st1 := []) (w1 := w6) (by simp only [Int32.ofInt_add, Int32.ofInt_sub, Int32.ofInt_mul, Int32.ofInt_neg, p_and, p_or, p_xor, p_shl, p_shr, p_usr, p_w8, p_c16, p_lI, q_and, q_or, q_shl, q_shr, q_w32, Int64.ofInt_add, Int64.ofInt_sub, Int64.ofInt_mul, p_mx, p_mn, q_mx, q_mn]; rfl) ?_
    refine wp_lv (lv1 := [(0, .ref 146), (1, .int (Int32.ofInt x1)), (2, .int (Int32.ofInt (x2 + 1)))]) (lsub_p [1, 2, 0] rfl rfl rfl) ?_
    cases hx
    exact kn _ _ rfl h7
/-- FoldDeedsModel.folds (I)I -/
noncomputable def xm_folds (s : Hp) (p1 : Int) : Option (Int × Hp) :=
  (xm_isCloth s).bind fun o1 => if w32 o1 = 0 then some ((-3), s) else (xm_in (w32 p1) (-1) 6).bind fun o6 => if w32 o6 = 0 then some ((-3), s) else (xm_keeps s).bind fun o11 => (xm_liesOpen o11).bind fun o15 => (lp (fun (q : Int × Hp) => xm_folds_b34 q.2 p1 q.1) (0, o15)).bind fun q19 => (xm_findsFewest q19.2 7 (-1) 0).bind fun o23 => (xm_laysBack o23).bind fun o27 => (xm_answerOfRow o27 p1).bind fun o31 => some (o31, o27)
set_option maxRecDepth 100000 in
theorem xm_folds_ok {d : Nat} {P : Option Value → pm_H → Prop} {w : pm_H} {sh : Shp} {w0 : pm_H} {s : Hp} (hS : StM sh) {p1 : Int} (h : Rw sh w0 s w) {o : Int × Hp} (hx : xm_folds s p1 = some o) (kr : ∀ w1, Rw sh w0 o.2 w1 → P (some (.int (Int32.ofInt o.1))) w1) : wp (d + 7) 236 0 (lv_args 0 [.ref 146, .int (Int32.ofInt p1)]) [] w P := by
  show wp _ 236 0 [(0, .ref 146), (1, .int (Int32.ofInt p1))] [] w _
  unfold xm_folds at hx
  refine wp_g 1 (pc1 := 1) (lv1 := [(0, .ref 146), (1, .int (Int32.ofInt p1))]) (st1 := [.ref 146]) (w1 := w) rfl ?_
  obtain ⟨o1, e2, hx⟩ := bd hx
  refine wp_cl [.ref 146] [] (i := .invokevirtual 301) (ln := 3) (a := 190) (b := 0) (z := 0) (by decide +kernel) rfl rfl (by decide) rfl (show (1 : Nat) = pm_na 190 by decide +kernel) (Nat.le_of_ble_eq_true rfl) (show (1 : Nat) ≤ pm_n 190 by decide +kernel) (rcv_x 12 h (hS _ _ sm_146) (by decide +kernel)) (xm_isCloth_ok (d := d + 6) hS h e2 ?_)
  show wp _ 236 4 [(0, .ref 146), (1, .int (Int32.ofInt p1))] [.int (Int32.ofInt o1)] w _
  refine wz_eq (oo := 17) (ln := 3) (a := 21) (b := 0) (zz := 0) (by decide +kernel) (fun h5 => ?_) (fun h5 => ?_)
  · have hx := ite_t h5 hx
    refine wp_g 1 (pc1 := 23) (lv1 := [(0, .ref 146), (1, .int (Int32.ofInt p1))]) (st1 := [.int (Int32.ofInt (-3))]) (w1 := w) rfl ?_
    refine wp_rt (i := .ireturn) (r := some (.int (Int32.ofInt (-3)))) (ln := 1) (a := 0) (b := 0) (z := 0) (by decide +kernel) rfl (ret_ok (by decide +kernel)) ?_
    cases hx
    exact kr _ h
  · have hx := ite_f h5 hx
    refine wp_g 4 (pc1 := 15) (lv1 := [(0, .ref 146), (1, .int (Int32.ofInt p1))]) (st1 := [.long (Int64.ofInt 6), .long (Int64.ofInt (-1)), .long (Int64.ofInt (w32 p1))]) (w1 := w) (by simp only [Int32.ofInt_add, Int32.ofInt_sub, Int32.ofInt_mul, Int32.ofInt_neg, p_and, p_or, p_xor, p_shl, p_shr, p_usr, p_w8, p_c16, p_lI, q_and, q_or, q_shl, q_shr, q_w32, Int64.ofInt_add, Int64.ofInt_sub, Int64.ofInt_mul, p_mx, p_mn, q_mx, q_mn]; rfl) ?_
    obtain ⟨o6, e7, hx⟩ := bd hx
    refine wp_cl [.long (Int64.ofInt (w32 p1)), .long (Int64.ofInt (-1)), .long (Int64.ofInt 6)] [] (i := .invokestatic 139) (ln := 3) (a := 147) (b := 1) (z := 0) (by decide +kernel) rfl rfl (by decide) rfl (show (3 : Nat) = pm_na 147 by decide +kernel) (Nat.le_of_ble_eq_true rfl) (show (6 : Nat) ≤ pm_n 147 by decide +kernel) (by rw [show pm_k 147 = 1 by decide +kernel]; rfl) (xm_in_ok (d := d + 6) e7 ?_)
    show wp _ 236 18 [(0, .ref 146), (1, .int (Int32.ofInt p1))] [.int (Int32.ofInt o6)] w _
    refine wz_ne (oo := 6) (ln := 3) (a := 24) (b := 0) (zz := 0) (by decide +kernel) (fun h10 => ?_) (fun h10 => ?_)
    · have hx := ite_f h10 hx
      refine wp_g 1 (pc1 := 25) (lv1 := [(0, .ref 146), (1, .int (Int32.ofInt p1))]) (st1 := [.ref 146]) (w1 := w) rfl ?_
      obtain ⟨o11, e12, hx⟩ := bd hx
      refine wp_cl [.ref 146] [] (i := .invokevirtual 414) (ln := 3) (a := 226) (b := 0) (z := 0) (by decide +kernel) rfl rfl (by decide) rfl (show (1 : Nat) = pm_na 226 by decide +kernel) (Nat.le_of_ble_eq_true rfl) (show (1 : Nat) ≤ pm_n 226 by decide +kernel) (rcv_x 12 h (hS _ _ sm_146) (by decide +kernel)) (xm_keeps_ok (d := d + 6) hS h e12 (fun w13 h14 => ?_))
      show wp _ 236 28 [(0, .ref 146), (1, .int (Int32.ofInt p1))] [] w13 _
      refine wp_g 1 (pc1 := 29) (lv1 := [(0, .ref 146), (1, .int (Int32.ofInt p1))]) (st1 := [.ref 146]) (w1 := w13) rfl ?_
      obtain ⟨o15, e16, hx⟩ := bd hx
      refine wp_cl [.ref 146] [] (i := .invokevirtual 308) (ln := 3) (a := 196) (b := 0) (z := 0) (by decide +kernel) rfl rfl (by decide) rfl (show (1 : Nat) = pm_na 196 by decide +kernel) (Nat.le_of_ble_eq_true rfl) (show (1 : Nat) ≤ pm_n 196 by decide +kernel) (rcv_x 12 h14 (hS _ _ sm_146) (by decide +kernel)) (xm_liesOpen_ok (d := d + 6) hS h14 e16 (fun w17 h18 => ?_))
      show wp _ 236 32 [(0, .ref 146), (1, .int (Int32.ofInt p1))] [] w17 _
      refine wp_g 2 (pc1 := 34) (lv1 := [(2, .int (Int32.ofInt 0)), (0, .ref 146), (1, .int (Int32.ofInt p1))]) (st1 := []) (w1 := w17) rfl ?_
      refine wp_lv (lv1 := [(0, .ref 146), (1, .int (Int32.ofInt p1)), (2, .int (Int32.ofInt 0))]) (lsub_p [1, 2, 0] rfl rfl rfl) ?_
      obtain ⟨q19, e20, hx⟩ := bd hx
      refine wp_lp (σ := Int × Hp) (ρ := (Int × Hp)) (B := fun q => xm_folds_b34 q.2 p1 q.1) (R := fun q w' => Rw sh w0 q.2 w') (C := fun r => ∀ w1, Rw sh w0 r.2 w1 → wp (d + 7) 236 56 [(0, .ref 146), (1, .int (Int32.ofInt p1)), (2, .int (Int32.ofInt r.1))] [] w1 P) (lv := fun q => [(0, .ref 146), (1, .int (Int32.ofInt p1)), (2, .int (Int32.ofInt q.1))]) (hd := 34) (fun q w' o hR hb kn kc => xm_folds_b34_ok hS hR hb kn kc) _ _ _ e20 h18 ?_
      intro w21 h22
      show wp _ 236 56 [(0, .ref 146), (1, .int (Int32.ofInt p1)), (2, .int (Int32.ofInt q19.1))] [] w21 _
      refine wp_g 4 (pc1 := 61) (lv1 := [(0, .ref 146), (1, .int (Int32.ofInt p1)), (2, .int (Int32.ofInt q19.1))]) (st1 := [.int (Int32.ofInt 0), .int (Int32.ofInt (-1)), .int (Int32.ofInt 7), .ref 146]) (w1 := w21) rfl ?_
      obtain ⟨o23, e24, hx⟩ := bd hx
      refine wp_cl [.ref 146, .int (Int32.ofInt 7), .int (Int32.ofInt (-1)), .int (Int32.ofInt 0)] [] (i := .invokevirtual 417) (ln := 3) (a := 234) (b := 0) (z := 0) (by decide +kernel) rfl rfl (by decide) rfl (show (4 : Nat) = pm_na 234 by decide +kernel) (Nat.le_of_ble_eq_true rfl) (show (4 : Nat) ≤ pm_n 234 by decide +kernel) (rcv_x 12 h22 (hS _ _ sm_146) (by decide +kernel)) (xm_findsFewest_ok (d := d) hS h22 e24 (fun w25 h26 => ?_))
      show wp _ 236 64 [(0, .ref 146), (1, .int (Int32.ofInt p1)), (2, .int (Int32.ofInt q19.1))] [] w25 _
      refine wp_g 1 (pc1 := 65) (lv1 := [(0, .ref 146), (1, .int (Int32.ofInt p1)), (2, .int (Int32.ofInt q19.1))]) (st1 := [.ref 146]) (w1 := w25) rfl ?_
      obtain ⟨o27, e28, hx⟩ := bd hx
      refine wp_cl [.ref 146] [] (i := .invokevirtual 420) (ln := 3) (a := 227) (b := 0) (z := 0) (by decide +kernel) rfl rfl (by decide) rfl (show (1 : Nat) = pm_na 227 by decide +kernel) (Nat.le_of_ble_eq_true rfl) (show (1 : Nat) ≤ pm_n 227 by decide +kernel) (rcv_x 12 h26 (hS _ _ sm_146) (by decide +kernel)) (xm_laysBack_ok (d := d + 6) hS h26 e28 (fun w29 h30 => ?_))
      show wp _ 236 68 [(0, .ref 146), (1, .int (Int32.ofInt p1)), (2, .int (Int32.ofInt q19.1))] [] w29 _
      refine wp_g 2 (pc1 := 70) (lv1 := [(0, .ref 146), (1, .int (Int32.ofInt p1)), (2, .int (Int32.ofInt q19.1))]) (st1 := [.int (Int32.ofInt p1), .ref 146]) (w1 := w29) rfl ?_
      obtain ⟨o31, e32, hx⟩ := bd hx
      refine wp_cl [.ref 146, .int (Int32.ofInt p1)] [] (i := .invokevirtual 423) (ln := 3) (a := 235) (b := 0) (z := 0) (by decide +kernel) rfl rfl (by decide) rfl (show (2 : Nat) = pm_na 235 by decide +kernel) (Nat.le_of_ble_eq_true rfl) (show (2 : Nat) ≤ pm_n 235 by decide +kernel) (rcv_x 12 h30 (hS _ _ sm_146) (by decide +kernel)) (xm_answerOfRow_ok (d := d + 6) hS h30 e32 ?_)
      show wp _ 236 73 [(0, .ref 146), (1, .int (Int32.ofInt p1)), (2, .int (Int32.ofInt q19.1))] [.int (Int32.ofInt o31)] w29 _
      refine wp_rt (i := .ireturn) (r := some (.int (Int32.ofInt o31))) (ln := 1) (a := 0) (b := 0) (z := 0) (by decide +kernel) rfl (ret_ok (by decide +kernel)) ?_
      cases hx
      exact kr _ h30
    · have hx := ite_t h10 hx
      refine wp_g 1 (pc1 := 23) (lv1 := [(0, .ref 146), (1, .int (Int32.ofInt p1))]) (st1 := [.int (Int32.ofInt (-3))]) (w1 := w) rfl ?_
      refine wp_rt (i := .ireturn) (r := some (.int (Int32.ofInt (-3)))) (ln := 1) (a := 0) (b := 0) (z := 0) (by decide +kernel) rfl (ret_ok (by decide +kernel)) ?_
      cases hx
      exact kr _ h
/-- FoldDeedsModel.own (III)I -/
noncomputable def xm_own (s : Hp) (p1 : Int) (p2 : Int) (p3 : Int) : Option (Int × Hp) :=
  (xm_isPerson s p1).bind fun o1 => if w32 o1 = 0 then some ((-3), s) else if w32 p2 < w32 1 then some ((-3), s) else (ix 130 0).bind fun i7 => if w32 p2 < w32 (bShl 1 (s 156 i7)) then (xm_in (w32 p3) (-1) 2).bind fun o10 => if w32 o10 = 0 then some ((-3), s) else (xm_keeps s).bind fun o15 => (xm_findsFewest o15 3 p1 p2).bind fun o19 => (xm_laysBack o19).bind fun o23 => (xm_answerOfRow o23 p3).bind fun o27 => some (o27, o23) else some ((-3), s)
set_option maxRecDepth 100000 in
theorem xm_own_ok {d : Nat} {P : Option Value → pm_H → Prop} {w : pm_H} {sh : Shp} {w0 : pm_H} {s : Hp} (hS : StM sh) {p1 : Int} {p2 : Int} {p3 : Int} (h : Rw sh w0 s w) {o : Int × Hp} (hx : xm_own s p1 p2 p3 = some o) (kr : ∀ w1, Rw sh w0 o.2 w1 → P (some (.int (Int32.ofInt o.1))) w1) : wp (d + 7) 237 0 (lv_args 0 [.ref 146, .int (Int32.ofInt p1), .int (Int32.ofInt p2), .int (Int32.ofInt p3)]) [] w P := by
  show wp _ 237 0 [(0, .ref 146), (1, .int (Int32.ofInt p1)), (2, .int (Int32.ofInt p2)), (3, .int (Int32.ofInt p3))] [] w _
  unfold xm_own at hx
  refine wp_g 2 (pc1 := 2) (lv1 := [(0, .ref 146), (1, .int (Int32.ofInt p1)), (2, .int (Int32.ofInt p2)), (3, .int (Int32.ofInt p3))]) (st1 := [.int (Int32.ofInt p1), .ref 146]) (w1 := w) rfl ?_
  obtain ⟨o1, e2, hx⟩ := bd hx
  refine wp_cl [.ref 146, .int (Int32.ofInt p1)] [] (i := .invokevirtual 322) (ln := 3) (a := 193) (b := 0) (z := 0) (by decide +kernel) rfl rfl (by decide) rfl (show (2 : Nat) = pm_na 193 by decide +kernel) (Nat.le_of_ble_eq_true rfl) (show (2 : Nat) ≤ pm_n 193 by decide +kernel) (rcv_x 12 h (hS _ _ sm_146) (by decide +kernel)) (xm_isPerson_ok (d := d + 6) hS h e2 ?_)
  show wp _ 237 5 [(0, .ref 146), (1, .int (Int32.ofInt p1)), (2, .int (Int32.ofInt p2)), (3, .int (Int32.ofInt p3))] [.int (Int32.ofInt o1)] w _
  refine wz_eq (oo := 34) (ln := 3) (a := 39) (b := 0) (zz := 0) (by decide +kernel) (fun h5 => ?_) (fun h5 => ?_)
  · have hx := ite_t h5 hx
    refine wp_g 1 (pc1 := 41) (lv1 := [(0, .ref 146), (1, .int (Int32.ofInt p1)), (2, .int (Int32.ofInt p2)), (3, .int (Int32.ofInt p3))]) (st1 := [.int (Int32.ofInt (-3))]) (w1 := w) rfl ?_
    refine wp_rt (i := .ireturn) (r := some (.int (Int32.ofInt (-3)))) (ln := 1) (a := 0) (b := 0) (z := 0) (by decide +kernel) rfl (ret_ok (by decide +kernel)) ?_
    cases hx
    exact kr _ h
  · have hx := ite_f h5 hx
    refine wp_g 2 (pc1 := 10) (lv1 := [(0, .ref 146), (1, .int (Int32.ofInt p1)), (2, .int (Int32.ofInt p2)), (3, .int (Int32.ofInt p3))]) (st1 := [.int (Int32.ofInt 1), .int (Int32.ofInt p2)]) (w1 := w) rfl ?_
    refine wx_lt (oo := 29) (ln := 3) (a := 39) (b := 0) (zz := 0) (by decide +kernel) (fun h6 => ?_) (fun h6 => ?_)
    · have hx := ite_t h6 hx
      refine wp_g 1 (pc1 := 41) (lv1 := [(0, .ref 146), (1, .int (Int32.ofInt p1)), (2, .int (Int32.ofInt p2)), (3, .int (Int32.ofInt p3))]) (st1 := [.int (Int32.ofInt (-3))]) (w1 := w) rfl ?_
      refine wp_rt (i := .ireturn) (r := some (.int (Int32.ofInt (-3)))) (ln := 1) (a := 0) (b := 0) (z := 0) (by decide +kernel) rfl (ret_ok (by decide +kernel)) ?_
      cases hx
      exact kr _ h
    · have hx := ite_f h6 hx
      refine wp_g 3 (pc1 := 16) (lv1 := [(0, .ref 146), (1, .int (Int32.ofInt p1)), (2, .int (Int32.ofInt p2)), (3, .int (Int32.ofInt p3))]) (st1 := [.ref 146, .int (Int32.ofInt 1), .int (Int32.ofInt p2)]) (w1 := w) rfl ?_
      refine wx_gr (o := 10) (kf := 39) (ln := 3) (ci := 12) (b := 20) (zz := 0) (x := 146) (by decide +kernel) h (hS _ _ sm_146) rfl ?_
      show wp _ 237 19 [(0, .ref 146), (1, .int (Int32.ofInt p1)), (2, .int (Int32.ofInt p2)), (3, .int (Int32.ofInt p3))] [.ref 156, .int (Int32.ofInt 1), .int (Int32.ofInt p2)] w _
      refine wp_g 1 (pc1 := 20) (lv1 := [(0, .ref 146), (1, .int (Int32.ofInt p1)), (2, .int (Int32.ofInt p2)), (3, .int (Int32.ofInt p3))]) (st1 := [.int (Int32.ofInt 0), .ref 156, .int (Int32.ofInt 1), .int (Int32.ofInt p2)]) (w1 := w) rfl ?_
      obtain ⟨i7, e8, hx⟩ := bd hx
      refine wx_ra (x := 156) (n := 130) (ln := 1) (a := 0) (b := 0) (zz := 0) (by decide +kernel) h (hS _ _ sm_156) e8 ?_
      show wp _ 237 21 [(0, .ref 146), (1, .int (Int32.ofInt p1)), (2, .int (Int32.ofInt p2)), (3, .int (Int32.ofInt p3))] [.int (Int32.ofInt (s 156 i7)), .int (Int32.ofInt 1), .int (Int32.ofInt p2)] w _
      refine wp_g 1 (pc1 := 22) (lv1 := [(0, .ref 146), (1, .int (Int32.ofInt p1)), (2, .int (Int32.ofInt p2)), (3, .int (Int32.ofInt p3))]) (st1 := [.int (Int32.ofInt (bShl 1 (s 156 i7))), .int (Int32.ofInt p2)]) (w1 := w) (by simp only [Int32.ofInt_add, Int32.ofInt_sub, Int32.ofInt_mul, Int32.ofInt_neg, p_and, p_or, p_xor, p_shl, p_shr, p_usr, p_w8, p_c16, p_lI, q_and, q_or, q_shl, q_shr, q_w32, Int64.ofInt_add, Int64.ofInt_sub, Int64.ofInt_mul, p_mx, p_mn, q_mx, q_mn]; rfl) ?_
      refine wx_ge (oo := 17) (ln := 3) (a := 39) (b := 0) (zz := 0) (by decide +kernel) (fun h9 => ?_) (fun h9 => ?_)
      · have hx := ite_f h9 hx
        refine wp_g 1 (pc1 := 41) (lv1 := [(0, .ref 146), (1, .int (Int32.ofInt p1)), (2, .int (Int32.ofInt p2)), (3, .int (Int32.ofInt p3))]) (st1 := [.int (Int32.ofInt (-3))]) (w1 := w) rfl ?_
        refine wp_rt (i := .ireturn) (r := some (.int (Int32.ofInt (-3)))) (ln := 1) (a := 0) (b := 0) (z := 0) (by decide +kernel) rfl (ret_ok (by decide +kernel)) ?_
        cases hx
        exact kr _ h
      · have hx := ite_t h9 hx
        refine wp_g 4 (pc1 := 33) (lv1 := [(0, .ref 146), (1, .int (Int32.ofInt p1)), (2, .int (Int32.ofInt p2)), (3, .int (Int32.ofInt p3))]) (st1 := [.long (Int64.ofInt 2), .long (Int64.ofInt (-1)), .long (Int64.ofInt (w32 p3))]) (w1 := w) (by simp only [Int32.ofInt_add, Int32.ofInt_sub, Int32.ofInt_mul, Int32.ofInt_neg, p_and, p_or, p_xor, p_shl, p_shr, p_usr, p_w8, p_c16, p_lI, q_and, q_or, q_shl, q_shr, q_w32, Int64.ofInt_add, Int64.ofInt_sub, Int64.ofInt_mul, p_mx, p_mn, q_mx, q_mn]; rfl) ?_
        obtain ⟨o10, e11, hx⟩ := bd hx
        refine wp_cl [.long (Int64.ofInt (w32 p3)), .long (Int64.ofInt (-1)), .long (Int64.ofInt 2)] [] (i := .invokestatic 139) (ln := 3) (a := 147) (b := 1) (z := 0) (by decide +kernel) rfl rfl (by decide) rfl (show (3 : Nat) = pm_na 147 by decide +kernel) (Nat.le_of_ble_eq_true rfl) (show (6 : Nat) ≤ pm_n 147 by decide +kernel) (by rw [show pm_k 147 = 1 by decide +kernel]; rfl) (xm_in_ok (d := d + 6) e11 ?_)
        show wp _ 237 36 [(0, .ref 146), (1, .int (Int32.ofInt p1)), (2, .int (Int32.ofInt p2)), (3, .int (Int32.ofInt p3))] [.int (Int32.ofInt o10)] w _
        refine wz_ne (oo := 6) (ln := 3) (a := 42) (b := 0) (zz := 0) (by decide +kernel) (fun h14 => ?_) (fun h14 => ?_)
        · have hx := ite_f h14 hx
          refine wp_g 1 (pc1 := 43) (lv1 := [(0, .ref 146), (1, .int (Int32.ofInt p1)), (2, .int (Int32.ofInt p2)), (3, .int (Int32.ofInt p3))]) (st1 := [.ref 146]) (w1 := w) rfl ?_
          obtain ⟨o15, e16, hx⟩ := bd hx
          refine wp_cl [.ref 146] [] (i := .invokevirtual 414) (ln := 3) (a := 226) (b := 0) (z := 0) (by decide +kernel) rfl rfl (by decide) rfl (show (1 : Nat) = pm_na 226 by decide +kernel) (Nat.le_of_ble_eq_true rfl) (show (1 : Nat) ≤ pm_n 226 by decide +kernel) (rcv_x 12 h (hS _ _ sm_146) (by decide +kernel)) (xm_keeps_ok (d := d + 6) hS h e16 (fun w17 h18 => ?_))
          show wp _ 237 46 [(0, .ref 146), (1, .int (Int32.ofInt p1)), (2, .int (Int32.ofInt p2)), (3, .int (Int32.ofInt p3))] [] w17 _
          refine wp_g 4 (pc1 := 50) (lv1 := [(0, .ref 146), (1, .int (Int32.ofInt p1)), (2, .int (Int32.ofInt p2)), (3, .int (Int32.ofInt p3))]) (st1 := [.int (Int32.ofInt p2), .int (Int32.ofInt p1), .int (Int32.ofInt 3), .ref 146]) (w1 := w17) rfl ?_
          obtain ⟨o19, e20, hx⟩ := bd hx
          refine wp_cl [.ref 146, .int (Int32.ofInt 3), .int (Int32.ofInt p1), .int (Int32.ofInt p2)] [] (i := .invokevirtual 417) (ln := 3) (a := 234) (b := 0) (z := 0) (by decide +kernel) rfl rfl (by decide) rfl (show (4 : Nat) = pm_na 234 by decide +kernel) (Nat.le_of_ble_eq_true rfl) (show (4 : Nat) ≤ pm_n 234 by decide +kernel) (rcv_x 12 h18 (hS _ _ sm_146) (by decide +kernel)) (xm_findsFewest_ok (d := d) hS h18 e20 (fun w21 h22 => ?_))
          show wp _ 237 53 [(0, .ref 146), (1, .int (Int32.ofInt p1)), (2, .int (Int32.ofInt p2)), (3, .int (Int32.ofInt p3))] [] w21 _
          refine wp_g 1 (pc1 := 54) (lv1 := [(0, .ref 146), (1, .int (Int32.ofInt p1)), (2, .int (Int32.ofInt p2)), (3, .int (Int32.ofInt p3))]) (st1 := [.ref 146]) (w1 := w21) rfl ?_
          obtain ⟨o23, e24, hx⟩ := bd hx
          refine wp_cl [.ref 146] [] (i := .invokevirtual 420) (ln := 3) (a := 227) (b := 0) (z := 0) (by decide +kernel) rfl rfl (by decide) rfl (show (1 : Nat) = pm_na 227 by decide +kernel) (Nat.le_of_ble_eq_true rfl) (show (1 : Nat) ≤ pm_n 227 by decide +kernel) (rcv_x 12 h22 (hS _ _ sm_146) (by decide +kernel)) (xm_laysBack_ok (d := d + 6) hS h22 e24 (fun w25 h26 => ?_))
          show wp _ 237 57 [(0, .ref 146), (1, .int (Int32.ofInt p1)), (2, .int (Int32.ofInt p2)), (3, .int (Int32.ofInt p3))] [] w25 _
          refine wp_g 2 (pc1 := 59) (lv1 := [(0, .ref 146), (1, .int (Int32.ofInt p1)), (2, .int (Int32.ofInt p2)), (3, .int (Int32.ofInt p3))]) (st1 := [.int (Int32.ofInt p3), .ref 146]) (w1 := w25) rfl ?_
          obtain ⟨o27, e28, hx⟩ := bd hx
          refine wp_cl [.ref 146, .int (Int32.ofInt p3)] [] (i := .invokevirtual 423) (ln := 3) (a := 235) (b := 0) (z := 0) (by decide +kernel) rfl rfl (by decide) rfl (show (2 : Nat) = pm_na 235 by decide +kernel) (Nat.le_of_ble_eq_true rfl) (show (2 : Nat) ≤ pm_n 235 by decide +kernel) (rcv_x 12 h26 (hS _ _ sm_146) (by decide +kernel)) (xm_answerOfRow_ok (d := d + 6) hS h26 e28 ?_)
          show wp _ 237 62 [(0, .ref 146), (1, .int (Int32.ofInt p1)), (2, .int (Int32.ofInt p2)), (3, .int (Int32.ofInt p3))] [.int (Int32.ofInt o27)] w25 _
          refine wp_rt (i := .ireturn) (r := some (.int (Int32.ofInt o27))) (ln := 1) (a := 0) (b := 0) (z := 0) (by decide +kernel) rfl (ret_ok (by decide +kernel)) ?_
          cases hx
          exact kr _ h26
        · have hx := ite_t h14 hx
          refine wp_g 1 (pc1 := 41) (lv1 := [(0, .ref 146), (1, .int (Int32.ofInt p1)), (2, .int (Int32.ofInt p2)), (3, .int (Int32.ofInt p3))]) (st1 := [.int (Int32.ofInt (-3))]) (w1 := w) rfl ?_
          refine wp_rt (i := .ireturn) (r := some (.int (Int32.ofInt (-3)))) (ln := 1) (a := 0) (b := 0) (z := 0) (by decide +kernel) rfl (ret_ok (by decide +kernel)) ?_
          cases hx
          exact kr _ h
/-- FoldDeedsModel.isBetween (III)Z -/
noncomputable def xm_isBetween (p0 : Int) (p1 : Int) (p2 : Int) : Option Int :=
  if w32 p1 < w32 p2 then if w32 p1 < w32 p0 then if w32 p0 < w32 p2 then some 1 else some 0 else some 0 else if w32 p2 < w32 p0 then if w32 p0 < w32 p1 then some 1 else some 0 else some 0
set_option maxRecDepth 100000 in
theorem xm_isBetween_ok {d : Nat} {P : Option Value → pm_H → Prop} {w : pm_H} {p0 : Int} {p1 : Int} {p2 : Int} {o : Int} (hx : xm_isBetween p0 p1 p2 = some o) (kr : P (some (.int (Int32.ofInt o))) w) : wp d 238 0 (lv_args 0 [.int (Int32.ofInt p0), .int (Int32.ofInt p1), .int (Int32.ofInt p2)]) [] w P := by
  show wp _ 238 0 [(0, .int (Int32.ofInt p0)), (1, .int (Int32.ofInt p1)), (2, .int (Int32.ofInt p2))] [] w _
  unfold xm_isBetween at hx
  refine wp_g 2 (pc1 := 2) (lv1 := [(0, .int (Int32.ofInt p0)), (1, .int (Int32.ofInt p1)), (2, .int (Int32.ofInt p2))]) (st1 := [.int (Int32.ofInt p2), .int (Int32.ofInt p1)]) (w1 := w) rfl ?_
  refine wx_ge (oo := 21) (ln := 3) (a := 23) (b := 0) (zz := 0) (by decide +kernel) (fun h1 => ?_) (fun h1 => ?_)
  · have hx := ite_f h1 hx
    refine wp_g 2 (pc1 := 25) (lv1 := [(0, .int (Int32.ofInt p0)), (1, .int (Int32.ofInt p1)), (2, .int (Int32.ofInt p2))]) (st1 := [.int (Int32.ofInt p2), .int (Int32.ofInt p0)]) (w1 := w) rfl ?_
    refine wx_le (oo := 12) (ln := 3) (a := 37) (b := 0) (zz := 0) (by decide +kernel) (fun h2 => ?_) (fun h2 => ?_)
    · have hx := ite_f h2 hx
      refine wp_g 1 (pc1 := 38) (lv1 := [(0, .int (Int32.ofInt p0)), (1, .int (Int32.ofInt p1)), (2, .int (Int32.ofInt p2))]) (st1 := [.int (Int32.ofInt 0)]) (w1 := w) rfl ?_
      refine wp_rt (i := .ireturn) (r := some (.int (Int32.ofInt 0))) (ln := 1) (a := 0) (b := 0) (z := 0) (by decide +kernel) rfl (ret_b (by decide +kernel) (Or.inl rfl)) ?_
      cases hx
      exact kr
    · have hx := ite_t h2 hx
      refine wp_g 2 (pc1 := 30) (lv1 := [(0, .int (Int32.ofInt p0)), (1, .int (Int32.ofInt p1)), (2, .int (Int32.ofInt p2))]) (st1 := [.int (Int32.ofInt p1), .int (Int32.ofInt p0)]) (w1 := w) rfl ?_
      refine wx_ge (oo := 7) (ln := 3) (a := 37) (b := 0) (zz := 0) (by decide +kernel) (fun h3 => ?_) (fun h3 => ?_)
      · have hx := ite_f h3 hx
        refine wp_g 1 (pc1 := 38) (lv1 := [(0, .int (Int32.ofInt p0)), (1, .int (Int32.ofInt p1)), (2, .int (Int32.ofInt p2))]) (st1 := [.int (Int32.ofInt 0)]) (w1 := w) rfl ?_
        refine wp_rt (i := .ireturn) (r := some (.int (Int32.ofInt 0))) (ln := 1) (a := 0) (b := 0) (z := 0) (by decide +kernel) rfl (ret_b (by decide +kernel) (Or.inl rfl)) ?_
        cases hx
        exact kr
      · have hx := ite_t h3 hx
        refine wp_g 2 (pc1 := 38) (lv1 := [(0, .int (Int32.ofInt p0)), (1, .int (Int32.ofInt p1)), (2, .int (Int32.ofInt p2))]) (st1 := [.int (Int32.ofInt 1)]) (w1 := w) rfl ?_
        refine wp_rt (i := .ireturn) (r := some (.int (Int32.ofInt 1))) (ln := 1) (a := 0) (b := 0) (z := 0) (by decide +kernel) rfl (ret_b (by decide +kernel) (Or.inr rfl)) ?_
        cases hx
        exact kr
  · have hx := ite_t h1 hx
    refine wp_g 2 (pc1 := 7) (lv1 := [(0, .int (Int32.ofInt p0)), (1, .int (Int32.ofInt p1)), (2, .int (Int32.ofInt p2))]) (st1 := [.int (Int32.ofInt p1), .int (Int32.ofInt p0)]) (w1 := w) rfl ?_
    refine wx_le (oo := 12) (ln := 3) (a := 19) (b := 0) (zz := 0) (by decide +kernel) (fun h4 => ?_) (fun h4 => ?_)
    · have hx := ite_f h4 hx
      refine wp_g 2 (pc1 := 38) (lv1 := [(0, .int (Int32.ofInt p0)), (1, .int (Int32.ofInt p1)), (2, .int (Int32.ofInt p2))]) (st1 := [.int (Int32.ofInt 0)]) (w1 := w) rfl ?_
      refine wp_rt (i := .ireturn) (r := some (.int (Int32.ofInt 0))) (ln := 1) (a := 0) (b := 0) (z := 0) (by decide +kernel) rfl (ret_b (by decide +kernel) (Or.inl rfl)) ?_
      cases hx
      exact kr
    · have hx := ite_t h4 hx
      refine wp_g 2 (pc1 := 12) (lv1 := [(0, .int (Int32.ofInt p0)), (1, .int (Int32.ofInt p1)), (2, .int (Int32.ofInt p2))]) (st1 := [.int (Int32.ofInt p2), .int (Int32.ofInt p0)]) (w1 := w) rfl ?_
      refine wx_ge (oo := 7) (ln := 3) (a := 19) (b := 0) (zz := 0) (by decide +kernel) (fun h5 => ?_) (fun h5 => ?_)
      · have hx := ite_f h5 hx
        refine wp_g 2 (pc1 := 38) (lv1 := [(0, .int (Int32.ofInt p0)), (1, .int (Int32.ofInt p1)), (2, .int (Int32.ofInt p2))]) (st1 := [.int (Int32.ofInt 0)]) (w1 := w) rfl ?_
        refine wp_rt (i := .ireturn) (r := some (.int (Int32.ofInt 0))) (ln := 1) (a := 0) (b := 0) (z := 0) (by decide +kernel) rfl (ret_b (by decide +kernel) (Or.inl rfl)) ?_
        cases hx
        exact kr
      · have hx := ite_t h5 hx
        refine wp_g 2 (pc1 := 38) (lv1 := [(0, .int (Int32.ofInt p0)), (1, .int (Int32.ofInt p1)), (2, .int (Int32.ofInt p2))]) (st1 := [.int (Int32.ofInt 1)]) (w1 := w) rfl ?_
        refine wp_rt (i := .ireturn) (r := some (.int (Int32.ofInt 1))) (ln := 1) (a := 0) (b := 0) (z := 0) (by decide +kernel) rfl (ret_b (by decide +kernel) (Or.inr rfl)) ?_
        cases hx
        exact kr
noncomputable def xm_isUncrossed_b18 (s : Hp) (x1 : Int) (x2 : Int) : Option (Int ⊕ (Int ⊕ Int)) :=
  (ix 130 0).bind fun i1 => if w32 x2 < w32 ((s 156 i1) - 1) then (ix 8 x2).bind fun i4 => (ix 8 x1).bind fun i6 => (ix 8 (x1 + 1)).bind fun i8 => (xm_isBetween (s 164 i4) (s 164 i6) (s 164 i8)).bind fun o10 => (ix 8 (x2 + 1)).bind fun i14 => (xm_isBetween (s 164 i14) (s 164 i6) (s 164 i8)).bind fun o16 => if w32 o10 = w32 o16 then some (.inl (x2 + 2)) else some (.inr (.inr 0)) else some (.inr (.inl x2))
set_option maxRecDepth 100000 in
theorem xm_isUncrossed_b18_ok {d : Nat} {P : Option Value → pm_H → Prop} {w : pm_H} {sh : Shp} {w0 : pm_H} {s : Hp} (hS : StM sh) {x1 : Int} {x2 : Int} (h : Rw sh w0 s w) {o : (Int ⊕ (Int ⊕ Int))} (hx : xm_isUncrossed_b18 s x1 x2 = some o) (kn : ∀ (q : Int) w1, o = .inl q → w = w1 → wp (d + 1) 239 18 [(0, .ref 146), (1, .int (Int32.ofInt x1)), (2, .int (Int32.ofInt q))] [] w1 P) (kc : ∀ (r : (Int ⊕ Int)), o = .inr r → ((∀ q1 w1, r = .inl q1 → w = w1 → wp (d + 1) 239 91 [(0, .ref 146), (1, .int (Int32.ofInt x1)), (2, .int (Int32.ofInt q1))] [] w1 P) ∧ (∀ v1 w1, r = .inr v1 → w = w1 → P (some (.int (Int32.ofInt v1))) w1))) : wp (d + 1) 239 18 [(0, .ref 146), (1, .int (Int32.ofInt x1)), (2, .int (Int32.ofInt x2))] [] w P := by
  unfold xm_isUncrossed_b18 at hx
  refine wp_g 2 (pc1 := 20) (lv1 := [(0, .ref 146), (1, .int (Int32.ofInt x1)), (2, .int (Int32.ofInt x2))]) (st1 := [.ref 146, .int (Int32.ofInt x2)]) (w1 := w) rfl ?_
  refine wx_gr (o := 10) (kf := 39) (ln := 3) (ci := 12) (b := 20) (zz := 0) (x := 146) (by decide +kernel) h (hS _ _ sm_146) rfl ?_
  show wp _ 239 23 [(0, .ref 146), (1, .int (Int32.ofInt x1)), (2, .int (Int32.ofInt x2))] [.ref 156, .int (Int32.ofInt x2)] w _
  refine wp_g 1 (pc1 := 24) (lv1 := [(0, .ref 146), (1, .int (Int32.ofInt x1)), (2, .int (Int32.ofInt x2))]) (st1 := [.int (Int32.ofInt 0), .ref 156, .int (Int32.ofInt x2)]) (w1 := w) rfl ?_
  obtain ⟨i1, e2, hx⟩ := bd hx
  refine wx_ra (x := 156) (n := 130) (ln := 1) (a := 0) (b := 0) (zz := 0) (by decide +kernel) h (hS _ _ sm_156) e2 ?_
  show wp _ 239 25 [(0, .ref 146), (1, .int (Int32.ofInt x1)), (2, .int (Int32.ofInt x2))] [.int (Int32.ofInt (s 156 i1)), .int (Int32.ofInt x2)] w _
  refine wp_g 2 (pc1 := 27) (lv1 := [(0, .ref 146), (1, .int (Int32.ofInt x1)), (2, .int (Int32.ofInt x2))]) (st1 := [.int (Int32.ofInt ((s 156 i1) - 1)), .int (Int32.ofInt x2)]) (w1 := w) (by simp only [Int32.ofInt_add, Int32.ofInt_sub, Int32.ofInt_mul, Int32.ofInt_neg, p_and, p_or, p_xor, p_shl, p_shr, p_usr, p_w8, p_c16, p_lI, q_and, q_or, q_shl, q_shr, q_w32, Int64.ofInt_add, Int64.ofInt_sub, Int64.ofInt_mul, p_mx, p_mn, q_mx, q_mn]; rfl) ?_
  refine wx_ge (oo := 64) (ln := 3) (a := 91) (b := 0) (zz := 0) (by decide +kernel) (fun h3 => ?_) (fun h3 => ?_)
  · have hx := ite_f h3 hx
    cases hx
    exact (kc _ rfl).1 _ _ rfl rfl
  · have hx := ite_t h3 hx
    refine wp_g 1 (pc1 := 31) (lv1 := [(0, .ref 146), (1, .int (Int32.ofInt x1)), (2, .int (Int32.ofInt x2))]) (st1 := [.ref 146]) (w1 := w) rfl ?_
    refine wx_gr (o := 18) (kf := 67) (ln := 3) (ci := 12) (b := 32) (zz := 0) (x := 146) (by decide +kernel) h (hS _ _ sm_146) rfl ?_
    show wp _ 239 34 [(0, .ref 146), (1, .int (Int32.ofInt x1)), (2, .int (Int32.ofInt x2))] [.ref 164] w _
    refine wp_g 1 (pc1 := 35) (lv1 := [(0, .ref 146), (1, .int (Int32.ofInt x1)), (2, .int (Int32.ofInt x2))]) (st1 := [.int (Int32.ofInt x2), .ref 164]) (w1 := w) rfl ?_
    obtain ⟨i4, e5, hx⟩ := bd hx
    refine wx_ra (x := 164) (n := 8) (ln := 1) (a := 0) (b := 0) (zz := 0) (by decide +kernel) h (hS _ _ sm_164) e5 ?_
    show wp _ 239 36 [(0, .ref 146), (1, .int (Int32.ofInt x1)), (2, .int (Int32.ofInt x2))] [.int (Int32.ofInt (s 164 i4))] w _
    refine wp_g 1 (pc1 := 37) (lv1 := [(0, .ref 146), (1, .int (Int32.ofInt x1)), (2, .int (Int32.ofInt x2))]) (st1 := [.ref 146, .int (Int32.ofInt (s 164 i4))]) (w1 := w) rfl ?_
    refine wx_gr (o := 18) (kf := 67) (ln := 3) (ci := 12) (b := 32) (zz := 0) (x := 146) (by decide +kernel) h (hS _ _ sm_146) rfl ?_
    show wp _ 239 40 [(0, .ref 146), (1, .int (Int32.ofInt x1)), (2, .int (Int32.ofInt x2))] [.ref 164, .int (Int32.ofInt (s 164 i4))] w _
    refine wp_g 1 (pc1 := 41) (lv1 := [(0, .ref 146), (1, .int (Int32.ofInt x1)), (2, .int (Int32.ofInt x2))]) (st1 := [.int (Int32.ofInt x1), .ref 164, .int (Int32.ofInt (s 164 i4))]) (w1 := w) rfl ?_
    obtain ⟨i6, e7, hx⟩ := bd hx
    refine wx_ra (x := 164) (n := 8) (ln := 1) (a := 0) (b := 0) (zz := 0) (by decide +kernel) h (hS _ _ sm_164) e7 ?_
    show wp _ 239 42 [(0, .ref 146), (1, .int (Int32.ofInt x1)), (2, .int (Int32.ofInt x2))] [.int (Int32.ofInt (s 164 i6)), .int (Int32.ofInt (s 164 i4))] w _
    refine wp_g 1 (pc1 := 43) (lv1 := [(0, .ref 146), (1, .int (Int32.ofInt x1)), (2, .int (Int32.ofInt x2))]) (st1 := [.ref 146, .int (Int32.ofInt (s 164 i6)), .int (Int32.ofInt (s 164 i4))]) (w1 := w) rfl ?_
    refine wx_gr (o := 18) (kf := 67) (ln := 3) (ci := 12) (b := 32) (zz := 0) (x := 146) (by decide +kernel) h (hS _ _ sm_146) rfl ?_
    show wp _ 239 46 [(0, .ref 146), (1, .int (Int32.ofInt x1)), (2, .int (Int32.ofInt x2))] [.ref 164, .int (Int32.ofInt (s 164 i6)), .int (Int32.ofInt (s 164 i4))] w _
    refine wp_g 3 (pc1 := 49) (lv1 := [(0, .ref 146), (1, .int (Int32.ofInt x1)), (2, .int (Int32.ofInt x2))]) (st1 := [.int (Int32.ofInt (x1 + 1)), .ref 164, .int (Int32.ofInt (s 164 i6)), .int (Int32.ofInt (s 164 i4))]) (w1 := w) (by simp only [Int32.ofInt_add, Int32.ofInt_sub, Int32.ofInt_mul, Int32.ofInt_neg, p_and, p_or, p_xor, p_shl, p_shr, p_usr, p_w8, p_c16, p_lI, q_and, q_or, q_shl, q_shr, q_w32, Int64.ofInt_add, Int64.ofInt_sub, Int64.ofInt_mul, p_mx, p_mn, q_mx, q_mn]; rfl) ?_
    obtain ⟨i8, e9, hx⟩ := bd hx
    refine wx_ra (x := 164) (n := 8) (ln := 1) (a := 0) (b := 0) (zz := 0) (by decide +kernel) h (hS _ _ sm_164) e9 ?_
    show wp _ 239 50 [(0, .ref 146), (1, .int (Int32.ofInt x1)), (2, .int (Int32.ofInt x2))] [.int (Int32.ofInt (s 164 i8)), .int (Int32.ofInt (s 164 i6)), .int (Int32.ofInt (s 164 i4))] w _
    obtain ⟨o10, e11, hx⟩ := bd hx
    refine wp_cl [.int (Int32.ofInt (s 164 i4)), .int (Int32.ofInt (s 164 i6)), .int (Int32.ofInt (s 164 i8))] [] (i := .invokestatic 426) (ln := 3) (a := 238) (b := 1) (z := 0) (by decide +kernel) rfl rfl (by decide) rfl (show (3 : Nat) = pm_na 238 by decide +kernel) (Nat.le_of_ble_eq_true rfl) (show (3 : Nat) ≤ pm_n 238 by decide +kernel) (by rw [show pm_k 238 = 1 by decide +kernel]; rfl) (xm_isBetween_ok (d := d) e11 ?_)
    show wp _ 239 53 [(0, .ref 146), (1, .int (Int32.ofInt x1)), (2, .int (Int32.ofInt x2))] [.int (Int32.ofInt o10)] w _
    refine wp_g 3 (pc1 := 56) (lv1 := [(3, .int (Int32.ofInt o10)), (0, .ref 146), (1, .int (Int32.ofInt x1)), (2, .int (Int32.ofInt x2))]) (st1 := [.ref 146, .int (Int32.ofInt o10)]) (w1 := w) rfl ?_
    refine wx_gr (o := 18) (kf := 67) (ln := 3) (ci := 12) (b := 32) (zz := 0) (x := 146) (by decide +kernel) h (hS _ _ sm_146) rfl ?_
    show wp _ 239 59 [(3, .int (Int32.ofInt o10)), (0, .ref 146), (1, .int (Int32.ofInt x1)), (2, .int (Int32.ofInt x2))] [.ref 164, .int (Int32.ofInt o10)] w _
    refine wp_g 3 (pc1 := 62) (lv1 := [(3, .int (Int32.ofInt o10)), (0, .ref 146), (1, .int (Int32.ofInt x1)), (2, .int (Int32.ofInt x2))]) (st1 := [.int (Int32.ofInt (x2 + 1)), .ref 164, .int (Int32.ofInt o10)]) (w1 := w) (by simp only [Int32.ofInt_add, Int32.ofInt_sub, Int32.ofInt_mul, Int32.ofInt_neg, p_and, p_or, p_xor, p_shl, p_shr, p_usr, p_w8, p_c16, p_lI, q_and, q_or, q_shl, q_shr, q_w32, Int64.ofInt_add, Int64.ofInt_sub, Int64.ofInt_mul, p_mx, p_mn, q_mx, q_mn]; rfl) ?_
    obtain ⟨i14, e15, hx⟩ := bd hx
    refine wx_ra (x := 164) (n := 8) (ln := 1) (a := 0) (b := 0) (zz := 0) (by decide +kernel) h (hS _ _ sm_164) e15 ?_
    show wp _ 239 63 [(3, .int (Int32.ofInt o10)), (0, .ref 146), (1, .int (Int32.ofInt x1)), (2, .int (Int32.ofInt x2))] [.int (Int32.ofInt (s 164 i14)), .int (Int32.ofInt o10)] w _
    refine wp_g 1 (pc1 := 64) (lv1 := [(3, .int (Int32.ofInt o10)), (0, .ref 146), (1, .int (Int32.ofInt x1)), (2, .int (Int32.ofInt x2))]) (st1 := [.ref 146, .int (Int32.ofInt (s 164 i14)), .int (Int32.ofInt o10)]) (w1 := w) rfl ?_
    refine wx_gr (o := 18) (kf := 67) (ln := 3) (ci := 12) (b := 32) (zz := 0) (x := 146) (by decide +kernel) h (hS _ _ sm_146) rfl ?_
    show wp _ 239 67 [(3, .int (Int32.ofInt o10)), (0, .ref 146), (1, .int (Int32.ofInt x1)), (2, .int (Int32.ofInt x2))] [.ref 164, .int (Int32.ofInt (s 164 i14)), .int (Int32.ofInt o10)] w _
    refine wp_g 1 (pc1 := 68) (lv1 := [(3, .int (Int32.ofInt o10)), (0, .ref 146), (1, .int (Int32.ofInt x1)), (2, .int (Int32.ofInt x2))]) (st1 := [.int (Int32.ofInt x1), .ref 164, .int (Int32.ofInt (s 164 i14)), .int (Int32.ofInt o10)]) (w1 := w) rfl ?_
    refine wx_ra (x := 164) (n := 8) (ln := 1) (a := 0) (b := 0) (zz := 0) (by decide +kernel) h (hS _ _ sm_164) e7 ?_
    show wp _ 239 69 [(3, .int (Int32.ofInt o10)), (0, .ref 146), (1, .int (Int32.ofInt x1)), (2, .int (Int32.ofInt x2))] [.int (Int32.ofInt (s 164 i6)), .int (Int32.ofInt (s 164 i14)), .int (Int32.ofInt o10)] w _
    refine wp_g 1 (pc1 := 70) (lv1 := [(3, .int (Int32.ofInt o10)), (0, .ref 146), (1, .int (Int32.ofInt x1)), (2, .int (Int32.ofInt x2))]) (st1 := [.ref 146, .int (Int32.ofInt (s 164 i6)), .int (Int32.ofInt (s 164 i14)), .int (Int32.ofInt o10)]) (w1 := w) rfl ?_
    refine wx_gr (o := 18) (kf := 67) (ln := 3) (ci := 12) (b := 32) (zz := 0) (x := 146) (by decide +kernel) h (hS _ _ sm_146) rfl ?_
    show wp _ 239 73 [(3, .int (Int32.ofInt o10)), (0, .ref 146), (1, .int (Int32.ofInt x1)), (2, .int (Int32.ofInt x2))] [.ref 164, .int (Int32.ofInt (s 164 i6)), .int (Int32.ofInt (s 164 i14)), .int (Int32.ofInt o10)] w _
    refine wp_g 3 (pc1 := 76) (lv1 := [(3, .int (Int32.ofInt o10)), (0, .ref 146), (1, .int (Int32.ofInt x1)), (2, .int (Int32.ofInt x2))]) (st1 := [.int (Int32.ofInt (x1 + 1)), .ref 164, .int (Int32.ofInt (s 164 i6)), .int (Int32.ofInt (s 164 i14)), .int (Int32.ofInt o10)]) (w1 := w) (by simp only [Int32.ofInt_add, Int32.ofInt_sub, Int32.ofInt_mul, Int32.ofInt_neg, p_and, p_or, p_xor, p_shl, p_shr, p_usr, p_w8, p_c16, p_lI, q_and, q_or, q_shl, q_shr, q_w32, Int64.ofInt_add, Int64.ofInt_sub, Int64.ofInt_mul, p_mx, p_mn, q_mx, q_mn]; rfl) ?_
    refine wx_ra (x := 164) (n := 8) (ln := 1) (a := 0) (b := 0) (zz := 0) (by decide +kernel) h (hS _ _ sm_164) e9 ?_
    show wp _ 239 77 [(3, .int (Int32.ofInt o10)), (0, .ref 146), (1, .int (Int32.ofInt x1)), (2, .int (Int32.ofInt x2))] [.int (Int32.ofInt (s 164 i8)), .int (Int32.ofInt (s 164 i6)), .int (Int32.ofInt (s 164 i14)), .int (Int32.ofInt o10)] w _
    obtain ⟨o16, e17, hx⟩ := bd hx
    refine wp_cl [.int (Int32.ofInt (s 164 i14)), .int (Int32.ofInt (s 164 i6)), .int (Int32.ofInt (s 164 i8))] [.int (Int32.ofInt o10)] (i := .invokestatic 426) (ln := 3) (a := 238) (b := 1) (z := 0) (by decide +kernel) rfl rfl (by decide) rfl (show (3 : Nat) = pm_na 238 by decide +kernel) (Nat.le_of_ble_eq_true rfl) (show (3 : Nat) ≤ pm_n 238 by decide +kernel) (by rw [show pm_k 238 = 1 by decide +kernel]; rfl) (xm_isBetween_ok (d := d) e17 ?_)
    show wp _ 239 80 [(3, .int (Int32.ofInt o10)), (0, .ref 146), (1, .int (Int32.ofInt x1)), (2, .int (Int32.ofInt x2))] [.int (Int32.ofInt o16), .int (Int32.ofInt o10)] w _
    refine wx_eq (oo := 5) (ln := 3) (a := 85) (b := 0) (zz := 0) (by decide +kernel) (fun h20 => ?_) (fun h20 => ?_)
    · have hx := ite_t h20 hx
      refine wp_g 2 (pc1 := 18) (lv1 := [(2, .int (Int32.ofInt (x2 + 2))), (3, .int (Int32.ofInt o10)), (0, .ref 146), (1, .int (Int32.ofInt x1))]) (st1 := []) (w1 := w) (by simp only [Int32.ofInt_add, Int32.ofInt_sub, Int32.ofInt_mul, Int32.ofInt_neg, p_and, p_or, p_xor, p_shl, p_shr, p_usr, p_w8, p_c16, p_lI, q_and, q_or, q_shl, q_shr, q_w32, Int64.ofInt_add, Int64.ofInt_sub, Int64.ofInt_mul, p_mx, p_mn, q_mx, q_mn]; rfl) ?_
      refine wp_lv (lv1 := [(0, .ref 146), (1, .int (Int32.ofInt x1)), (2, .int (Int32.ofInt (x2 + 2)))]) (lsub_p [2, 3, 0] rfl rfl rfl) ?_
      cases hx
      exact kn _ _ rfl rfl
    · have hx := ite_f h20 hx
      refine wp_g 1 (pc1 := 84) (lv1 := [(3, .int (Int32.ofInt o10)), (0, .ref 146), (1, .int (Int32.ofInt x1)), (2, .int (Int32.ofInt x2))]) (st1 := [.int (Int32.ofInt 0)]) (w1 := w) rfl ?_
      refine wp_rt (i := .ireturn) (r := some (.int (Int32.ofInt 0))) (ln := 1) (a := 0) (b := 0) (z := 0) (by decide +kernel) rfl (ret_b (by decide +kernel) (Or.inl rfl)) ?_
      cases hx
      exact (kc _ rfl).2 _ _ rfl rfl
noncomputable def xm_isUncrossed_b2 (s : Hp) (x1 : Int) : Option (Int ⊕ (Int ⊕ Int)) :=
  (ix 130 0).bind fun i1 => if w32 x1 < w32 ((s 156 i1) - 1) then (lp (fun (q : Int) => xm_isUncrossed_b18 s x1 q) (x1 + 2)).bind fun q4 => q4.elim (fun q8 => some (.inl (x1 + 1))) (fun r => some (.inr (.inr r))) else some (.inr (.inl x1))
set_option maxRecDepth 100000 in
theorem xm_isUncrossed_b2_ok {d : Nat} {P : Option Value → pm_H → Prop} {w : pm_H} {sh : Shp} {w0 : pm_H} {s : Hp} (hS : StM sh) {x1 : Int} (h : Rw sh w0 s w) {o : (Int ⊕ (Int ⊕ Int))} (hx : xm_isUncrossed_b2 s x1 = some o) (kn : ∀ (q : Int) w1, o = .inl q → w = w1 → wp (d + 1) 239 2 [(0, .ref 146), (1, .int (Int32.ofInt q))] [] w1 P) (kc : ∀ (r : (Int ⊕ Int)), o = .inr r → ((∀ q1 w1, r = .inl q1 → w = w1 → wp (d + 1) 239 97 [(0, .ref 146), (1, .int (Int32.ofInt q1))] [] w1 P) ∧ (∀ v1 w1, r = .inr v1 → w = w1 → P (some (.int (Int32.ofInt v1))) w1))) : wp (d + 1) 239 2 [(0, .ref 146), (1, .int (Int32.ofInt x1))] [] w P := by
  unfold xm_isUncrossed_b2 at hx
  refine wp_g 2 (pc1 := 4) (lv1 := [(0, .ref 146), (1, .int (Int32.ofInt x1))]) (st1 := [.ref 146, .int (Int32.ofInt x1)]) (w1 := w) rfl ?_
  refine wx_gr (o := 10) (kf := 39) (ln := 3) (ci := 12) (b := 20) (zz := 0) (x := 146) (by decide +kernel) h (hS _ _ sm_146) rfl ?_
  show wp _ 239 7 [(0, .ref 146), (1, .int (Int32.ofInt x1))] [.ref 156, .int (Int32.ofInt x1)] w _
  refine wp_g 1 (pc1 := 8) (lv1 := [(0, .ref 146), (1, .int (Int32.ofInt x1))]) (st1 := [.int (Int32.ofInt 0), .ref 156, .int (Int32.ofInt x1)]) (w1 := w) rfl ?_
  obtain ⟨i1, e2, hx⟩ := bd hx
  refine wx_ra (x := 156) (n := 130) (ln := 1) (a := 0) (b := 0) (zz := 0) (by decide +kernel) h (hS _ _ sm_156) e2 ?_
  show wp _ 239 9 [(0, .ref 146), (1, .int (Int32.ofInt x1))] [.int (Int32.ofInt (s 156 i1)), .int (Int32.ofInt x1)] w _
  refine wp_g 2 (pc1 := 11) (lv1 := [(0, .ref 146), (1, .int (Int32.ofInt x1))]) (st1 := [.int (Int32.ofInt ((s 156 i1) - 1)), .int (Int32.ofInt x1)]) (w1 := w) (by simp only [Int32.ofInt_add, Int32.ofInt_sub, Int32.ofInt_mul, Int32.ofInt_neg, p_and, p_or, p_xor, p_shl, p_shr, p_usr, p_w8, p_c16, p_lI, q_and, q_or, q_shl, q_shr, q_w32, Int64.ofInt_add, Int64.ofInt_sub, Int64.ofInt_mul, p_mx, p_mn, q_mx, q_mn]; rfl) ?_
  refine wx_ge (oo := 86) (ln := 3) (a := 97) (b := 0) (zz := 0) (by decide +kernel) (fun h3 => ?_) (fun h3 => ?_)
  · have hx := ite_f h3 hx
    cases hx
    exact (kc _ rfl).1 _ _ rfl rfl
  · have hx := ite_t h3 hx
    refine wp_g 4 (pc1 := 18) (lv1 := [(2, .int (Int32.ofInt (x1 + 2))), (0, .ref 146), (1, .int (Int32.ofInt x1))]) (st1 := []) (w1 := w) (by simp only [Int32.ofInt_add, Int32.ofInt_sub, Int32.ofInt_mul, Int32.ofInt_neg, p_and, p_or, p_xor, p_shl, p_shr, p_usr, p_w8, p_c16, p_lI, q_and, q_or, q_shl, q_shr, q_w32, Int64.ofInt_add, Int64.ofInt_sub, Int64.ofInt_mul, p_mx, p_mn, q_mx, q_mn]; rfl) ?_
    refine wp_lv (lv1 := [(0, .ref 146), (1, .int (Int32.ofInt x1)), (2, .int (Int32.ofInt (x1 + 2)))]) (lsub_p [1, 2, 0] rfl rfl rfl) ?_
    obtain ⟨q4, e5, hx⟩ := bd hx
    refine wp_lp (σ := Int) (ρ := (Int ⊕ Int)) (B := fun q => xm_isUncrossed_b18 s x1 q) (R := fun q w' => w = w') (C := fun r => (∀ q1 w1, r = .inl q1 → w = w1 → wp (d + 1) 239 91 [(0, .ref 146), (1, .int (Int32.ofInt x1)), (2, .int (Int32.ofInt q1))] [] w1 P) ∧ (∀ v1 w1, r = .inr v1 → w = w1 → P (some (.int (Int32.ofInt v1))) w1)) (lv := fun q => [(0, .ref 146), (1, .int (Int32.ofInt x1)), (2, .int (Int32.ofInt q))]) (hd := 18) (fun q w' o hR hb kn kc => by subst hR; exact xm_isUncrossed_b18_ok hS h hb kn kc) _ _ _ e5 rfl ?_
    refine ⟨?_, fun v9 w1 hs h1 => by subst hs; cases (se_r hx); exact (kc _ rfl).2 _ _ rfl h1⟩
    intro q8 w6 hs h7
    subst hs
    replace hx := se_l hx
    subst h7
    show wp _ 239 91 [(0, .ref 146), (1, .int (Int32.ofInt x1)), (2, .int (Int32.ofInt q8))] [] w _
    refine wp_g 2 (pc1 := 2) (lv1 := [(1, .int (Int32.ofInt (x1 + 1))), (0, .ref 146), (2, .int (Int32.ofInt q8))]) (st1 := []) (w1 := w) (by simp only [Int32.ofInt_add, Int32.ofInt_sub, Int32.ofInt_mul, Int32.ofInt_neg, p_and, p_or, p_xor, p_shl, p_shr, p_usr, p_w8, p_c16, p_lI, q_and, q_or, q_shl, q_shr, q_w32, Int64.ofInt_add, Int64.ofInt_sub, Int64.ofInt_mul, p_mx, p_mn, q_mx, q_mn]; rfl) ?_
    refine wp_lv (lv1 := [(0, .ref 146), (1, .int (Int32.ofInt (x1 + 1)))]) (lsub_p [1, 0] rfl rfl rfl) ?_
    cases hx
    exact kn _ _ rfl rfl
/-- FoldDeedsModel.isUncrossed ()Z -/
noncomputable def xm_isUncrossed (s : Hp) : Option Int :=
  (lp (fun (q : Int) => xm_isUncrossed_b2 s q) 0).bind fun q1 => q1.elim (fun q5 => some 1) (fun r => some r)
set_option maxRecDepth 100000 in
theorem xm_isUncrossed_ok {d : Nat} {P : Option Value → pm_H → Prop} {w : pm_H} {sh : Shp} {w0 : pm_H} {s : Hp} (hS : StM sh) (h : Rw sh w0 s w) {o : Int} (hx : xm_isUncrossed s = some o) (kr : P (some (.int (Int32.ofInt o))) w) : wp (d + 1) 239 0 (lv_args 0 [.ref 146]) [] w P := by
  show wp _ 239 0 [(0, .ref 146)] [] w _
  unfold xm_isUncrossed at hx
  refine wp_g 2 (pc1 := 2) (lv1 := [(1, .int (Int32.ofInt 0)), (0, .ref 146)]) (st1 := []) (w1 := w) rfl ?_
  refine wp_lv (lv1 := [(0, .ref 146), (1, .int (Int32.ofInt 0))]) (lsub_p [1, 0] rfl rfl rfl) ?_
  obtain ⟨q1, e2, hx⟩ := bd hx
  refine wp_lp (σ := Int) (ρ := (Int ⊕ Int)) (B := fun q => xm_isUncrossed_b2 s q) (R := fun q w' => w = w') (C := fun r => (∀ q1 w1, r = .inl q1 → w = w1 → wp (d + 1) 239 97 [(0, .ref 146), (1, .int (Int32.ofInt q1))] [] w1 P) ∧ (∀ v1 w1, r = .inr v1 → w = w1 → P (some (.int (Int32.ofInt v1))) w1)) (lv := fun q => [(0, .ref 146), (1, .int (Int32.ofInt q))]) (hd := 2) (fun q w' o hR hb kn kc => by subst hR; exact xm_isUncrossed_b2_ok hS h hb kn kc) _ _ _ e2 rfl ?_
  refine ⟨?_, fun v6 w1 hs h1 => by subst hs; cases (se_r hx); subst h1; exact kr⟩
  intro q5 w3 hs h4
  subst hs
  replace hx := se_l hx
  subst h4
  show wp _ 239 97 [(0, .ref 146), (1, .int (Int32.ofInt q5))] [] w _
  refine wp_g 1 (pc1 := 98) (lv1 := [(0, .ref 146), (1, .int (Int32.ofInt q5))]) (st1 := [.int (Int32.ofInt 1)]) (w1 := w) rfl ?_
  refine wp_rt (i := .ireturn) (r := some (.int (Int32.ofInt 1))) (ln := 1) (a := 0) (b := 0) (z := 0) (by decide +kernel) rfl (ret_b (by decide +kernel) (Or.inr rfl)) ?_
  cases hx
  exact kr
noncomputable def xm_hills_b4_j50 (s : Hp) (x2 : Int) (k0 : Int) (k1 : Int) (k2 : Int) : Option ((Int × Int) ⊕ (Int × Int)) :=
  if w32 k1 = w32 k2 then some (.inl (bOr k0 0, x2 + 1)) else some (.inl (bOr k0 (bShl 1 x2), x2 + 1))
set_option maxRecDepth 100000 in
theorem xm_hills_b4_j50_ok {d : Nat} {P : Option Value → pm_H → Prop} {w : pm_H} {sh : Shp} {w0 : pm_H} {s : Hp} (hS : StM sh) {x2 : Int} {k0 : Int} {k1 : Int} {k2 : Int} (h : Rw sh w0 s w) {o : ((Int × Int) ⊕ (Int × Int))} (hx : xm_hills_b4_j50 s x2 k0 k1 k2 = some o) (kn : ∀ (q : Int × Int) w1, o = .inl q → w = w1 → wp d 240 4 [(0, .ref 146), (1, .int (Int32.ofInt q.1)), (2, .int (Int32.ofInt q.2))] [] w1 P) (kc : ∀ (r : (Int × Int)), o = .inr r → (∀ w1, w = w1 → wp d 240 68 [(0, .ref 146), (1, .int (Int32.ofInt r.1)), (2, .int (Int32.ofInt r.2))] [] w1 P)) : wp d 240 50 [(0, .ref 146), (2, .int (Int32.ofInt x2))] [.int (Int32.ofInt k2), .int (Int32.ofInt k1), .int (Int32.ofInt k0)] w P := by
  unfold xm_hills_b4_j50 at hx
  refine wx_ne (oo := 7) (ln := 3) (a := 57) (b := 0) (zz := 0) (by decide +kernel) (fun h1 => ?_) (fun h1 => ?_)
  · have hx := ite_f h1 hx
    refine wp_g 7 (pc1 := 4) (lv1 := [(2, .int (Int32.ofInt (x2 + 1))), (1, .int (Int32.ofInt (bOr k0 (bShl 1 x2)))), (0, .ref 146)]) (st1 := []) (w1 := w) (by simp only [Int32.ofInt_add, Int32.ofInt_sub, Int32.ofInt_mul, Int32.ofInt_neg, p_and, p_or, p_xor, p_shl, p_shr, p_usr, p_w8, p_c16, p_lI, q_and, q_or, q_shl, q_shr, q_w32, Int64.ofInt_add, Int64.ofInt_sub, Int64.ofInt_mul, p_mx, p_mn, q_mx, q_mn]; rfl) ?_
    refine wp_lv (lv1 := [(0, .ref 146), (1, .int (Int32.ofInt (bOr k0 (bShl 1 x2)))), (2, .int (Int32.ofInt (x2 + 1)))]) (lsub_p [2, 1, 0] rfl rfl rfl) ?_
    cases hx
    exact kn _ _ rfl rfl
  · have hx := ite_t h1 hx
    refine wp_g 6 (pc1 := 4) (lv1 := [(2, .int (Int32.ofInt (x2 + 1))), (1, .int (Int32.ofInt (bOr k0 0))), (0, .ref 146)]) (st1 := []) (w1 := w) (by simp only [Int32.ofInt_add, Int32.ofInt_sub, Int32.ofInt_mul, Int32.ofInt_neg, p_and, p_or, p_xor, p_shl, p_shr, p_usr, p_w8, p_c16, p_lI, q_and, q_or, q_shl, q_shr, q_w32, Int64.ofInt_add, Int64.ofInt_sub, Int64.ofInt_mul, p_mx, p_mn, q_mx, q_mn]; rfl) ?_
    refine wp_lv (lv1 := [(0, .ref 146), (1, .int (Int32.ofInt (bOr k0 0))), (2, .int (Int32.ofInt (x2 + 1)))]) (lsub_p [2, 1, 0] rfl rfl rfl) ?_
    cases hx
    exact kn _ _ rfl rfl
noncomputable def xm_hills_b4 (s : Hp) (x1 : Int) (x2 : Int) : Option ((Int × Int) ⊕ (Int × Int)) :=
  (ix 130 0).bind fun i1 => if w32 x2 < w32 ((s 156 i1) - 1) then (ix 8 (x2 + 1)).bind fun i4 => (ix 8 x2).bind fun i6 => if w32 (s 164 i6) < w32 (s 164 i4) then if w32 (iRem x2 2) = 0 then xm_hills_b4_j50 s x2 x1 1 1 else xm_hills_b4_j50 s x2 x1 1 0 else if w32 (iRem x2 2) = 0 then xm_hills_b4_j50 s x2 x1 0 1 else xm_hills_b4_j50 s x2 x1 0 0 else some (.inr (x1, x2))
set_option maxRecDepth 100000 in
theorem xm_hills_b4_ok {d : Nat} {P : Option Value → pm_H → Prop} {w : pm_H} {sh : Shp} {w0 : pm_H} {s : Hp} (hS : StM sh) {x1 : Int} {x2 : Int} (h : Rw sh w0 s w) {o : ((Int × Int) ⊕ (Int × Int))} (hx : xm_hills_b4 s x1 x2 = some o) (kn : ∀ (q : Int × Int) w1, o = .inl q → w = w1 → wp d 240 4 [(0, .ref 146), (1, .int (Int32.ofInt q.1)), (2, .int (Int32.ofInt q.2))] [] w1 P) (kc : ∀ (r : (Int × Int)), o = .inr r → (∀ w1, w = w1 → wp d 240 68 [(0, .ref 146), (1, .int (Int32.ofInt r.1)), (2, .int (Int32.ofInt r.2))] [] w1 P)) : wp d 240 4 [(0, .ref 146), (1, .int (Int32.ofInt x1)), (2, .int (Int32.ofInt x2))] [] w P := by
  unfold xm_hills_b4 at hx
  refine wp_g 2 (pc1 := 6) (lv1 := [(0, .ref 146), (1, .int (Int32.ofInt x1)), (2, .int (Int32.ofInt x2))]) (st1 := [.ref 146, .int (Int32.ofInt x2)]) (w1 := w) rfl ?_
  refine wx_gr (o := 10) (kf := 39) (ln := 3) (ci := 12) (b := 20) (zz := 0) (x := 146) (by decide +kernel) h (hS _ _ sm_146) rfl ?_
  show wp _ 240 9 [(0, .ref 146), (1, .int (Int32.ofInt x1)), (2, .int (Int32.ofInt x2))] [.ref 156, .int (Int32.ofInt x2)] w _
  refine wp_g 1 (pc1 := 10) (lv1 := [(0, .ref 146), (1, .int (Int32.ofInt x1)), (2, .int (Int32.ofInt x2))]) (st1 := [.int (Int32.ofInt 0), .ref 156, .int (Int32.ofInt x2)]) (w1 := w) rfl ?_
  obtain ⟨i1, e2, hx⟩ := bd hx
  refine wx_ra (x := 156) (n := 130) (ln := 1) (a := 0) (b := 0) (zz := 0) (by decide +kernel) h (hS _ _ sm_156) e2 ?_
  show wp _ 240 11 [(0, .ref 146), (1, .int (Int32.ofInt x1)), (2, .int (Int32.ofInt x2))] [.int (Int32.ofInt (s 156 i1)), .int (Int32.ofInt x2)] w _
  refine wp_g 2 (pc1 := 13) (lv1 := [(0, .ref 146), (1, .int (Int32.ofInt x1)), (2, .int (Int32.ofInt x2))]) (st1 := [.int (Int32.ofInt ((s 156 i1) - 1)), .int (Int32.ofInt x2)]) (w1 := w) (by simp only [Int32.ofInt_add, Int32.ofInt_sub, Int32.ofInt_mul, Int32.ofInt_neg, p_and, p_or, p_xor, p_shl, p_shr, p_usr, p_w8, p_c16, p_lI, q_and, q_or, q_shl, q_shr, q_w32, Int64.ofInt_add, Int64.ofInt_sub, Int64.ofInt_mul, p_mx, p_mn, q_mx, q_mn]; rfl) ?_
  refine wx_ge (oo := 55) (ln := 3) (a := 68) (b := 0) (zz := 0) (by decide +kernel) (fun h3 => ?_) (fun h3 => ?_)
  · have hx := ite_f h3 hx
    cases hx
    exact kc _ rfl _ rfl
  · have hx := ite_t h3 hx
    refine wp_g 2 (pc1 := 18) (lv1 := [(0, .ref 146), (1, .int (Int32.ofInt x1)), (2, .int (Int32.ofInt x2))]) (st1 := [.ref 146, .int (Int32.ofInt x1)]) (w1 := w) rfl ?_
    refine wx_gr (o := 18) (kf := 67) (ln := 3) (ci := 12) (b := 32) (zz := 0) (x := 146) (by decide +kernel) h (hS _ _ sm_146) rfl ?_
    show wp _ 240 21 [(0, .ref 146), (1, .int (Int32.ofInt x1)), (2, .int (Int32.ofInt x2))] [.ref 164, .int (Int32.ofInt x1)] w _
    refine wp_g 3 (pc1 := 24) (lv1 := [(0, .ref 146), (1, .int (Int32.ofInt x1)), (2, .int (Int32.ofInt x2))]) (st1 := [.int (Int32.ofInt (x2 + 1)), .ref 164, .int (Int32.ofInt x1)]) (w1 := w) (by simp only [Int32.ofInt_add, Int32.ofInt_sub, Int32.ofInt_mul, Int32.ofInt_neg, p_and, p_or, p_xor, p_shl, p_shr, p_usr, p_w8, p_c16, p_lI, q_and, q_or, q_shl, q_shr, q_w32, Int64.ofInt_add, Int64.ofInt_sub, Int64.ofInt_mul, p_mx, p_mn, q_mx, q_mn]; rfl) ?_
    obtain ⟨i4, e5, hx⟩ := bd hx
    refine wx_ra (x := 164) (n := 8) (ln := 1) (a := 0) (b := 0) (zz := 0) (by decide +kernel) h (hS _ _ sm_164) e5 ?_
    show wp _ 240 25 [(0, .ref 146), (1, .int (Int32.ofInt x1)), (2, .int (Int32.ofInt x2))] [.int (Int32.ofInt (s 164 i4)), .int (Int32.ofInt x1)] w _
    refine wp_g 1 (pc1 := 26) (lv1 := [(0, .ref 146), (1, .int (Int32.ofInt x1)), (2, .int (Int32.ofInt x2))]) (st1 := [.ref 146, .int (Int32.ofInt (s 164 i4)), .int (Int32.ofInt x1)]) (w1 := w) rfl ?_
    refine wx_gr (o := 18) (kf := 67) (ln := 3) (ci := 12) (b := 32) (zz := 0) (x := 146) (by decide +kernel) h (hS _ _ sm_146) rfl ?_
    show wp _ 240 29 [(0, .ref 146), (1, .int (Int32.ofInt x1)), (2, .int (Int32.ofInt x2))] [.ref 164, .int (Int32.ofInt (s 164 i4)), .int (Int32.ofInt x1)] w _
    refine wp_g 1 (pc1 := 30) (lv1 := [(0, .ref 146), (1, .int (Int32.ofInt x1)), (2, .int (Int32.ofInt x2))]) (st1 := [.int (Int32.ofInt x2), .ref 164, .int (Int32.ofInt (s 164 i4)), .int (Int32.ofInt x1)]) (w1 := w) rfl ?_
    obtain ⟨i6, e7, hx⟩ := bd hx
    refine wx_ra (x := 164) (n := 8) (ln := 1) (a := 0) (b := 0) (zz := 0) (by decide +kernel) h (hS _ _ sm_164) e7 ?_
    show wp _ 240 31 [(0, .ref 146), (1, .int (Int32.ofInt x1)), (2, .int (Int32.ofInt x2))] [.int (Int32.ofInt (s 164 i6)), .int (Int32.ofInt (s 164 i4)), .int (Int32.ofInt x1)] w _
    refine wx_le (oo := 7) (ln := 3) (a := 38) (b := 0) (zz := 0) (by decide +kernel) (fun h8 => ?_) (fun h8 => ?_)
    · have hx := ite_f h8 hx
      refine wp_g 3 (pc1 := 41) (lv1 := [(0, .ref 146), (1, .int (Int32.ofInt x1)), (2, .int (Int32.ofInt x2))]) (st1 := [.int (Int32.ofInt 2), .int (Int32.ofInt x2), .int (Int32.ofInt 0), .int (Int32.ofInt x1)]) (w1 := w) rfl ?_
      refine wx_rm (ln := 1) (a := 0) (b := 0) (zz := 0) (by decide +kernel) (by decide) ?_
      refine wz_ne (oo := 7) (ln := 3) (a := 49) (b := 0) (zz := 0) (by decide +kernel) (fun h9 => ?_) (fun h9 => ?_)
      · have hx := ite_f h9 hx
        refine wp_g 1 (pc1 := 50) (lv1 := [(0, .ref 146), (1, .int (Int32.ofInt x1)), (2, .int (Int32.ofInt x2))]) (st1 := [.int (Int32.ofInt 0), .int (Int32.ofInt 0), .int (Int32.ofInt x1)]) (w1 := w) rfl ?_
        refine wp_lv (lv1 := [(0, .ref 146), (2, .int (Int32.ofInt x2))]) (lsub_p [0, 2] rfl rfl rfl) ?_
        exact xm_hills_b4_j50_ok hS h hx kn kc
      · have hx := ite_t h9 hx
        refine wp_g 2 (pc1 := 50) (lv1 := [(0, .ref 146), (1, .int (Int32.ofInt x1)), (2, .int (Int32.ofInt x2))]) (st1 := [.int (Int32.ofInt 1), .int (Int32.ofInt 0), .int (Int32.ofInt x1)]) (w1 := w) rfl ?_
        refine wp_lv (lv1 := [(0, .ref 146), (2, .int (Int32.ofInt x2))]) (lsub_p [0, 2] rfl rfl rfl) ?_
        exact xm_hills_b4_j50_ok hS h hx kn kc
    · have hx := ite_t h8 hx
      refine wp_g 4 (pc1 := 41) (lv1 := [(0, .ref 146), (1, .int (Int32.ofInt x1)), (2, .int (Int32.ofInt x2))]) (st1 := [.int (Int32.ofInt 2), .int (Int32.ofInt x2), .int (Int32.ofInt 1), .int (Int32.ofInt x1)]) (w1 := w) rfl ?_
      refine wx_rm (ln := 1) (a := 0) (b := 0) (zz := 0) (by decide +kernel) (by decide) ?_
      refine wz_ne (oo := 7) (ln := 3) (a := 49) (b := 0) (zz := 0) (by decide +kernel) (fun h10 => ?_) (fun h10 => ?_)
      · have hx := ite_f h10 hx
        refine wp_g 1 (pc1 := 50) (lv1 := [(0, .ref 146), (1, .int (Int32.ofInt x1)), (2, .int (Int32.ofInt x2))]) (st1 := [.int (Int32.ofInt 0), .int (Int32.ofInt 1), .int (Int32.ofInt x1)]) (w1 := w) rfl ?_
        refine wp_lv (lv1 := [(0, .ref 146), (2, .int (Int32.ofInt x2))]) (lsub_p [0, 2] rfl rfl rfl) ?_
        exact xm_hills_b4_j50_ok hS h hx kn kc
      · have hx := ite_t h10 hx
        refine wp_g 2 (pc1 := 50) (lv1 := [(0, .ref 146), (1, .int (Int32.ofInt x1)), (2, .int (Int32.ofInt x2))]) (st1 := [.int (Int32.ofInt 1), .int (Int32.ofInt 1), .int (Int32.ofInt x1)]) (w1 := w) rfl ?_
        refine wp_lv (lv1 := [(0, .ref 146), (2, .int (Int32.ofInt x2))]) (lsub_p [0, 2] rfl rfl rfl) ?_
        exact xm_hills_b4_j50_ok hS h hx kn kc
/-- FoldDeedsModel.hills ()I -/
noncomputable def xm_hills (s : Hp) : Option Int :=
  (lp (fun (q : Int × Int) => xm_hills_b4 s q.1 q.2) (0, 0)).bind fun q1 => some q1.1
set_option maxRecDepth 100000 in
theorem xm_hills_ok {d : Nat} {P : Option Value → pm_H → Prop} {w : pm_H} {sh : Shp} {w0 : pm_H} {s : Hp} (hS : StM sh) (h : Rw sh w0 s w) {o : Int} (hx : xm_hills s = some o) (kr : P (some (.int (Int32.ofInt o))) w) : wp d 240 0 (lv_args 0 [.ref 146]) [] w P := by
  show wp _ 240 0 [(0, .ref 146)] [] w _
  unfold xm_hills at hx
  refine wp_g 4 (pc1 := 4) (lv1 := [(2, .int (Int32.ofInt 0)), (1, .int (Int32.ofInt 0)), (0, .ref 146)]) (st1 := []) (w1 := w) rfl ?_
  refine wp_lv (lv1 := [(0, .ref 146), (1, .int (Int32.ofInt 0)), (2, .int (Int32.ofInt 0))]) (lsub_p [2, 1, 0] rfl rfl rfl) ?_
  obtain ⟨q1, e2, hx⟩ := bd hx
  refine wp_lp (σ := Int × Int) (ρ := (Int × Int)) (B := fun q => xm_hills_b4 s q.1 q.2) (R := fun q w' => w = w') (C := fun r => ∀ w1, w = w1 → wp d 240 68 [(0, .ref 146), (1, .int (Int32.ofInt r.1)), (2, .int (Int32.ofInt r.2))] [] w1 P) (lv := fun q => [(0, .ref 146), (1, .int (Int32.ofInt q.1)), (2, .int (Int32.ofInt q.2))]) (hd := 4) (fun q w' o hR hb kn kc => by subst hR; exact xm_hills_b4_ok hS h hb kn kc) _ _ _ e2 rfl ?_
  intro w3 h4
  subst h4
  show wp _ 240 68 [(0, .ref 146), (1, .int (Int32.ofInt q1.1)), (2, .int (Int32.ofInt q1.2))] [] w _
  refine wp_g 1 (pc1 := 69) (lv1 := [(0, .ref 146), (1, .int (Int32.ofInt q1.1)), (2, .int (Int32.ofInt q1.2))]) (st1 := [.int (Int32.ofInt q1.1)]) (w1 := w) rfl ?_
  refine wp_rt (i := .ireturn) (r := some (.int (Int32.ofInt q1.1))) (ln := 1) (a := 0) (b := 0) (z := 0) (by decide +kernel) rfl (ret_ok (by decide +kernel)) ?_
  cases hx
  exact kr
noncomputable def xm_isAsMarked_b2 (s : Hp) (x1 : Int) (x2 : Int) : Option (Int ⊕ (Int ⊕ Int)) :=
  (ix 130 0).bind fun i1 => if w32 x2 < w32 ((s 156 i1) - 1) then (ix 130 (82 + x2)).bind fun i4 => if w32 (s 156 i4) = 0 then some (.inl (x2 + 1)) else (xm_isOf x1 x2).bind fun o7 => if w32 o7 = 0 then if w32 (s 156 i4) = w32 1 then some (.inl (x2 + 1)) else some (.inr (.inr 0)) else if w32 (s 156 i4) = w32 2 then some (.inl (x2 + 1)) else some (.inr (.inr 0)) else some (.inr (.inl x2))
set_option maxRecDepth 100000 in
theorem xm_isAsMarked_b2_ok {d : Nat} {P : Option Value → pm_H → Prop} {w : pm_H} {sh : Shp} {w0 : pm_H} {s : Hp} (hS : StM sh) {x1 : Int} {x2 : Int} (h : Rw sh w0 s w) {o : (Int ⊕ (Int ⊕ Int))} (hx : xm_isAsMarked_b2 s x1 x2 = some o) (kn : ∀ (q : Int) w1, o = .inl q → w = w1 → wp (d + 1) 241 2 [(0, .ref 146), (1, .int (Int32.ofInt x1)), (2, .int (Int32.ofInt q))] [] w1 P) (kc : ∀ (r : (Int ⊕ Int)), o = .inr r → ((∀ q1 w1, r = .inl q1 → w = w1 → wp (d + 1) 241 53 [(0, .ref 146), (1, .int (Int32.ofInt x1)), (2, .int (Int32.ofInt q1))] [] w1 P) ∧ (∀ v1 w1, r = .inr v1 → w = w1 → P (some (.int (Int32.ofInt v1))) w1))) : wp (d + 1) 241 2 [(0, .ref 146), (1, .int (Int32.ofInt x1)), (2, .int (Int32.ofInt x2))] [] w P := by
  unfold xm_isAsMarked_b2 at hx
  refine wp_g 2 (pc1 := 4) (lv1 := [(0, .ref 146), (1, .int (Int32.ofInt x1)), (2, .int (Int32.ofInt x2))]) (st1 := [.ref 146, .int (Int32.ofInt x2)]) (w1 := w) rfl ?_
  refine wx_gr (o := 10) (kf := 39) (ln := 3) (ci := 12) (b := 20) (zz := 0) (x := 146) (by decide +kernel) h (hS _ _ sm_146) rfl ?_
  show wp _ 241 7 [(0, .ref 146), (1, .int (Int32.ofInt x1)), (2, .int (Int32.ofInt x2))] [.ref 156, .int (Int32.ofInt x2)] w _
  refine wp_g 1 (pc1 := 8) (lv1 := [(0, .ref 146), (1, .int (Int32.ofInt x1)), (2, .int (Int32.ofInt x2))]) (st1 := [.int (Int32.ofInt 0), .ref 156, .int (Int32.ofInt x2)]) (w1 := w) rfl ?_
  obtain ⟨i1, e2, hx⟩ := bd hx
  refine wx_ra (x := 156) (n := 130) (ln := 1) (a := 0) (b := 0) (zz := 0) (by decide +kernel) h (hS _ _ sm_156) e2 ?_
  show wp _ 241 9 [(0, .ref 146), (1, .int (Int32.ofInt x1)), (2, .int (Int32.ofInt x2))] [.int (Int32.ofInt (s 156 i1)), .int (Int32.ofInt x2)] w _
  refine wp_g 2 (pc1 := 11) (lv1 := [(0, .ref 146), (1, .int (Int32.ofInt x1)), (2, .int (Int32.ofInt x2))]) (st1 := [.int (Int32.ofInt ((s 156 i1) - 1)), .int (Int32.ofInt x2)]) (w1 := w) (by simp only [Int32.ofInt_add, Int32.ofInt_sub, Int32.ofInt_mul, Int32.ofInt_neg, p_and, p_or, p_xor, p_shl, p_shr, p_usr, p_w8, p_c16, p_lI, q_and, q_or, q_shl, q_shr, q_w32, Int64.ofInt_add, Int64.ofInt_sub, Int64.ofInt_mul, p_mx, p_mn, q_mx, q_mn]; rfl) ?_
  refine wx_ge (oo := 42) (ln := 3) (a := 53) (b := 0) (zz := 0) (by decide +kernel) (fun h3 => ?_) (fun h3 => ?_)
  · have hx := ite_f h3 hx
    cases hx
    exact (kc _ rfl).1 _ _ rfl rfl
  · have hx := ite_t h3 hx
    refine wp_g 1 (pc1 := 15) (lv1 := [(0, .ref 146), (1, .int (Int32.ofInt x1)), (2, .int (Int32.ofInt x2))]) (st1 := [.ref 146]) (w1 := w) rfl ?_
    refine wx_gr (o := 10) (kf := 39) (ln := 3) (ci := 12) (b := 20) (zz := 0) (x := 146) (by decide +kernel) h (hS _ _ sm_146) rfl ?_
    show wp _ 241 18 [(0, .ref 146), (1, .int (Int32.ofInt x1)), (2, .int (Int32.ofInt x2))] [.ref 156] w _
    refine wp_g 3 (pc1 := 22) (lv1 := [(0, .ref 146), (1, .int (Int32.ofInt x1)), (2, .int (Int32.ofInt x2))]) (st1 := [.int (Int32.ofInt (82 + x2)), .ref 156]) (w1 := w) (by simp only [Int32.ofInt_add, Int32.ofInt_sub, Int32.ofInt_mul, Int32.ofInt_neg, p_and, p_or, p_xor, p_shl, p_shr, p_usr, p_w8, p_c16, p_lI, q_and, q_or, q_shl, q_shr, q_w32, Int64.ofInt_add, Int64.ofInt_sub, Int64.ofInt_mul, p_mx, p_mn, q_mx, q_mn]; rfl) ?_
    obtain ⟨i4, e5, hx⟩ := bd hx
    refine wx_ra (x := 156) (n := 130) (ln := 1) (a := 0) (b := 0) (zz := 0) (by decide +kernel) h (hS _ _ sm_156) e5 ?_
    show wp _ 241 23 [(0, .ref 146), (1, .int (Int32.ofInt x1)), (2, .int (Int32.ofInt x2))] [.int (Int32.ofInt (s 156 i4))] w _
    refine wp_g 2 (pc1 := 25) (lv1 := [(3, .int (Int32.ofInt (s 156 i4))), (0, .ref 146), (1, .int (Int32.ofInt x1)), (2, .int (Int32.ofInt x2))]) (st1 := [.int (Int32.ofInt (s 156 i4))]) (w1 := w) rfl ?_
    refine wz_eq (oo := 22) (ln := 3) (a := 47) (b := 0) (zz := 0) (by decide +kernel) (fun h6 => ?_) (fun h6 => ?_)
    · have hx := ite_t h6 hx
      refine wp_g 2 (pc1 := 2) (lv1 := [(2, .int (Int32.ofInt (x2 + 1))), (3, .int (Int32.ofInt (s 156 i4))), (0, .ref 146), (1, .int (Int32.ofInt x1))]) (st1 := []) (w1 := w) (by simp only [Int32.ofInt_add, Int32.ofInt_sub, Int32.ofInt_mul, Int32.ofInt_neg, p_and, p_or, p_xor, p_shl, p_shr, p_usr, p_w8, p_c16, p_lI, q_and, q_or, q_shl, q_shr, q_w32, Int64.ofInt_add, Int64.ofInt_sub, Int64.ofInt_mul, p_mx, p_mn, q_mx, q_mn]; rfl) ?_
      refine wp_lv (lv1 := [(0, .ref 146), (1, .int (Int32.ofInt x1)), (2, .int (Int32.ofInt (x2 + 1)))]) (lsub_p [2, 3, 0] rfl rfl rfl) ?_
      cases hx
      exact kn _ _ rfl rfl
    · have hx := ite_f h6 hx
      refine wp_g 3 (pc1 := 31) (lv1 := [(3, .int (Int32.ofInt (s 156 i4))), (0, .ref 146), (1, .int (Int32.ofInt x1)), (2, .int (Int32.ofInt x2))]) (st1 := [.int (Int32.ofInt x2), .int (Int32.ofInt x1), .int (Int32.ofInt (s 156 i4))]) (w1 := w) rfl ?_
      obtain ⟨o7, e8, hx⟩ := bd hx
      refine wp_cl [.int (Int32.ofInt x1), .int (Int32.ofInt x2)] [.int (Int32.ofInt (s 156 i4))] (i := .invokestatic 429) (ln := 3) (a := 148) (b := 1) (z := 0) (by decide +kernel) rfl rfl (by decide) rfl (show (2 : Nat) = pm_na 148 by decide +kernel) (Nat.le_of_ble_eq_true rfl) (show (2 : Nat) ≤ pm_n 148 by decide +kernel) (by rw [show pm_k 148 = 1 by decide +kernel]; rfl) (xm_isOf_ok (d := d) e8 ?_)
      show wp _ 241 34 [(3, .int (Int32.ofInt (s 156 i4))), (0, .ref 146), (1, .int (Int32.ofInt x1)), (2, .int (Int32.ofInt x2))] [.int (Int32.ofInt o7), .int (Int32.ofInt (s 156 i4))] w _
      refine wz_eq (oo := 7) (ln := 3) (a := 41) (b := 0) (zz := 0) (by decide +kernel) (fun h11 => ?_) (fun h11 => ?_)
      · have hx := ite_t h11 hx
        refine wp_g 1 (pc1 := 42) (lv1 := [(3, .int (Int32.ofInt (s 156 i4))), (0, .ref 146), (1, .int (Int32.ofInt x1)), (2, .int (Int32.ofInt x2))]) (st1 := [.int (Int32.ofInt 1), .int (Int32.ofInt (s 156 i4))]) (w1 := w) rfl ?_
        refine wx_eq (oo := 5) (ln := 3) (a := 47) (b := 0) (zz := 0) (by decide +kernel) (fun h12 => ?_) (fun h12 => ?_)
        · have hx := ite_t h12 hx
          refine wp_g 2 (pc1 := 2) (lv1 := [(2, .int (Int32.ofInt (x2 + 1))), (3, .int (Int32.ofInt (s 156 i4))), (0, .ref 146), (1, .int (Int32.ofInt x1))]) (st1 := []) (w1 := w) (by simp only [Int32.ofInt_add, Int32.ofInt_sub, Int32.ofInt_mul, Int32.ofInt_neg, p_and, p_or, p_xor, p_shl, p_shr, p_usr, p_w8, p_c16, p_lI, q_and, q_or, q_shl, q_shr, q_w32, Int64.ofInt_add, Int64.ofInt_sub, Int64.ofInt_mul, p_mx, p_mn, q_mx, q_mn]; rfl) ?_
          refine wp_lv (lv1 := [(0, .ref 146), (1, .int (Int32.ofInt x1)), (2, .int (Int32.ofInt (x2 + 1)))]) (lsub_p [2, 3, 0] rfl rfl rfl) ?_
          cases hx
          exact kn _ _ rfl rfl
        · have hx := ite_f h12 hx
          refine wp_g 1 (pc1 := 46) (lv1 := [(3, .int (Int32.ofInt (s 156 i4))), (0, .ref 146), (1, .int (Int32.ofInt x1)), (2, .int (Int32.ofInt x2))]) (st1 := [.int (Int32.ofInt 0)]) (w1 := w) rfl ?_
          refine wp_rt (i := .ireturn) (r := some (.int (Int32.ofInt 0))) (ln := 1) (a := 0) (b := 0) (z := 0) (by decide +kernel) rfl (ret_b (by decide +kernel) (Or.inl rfl)) ?_
          cases hx
          exact (kc _ rfl).2 _ _ rfl rfl
      · have hx := ite_f h11 hx
        refine wp_g 2 (pc1 := 42) (lv1 := [(3, .int (Int32.ofInt (s 156 i4))), (0, .ref 146), (1, .int (Int32.ofInt x1)), (2, .int (Int32.ofInt x2))]) (st1 := [.int (Int32.ofInt 2), .int (Int32.ofInt (s 156 i4))]) (w1 := w) rfl ?_
        refine wx_eq (oo := 5) (ln := 3) (a := 47) (b := 0) (zz := 0) (by decide +kernel) (fun h13 => ?_) (fun h13 => ?_)
        · have hx := ite_t h13 hx
          refine wp_g 2 (pc1 := 2) (lv1 := [(2, .int (Int32.ofInt (x2 + 1))), (3, .int (Int32.ofInt (s 156 i4))), (0, .ref 146), (1, .int (Int32.ofInt x1))]) (st1 := []) (w1 := w) (by simp only [Int32.ofInt_add, Int32.ofInt_sub, Int32.ofInt_mul, Int32.ofInt_neg, p_and, p_or, p_xor, p_shl, p_shr, p_usr, p_w8, p_c16, p_lI, q_and, q_or, q_shl, q_shr, q_w32, Int64.ofInt_add, Int64.ofInt_sub, Int64.ofInt_mul, p_mx, p_mn, q_mx, q_mn]; rfl) ?_
          refine wp_lv (lv1 := [(0, .ref 146), (1, .int (Int32.ofInt x1)), (2, .int (Int32.ofInt (x2 + 1)))]) (lsub_p [2, 3, 0] rfl rfl rfl) ?_
          cases hx
          exact kn _ _ rfl rfl
        · have hx := ite_f h13 hx
          refine wp_g 1 (pc1 := 46) (lv1 := [(3, .int (Int32.ofInt (s 156 i4))), (0, .ref 146), (1, .int (Int32.ofInt x1)), (2, .int (Int32.ofInt x2))]) (st1 := [.int (Int32.ofInt 0)]) (w1 := w) rfl ?_
          refine wp_rt (i := .ireturn) (r := some (.int (Int32.ofInt 0))) (ln := 1) (a := 0) (b := 0) (z := 0) (by decide +kernel) rfl (ret_b (by decide +kernel) (Or.inl rfl)) ?_
          cases hx
          exact (kc _ rfl).2 _ _ rfl rfl
/-- FoldDeedsModel.isAsMarked (I)Z -/
noncomputable def xm_isAsMarked (s : Hp) (p1 : Int) : Option Int :=
  (lp (fun (q : Int) => xm_isAsMarked_b2 s p1 q) 0).bind fun q1 => q1.elim (fun q5 => some 1) (fun r => some r)
set_option maxRecDepth 100000 in
theorem xm_isAsMarked_ok {d : Nat} {P : Option Value → pm_H → Prop} {w : pm_H} {sh : Shp} {w0 : pm_H} {s : Hp} (hS : StM sh) {p1 : Int} (h : Rw sh w0 s w) {o : Int} (hx : xm_isAsMarked s p1 = some o) (kr : P (some (.int (Int32.ofInt o))) w) : wp (d + 1) 241 0 (lv_args 0 [.ref 146, .int (Int32.ofInt p1)]) [] w P := by
  show wp _ 241 0 [(0, .ref 146), (1, .int (Int32.ofInt p1))] [] w _
  unfold xm_isAsMarked at hx
  refine wp_g 2 (pc1 := 2) (lv1 := [(2, .int (Int32.ofInt 0)), (0, .ref 146), (1, .int (Int32.ofInt p1))]) (st1 := []) (w1 := w) rfl ?_
  refine wp_lv (lv1 := [(0, .ref 146), (1, .int (Int32.ofInt p1)), (2, .int (Int32.ofInt 0))]) (lsub_p [1, 2, 0] rfl rfl rfl) ?_
  obtain ⟨q1, e2, hx⟩ := bd hx
  refine wp_lp (σ := Int) (ρ := (Int ⊕ Int)) (B := fun q => xm_isAsMarked_b2 s p1 q) (R := fun q w' => w = w') (C := fun r => (∀ q1 w1, r = .inl q1 → w = w1 → wp (d + 1) 241 53 [(0, .ref 146), (1, .int (Int32.ofInt p1)), (2, .int (Int32.ofInt q1))] [] w1 P) ∧ (∀ v1 w1, r = .inr v1 → w = w1 → P (some (.int (Int32.ofInt v1))) w1)) (lv := fun q => [(0, .ref 146), (1, .int (Int32.ofInt p1)), (2, .int (Int32.ofInt q))]) (hd := 2) (fun q w' o hR hb kn kc => by subst hR; exact xm_isAsMarked_b2_ok hS h hb kn kc) _ _ _ e2 rfl ?_
  refine ⟨?_, fun v6 w1 hs h1 => by subst hs; cases (se_r hx); subst h1; exact kr⟩
  intro q5 w3 hs h4
  subst hs
  replace hx := se_l hx
  subst h4
  show wp _ 241 53 [(0, .ref 146), (1, .int (Int32.ofInt p1)), (2, .int (Int32.ofInt q5))] [] w _
  refine wp_g 1 (pc1 := 54) (lv1 := [(0, .ref 146), (1, .int (Int32.ofInt p1)), (2, .int (Int32.ofInt q5))]) (st1 := [.int (Int32.ofInt 1)]) (w1 := w) rfl ?_
  refine wp_rt (i := .ireturn) (r := some (.int (Int32.ofInt 1))) (ln := 1) (a := 0) (b := 0) (z := 0) (by decide +kernel) rfl (ret_b (by decide +kernel) (Or.inr rfl)) ?_
  cases hx
  exact kr
noncomputable def xm_keepsStack_b2 (s : Hp) (x1 : Int) : Option ((Int × Hp) ⊕ (Int × Hp)) :=
  (ix 130 0).bind fun i1 => if w32 x1 < w32 (s 156 i1) then (ix 8 x1).bind fun i4 => (ix 8 (s 163 i4)).bind fun i6 => (some (uh s 164 i6 x1)).bind fun s8 => some (.inl (x1 + 1, s8)) else some (.inr (x1, s))
set_option maxRecDepth 100000 in
theorem xm_keepsStack_b2_ok {d : Nat} {P : Option Value → pm_H → Prop} {w : pm_H} {sh : Shp} {w0 : pm_H} {s : Hp} (hS : StM sh) {x1 : Int} (h : Rw sh w0 s w) {o : ((Int × Hp) ⊕ (Int × Hp))} (hx : xm_keepsStack_b2 s x1 = some o) (kn : ∀ (q : Int × Hp) w1, o = .inl q → Rw sh w0 q.2 w1 → wp (d + 2) 242 2 [(0, .ref 146), (1, .int (Int32.ofInt q.1))] [] w1 P) (kc : ∀ (r : (Int × Hp)), o = .inr r → (∀ w1, Rw sh w0 r.2 w1 → wp (d + 2) 242 30 [(0, .ref 146), (1, .int (Int32.ofInt r.1))] [] w1 P)) : wp (d + 2) 242 2 [(0, .ref 146), (1, .int (Int32.ofInt x1))] [] w P := by
  unfold xm_keepsStack_b2 at hx
  refine wp_g 2 (pc1 := 4) (lv1 := [(0, .ref 146), (1, .int (Int32.ofInt x1))]) (st1 := [.ref 146, .int (Int32.ofInt x1)]) (w1 := w) rfl ?_
  refine wx_gr (o := 10) (kf := 39) (ln := 3) (ci := 12) (b := 20) (zz := 0) (x := 146) (by decide +kernel) h (hS _ _ sm_146) rfl ?_
  show wp _ 242 7 [(0, .ref 146), (1, .int (Int32.ofInt x1))] [.ref 156, .int (Int32.ofInt x1)] w _
  refine wp_g 1 (pc1 := 8) (lv1 := [(0, .ref 146), (1, .int (Int32.ofInt x1))]) (st1 := [.int (Int32.ofInt 0), .ref 156, .int (Int32.ofInt x1)]) (w1 := w) rfl ?_
  obtain ⟨i1, e2, hx⟩ := bd hx
  refine wx_ra (x := 156) (n := 130) (ln := 1) (a := 0) (b := 0) (zz := 0) (by decide +kernel) h (hS _ _ sm_156) e2 ?_
  show wp _ 242 9 [(0, .ref 146), (1, .int (Int32.ofInt x1))] [.int (Int32.ofInt (s 156 i1)), .int (Int32.ofInt x1)] w _
  refine wx_ge (oo := 21) (ln := 3) (a := 30) (b := 0) (zz := 0) (by decide +kernel) (fun h3 => ?_) (fun h3 => ?_)
  · have hx := ite_f h3 hx
    cases hx
    exact kc _ rfl _ h
  · have hx := ite_t h3 hx
    refine wp_g 1 (pc1 := 13) (lv1 := [(0, .ref 146), (1, .int (Int32.ofInt x1))]) (st1 := [.ref 146]) (w1 := w) rfl ?_
    refine wx_gr (o := 18) (kf := 67) (ln := 3) (ci := 12) (b := 32) (zz := 0) (x := 146) (by decide +kernel) h (hS _ _ sm_146) rfl ?_
    show wp _ 242 16 [(0, .ref 146), (1, .int (Int32.ofInt x1))] [.ref 164] w _
    refine wp_g 1 (pc1 := 17) (lv1 := [(0, .ref 146), (1, .int (Int32.ofInt x1))]) (st1 := [.ref 146, .ref 164]) (w1 := w) rfl ?_
    refine wx_gr (o := 17) (kf := 64) (ln := 3) (ci := 12) (b := 31) (zz := 0) (x := 146) (by decide +kernel) h (hS _ _ sm_146) rfl ?_
    show wp _ 242 20 [(0, .ref 146), (1, .int (Int32.ofInt x1))] [.ref 163, .ref 164] w _
    refine wp_g 1 (pc1 := 21) (lv1 := [(0, .ref 146), (1, .int (Int32.ofInt x1))]) (st1 := [.int (Int32.ofInt x1), .ref 163, .ref 164]) (w1 := w) rfl ?_
    obtain ⟨i4, e5, hx⟩ := bd hx
    refine wx_ra (x := 163) (n := 8) (ln := 1) (a := 0) (b := 0) (zz := 0) (by decide +kernel) h (hS _ _ sm_163) e5 ?_
    show wp _ 242 22 [(0, .ref 146), (1, .int (Int32.ofInt x1))] [.int (Int32.ofInt (s 163 i4)), .ref 164] w _
    refine wp_g 1 (pc1 := 23) (lv1 := [(0, .ref 146), (1, .int (Int32.ofInt x1))]) (st1 := [.int (Int32.ofInt x1), .int (Int32.ofInt (s 163 i4)), .ref 164]) (w1 := w) rfl ?_
    obtain ⟨i6, e7, hx⟩ := bd hx
    obtain ⟨s8, e9, hx⟩ := bd hx
    refine wx_wa (x := 164) (n := 8) (ln := 1) (a := 0) (b := 0) (zz := 0) (by decide +kernel) h (hS _ _ sm_164) e7 e9 (fun w10 h11 => ?_)
    refine wp_g 2 (pc1 := 2) (lv1 := [(1, .int (Int32.ofInt (x1 + 1))), (0, .ref 146)]) (st1 := []) (w1 := w10) (by simp only [Int32.ofInt_add, Int32.ofInt_sub, Int32.ofInt_mul, Int32.ofInt_neg, p_and, p_or, p_xor, p_shl, p_shr, p_usr, p_w8, p_c16, p_lI, q_and, q_or, q_shl, q_shr, q_w32, Int64.ofInt_add, Int64.ofInt_sub, Int64.ofInt_mul, p_mx, p_mn, q_mx, q_mn]; rfl) ?_
    refine wp_lv (lv1 := [(0, .ref 146), (1, .int (Int32.ofInt (x1 + 1)))]) (lsub_p [1, 0] rfl rfl rfl) ?_
    cases hx
    exact kn _ _ rfl h11
noncomputable def xm_keepsStack_b64_j93 (s : Hp) (x2 : Int) : Option ((Int × Hp) ⊕ (Int × Hp)) :=
  (ix 8 x2).bind fun i1 => (ix 64 ((8 * (s 163 i1)) + x2)).bind fun i3 => (some (uh s 166 i3 ((s 166 i3) + 1))).bind fun s5 => some (.inl (x2 + 1, s5))
set_option maxRecDepth 100000 in
theorem xm_keepsStack_b64_j93_ok {d : Nat} {P : Option Value → pm_H → Prop} {w : pm_H} {sh : Shp} {w0 : pm_H} {s : Hp} (hS : StM sh) {x2 : Int} (h : Rw sh w0 s w) {o : ((Int × Hp) ⊕ (Int × Hp))} (hx : xm_keepsStack_b64_j93 s x2 = some o) (kn : ∀ (q : Int × Hp) w1, o = .inl q → Rw sh w0 q.2 w1 → wp (d + 2) 242 64 [(0, .ref 146), (2, .int (Int32.ofInt q.1))] [] w1 P) (kc : ∀ (r : (Int × Hp)), o = .inr r → (∀ w1, Rw sh w0 r.2 w1 → wp (d + 2) 242 119 [(0, .ref 146), (2, .int (Int32.ofInt r.1))] [] w1 P)) : wp (d + 2) 242 93 [(0, .ref 146), (2, .int (Int32.ofInt x2))] [] w P := by
  unfold xm_keepsStack_b64_j93 at hx
  refine wp_g 1 (pc1 := 94) (lv1 := [(0, .ref 146), (2, .int (Int32.ofInt x2))]) (st1 := [.ref 146]) (w1 := w) rfl ?_
  refine wx_gr (o := 20) (kf := 73) (ln := 3) (ci := 12) (b := 35) (zz := 0) (x := 146) (by decide +kernel) h (hS _ _ sm_146) rfl ?_
  show wp _ 242 97 [(0, .ref 146), (2, .int (Int32.ofInt x2))] [.ref 166] w _
  refine wp_g 2 (pc1 := 100) (lv1 := [(0, .ref 146), (2, .int (Int32.ofInt x2))]) (st1 := [.ref 146, .int (Int32.ofInt 8), .ref 166]) (w1 := w) rfl ?_
  refine wx_gr (o := 17) (kf := 64) (ln := 3) (ci := 12) (b := 31) (zz := 0) (x := 146) (by decide +kernel) h (hS _ _ sm_146) rfl ?_
  show wp _ 242 103 [(0, .ref 146), (2, .int (Int32.ofInt x2))] [.ref 163, .int (Int32.ofInt 8), .ref 166] w _
  refine wp_g 1 (pc1 := 104) (lv1 := [(0, .ref 146), (2, .int (Int32.ofInt x2))]) (st1 := [.int (Int32.ofInt x2), .ref 163, .int (Int32.ofInt 8), .ref 166]) (w1 := w) rfl ?_
  obtain ⟨i1, e2, hx⟩ := bd hx
  refine wx_ra (x := 163) (n := 8) (ln := 1) (a := 0) (b := 0) (zz := 0) (by decide +kernel) h (hS _ _ sm_163) e2 ?_
  show wp _ 242 105 [(0, .ref 146), (2, .int (Int32.ofInt x2))] [.int (Int32.ofInt (s 163 i1)), .int (Int32.ofInt 8), .ref 166] w _
  refine wp_g 4 (pc1 := 109) (lv1 := [(0, .ref 146), (2, .int (Int32.ofInt x2))]) (st1 := [.int (Int32.ofInt ((8 * (s 163 i1)) + x2)), .ref 166, .int (Int32.ofInt ((8 * (s 163 i1)) + x2)), .ref 166]) (w1 := w) (by simp only [Int32.ofInt_add, Int32.ofInt_sub, Int32.ofInt_mul, Int32.ofInt_neg, p_and, p_or, p_xor, p_shl, p_shr, p_usr, p_w8, p_c16, p_lI, q_and, q_or, q_shl, q_shr, q_w32, Int64.ofInt_add, Int64.ofInt_sub, Int64.ofInt_mul, p_mx, p_mn, q_mx, q_mn]; rfl) ?_
  obtain ⟨i3, e4, hx⟩ := bd hx
  refine wx_ra (x := 166) (n := 64) (ln := 1) (a := 0) (b := 0) (zz := 0) (by decide +kernel) h (hS _ _ sm_166) e4 ?_
  show wp _ 242 110 [(0, .ref 146), (2, .int (Int32.ofInt x2))] [.int (Int32.ofInt (s 166 i3)), .int (Int32.ofInt ((8 * (s 163 i1)) + x2)), .ref 166] w _
  refine wp_g 2 (pc1 := 112) (lv1 := [(0, .ref 146), (2, .int (Int32.ofInt x2))]) (st1 := [.int (Int32.ofInt ((s 166 i3) + 1)), .int (Int32.ofInt ((8 * (s 163 i1)) + x2)), .ref 166]) (w1 := w) (by simp only [Int32.ofInt_add, Int32.ofInt_sub, Int32.ofInt_mul, Int32.ofInt_neg, p_and, p_or, p_xor, p_shl, p_shr, p_usr, p_w8, p_c16, p_lI, q_and, q_or, q_shl, q_shr, q_w32, Int64.ofInt_add, Int64.ofInt_sub, Int64.ofInt_mul, p_mx, p_mn, q_mx, q_mn]; rfl) ?_
  obtain ⟨s5, e6, hx⟩ := bd hx
  refine wx_wa (x := 166) (n := 64) (ln := 1) (a := 0) (b := 0) (zz := 0) (by decide +kernel) h (hS _ _ sm_166) e4 e6 (fun w7 h8 => ?_)
  refine wp_g 2 (pc1 := 64) (lv1 := [(2, .int (Int32.ofInt (x2 + 1))), (0, .ref 146)]) (st1 := []) (w1 := w7) (by simp only [Int32.ofInt_add, Int32.ofInt_sub, Int32.ofInt_mul, Int32.ofInt_neg, p_and, p_or, p_xor, p_shl, p_shr, p_usr, p_w8, p_c16, p_lI, q_and, q_or, q_shl, q_shr, q_w32, Int64.ofInt_add, Int64.ofInt_sub, Int64.ofInt_mul, p_mx, p_mn, q_mx, q_mn]; rfl) ?_
  refine wp_lv (lv1 := [(0, .ref 146), (2, .int (Int32.ofInt (x2 + 1)))]) (lsub_p [1, 0] rfl rfl rfl) ?_
  cases hx
  exact kn _ _ rfl h8
noncomputable def xm_keepsStack_b64 (s : Hp) (x2 : Int) : Option ((Int × Hp) ⊕ (Int × Hp)) :=
  (ix 130 0).bind fun i1 => if w32 x2 < w32 (s 156 i1) then if w32 (s 146 33) = 0 then (ix 8 x2).bind fun i5 => (some (uh s 165 i5 (s 163 i5))).bind fun s7 => xm_keepsStack_b64_j93 s7 x2 else xm_keepsStack_b64_j93 s x2 else some (.inr (x2, s))
set_option maxRecDepth 100000 in
theorem xm_keepsStack_b64_ok {d : Nat} {P : Option Value → pm_H → Prop} {w : pm_H} {sh : Shp} {w0 : pm_H} {s : Hp} (hS : StM sh) {x2 : Int} (h : Rw sh w0 s w) {o : ((Int × Hp) ⊕ (Int × Hp))} (hx : xm_keepsStack_b64 s x2 = some o) (kn : ∀ (q : Int × Hp) w1, o = .inl q → Rw sh w0 q.2 w1 → wp (d + 2) 242 64 [(0, .ref 146), (2, .int (Int32.ofInt q.1))] [] w1 P) (kc : ∀ (r : (Int × Hp)), o = .inr r → (∀ w1, Rw sh w0 r.2 w1 → wp (d + 2) 242 119 [(0, .ref 146), (2, .int (Int32.ofInt r.1))] [] w1 P)) : wp (d + 2) 242 64 [(0, .ref 146), (2, .int (Int32.ofInt x2))] [] w P := by
  unfold xm_keepsStack_b64 at hx
  refine wp_g 2 (pc1 := 66) (lv1 := [(0, .ref 146), (2, .int (Int32.ofInt x2))]) (st1 := [.ref 146, .int (Int32.ofInt x2)]) (w1 := w) rfl ?_
  refine wx_gr (o := 10) (kf := 39) (ln := 3) (ci := 12) (b := 20) (zz := 0) (x := 146) (by decide +kernel) h (hS _ _ sm_146) rfl ?_
  show wp _ 242 69 [(0, .ref 146), (2, .int (Int32.ofInt x2))] [.ref 156, .int (Int32.ofInt x2)] w _
  refine wp_g 1 (pc1 := 70) (lv1 := [(0, .ref 146), (2, .int (Int32.ofInt x2))]) (st1 := [.int (Int32.ofInt 0), .ref 156, .int (Int32.ofInt x2)]) (w1 := w) rfl ?_
  obtain ⟨i1, e2, hx⟩ := bd hx
  refine wx_ra (x := 156) (n := 130) (ln := 1) (a := 0) (b := 0) (zz := 0) (by decide +kernel) h (hS _ _ sm_156) e2 ?_
  show wp _ 242 71 [(0, .ref 146), (2, .int (Int32.ofInt x2))] [.int (Int32.ofInt (s 156 i1)), .int (Int32.ofInt x2)] w _
  refine wx_ge (oo := 48) (ln := 3) (a := 119) (b := 0) (zz := 0) (by decide +kernel) (fun h3 => ?_) (fun h3 => ?_)
  · have hx := ite_f h3 hx
    cases hx
    exact kc _ rfl _ h
  · have hx := ite_t h3 hx
    refine wp_g 1 (pc1 := 75) (lv1 := [(0, .ref 146), (2, .int (Int32.ofInt x2))]) (st1 := [.ref 146]) (w1 := w) rfl ?_
    refine wx_gi (kf := 441) (ln := 3) (ci := 12) (b := 33) (zz := 0) (x := 146) (by decide +kernel) h (hS _ _ sm_146) rfl ?_
    show wp _ 242 78 [(0, .ref 146), (2, .int (Int32.ofInt x2))] [.int (Int32.ofInt (s 146 33))] w _
    refine wz_ne (oo := 15) (ln := 3) (a := 93) (b := 0) (zz := 0) (by decide +kernel) (fun h4 => ?_) (fun h4 => ?_)
    · have hx := ite_f h4 hx
      exact xm_keepsStack_b64_j93_ok hS h hx kn kc
    · have hx := ite_t h4 hx
      refine wp_g 1 (pc1 := 82) (lv1 := [(0, .ref 146), (2, .int (Int32.ofInt x2))]) (st1 := [.ref 146]) (w1 := w) rfl ?_
      refine wx_gr (o := 19) (kf := 70) (ln := 3) (ci := 12) (b := 34) (zz := 0) (x := 146) (by decide +kernel) h (hS _ _ sm_146) rfl ?_
      show wp _ 242 85 [(0, .ref 146), (2, .int (Int32.ofInt x2))] [.ref 165] w _
      refine wp_g 2 (pc1 := 87) (lv1 := [(0, .ref 146), (2, .int (Int32.ofInt x2))]) (st1 := [.ref 146, .int (Int32.ofInt x2), .ref 165]) (w1 := w) rfl ?_
      refine wx_gr (o := 17) (kf := 64) (ln := 3) (ci := 12) (b := 31) (zz := 0) (x := 146) (by decide +kernel) h (hS _ _ sm_146) rfl ?_
      show wp _ 242 90 [(0, .ref 146), (2, .int (Int32.ofInt x2))] [.ref 163, .int (Int32.ofInt x2), .ref 165] w _
      refine wp_g 1 (pc1 := 91) (lv1 := [(0, .ref 146), (2, .int (Int32.ofInt x2))]) (st1 := [.int (Int32.ofInt x2), .ref 163, .int (Int32.ofInt x2), .ref 165]) (w1 := w) rfl ?_
      obtain ⟨i5, e6, hx⟩ := bd hx
      refine wx_ra (x := 163) (n := 8) (ln := 1) (a := 0) (b := 0) (zz := 0) (by decide +kernel) h (hS _ _ sm_163) e6 ?_
      show wp _ 242 92 [(0, .ref 146), (2, .int (Int32.ofInt x2))] [.int (Int32.ofInt (s 163 i5)), .int (Int32.ofInt x2), .ref 165] w _
      obtain ⟨s7, e8, hx⟩ := bd hx
      refine wx_wa (x := 165) (n := 8) (ln := 1) (a := 0) (b := 0) (zz := 0) (by decide +kernel) h (hS _ _ sm_165) e6 e8 (fun w9 h10 => ?_)
      exact xm_keepsStack_b64_j93_ok hS h10 hx kn kc
/-- FoldDeedsModel.keepsStack ()V -/
noncomputable def xm_keepsStack (s : Hp) : Option Hp :=
  (lp (fun (q : Int × Hp) => xm_keepsStack_b2 q.2 q.1) (0, s)).bind fun q1 => (xm_isUncrossed q1.2).bind fun o5 => if w32 o5 = 0 then some q1.2 else (xm_hills q1.2).bind fun o10 => (ix 128 o10).bind fun i14 => (some (uh q1.2 167 i14 ((q1.2 167 i14) + 1))).bind fun s16 => (xm_isAsMarked s16 o10).bind fun o20 => if w32 o20 = 0 then some s16 else (lp (fun (q : Int × Hp) => xm_keepsStack_b64 q.2 q.1) (0, s16)).bind fun q25 => (some (uh q25.2 146 33 ((q25.2 146 33) + 1))).bind fun s29 => some s29
set_option maxRecDepth 100000 in
theorem xm_keepsStack_ok {d : Nat} {P : Option Value → pm_H → Prop} {w : pm_H} {sh : Shp} {w0 : pm_H} {s : Hp} (hS : StM sh) (h : Rw sh w0 s w) {o : Hp} (hx : xm_keepsStack s = some o) (kr : ∀ w1, Rw sh w0 o w1 → P none w1) : wp (d + 2) 242 0 (lv_args 0 [.ref 146]) [] w P := by
  show wp _ 242 0 [(0, .ref 146)] [] w _
  unfold xm_keepsStack at hx
  refine wp_g 2 (pc1 := 2) (lv1 := [(1, .int (Int32.ofInt 0)), (0, .ref 146)]) (st1 := []) (w1 := w) rfl ?_
  refine wp_lv (lv1 := [(0, .ref 146), (1, .int (Int32.ofInt 0))]) (lsub_p [1, 0] rfl rfl rfl) ?_
  obtain ⟨q1, e2, hx⟩ := bd hx
  refine wp_lp (σ := Int × Hp) (ρ := (Int × Hp)) (B := fun q => xm_keepsStack_b2 q.2 q.1) (R := fun q w' => Rw sh w0 q.2 w') (C := fun r => ∀ w1, Rw sh w0 r.2 w1 → wp (d + 2) 242 30 [(0, .ref 146), (1, .int (Int32.ofInt r.1))] [] w1 P) (lv := fun q => [(0, .ref 146), (1, .int (Int32.ofInt q.1))]) (hd := 2) (fun q w' o hR hb kn kc => xm_keepsStack_b2_ok hS hR hb kn kc) _ _ _ e2 h ?_
  intro w3 h4
  show wp _ 242 30 [(0, .ref 146), (1, .int (Int32.ofInt q1.1))] [] w3 _
  refine wp_g 1 (pc1 := 31) (lv1 := [(0, .ref 146), (1, .int (Int32.ofInt q1.1))]) (st1 := [.ref 146]) (w1 := w3) rfl ?_
  obtain ⟨o5, e6, hx⟩ := bd hx
  refine wp_cl [.ref 146] [] (i := .invokevirtual 432) (ln := 3) (a := 239) (b := 0) (z := 0) (by decide +kernel) rfl rfl (by decide) rfl (show (1 : Nat) = pm_na 239 by decide +kernel) (Nat.le_of_ble_eq_true rfl) (show (1 : Nat) ≤ pm_n 239 by decide +kernel) (rcv_x 12 h4 (hS _ _ sm_146) (by decide +kernel)) (xm_isUncrossed_ok (d := d) hS h4 e6 ?_)
  show wp _ 242 34 [(0, .ref 146), (1, .int (Int32.ofInt q1.1))] [.int (Int32.ofInt o5)] w3 _
  refine wz_ne (oo := 4) (ln := 3) (a := 38) (b := 0) (zz := 0) (by decide +kernel) (fun h9 => ?_) (fun h9 => ?_)
  · have hx := ite_f h9 hx
    refine wp_g 1 (pc1 := 39) (lv1 := [(0, .ref 146), (1, .int (Int32.ofInt q1.1))]) (st1 := [.ref 146]) (w1 := w3) rfl ?_
    obtain ⟨o10, e11, hx⟩ := bd hx
    refine wp_cl [.ref 146] [] (i := .invokevirtual 435) (ln := 3) (a := 240) (b := 0) (z := 0) (by decide +kernel) rfl rfl (by decide) rfl (show (1 : Nat) = pm_na 240 by decide +kernel) (Nat.le_of_ble_eq_true rfl) (show (1 : Nat) ≤ pm_n 240 by decide +kernel) (rcv_x 12 h4 (hS _ _ sm_146) (by decide +kernel)) (xm_hills_ok (d := d + 1) hS h4 e11 ?_)
    show wp _ 242 42 [(0, .ref 146), (1, .int (Int32.ofInt q1.1))] [.int (Int32.ofInt o10)] w3 _
    refine wp_g 2 (pc1 := 44) (lv1 := [(1, .int (Int32.ofInt o10)), (0, .ref 146)]) (st1 := [.ref 146]) (w1 := w3) rfl ?_
    refine wx_gr (o := 21) (kf := 76) (ln := 3) (ci := 12) (b := 36) (zz := 0) (x := 146) (by decide +kernel) h4 (hS _ _ sm_146) rfl ?_
    show wp _ 242 47 [(1, .int (Int32.ofInt o10)), (0, .ref 146)] [.ref 167] w3 _
    refine wp_g 2 (pc1 := 49) (lv1 := [(1, .int (Int32.ofInt o10)), (0, .ref 146)]) (st1 := [.int (Int32.ofInt o10), .ref 167, .int (Int32.ofInt o10), .ref 167]) (w1 := w3) rfl ?_
    obtain ⟨i14, e15, hx⟩ := bd hx
    refine wx_ra (x := 167) (n := 128) (ln := 1) (a := 0) (b := 0) (zz := 0) (by decide +kernel) h4 (hS _ _ sm_167) e15 ?_
    show wp _ 242 50 [(1, .int (Int32.ofInt o10)), (0, .ref 146)] [.int (Int32.ofInt (q1.2 167 i14)), .int (Int32.ofInt o10), .ref 167] w3 _
    refine wp_g 2 (pc1 := 52) (lv1 := [(1, .int (Int32.ofInt o10)), (0, .ref 146)]) (st1 := [.int (Int32.ofInt ((q1.2 167 i14) + 1)), .int (Int32.ofInt o10), .ref 167]) (w1 := w3) (by simp only [Int32.ofInt_add, Int32.ofInt_sub, Int32.ofInt_mul, Int32.ofInt_neg, p_and, p_or, p_xor, p_shl, p_shr, p_usr, p_w8, p_c16, p_lI, q_and, q_or, q_shl, q_shr, q_w32, Int64.ofInt_add, Int64.ofInt_sub, Int64.ofInt_mul, p_mx, p_mn, q_mx, q_mn]; rfl) ?_
    obtain ⟨s16, e17, hx⟩ := bd hx
    refine wx_wa (x := 167) (n := 128) (ln := 1) (a := 0) (b := 0) (zz := 0) (by decide +kernel) h4 (hS _ _ sm_167) e15 e17 (fun w18 h19 => ?_)
    refine wp_g 2 (pc1 := 55) (lv1 := [(1, .int (Int32.ofInt o10)), (0, .ref 146)]) (st1 := [.int (Int32.ofInt o10), .ref 146]) (w1 := w18) rfl ?_
    obtain ⟨o20, e21, hx⟩ := bd hx
    refine wp_cl [.ref 146, .int (Int32.ofInt o10)] [] (i := .invokevirtual 438) (ln := 3) (a := 241) (b := 0) (z := 0) (by decide +kernel) rfl rfl (by decide) rfl (show (2 : Nat) = pm_na 241 by decide +kernel) (Nat.le_of_ble_eq_true rfl) (show (2 : Nat) ≤ pm_n 241 by decide +kernel) (rcv_x 12 h19 (hS _ _ sm_146) (by decide +kernel)) (xm_isAsMarked_ok (d := d) hS h19 e21 ?_)
    show wp _ 242 58 [(1, .int (Int32.ofInt o10)), (0, .ref 146)] [.int (Int32.ofInt o20)] w18 _
    refine wz_ne (oo := 4) (ln := 3) (a := 62) (b := 0) (zz := 0) (by decide +kernel) (fun h24 => ?_) (fun h24 => ?_)
    · have hx := ite_f h24 hx
      refine wp_g 2 (pc1 := 64) (lv1 := [(2, .int (Int32.ofInt 0)), (1, .int (Int32.ofInt o10)), (0, .ref 146)]) (st1 := []) (w1 := w18) rfl ?_
      refine wp_lv (lv1 := [(0, .ref 146), (2, .int (Int32.ofInt 0))]) (lsub_p [2, 0] rfl rfl rfl) ?_
      obtain ⟨q25, e26, hx⟩ := bd hx
      refine wp_lp (σ := Int × Hp) (ρ := (Int × Hp)) (B := fun q => xm_keepsStack_b64 q.2 q.1) (R := fun q w' => Rw sh w0 q.2 w') (C := fun r => ∀ w1, Rw sh w0 r.2 w1 → wp (d + 2) 242 119 [(0, .ref 146), (2, .int (Int32.ofInt r.1))] [] w1 P) (lv := fun q => [(0, .ref 146), (2, .int (Int32.ofInt q.1))]) (hd := 64) (fun q w' o hR hb kn kc => xm_keepsStack_b64_ok hS hR hb kn kc) _ _ _ e26 h19 ?_
      intro w27 h28
      show wp _ 242 119 [(0, .ref 146), (2, .int (Int32.ofInt q25.1))] [] w27 _
      refine wp_g 2 (pc1 := 121) (lv1 := [(0, .ref 146), (2, .int (Int32.ofInt q25.1))]) (st1 := [.ref 146, .ref 146]) (w1 := w27) rfl ?_
      refine wx_gi (kf := 441) (ln := 3) (ci := 12) (b := 33) (zz := 0) (x := 146) (by decide +kernel) h28 (hS _ _ sm_146) rfl ?_
      show wp _ 242 124 [(0, .ref 146), (2, .int (Int32.ofInt q25.1))] [.int (Int32.ofInt (q25.2 146 33)), .ref 146] w27 _
      refine wp_g 2 (pc1 := 126) (lv1 := [(0, .ref 146), (2, .int (Int32.ofInt q25.1))]) (st1 := [.int (Int32.ofInt ((q25.2 146 33) + 1)), .ref 146]) (w1 := w27) (by simp only [Int32.ofInt_add, Int32.ofInt_sub, Int32.ofInt_mul, Int32.ofInt_neg, p_and, p_or, p_xor, p_shl, p_shr, p_usr, p_w8, p_c16, p_lI, q_and, q_or, q_shl, q_shr, q_w32, Int64.ofInt_add, Int64.ofInt_sub, Int64.ofInt_mul, p_mx, p_mn, q_mx, q_mn]; rfl) ?_
      obtain ⟨s29, e30, hx⟩ := bd hx
      refine wx_pi (kf := 441) (ln := 3) (ci := 12) (b := 33) (zz := 0) (x := 146) (by decide +kernel) h28 (hS _ _ sm_146) rfl (by decide +kernel) e30 (fun w31 h32 => ?_)
      refine wp_rt (i := .return_) (r := none) (ln := 1) (a := 0) (b := 0) (z := 0) (by decide +kernel) rfl (ret_v (by decide +kernel)) ?_
      cases hx
      exact kr _ h32
    · have hx := ite_t h24 hx
      refine wp_rt (i := .return_) (r := none) (ln := 1) (a := 0) (b := 0) (z := 0) (by decide +kernel) rfl (ret_v (by decide +kernel)) ?_
      cases hx
      exact kr _ h19
  · have hx := ite_t h9 hx
    refine wp_rt (i := .return_) (r := none) (ln := 1) (a := 0) (b := 0) (z := 0) (by decide +kernel) rfl (ret_v (by decide +kernel)) ?_
    cases hx
    exact kr _ h4
noncomputable def xm_isUsed_b2 (s : Hp) (x1 : Int) (x2 : Int) (x3 : Int) : Option (Int ⊕ (Int ⊕ Int)) :=
  if w32 x3 < w32 x1 then (ix 8 x3).bind fun i2 => if w32 (s 163 i2) = w32 x2 then some (.inr (.inr 1)) else some (.inl (x3 + 1)) else some (.inr (.inl x3))
set_option maxRecDepth 100000 in
theorem xm_isUsed_b2_ok {d : Nat} {P : Option Value → pm_H → Prop} {w : pm_H} {sh : Shp} {w0 : pm_H} {s : Hp} (hS : StM sh) {x1 : Int} {x2 : Int} {x3 : Int} (h : Rw sh w0 s w) {o : (Int ⊕ (Int ⊕ Int))} (hx : xm_isUsed_b2 s x1 x2 x3 = some o) (kn : ∀ (q : Int) w1, o = .inl q → w = w1 → wp d 243 2 [(0, .ref 146), (1, .int (Int32.ofInt x1)), (2, .int (Int32.ofInt x2)), (3, .int (Int32.ofInt q))] [] w1 P) (kc : ∀ (r : (Int ⊕ Int)), o = .inr r → ((∀ q1 w1, r = .inl q1 → w = w1 → wp d 243 25 [(0, .ref 146), (1, .int (Int32.ofInt x1)), (2, .int (Int32.ofInt x2)), (3, .int (Int32.ofInt q1))] [] w1 P) ∧ (∀ v1 w1, r = .inr v1 → w = w1 → P (some (.int (Int32.ofInt v1))) w1))) : wp d 243 2 [(0, .ref 146), (1, .int (Int32.ofInt x1)), (2, .int (Int32.ofInt x2)), (3, .int (Int32.ofInt x3))] [] w P := by
  unfold xm_isUsed_b2 at hx
  refine wp_g 2 (pc1 := 4) (lv1 := [(0, .ref 146), (1, .int (Int32.ofInt x1)), (2, .int (Int32.ofInt x2)), (3, .int (Int32.ofInt x3))]) (st1 := [.int (Int32.ofInt x1), .int (Int32.ofInt x3)]) (w1 := w) rfl ?_
  refine wx_ge (oo := 21) (ln := 3) (a := 25) (b := 0) (zz := 0) (by decide +kernel) (fun h1 => ?_) (fun h1 => ?_)
  · have hx := ite_f h1 hx
    cases hx
    exact (kc _ rfl).1 _ _ rfl rfl
  · have hx := ite_t h1 hx
    refine wp_g 1 (pc1 := 8) (lv1 := [(0, .ref 146), (1, .int (Int32.ofInt x1)), (2, .int (Int32.ofInt x2)), (3, .int (Int32.ofInt x3))]) (st1 := [.ref 146]) (w1 := w) rfl ?_
    refine wx_gr (o := 17) (kf := 64) (ln := 3) (ci := 12) (b := 31) (zz := 0) (x := 146) (by decide +kernel) h (hS _ _ sm_146) rfl ?_
    show wp _ 243 11 [(0, .ref 146), (1, .int (Int32.ofInt x1)), (2, .int (Int32.ofInt x2)), (3, .int (Int32.ofInt x3))] [.ref 163] w _
    refine wp_g 1 (pc1 := 12) (lv1 := [(0, .ref 146), (1, .int (Int32.ofInt x1)), (2, .int (Int32.ofInt x2)), (3, .int (Int32.ofInt x3))]) (st1 := [.int (Int32.ofInt x3), .ref 163]) (w1 := w) rfl ?_
    obtain ⟨i2, e3, hx⟩ := bd hx
    refine wx_ra (x := 163) (n := 8) (ln := 1) (a := 0) (b := 0) (zz := 0) (by decide +kernel) h (hS _ _ sm_163) e3 ?_
    show wp _ 243 13 [(0, .ref 146), (1, .int (Int32.ofInt x1)), (2, .int (Int32.ofInt x2)), (3, .int (Int32.ofInt x3))] [.int (Int32.ofInt (s 163 i2))] w _
    refine wp_g 1 (pc1 := 14) (lv1 := [(0, .ref 146), (1, .int (Int32.ofInt x1)), (2, .int (Int32.ofInt x2)), (3, .int (Int32.ofInt x3))]) (st1 := [.int (Int32.ofInt x2), .int (Int32.ofInt (s 163 i2))]) (w1 := w) rfl ?_
    refine wx_ne (oo := 5) (ln := 3) (a := 19) (b := 0) (zz := 0) (by decide +kernel) (fun h4 => ?_) (fun h4 => ?_)
    · have hx := ite_f h4 hx
      refine wp_g 2 (pc1 := 2) (lv1 := [(3, .int (Int32.ofInt (x3 + 1))), (0, .ref 146), (1, .int (Int32.ofInt x1)), (2, .int (Int32.ofInt x2))]) (st1 := []) (w1 := w) (by simp only [Int32.ofInt_add, Int32.ofInt_sub, Int32.ofInt_mul, Int32.ofInt_neg, p_and, p_or, p_xor, p_shl, p_shr, p_usr, p_w8, p_c16, p_lI, q_and, q_or, q_shl, q_shr, q_w32, Int64.ofInt_add, Int64.ofInt_sub, Int64.ofInt_mul, p_mx, p_mn, q_mx, q_mn]; rfl) ?_
      refine wp_lv (lv1 := [(0, .ref 146), (1, .int (Int32.ofInt x1)), (2, .int (Int32.ofInt x2)), (3, .int (Int32.ofInt (x3 + 1)))]) (lsub_p [1, 2, 3, 0] rfl rfl rfl) ?_
      cases hx
      exact kn _ _ rfl rfl
    · have hx := ite_t h4 hx
      refine wp_g 1 (pc1 := 18) (lv1 := [(0, .ref 146), (1, .int (Int32.ofInt x1)), (2, .int (Int32.ofInt x2)), (3, .int (Int32.ofInt x3))]) (st1 := [.int (Int32.ofInt 1)]) (w1 := w) rfl ?_
      refine wp_rt (i := .ireturn) (r := some (.int (Int32.ofInt 1))) (ln := 1) (a := 0) (b := 0) (z := 0) (by decide +kernel) rfl (ret_b (by decide +kernel) (Or.inr rfl)) ?_
      cases hx
      exact (kc _ rfl).2 _ _ rfl rfl
/-- FoldDeedsModel.isUsed (II)Z -/
noncomputable def xm_isUsed (s : Hp) (p1 : Int) (p2 : Int) : Option Int :=
  (lp (fun (q : Int) => xm_isUsed_b2 s p1 p2 q) 0).bind fun q1 => q1.elim (fun q5 => some 0) (fun r => some r)
set_option maxRecDepth 100000 in
theorem xm_isUsed_ok {d : Nat} {P : Option Value → pm_H → Prop} {w : pm_H} {sh : Shp} {w0 : pm_H} {s : Hp} (hS : StM sh) {p1 : Int} {p2 : Int} (h : Rw sh w0 s w) {o : Int} (hx : xm_isUsed s p1 p2 = some o) (kr : P (some (.int (Int32.ofInt o))) w) : wp d 243 0 (lv_args 0 [.ref 146, .int (Int32.ofInt p1), .int (Int32.ofInt p2)]) [] w P := by
  show wp _ 243 0 [(0, .ref 146), (1, .int (Int32.ofInt p1)), (2, .int (Int32.ofInt p2))] [] w _
  unfold xm_isUsed at hx
  refine wp_g 2 (pc1 := 2) (lv1 := [(3, .int (Int32.ofInt 0)), (0, .ref 146), (1, .int (Int32.ofInt p1)), (2, .int (Int32.ofInt p2))]) (st1 := []) (w1 := w) rfl ?_
  refine wp_lv (lv1 := [(0, .ref 146), (1, .int (Int32.ofInt p1)), (2, .int (Int32.ofInt p2)), (3, .int (Int32.ofInt 0))]) (lsub_p [1, 2, 3, 0] rfl rfl rfl) ?_
  obtain ⟨q1, e2, hx⟩ := bd hx
  refine wp_lp (σ := Int) (ρ := (Int ⊕ Int)) (B := fun q => xm_isUsed_b2 s p1 p2 q) (R := fun q w' => w = w') (C := fun r => (∀ q1 w1, r = .inl q1 → w = w1 → wp d 243 25 [(0, .ref 146), (1, .int (Int32.ofInt p1)), (2, .int (Int32.ofInt p2)), (3, .int (Int32.ofInt q1))] [] w1 P) ∧ (∀ v1 w1, r = .inr v1 → w = w1 → P (some (.int (Int32.ofInt v1))) w1)) (lv := fun q => [(0, .ref 146), (1, .int (Int32.ofInt p1)), (2, .int (Int32.ofInt p2)), (3, .int (Int32.ofInt q))]) (hd := 2) (fun q w' o hR hb kn kc => by subst hR; exact xm_isUsed_b2_ok hS h hb kn kc) _ _ _ e2 rfl ?_
  refine ⟨?_, fun v6 w1 hs h1 => by subst hs; cases (se_r hx); subst h1; exact kr⟩
  intro q5 w3 hs h4
  subst hs
  replace hx := se_l hx
  subst h4
  show wp _ 243 25 [(0, .ref 146), (1, .int (Int32.ofInt p1)), (2, .int (Int32.ofInt p2)), (3, .int (Int32.ofInt q5))] [] w _
  refine wp_g 1 (pc1 := 26) (lv1 := [(0, .ref 146), (1, .int (Int32.ofInt p1)), (2, .int (Int32.ofInt p2)), (3, .int (Int32.ofInt q5))]) (st1 := [.int (Int32.ofInt 0)]) (w1 := w) rfl ?_
  refine wp_rt (i := .ireturn) (r := some (.int (Int32.ofInt 0))) (ln := 1) (a := 0) (b := 0) (z := 0) (by decide +kernel) rfl (ret_b (by decide +kernel) (Or.inl rfl)) ?_
  cases hx
  exact kr
noncomputable def xm_findsStacks_b7 (s : Hp) (x1 : Int) : Option ((Int × Hp) ⊕ (Int × Hp)) :=
  if w32 x1 < w32 64 then (ix 64 x1).bind fun i2 => (some (uh s 166 i2 0)).bind fun s4 => some (.inl (x1 + 1, s4)) else some (.inr (x1, s))
set_option maxRecDepth 100000 in
theorem xm_findsStacks_b7_ok {d : Nat} {P : Option Value → pm_H → Prop} {w : pm_H} {sh : Shp} {w0 : pm_H} {s : Hp} (hS : StM sh) {x1 : Int} (h : Rw sh w0 s w) {o : ((Int × Hp) ⊕ (Int × Hp))} (hx : xm_findsStacks_b7 s x1 = some o) (kn : ∀ (q : Int × Hp) w1, o = .inl q → Rw sh w0 q.2 w1 → wp (d + 3) 244 7 [(0, .ref 146), (1, .int (Int32.ofInt q.1))] [] w1 P) (kc : ∀ (r : (Int × Hp)), o = .inr r → (∀ w1, Rw sh w0 r.2 w1 → wp (d + 3) 244 26 [(0, .ref 146), (1, .int (Int32.ofInt r.1))] [] w1 P)) : wp (d + 3) 244 7 [(0, .ref 146), (1, .int (Int32.ofInt x1))] [] w P := by
  unfold xm_findsStacks_b7 at hx
  refine wp_g 2 (pc1 := 10) (lv1 := [(0, .ref 146), (1, .int (Int32.ofInt x1))]) (st1 := [.int (Int32.ofInt 64), .int (Int32.ofInt x1)]) (w1 := w) rfl ?_
  refine wx_ge (oo := 16) (ln := 3) (a := 26) (b := 0) (zz := 0) (by decide +kernel) (fun h1 => ?_) (fun h1 => ?_)
  · have hx := ite_f h1 hx
    cases hx
    exact kc _ rfl _ h
  · have hx := ite_t h1 hx
    refine wp_g 1 (pc1 := 14) (lv1 := [(0, .ref 146), (1, .int (Int32.ofInt x1))]) (st1 := [.ref 146]) (w1 := w) rfl ?_
    refine wx_gr (o := 20) (kf := 73) (ln := 3) (ci := 12) (b := 35) (zz := 0) (x := 146) (by decide +kernel) h (hS _ _ sm_146) rfl ?_
    show wp _ 244 17 [(0, .ref 146), (1, .int (Int32.ofInt x1))] [.ref 166] w _
    refine wp_g 2 (pc1 := 19) (lv1 := [(0, .ref 146), (1, .int (Int32.ofInt x1))]) (st1 := [.int (Int32.ofInt 0), .int (Int32.ofInt x1), .ref 166]) (w1 := w) rfl ?_
    obtain ⟨i2, e3, hx⟩ := bd hx
    obtain ⟨s4, e5, hx⟩ := bd hx
    refine wx_wa (x := 166) (n := 64) (ln := 1) (a := 0) (b := 0) (zz := 0) (by decide +kernel) h (hS _ _ sm_166) e3 e5 (fun w6 h7 => ?_)
    refine wp_g 2 (pc1 := 7) (lv1 := [(1, .int (Int32.ofInt (x1 + 1))), (0, .ref 146)]) (st1 := []) (w1 := w6) (by simp only [Int32.ofInt_add, Int32.ofInt_sub, Int32.ofInt_mul, Int32.ofInt_neg, p_and, p_or, p_xor, p_shl, p_shr, p_usr, p_w8, p_c16, p_lI, q_and, q_or, q_shl, q_shr, q_w32, Int64.ofInt_add, Int64.ofInt_sub, Int64.ofInt_mul, p_mx, p_mn, q_mx, q_mn]; rfl) ?_
    refine wp_lv (lv1 := [(0, .ref 146), (1, .int (Int32.ofInt (x1 + 1)))]) (lsub_p [1, 0] rfl rfl rfl) ?_
    cases hx
    exact kn _ _ rfl h7
noncomputable def xm_findsStacks_b28 (s : Hp) (x1 : Int) : Option ((Int × Hp) ⊕ (Int × Hp)) :=
  if w32 x1 < w32 128 then (ix 128 x1).bind fun i2 => (some (uh s 167 i2 0)).bind fun s4 => some (.inl (x1 + 1, s4)) else some (.inr (x1, s))
set_option maxRecDepth 100000 in
theorem xm_findsStacks_b28_ok {d : Nat} {P : Option Value → pm_H → Prop} {w : pm_H} {sh : Shp} {w0 : pm_H} {s : Hp} (hS : StM sh) {x1 : Int} (h : Rw sh w0 s w) {o : ((Int × Hp) ⊕ (Int × Hp))} (hx : xm_findsStacks_b28 s x1 = some o) (kn : ∀ (q : Int × Hp) w1, o = .inl q → Rw sh w0 q.2 w1 → wp (d + 3) 244 28 [(0, .ref 146), (1, .int (Int32.ofInt q.1))] [] w1 P) (kc : ∀ (r : (Int × Hp)), o = .inr r → (∀ w1, Rw sh w0 r.2 w1 → wp (d + 3) 244 48 [(0, .ref 146), (1, .int (Int32.ofInt r.1))] [] w1 P)) : wp (d + 3) 244 28 [(0, .ref 146), (1, .int (Int32.ofInt x1))] [] w P := by
  unfold xm_findsStacks_b28 at hx
  refine wp_g 2 (pc1 := 32) (lv1 := [(0, .ref 146), (1, .int (Int32.ofInt x1))]) (st1 := [.int (Int32.ofInt 128), .int (Int32.ofInt x1)]) (w1 := w) rfl ?_
  refine wx_ge (oo := 16) (ln := 3) (a := 48) (b := 0) (zz := 0) (by decide +kernel) (fun h1 => ?_) (fun h1 => ?_)
  · have hx := ite_f h1 hx
    cases hx
    exact kc _ rfl _ h
  · have hx := ite_t h1 hx
    refine wp_g 1 (pc1 := 36) (lv1 := [(0, .ref 146), (1, .int (Int32.ofInt x1))]) (st1 := [.ref 146]) (w1 := w) rfl ?_
    refine wx_gr (o := 21) (kf := 76) (ln := 3) (ci := 12) (b := 36) (zz := 0) (x := 146) (by decide +kernel) h (hS _ _ sm_146) rfl ?_
    show wp _ 244 39 [(0, .ref 146), (1, .int (Int32.ofInt x1))] [.ref 167] w _
    refine wp_g 2 (pc1 := 41) (lv1 := [(0, .ref 146), (1, .int (Int32.ofInt x1))]) (st1 := [.int (Int32.ofInt 0), .int (Int32.ofInt x1), .ref 167]) (w1 := w) rfl ?_
    obtain ⟨i2, e3, hx⟩ := bd hx
    obtain ⟨s4, e5, hx⟩ := bd hx
    refine wx_wa (x := 167) (n := 128) (ln := 1) (a := 0) (b := 0) (zz := 0) (by decide +kernel) h (hS _ _ sm_167) e3 e5 (fun w6 h7 => ?_)
    refine wp_g 2 (pc1 := 28) (lv1 := [(1, .int (Int32.ofInt (x1 + 1))), (0, .ref 146)]) (st1 := []) (w1 := w6) (by simp only [Int32.ofInt_add, Int32.ofInt_sub, Int32.ofInt_mul, Int32.ofInt_neg, p_and, p_or, p_xor, p_shl, p_shr, p_usr, p_w8, p_c16, p_lI, q_and, q_or, q_shl, q_shr, q_w32, Int64.ofInt_add, Int64.ofInt_sub, Int64.ofInt_mul, p_mx, p_mn, q_mx, q_mn]; rfl) ?_
    refine wp_lv (lv1 := [(0, .ref 146), (1, .int (Int32.ofInt (x1 + 1)))]) (lsub_p [1, 0] rfl rfl rfl) ?_
    cases hx
    exact kn _ _ rfl h7
noncomputable def xm_findsStacks_b57 (s : Hp) (x1 : Int) : Option ((Int × Hp) ⊕ (Int × Hp)) :=
  if w32 x1 < 0 then some (.inr (x1, s)) else (ix 8 x1).bind fun i2 => (some (uh s 163 i2 ((s 163 i2) + 1))).bind fun s4 => (ix 130 0).bind fun i8 => if w32 (s4 163 i2) < w32 (s4 156 i8) then (xm_isUsed s4 x1 (s4 163 i2)).bind fun o11 => if w32 o11 = 0 then if w32 (x1 + 1) = w32 (s4 156 i8) then (xm_keepsStack s4).bind fun o23 => some (.inl (x1, o23)) else (ix 8 (x1 + 1)).bind fun i17 => (some (uh s4 163 i17 (-1))).bind fun s19 => some (.inl (x1 + 1, s19)) else some (.inl (x1, s4)) else some (.inl (x1 + (-1), s4))
set_option maxRecDepth 100000 in
theorem xm_findsStacks_b57_ok {d : Nat} {P : Option Value → pm_H → Prop} {w : pm_H} {sh : Shp} {w0 : pm_H} {s : Hp} (hS : StM sh) {x1 : Int} (h : Rw sh w0 s w) {o : ((Int × Hp) ⊕ (Int × Hp))} (hx : xm_findsStacks_b57 s x1 = some o) (kn : ∀ (q : Int × Hp) w1, o = .inl q → Rw sh w0 q.2 w1 → wp (d + 3) 244 57 [(0, .ref 146), (1, .int (Int32.ofInt q.1))] [] w1 P) (kc : ∀ (r : (Int × Hp)), o = .inr r → (∀ w1, Rw sh w0 r.2 w1 → wp (d + 3) 244 138 [(0, .ref 146), (1, .int (Int32.ofInt r.1))] [] w1 P)) : wp (d + 3) 244 57 [(0, .ref 146), (1, .int (Int32.ofInt x1))] [] w P := by
  unfold xm_findsStacks_b57 at hx
  refine wp_g 1 (pc1 := 58) (lv1 := [(0, .ref 146), (1, .int (Int32.ofInt x1))]) (st1 := [.int (Int32.ofInt x1)]) (w1 := w) rfl ?_
  refine wz_lt (oo := 80) (ln := 3) (a := 138) (b := 0) (zz := 0) (by decide +kernel) (fun h1 => ?_) (fun h1 => ?_)
  · have hx := ite_t h1 hx
    cases hx
    exact kc _ rfl _ h
  · have hx := ite_f h1 hx
    refine wp_g 1 (pc1 := 62) (lv1 := [(0, .ref 146), (1, .int (Int32.ofInt x1))]) (st1 := [.ref 146]) (w1 := w) rfl ?_
    refine wx_gr (o := 17) (kf := 64) (ln := 3) (ci := 12) (b := 31) (zz := 0) (x := 146) (by decide +kernel) h (hS _ _ sm_146) rfl ?_
    show wp _ 244 65 [(0, .ref 146), (1, .int (Int32.ofInt x1))] [.ref 163] w _
    refine wp_g 2 (pc1 := 67) (lv1 := [(0, .ref 146), (1, .int (Int32.ofInt x1))]) (st1 := [.int (Int32.ofInt x1), .ref 163, .int (Int32.ofInt x1), .ref 163]) (w1 := w) rfl ?_
    obtain ⟨i2, e3, hx⟩ := bd hx
    refine wx_ra (x := 163) (n := 8) (ln := 1) (a := 0) (b := 0) (zz := 0) (by decide +kernel) h (hS _ _ sm_163) e3 ?_
    show wp _ 244 68 [(0, .ref 146), (1, .int (Int32.ofInt x1))] [.int (Int32.ofInt (s 163 i2)), .int (Int32.ofInt x1), .ref 163] w _
    refine wp_g 2 (pc1 := 70) (lv1 := [(0, .ref 146), (1, .int (Int32.ofInt x1))]) (st1 := [.int (Int32.ofInt ((s 163 i2) + 1)), .int (Int32.ofInt x1), .ref 163]) (w1 := w) (by simp only [Int32.ofInt_add, Int32.ofInt_sub, Int32.ofInt_mul, Int32.ofInt_neg, p_and, p_or, p_xor, p_shl, p_shr, p_usr, p_w8, p_c16, p_lI, q_and, q_or, q_shl, q_shr, q_w32, Int64.ofInt_add, Int64.ofInt_sub, Int64.ofInt_mul, p_mx, p_mn, q_mx, q_mn]; rfl) ?_
    obtain ⟨s4, e5, hx⟩ := bd hx
    refine wx_wa (x := 163) (n := 8) (ln := 1) (a := 0) (b := 0) (zz := 0) (by decide +kernel) h (hS _ _ sm_163) e3 e5 (fun w6 h7 => ?_)
    refine wp_g 1 (pc1 := 72) (lv1 := [(0, .ref 146), (1, .int (Int32.ofInt x1))]) (st1 := [.ref 146]) (w1 := w6) rfl ?_
    refine wx_gr (o := 17) (kf := 64) (ln := 3) (ci := 12) (b := 31) (zz := 0) (x := 146) (by decide +kernel) h7 (hS _ _ sm_146) rfl ?_
    show wp _ 244 75 [(0, .ref 146), (1, .int (Int32.ofInt x1))] [.ref 163] w6 _
    refine wp_g 1 (pc1 := 76) (lv1 := [(0, .ref 146), (1, .int (Int32.ofInt x1))]) (st1 := [.int (Int32.ofInt x1), .ref 163]) (w1 := w6) rfl ?_
    refine wx_ra (x := 163) (n := 8) (ln := 1) (a := 0) (b := 0) (zz := 0) (by decide +kernel) h7 (hS _ _ sm_163) e3 ?_
    show wp _ 244 77 [(0, .ref 146), (1, .int (Int32.ofInt x1))] [.int (Int32.ofInt (s4 163 i2))] w6 _
    refine wp_g 1 (pc1 := 78) (lv1 := [(0, .ref 146), (1, .int (Int32.ofInt x1))]) (st1 := [.ref 146, .int (Int32.ofInt (s4 163 i2))]) (w1 := w6) rfl ?_
    refine wx_gr (o := 10) (kf := 39) (ln := 3) (ci := 12) (b := 20) (zz := 0) (x := 146) (by decide +kernel) h7 (hS _ _ sm_146) rfl ?_
    show wp _ 244 81 [(0, .ref 146), (1, .int (Int32.ofInt x1))] [.ref 156, .int (Int32.ofInt (s4 163 i2))] w6 _
    refine wp_g 1 (pc1 := 82) (lv1 := [(0, .ref 146), (1, .int (Int32.ofInt x1))]) (st1 := [.int (Int32.ofInt 0), .ref 156, .int (Int32.ofInt (s4 163 i2))]) (w1 := w6) rfl ?_
    obtain ⟨i8, e9, hx⟩ := bd hx
    refine wx_ra (x := 156) (n := 130) (ln := 1) (a := 0) (b := 0) (zz := 0) (by decide +kernel) h7 (hS _ _ sm_156) e9 ?_
    show wp _ 244 83 [(0, .ref 146), (1, .int (Int32.ofInt x1))] [.int (Int32.ofInt (s4 156 i8)), .int (Int32.ofInt (s4 163 i2))] w6 _
    refine wx_lt (oo := 9) (ln := 3) (a := 92) (b := 0) (zz := 0) (by decide +kernel) (fun h10 => ?_) (fun h10 => ?_)
    · have hx := ite_t h10 hx
      refine wp_g 3 (pc1 := 95) (lv1 := [(0, .ref 146), (1, .int (Int32.ofInt x1))]) (st1 := [.ref 146, .int (Int32.ofInt x1), .ref 146]) (w1 := w6) rfl ?_
      refine wx_gr (o := 17) (kf := 64) (ln := 3) (ci := 12) (b := 31) (zz := 0) (x := 146) (by decide +kernel) h7 (hS _ _ sm_146) rfl ?_
      show wp _ 244 98 [(0, .ref 146), (1, .int (Int32.ofInt x1))] [.ref 163, .int (Int32.ofInt x1), .ref 146] w6 _
      refine wp_g 1 (pc1 := 99) (lv1 := [(0, .ref 146), (1, .int (Int32.ofInt x1))]) (st1 := [.int (Int32.ofInt x1), .ref 163, .int (Int32.ofInt x1), .ref 146]) (w1 := w6) rfl ?_
      refine wx_ra (x := 163) (n := 8) (ln := 1) (a := 0) (b := 0) (zz := 0) (by decide +kernel) h7 (hS _ _ sm_163) e3 ?_
      show wp _ 244 100 [(0, .ref 146), (1, .int (Int32.ofInt x1))] [.int (Int32.ofInt (s4 163 i2)), .int (Int32.ofInt x1), .ref 146] w6 _
      obtain ⟨o11, e12, hx⟩ := bd hx
      refine wp_cl [.ref 146, .int (Int32.ofInt x1), .int (Int32.ofInt (s4 163 i2))] [] (i := .invokevirtual 444) (ln := 3) (a := 243) (b := 0) (z := 0) (by decide +kernel) rfl rfl (by decide) rfl (show (3 : Nat) = pm_na 243 by decide +kernel) (Nat.le_of_ble_eq_true rfl) (show (3 : Nat) ≤ pm_n 243 by decide +kernel) (rcv_x 12 h7 (hS _ _ sm_146) (by decide +kernel)) (xm_isUsed_ok (d := d + 2) hS h7 e12 ?_)
      show wp _ 244 103 [(0, .ref 146), (1, .int (Int32.ofInt x1))] [.int (Int32.ofInt o11)] w6 _
      refine wz_ne (oo := (-46)) (ln := 3) (a := 57) (b := 0) (zz := 0) (by decide +kernel) (fun h15 => ?_) (fun h15 => ?_)
      · have hx := ite_f h15 hx
        cases hx
        exact kn _ _ rfl h7
      · have hx := ite_t h15 hx
        refine wp_g 4 (pc1 := 110) (lv1 := [(0, .ref 146), (1, .int (Int32.ofInt x1))]) (st1 := [.ref 146, .int (Int32.ofInt (x1 + 1))]) (w1 := w6) (by simp only [Int32.ofInt_add, Int32.ofInt_sub, Int32.ofInt_mul, Int32.ofInt_neg, p_and, p_or, p_xor, p_shl, p_shr, p_usr, p_w8, p_c16, p_lI, q_and, q_or, q_shl, q_shr, q_w32, Int64.ofInt_add, Int64.ofInt_sub, Int64.ofInt_mul, p_mx, p_mn, q_mx, q_mn]; rfl) ?_
        refine wx_gr (o := 10) (kf := 39) (ln := 3) (ci := 12) (b := 20) (zz := 0) (x := 146) (by decide +kernel) h7 (hS _ _ sm_146) rfl ?_
        show wp _ 244 113 [(0, .ref 146), (1, .int (Int32.ofInt x1))] [.ref 156, .int (Int32.ofInt (x1 + 1))] w6 _
        refine wp_g 1 (pc1 := 114) (lv1 := [(0, .ref 146), (1, .int (Int32.ofInt x1))]) (st1 := [.int (Int32.ofInt 0), .ref 156, .int (Int32.ofInt (x1 + 1))]) (w1 := w6) rfl ?_
        refine wx_ra (x := 156) (n := 130) (ln := 1) (a := 0) (b := 0) (zz := 0) (by decide +kernel) h7 (hS _ _ sm_156) e9 ?_
        show wp _ 244 115 [(0, .ref 146), (1, .int (Int32.ofInt x1))] [.int (Int32.ofInt (s4 156 i8)), .int (Int32.ofInt (x1 + 1))] w6 _
        refine wx_ne (oo := 10) (ln := 3) (a := 125) (b := 0) (zz := 0) (by decide +kernel) (fun h16 => ?_) (fun h16 => ?_)
        · have hx := ite_f h16 hx
          refine wp_g 2 (pc1 := 129) (lv1 := [(1, .int (Int32.ofInt (x1 + 1))), (0, .ref 146)]) (st1 := [.ref 146]) (w1 := w6) (by simp only [Int32.ofInt_add, Int32.ofInt_sub, Int32.ofInt_mul, Int32.ofInt_neg, p_and, p_or, p_xor, p_shl, p_shr, p_usr, p_w8, p_c16, p_lI, q_and, q_or, q_shl, q_shr, q_w32, Int64.ofInt_add, Int64.ofInt_sub, Int64.ofInt_mul, p_mx, p_mn, q_mx, q_mn]; rfl) ?_
          refine wx_gr (o := 17) (kf := 64) (ln := 3) (ci := 12) (b := 31) (zz := 0) (x := 146) (by decide +kernel) h7 (hS _ _ sm_146) rfl ?_
          show wp _ 244 132 [(1, .int (Int32.ofInt (x1 + 1))), (0, .ref 146)] [.ref 163] w6 _
          refine wp_g 2 (pc1 := 134) (lv1 := [(1, .int (Int32.ofInt (x1 + 1))), (0, .ref 146)]) (st1 := [.int (Int32.ofInt (-1)), .int (Int32.ofInt (x1 + 1)), .ref 163]) (w1 := w6) rfl ?_
          obtain ⟨i17, e18, hx⟩ := bd hx
          obtain ⟨s19, e20, hx⟩ := bd hx
          refine wx_wa (x := 163) (n := 8) (ln := 1) (a := 0) (b := 0) (zz := 0) (by decide +kernel) h7 (hS _ _ sm_163) e18 e20 (fun w21 h22 => ?_)
          refine wp_g 1 (pc1 := 57) (lv1 := [(1, .int (Int32.ofInt (x1 + 1))), (0, .ref 146)]) (st1 := []) (w1 := w21) rfl ?_
          refine wp_lv (lv1 := [(0, .ref 146), (1, .int (Int32.ofInt (x1 + 1)))]) (lsub_p [1, 0] rfl rfl rfl) ?_
          cases hx
          exact kn _ _ rfl h22
        · have hx := ite_t h16 hx
          refine wp_g 1 (pc1 := 119) (lv1 := [(0, .ref 146), (1, .int (Int32.ofInt x1))]) (st1 := [.ref 146]) (w1 := w6) rfl ?_
          obtain ⟨o23, e24, hx⟩ := bd hx
          refine wp_cl [.ref 146] [] (i := .invokevirtual 447) (ln := 3) (a := 242) (b := 0) (z := 0) (by decide +kernel) rfl rfl (by decide) rfl (show (1 : Nat) = pm_na 242 by decide +kernel) (Nat.le_of_ble_eq_true rfl) (show (1 : Nat) ≤ pm_n 242 by decide +kernel) (rcv_x 12 h7 (hS _ _ sm_146) (by decide +kernel)) (xm_keepsStack_ok (d := d) hS h7 e24 (fun w25 h26 => ?_))
          show wp _ 244 122 [(0, .ref 146), (1, .int (Int32.ofInt x1))] [] w25 _
          refine wp_g 1 (pc1 := 57) (lv1 := [(0, .ref 146), (1, .int (Int32.ofInt x1))]) (st1 := []) (w1 := w25) rfl ?_
          cases hx
          exact kn _ _ rfl h26
    · have hx := ite_f h10 hx
      refine wp_g 2 (pc1 := 57) (lv1 := [(1, .int (Int32.ofInt (x1 + (-1)))), (0, .ref 146)]) (st1 := []) (w1 := w6) (by simp only [Int32.ofInt_add, Int32.ofInt_sub, Int32.ofInt_mul, Int32.ofInt_neg, p_and, p_or, p_xor, p_shl, p_shr, p_usr, p_w8, p_c16, p_lI, q_and, q_or, q_shl, q_shr, q_w32, Int64.ofInt_add, Int64.ofInt_sub, Int64.ofInt_mul, p_mx, p_mn, q_mx, q_mn]; rfl) ?_
      refine wp_lv (lv1 := [(0, .ref 146), (1, .int (Int32.ofInt (x1 + (-1))))]) (lsub_p [1, 0] rfl rfl rfl) ?_
      cases hx
      exact kn _ _ rfl h7
/-- FoldDeedsModel.findsStacks ()V -/
noncomputable def xm_findsStacks (s : Hp) : Option Hp :=
  (some (uh s 146 33 0)).bind fun s1 => (lp (fun (q : Int × Hp) => xm_findsStacks_b7 q.2 q.1) (0, s1)).bind fun q5 => (lp (fun (q : Int × Hp) => xm_findsStacks_b28 q.2 q.1) (0, q5.2)).bind fun q9 => (ix 8 0).bind fun i13 => (some (uh q9.2 163 i13 (-1))).bind fun s15 => (lp (fun (q : Int × Hp) => xm_findsStacks_b57 q.2 q.1) (0, s15)).bind fun q19 => some q19.2
set_option maxRecDepth 100000 in
theorem xm_findsStacks_ok {d : Nat} {P : Option Value → pm_H → Prop} {w : pm_H} {sh : Shp} {w0 : pm_H} {s : Hp} (hS : StM sh) (h : Rw sh w0 s w) {o : Hp} (hx : xm_findsStacks s = some o) (kr : ∀ w1, Rw sh w0 o w1 → P none w1) : wp (d + 3) 244 0 (lv_args 0 [.ref 146]) [] w P := by
  show wp _ 244 0 [(0, .ref 146)] [] w _
  unfold xm_findsStacks at hx
  refine wp_g 2 (pc1 := 2) (lv1 := [(0, .ref 146)]) (st1 := [.int (Int32.ofInt 0), .ref 146]) (w1 := w) rfl ?_
  obtain ⟨s1, e2, hx⟩ := bd hx
  refine wx_pi (kf := 441) (ln := 3) (ci := 12) (b := 33) (zz := 0) (x := 146) (by decide +kernel) h (hS _ _ sm_146) rfl (by decide +kernel) e2 (fun w3 h4 => ?_)
  refine wp_g 2 (pc1 := 7) (lv1 := [(1, .int (Int32.ofInt 0)), (0, .ref 146)]) (st1 := []) (w1 := w3) rfl ?_
  refine wp_lv (lv1 := [(0, .ref 146), (1, .int (Int32.ofInt 0))]) (lsub_p [1, 0] rfl rfl rfl) ?_
  obtain ⟨q5, e6, hx⟩ := bd hx
  refine wp_lp (σ := Int × Hp) (ρ := (Int × Hp)) (B := fun q => xm_findsStacks_b7 q.2 q.1) (R := fun q w' => Rw sh w0 q.2 w') (C := fun r => ∀ w1, Rw sh w0 r.2 w1 → wp (d + 3) 244 26 [(0, .ref 146), (1, .int (Int32.ofInt r.1))] [] w1 P) (lv := fun q => [(0, .ref 146), (1, .int (Int32.ofInt q.1))]) (hd := 7) (fun q w' o hR hb kn kc => xm_findsStacks_b7_ok hS hR hb kn kc) _ _ _ e6 h4 ?_
  intro w7 h8
  show wp _ 244 26 [(0, .ref 146), (1, .int (Int32.ofInt q5.1))] [] w7 _
  refine wp_g 2 (pc1 := 28) (lv1 := [(1, .int (Int32.ofInt 0)), (0, .ref 146)]) (st1 := []) (w1 := w7) rfl ?_
  refine wp_lv (lv1 := [(0, .ref 146), (1, .int (Int32.ofInt 0))]) (lsub_p [1, 0] rfl rfl rfl) ?_
  obtain ⟨q9, e10, hx⟩ := bd hx
  refine wp_lp (σ := Int × Hp) (ρ := (Int × Hp)) (B := fun q => xm_findsStacks_b28 q.2 q.1) (R := fun q w' => Rw sh w0 q.2 w') (C := fun r => ∀ w1, Rw sh w0 r.2 w1 → wp (d + 3) 244 48 [(0, .ref 146), (1, .int (Int32.ofInt r.1))] [] w1 P) (lv := fun q => [(0, .ref 146), (1, .int (Int32.ofInt q.1))]) (hd := 28) (fun q w' o hR hb kn kc => xm_findsStacks_b28_ok hS hR hb kn kc) _ _ _ e10 h8 ?_
  intro w11 h12
  show wp _ 244 48 [(0, .ref 146), (1, .int (Int32.ofInt q9.1))] [] w11 _
  refine wp_g 3 (pc1 := 51) (lv1 := [(1, .int (Int32.ofInt 0)), (0, .ref 146)]) (st1 := [.ref 146]) (w1 := w11) rfl ?_
  refine wx_gr (o := 17) (kf := 64) (ln := 3) (ci := 12) (b := 31) (zz := 0) (x := 146) (by decide +kernel) h12 (hS _ _ sm_146) rfl ?_
  show wp _ 244 54 [(1, .int (Int32.ofInt 0)), (0, .ref 146)] [.ref 163] w11 _
  refine wp_g 2 (pc1 := 56) (lv1 := [(1, .int (Int32.ofInt 0)), (0, .ref 146)]) (st1 := [.int (Int32.ofInt (-1)), .int (Int32.ofInt 0), .ref 163]) (w1 := w11) rfl ?_
  obtain ⟨i13, e14, hx⟩ := bd hx
  obtain ⟨s15, e16, hx⟩ := bd hx
  refine wx_wa (x := 163) (n := 8) (ln := 1) (a := 0) (b := 0) (zz := 0) (by decide +kernel) h12 (hS _ _ sm_163) e14 e16 (fun w17 h18 => ?_)
  refine wp_lv (lv1 := [(0, .ref 146), (1, .int (Int32.ofInt 0))]) (lsub_p [1, 0] rfl rfl rfl) ?_
  obtain ⟨q19, e20, hx⟩ := bd hx
  refine wp_lp (σ := Int × Hp) (ρ := (Int × Hp)) (B := fun q => xm_findsStacks_b57 q.2 q.1) (R := fun q w' => Rw sh w0 q.2 w') (C := fun r => ∀ w1, Rw sh w0 r.2 w1 → wp (d + 3) 244 138 [(0, .ref 146), (1, .int (Int32.ofInt r.1))] [] w1 P) (lv := fun q => [(0, .ref 146), (1, .int (Int32.ofInt q.1))]) (hd := 57) (fun q w' o hR hb kn kc => xm_findsStacks_b57_ok hS hR hb kn kc) _ _ _ e20 h18 ?_
  intro w21 h22
  show wp _ 244 138 [(0, .ref 146), (1, .int (Int32.ofInt q19.1))] [] w21 _
  refine wp_rt (i := .return_) (r := none) (ln := 1) (a := 0) (b := 0) (z := 0) (by decide +kernel) rfl (ret_v (by decide +kernel)) ?_
  cases hx
  exact kr _ h22
noncomputable def xm_stacks_b95 (s : Hp) (x2 : Int) (x3 : Int) (x4 : Int) : Option ((Int × Int) ⊕ (Int × Int)) :=
  (ix 130 0).bind fun i1 => if w32 x4 < w32 (s 156 i1) then (ix 64 ((8 * x2) + x4)).bind fun i4 => if 0 < w32 (s 166 i4) then some (.inl (bOr x3 (bShl 1 x4), x4 + 1)) else some (.inl (bOr x3 0, x4 + 1)) else some (.inr (x3, x4))
set_option maxRecDepth 100000 in
theorem xm_stacks_b95_ok {d : Nat} {P : Option Value → pm_H → Prop} {w : pm_H} {sh : Shp} {w0 : pm_H} {s : Hp} (hS : StM sh) {x2 : Int} {x3 : Int} {x4 : Int} (h : Rw sh w0 s w) {o : ((Int × Int) ⊕ (Int × Int))} (hx : xm_stacks_b95 s x2 x3 x4 = some o) (kn : ∀ (q : Int × Int) w1, o = .inl q → w = w1 → wp (d + 4) 245 95 [(0, .ref 146), (2, .int (Int32.ofInt x2)), (3, .int (Int32.ofInt q.1)), (4, .int (Int32.ofInt q.2))] [] w1 P) (kc : ∀ (r : (Int × Int)), o = .inr r → (∀ w1, w = w1 → wp (d + 4) 245 138 [(0, .ref 146), (2, .int (Int32.ofInt x2)), (3, .int (Int32.ofInt r.1)), (4, .int (Int32.ofInt r.2))] [] w1 P)) : wp (d + 4) 245 95 [(0, .ref 146), (2, .int (Int32.ofInt x2)), (3, .int (Int32.ofInt x3)), (4, .int (Int32.ofInt x4))] [] w P := by
  unfold xm_stacks_b95 at hx
  refine wp_g 2 (pc1 := 98) (lv1 := [(0, .ref 146), (2, .int (Int32.ofInt x2)), (3, .int (Int32.ofInt x3)), (4, .int (Int32.ofInt x4))]) (st1 := [.ref 146, .int (Int32.ofInt x4)]) (w1 := w) rfl ?_
  refine wx_gr (o := 10) (kf := 39) (ln := 3) (ci := 12) (b := 20) (zz := 0) (x := 146) (by decide +kernel) h (hS _ _ sm_146) rfl ?_
  show wp _ 245 101 [(0, .ref 146), (2, .int (Int32.ofInt x2)), (3, .int (Int32.ofInt x3)), (4, .int (Int32.ofInt x4))] [.ref 156, .int (Int32.ofInt x4)] w _
  refine wp_g 1 (pc1 := 102) (lv1 := [(0, .ref 146), (2, .int (Int32.ofInt x2)), (3, .int (Int32.ofInt x3)), (4, .int (Int32.ofInt x4))]) (st1 := [.int (Int32.ofInt 0), .ref 156, .int (Int32.ofInt x4)]) (w1 := w) rfl ?_
  obtain ⟨i1, e2, hx⟩ := bd hx
  refine wx_ra (x := 156) (n := 130) (ln := 1) (a := 0) (b := 0) (zz := 0) (by decide +kernel) h (hS _ _ sm_156) e2 ?_
  show wp _ 245 103 [(0, .ref 146), (2, .int (Int32.ofInt x2)), (3, .int (Int32.ofInt x3)), (4, .int (Int32.ofInt x4))] [.int (Int32.ofInt (s 156 i1)), .int (Int32.ofInt x4)] w _
  refine wx_ge (oo := 35) (ln := 3) (a := 138) (b := 0) (zz := 0) (by decide +kernel) (fun h3 => ?_) (fun h3 => ?_)
  · have hx := ite_f h3 hx
    cases hx
    exact kc _ rfl _ rfl
  · have hx := ite_t h3 hx
    refine wp_g 2 (pc1 := 108) (lv1 := [(0, .ref 146), (2, .int (Int32.ofInt x2)), (3, .int (Int32.ofInt x3)), (4, .int (Int32.ofInt x4))]) (st1 := [.ref 146, .int (Int32.ofInt x3)]) (w1 := w) rfl ?_
    refine wx_gr (o := 20) (kf := 73) (ln := 3) (ci := 12) (b := 35) (zz := 0) (x := 146) (by decide +kernel) h (hS _ _ sm_146) rfl ?_
    show wp _ 245 111 [(0, .ref 146), (2, .int (Int32.ofInt x2)), (3, .int (Int32.ofInt x3)), (4, .int (Int32.ofInt x4))] [.ref 166, .int (Int32.ofInt x3)] w _
    refine wp_g 5 (pc1 := 118) (lv1 := [(0, .ref 146), (2, .int (Int32.ofInt x2)), (3, .int (Int32.ofInt x3)), (4, .int (Int32.ofInt x4))]) (st1 := [.int (Int32.ofInt ((8 * x2) + x4)), .ref 166, .int (Int32.ofInt x3)]) (w1 := w) (by simp only [Int32.ofInt_add, Int32.ofInt_sub, Int32.ofInt_mul, Int32.ofInt_neg, p_and, p_or, p_xor, p_shl, p_shr, p_usr, p_w8, p_c16, p_lI, q_and, q_or, q_shl, q_shr, q_w32, Int64.ofInt_add, Int64.ofInt_sub, Int64.ofInt_mul, p_mx, p_mn, q_mx, q_mn]; rfl) ?_
    obtain ⟨i4, e5, hx⟩ := bd hx
    refine wx_ra (x := 166) (n := 64) (ln := 1) (a := 0) (b := 0) (zz := 0) (by decide +kernel) h (hS _ _ sm_166) e5 ?_
    show wp _ 245 119 [(0, .ref 146), (2, .int (Int32.ofInt x2)), (3, .int (Int32.ofInt x3)), (4, .int (Int32.ofInt x4))] [.int (Int32.ofInt (s 166 i4)), .int (Int32.ofInt x3)] w _
    refine wz_le (oo := 10) (ln := 3) (a := 129) (b := 0) (zz := 0) (by decide +kernel) (fun h6 => ?_) (fun h6 => ?_)
    · have hx := ite_f h6 hx
      refine wp_g 5 (pc1 := 95) (lv1 := [(4, .int (Int32.ofInt (x4 + 1))), (3, .int (Int32.ofInt (bOr x3 0))), (0, .ref 146), (2, .int (Int32.ofInt x2))]) (st1 := []) (w1 := w) (by simp only [Int32.ofInt_add, Int32.ofInt_sub, Int32.ofInt_mul, Int32.ofInt_neg, p_and, p_or, p_xor, p_shl, p_shr, p_usr, p_w8, p_c16, p_lI, q_and, q_or, q_shl, q_shr, q_w32, Int64.ofInt_add, Int64.ofInt_sub, Int64.ofInt_mul, p_mx, p_mn, q_mx, q_mn]; rfl) ?_
      refine wp_lv (lv1 := [(0, .ref 146), (2, .int (Int32.ofInt x2)), (3, .int (Int32.ofInt (bOr x3 0))), (4, .int (Int32.ofInt (x4 + 1)))]) (lsub_p [2, 3, 1, 0] rfl rfl rfl) ?_
      cases hx
      exact kn _ _ rfl rfl
    · have hx := ite_t h6 hx
      refine wp_g 8 (pc1 := 95) (lv1 := [(4, .int (Int32.ofInt (x4 + 1))), (3, .int (Int32.ofInt (bOr x3 (bShl 1 x4)))), (0, .ref 146), (2, .int (Int32.ofInt x2))]) (st1 := []) (w1 := w) (by simp only [Int32.ofInt_add, Int32.ofInt_sub, Int32.ofInt_mul, Int32.ofInt_neg, p_and, p_or, p_xor, p_shl, p_shr, p_usr, p_w8, p_c16, p_lI, q_and, q_or, q_shl, q_shr, q_w32, Int64.ofInt_add, Int64.ofInt_sub, Int64.ofInt_mul, p_mx, p_mn, q_mx, q_mn]; rfl) ?_
      refine wp_lv (lv1 := [(0, .ref 146), (2, .int (Int32.ofInt x2)), (3, .int (Int32.ofInt (bOr x3 (bShl 1 x4)))), (4, .int (Int32.ofInt (x4 + 1)))]) (lsub_p [2, 3, 1, 0] rfl rfl rfl) ?_
      cases hx
      exact kn _ _ rfl rfl
noncomputable def xm_stacks_j38 (s : Hp) (x1 : Int) : Option (Int × Hp) :=
  (xm_findsStacks s).bind fun o1 => if w32 x1 = w32 (-1) then some (o1 146 33, o1) else if w32 (o1 146 33) = 0 then some ((-2), o1) else (ix 130 0).bind fun i7 => if w32 (iRem x1 10) < w32 (o1 156 i7) then if w32 x1 < w32 8 then (ix 8 (iRem x1 10)).bind fun i15 => some (o1 165 i15, o1) else (lp (fun (q : Int × Int) => xm_stacks_b95 o1 (iRem x1 10) q.1 q.2) (0, 0)).bind fun q11 => some (q11.1, o1) else some ((-2), o1)
set_option maxRecDepth 100000 in
theorem xm_stacks_j38_ok {d : Nat} {P : Option Value → pm_H → Prop} {w : pm_H} {sh : Shp} {w0 : pm_H} {s : Hp} (hS : StM sh) {x1 : Int} (h : Rw sh w0 s w) {o : (Int × Hp)} (hx : xm_stacks_j38 s x1 = some o) (kr : ∀ w1, Rw sh w0 o.2 w1 → P (some (.int (Int32.ofInt o.1))) w1) : wp (d + 4) 245 38 [(0, .ref 146), (1, .int (Int32.ofInt x1))] [] w P := by
  unfold xm_stacks_j38 at hx
  refine wp_g 1 (pc1 := 39) (lv1 := [(0, .ref 146), (1, .int (Int32.ofInt x1))]) (st1 := [.ref 146]) (w1 := w) rfl ?_
  obtain ⟨o1, e2, hx⟩ := bd hx
  refine wp_cl [.ref 146] [] (i := .invokevirtual 456) (ln := 3) (a := 244) (b := 0) (z := 0) (by decide +kernel) rfl rfl (by decide) rfl (show (1 : Nat) = pm_na 244 by decide +kernel) (Nat.le_of_ble_eq_true rfl) (show (1 : Nat) ≤ pm_n 244 by decide +kernel) (rcv_x 12 h (hS _ _ sm_146) (by decide +kernel)) (xm_findsStacks_ok (d := d) hS h e2 (fun w3 h4 => ?_))
  show wp _ 245 42 [(0, .ref 146), (1, .int (Int32.ofInt x1))] [] w3 _
  refine wp_g 2 (pc1 := 44) (lv1 := [(0, .ref 146), (1, .int (Int32.ofInt x1))]) (st1 := [.int (Int32.ofInt (-1)), .int (Int32.ofInt x1)]) (w1 := w3) rfl ?_
  refine wx_ne (oo := 8) (ln := 3) (a := 52) (b := 0) (zz := 0) (by decide +kernel) (fun h5 => ?_) (fun h5 => ?_)
  · have hx := ite_f h5 hx
    refine wp_g 2 (pc1 := 55) (lv1 := [(0, .ref 146), (1, .int (Int32.ofInt x1))]) (st1 := [.int (Int32.ofInt 10), .int (Int32.ofInt x1)]) (w1 := w3) rfl ?_
    refine wx_rm (ln := 1) (a := 0) (b := 0) (zz := 0) (by decide +kernel) (by decide) ?_
    refine wp_g 2 (pc1 := 58) (lv1 := [(2, .int (Int32.ofInt (iRem x1 10))), (0, .ref 146), (1, .int (Int32.ofInt x1))]) (st1 := [.ref 146]) (w1 := w3) rfl ?_
    refine wx_gi (kf := 441) (ln := 3) (ci := 12) (b := 33) (zz := 0) (x := 146) (by decide +kernel) h4 (hS _ _ sm_146) rfl ?_
    show wp _ 245 61 [(2, .int (Int32.ofInt (iRem x1 10))), (0, .ref 146), (1, .int (Int32.ofInt x1))] [.int (Int32.ofInt (o1 146 33))] w3 _
    refine wz_eq (oo := 13) (ln := 3) (a := 74) (b := 0) (zz := 0) (by decide +kernel) (fun h6 => ?_) (fun h6 => ?_)
    · have hx := ite_t h6 hx
      refine wp_g 1 (pc1 := 76) (lv1 := [(2, .int (Int32.ofInt (iRem x1 10))), (0, .ref 146), (1, .int (Int32.ofInt x1))]) (st1 := [.int (Int32.ofInt (-2))]) (w1 := w3) rfl ?_
      refine wp_rt (i := .ireturn) (r := some (.int (Int32.ofInt (-2)))) (ln := 1) (a := 0) (b := 0) (z := 0) (by decide +kernel) rfl (ret_ok (by decide +kernel)) ?_
      cases hx
      exact kr _ h4
    · have hx := ite_f h6 hx
      refine wp_g 2 (pc1 := 66) (lv1 := [(2, .int (Int32.ofInt (iRem x1 10))), (0, .ref 146), (1, .int (Int32.ofInt x1))]) (st1 := [.ref 146, .int (Int32.ofInt (iRem x1 10))]) (w1 := w3) rfl ?_
      refine wx_gr (o := 10) (kf := 39) (ln := 3) (ci := 12) (b := 20) (zz := 0) (x := 146) (by decide +kernel) h4 (hS _ _ sm_146) rfl ?_
      show wp _ 245 69 [(2, .int (Int32.ofInt (iRem x1 10))), (0, .ref 146), (1, .int (Int32.ofInt x1))] [.ref 156, .int (Int32.ofInt (iRem x1 10))] w3 _
      refine wp_g 1 (pc1 := 70) (lv1 := [(2, .int (Int32.ofInt (iRem x1 10))), (0, .ref 146), (1, .int (Int32.ofInt x1))]) (st1 := [.int (Int32.ofInt 0), .ref 156, .int (Int32.ofInt (iRem x1 10))]) (w1 := w3) rfl ?_
      obtain ⟨i7, e8, hx⟩ := bd hx
      refine wx_ra (x := 156) (n := 130) (ln := 1) (a := 0) (b := 0) (zz := 0) (by decide +kernel) h4 (hS _ _ sm_156) e8 ?_
      show wp _ 245 71 [(2, .int (Int32.ofInt (iRem x1 10))), (0, .ref 146), (1, .int (Int32.ofInt x1))] [.int (Int32.ofInt (o1 156 i7)), .int (Int32.ofInt (iRem x1 10))] w3 _
      refine wx_lt (oo := 6) (ln := 3) (a := 77) (b := 0) (zz := 0) (by decide +kernel) (fun h9 => ?_) (fun h9 => ?_)
      · have hx := ite_t h9 hx
        refine wp_g 2 (pc1 := 80) (lv1 := [(2, .int (Int32.ofInt (iRem x1 10))), (0, .ref 146), (1, .int (Int32.ofInt x1))]) (st1 := [.int (Int32.ofInt 8), .int (Int32.ofInt x1)]) (w1 := w3) rfl ?_
        refine wx_ge (oo := 10) (ln := 3) (a := 90) (b := 0) (zz := 0) (by decide +kernel) (fun h10 => ?_) (fun h10 => ?_)
        · have hx := ite_f h10 hx
          refine wp_g 4 (pc1 := 95) (lv1 := [(4, .int (Int32.ofInt 0)), (3, .int (Int32.ofInt 0)), (2, .int (Int32.ofInt (iRem x1 10))), (0, .ref 146), (1, .int (Int32.ofInt x1))]) (st1 := []) (w1 := w3) rfl ?_
          refine wp_lv (lv1 := [(0, .ref 146), (2, .int (Int32.ofInt (iRem x1 10))), (3, .int (Int32.ofInt 0)), (4, .int (Int32.ofInt 0))]) (lsub_p [3, 2, 1, 0] rfl rfl rfl) ?_
          obtain ⟨q11, e12, hx⟩ := bd hx
          refine wp_lp (σ := Int × Int) (ρ := (Int × Int)) (B := fun q => xm_stacks_b95 o1 (iRem x1 10) q.1 q.2) (R := fun q w' => w3 = w') (C := fun r => ∀ w1, w3 = w1 → wp (d + 4) 245 138 [(0, .ref 146), (2, .int (Int32.ofInt (iRem x1 10))), (3, .int (Int32.ofInt r.1)), (4, .int (Int32.ofInt r.2))] [] w1 P) (lv := fun q => [(0, .ref 146), (2, .int (Int32.ofInt (iRem x1 10))), (3, .int (Int32.ofInt q.1)), (4, .int (Int32.ofInt q.2))]) (hd := 95) (fun q w' o hR hb kn kc => by subst hR; exact xm_stacks_b95_ok hS h4 hb kn kc) _ _ _ e12 rfl ?_
          intro w13 h14
          subst h14
          show wp _ 245 138 [(0, .ref 146), (2, .int (Int32.ofInt (iRem x1 10))), (3, .int (Int32.ofInt q11.1)), (4, .int (Int32.ofInt q11.2))] [] w3 _
          refine wp_g 1 (pc1 := 139) (lv1 := [(0, .ref 146), (2, .int (Int32.ofInt (iRem x1 10))), (3, .int (Int32.ofInt q11.1)), (4, .int (Int32.ofInt q11.2))]) (st1 := [.int (Int32.ofInt q11.1)]) (w1 := w3) rfl ?_
          refine wp_rt (i := .ireturn) (r := some (.int (Int32.ofInt q11.1))) (ln := 1) (a := 0) (b := 0) (z := 0) (by decide +kernel) rfl (ret_ok (by decide +kernel)) ?_
          cases hx
          exact kr _ h4
        · have hx := ite_t h10 hx
          refine wp_g 1 (pc1 := 84) (lv1 := [(2, .int (Int32.ofInt (iRem x1 10))), (0, .ref 146), (1, .int (Int32.ofInt x1))]) (st1 := [.ref 146]) (w1 := w3) rfl ?_
          refine wx_gr (o := 19) (kf := 70) (ln := 3) (ci := 12) (b := 34) (zz := 0) (x := 146) (by decide +kernel) h4 (hS _ _ sm_146) rfl ?_
          show wp _ 245 87 [(2, .int (Int32.ofInt (iRem x1 10))), (0, .ref 146), (1, .int (Int32.ofInt x1))] [.ref 165] w3 _
          refine wp_g 1 (pc1 := 88) (lv1 := [(2, .int (Int32.ofInt (iRem x1 10))), (0, .ref 146), (1, .int (Int32.ofInt x1))]) (st1 := [.int (Int32.ofInt (iRem x1 10)), .ref 165]) (w1 := w3) rfl ?_
          obtain ⟨i15, e16, hx⟩ := bd hx
          refine wx_ra (x := 165) (n := 8) (ln := 1) (a := 0) (b := 0) (zz := 0) (by decide +kernel) h4 (hS _ _ sm_165) e16 ?_
          show wp _ 245 89 [(2, .int (Int32.ofInt (iRem x1 10))), (0, .ref 146), (1, .int (Int32.ofInt x1))] [.int (Int32.ofInt (o1 165 i15))] w3 _
          refine wp_rt (i := .ireturn) (r := some (.int (Int32.ofInt (o1 165 i15)))) (ln := 1) (a := 0) (b := 0) (z := 0) (by decide +kernel) rfl (ret_ok (by decide +kernel)) ?_
          cases hx
          exact kr _ h4
      · have hx := ite_f h9 hx
        refine wp_g 1 (pc1 := 76) (lv1 := [(2, .int (Int32.ofInt (iRem x1 10))), (0, .ref 146), (1, .int (Int32.ofInt x1))]) (st1 := [.int (Int32.ofInt (-2))]) (w1 := w3) rfl ?_
        refine wp_rt (i := .ireturn) (r := some (.int (Int32.ofInt (-2)))) (ln := 1) (a := 0) (b := 0) (z := 0) (by decide +kernel) rfl (ret_ok (by decide +kernel)) ?_
        cases hx
        exact kr _ h4
  · have hx := ite_t h5 hx
    refine wp_g 1 (pc1 := 48) (lv1 := [(0, .ref 146), (1, .int (Int32.ofInt x1))]) (st1 := [.ref 146]) (w1 := w3) rfl ?_
    refine wx_gi (kf := 441) (ln := 3) (ci := 12) (b := 33) (zz := 0) (x := 146) (by decide +kernel) h4 (hS _ _ sm_146) rfl ?_
    show wp _ 245 51 [(0, .ref 146), (1, .int (Int32.ofInt x1))] [.int (Int32.ofInt (o1 146 33))] w3 _
    refine wp_rt (i := .ireturn) (r := some (.int (Int32.ofInt (o1 146 33)))) (ln := 1) (a := 0) (b := 0) (z := 0) (by decide +kernel) rfl (ret_ok (by decide +kernel)) ?_
    cases hx
    exact kr _ h4
/-- FoldDeedsModel.stacks (I)I -/
noncomputable def xm_stacks (s : Hp) (p1 : Int) : Option (Int × Hp) :=
  (xm_isCloth s).bind fun o1 => if w32 o1 = 0 then some ((-3), s) else (xm_in (w32 p1) (-1) 7).bind fun o6 => if w32 o6 = 0 then (xm_in (w32 p1) 10 17).bind fun o11 => if w32 o11 = 0 then some ((-3), s) else xm_stacks_j38 s p1 else xm_stacks_j38 s p1
set_option maxRecDepth 100000 in
theorem xm_stacks_ok {d : Nat} {P : Option Value → pm_H → Prop} {w : pm_H} {sh : Shp} {w0 : pm_H} {s : Hp} (hS : StM sh) {p1 : Int} (h : Rw sh w0 s w) {o : Int × Hp} (hx : xm_stacks s p1 = some o) (kr : ∀ w1, Rw sh w0 o.2 w1 → P (some (.int (Int32.ofInt o.1))) w1) : wp (d + 4) 245 0 (lv_args 0 [.ref 146, .int (Int32.ofInt p1)]) [] w P := by
  show wp _ 245 0 [(0, .ref 146), (1, .int (Int32.ofInt p1))] [] w _
  unfold xm_stacks at hx
  refine wp_g 1 (pc1 := 1) (lv1 := [(0, .ref 146), (1, .int (Int32.ofInt p1))]) (st1 := [.ref 146]) (w1 := w) rfl ?_
  obtain ⟨o1, e2, hx⟩ := bd hx
  refine wp_cl [.ref 146] [] (i := .invokevirtual 301) (ln := 3) (a := 190) (b := 0) (z := 0) (by decide +kernel) rfl rfl (by decide) rfl (show (1 : Nat) = pm_na 190 by decide +kernel) (Nat.le_of_ble_eq_true rfl) (show (1 : Nat) ≤ pm_n 190 by decide +kernel) (rcv_x 12 h (hS _ _ sm_146) (by decide +kernel)) (xm_isCloth_ok (d := d + 3) hS h e2 ?_)
  show wp _ 245 4 [(0, .ref 146), (1, .int (Int32.ofInt p1))] [.int (Int32.ofInt o1)] w _
  refine wz_eq (oo := 31) (ln := 3) (a := 35) (b := 0) (zz := 0) (by decide +kernel) (fun h5 => ?_) (fun h5 => ?_)
  · have hx := ite_t h5 hx
    refine wp_g 1 (pc1 := 37) (lv1 := [(0, .ref 146), (1, .int (Int32.ofInt p1))]) (st1 := [.int (Int32.ofInt (-3))]) (w1 := w) rfl ?_
    refine wp_rt (i := .ireturn) (r := some (.int (Int32.ofInt (-3)))) (ln := 1) (a := 0) (b := 0) (z := 0) (by decide +kernel) rfl (ret_ok (by decide +kernel)) ?_
    cases hx
    exact kr _ h
  · have hx := ite_f h5 hx
    refine wp_g 4 (pc1 := 15) (lv1 := [(0, .ref 146), (1, .int (Int32.ofInt p1))]) (st1 := [.long (Int64.ofInt 7), .long (Int64.ofInt (-1)), .long (Int64.ofInt (w32 p1))]) (w1 := w) (by simp only [Int32.ofInt_add, Int32.ofInt_sub, Int32.ofInt_mul, Int32.ofInt_neg, p_and, p_or, p_xor, p_shl, p_shr, p_usr, p_w8, p_c16, p_lI, q_and, q_or, q_shl, q_shr, q_w32, Int64.ofInt_add, Int64.ofInt_sub, Int64.ofInt_mul, p_mx, p_mn, q_mx, q_mn]; rfl) ?_
    obtain ⟨o6, e7, hx⟩ := bd hx
    refine wp_cl [.long (Int64.ofInt (w32 p1)), .long (Int64.ofInt (-1)), .long (Int64.ofInt 7)] [] (i := .invokestatic 139) (ln := 3) (a := 147) (b := 1) (z := 0) (by decide +kernel) rfl rfl (by decide) rfl (show (3 : Nat) = pm_na 147 by decide +kernel) (Nat.le_of_ble_eq_true rfl) (show (6 : Nat) ≤ pm_n 147 by decide +kernel) (by rw [show pm_k 147 = 1 by decide +kernel]; rfl) (xm_in_ok (d := d + 3) e7 ?_)
    show wp _ 245 18 [(0, .ref 146), (1, .int (Int32.ofInt p1))] [.int (Int32.ofInt o6)] w _
    refine wz_ne (oo := 20) (ln := 3) (a := 38) (b := 0) (zz := 0) (by decide +kernel) (fun h10 => ?_) (fun h10 => ?_)
    · have hx := ite_f h10 hx
      exact xm_stacks_j38_ok hS h hx kr
    · have hx := ite_t h10 hx
      refine wp_g 4 (pc1 := 29) (lv1 := [(0, .ref 146), (1, .int (Int32.ofInt p1))]) (st1 := [.long (Int64.ofInt 17), .long (Int64.ofInt 10), .long (Int64.ofInt (w32 p1))]) (w1 := w) (by simp only [Int32.ofInt_add, Int32.ofInt_sub, Int32.ofInt_mul, Int32.ofInt_neg, p_and, p_or, p_xor, p_shl, p_shr, p_usr, p_w8, p_c16, p_lI, q_and, q_or, q_shl, q_shr, q_w32, Int64.ofInt_add, Int64.ofInt_sub, Int64.ofInt_mul, p_mx, p_mn, q_mx, q_mn]; rfl) ?_
      obtain ⟨o11, e12, hx⟩ := bd hx
      refine wp_cl [.long (Int64.ofInt (w32 p1)), .long (Int64.ofInt 10), .long (Int64.ofInt 17)] [] (i := .invokestatic 139) (ln := 3) (a := 147) (b := 1) (z := 0) (by decide +kernel) rfl rfl (by decide) rfl (show (3 : Nat) = pm_na 147 by decide +kernel) (Nat.le_of_ble_eq_true rfl) (show (6 : Nat) ≤ pm_n 147 by decide +kernel) (by rw [show pm_k 147 = 1 by decide +kernel]; rfl) (xm_in_ok (d := d + 3) e12 ?_)
      show wp _ 245 32 [(0, .ref 146), (1, .int (Int32.ofInt p1))] [.int (Int32.ofInt o11)] w _
      refine wz_ne (oo := 6) (ln := 3) (a := 38) (b := 0) (zz := 0) (by decide +kernel) (fun h15 => ?_) (fun h15 => ?_)
      · have hx := ite_f h15 hx
        exact xm_stacks_j38_ok hS h hx kr
      · have hx := ite_t h15 hx
        refine wp_g 1 (pc1 := 37) (lv1 := [(0, .ref 146), (1, .int (Int32.ofInt p1))]) (st1 := [.int (Int32.ofInt (-3))]) (w1 := w) rfl ?_
        refine wp_rt (i := .ireturn) (r := some (.int (Int32.ofInt (-3)))) (ln := 1) (a := 0) (b := 0) (z := 0) (by decide +kernel) rfl (ret_ok (by decide +kernel)) ?_
        cases hx
        exact kr _ h
noncomputable def xm_peek_b57 (s : Hp) (x1 : Int) (x2 : Int) (x3 : Int) (x4 : Int) (x5 : Int) (x6 : Int) : Option ((Int × Int) ⊕ (Int × Int)) :=
  (ix 130 0).bind fun i1 => if w32 x6 < w32 (s 156 i1) then (ix 64 ((8 * x4) + x6)).bind fun i4 => if w32 x5 < w32 (s 166 i4) then some (.inl (s 166 i4, x6 + 1)) else some (.inl (x5, x6 + 1)) else some (.inr (x5, x6))
set_option maxRecDepth 100000 in
theorem xm_peek_b57_ok {d : Nat} {P : Option Value → pm_H → Prop} {w : pm_H} {sh : Shp} {w0 : pm_H} {s : Hp} (hS : StM sh) {x1 : Int} {x2 : Int} {x3 : Int} {x4 : Int} {x5 : Int} {x6 : Int} (h : Rw sh w0 s w) {o : ((Int × Int) ⊕ (Int × Int))} (hx : xm_peek_b57 s x1 x2 x3 x4 x5 x6 = some o) (kn : ∀ (q : Int × Int) w1, o = .inl q → w = w1 → wp (d + 4) 246 57 [(0, .ref 146), (1, .int (Int32.ofInt x1)), (2, .int (Int32.ofInt x2)), (3, .int (Int32.ofInt x3)), (4, .int (Int32.ofInt x4)), (5, .int (Int32.ofInt q.1)), (6, .int (Int32.ofInt q.2))] [] w1 P) (kc : ∀ (r : (Int × Int)), o = .inr r → (∀ w1, w = w1 → wp (d + 4) 246 112 [(0, .ref 146), (1, .int (Int32.ofInt x1)), (2, .int (Int32.ofInt x2)), (3, .int (Int32.ofInt x3)), (4, .int (Int32.ofInt x4)), (5, .int (Int32.ofInt r.1)), (6, .int (Int32.ofInt r.2))] [] w1 P)) : wp (d + 4) 246 57 [(0, .ref 146), (1, .int (Int32.ofInt x1)), (2, .int (Int32.ofInt x2)), (3, .int (Int32.ofInt x3)), (4, .int (Int32.ofInt x4)), (5, .int (Int32.ofInt x5)), (6, .int (Int32.ofInt x6))] [] w P := by
  unfold xm_peek_b57 at hx
  refine wp_g 2 (pc1 := 60) (lv1 := [(0, .ref 146), (1, .int (Int32.ofInt x1)), (2, .int (Int32.ofInt x2)), (3, .int (Int32.ofInt x3)), (4, .int (Int32.ofInt x4)), (5, .int (Int32.ofInt x5)), (6, .int (Int32.ofInt x6))]) (st1 := [.ref 146, .int (Int32.ofInt x6)]) (w1 := w) rfl ?_
  refine wx_gr (o := 10) (kf := 39) (ln := 3) (ci := 12) (b := 20) (zz := 0) (x := 146) (by decide +kernel) h (hS _ _ sm_146) rfl ?_
  show wp _ 246 63 [(0, .ref 146), (1, .int (Int32.ofInt x1)), (2, .int (Int32.ofInt x2)), (3, .int (Int32.ofInt x3)), (4, .int (Int32.ofInt x4)), (5, .int (Int32.ofInt x5)), (6, .int (Int32.ofInt x6))] [.ref 156, .int (Int32.ofInt x6)] w _
  refine wp_g 1 (pc1 := 64) (lv1 := [(0, .ref 146), (1, .int (Int32.ofInt x1)), (2, .int (Int32.ofInt x2)), (3, .int (Int32.ofInt x3)), (4, .int (Int32.ofInt x4)), (5, .int (Int32.ofInt x5)), (6, .int (Int32.ofInt x6))]) (st1 := [.int (Int32.ofInt 0), .ref 156, .int (Int32.ofInt x6)]) (w1 := w) rfl ?_
  obtain ⟨i1, e2, hx⟩ := bd hx
  refine wx_ra (x := 156) (n := 130) (ln := 1) (a := 0) (b := 0) (zz := 0) (by decide +kernel) h (hS _ _ sm_156) e2 ?_
  show wp _ 246 65 [(0, .ref 146), (1, .int (Int32.ofInt x1)), (2, .int (Int32.ofInt x2)), (3, .int (Int32.ofInt x3)), (4, .int (Int32.ofInt x4)), (5, .int (Int32.ofInt x5)), (6, .int (Int32.ofInt x6))] [.int (Int32.ofInt (s 156 i1)), .int (Int32.ofInt x6)] w _
  refine wx_ge (oo := 47) (ln := 3) (a := 112) (b := 0) (zz := 0) (by decide +kernel) (fun h3 => ?_) (fun h3 => ?_)
  · have hx := ite_f h3 hx
    cases hx
    exact kc _ rfl _ rfl
  · have hx := ite_t h3 hx
    refine wp_g 1 (pc1 := 69) (lv1 := [(0, .ref 146), (1, .int (Int32.ofInt x1)), (2, .int (Int32.ofInt x2)), (3, .int (Int32.ofInt x3)), (4, .int (Int32.ofInt x4)), (5, .int (Int32.ofInt x5)), (6, .int (Int32.ofInt x6))]) (st1 := [.ref 146]) (w1 := w) rfl ?_
    refine wx_gr (o := 20) (kf := 73) (ln := 3) (ci := 12) (b := 35) (zz := 0) (x := 146) (by decide +kernel) h (hS _ _ sm_146) rfl ?_
    show wp _ 246 72 [(0, .ref 146), (1, .int (Int32.ofInt x1)), (2, .int (Int32.ofInt x2)), (3, .int (Int32.ofInt x3)), (4, .int (Int32.ofInt x4)), (5, .int (Int32.ofInt x5)), (6, .int (Int32.ofInt x6))] [.ref 166] w _
    refine wp_g 5 (pc1 := 80) (lv1 := [(0, .ref 146), (1, .int (Int32.ofInt x1)), (2, .int (Int32.ofInt x2)), (3, .int (Int32.ofInt x3)), (4, .int (Int32.ofInt x4)), (5, .int (Int32.ofInt x5)), (6, .int (Int32.ofInt x6))]) (st1 := [.int (Int32.ofInt ((8 * x4) + x6)), .ref 166]) (w1 := w) (by simp only [Int32.ofInt_add, Int32.ofInt_sub, Int32.ofInt_mul, Int32.ofInt_neg, p_and, p_or, p_xor, p_shl, p_shr, p_usr, p_w8, p_c16, p_lI, q_and, q_or, q_shl, q_shr, q_w32, Int64.ofInt_add, Int64.ofInt_sub, Int64.ofInt_mul, p_mx, p_mn, q_mx, q_mn]; rfl) ?_
    obtain ⟨i4, e5, hx⟩ := bd hx
    refine wx_ra (x := 166) (n := 64) (ln := 1) (a := 0) (b := 0) (zz := 0) (by decide +kernel) h (hS _ _ sm_166) e5 ?_
    show wp _ 246 81 [(0, .ref 146), (1, .int (Int32.ofInt x1)), (2, .int (Int32.ofInt x2)), (3, .int (Int32.ofInt x3)), (4, .int (Int32.ofInt x4)), (5, .int (Int32.ofInt x5)), (6, .int (Int32.ofInt x6))] [.int (Int32.ofInt (s 166 i4))] w _
    refine wp_g 1 (pc1 := 83) (lv1 := [(0, .ref 146), (1, .int (Int32.ofInt x1)), (2, .int (Int32.ofInt x2)), (3, .int (Int32.ofInt x3)), (4, .int (Int32.ofInt x4)), (5, .int (Int32.ofInt x5)), (6, .int (Int32.ofInt x6))]) (st1 := [.int (Int32.ofInt x5), .int (Int32.ofInt (s 166 i4))]) (w1 := w) rfl ?_
    refine wx_le (oo := 19) (ln := 3) (a := 102) (b := 0) (zz := 0) (by decide +kernel) (fun h6 => ?_) (fun h6 => ?_)
    · have hx := ite_f h6 hx
      refine wp_g 4 (pc1 := 57) (lv1 := [(6, .int (Int32.ofInt (x6 + 1))), (5, .int (Int32.ofInt x5)), (0, .ref 146), (1, .int (Int32.ofInt x1)), (2, .int (Int32.ofInt x2)), (3, .int (Int32.ofInt x3)), (4, .int (Int32.ofInt x4))]) (st1 := []) (w1 := w) (by simp only [Int32.ofInt_add, Int32.ofInt_sub, Int32.ofInt_mul, Int32.ofInt_neg, p_and, p_or, p_xor, p_shl, p_shr, p_usr, p_w8, p_c16, p_lI, q_and, q_or, q_shl, q_shr, q_w32, Int64.ofInt_add, Int64.ofInt_sub, Int64.ofInt_mul, p_mx, p_mn, q_mx, q_mn]; rfl) ?_
      refine wp_lv (lv1 := [(0, .ref 146), (1, .int (Int32.ofInt x1)), (2, .int (Int32.ofInt x2)), (3, .int (Int32.ofInt x3)), (4, .int (Int32.ofInt x4)), (5, .int (Int32.ofInt x5)), (6, .int (Int32.ofInt (x6 + 1)))]) (lsub_p [2, 3, 4, 5, 6, 1, 0] rfl rfl rfl) ?_
      cases hx
      exact kn _ _ rfl rfl
    · have hx := ite_t h6 hx
      refine wp_g 1 (pc1 := 87) (lv1 := [(0, .ref 146), (1, .int (Int32.ofInt x1)), (2, .int (Int32.ofInt x2)), (3, .int (Int32.ofInt x3)), (4, .int (Int32.ofInt x4)), (5, .int (Int32.ofInt x5)), (6, .int (Int32.ofInt x6))]) (st1 := [.ref 146]) (w1 := w) rfl ?_
      refine wx_gr (o := 20) (kf := 73) (ln := 3) (ci := 12) (b := 35) (zz := 0) (x := 146) (by decide +kernel) h (hS _ _ sm_146) rfl ?_
      show wp _ 246 90 [(0, .ref 146), (1, .int (Int32.ofInt x1)), (2, .int (Int32.ofInt x2)), (3, .int (Int32.ofInt x3)), (4, .int (Int32.ofInt x4)), (5, .int (Int32.ofInt x5)), (6, .int (Int32.ofInt x6))] [.ref 166] w _
      refine wp_g 5 (pc1 := 98) (lv1 := [(0, .ref 146), (1, .int (Int32.ofInt x1)), (2, .int (Int32.ofInt x2)), (3, .int (Int32.ofInt x3)), (4, .int (Int32.ofInt x4)), (5, .int (Int32.ofInt x5)), (6, .int (Int32.ofInt x6))]) (st1 := [.int (Int32.ofInt ((8 * x4) + x6)), .ref 166]) (w1 := w) (by simp only [Int32.ofInt_add, Int32.ofInt_sub, Int32.ofInt_mul, Int32.ofInt_neg, p_and, p_or, p_xor, p_shl, p_shr, p_usr, p_w8, p_c16, p_lI, q_and, q_or, q_shl, q_shr, q_w32, Int64.ofInt_add, Int64.ofInt_sub, Int64.ofInt_mul, p_mx, p_mn, q_mx, q_mn]; rfl) ?_
      refine wx_ra (x := 166) (n := 64) (ln := 1) (a := 0) (b := 0) (zz := 0) (by decide +kernel) h (hS _ _ sm_166) e5 ?_
      show wp _ 246 99 [(0, .ref 146), (1, .int (Int32.ofInt x1)), (2, .int (Int32.ofInt x2)), (3, .int (Int32.ofInt x3)), (4, .int (Int32.ofInt x4)), (5, .int (Int32.ofInt x5)), (6, .int (Int32.ofInt x6))] [.int (Int32.ofInt (s 166 i4))] w _
      refine wp_g 4 (pc1 := 57) (lv1 := [(6, .int (Int32.ofInt (x6 + 1))), (5, .int (Int32.ofInt (s 166 i4))), (0, .ref 146), (1, .int (Int32.ofInt x1)), (2, .int (Int32.ofInt x2)), (3, .int (Int32.ofInt x3)), (4, .int (Int32.ofInt x4))]) (st1 := []) (w1 := w) (by simp only [Int32.ofInt_add, Int32.ofInt_sub, Int32.ofInt_mul, Int32.ofInt_neg, p_and, p_or, p_xor, p_shl, p_shr, p_usr, p_w8, p_c16, p_lI, q_and, q_or, q_shl, q_shr, q_w32, Int64.ofInt_add, Int64.ofInt_sub, Int64.ofInt_mul, p_mx, p_mn, q_mx, q_mn]; rfl) ?_
      refine wp_lv (lv1 := [(0, .ref 146), (1, .int (Int32.ofInt x1)), (2, .int (Int32.ofInt x2)), (3, .int (Int32.ofInt x3)), (4, .int (Int32.ofInt x4)), (5, .int (Int32.ofInt (s 166 i4))), (6, .int (Int32.ofInt (x6 + 1)))]) (lsub_p [2, 3, 4, 5, 6, 1, 0] rfl rfl rfl) ?_
      cases hx
      exact kn _ _ rfl rfl
noncomputable def xm_peek_b40 (s : Hp) (x1 : Int) (x2 : Int) (x3 : Int) (x4 : Int) : Option ((Int × Int × Int) ⊕ (Int × Int × Int)) :=
  (ix 130 0).bind fun i1 => if w32 x4 < w32 (s 156 i1) then (lp (fun (q : Int × Int) => xm_peek_b57 s x1 x2 x3 x4 q.1 q.2) (0, 0)).bind fun q4 => if w32 x2 < 0 then some (.inl (x4, q4.1, x4 + 1)) else if w32 q4.1 < w32 x3 then some (.inl (x4, q4.1, x4 + 1)) else some (.inl (x2, x3, x4 + 1)) else some (.inr (x2, x3, x4))
set_option maxRecDepth 100000 in
theorem xm_peek_b40_ok {d : Nat} {P : Option Value → pm_H → Prop} {w : pm_H} {sh : Shp} {w0 : pm_H} {s : Hp} (hS : StM sh) {x1 : Int} {x2 : Int} {x3 : Int} {x4 : Int} (h : Rw sh w0 s w) {o : ((Int × Int × Int) ⊕ (Int × Int × Int))} (hx : xm_peek_b40 s x1 x2 x3 x4 = some o) (kn : ∀ (q : Int × Int × Int) w1, o = .inl q → w = w1 → wp (d + 4) 246 40 [(0, .ref 146), (1, .int (Int32.ofInt x1)), (2, .int (Int32.ofInt q.1)), (3, .int (Int32.ofInt q.2.1)), (4, .int (Int32.ofInt q.2.2))] [] w1 P) (kc : ∀ (r : (Int × Int × Int)), o = .inr r → (∀ w1, w = w1 → wp (d + 4) 246 137 [(0, .ref 146), (1, .int (Int32.ofInt x1)), (2, .int (Int32.ofInt r.1)), (3, .int (Int32.ofInt r.2.1)), (4, .int (Int32.ofInt r.2.2))] [] w1 P)) : wp (d + 4) 246 40 [(0, .ref 146), (1, .int (Int32.ofInt x1)), (2, .int (Int32.ofInt x2)), (3, .int (Int32.ofInt x3)), (4, .int (Int32.ofInt x4))] [] w P := by
  unfold xm_peek_b40 at hx
  refine wp_g 2 (pc1 := 43) (lv1 := [(0, .ref 146), (1, .int (Int32.ofInt x1)), (2, .int (Int32.ofInt x2)), (3, .int (Int32.ofInt x3)), (4, .int (Int32.ofInt x4))]) (st1 := [.ref 146, .int (Int32.ofInt x4)]) (w1 := w) rfl ?_
  refine wx_gr (o := 10) (kf := 39) (ln := 3) (ci := 12) (b := 20) (zz := 0) (x := 146) (by decide +kernel) h (hS _ _ sm_146) rfl ?_
  show wp _ 246 46 [(0, .ref 146), (1, .int (Int32.ofInt x1)), (2, .int (Int32.ofInt x2)), (3, .int (Int32.ofInt x3)), (4, .int (Int32.ofInt x4))] [.ref 156, .int (Int32.ofInt x4)] w _
  refine wp_g 1 (pc1 := 47) (lv1 := [(0, .ref 146), (1, .int (Int32.ofInt x1)), (2, .int (Int32.ofInt x2)), (3, .int (Int32.ofInt x3)), (4, .int (Int32.ofInt x4))]) (st1 := [.int (Int32.ofInt 0), .ref 156, .int (Int32.ofInt x4)]) (w1 := w) rfl ?_
  obtain ⟨i1, e2, hx⟩ := bd hx
  refine wx_ra (x := 156) (n := 130) (ln := 1) (a := 0) (b := 0) (zz := 0) (by decide +kernel) h (hS _ _ sm_156) e2 ?_
  show wp _ 246 48 [(0, .ref 146), (1, .int (Int32.ofInt x1)), (2, .int (Int32.ofInt x2)), (3, .int (Int32.ofInt x3)), (4, .int (Int32.ofInt x4))] [.int (Int32.ofInt (s 156 i1)), .int (Int32.ofInt x4)] w _
  refine wx_ge (oo := 89) (ln := 3) (a := 137) (b := 0) (zz := 0) (by decide +kernel) (fun h3 => ?_) (fun h3 => ?_)
  · have hx := ite_f h3 hx
    cases hx
    exact kc _ rfl _ rfl
  · have hx := ite_t h3 hx
    refine wp_g 4 (pc1 := 57) (lv1 := [(6, .int (Int32.ofInt 0)), (5, .int (Int32.ofInt 0)), (0, .ref 146), (1, .int (Int32.ofInt x1)), (2, .int (Int32.ofInt x2)), (3, .int (Int32.ofInt x3)), (4, .int (Int32.ofInt x4))]) (st1 := []) (w1 := w) rfl ?_
    refine wp_lv (lv1 := [(0, .ref 146), (1, .int (Int32.ofInt x1)), (2, .int (Int32.ofInt x2)), (3, .int (Int32.ofInt x3)), (4, .int (Int32.ofInt x4)), (5, .int (Int32.ofInt 0)), (6, .int (Int32.ofInt 0))]) (lsub_p [2, 3, 4, 5, 6, 1, 0] rfl rfl rfl) ?_
    obtain ⟨q4, e5, hx⟩ := bd hx
    refine wp_lp (σ := Int × Int) (ρ := (Int × Int)) (B := fun q => xm_peek_b57 s x1 x2 x3 x4 q.1 q.2) (R := fun q w' => w = w') (C := fun r => ∀ w1, w = w1 → wp (d + 4) 246 112 [(0, .ref 146), (1, .int (Int32.ofInt x1)), (2, .int (Int32.ofInt x2)), (3, .int (Int32.ofInt x3)), (4, .int (Int32.ofInt x4)), (5, .int (Int32.ofInt r.1)), (6, .int (Int32.ofInt r.2))] [] w1 P) (lv := fun q => [(0, .ref 146), (1, .int (Int32.ofInt x1)), (2, .int (Int32.ofInt x2)), (3, .int (Int32.ofInt x3)), (4, .int (Int32.ofInt x4)), (5, .int (Int32.ofInt q.1)), (6, .int (Int32.ofInt q.2))]) (hd := 57) (fun q w' o hR hb kn kc => by subst hR; exact xm_peek_b57_ok hS h hb kn kc) _ _ _ e5 rfl ?_
    intro w6 h7
    subst h7
    show wp _ 246 112 [(0, .ref 146), (1, .int (Int32.ofInt x1)), (2, .int (Int32.ofInt x2)), (3, .int (Int32.ofInt x3)), (4, .int (Int32.ofInt x4)), (5, .int (Int32.ofInt q4.1)), (6, .int (Int32.ofInt q4.2))] [] w _
    refine wp_g 1 (pc1 := 113) (lv1 := [(0, .ref 146), (1, .int (Int32.ofInt x1)), (2, .int (Int32.ofInt x2)), (3, .int (Int32.ofInt x3)), (4, .int (Int32.ofInt x4)), (5, .int (Int32.ofInt q4.1)), (6, .int (Int32.ofInt q4.2))]) (st1 := [.int (Int32.ofInt x2)]) (w1 := w) rfl ?_
    refine wz_lt (oo := 12) (ln := 3) (a := 125) (b := 0) (zz := 0) (by decide +kernel) (fun h8 => ?_) (fun h8 => ?_)
    · have hx := ite_t h8 hx
      refine wp_g 6 (pc1 := 40) (lv1 := [(4, .int (Int32.ofInt (x4 + 1))), (3, .int (Int32.ofInt q4.1)), (2, .int (Int32.ofInt x4)), (0, .ref 146), (1, .int (Int32.ofInt x1)), (5, .int (Int32.ofInt q4.1)), (6, .int (Int32.ofInt q4.2))]) (st1 := []) (w1 := w) (by simp only [Int32.ofInt_add, Int32.ofInt_sub, Int32.ofInt_mul, Int32.ofInt_neg, p_and, p_or, p_xor, p_shl, p_shr, p_usr, p_w8, p_c16, p_lI, q_and, q_or, q_shl, q_shr, q_w32, Int64.ofInt_add, Int64.ofInt_sub, Int64.ofInt_mul, p_mx, p_mn, q_mx, q_mn]; rfl) ?_
      refine wp_lv (lv1 := [(0, .ref 146), (1, .int (Int32.ofInt x1)), (2, .int (Int32.ofInt x4)), (3, .int (Int32.ofInt q4.1)), (4, .int (Int32.ofInt (x4 + 1)))]) (lsub_p [3, 4, 2, 1, 0] rfl rfl rfl) ?_
      cases hx
      exact kn _ _ rfl rfl
    · have hx := ite_f h8 hx
      refine wp_g 2 (pc1 := 119) (lv1 := [(0, .ref 146), (1, .int (Int32.ofInt x1)), (2, .int (Int32.ofInt x2)), (3, .int (Int32.ofInt x3)), (4, .int (Int32.ofInt x4)), (5, .int (Int32.ofInt q4.1)), (6, .int (Int32.ofInt q4.2))]) (st1 := [.int (Int32.ofInt x3), .int (Int32.ofInt q4.1)]) (w1 := w) rfl ?_
      refine wx_lt (oo := 6) (ln := 3) (a := 125) (b := 0) (zz := 0) (by decide +kernel) (fun h9 => ?_) (fun h9 => ?_)
      · have hx := ite_t h9 hx
        refine wp_g 6 (pc1 := 40) (lv1 := [(4, .int (Int32.ofInt (x4 + 1))), (3, .int (Int32.ofInt q4.1)), (2, .int (Int32.ofInt x4)), (0, .ref 146), (1, .int (Int32.ofInt x1)), (5, .int (Int32.ofInt q4.1)), (6, .int (Int32.ofInt q4.2))]) (st1 := []) (w1 := w) (by simp only [Int32.ofInt_add, Int32.ofInt_sub, Int32.ofInt_mul, Int32.ofInt_neg, p_and, p_or, p_xor, p_shl, p_shr, p_usr, p_w8, p_c16, p_lI, q_and, q_or, q_shl, q_shr, q_w32, Int64.ofInt_add, Int64.ofInt_sub, Int64.ofInt_mul, p_mx, p_mn, q_mx, q_mn]; rfl) ?_
        refine wp_lv (lv1 := [(0, .ref 146), (1, .int (Int32.ofInt x1)), (2, .int (Int32.ofInt x4)), (3, .int (Int32.ofInt q4.1)), (4, .int (Int32.ofInt (x4 + 1)))]) (lsub_p [3, 4, 2, 1, 0] rfl rfl rfl) ?_
        cases hx
        exact kn _ _ rfl rfl
      · have hx := ite_f h9 hx
        refine wp_g 3 (pc1 := 40) (lv1 := [(4, .int (Int32.ofInt (x4 + 1))), (0, .ref 146), (1, .int (Int32.ofInt x1)), (2, .int (Int32.ofInt x2)), (3, .int (Int32.ofInt x3)), (5, .int (Int32.ofInt q4.1)), (6, .int (Int32.ofInt q4.2))]) (st1 := []) (w1 := w) (by simp only [Int32.ofInt_add, Int32.ofInt_sub, Int32.ofInt_mul, Int32.ofInt_neg, p_and, p_or, p_xor, p_shl, p_shr, p_usr, p_w8, p_c16, p_lI, q_and, q_or, q_shl, q_shr, q_w32, Int64.ofInt_add, Int64.ofInt_sub, Int64.ofInt_mul, p_mx, p_mn, q_mx, q_mn]; rfl) ?_
        refine wp_lv (lv1 := [(0, .ref 146), (1, .int (Int32.ofInt x1)), (2, .int (Int32.ofInt x2)), (3, .int (Int32.ofInt x3)), (4, .int (Int32.ofInt (x4 + 1)))]) (lsub_p [1, 2, 3, 4, 0] rfl rfl rfl) ?_
        cases hx
        exact kn _ _ rfl rfl
/-- FoldDeedsModel.peek (I)I -/
noncomputable def xm_peek (s : Hp) (p1 : Int) : Option (Int × Hp) :=
  (xm_isCloth s).bind fun o1 => if w32 o1 = 0 then some ((-1), s) else (xm_in (w32 p1) 0 1).bind fun o6 => if w32 o6 = 0 then some ((-1), s) else (xm_findsStacks s).bind fun o11 => if w32 (o11 146 33) = 0 then some ((-2), o11) else (lp (fun (q : Int × Int × Int) => xm_peek_b40 o11 p1 q.1 q.2.1 q.2.2) ((-1), 0, 0)).bind fun q16 => if w32 p1 = 0 then some (q16.1, o11) else some (q16.2.1, o11)
set_option maxRecDepth 100000 in
theorem xm_peek_ok {d : Nat} {P : Option Value → pm_H → Prop} {w : pm_H} {sh : Shp} {w0 : pm_H} {s : Hp} (hS : StM sh) {p1 : Int} (h : Rw sh w0 s w) {o : Int × Hp} (hx : xm_peek s p1 = some o) (kr : ∀ w1, Rw sh w0 o.2 w1 → P (some (.int (Int32.ofInt o.1))) w1) : wp (d + 4) 246 0 (lv_args 0 [.ref 146, .int (Int32.ofInt p1)]) [] w P := by
  show wp _ 246 0 [(0, .ref 146), (1, .int (Int32.ofInt p1))] [] w _
  unfold xm_peek at hx
  refine wp_g 1 (pc1 := 1) (lv1 := [(0, .ref 146), (1, .int (Int32.ofInt p1))]) (st1 := [.ref 146]) (w1 := w) rfl ?_
  obtain ⟨o1, e2, hx⟩ := bd hx
  refine wp_cl [.ref 146] [] (i := .invokevirtual 301) (ln := 3) (a := 190) (b := 0) (z := 0) (by decide +kernel) rfl rfl (by decide) rfl (show (1 : Nat) = pm_na 190 by decide +kernel) (Nat.le_of_ble_eq_true rfl) (show (1 : Nat) ≤ pm_n 190 by decide +kernel) (rcv_x 12 h (hS _ _ sm_146) (by decide +kernel)) (xm_isCloth_ok (d := d + 3) hS h e2 ?_)
  show wp _ 246 4 [(0, .ref 146), (1, .int (Int32.ofInt p1))] [.int (Int32.ofInt o1)] w _
  refine wz_eq (oo := 13) (ln := 3) (a := 17) (b := 0) (zz := 0) (by decide +kernel) (fun h5 => ?_) (fun h5 => ?_)
  · have hx := ite_t h5 hx
    refine wp_g 1 (pc1 := 18) (lv1 := [(0, .ref 146), (1, .int (Int32.ofInt p1))]) (st1 := [.int (Int32.ofInt (-1))]) (w1 := w) rfl ?_
    refine wp_rt (i := .ireturn) (r := some (.int (Int32.ofInt (-1)))) (ln := 1) (a := 0) (b := 0) (z := 0) (by decide +kernel) rfl (ret_ok (by decide +kernel)) ?_
    cases hx
    exact kr _ h
  · have hx := ite_f h5 hx
    refine wp_g 4 (pc1 := 11) (lv1 := [(0, .ref 146), (1, .int (Int32.ofInt p1))]) (st1 := [.long (Int64.ofInt 1), .long (Int64.ofInt 0), .long (Int64.ofInt (w32 p1))]) (w1 := w) (by simp only [Int32.ofInt_add, Int32.ofInt_sub, Int32.ofInt_mul, Int32.ofInt_neg, p_and, p_or, p_xor, p_shl, p_shr, p_usr, p_w8, p_c16, p_lI, q_and, q_or, q_shl, q_shr, q_w32, Int64.ofInt_add, Int64.ofInt_sub, Int64.ofInt_mul, p_mx, p_mn, q_mx, q_mn]; rfl) ?_
    obtain ⟨o6, e7, hx⟩ := bd hx
    refine wp_cl [.long (Int64.ofInt (w32 p1)), .long (Int64.ofInt 0), .long (Int64.ofInt 1)] [] (i := .invokestatic 139) (ln := 3) (a := 147) (b := 1) (z := 0) (by decide +kernel) rfl rfl (by decide) rfl (show (3 : Nat) = pm_na 147 by decide +kernel) (Nat.le_of_ble_eq_true rfl) (show (6 : Nat) ≤ pm_n 147 by decide +kernel) (by rw [show pm_k 147 = 1 by decide +kernel]; rfl) (xm_in_ok (d := d + 3) e7 ?_)
    show wp _ 246 14 [(0, .ref 146), (1, .int (Int32.ofInt p1))] [.int (Int32.ofInt o6)] w _
    refine wz_ne (oo := 5) (ln := 3) (a := 19) (b := 0) (zz := 0) (by decide +kernel) (fun h10 => ?_) (fun h10 => ?_)
    · have hx := ite_f h10 hx
      refine wp_g 1 (pc1 := 20) (lv1 := [(0, .ref 146), (1, .int (Int32.ofInt p1))]) (st1 := [.ref 146]) (w1 := w) rfl ?_
      obtain ⟨o11, e12, hx⟩ := bd hx
      refine wp_cl [.ref 146] [] (i := .invokevirtual 456) (ln := 3) (a := 244) (b := 0) (z := 0) (by decide +kernel) rfl rfl (by decide) rfl (show (1 : Nat) = pm_na 244 by decide +kernel) (Nat.le_of_ble_eq_true rfl) (show (1 : Nat) ≤ pm_n 244 by decide +kernel) (rcv_x 12 h (hS _ _ sm_146) (by decide +kernel)) (xm_findsStacks_ok (d := d) hS h e12 (fun w13 h14 => ?_))
      show wp _ 246 23 [(0, .ref 146), (1, .int (Int32.ofInt p1))] [] w13 _
      refine wp_g 1 (pc1 := 24) (lv1 := [(0, .ref 146), (1, .int (Int32.ofInt p1))]) (st1 := [.ref 146]) (w1 := w13) rfl ?_
      refine wx_gi (kf := 441) (ln := 3) (ci := 12) (b := 33) (zz := 0) (x := 146) (by decide +kernel) h14 (hS _ _ sm_146) rfl ?_
      show wp _ 246 27 [(0, .ref 146), (1, .int (Int32.ofInt p1))] [.int (Int32.ofInt (o11 146 33))] w13 _
      refine wz_ne (oo := 6) (ln := 3) (a := 33) (b := 0) (zz := 0) (by decide +kernel) (fun h15 => ?_) (fun h15 => ?_)
      · have hx := ite_f h15 hx
        refine wp_g 6 (pc1 := 40) (lv1 := [(4, .int (Int32.ofInt 0)), (3, .int (Int32.ofInt 0)), (2, .int (Int32.ofInt (-1))), (0, .ref 146), (1, .int (Int32.ofInt p1))]) (st1 := []) (w1 := w13) rfl ?_
        refine wp_lv (lv1 := [(0, .ref 146), (1, .int (Int32.ofInt p1)), (2, .int (Int32.ofInt (-1))), (3, .int (Int32.ofInt 0)), (4, .int (Int32.ofInt 0))]) (lsub_p [3, 4, 2, 1, 0] rfl rfl rfl) ?_
        obtain ⟨q16, e17, hx⟩ := bd hx
        refine wp_lp (σ := Int × Int × Int) (ρ := (Int × Int × Int)) (B := fun q => xm_peek_b40 o11 p1 q.1 q.2.1 q.2.2) (R := fun q w' => w13 = w') (C := fun r => ∀ w1, w13 = w1 → wp (d + 4) 246 137 [(0, .ref 146), (1, .int (Int32.ofInt p1)), (2, .int (Int32.ofInt r.1)), (3, .int (Int32.ofInt r.2.1)), (4, .int (Int32.ofInt r.2.2))] [] w1 P) (lv := fun q => [(0, .ref 146), (1, .int (Int32.ofInt p1)), (2, .int (Int32.ofInt q.1)), (3, .int (Int32.ofInt q.2.1)), (4, .int (Int32.ofInt q.2.2))]) (hd := 40) (fun q w' o hR hb kn kc => by subst hR; exact xm_peek_b40_ok hS h14 hb kn kc) _ _ _ e17 rfl ?_
        intro w18 h19
        subst h19
        show wp _ 246 137 [(0, .ref 146), (1, .int (Int32.ofInt p1)), (2, .int (Int32.ofInt q16.1)), (3, .int (Int32.ofInt q16.2.1)), (4, .int (Int32.ofInt q16.2.2))] [] w13 _
        refine wp_g 1 (pc1 := 138) (lv1 := [(0, .ref 146), (1, .int (Int32.ofInt p1)), (2, .int (Int32.ofInt q16.1)), (3, .int (Int32.ofInt q16.2.1)), (4, .int (Int32.ofInt q16.2.2))]) (st1 := [.int (Int32.ofInt p1)]) (w1 := w13) rfl ?_
        refine wz_ne (oo := 7) (ln := 3) (a := 145) (b := 0) (zz := 0) (by decide +kernel) (fun h20 => ?_) (fun h20 => ?_)
        · have hx := ite_f h20 hx
          refine wp_g 1 (pc1 := 146) (lv1 := [(0, .ref 146), (1, .int (Int32.ofInt p1)), (2, .int (Int32.ofInt q16.1)), (3, .int (Int32.ofInt q16.2.1)), (4, .int (Int32.ofInt q16.2.2))]) (st1 := [.int (Int32.ofInt q16.2.1)]) (w1 := w13) rfl ?_
          refine wp_rt (i := .ireturn) (r := some (.int (Int32.ofInt q16.2.1))) (ln := 1) (a := 0) (b := 0) (z := 0) (by decide +kernel) rfl (ret_ok (by decide +kernel)) ?_
          cases hx
          exact kr _ h14
        · have hx := ite_t h20 hx
          refine wp_g 2 (pc1 := 146) (lv1 := [(0, .ref 146), (1, .int (Int32.ofInt p1)), (2, .int (Int32.ofInt q16.1)), (3, .int (Int32.ofInt q16.2.1)), (4, .int (Int32.ofInt q16.2.2))]) (st1 := [.int (Int32.ofInt q16.1)]) (w1 := w13) rfl ?_
          refine wp_rt (i := .ireturn) (r := some (.int (Int32.ofInt q16.1))) (ln := 1) (a := 0) (b := 0) (z := 0) (by decide +kernel) rfl (ret_ok (by decide +kernel)) ?_
          cases hx
          exact kr _ h14
      · have hx := ite_t h15 hx
        refine wp_g 1 (pc1 := 32) (lv1 := [(0, .ref 146), (1, .int (Int32.ofInt p1))]) (st1 := [.int (Int32.ofInt (-2))]) (w1 := w13) rfl ?_
        refine wp_rt (i := .ireturn) (r := some (.int (Int32.ofInt (-2)))) (ln := 1) (a := 0) (b := 0) (z := 0) (by decide +kernel) rfl (ret_ok (by decide +kernel)) ?_
        cases hx
        exact kr _ h14
    · have hx := ite_t h10 hx
      refine wp_g 1 (pc1 := 18) (lv1 := [(0, .ref 146), (1, .int (Int32.ofInt p1))]) (st1 := [.int (Int32.ofInt (-1))]) (w1 := w) rfl ?_
      refine wp_rt (i := .ireturn) (r := some (.int (Int32.ofInt (-1)))) (ln := 1) (a := 0) (b := 0) (z := 0) (by decide +kernel) rfl (ret_ok (by decide +kernel)) ?_
      cases hx
      exact kr _ h
noncomputable def xm_richest_b27 (s : Hp) (x1 : Int) (x2 : Int) (x3 : Int) : Option ((Int × Int) ⊕ (Int × Int)) :=
  (ix 130 0).bind fun i1 => if w32 x3 < w32 (bShl 1 ((s 156 i1) - 1)) then (ix 128 x3).bind fun i4 => (ix 128 x2).bind fun i6 => if w32 (s 167 i6) < w32 (s 167 i4) then some (.inl (x3, x3 + 1)) else some (.inl (x2, x3 + 1)) else some (.inr (x2, x3))
set_option maxRecDepth 100000 in
theorem xm_richest_b27_ok {d : Nat} {P : Option Value → pm_H → Prop} {w : pm_H} {sh : Shp} {w0 : pm_H} {s : Hp} (hS : StM sh) {x1 : Int} {x2 : Int} {x3 : Int} (h : Rw sh w0 s w) {o : ((Int × Int) ⊕ (Int × Int))} (hx : xm_richest_b27 s x1 x2 x3 = some o) (kn : ∀ (q : Int × Int) w1, o = .inl q → w = w1 → wp (d + 4) 247 27 [(0, .ref 146), (1, .int (Int32.ofInt x1)), (2, .int (Int32.ofInt q.1)), (3, .int (Int32.ofInt q.2))] [] w1 P) (kc : ∀ (r : (Int × Int)), o = .inr r → (∀ w1, w = w1 → wp (d + 4) 247 64 [(0, .ref 146), (1, .int (Int32.ofInt x1)), (2, .int (Int32.ofInt r.1)), (3, .int (Int32.ofInt r.2))] [] w1 P)) : wp (d + 4) 247 27 [(0, .ref 146), (1, .int (Int32.ofInt x1)), (2, .int (Int32.ofInt x2)), (3, .int (Int32.ofInt x3))] [] w P := by
  unfold xm_richest_b27 at hx
  refine wp_g 3 (pc1 := 30) (lv1 := [(0, .ref 146), (1, .int (Int32.ofInt x1)), (2, .int (Int32.ofInt x2)), (3, .int (Int32.ofInt x3))]) (st1 := [.ref 146, .int (Int32.ofInt 1), .int (Int32.ofInt x3)]) (w1 := w) rfl ?_
  refine wx_gr (o := 10) (kf := 39) (ln := 3) (ci := 12) (b := 20) (zz := 0) (x := 146) (by decide +kernel) h (hS _ _ sm_146) rfl ?_
  show wp _ 247 33 [(0, .ref 146), (1, .int (Int32.ofInt x1)), (2, .int (Int32.ofInt x2)), (3, .int (Int32.ofInt x3))] [.ref 156, .int (Int32.ofInt 1), .int (Int32.ofInt x3)] w _
  refine wp_g 1 (pc1 := 34) (lv1 := [(0, .ref 146), (1, .int (Int32.ofInt x1)), (2, .int (Int32.ofInt x2)), (3, .int (Int32.ofInt x3))]) (st1 := [.int (Int32.ofInt 0), .ref 156, .int (Int32.ofInt 1), .int (Int32.ofInt x3)]) (w1 := w) rfl ?_
  obtain ⟨i1, e2, hx⟩ := bd hx
  refine wx_ra (x := 156) (n := 130) (ln := 1) (a := 0) (b := 0) (zz := 0) (by decide +kernel) h (hS _ _ sm_156) e2 ?_
  show wp _ 247 35 [(0, .ref 146), (1, .int (Int32.ofInt x1)), (2, .int (Int32.ofInt x2)), (3, .int (Int32.ofInt x3))] [.int (Int32.ofInt (s 156 i1)), .int (Int32.ofInt 1), .int (Int32.ofInt x3)] w _
  refine wp_g 3 (pc1 := 38) (lv1 := [(0, .ref 146), (1, .int (Int32.ofInt x1)), (2, .int (Int32.ofInt x2)), (3, .int (Int32.ofInt x3))]) (st1 := [.int (Int32.ofInt (bShl 1 ((s 156 i1) - 1))), .int (Int32.ofInt x3)]) (w1 := w) (by simp only [Int32.ofInt_add, Int32.ofInt_sub, Int32.ofInt_mul, Int32.ofInt_neg, p_and, p_or, p_xor, p_shl, p_shr, p_usr, p_w8, p_c16, p_lI, q_and, q_or, q_shl, q_shr, q_w32, Int64.ofInt_add, Int64.ofInt_sub, Int64.ofInt_mul, p_mx, p_mn, q_mx, q_mn]; rfl) ?_
  refine wx_ge (oo := 26) (ln := 3) (a := 64) (b := 0) (zz := 0) (by decide +kernel) (fun h3 => ?_) (fun h3 => ?_)
  · have hx := ite_f h3 hx
    cases hx
    exact kc _ rfl _ rfl
  · have hx := ite_t h3 hx
    refine wp_g 1 (pc1 := 42) (lv1 := [(0, .ref 146), (1, .int (Int32.ofInt x1)), (2, .int (Int32.ofInt x2)), (3, .int (Int32.ofInt x3))]) (st1 := [.ref 146]) (w1 := w) rfl ?_
    refine wx_gr (o := 21) (kf := 76) (ln := 3) (ci := 12) (b := 36) (zz := 0) (x := 146) (by decide +kernel) h (hS _ _ sm_146) rfl ?_
    show wp _ 247 45 [(0, .ref 146), (1, .int (Int32.ofInt x1)), (2, .int (Int32.ofInt x2)), (3, .int (Int32.ofInt x3))] [.ref 167] w _
    refine wp_g 1 (pc1 := 46) (lv1 := [(0, .ref 146), (1, .int (Int32.ofInt x1)), (2, .int (Int32.ofInt x2)), (3, .int (Int32.ofInt x3))]) (st1 := [.int (Int32.ofInt x3), .ref 167]) (w1 := w) rfl ?_
    obtain ⟨i4, e5, hx⟩ := bd hx
    refine wx_ra (x := 167) (n := 128) (ln := 1) (a := 0) (b := 0) (zz := 0) (by decide +kernel) h (hS _ _ sm_167) e5 ?_
    show wp _ 247 47 [(0, .ref 146), (1, .int (Int32.ofInt x1)), (2, .int (Int32.ofInt x2)), (3, .int (Int32.ofInt x3))] [.int (Int32.ofInt (s 167 i4))] w _
    refine wp_g 1 (pc1 := 48) (lv1 := [(0, .ref 146), (1, .int (Int32.ofInt x1)), (2, .int (Int32.ofInt x2)), (3, .int (Int32.ofInt x3))]) (st1 := [.ref 146, .int (Int32.ofInt (s 167 i4))]) (w1 := w) rfl ?_
    refine wx_gr (o := 21) (kf := 76) (ln := 3) (ci := 12) (b := 36) (zz := 0) (x := 146) (by decide +kernel) h (hS _ _ sm_146) rfl ?_
    show wp _ 247 51 [(0, .ref 146), (1, .int (Int32.ofInt x1)), (2, .int (Int32.ofInt x2)), (3, .int (Int32.ofInt x3))] [.ref 167, .int (Int32.ofInt (s 167 i4))] w _
    refine wp_g 1 (pc1 := 52) (lv1 := [(0, .ref 146), (1, .int (Int32.ofInt x1)), (2, .int (Int32.ofInt x2)), (3, .int (Int32.ofInt x3))]) (st1 := [.int (Int32.ofInt x2), .ref 167, .int (Int32.ofInt (s 167 i4))]) (w1 := w) rfl ?_
    obtain ⟨i6, e7, hx⟩ := bd hx
    refine wx_ra (x := 167) (n := 128) (ln := 1) (a := 0) (b := 0) (zz := 0) (by decide +kernel) h (hS _ _ sm_167) e7 ?_
    show wp _ 247 53 [(0, .ref 146), (1, .int (Int32.ofInt x1)), (2, .int (Int32.ofInt x2)), (3, .int (Int32.ofInt x3))] [.int (Int32.ofInt (s 167 i6)), .int (Int32.ofInt (s 167 i4))] w _
    refine wx_le (oo := 5) (ln := 3) (a := 58) (b := 0) (zz := 0) (by decide +kernel) (fun h8 => ?_) (fun h8 => ?_)
    · have hx := ite_f h8 hx
      refine wp_g 2 (pc1 := 27) (lv1 := [(3, .int (Int32.ofInt (x3 + 1))), (0, .ref 146), (1, .int (Int32.ofInt x1)), (2, .int (Int32.ofInt x2))]) (st1 := []) (w1 := w) (by simp only [Int32.ofInt_add, Int32.ofInt_sub, Int32.ofInt_mul, Int32.ofInt_neg, p_and, p_or, p_xor, p_shl, p_shr, p_usr, p_w8, p_c16, p_lI, q_and, q_or, q_shl, q_shr, q_w32, Int64.ofInt_add, Int64.ofInt_sub, Int64.ofInt_mul, p_mx, p_mn, q_mx, q_mn]; rfl) ?_
      refine wp_lv (lv1 := [(0, .ref 146), (1, .int (Int32.ofInt x1)), (2, .int (Int32.ofInt x2)), (3, .int (Int32.ofInt (x3 + 1)))]) (lsub_p [1, 2, 3, 0] rfl rfl rfl) ?_
      cases hx
      exact kn _ _ rfl rfl
    · have hx := ite_t h8 hx
      refine wp_g 4 (pc1 := 27) (lv1 := [(3, .int (Int32.ofInt (x3 + 1))), (2, .int (Int32.ofInt x3)), (0, .ref 146), (1, .int (Int32.ofInt x1))]) (st1 := []) (w1 := w) (by simp only [Int32.ofInt_add, Int32.ofInt_sub, Int32.ofInt_mul, Int32.ofInt_neg, p_and, p_or, p_xor, p_shl, p_shr, p_usr, p_w8, p_c16, p_lI, q_and, q_or, q_shl, q_shr, q_w32, Int64.ofInt_add, Int64.ofInt_sub, Int64.ofInt_mul, p_mx, p_mn, q_mx, q_mn]; rfl) ?_
      refine wp_lv (lv1 := [(0, .ref 146), (1, .int (Int32.ofInt x1)), (2, .int (Int32.ofInt x3)), (3, .int (Int32.ofInt (x3 + 1)))]) (lsub_p [2, 3, 1, 0] rfl rfl rfl) ?_
      cases hx
      exact kn _ _ rfl rfl
/-- FoldDeedsModel.richest (I)I -/
noncomputable def xm_richest (s : Hp) (p1 : Int) : Option (Int × Hp) :=
  (xm_isCloth s).bind fun o1 => if w32 o1 = 0 then some ((-1), s) else (xm_in (w32 p1) 0 1).bind fun o6 => if w32 o6 = 0 then some ((-1), s) else (xm_findsStacks s).bind fun o11 => (lp (fun (q : Int × Int) => xm_richest_b27 o11 p1 q.1 q.2) (0, 1)).bind fun q15 => if w32 p1 = 0 then (ix 128 q15.1).bind fun i20 => some (o11 167 i20, o11) else some (q15.1, o11)
set_option maxRecDepth 100000 in
theorem xm_richest_ok {d : Nat} {P : Option Value → pm_H → Prop} {w : pm_H} {sh : Shp} {w0 : pm_H} {s : Hp} (hS : StM sh) {p1 : Int} (h : Rw sh w0 s w) {o : Int × Hp} (hx : xm_richest s p1 = some o) (kr : ∀ w1, Rw sh w0 o.2 w1 → P (some (.int (Int32.ofInt o.1))) w1) : wp (d + 4) 247 0 (lv_args 0 [.ref 146, .int (Int32.ofInt p1)]) [] w P := by
  show wp _ 247 0 [(0, .ref 146), (1, .int (Int32.ofInt p1))] [] w _
  unfold xm_richest at hx
  refine wp_g 1 (pc1 := 1) (lv1 := [(0, .ref 146), (1, .int (Int32.ofInt p1))]) (st1 := [.ref 146]) (w1 := w) rfl ?_
  obtain ⟨o1, e2, hx⟩ := bd hx
  refine wp_cl [.ref 146] [] (i := .invokevirtual 301) (ln := 3) (a := 190) (b := 0) (z := 0) (by decide +kernel) rfl rfl (by decide) rfl (show (1 : Nat) = pm_na 190 by decide +kernel) (Nat.le_of_ble_eq_true rfl) (show (1 : Nat) ≤ pm_n 190 by decide +kernel) (rcv_x 12 h (hS _ _ sm_146) (by decide +kernel)) (xm_isCloth_ok (d := d + 3) hS h e2 ?_)
  show wp _ 247 4 [(0, .ref 146), (1, .int (Int32.ofInt p1))] [.int (Int32.ofInt o1)] w _
  refine wz_eq (oo := 13) (ln := 3) (a := 17) (b := 0) (zz := 0) (by decide +kernel) (fun h5 => ?_) (fun h5 => ?_)
  · have hx := ite_t h5 hx
    refine wp_g 1 (pc1 := 18) (lv1 := [(0, .ref 146), (1, .int (Int32.ofInt p1))]) (st1 := [.int (Int32.ofInt (-1))]) (w1 := w) rfl ?_
    refine wp_rt (i := .ireturn) (r := some (.int (Int32.ofInt (-1)))) (ln := 1) (a := 0) (b := 0) (z := 0) (by decide +kernel) rfl (ret_ok (by decide +kernel)) ?_
    cases hx
    exact kr _ h
  · have hx := ite_f h5 hx
    refine wp_g 4 (pc1 := 11) (lv1 := [(0, .ref 146), (1, .int (Int32.ofInt p1))]) (st1 := [.long (Int64.ofInt 1), .long (Int64.ofInt 0), .long (Int64.ofInt (w32 p1))]) (w1 := w) (by simp only [Int32.ofInt_add, Int32.ofInt_sub, Int32.ofInt_mul, Int32.ofInt_neg, p_and, p_or, p_xor, p_shl, p_shr, p_usr, p_w8, p_c16, p_lI, q_and, q_or, q_shl, q_shr, q_w32, Int64.ofInt_add, Int64.ofInt_sub, Int64.ofInt_mul, p_mx, p_mn, q_mx, q_mn]; rfl) ?_
    obtain ⟨o6, e7, hx⟩ := bd hx
    refine wp_cl [.long (Int64.ofInt (w32 p1)), .long (Int64.ofInt 0), .long (Int64.ofInt 1)] [] (i := .invokestatic 139) (ln := 3) (a := 147) (b := 1) (z := 0) (by decide +kernel) rfl rfl (by decide) rfl (show (3 : Nat) = pm_na 147 by decide +kernel) (Nat.le_of_ble_eq_true rfl) (show (6 : Nat) ≤ pm_n 147 by decide +kernel) (by rw [show pm_k 147 = 1 by decide +kernel]; rfl) (xm_in_ok (d := d + 3) e7 ?_)
    show wp _ 247 14 [(0, .ref 146), (1, .int (Int32.ofInt p1))] [.int (Int32.ofInt o6)] w _
    refine wz_ne (oo := 5) (ln := 3) (a := 19) (b := 0) (zz := 0) (by decide +kernel) (fun h10 => ?_) (fun h10 => ?_)
    · have hx := ite_f h10 hx
      refine wp_g 1 (pc1 := 20) (lv1 := [(0, .ref 146), (1, .int (Int32.ofInt p1))]) (st1 := [.ref 146]) (w1 := w) rfl ?_
      obtain ⟨o11, e12, hx⟩ := bd hx
      refine wp_cl [.ref 146] [] (i := .invokevirtual 456) (ln := 3) (a := 244) (b := 0) (z := 0) (by decide +kernel) rfl rfl (by decide) rfl (show (1 : Nat) = pm_na 244 by decide +kernel) (Nat.le_of_ble_eq_true rfl) (show (1 : Nat) ≤ pm_n 244 by decide +kernel) (rcv_x 12 h (hS _ _ sm_146) (by decide +kernel)) (xm_findsStacks_ok (d := d) hS h e12 (fun w13 h14 => ?_))
      show wp _ 247 23 [(0, .ref 146), (1, .int (Int32.ofInt p1))] [] w13 _
      refine wp_g 4 (pc1 := 27) (lv1 := [(3, .int (Int32.ofInt 1)), (2, .int (Int32.ofInt 0)), (0, .ref 146), (1, .int (Int32.ofInt p1))]) (st1 := []) (w1 := w13) rfl ?_
      refine wp_lv (lv1 := [(0, .ref 146), (1, .int (Int32.ofInt p1)), (2, .int (Int32.ofInt 0)), (3, .int (Int32.ofInt 1))]) (lsub_p [2, 3, 1, 0] rfl rfl rfl) ?_
      obtain ⟨q15, e16, hx⟩ := bd hx
      refine wp_lp (σ := Int × Int) (ρ := (Int × Int)) (B := fun q => xm_richest_b27 o11 p1 q.1 q.2) (R := fun q w' => w13 = w') (C := fun r => ∀ w1, w13 = w1 → wp (d + 4) 247 64 [(0, .ref 146), (1, .int (Int32.ofInt p1)), (2, .int (Int32.ofInt r.1)), (3, .int (Int32.ofInt r.2))] [] w1 P) (lv := fun q => [(0, .ref 146), (1, .int (Int32.ofInt p1)), (2, .int (Int32.ofInt q.1)), (3, .int (Int32.ofInt q.2))]) (hd := 27) (fun q w' o hR hb kn kc => by subst hR; exact xm_richest_b27_ok hS h14 hb kn kc) _ _ _ e16 rfl ?_
      intro w17 h18
      subst h18
      show wp _ 247 64 [(0, .ref 146), (1, .int (Int32.ofInt p1)), (2, .int (Int32.ofInt q15.1)), (3, .int (Int32.ofInt q15.2))] [] w13 _
      refine wp_g 1 (pc1 := 65) (lv1 := [(0, .ref 146), (1, .int (Int32.ofInt p1)), (2, .int (Int32.ofInt q15.1)), (3, .int (Int32.ofInt q15.2))]) (st1 := [.int (Int32.ofInt p1)]) (w1 := w13) rfl ?_
      refine wz_ne (oo := 12) (ln := 3) (a := 77) (b := 0) (zz := 0) (by decide +kernel) (fun h19 => ?_) (fun h19 => ?_)
      · have hx := ite_f h19 hx
        refine wp_g 1 (pc1 := 78) (lv1 := [(0, .ref 146), (1, .int (Int32.ofInt p1)), (2, .int (Int32.ofInt q15.1)), (3, .int (Int32.ofInt q15.2))]) (st1 := [.int (Int32.ofInt q15.1)]) (w1 := w13) rfl ?_
        refine wp_rt (i := .ireturn) (r := some (.int (Int32.ofInt q15.1))) (ln := 1) (a := 0) (b := 0) (z := 0) (by decide +kernel) rfl (ret_ok (by decide +kernel)) ?_
        cases hx
        exact kr _ h14
      · have hx := ite_t h19 hx
        refine wp_g 1 (pc1 := 69) (lv1 := [(0, .ref 146), (1, .int (Int32.ofInt p1)), (2, .int (Int32.ofInt q15.1)), (3, .int (Int32.ofInt q15.2))]) (st1 := [.ref 146]) (w1 := w13) rfl ?_
        refine wx_gr (o := 21) (kf := 76) (ln := 3) (ci := 12) (b := 36) (zz := 0) (x := 146) (by decide +kernel) h14 (hS _ _ sm_146) rfl ?_
        show wp _ 247 72 [(0, .ref 146), (1, .int (Int32.ofInt p1)), (2, .int (Int32.ofInt q15.1)), (3, .int (Int32.ofInt q15.2))] [.ref 167] w13 _
        refine wp_g 1 (pc1 := 73) (lv1 := [(0, .ref 146), (1, .int (Int32.ofInt p1)), (2, .int (Int32.ofInt q15.1)), (3, .int (Int32.ofInt q15.2))]) (st1 := [.int (Int32.ofInt q15.1), .ref 167]) (w1 := w13) rfl ?_
        obtain ⟨i20, e21, hx⟩ := bd hx
        refine wx_ra (x := 167) (n := 128) (ln := 1) (a := 0) (b := 0) (zz := 0) (by decide +kernel) h14 (hS _ _ sm_167) e21 ?_
        show wp _ 247 74 [(0, .ref 146), (1, .int (Int32.ofInt p1)), (2, .int (Int32.ofInt q15.1)), (3, .int (Int32.ofInt q15.2))] [.int (Int32.ofInt (o11 167 i20))] w13 _
        refine wp_g 1 (pc1 := 78) (lv1 := [(0, .ref 146), (1, .int (Int32.ofInt p1)), (2, .int (Int32.ofInt q15.1)), (3, .int (Int32.ofInt q15.2))]) (st1 := [.int (Int32.ofInt (o11 167 i20))]) (w1 := w13) rfl ?_
        refine wp_rt (i := .ireturn) (r := some (.int (Int32.ofInt (o11 167 i20)))) (ln := 1) (a := 0) (b := 0) (z := 0) (by decide +kernel) rfl (ret_ok (by decide +kernel)) ?_
        cases hx
        exact kr _ h14
    · have hx := ite_t h10 hx
      refine wp_g 1 (pc1 := 18) (lv1 := [(0, .ref 146), (1, .int (Int32.ofInt p1))]) (st1 := [.int (Int32.ofInt (-1))]) (w1 := w) rfl ?_
      refine wp_rt (i := .ireturn) (r := some (.int (Int32.ofInt (-1)))) (ln := 1) (a := 0) (b := 0) (z := 0) (by decide +kernel) rfl (ret_ok (by decide +kernel)) ?_
      cases hx
      exact kr _ h
noncomputable def xm_last_b44_j74 (s : Hp) (x1 : Int) (x2 : Int) (x3 : Int) (k1 : Int) : Option ((Int × Hp) ⊕ (Int × Hp)) :=
  (ix 9 k1).bind fun i1 => if w32 (s 168 i1) < 0 then (ix 9 x2).bind fun i4 => (some (uh s 168 i4 x3)).bind fun s6 => some (.inl (x3 + (-1), s6)) else some (.inl (x3 + (-1), s))
set_option maxRecDepth 100000 in
theorem xm_last_b44_j74_ok {d : Nat} {P : Option Value → pm_H → Prop} {w : pm_H} {sh : Shp} {w0 : pm_H} {s : Hp} (hS : StM sh) {x1 : Int} {x2 : Int} {x3 : Int} {k1 : Int} (h : Rw sh w0 s w) {o : ((Int × Hp) ⊕ (Int × Hp))} (hx : xm_last_b44_j74 s x1 x2 x3 k1 = some o) (kn : ∀ (q : Int × Hp) w1, o = .inl q → Rw sh w0 q.2 w1 → wp (d + 1) 248 44 [(0, .ref 146), (1, .int (Int32.ofInt x1)), (2, .int (Int32.ofInt x2)), (3, .int (Int32.ofInt q.1))] [] w1 P) (kc : ∀ (r : (Int × Hp)), o = .inr r → (∀ w1, Rw sh w0 r.2 w1 → wp (d + 1) 248 91 [(0, .ref 146), (1, .int (Int32.ofInt x1)), (2, .int (Int32.ofInt x2)), (3, .int (Int32.ofInt r.1))] [] w1 P)) : wp (d + 1) 248 74 [(0, .ref 146), (1, .int (Int32.ofInt x1)), (2, .int (Int32.ofInt x2)), (3, .int (Int32.ofInt x3))] [.int (Int32.ofInt k1), .ref 168] w P := by
  unfold xm_last_b44_j74 at hx
  obtain ⟨i1, e2, hx⟩ := bd hx
  refine wx_ra (x := 168) (n := 9) (ln := 1) (a := 0) (b := 0) (zz := 0) (by decide +kernel) h (hS _ _ sm_168) e2 ?_
  show wp _ 248 75 [(0, .ref 146), (1, .int (Int32.ofInt x1)), (2, .int (Int32.ofInt x2)), (3, .int (Int32.ofInt x3))] [.int (Int32.ofInt (s 168 i1))] w _
  refine wz_ge (oo := 10) (ln := 3) (a := 85) (b := 0) (zz := 0) (by decide +kernel) (fun h3 => ?_) (fun h3 => ?_)
  · have hx := ite_f h3 hx
    refine wp_g 2 (pc1 := 44) (lv1 := [(3, .int (Int32.ofInt (x3 + (-1)))), (0, .ref 146), (1, .int (Int32.ofInt x1)), (2, .int (Int32.ofInt x2))]) (st1 := []) (w1 := w) (by simp only [Int32.ofInt_add, Int32.ofInt_sub, Int32.ofInt_mul, Int32.ofInt_neg, p_and, p_or, p_xor, p_shl, p_shr, p_usr, p_w8, p_c16, p_lI, q_and, q_or, q_shl, q_shr, q_w32, Int64.ofInt_add, Int64.ofInt_sub, Int64.ofInt_mul, p_mx, p_mn, q_mx, q_mn]; rfl) ?_
    refine wp_lv (lv1 := [(0, .ref 146), (1, .int (Int32.ofInt x1)), (2, .int (Int32.ofInt x2)), (3, .int (Int32.ofInt (x3 + (-1))))]) (lsub_p [1, 2, 3, 0] rfl rfl rfl) ?_
    cases hx
    exact kn _ _ rfl h
  · have hx := ite_t h3 hx
    refine wp_g 1 (pc1 := 79) (lv1 := [(0, .ref 146), (1, .int (Int32.ofInt x1)), (2, .int (Int32.ofInt x2)), (3, .int (Int32.ofInt x3))]) (st1 := [.ref 146]) (w1 := w) rfl ?_
    refine wx_gr (o := 22) (kf := 79) (ln := 3) (ci := 12) (b := 37) (zz := 0) (x := 146) (by decide +kernel) h (hS _ _ sm_146) rfl ?_
    show wp _ 248 82 [(0, .ref 146), (1, .int (Int32.ofInt x1)), (2, .int (Int32.ofInt x2)), (3, .int (Int32.ofInt x3))] [.ref 168] w _
    refine wp_g 2 (pc1 := 84) (lv1 := [(0, .ref 146), (1, .int (Int32.ofInt x1)), (2, .int (Int32.ofInt x2)), (3, .int (Int32.ofInt x3))]) (st1 := [.int (Int32.ofInt x3), .int (Int32.ofInt x2), .ref 168]) (w1 := w) rfl ?_
    obtain ⟨i4, e5, hx⟩ := bd hx
    obtain ⟨s6, e7, hx⟩ := bd hx
    refine wx_wa (x := 168) (n := 9) (ln := 1) (a := 0) (b := 0) (zz := 0) (by decide +kernel) h (hS _ _ sm_168) e5 e7 (fun w8 h9 => ?_)
    refine wp_g 2 (pc1 := 44) (lv1 := [(3, .int (Int32.ofInt (x3 + (-1)))), (0, .ref 146), (1, .int (Int32.ofInt x1)), (2, .int (Int32.ofInt x2))]) (st1 := []) (w1 := w8) (by simp only [Int32.ofInt_add, Int32.ofInt_sub, Int32.ofInt_mul, Int32.ofInt_neg, p_and, p_or, p_xor, p_shl, p_shr, p_usr, p_w8, p_c16, p_lI, q_and, q_or, q_shl, q_shr, q_w32, Int64.ofInt_add, Int64.ofInt_sub, Int64.ofInt_mul, p_mx, p_mn, q_mx, q_mn]; rfl) ?_
    refine wp_lv (lv1 := [(0, .ref 146), (1, .int (Int32.ofInt x1)), (2, .int (Int32.ofInt x2)), (3, .int (Int32.ofInt (x3 + (-1))))]) (lsub_p [1, 2, 3, 0] rfl rfl rfl) ?_
    cases hx
    exact kn _ _ rfl h9
noncomputable def xm_last_b44 (s : Hp) (x1 : Int) (x2 : Int) (x3 : Int) : Option ((Int × Hp) ⊕ (Int × Hp)) :=
  if w32 x3 < 0 then some (.inr (x3, s)) else if w32 ((x2 - x3) - 1) < w32 (x3 + 1) then xm_last_b44_j74 s x1 x2 x3 (x3 + 1) else xm_last_b44_j74 s x1 x2 x3 ((x2 - x3) - 1)
set_option maxRecDepth 100000 in
theorem xm_last_b44_ok {d : Nat} {P : Option Value → pm_H → Prop} {w : pm_H} {sh : Shp} {w0 : pm_H} {s : Hp} (hS : StM sh) {x1 : Int} {x2 : Int} {x3 : Int} (h : Rw sh w0 s w) {o : ((Int × Hp) ⊕ (Int × Hp))} (hx : xm_last_b44 s x1 x2 x3 = some o) (kn : ∀ (q : Int × Hp) w1, o = .inl q → Rw sh w0 q.2 w1 → wp (d + 1) 248 44 [(0, .ref 146), (1, .int (Int32.ofInt x1)), (2, .int (Int32.ofInt x2)), (3, .int (Int32.ofInt q.1))] [] w1 P) (kc : ∀ (r : (Int × Hp)), o = .inr r → (∀ w1, Rw sh w0 r.2 w1 → wp (d + 1) 248 91 [(0, .ref 146), (1, .int (Int32.ofInt x1)), (2, .int (Int32.ofInt x2)), (3, .int (Int32.ofInt r.1))] [] w1 P)) : wp (d + 1) 248 44 [(0, .ref 146), (1, .int (Int32.ofInt x1)), (2, .int (Int32.ofInt x2)), (3, .int (Int32.ofInt x3))] [] w P := by
  unfold xm_last_b44 at hx
  refine wp_g 1 (pc1 := 45) (lv1 := [(0, .ref 146), (1, .int (Int32.ofInt x1)), (2, .int (Int32.ofInt x2)), (3, .int (Int32.ofInt x3))]) (st1 := [.int (Int32.ofInt x3)]) (w1 := w) rfl ?_
  refine wz_lt (oo := 46) (ln := 3) (a := 91) (b := 0) (zz := 0) (by decide +kernel) (fun h1 => ?_) (fun h1 => ?_)
  · have hx := ite_t h1 hx
    cases hx
    exact kc _ rfl _ h
  · have hx := ite_f h1 hx
    refine wp_g 1 (pc1 := 49) (lv1 := [(0, .ref 146), (1, .int (Int32.ofInt x1)), (2, .int (Int32.ofInt x2)), (3, .int (Int32.ofInt x3))]) (st1 := [.ref 146]) (w1 := w) rfl ?_
    refine wx_gr (o := 22) (kf := 79) (ln := 3) (ci := 12) (b := 37) (zz := 0) (x := 146) (by decide +kernel) h (hS _ _ sm_146) rfl ?_
    show wp _ 248 52 [(0, .ref 146), (1, .int (Int32.ofInt x1)), (2, .int (Int32.ofInt x2)), (3, .int (Int32.ofInt x3))] [.ref 168] w _
    refine wp_g 8 (pc1 := 60) (lv1 := [(0, .ref 146), (1, .int (Int32.ofInt x1)), (2, .int (Int32.ofInt x2)), (3, .int (Int32.ofInt x3))]) (st1 := [.int (Int32.ofInt ((x2 - x3) - 1)), .int (Int32.ofInt (x3 + 1)), .ref 168]) (w1 := w) (by simp only [Int32.ofInt_add, Int32.ofInt_sub, Int32.ofInt_mul, Int32.ofInt_neg, p_and, p_or, p_xor, p_shl, p_shr, p_usr, p_w8, p_c16, p_lI, q_and, q_or, q_shl, q_shr, q_w32, Int64.ofInt_add, Int64.ofInt_sub, Int64.ofInt_mul, p_mx, p_mn, q_mx, q_mn]; rfl) ?_
    refine wx_le (oo := 9) (ln := 3) (a := 69) (b := 0) (zz := 0) (by decide +kernel) (fun h2 => ?_) (fun h2 => ?_)
    · have hx := ite_f h2 hx
      refine wp_g 5 (pc1 := 74) (lv1 := [(0, .ref 146), (1, .int (Int32.ofInt x1)), (2, .int (Int32.ofInt x2)), (3, .int (Int32.ofInt x3))]) (st1 := [.int (Int32.ofInt ((x2 - x3) - 1)), .ref 168]) (w1 := w) (by simp only [Int32.ofInt_add, Int32.ofInt_sub, Int32.ofInt_mul, Int32.ofInt_neg, p_and, p_or, p_xor, p_shl, p_shr, p_usr, p_w8, p_c16, p_lI, q_and, q_or, q_shl, q_shr, q_w32, Int64.ofInt_add, Int64.ofInt_sub, Int64.ofInt_mul, p_mx, p_mn, q_mx, q_mn]; rfl) ?_
      exact xm_last_b44_j74_ok hS h hx kn kc
    · have hx := ite_t h2 hx
      refine wp_g 4 (pc1 := 74) (lv1 := [(0, .ref 146), (1, .int (Int32.ofInt x1)), (2, .int (Int32.ofInt x2)), (3, .int (Int32.ofInt x3))]) (st1 := [.int (Int32.ofInt (x3 + 1)), .ref 168]) (w1 := w) (by simp only [Int32.ofInt_add, Int32.ofInt_sub, Int32.ofInt_mul, Int32.ofInt_neg, p_and, p_or, p_xor, p_shl, p_shr, p_usr, p_w8, p_c16, p_lI, q_and, q_or, q_shl, q_shr, q_w32, Int64.ofInt_add, Int64.ofInt_sub, Int64.ofInt_mul, p_mx, p_mn, q_mx, q_mn]; rfl) ?_
      exact xm_last_b44_j74_ok hS h hx kn kc
noncomputable def xm_last_b21 (s : Hp) (x1 : Int) (x2 : Int) : Option ((Int × Hp) ⊕ (Int × Hp)) :=
  (ix 130 10).bind fun i1 => if w32 (s 156 i1) < w32 x2 then some (.inr (x2, s)) else (ix 9 x2).bind fun i4 => (some (uh s 168 i4 (-2))).bind fun s6 => (lp (fun (q : Int × Hp) => xm_last_b44 q.2 x1 x2 q.1) (x2 - 2, s6)).bind fun q10 => some (.inl (x2 + 1, q10.2))
set_option maxRecDepth 100000 in
theorem xm_last_b21_ok {d : Nat} {P : Option Value → pm_H → Prop} {w : pm_H} {sh : Shp} {w0 : pm_H} {s : Hp} (hS : StM sh) {x1 : Int} {x2 : Int} (h : Rw sh w0 s w) {o : ((Int × Hp) ⊕ (Int × Hp))} (hx : xm_last_b21 s x1 x2 = some o) (kn : ∀ (q : Int × Hp) w1, o = .inl q → Rw sh w0 q.2 w1 → wp (d + 1) 248 21 [(0, .ref 146), (1, .int (Int32.ofInt x1)), (2, .int (Int32.ofInt q.1))] [] w1 P) (kc : ∀ (r : (Int × Hp)), o = .inr r → (∀ w1, Rw sh w0 r.2 w1 → wp (d + 1) 248 97 [(0, .ref 146), (1, .int (Int32.ofInt x1)), (2, .int (Int32.ofInt r.1))] [] w1 P)) : wp (d + 1) 248 21 [(0, .ref 146), (1, .int (Int32.ofInt x1)), (2, .int (Int32.ofInt x2))] [] w P := by
  unfold xm_last_b21 at hx
  refine wp_g 2 (pc1 := 23) (lv1 := [(0, .ref 146), (1, .int (Int32.ofInt x1)), (2, .int (Int32.ofInt x2))]) (st1 := [.ref 146, .int (Int32.ofInt x2)]) (w1 := w) rfl ?_
  refine wx_gr (o := 10) (kf := 39) (ln := 3) (ci := 12) (b := 20) (zz := 0) (x := 146) (by decide +kernel) h (hS _ _ sm_146) rfl ?_
  show wp _ 248 26 [(0, .ref 146), (1, .int (Int32.ofInt x1)), (2, .int (Int32.ofInt x2))] [.ref 156, .int (Int32.ofInt x2)] w _
  refine wp_g 1 (pc1 := 28) (lv1 := [(0, .ref 146), (1, .int (Int32.ofInt x1)), (2, .int (Int32.ofInt x2))]) (st1 := [.int (Int32.ofInt 10), .ref 156, .int (Int32.ofInt x2)]) (w1 := w) rfl ?_
  obtain ⟨i1, e2, hx⟩ := bd hx
  refine wx_ra (x := 156) (n := 130) (ln := 1) (a := 0) (b := 0) (zz := 0) (by decide +kernel) h (hS _ _ sm_156) e2 ?_
  show wp _ 248 29 [(0, .ref 146), (1, .int (Int32.ofInt x1)), (2, .int (Int32.ofInt x2))] [.int (Int32.ofInt (s 156 i1)), .int (Int32.ofInt x2)] w _
  refine wx_gt (oo := 68) (ln := 3) (a := 97) (b := 0) (zz := 0) (by decide +kernel) (fun h3 => ?_) (fun h3 => ?_)
  · have hx := ite_t h3 hx
    cases hx
    exact kc _ rfl _ h
  · have hx := ite_f h3 hx
    refine wp_g 1 (pc1 := 33) (lv1 := [(0, .ref 146), (1, .int (Int32.ofInt x1)), (2, .int (Int32.ofInt x2))]) (st1 := [.ref 146]) (w1 := w) rfl ?_
    refine wx_gr (o := 22) (kf := 79) (ln := 3) (ci := 12) (b := 37) (zz := 0) (x := 146) (by decide +kernel) h (hS _ _ sm_146) rfl ?_
    show wp _ 248 36 [(0, .ref 146), (1, .int (Int32.ofInt x1)), (2, .int (Int32.ofInt x2))] [.ref 168] w _
    refine wp_g 2 (pc1 := 39) (lv1 := [(0, .ref 146), (1, .int (Int32.ofInt x1)), (2, .int (Int32.ofInt x2))]) (st1 := [.int (Int32.ofInt (-2)), .int (Int32.ofInt x2), .ref 168]) (w1 := w) rfl ?_
    obtain ⟨i4, e5, hx⟩ := bd hx
    obtain ⟨s6, e7, hx⟩ := bd hx
    refine wx_wa (x := 168) (n := 9) (ln := 1) (a := 0) (b := 0) (zz := 0) (by decide +kernel) h (hS _ _ sm_168) e5 e7 (fun w8 h9 => ?_)
    refine wp_g 4 (pc1 := 44) (lv1 := [(3, .int (Int32.ofInt (x2 - 2))), (0, .ref 146), (1, .int (Int32.ofInt x1)), (2, .int (Int32.ofInt x2))]) (st1 := []) (w1 := w8) (by simp only [Int32.ofInt_add, Int32.ofInt_sub, Int32.ofInt_mul, Int32.ofInt_neg, p_and, p_or, p_xor, p_shl, p_shr, p_usr, p_w8, p_c16, p_lI, q_and, q_or, q_shl, q_shr, q_w32, Int64.ofInt_add, Int64.ofInt_sub, Int64.ofInt_mul, p_mx, p_mn, q_mx, q_mn]; rfl) ?_
    refine wp_lv (lv1 := [(0, .ref 146), (1, .int (Int32.ofInt x1)), (2, .int (Int32.ofInt x2)), (3, .int (Int32.ofInt (x2 - 2)))]) (lsub_p [1, 2, 3, 0] rfl rfl rfl) ?_
    obtain ⟨q10, e11, hx⟩ := bd hx
    refine wp_lp (σ := Int × Hp) (ρ := (Int × Hp)) (B := fun q => xm_last_b44 q.2 x1 x2 q.1) (R := fun q w' => Rw sh w0 q.2 w') (C := fun r => ∀ w1, Rw sh w0 r.2 w1 → wp (d + 1) 248 91 [(0, .ref 146), (1, .int (Int32.ofInt x1)), (2, .int (Int32.ofInt x2)), (3, .int (Int32.ofInt r.1))] [] w1 P) (lv := fun q => [(0, .ref 146), (1, .int (Int32.ofInt x1)), (2, .int (Int32.ofInt x2)), (3, .int (Int32.ofInt q.1))]) (hd := 44) (fun q w' o hR hb kn kc => xm_last_b44_ok hS hR hb kn kc) _ _ _ e11 h9 ?_
    intro w12 h13
    show wp _ 248 91 [(0, .ref 146), (1, .int (Int32.ofInt x1)), (2, .int (Int32.ofInt x2)), (3, .int (Int32.ofInt q10.1))] [] w12 _
    refine wp_g 2 (pc1 := 21) (lv1 := [(2, .int (Int32.ofInt (x2 + 1))), (0, .ref 146), (1, .int (Int32.ofInt x1)), (3, .int (Int32.ofInt q10.1))]) (st1 := []) (w1 := w12) (by simp only [Int32.ofInt_add, Int32.ofInt_sub, Int32.ofInt_mul, Int32.ofInt_neg, p_and, p_or, p_xor, p_shl, p_shr, p_usr, p_w8, p_c16, p_lI, q_and, q_or, q_shl, q_shr, q_w32, Int64.ofInt_add, Int64.ofInt_sub, Int64.ofInt_mul, p_mx, p_mn, q_mx, q_mn]; rfl) ?_
    refine wp_lv (lv1 := [(0, .ref 146), (1, .int (Int32.ofInt x1)), (2, .int (Int32.ofInt (x2 + 1)))]) (lsub_p [1, 2, 0] rfl rfl rfl) ?_
    cases hx
    exact kn _ _ rfl h13
/-- FoldDeedsModel.last (I)I -/
noncomputable def xm_last (s : Hp) (p1 : Int) : Option (Int × Hp) :=
  (xm_isCloth s).bind fun o1 => if w32 o1 = 0 then some ((-1), s) else (xm_in (w32 p1) 0 1).bind fun o6 => if w32 o6 = 0 then some ((-1), s) else (lp (fun (q : Int × Hp) => xm_last_b21 q.2 p1 q.1) (1, s)).bind fun q11 => (ix 130 10).bind fun i15 => (ix 9 (q11.2 156 i15)).bind fun i17 => if w32 p1 = w32 1 then some (q11.2 168 i17, q11.2) else if w32 (q11.2 168 i17) < 0 then some (0, q11.2) else some (1, q11.2)
set_option maxRecDepth 100000 in
theorem xm_last_ok {d : Nat} {P : Option Value → pm_H → Prop} {w : pm_H} {sh : Shp} {w0 : pm_H} {s : Hp} (hS : StM sh) {p1 : Int} (h : Rw sh w0 s w) {o : Int × Hp} (hx : xm_last s p1 = some o) (kr : ∀ w1, Rw sh w0 o.2 w1 → P (some (.int (Int32.ofInt o.1))) w1) : wp (d + 1) 248 0 (lv_args 0 [.ref 146, .int (Int32.ofInt p1)]) [] w P := by
  show wp _ 248 0 [(0, .ref 146), (1, .int (Int32.ofInt p1))] [] w _
  unfold xm_last at hx
  refine wp_g 1 (pc1 := 1) (lv1 := [(0, .ref 146), (1, .int (Int32.ofInt p1))]) (st1 := [.ref 146]) (w1 := w) rfl ?_
  obtain ⟨o1, e2, hx⟩ := bd hx
  refine wp_cl [.ref 146] [] (i := .invokevirtual 301) (ln := 3) (a := 190) (b := 0) (z := 0) (by decide +kernel) rfl rfl (by decide) rfl (show (1 : Nat) = pm_na 190 by decide +kernel) (Nat.le_of_ble_eq_true rfl) (show (1 : Nat) ≤ pm_n 190 by decide +kernel) (rcv_x 12 h (hS _ _ sm_146) (by decide +kernel)) (xm_isCloth_ok (d := d) hS h e2 ?_)
  show wp _ 248 4 [(0, .ref 146), (1, .int (Int32.ofInt p1))] [.int (Int32.ofInt o1)] w _
  refine wz_eq (oo := 13) (ln := 3) (a := 17) (b := 0) (zz := 0) (by decide +kernel) (fun h5 => ?_) (fun h5 => ?_)
  · have hx := ite_t h5 hx
    refine wp_g 1 (pc1 := 18) (lv1 := [(0, .ref 146), (1, .int (Int32.ofInt p1))]) (st1 := [.int (Int32.ofInt (-1))]) (w1 := w) rfl ?_
    refine wp_rt (i := .ireturn) (r := some (.int (Int32.ofInt (-1)))) (ln := 1) (a := 0) (b := 0) (z := 0) (by decide +kernel) rfl (ret_ok (by decide +kernel)) ?_
    cases hx
    exact kr _ h
  · have hx := ite_f h5 hx
    refine wp_g 4 (pc1 := 11) (lv1 := [(0, .ref 146), (1, .int (Int32.ofInt p1))]) (st1 := [.long (Int64.ofInt 1), .long (Int64.ofInt 0), .long (Int64.ofInt (w32 p1))]) (w1 := w) (by simp only [Int32.ofInt_add, Int32.ofInt_sub, Int32.ofInt_mul, Int32.ofInt_neg, p_and, p_or, p_xor, p_shl, p_shr, p_usr, p_w8, p_c16, p_lI, q_and, q_or, q_shl, q_shr, q_w32, Int64.ofInt_add, Int64.ofInt_sub, Int64.ofInt_mul, p_mx, p_mn, q_mx, q_mn]; rfl) ?_
    obtain ⟨o6, e7, hx⟩ := bd hx
    refine wp_cl [.long (Int64.ofInt (w32 p1)), .long (Int64.ofInt 0), .long (Int64.ofInt 1)] [] (i := .invokestatic 139) (ln := 3) (a := 147) (b := 1) (z := 0) (by decide +kernel) rfl rfl (by decide) rfl (show (3 : Nat) = pm_na 147 by decide +kernel) (Nat.le_of_ble_eq_true rfl) (show (6 : Nat) ≤ pm_n 147 by decide +kernel) (by rw [show pm_k 147 = 1 by decide +kernel]; rfl) (xm_in_ok (d := d) e7 ?_)
    show wp _ 248 14 [(0, .ref 146), (1, .int (Int32.ofInt p1))] [.int (Int32.ofInt o6)] w _
    refine wz_ne (oo := 5) (ln := 3) (a := 19) (b := 0) (zz := 0) (by decide +kernel) (fun h10 => ?_) (fun h10 => ?_)
    · have hx := ite_f h10 hx
      refine wp_g 2 (pc1 := 21) (lv1 := [(2, .int (Int32.ofInt 1)), (0, .ref 146), (1, .int (Int32.ofInt p1))]) (st1 := []) (w1 := w) rfl ?_
      refine wp_lv (lv1 := [(0, .ref 146), (1, .int (Int32.ofInt p1)), (2, .int (Int32.ofInt 1))]) (lsub_p [1, 2, 0] rfl rfl rfl) ?_
      obtain ⟨q11, e12, hx⟩ := bd hx
      refine wp_lp (σ := Int × Hp) (ρ := (Int × Hp)) (B := fun q => xm_last_b21 q.2 p1 q.1) (R := fun q w' => Rw sh w0 q.2 w') (C := fun r => ∀ w1, Rw sh w0 r.2 w1 → wp (d + 1) 248 97 [(0, .ref 146), (1, .int (Int32.ofInt p1)), (2, .int (Int32.ofInt r.1))] [] w1 P) (lv := fun q => [(0, .ref 146), (1, .int (Int32.ofInt p1)), (2, .int (Int32.ofInt q.1))]) (hd := 21) (fun q w' o hR hb kn kc => xm_last_b21_ok hS hR hb kn kc) _ _ _ e12 h ?_
      intro w13 h14
      show wp _ 248 97 [(0, .ref 146), (1, .int (Int32.ofInt p1)), (2, .int (Int32.ofInt q11.1))] [] w13 _
      refine wp_g 1 (pc1 := 98) (lv1 := [(0, .ref 146), (1, .int (Int32.ofInt p1)), (2, .int (Int32.ofInt q11.1))]) (st1 := [.ref 146]) (w1 := w13) rfl ?_
      refine wx_gr (o := 22) (kf := 79) (ln := 3) (ci := 12) (b := 37) (zz := 0) (x := 146) (by decide +kernel) h14 (hS _ _ sm_146) rfl ?_
      show wp _ 248 101 [(0, .ref 146), (1, .int (Int32.ofInt p1)), (2, .int (Int32.ofInt q11.1))] [.ref 168] w13 _
      refine wp_g 1 (pc1 := 102) (lv1 := [(0, .ref 146), (1, .int (Int32.ofInt p1)), (2, .int (Int32.ofInt q11.1))]) (st1 := [.ref 146, .ref 168]) (w1 := w13) rfl ?_
      refine wx_gr (o := 10) (kf := 39) (ln := 3) (ci := 12) (b := 20) (zz := 0) (x := 146) (by decide +kernel) h14 (hS _ _ sm_146) rfl ?_
      show wp _ 248 105 [(0, .ref 146), (1, .int (Int32.ofInt p1)), (2, .int (Int32.ofInt q11.1))] [.ref 156, .ref 168] w13 _
      refine wp_g 1 (pc1 := 107) (lv1 := [(0, .ref 146), (1, .int (Int32.ofInt p1)), (2, .int (Int32.ofInt q11.1))]) (st1 := [.int (Int32.ofInt 10), .ref 156, .ref 168]) (w1 := w13) rfl ?_
      obtain ⟨i15, e16, hx⟩ := bd hx
      refine wx_ra (x := 156) (n := 130) (ln := 1) (a := 0) (b := 0) (zz := 0) (by decide +kernel) h14 (hS _ _ sm_156) e16 ?_
      show wp _ 248 108 [(0, .ref 146), (1, .int (Int32.ofInt p1)), (2, .int (Int32.ofInt q11.1))] [.int (Int32.ofInt (q11.2 156 i15)), .ref 168] w13 _
      obtain ⟨i17, e18, hx⟩ := bd hx
      refine wx_ra (x := 168) (n := 9) (ln := 1) (a := 0) (b := 0) (zz := 0) (by decide +kernel) h14 (hS _ _ sm_168) e18 ?_
      show wp _ 248 109 [(0, .ref 146), (1, .int (Int32.ofInt p1)), (2, .int (Int32.ofInt q11.1))] [.int (Int32.ofInt (q11.2 168 i17))] w13 _
      refine wp_g 3 (pc1 := 112) (lv1 := [(2, .int (Int32.ofInt (q11.2 168 i17))), (0, .ref 146), (1, .int (Int32.ofInt p1))]) (st1 := [.int (Int32.ofInt 1), .int (Int32.ofInt p1)]) (w1 := w13) rfl ?_
      refine wx_ne (oo := 7) (ln := 3) (a := 119) (b := 0) (zz := 0) (by decide +kernel) (fun h19 => ?_) (fun h19 => ?_)
      · have hx := ite_f h19 hx
        refine wp_g 1 (pc1 := 120) (lv1 := [(2, .int (Int32.ofInt (q11.2 168 i17))), (0, .ref 146), (1, .int (Int32.ofInt p1))]) (st1 := [.int (Int32.ofInt (q11.2 168 i17))]) (w1 := w13) rfl ?_
        refine wz_ge (oo := 7) (ln := 3) (a := 127) (b := 0) (zz := 0) (by decide +kernel) (fun h20 => ?_) (fun h20 => ?_)
        · have hx := ite_f h20 hx
          refine wp_g 1 (pc1 := 128) (lv1 := [(2, .int (Int32.ofInt (q11.2 168 i17))), (0, .ref 146), (1, .int (Int32.ofInt p1))]) (st1 := [.int (Int32.ofInt 1)]) (w1 := w13) rfl ?_
          refine wp_rt (i := .ireturn) (r := some (.int (Int32.ofInt 1))) (ln := 1) (a := 0) (b := 0) (z := 0) (by decide +kernel) rfl (ret_ok (by decide +kernel)) ?_
          cases hx
          exact kr _ h14
        · have hx := ite_t h20 hx
          refine wp_g 2 (pc1 := 128) (lv1 := [(2, .int (Int32.ofInt (q11.2 168 i17))), (0, .ref 146), (1, .int (Int32.ofInt p1))]) (st1 := [.int (Int32.ofInt 0)]) (w1 := w13) rfl ?_
          refine wp_rt (i := .ireturn) (r := some (.int (Int32.ofInt 0))) (ln := 1) (a := 0) (b := 0) (z := 0) (by decide +kernel) rfl (ret_ok (by decide +kernel)) ?_
          cases hx
          exact kr _ h14
      · have hx := ite_t h19 hx
        refine wp_g 2 (pc1 := 128) (lv1 := [(2, .int (Int32.ofInt (q11.2 168 i17))), (0, .ref 146), (1, .int (Int32.ofInt p1))]) (st1 := [.int (Int32.ofInt (q11.2 168 i17))]) (w1 := w13) rfl ?_
        refine wp_rt (i := .ireturn) (r := some (.int (Int32.ofInt (q11.2 168 i17)))) (ln := 1) (a := 0) (b := 0) (z := 0) (by decide +kernel) rfl (ret_ok (by decide +kernel)) ?_
        cases hx
        exact kr _ h14
    · have hx := ite_t h10 hx
      refine wp_g 1 (pc1 := 18) (lv1 := [(0, .ref 146), (1, .int (Int32.ofInt p1))]) (st1 := [.int (Int32.ofInt (-1))]) (w1 := w) rfl ?_
      refine wp_rt (i := .ireturn) (r := some (.int (Int32.ofInt (-1)))) (ln := 1) (a := 0) (b := 0) (z := 0) (by decide +kernel) rfl (ret_ok (by decide +kernel)) ?_
      cases hx
      exact kr _ h
noncomputable def xm_dearest_b30 (s : Hp) (x1 : Int) (x2 : Int) (x3 : Int) (x4 : Int) (x5 : Int) : Option ((Int × Int × Int × Hp) ⊕ (Int × Int × Int × Hp)) :=
  (ix 130 10).bind fun i1 => if w32 x5 < w32 (4 * ((s 156 i1) - 1)) then (xm_placeOf x5).bind fun o4 => (xm_wayOf x5).bind fun o8 => (xm_canCrease s o4 o8).bind fun o12 => if w32 o12 = 0 then some (.inl (x3, x4, x5 + 1, s)) else (xm_placeOf x5).bind fun o17 => (xm_sideOf x5).bind fun o21 => (xm_wayOf x5).bind fun o25 => (xm_prices s x1 o17 o21 o25).bind fun o29 => if w32 x4 < w32 o29.1 then some (.inl (x5, o29.1, x5 + 1, o29.2)) else some (.inl (x3, x4, x5 + 1, o29.2)) else some (.inr (x3, x4, x5, s))
set_option maxRecDepth 100000 in
theorem xm_dearest_b30_ok {d : Nat} {P : Option Value → pm_H → Prop} {w : pm_H} {sh : Shp} {w0 : pm_H} {s : Hp} (hS : StM sh) {x1 : Int} {x2 : Int} {x3 : Int} {x4 : Int} {x5 : Int} (h : Rw sh w0 s w) {o : ((Int × Int × Int × Hp) ⊕ (Int × Int × Int × Hp))} (hx : xm_dearest_b30 s x1 x2 x3 x4 x5 = some o) (kn : ∀ (q : Int × Int × Int × Hp) w1, o = .inl q → Rw sh w0 q.2.2.2 w1 → wp (d + 4) 249 30 [(0, .ref 146), (1, .int (Int32.ofInt x1)), (2, .int (Int32.ofInt x2)), (3, .int (Int32.ofInt q.1)), (4, .int (Int32.ofInt q.2.1)), (5, .int (Int32.ofInt q.2.2.1))] [] w1 P) (kc : ∀ (r : (Int × Int × Int × Hp)), o = .inr r → (∀ w1, Rw sh w0 r.2.2.2 w1 → wp (d + 4) 249 111 [(0, .ref 146), (1, .int (Int32.ofInt x1)), (2, .int (Int32.ofInt x2)), (3, .int (Int32.ofInt r.1)), (4, .int (Int32.ofInt r.2.1)), (5, .int (Int32.ofInt r.2.2.1))] [] w1 P)) : wp (d + 4) 249 30 [(0, .ref 146), (1, .int (Int32.ofInt x1)), (2, .int (Int32.ofInt x2)), (3, .int (Int32.ofInt x3)), (4, .int (Int32.ofInt x4)), (5, .int (Int32.ofInt x5))] [] w P := by
  unfold xm_dearest_b30 at hx
  refine wp_g 3 (pc1 := 34) (lv1 := [(0, .ref 146), (1, .int (Int32.ofInt x1)), (2, .int (Int32.ofInt x2)), (3, .int (Int32.ofInt x3)), (4, .int (Int32.ofInt x4)), (5, .int (Int32.ofInt x5))]) (st1 := [.ref 146, .int (Int32.ofInt 4), .int (Int32.ofInt x5)]) (w1 := w) rfl ?_
  refine wx_gr (o := 10) (kf := 39) (ln := 3) (ci := 12) (b := 20) (zz := 0) (x := 146) (by decide +kernel) h (hS _ _ sm_146) rfl ?_
  show wp _ 249 37 [(0, .ref 146), (1, .int (Int32.ofInt x1)), (2, .int (Int32.ofInt x2)), (3, .int (Int32.ofInt x3)), (4, .int (Int32.ofInt x4)), (5, .int (Int32.ofInt x5))] [.ref 156, .int (Int32.ofInt 4), .int (Int32.ofInt x5)] w _
  refine wp_g 1 (pc1 := 39) (lv1 := [(0, .ref 146), (1, .int (Int32.ofInt x1)), (2, .int (Int32.ofInt x2)), (3, .int (Int32.ofInt x3)), (4, .int (Int32.ofInt x4)), (5, .int (Int32.ofInt x5))]) (st1 := [.int (Int32.ofInt 10), .ref 156, .int (Int32.ofInt 4), .int (Int32.ofInt x5)]) (w1 := w) rfl ?_
  obtain ⟨i1, e2, hx⟩ := bd hx
  refine wx_ra (x := 156) (n := 130) (ln := 1) (a := 0) (b := 0) (zz := 0) (by decide +kernel) h (hS _ _ sm_156) e2 ?_
  show wp _ 249 40 [(0, .ref 146), (1, .int (Int32.ofInt x1)), (2, .int (Int32.ofInt x2)), (3, .int (Int32.ofInt x3)), (4, .int (Int32.ofInt x4)), (5, .int (Int32.ofInt x5))] [.int (Int32.ofInt (s 156 i1)), .int (Int32.ofInt 4), .int (Int32.ofInt x5)] w _
  refine wp_g 3 (pc1 := 43) (lv1 := [(0, .ref 146), (1, .int (Int32.ofInt x1)), (2, .int (Int32.ofInt x2)), (3, .int (Int32.ofInt x3)), (4, .int (Int32.ofInt x4)), (5, .int (Int32.ofInt x5))]) (st1 := [.int (Int32.ofInt (4 * ((s 156 i1) - 1))), .int (Int32.ofInt x5)]) (w1 := w) (by simp only [Int32.ofInt_add, Int32.ofInt_sub, Int32.ofInt_mul, Int32.ofInt_neg, p_and, p_or, p_xor, p_shl, p_shr, p_usr, p_w8, p_c16, p_lI, q_and, q_or, q_shl, q_shr, q_w32, Int64.ofInt_add, Int64.ofInt_sub, Int64.ofInt_mul, p_mx, p_mn, q_mx, q_mn]; rfl) ?_
  refine wx_ge (oo := 68) (ln := 3) (a := 111) (b := 0) (zz := 0) (by decide +kernel) (fun h3 => ?_) (fun h3 => ?_)
  · have hx := ite_f h3 hx
    cases hx
    exact kc _ rfl _ h
  · have hx := ite_t h3 hx
    refine wp_g 2 (pc1 := 49) (lv1 := [(0, .ref 146), (1, .int (Int32.ofInt x1)), (2, .int (Int32.ofInt x2)), (3, .int (Int32.ofInt x3)), (4, .int (Int32.ofInt x4)), (5, .int (Int32.ofInt x5))]) (st1 := [.int (Int32.ofInt x5), .ref 146]) (w1 := w) rfl ?_
    obtain ⟨o4, e5, hx⟩ := bd hx
    refine wp_cl [.int (Int32.ofInt x5)] [.ref 146] (i := .invokestatic 352) (ln := 3) (a := 213) (b := 1) (z := 0) (by decide +kernel) rfl rfl (by decide) rfl (show (1 : Nat) = pm_na 213 by decide +kernel) (Nat.le_of_ble_eq_true rfl) (show (1 : Nat) ≤ pm_n 213 by decide +kernel) (by rw [show pm_k 213 = 1 by decide +kernel]; rfl) (xm_placeOf_ok (d := d + 3) e5 ?_)
    show wp _ 249 52 [(0, .ref 146), (1, .int (Int32.ofInt x1)), (2, .int (Int32.ofInt x2)), (3, .int (Int32.ofInt x3)), (4, .int (Int32.ofInt x4)), (5, .int (Int32.ofInt x5))] [.int (Int32.ofInt o4), .ref 146] w _
    refine wp_g 1 (pc1 := 54) (lv1 := [(0, .ref 146), (1, .int (Int32.ofInt x1)), (2, .int (Int32.ofInt x2)), (3, .int (Int32.ofInt x3)), (4, .int (Int32.ofInt x4)), (5, .int (Int32.ofInt x5))]) (st1 := [.int (Int32.ofInt x5), .int (Int32.ofInt o4), .ref 146]) (w1 := w) rfl ?_
    obtain ⟨o8, e9, hx⟩ := bd hx
    refine wp_cl [.int (Int32.ofInt x5)] [.int (Int32.ofInt o4), .ref 146] (i := .invokestatic 355) (ln := 3) (a := 215) (b := 1) (z := 0) (by decide +kernel) rfl rfl (by decide) rfl (show (1 : Nat) = pm_na 215 by decide +kernel) (Nat.le_of_ble_eq_true rfl) (show (1 : Nat) ≤ pm_n 215 by decide +kernel) (by rw [show pm_k 215 = 1 by decide +kernel]; rfl) (xm_wayOf_ok (d := d + 3) e9 ?_)
    show wp _ 249 57 [(0, .ref 146), (1, .int (Int32.ofInt x1)), (2, .int (Int32.ofInt x2)), (3, .int (Int32.ofInt x3)), (4, .int (Int32.ofInt x4)), (5, .int (Int32.ofInt x5))] [.int (Int32.ofInt o8), .int (Int32.ofInt o4), .ref 146] w _
    obtain ⟨o12, e13, hx⟩ := bd hx
    refine wp_cl [.ref 146, .int (Int32.ofInt o4), .int (Int32.ofInt o8)] [] (i := .invokevirtual 358) (ln := 3) (a := 207) (b := 0) (z := 0) (by decide +kernel) rfl rfl (by decide) rfl (show (3 : Nat) = pm_na 207 by decide +kernel) (Nat.le_of_ble_eq_true rfl) (show (3 : Nat) ≤ pm_n 207 by decide +kernel) (rcv_x 12 h (hS _ _ sm_146) (by decide +kernel)) (xm_canCrease_ok (d := d + 1) hS h e13 ?_)
    show wp _ 249 60 [(0, .ref 146), (1, .int (Int32.ofInt x1)), (2, .int (Int32.ofInt x2)), (3, .int (Int32.ofInt x3)), (4, .int (Int32.ofInt x4)), (5, .int (Int32.ofInt x5))] [.int (Int32.ofInt o12)] w _
    refine wz_ne (oo := 6) (ln := 3) (a := 66) (b := 0) (zz := 0) (by decide +kernel) (fun h16 => ?_) (fun h16 => ?_)
    · have hx := ite_f h16 hx
      refine wp_g 3 (pc1 := 70) (lv1 := [(0, .ref 146), (1, .int (Int32.ofInt x1)), (2, .int (Int32.ofInt x2)), (3, .int (Int32.ofInt x3)), (4, .int (Int32.ofInt x4)), (5, .int (Int32.ofInt x5))]) (st1 := [.int (Int32.ofInt x5), .int (Int32.ofInt x1), .ref 146]) (w1 := w) rfl ?_
      obtain ⟨o17, e18, hx⟩ := bd hx
      refine wp_cl [.int (Int32.ofInt x5)] [.int (Int32.ofInt x1), .ref 146] (i := .invokestatic 352) (ln := 3) (a := 213) (b := 1) (z := 0) (by decide +kernel) rfl rfl (by decide) rfl (show (1 : Nat) = pm_na 213 by decide +kernel) (Nat.le_of_ble_eq_true rfl) (show (1 : Nat) ≤ pm_n 213 by decide +kernel) (by rw [show pm_k 213 = 1 by decide +kernel]; rfl) (xm_placeOf_ok (d := d + 3) e18 ?_)
      show wp _ 249 73 [(0, .ref 146), (1, .int (Int32.ofInt x1)), (2, .int (Int32.ofInt x2)), (3, .int (Int32.ofInt x3)), (4, .int (Int32.ofInt x4)), (5, .int (Int32.ofInt x5))] [.int (Int32.ofInt o17), .int (Int32.ofInt x1), .ref 146] w _
      refine wp_g 1 (pc1 := 75) (lv1 := [(0, .ref 146), (1, .int (Int32.ofInt x1)), (2, .int (Int32.ofInt x2)), (3, .int (Int32.ofInt x3)), (4, .int (Int32.ofInt x4)), (5, .int (Int32.ofInt x5))]) (st1 := [.int (Int32.ofInt x5), .int (Int32.ofInt o17), .int (Int32.ofInt x1), .ref 146]) (w1 := w) rfl ?_
      obtain ⟨o21, e22, hx⟩ := bd hx
      refine wp_cl [.int (Int32.ofInt x5)] [.int (Int32.ofInt o17), .int (Int32.ofInt x1), .ref 146] (i := .invokestatic 361) (ln := 3) (a := 214) (b := 1) (z := 0) (by decide +kernel) rfl rfl (by decide) rfl (show (1 : Nat) = pm_na 214 by decide +kernel) (Nat.le_of_ble_eq_true rfl) (show (1 : Nat) ≤ pm_n 214 by decide +kernel) (by rw [show pm_k 214 = 1 by decide +kernel]; rfl) (xm_sideOf_ok (d := d + 3) e22 ?_)
      show wp _ 249 78 [(0, .ref 146), (1, .int (Int32.ofInt x1)), (2, .int (Int32.ofInt x2)), (3, .int (Int32.ofInt x3)), (4, .int (Int32.ofInt x4)), (5, .int (Int32.ofInt x5))] [.int (Int32.ofInt o21), .int (Int32.ofInt o17), .int (Int32.ofInt x1), .ref 146] w _
      refine wp_g 1 (pc1 := 80) (lv1 := [(0, .ref 146), (1, .int (Int32.ofInt x1)), (2, .int (Int32.ofInt x2)), (3, .int (Int32.ofInt x3)), (4, .int (Int32.ofInt x4)), (5, .int (Int32.ofInt x5))]) (st1 := [.int (Int32.ofInt x5), .int (Int32.ofInt o21), .int (Int32.ofInt o17), .int (Int32.ofInt x1), .ref 146]) (w1 := w) rfl ?_
      obtain ⟨o25, e26, hx⟩ := bd hx
      refine wp_cl [.int (Int32.ofInt x5)] [.int (Int32.ofInt o21), .int (Int32.ofInt o17), .int (Int32.ofInt x1), .ref 146] (i := .invokestatic 355) (ln := 3) (a := 215) (b := 1) (z := 0) (by decide +kernel) rfl rfl (by decide) rfl (show (1 : Nat) = pm_na 215 by decide +kernel) (Nat.le_of_ble_eq_true rfl) (show (1 : Nat) ≤ pm_n 215 by decide +kernel) (by rw [show pm_k 215 = 1 by decide +kernel]; rfl) (xm_wayOf_ok (d := d + 3) e26 ?_)
      show wp _ 249 83 [(0, .ref 146), (1, .int (Int32.ofInt x1)), (2, .int (Int32.ofInt x2)), (3, .int (Int32.ofInt x3)), (4, .int (Int32.ofInt x4)), (5, .int (Int32.ofInt x5))] [.int (Int32.ofInt o25), .int (Int32.ofInt o21), .int (Int32.ofInt o17), .int (Int32.ofInt x1), .ref 146] w _
      obtain ⟨o29, e30, hx⟩ := bd hx
      refine wp_cl [.ref 146, .int (Int32.ofInt x1), .int (Int32.ofInt o17), .int (Int32.ofInt o21), .int (Int32.ofInt o25)] [] (i := .invokevirtual 364) (ln := 3) (a := 211) (b := 0) (z := 0) (by decide +kernel) rfl rfl (by decide) rfl (show (5 : Nat) = pm_na 211 by decide +kernel) (Nat.le_of_ble_eq_true rfl) (show (5 : Nat) ≤ pm_n 211 by decide +kernel) (rcv_x 12 h (hS _ _ sm_146) (by decide +kernel)) (xm_prices_ok (d := d) hS h e30 (fun w31 h32 => ?_))
      show wp _ 249 86 [(0, .ref 146), (1, .int (Int32.ofInt x1)), (2, .int (Int32.ofInt x2)), (3, .int (Int32.ofInt x3)), (4, .int (Int32.ofInt x4)), (5, .int (Int32.ofInt x5))] [.int (Int32.ofInt o29.1)] w31 _
      refine wp_g 3 (pc1 := 92) (lv1 := [(6, .int (Int32.ofInt o29.1)), (0, .ref 146), (1, .int (Int32.ofInt x1)), (2, .int (Int32.ofInt x2)), (3, .int (Int32.ofInt x3)), (4, .int (Int32.ofInt x4)), (5, .int (Int32.ofInt x5))]) (st1 := [.int (Int32.ofInt x4), .int (Int32.ofInt o29.1)]) (w1 := w31) rfl ?_
      refine wx_gt (oo := 6) (ln := 3) (a := 98) (b := 0) (zz := 0) (by decide +kernel) (fun h33 => ?_) (fun h33 => ?_)
      · have hx := ite_t h33 hx
        refine wp_g 6 (pc1 := 30) (lv1 := [(5, .int (Int32.ofInt (x5 + 1))), (4, .int (Int32.ofInt o29.1)), (3, .int (Int32.ofInt x5)), (6, .int (Int32.ofInt o29.1)), (0, .ref 146), (1, .int (Int32.ofInt x1)), (2, .int (Int32.ofInt x2))]) (st1 := []) (w1 := w31) (by simp only [Int32.ofInt_add, Int32.ofInt_sub, Int32.ofInt_mul, Int32.ofInt_neg, p_and, p_or, p_xor, p_shl, p_shr, p_usr, p_w8, p_c16, p_lI, q_and, q_or, q_shl, q_shr, q_w32, Int64.ofInt_add, Int64.ofInt_sub, Int64.ofInt_mul, p_mx, p_mn, q_mx, q_mn]; rfl) ?_
        refine wp_lv (lv1 := [(0, .ref 146), (1, .int (Int32.ofInt x1)), (2, .int (Int32.ofInt x2)), (3, .int (Int32.ofInt x5)), (4, .int (Int32.ofInt o29.1)), (5, .int (Int32.ofInt (x5 + 1)))]) (lsub_p [4, 5, 6, 2, 1, 0] rfl rfl rfl) ?_
        cases hx
        exact kn _ _ rfl h32
      · have hx := ite_f h33 hx
        refine wp_g 3 (pc1 := 30) (lv1 := [(5, .int (Int32.ofInt (x5 + 1))), (6, .int (Int32.ofInt o29.1)), (0, .ref 146), (1, .int (Int32.ofInt x1)), (2, .int (Int32.ofInt x2)), (3, .int (Int32.ofInt x3)), (4, .int (Int32.ofInt x4))]) (st1 := []) (w1 := w31) (by simp only [Int32.ofInt_add, Int32.ofInt_sub, Int32.ofInt_mul, Int32.ofInt_neg, p_and, p_or, p_xor, p_shl, p_shr, p_usr, p_w8, p_c16, p_lI, q_and, q_or, q_shl, q_shr, q_w32, Int64.ofInt_add, Int64.ofInt_sub, Int64.ofInt_mul, p_mx, p_mn, q_mx, q_mn]; rfl) ?_
        refine wp_lv (lv1 := [(0, .ref 146), (1, .int (Int32.ofInt x1)), (2, .int (Int32.ofInt x2)), (3, .int (Int32.ofInt x3)), (4, .int (Int32.ofInt x4)), (5, .int (Int32.ofInt (x5 + 1)))]) (lsub_p [2, 3, 4, 5, 6, 0] rfl rfl rfl) ?_
        cases hx
        exact kn _ _ rfl h32
    · have hx := ite_t h16 hx
      refine wp_g 3 (pc1 := 30) (lv1 := [(5, .int (Int32.ofInt (x5 + 1))), (0, .ref 146), (1, .int (Int32.ofInt x1)), (2, .int (Int32.ofInt x2)), (3, .int (Int32.ofInt x3)), (4, .int (Int32.ofInt x4))]) (st1 := []) (w1 := w) (by simp only [Int32.ofInt_add, Int32.ofInt_sub, Int32.ofInt_mul, Int32.ofInt_neg, p_and, p_or, p_xor, p_shl, p_shr, p_usr, p_w8, p_c16, p_lI, q_and, q_or, q_shl, q_shr, q_w32, Int64.ofInt_add, Int64.ofInt_sub, Int64.ofInt_mul, p_mx, p_mn, q_mx, q_mn]; rfl) ?_
      refine wp_lv (lv1 := [(0, .ref 146), (1, .int (Int32.ofInt x1)), (2, .int (Int32.ofInt x2)), (3, .int (Int32.ofInt x3)), (4, .int (Int32.ofInt x4)), (5, .int (Int32.ofInt (x5 + 1)))]) (lsub_p [1, 2, 3, 4, 5, 0] rfl rfl rfl) ?_
      cases hx
      exact kn _ _ rfl h
/-- FoldDeedsModel.dearest (II)I -/
noncomputable def xm_dearest (s : Hp) (p1 : Int) (p2 : Int) : Option (Int × Hp) :=
  (xm_isPerson s p1).bind fun o1 => if w32 o1 = 0 then some ((-1), s) else (xm_in (w32 p2) 0 1).bind fun o6 => if w32 o6 = 0 then some ((-1), s) else (lp (fun (q : Int × Int × Int × Hp) => xm_dearest_b30 q.2.2.2 p1 p2 q.1 q.2.1 q.2.2.1) ((-2), (-2), 0, s)).bind fun q11 => if w32 p2 = 0 then some (q11.2.1, q11.2.2.2) else some (q11.1, q11.2.2.2)
set_option maxRecDepth 100000 in
theorem xm_dearest_ok {d : Nat} {P : Option Value → pm_H → Prop} {w : pm_H} {sh : Shp} {w0 : pm_H} {s : Hp} (hS : StM sh) {p1 : Int} {p2 : Int} (h : Rw sh w0 s w) {o : Int × Hp} (hx : xm_dearest s p1 p2 = some o) (kr : ∀ w1, Rw sh w0 o.2 w1 → P (some (.int (Int32.ofInt o.1))) w1) : wp (d + 4) 249 0 (lv_args 0 [.ref 146, .int (Int32.ofInt p1), .int (Int32.ofInt p2)]) [] w P := by
  show wp _ 249 0 [(0, .ref 146), (1, .int (Int32.ofInt p1)), (2, .int (Int32.ofInt p2))] [] w _
  unfold xm_dearest at hx
  refine wp_g 2 (pc1 := 2) (lv1 := [(0, .ref 146), (1, .int (Int32.ofInt p1)), (2, .int (Int32.ofInt p2))]) (st1 := [.int (Int32.ofInt p1), .ref 146]) (w1 := w) rfl ?_
  obtain ⟨o1, e2, hx⟩ := bd hx
  refine wp_cl [.ref 146, .int (Int32.ofInt p1)] [] (i := .invokevirtual 322) (ln := 3) (a := 193) (b := 0) (z := 0) (by decide +kernel) rfl rfl (by decide) rfl (show (2 : Nat) = pm_na 193 by decide +kernel) (Nat.le_of_ble_eq_true rfl) (show (2 : Nat) ≤ pm_n 193 by decide +kernel) (rcv_x 12 h (hS _ _ sm_146) (by decide +kernel)) (xm_isPerson_ok (d := d + 3) hS h e2 ?_)
  show wp _ 249 5 [(0, .ref 146), (1, .int (Int32.ofInt p1)), (2, .int (Int32.ofInt p2))] [.int (Int32.ofInt o1)] w _
  refine wz_eq (oo := 13) (ln := 3) (a := 18) (b := 0) (zz := 0) (by decide +kernel) (fun h5 => ?_) (fun h5 => ?_)
  · have hx := ite_t h5 hx
    refine wp_g 1 (pc1 := 19) (lv1 := [(0, .ref 146), (1, .int (Int32.ofInt p1)), (2, .int (Int32.ofInt p2))]) (st1 := [.int (Int32.ofInt (-1))]) (w1 := w) rfl ?_
    refine wp_rt (i := .ireturn) (r := some (.int (Int32.ofInt (-1)))) (ln := 1) (a := 0) (b := 0) (z := 0) (by decide +kernel) rfl (ret_ok (by decide +kernel)) ?_
    cases hx
    exact kr _ h
  · have hx := ite_f h5 hx
    refine wp_g 4 (pc1 := 12) (lv1 := [(0, .ref 146), (1, .int (Int32.ofInt p1)), (2, .int (Int32.ofInt p2))]) (st1 := [.long (Int64.ofInt 1), .long (Int64.ofInt 0), .long (Int64.ofInt (w32 p2))]) (w1 := w) (by simp only [Int32.ofInt_add, Int32.ofInt_sub, Int32.ofInt_mul, Int32.ofInt_neg, p_and, p_or, p_xor, p_shl, p_shr, p_usr, p_w8, p_c16, p_lI, q_and, q_or, q_shl, q_shr, q_w32, Int64.ofInt_add, Int64.ofInt_sub, Int64.ofInt_mul, p_mx, p_mn, q_mx, q_mn]; rfl) ?_
    obtain ⟨o6, e7, hx⟩ := bd hx
    refine wp_cl [.long (Int64.ofInt (w32 p2)), .long (Int64.ofInt 0), .long (Int64.ofInt 1)] [] (i := .invokestatic 139) (ln := 3) (a := 147) (b := 1) (z := 0) (by decide +kernel) rfl rfl (by decide) rfl (show (3 : Nat) = pm_na 147 by decide +kernel) (Nat.le_of_ble_eq_true rfl) (show (6 : Nat) ≤ pm_n 147 by decide +kernel) (by rw [show pm_k 147 = 1 by decide +kernel]; rfl) (xm_in_ok (d := d + 3) e7 ?_)
    show wp _ 249 15 [(0, .ref 146), (1, .int (Int32.ofInt p1)), (2, .int (Int32.ofInt p2))] [.int (Int32.ofInt o6)] w _
    refine wz_ne (oo := 5) (ln := 3) (a := 20) (b := 0) (zz := 0) (by decide +kernel) (fun h10 => ?_) (fun h10 => ?_)
    · have hx := ite_f h10 hx
      refine wp_g 6 (pc1 := 30) (lv1 := [(5, .int (Int32.ofInt 0)), (4, .int (Int32.ofInt (-2))), (3, .int (Int32.ofInt (-2))), (0, .ref 146), (1, .int (Int32.ofInt p1)), (2, .int (Int32.ofInt p2))]) (st1 := []) (w1 := w) rfl ?_
      refine wp_lv (lv1 := [(0, .ref 146), (1, .int (Int32.ofInt p1)), (2, .int (Int32.ofInt p2)), (3, .int (Int32.ofInt (-2))), (4, .int (Int32.ofInt (-2))), (5, .int (Int32.ofInt 0))]) (lsub_p [3, 4, 5, 2, 1, 0] rfl rfl rfl) ?_
      obtain ⟨q11, e12, hx⟩ := bd hx
      refine wp_lp (σ := Int × Int × Int × Hp) (ρ := (Int × Int × Int × Hp)) (B := fun q => xm_dearest_b30 q.2.2.2 p1 p2 q.1 q.2.1 q.2.2.1) (R := fun q w' => Rw sh w0 q.2.2.2 w') (C := fun r => ∀ w1, Rw sh w0 r.2.2.2 w1 → wp (d + 4) 249 111 [(0, .ref 146), (1, .int (Int32.ofInt p1)), (2, .int (Int32.ofInt p2)), (3, .int (Int32.ofInt r.1)), (4, .int (Int32.ofInt r.2.1)), (5, .int (Int32.ofInt r.2.2.1))] [] w1 P) (lv := fun q => [(0, .ref 146), (1, .int (Int32.ofInt p1)), (2, .int (Int32.ofInt p2)), (3, .int (Int32.ofInt q.1)), (4, .int (Int32.ofInt q.2.1)), (5, .int (Int32.ofInt q.2.2.1))]) (hd := 30) (fun q w' o hR hb kn kc => xm_dearest_b30_ok hS hR hb kn kc) _ _ _ e12 h ?_
      intro w13 h14
      show wp _ 249 111 [(0, .ref 146), (1, .int (Int32.ofInt p1)), (2, .int (Int32.ofInt p2)), (3, .int (Int32.ofInt q11.1)), (4, .int (Int32.ofInt q11.2.1)), (5, .int (Int32.ofInt q11.2.2.1))] [] w13 _
      refine wp_g 1 (pc1 := 112) (lv1 := [(0, .ref 146), (1, .int (Int32.ofInt p1)), (2, .int (Int32.ofInt p2)), (3, .int (Int32.ofInt q11.1)), (4, .int (Int32.ofInt q11.2.1)), (5, .int (Int32.ofInt q11.2.2.1))]) (st1 := [.int (Int32.ofInt p2)]) (w1 := w13) rfl ?_
      refine wz_ne (oo := 8) (ln := 3) (a := 120) (b := 0) (zz := 0) (by decide +kernel) (fun h15 => ?_) (fun h15 => ?_)
      · have hx := ite_f h15 hx
        refine wp_g 1 (pc1 := 121) (lv1 := [(0, .ref 146), (1, .int (Int32.ofInt p1)), (2, .int (Int32.ofInt p2)), (3, .int (Int32.ofInt q11.1)), (4, .int (Int32.ofInt q11.2.1)), (5, .int (Int32.ofInt q11.2.2.1))]) (st1 := [.int (Int32.ofInt q11.1)]) (w1 := w13) rfl ?_
        refine wp_rt (i := .ireturn) (r := some (.int (Int32.ofInt q11.1))) (ln := 1) (a := 0) (b := 0) (z := 0) (by decide +kernel) rfl (ret_ok (by decide +kernel)) ?_
        cases hx
        exact kr _ h14
      · have hx := ite_t h15 hx
        refine wp_g 2 (pc1 := 121) (lv1 := [(0, .ref 146), (1, .int (Int32.ofInt p1)), (2, .int (Int32.ofInt p2)), (3, .int (Int32.ofInt q11.1)), (4, .int (Int32.ofInt q11.2.1)), (5, .int (Int32.ofInt q11.2.2.1))]) (st1 := [.int (Int32.ofInt q11.2.1)]) (w1 := w13) rfl ?_
        refine wp_rt (i := .ireturn) (r := some (.int (Int32.ofInt q11.2.1))) (ln := 1) (a := 0) (b := 0) (z := 0) (by decide +kernel) rfl (ret_ok (by decide +kernel)) ?_
        cases hx
        exact kr _ h14
    · have hx := ite_t h10 hx
      refine wp_g 1 (pc1 := 19) (lv1 := [(0, .ref 146), (1, .int (Int32.ofInt p1)), (2, .int (Int32.ofInt p2))]) (st1 := [.int (Int32.ofInt (-1))]) (w1 := w) rfl ?_
      refine wp_rt (i := .ireturn) (r := some (.int (Int32.ofInt (-1)))) (ln := 1) (a := 0) (b := 0) (z := 0) (by decide +kernel) rfl (ret_ok (by decide +kernel)) ?_
      cases hx
      exact kr _ h
/-- FoldDeedsModel.log (IIII)I -/
noncomputable def xm_log (s : Hp) (p1 : Int) (p2 : Int) (p3 : Int) (p4 : Int) : Option (Int × Hp) :=
  if w32 p1 = w32 (-1) then (ix 130 129).bind fun i56 => (some (uh s 156 i56 0)).bind fun s58 => some (0, s58) else (xm_isJoint s p1).bind fun o2 => if w32 o2 = 0 then some ((-2), s) else (xm_in (w32 p2) 0 1).bind fun o7 => if w32 o7 = 0 then some ((-2), s) else (xm_in (w32 p3) 0 1).bind fun o12 => if w32 o12 = 0 then some ((-2), s) else (xm_in (w32 p4) 0 9999).bind fun o17 => if w32 o17 = 0 then some ((-2), s) else (ix 130 1).bind fun i22 => if w32 (s 156 i22) = 0 then some ((-2), s) else (ix 130 129).bind fun i25 => if w32 (s 156 i25) = w32 10 then some ((-2), s) else (ix 130 (89 + (4 * (s 156 i25)))).bind fun i28 => (some (uh s 156 i28 p1)).bind fun s30 => (ix 130 ((89 + (4 * (s 156 i25))) + 1)).bind fun i34 => (some (uh s30 156 i34 p2)).bind fun s36 => (ix 130 ((89 + (4 * (s 156 i25))) + 2)).bind fun i40 => (some (uh s36 156 i40 p3)).bind fun s42 => (ix 130 ((89 + (4 * (s 156 i25))) + 3)).bind fun i46 => (some (uh s42 156 i46 p4)).bind fun s48 => (some (uh s48 156 i25 ((s48 156 i25) + 1))).bind fun s52 => some (s52 156 i25, s52)
set_option maxRecDepth 100000 in
theorem xm_log_ok {d : Nat} {P : Option Value → pm_H → Prop} {w : pm_H} {sh : Shp} {w0 : pm_H} {s : Hp} (hS : StM sh) {p1 : Int} {p2 : Int} {p3 : Int} {p4 : Int} (h : Rw sh w0 s w) {o : Int × Hp} (hx : xm_log s p1 p2 p3 p4 = some o) (kr : ∀ w1, Rw sh w0 o.2 w1 → P (some (.int (Int32.ofInt o.1))) w1) : wp (d + 2) 250 0 (lv_args 0 [.ref 146, .int (Int32.ofInt p1), .int (Int32.ofInt p2), .int (Int32.ofInt p3), .int (Int32.ofInt p4)]) [] w P := by
  show wp _ 250 0 [(0, .ref 146), (1, .int (Int32.ofInt p1)), (2, .int (Int32.ofInt p2)), (3, .int (Int32.ofInt p3)), (4, .int (Int32.ofInt p4))] [] w _
  unfold xm_log at hx
  refine wp_g 2 (pc1 := 2) (lv1 := [(0, .ref 146), (1, .int (Int32.ofInt p1)), (2, .int (Int32.ofInt p2)), (3, .int (Int32.ofInt p3)), (4, .int (Int32.ofInt p4))]) (st1 := [.int (Int32.ofInt (-1)), .int (Int32.ofInt p1)]) (w1 := w) rfl ?_
  refine wx_ne (oo := 14) (ln := 3) (a := 16) (b := 0) (zz := 0) (by decide +kernel) (fun h1 => ?_) (fun h1 => ?_)
  · have hx := ite_f h1 hx
    refine wp_g 2 (pc1 := 18) (lv1 := [(0, .ref 146), (1, .int (Int32.ofInt p1)), (2, .int (Int32.ofInt p2)), (3, .int (Int32.ofInt p3)), (4, .int (Int32.ofInt p4))]) (st1 := [.int (Int32.ofInt p1), .ref 146]) (w1 := w) rfl ?_
    obtain ⟨o2, e3, hx⟩ := bd hx
    refine wp_cl [.ref 146, .int (Int32.ofInt p1)] [] (i := .invokevirtual 319) (ln := 3) (a := 192) (b := 0) (z := 0) (by decide +kernel) rfl rfl (by decide) rfl (show (2 : Nat) = pm_na 192 by decide +kernel) (Nat.le_of_ble_eq_true rfl) (show (2 : Nat) ≤ pm_n 192 by decide +kernel) (rcv_x 12 h (hS _ _ sm_146) (by decide +kernel)) (xm_isJoint_ok (d := d) hS h e3 ?_)
    show wp _ 250 21 [(0, .ref 146), (1, .int (Int32.ofInt p1)), (2, .int (Int32.ofInt p2)), (3, .int (Int32.ofInt p3)), (4, .int (Int32.ofInt p4))] [.int (Int32.ofInt o2)] w _
    refine wz_eq (oo := 58) (ln := 3) (a := 79) (b := 0) (zz := 0) (by decide +kernel) (fun h6 => ?_) (fun h6 => ?_)
    · have hx := ite_t h6 hx
      refine wp_g 1 (pc1 := 81) (lv1 := [(0, .ref 146), (1, .int (Int32.ofInt p1)), (2, .int (Int32.ofInt p2)), (3, .int (Int32.ofInt p3)), (4, .int (Int32.ofInt p4))]) (st1 := [.int (Int32.ofInt (-2))]) (w1 := w) rfl ?_
      refine wp_rt (i := .ireturn) (r := some (.int (Int32.ofInt (-2)))) (ln := 1) (a := 0) (b := 0) (z := 0) (by decide +kernel) rfl (ret_ok (by decide +kernel)) ?_
      cases hx
      exact kr _ h
    · have hx := ite_f h6 hx
      refine wp_g 4 (pc1 := 28) (lv1 := [(0, .ref 146), (1, .int (Int32.ofInt p1)), (2, .int (Int32.ofInt p2)), (3, .int (Int32.ofInt p3)), (4, .int (Int32.ofInt p4))]) (st1 := [.long (Int64.ofInt 1), .long (Int64.ofInt 0), .long (Int64.ofInt (w32 p2))]) (w1 := w) (by simp only [Int32.ofInt_add, Int32.ofInt_sub, Int32.ofInt_mul, Int32.ofInt_neg, p_and, p_or, p_xor, p_shl, p_shr, p_usr, p_w8, p_c16, p_lI, q_and, q_or, q_shl, q_shr, q_w32, Int64.ofInt_add, Int64.ofInt_sub, Int64.ofInt_mul, p_mx, p_mn, q_mx, q_mn]; rfl) ?_
      obtain ⟨o7, e8, hx⟩ := bd hx
      refine wp_cl [.long (Int64.ofInt (w32 p2)), .long (Int64.ofInt 0), .long (Int64.ofInt 1)] [] (i := .invokestatic 139) (ln := 3) (a := 147) (b := 1) (z := 0) (by decide +kernel) rfl rfl (by decide) rfl (show (3 : Nat) = pm_na 147 by decide +kernel) (Nat.le_of_ble_eq_true rfl) (show (6 : Nat) ≤ pm_n 147 by decide +kernel) (by rw [show pm_k 147 = 1 by decide +kernel]; rfl) (xm_in_ok (d := d + 1) e8 ?_)
      show wp _ 250 31 [(0, .ref 146), (1, .int (Int32.ofInt p1)), (2, .int (Int32.ofInt p2)), (3, .int (Int32.ofInt p3)), (4, .int (Int32.ofInt p4))] [.int (Int32.ofInt o7)] w _
      refine wz_eq (oo := 48) (ln := 3) (a := 79) (b := 0) (zz := 0) (by decide +kernel) (fun h11 => ?_) (fun h11 => ?_)
      · have hx := ite_t h11 hx
        refine wp_g 1 (pc1 := 81) (lv1 := [(0, .ref 146), (1, .int (Int32.ofInt p1)), (2, .int (Int32.ofInt p2)), (3, .int (Int32.ofInt p3)), (4, .int (Int32.ofInt p4))]) (st1 := [.int (Int32.ofInt (-2))]) (w1 := w) rfl ?_
        refine wp_rt (i := .ireturn) (r := some (.int (Int32.ofInt (-2)))) (ln := 1) (a := 0) (b := 0) (z := 0) (by decide +kernel) rfl (ret_ok (by decide +kernel)) ?_
        cases hx
        exact kr _ h
      · have hx := ite_f h11 hx
        refine wp_g 4 (pc1 := 38) (lv1 := [(0, .ref 146), (1, .int (Int32.ofInt p1)), (2, .int (Int32.ofInt p2)), (3, .int (Int32.ofInt p3)), (4, .int (Int32.ofInt p4))]) (st1 := [.long (Int64.ofInt 1), .long (Int64.ofInt 0), .long (Int64.ofInt (w32 p3))]) (w1 := w) (by simp only [Int32.ofInt_add, Int32.ofInt_sub, Int32.ofInt_mul, Int32.ofInt_neg, p_and, p_or, p_xor, p_shl, p_shr, p_usr, p_w8, p_c16, p_lI, q_and, q_or, q_shl, q_shr, q_w32, Int64.ofInt_add, Int64.ofInt_sub, Int64.ofInt_mul, p_mx, p_mn, q_mx, q_mn]; rfl) ?_
        obtain ⟨o12, e13, hx⟩ := bd hx
        refine wp_cl [.long (Int64.ofInt (w32 p3)), .long (Int64.ofInt 0), .long (Int64.ofInt 1)] [] (i := .invokestatic 139) (ln := 3) (a := 147) (b := 1) (z := 0) (by decide +kernel) rfl rfl (by decide) rfl (show (3 : Nat) = pm_na 147 by decide +kernel) (Nat.le_of_ble_eq_true rfl) (show (6 : Nat) ≤ pm_n 147 by decide +kernel) (by rw [show pm_k 147 = 1 by decide +kernel]; rfl) (xm_in_ok (d := d + 1) e13 ?_)
        show wp _ 250 41 [(0, .ref 146), (1, .int (Int32.ofInt p1)), (2, .int (Int32.ofInt p2)), (3, .int (Int32.ofInt p3)), (4, .int (Int32.ofInt p4))] [.int (Int32.ofInt o12)] w _
        refine wz_eq (oo := 38) (ln := 3) (a := 79) (b := 0) (zz := 0) (by decide +kernel) (fun h16 => ?_) (fun h16 => ?_)
        · have hx := ite_t h16 hx
          refine wp_g 1 (pc1 := 81) (lv1 := [(0, .ref 146), (1, .int (Int32.ofInt p1)), (2, .int (Int32.ofInt p2)), (3, .int (Int32.ofInt p3)), (4, .int (Int32.ofInt p4))]) (st1 := [.int (Int32.ofInt (-2))]) (w1 := w) rfl ?_
          refine wp_rt (i := .ireturn) (r := some (.int (Int32.ofInt (-2)))) (ln := 1) (a := 0) (b := 0) (z := 0) (by decide +kernel) rfl (ret_ok (by decide +kernel)) ?_
          cases hx
          exact kr _ h
        · have hx := ite_f h16 hx
          refine wp_g 4 (pc1 := 51) (lv1 := [(0, .ref 146), (1, .int (Int32.ofInt p1)), (2, .int (Int32.ofInt p2)), (3, .int (Int32.ofInt p3)), (4, .int (Int32.ofInt p4))]) (st1 := [.long (Int64.ofInt 9999), .long (Int64.ofInt 0), .long (Int64.ofInt (w32 p4))]) (w1 := w) (by simp only [Int32.ofInt_add, Int32.ofInt_sub, Int32.ofInt_mul, Int32.ofInt_neg, p_and, p_or, p_xor, p_shl, p_shr, p_usr, p_w8, p_c16, p_lI, q_and, q_or, q_shl, q_shr, q_w32, Int64.ofInt_add, Int64.ofInt_sub, Int64.ofInt_mul, p_mx, p_mn, q_mx, q_mn]; rfl) ?_
          obtain ⟨o17, e18, hx⟩ := bd hx
          refine wp_cl [.long (Int64.ofInt (w32 p4)), .long (Int64.ofInt 0), .long (Int64.ofInt 9999)] [] (i := .invokestatic 139) (ln := 3) (a := 147) (b := 1) (z := 0) (by decide +kernel) rfl rfl (by decide) rfl (show (3 : Nat) = pm_na 147 by decide +kernel) (Nat.le_of_ble_eq_true rfl) (show (6 : Nat) ≤ pm_n 147 by decide +kernel) (by rw [show pm_k 147 = 1 by decide +kernel]; rfl) (xm_in_ok (d := d + 1) e18 ?_)
          show wp _ 250 54 [(0, .ref 146), (1, .int (Int32.ofInt p1)), (2, .int (Int32.ofInt p2)), (3, .int (Int32.ofInt p3)), (4, .int (Int32.ofInt p4))] [.int (Int32.ofInt o17)] w _
          refine wz_eq (oo := 25) (ln := 3) (a := 79) (b := 0) (zz := 0) (by decide +kernel) (fun h21 => ?_) (fun h21 => ?_)
          · have hx := ite_t h21 hx
            refine wp_g 1 (pc1 := 81) (lv1 := [(0, .ref 146), (1, .int (Int32.ofInt p1)), (2, .int (Int32.ofInt p2)), (3, .int (Int32.ofInt p3)), (4, .int (Int32.ofInt p4))]) (st1 := [.int (Int32.ofInt (-2))]) (w1 := w) rfl ?_
            refine wp_rt (i := .ireturn) (r := some (.int (Int32.ofInt (-2)))) (ln := 1) (a := 0) (b := 0) (z := 0) (by decide +kernel) rfl (ret_ok (by decide +kernel)) ?_
            cases hx
            exact kr _ h
          · have hx := ite_f h21 hx
            refine wp_g 1 (pc1 := 58) (lv1 := [(0, .ref 146), (1, .int (Int32.ofInt p1)), (2, .int (Int32.ofInt p2)), (3, .int (Int32.ofInt p3)), (4, .int (Int32.ofInt p4))]) (st1 := [.ref 146]) (w1 := w) rfl ?_
            refine wx_gr (o := 10) (kf := 39) (ln := 3) (ci := 12) (b := 20) (zz := 0) (x := 146) (by decide +kernel) h (hS _ _ sm_146) rfl ?_
            show wp _ 250 61 [(0, .ref 146), (1, .int (Int32.ofInt p1)), (2, .int (Int32.ofInt p2)), (3, .int (Int32.ofInt p3)), (4, .int (Int32.ofInt p4))] [.ref 156] w _
            refine wp_g 1 (pc1 := 62) (lv1 := [(0, .ref 146), (1, .int (Int32.ofInt p1)), (2, .int (Int32.ofInt p2)), (3, .int (Int32.ofInt p3)), (4, .int (Int32.ofInt p4))]) (st1 := [.int (Int32.ofInt 1), .ref 156]) (w1 := w) rfl ?_
            obtain ⟨i22, e23, hx⟩ := bd hx
            refine wx_ra (x := 156) (n := 130) (ln := 1) (a := 0) (b := 0) (zz := 0) (by decide +kernel) h (hS _ _ sm_156) e23 ?_
            show wp _ 250 63 [(0, .ref 146), (1, .int (Int32.ofInt p1)), (2, .int (Int32.ofInt p2)), (3, .int (Int32.ofInt p3)), (4, .int (Int32.ofInt p4))] [.int (Int32.ofInt (s 156 i22))] w _
            refine wz_eq (oo := 16) (ln := 3) (a := 79) (b := 0) (zz := 0) (by decide +kernel) (fun h24 => ?_) (fun h24 => ?_)
            · have hx := ite_t h24 hx
              refine wp_g 1 (pc1 := 81) (lv1 := [(0, .ref 146), (1, .int (Int32.ofInt p1)), (2, .int (Int32.ofInt p2)), (3, .int (Int32.ofInt p3)), (4, .int (Int32.ofInt p4))]) (st1 := [.int (Int32.ofInt (-2))]) (w1 := w) rfl ?_
              refine wp_rt (i := .ireturn) (r := some (.int (Int32.ofInt (-2)))) (ln := 1) (a := 0) (b := 0) (z := 0) (by decide +kernel) rfl (ret_ok (by decide +kernel)) ?_
              cases hx
              exact kr _ h
            · have hx := ite_f h24 hx
              refine wp_g 1 (pc1 := 67) (lv1 := [(0, .ref 146), (1, .int (Int32.ofInt p1)), (2, .int (Int32.ofInt p2)), (3, .int (Int32.ofInt p3)), (4, .int (Int32.ofInt p4))]) (st1 := [.ref 146]) (w1 := w) rfl ?_
              refine wx_gr (o := 10) (kf := 39) (ln := 3) (ci := 12) (b := 20) (zz := 0) (x := 146) (by decide +kernel) h (hS _ _ sm_146) rfl ?_
              show wp _ 250 70 [(0, .ref 146), (1, .int (Int32.ofInt p1)), (2, .int (Int32.ofInt p2)), (3, .int (Int32.ofInt p3)), (4, .int (Int32.ofInt p4))] [.ref 156] w _
              refine wp_g 1 (pc1 := 73) (lv1 := [(0, .ref 146), (1, .int (Int32.ofInt p1)), (2, .int (Int32.ofInt p2)), (3, .int (Int32.ofInt p3)), (4, .int (Int32.ofInt p4))]) (st1 := [.int (Int32.ofInt 129), .ref 156]) (w1 := w) rfl ?_
              obtain ⟨i25, e26, hx⟩ := bd hx
              refine wx_ra (x := 156) (n := 130) (ln := 1) (a := 0) (b := 0) (zz := 0) (by decide +kernel) h (hS _ _ sm_156) e26 ?_
              show wp _ 250 74 [(0, .ref 146), (1, .int (Int32.ofInt p1)), (2, .int (Int32.ofInt p2)), (3, .int (Int32.ofInt p3)), (4, .int (Int32.ofInt p4))] [.int (Int32.ofInt (s 156 i25))] w _
              refine wp_g 1 (pc1 := 76) (lv1 := [(0, .ref 146), (1, .int (Int32.ofInt p1)), (2, .int (Int32.ofInt p2)), (3, .int (Int32.ofInt p3)), (4, .int (Int32.ofInt p4))]) (st1 := [.int (Int32.ofInt 10), .int (Int32.ofInt (s 156 i25))]) (w1 := w) rfl ?_
              refine wx_ne (oo := 6) (ln := 3) (a := 82) (b := 0) (zz := 0) (by decide +kernel) (fun h27 => ?_) (fun h27 => ?_)
              · have hx := ite_f h27 hx
                refine wp_g 3 (pc1 := 86) (lv1 := [(0, .ref 146), (1, .int (Int32.ofInt p1)), (2, .int (Int32.ofInt p2)), (3, .int (Int32.ofInt p3)), (4, .int (Int32.ofInt p4))]) (st1 := [.ref 146, .int (Int32.ofInt 4), .int (Int32.ofInt 89)]) (w1 := w) rfl ?_
                refine wx_gr (o := 10) (kf := 39) (ln := 3) (ci := 12) (b := 20) (zz := 0) (x := 146) (by decide +kernel) h (hS _ _ sm_146) rfl ?_
                show wp _ 250 89 [(0, .ref 146), (1, .int (Int32.ofInt p1)), (2, .int (Int32.ofInt p2)), (3, .int (Int32.ofInt p3)), (4, .int (Int32.ofInt p4))] [.ref 156, .int (Int32.ofInt 4), .int (Int32.ofInt 89)] w _
                refine wp_g 1 (pc1 := 92) (lv1 := [(0, .ref 146), (1, .int (Int32.ofInt p1)), (2, .int (Int32.ofInt p2)), (3, .int (Int32.ofInt p3)), (4, .int (Int32.ofInt p4))]) (st1 := [.int (Int32.ofInt 129), .ref 156, .int (Int32.ofInt 4), .int (Int32.ofInt 89)]) (w1 := w) rfl ?_
                refine wx_ra (x := 156) (n := 130) (ln := 1) (a := 0) (b := 0) (zz := 0) (by decide +kernel) h (hS _ _ sm_156) e26 ?_
                show wp _ 250 93 [(0, .ref 146), (1, .int (Int32.ofInt p1)), (2, .int (Int32.ofInt p2)), (3, .int (Int32.ofInt p3)), (4, .int (Int32.ofInt p4))] [.int (Int32.ofInt (s 156 i25)), .int (Int32.ofInt 4), .int (Int32.ofInt 89)] w _
                refine wp_g 4 (pc1 := 98) (lv1 := [(5, .int (Int32.ofInt (89 + (4 * (s 156 i25))))), (0, .ref 146), (1, .int (Int32.ofInt p1)), (2, .int (Int32.ofInt p2)), (3, .int (Int32.ofInt p3)), (4, .int (Int32.ofInt p4))]) (st1 := [.ref 146]) (w1 := w) (by simp only [Int32.ofInt_add, Int32.ofInt_sub, Int32.ofInt_mul, Int32.ofInt_neg, p_and, p_or, p_xor, p_shl, p_shr, p_usr, p_w8, p_c16, p_lI, q_and, q_or, q_shl, q_shr, q_w32, Int64.ofInt_add, Int64.ofInt_sub, Int64.ofInt_mul, p_mx, p_mn, q_mx, q_mn]; rfl) ?_
                refine wx_gr (o := 10) (kf := 39) (ln := 3) (ci := 12) (b := 20) (zz := 0) (x := 146) (by decide +kernel) h (hS _ _ sm_146) rfl ?_
                show wp _ 250 101 [(5, .int (Int32.ofInt (89 + (4 * (s 156 i25))))), (0, .ref 146), (1, .int (Int32.ofInt p1)), (2, .int (Int32.ofInt p2)), (3, .int (Int32.ofInt p3)), (4, .int (Int32.ofInt p4))] [.ref 156] w _
                refine wp_g 2 (pc1 := 104) (lv1 := [(5, .int (Int32.ofInt (89 + (4 * (s 156 i25))))), (0, .ref 146), (1, .int (Int32.ofInt p1)), (2, .int (Int32.ofInt p2)), (3, .int (Int32.ofInt p3)), (4, .int (Int32.ofInt p4))]) (st1 := [.int (Int32.ofInt p1), .int (Int32.ofInt (89 + (4 * (s 156 i25)))), .ref 156]) (w1 := w) rfl ?_
                obtain ⟨i28, e29, hx⟩ := bd hx
                obtain ⟨s30, e31, hx⟩ := bd hx
                refine wx_wa (x := 156) (n := 130) (ln := 1) (a := 0) (b := 0) (zz := 0) (by decide +kernel) h (hS _ _ sm_156) e29 e31 (fun w32 h33 => ?_)
                refine wp_g 1 (pc1 := 106) (lv1 := [(5, .int (Int32.ofInt (89 + (4 * (s 156 i25))))), (0, .ref 146), (1, .int (Int32.ofInt p1)), (2, .int (Int32.ofInt p2)), (3, .int (Int32.ofInt p3)), (4, .int (Int32.ofInt p4))]) (st1 := [.ref 146]) (w1 := w32) rfl ?_
                refine wx_gr (o := 10) (kf := 39) (ln := 3) (ci := 12) (b := 20) (zz := 0) (x := 146) (by decide +kernel) h33 (hS _ _ sm_146) rfl ?_
                show wp _ 250 109 [(5, .int (Int32.ofInt (89 + (4 * (s 156 i25))))), (0, .ref 146), (1, .int (Int32.ofInt p1)), (2, .int (Int32.ofInt p2)), (3, .int (Int32.ofInt p3)), (4, .int (Int32.ofInt p4))] [.ref 156] w32 _
                refine wp_g 4 (pc1 := 114) (lv1 := [(5, .int (Int32.ofInt (89 + (4 * (s 156 i25))))), (0, .ref 146), (1, .int (Int32.ofInt p1)), (2, .int (Int32.ofInt p2)), (3, .int (Int32.ofInt p3)), (4, .int (Int32.ofInt p4))]) (st1 := [.int (Int32.ofInt p2), .int (Int32.ofInt ((89 + (4 * (s 156 i25))) + 1)), .ref 156]) (w1 := w32) (by simp only [Int32.ofInt_add, Int32.ofInt_sub, Int32.ofInt_mul, Int32.ofInt_neg, p_and, p_or, p_xor, p_shl, p_shr, p_usr, p_w8, p_c16, p_lI, q_and, q_or, q_shl, q_shr, q_w32, Int64.ofInt_add, Int64.ofInt_sub, Int64.ofInt_mul, p_mx, p_mn, q_mx, q_mn]; rfl) ?_
                obtain ⟨i34, e35, hx⟩ := bd hx
                obtain ⟨s36, e37, hx⟩ := bd hx
                refine wx_wa (x := 156) (n := 130) (ln := 1) (a := 0) (b := 0) (zz := 0) (by decide +kernel) h33 (hS _ _ sm_156) e35 e37 (fun w38 h39 => ?_)
                refine wp_g 1 (pc1 := 116) (lv1 := [(5, .int (Int32.ofInt (89 + (4 * (s 156 i25))))), (0, .ref 146), (1, .int (Int32.ofInt p1)), (2, .int (Int32.ofInt p2)), (3, .int (Int32.ofInt p3)), (4, .int (Int32.ofInt p4))]) (st1 := [.ref 146]) (w1 := w38) rfl ?_
                refine wx_gr (o := 10) (kf := 39) (ln := 3) (ci := 12) (b := 20) (zz := 0) (x := 146) (by decide +kernel) h39 (hS _ _ sm_146) rfl ?_
                show wp _ 250 119 [(5, .int (Int32.ofInt (89 + (4 * (s 156 i25))))), (0, .ref 146), (1, .int (Int32.ofInt p1)), (2, .int (Int32.ofInt p2)), (3, .int (Int32.ofInt p3)), (4, .int (Int32.ofInt p4))] [.ref 156] w38 _
                refine wp_g 4 (pc1 := 124) (lv1 := [(5, .int (Int32.ofInt (89 + (4 * (s 156 i25))))), (0, .ref 146), (1, .int (Int32.ofInt p1)), (2, .int (Int32.ofInt p2)), (3, .int (Int32.ofInt p3)), (4, .int (Int32.ofInt p4))]) (st1 := [.int (Int32.ofInt p3), .int (Int32.ofInt ((89 + (4 * (s 156 i25))) + 2)), .ref 156]) (w1 := w38) (by simp only [Int32.ofInt_add, Int32.ofInt_sub, Int32.ofInt_mul, Int32.ofInt_neg, p_and, p_or, p_xor, p_shl, p_shr, p_usr, p_w8, p_c16, p_lI, q_and, q_or, q_shl, q_shr, q_w32, Int64.ofInt_add, Int64.ofInt_sub, Int64.ofInt_mul, p_mx, p_mn, q_mx, q_mn]; rfl) ?_
                obtain ⟨i40, e41, hx⟩ := bd hx
                obtain ⟨s42, e43, hx⟩ := bd hx
                refine wx_wa (x := 156) (n := 130) (ln := 1) (a := 0) (b := 0) (zz := 0) (by decide +kernel) h39 (hS _ _ sm_156) e41 e43 (fun w44 h45 => ?_)
                refine wp_g 1 (pc1 := 126) (lv1 := [(5, .int (Int32.ofInt (89 + (4 * (s 156 i25))))), (0, .ref 146), (1, .int (Int32.ofInt p1)), (2, .int (Int32.ofInt p2)), (3, .int (Int32.ofInt p3)), (4, .int (Int32.ofInt p4))]) (st1 := [.ref 146]) (w1 := w44) rfl ?_
                refine wx_gr (o := 10) (kf := 39) (ln := 3) (ci := 12) (b := 20) (zz := 0) (x := 146) (by decide +kernel) h45 (hS _ _ sm_146) rfl ?_
                show wp _ 250 129 [(5, .int (Int32.ofInt (89 + (4 * (s 156 i25))))), (0, .ref 146), (1, .int (Int32.ofInt p1)), (2, .int (Int32.ofInt p2)), (3, .int (Int32.ofInt p3)), (4, .int (Int32.ofInt p4))] [.ref 156] w44 _
                refine wp_g 4 (pc1 := 135) (lv1 := [(5, .int (Int32.ofInt (89 + (4 * (s 156 i25))))), (0, .ref 146), (1, .int (Int32.ofInt p1)), (2, .int (Int32.ofInt p2)), (3, .int (Int32.ofInt p3)), (4, .int (Int32.ofInt p4))]) (st1 := [.int (Int32.ofInt p4), .int (Int32.ofInt ((89 + (4 * (s 156 i25))) + 3)), .ref 156]) (w1 := w44) (by simp only [Int32.ofInt_add, Int32.ofInt_sub, Int32.ofInt_mul, Int32.ofInt_neg, p_and, p_or, p_xor, p_shl, p_shr, p_usr, p_w8, p_c16, p_lI, q_and, q_or, q_shl, q_shr, q_w32, Int64.ofInt_add, Int64.ofInt_sub, Int64.ofInt_mul, p_mx, p_mn, q_mx, q_mn]; rfl) ?_
                obtain ⟨i46, e47, hx⟩ := bd hx
                obtain ⟨s48, e49, hx⟩ := bd hx
                refine wx_wa (x := 156) (n := 130) (ln := 1) (a := 0) (b := 0) (zz := 0) (by decide +kernel) h45 (hS _ _ sm_156) e47 e49 (fun w50 h51 => ?_)
                refine wp_g 1 (pc1 := 137) (lv1 := [(5, .int (Int32.ofInt (89 + (4 * (s 156 i25))))), (0, .ref 146), (1, .int (Int32.ofInt p1)), (2, .int (Int32.ofInt p2)), (3, .int (Int32.ofInt p3)), (4, .int (Int32.ofInt p4))]) (st1 := [.ref 146]) (w1 := w50) rfl ?_
                refine wx_gr (o := 10) (kf := 39) (ln := 3) (ci := 12) (b := 20) (zz := 0) (x := 146) (by decide +kernel) h51 (hS _ _ sm_146) rfl ?_
                show wp _ 250 140 [(5, .int (Int32.ofInt (89 + (4 * (s 156 i25))))), (0, .ref 146), (1, .int (Int32.ofInt p1)), (2, .int (Int32.ofInt p2)), (3, .int (Int32.ofInt p3)), (4, .int (Int32.ofInt p4))] [.ref 156] w50 _
                refine wp_g 2 (pc1 := 144) (lv1 := [(5, .int (Int32.ofInt (89 + (4 * (s 156 i25))))), (0, .ref 146), (1, .int (Int32.ofInt p1)), (2, .int (Int32.ofInt p2)), (3, .int (Int32.ofInt p3)), (4, .int (Int32.ofInt p4))]) (st1 := [.int (Int32.ofInt 129), .ref 156, .int (Int32.ofInt 129), .ref 156]) (w1 := w50) rfl ?_
                refine wx_ra (x := 156) (n := 130) (ln := 1) (a := 0) (b := 0) (zz := 0) (by decide +kernel) h51 (hS _ _ sm_156) e26 ?_
                show wp _ 250 145 [(5, .int (Int32.ofInt (89 + (4 * (s 156 i25))))), (0, .ref 146), (1, .int (Int32.ofInt p1)), (2, .int (Int32.ofInt p2)), (3, .int (Int32.ofInt p3)), (4, .int (Int32.ofInt p4))] [.int (Int32.ofInt (s48 156 i25)), .int (Int32.ofInt 129), .ref 156] w50 _
                refine wp_g 2 (pc1 := 147) (lv1 := [(5, .int (Int32.ofInt (89 + (4 * (s 156 i25))))), (0, .ref 146), (1, .int (Int32.ofInt p1)), (2, .int (Int32.ofInt p2)), (3, .int (Int32.ofInt p3)), (4, .int (Int32.ofInt p4))]) (st1 := [.int (Int32.ofInt ((s48 156 i25) + 1)), .int (Int32.ofInt 129), .ref 156]) (w1 := w50) (by simp only [Int32.ofInt_add, Int32.ofInt_sub, Int32.ofInt_mul, Int32.ofInt_neg, p_and, p_or, p_xor, p_shl, p_shr, p_usr, p_w8, p_c16, p_lI, q_and, q_or, q_shl, q_shr, q_w32, Int64.ofInt_add, Int64.ofInt_sub, Int64.ofInt_mul, p_mx, p_mn, q_mx, q_mn]; rfl) ?_
                obtain ⟨s52, e53, hx⟩ := bd hx
                refine wx_wa (x := 156) (n := 130) (ln := 1) (a := 0) (b := 0) (zz := 0) (by decide +kernel) h51 (hS _ _ sm_156) e26 e53 (fun w54 h55 => ?_)
                refine wp_g 1 (pc1 := 149) (lv1 := [(5, .int (Int32.ofInt (89 + (4 * (s 156 i25))))), (0, .ref 146), (1, .int (Int32.ofInt p1)), (2, .int (Int32.ofInt p2)), (3, .int (Int32.ofInt p3)), (4, .int (Int32.ofInt p4))]) (st1 := [.ref 146]) (w1 := w54) rfl ?_
                refine wx_gr (o := 10) (kf := 39) (ln := 3) (ci := 12) (b := 20) (zz := 0) (x := 146) (by decide +kernel) h55 (hS _ _ sm_146) rfl ?_
                show wp _ 250 152 [(5, .int (Int32.ofInt (89 + (4 * (s 156 i25))))), (0, .ref 146), (1, .int (Int32.ofInt p1)), (2, .int (Int32.ofInt p2)), (3, .int (Int32.ofInt p3)), (4, .int (Int32.ofInt p4))] [.ref 156] w54 _
                refine wp_g 1 (pc1 := 155) (lv1 := [(5, .int (Int32.ofInt (89 + (4 * (s 156 i25))))), (0, .ref 146), (1, .int (Int32.ofInt p1)), (2, .int (Int32.ofInt p2)), (3, .int (Int32.ofInt p3)), (4, .int (Int32.ofInt p4))]) (st1 := [.int (Int32.ofInt 129), .ref 156]) (w1 := w54) rfl ?_
                refine wx_ra (x := 156) (n := 130) (ln := 1) (a := 0) (b := 0) (zz := 0) (by decide +kernel) h55 (hS _ _ sm_156) e26 ?_
                show wp _ 250 156 [(5, .int (Int32.ofInt (89 + (4 * (s 156 i25))))), (0, .ref 146), (1, .int (Int32.ofInt p1)), (2, .int (Int32.ofInt p2)), (3, .int (Int32.ofInt p3)), (4, .int (Int32.ofInt p4))] [.int (Int32.ofInt (s52 156 i25))] w54 _
                refine wp_rt (i := .ireturn) (r := some (.int (Int32.ofInt (s52 156 i25)))) (ln := 1) (a := 0) (b := 0) (z := 0) (by decide +kernel) rfl (ret_ok (by decide +kernel)) ?_
                cases hx
                exact kr _ h55
              · have hx := ite_t h27 hx
                refine wp_g 1 (pc1 := 81) (lv1 := [(0, .ref 146), (1, .int (Int32.ofInt p1)), (2, .int (Int32.ofInt p2)), (3, .int (Int32.ofInt p3)), (4, .int (Int32.ofInt p4))]) (st1 := [.int (Int32.ofInt (-2))]) (w1 := w) rfl ?_
                refine wp_rt (i := .ireturn) (r := some (.int (Int32.ofInt (-2)))) (ln := 1) (a := 0) (b := 0) (z := 0) (by decide +kernel) rfl (ret_ok (by decide +kernel)) ?_
                cases hx
                exact kr _ h
  · have hx := ite_t h1 hx
    refine wp_g 1 (pc1 := 6) (lv1 := [(0, .ref 146), (1, .int (Int32.ofInt p1)), (2, .int (Int32.ofInt p2)), (3, .int (Int32.ofInt p3)), (4, .int (Int32.ofInt p4))]) (st1 := [.ref 146]) (w1 := w) rfl ?_
    refine wx_gr (o := 10) (kf := 39) (ln := 3) (ci := 12) (b := 20) (zz := 0) (x := 146) (by decide +kernel) h (hS _ _ sm_146) rfl ?_
    show wp _ 250 9 [(0, .ref 146), (1, .int (Int32.ofInt p1)), (2, .int (Int32.ofInt p2)), (3, .int (Int32.ofInt p3)), (4, .int (Int32.ofInt p4))] [.ref 156] w _
    refine wp_g 2 (pc1 := 13) (lv1 := [(0, .ref 146), (1, .int (Int32.ofInt p1)), (2, .int (Int32.ofInt p2)), (3, .int (Int32.ofInt p3)), (4, .int (Int32.ofInt p4))]) (st1 := [.int (Int32.ofInt 0), .int (Int32.ofInt 129), .ref 156]) (w1 := w) rfl ?_
    obtain ⟨i56, e57, hx⟩ := bd hx
    obtain ⟨s58, e59, hx⟩ := bd hx
    refine wx_wa (x := 156) (n := 130) (ln := 1) (a := 0) (b := 0) (zz := 0) (by decide +kernel) h (hS _ _ sm_156) e57 e59 (fun w60 h61 => ?_)
    refine wp_g 1 (pc1 := 15) (lv1 := [(0, .ref 146), (1, .int (Int32.ofInt p1)), (2, .int (Int32.ofInt p2)), (3, .int (Int32.ofInt p3)), (4, .int (Int32.ofInt p4))]) (st1 := [.int (Int32.ofInt 0)]) (w1 := w60) rfl ?_
    refine wp_rt (i := .ireturn) (r := some (.int (Int32.ofInt 0))) (ln := 1) (a := 0) (b := 0) (z := 0) (by decide +kernel) rfl (ret_ok (by decide +kernel)) ?_
    cases hx
    exact kr _ h61
/-- FoldDeedsModel.costAt (III)I -/
noncomputable def xm_costAt (s : Hp) (p1 : Int) (p2 : Int) (p3 : Int) : Option (Int × Hp) :=
  (xm_canCrease s p1 p3).bind fun o1 => if w32 o1 = 0 then some ((-1), s) else (xm_prices s 0 p1 p2 p3).bind fun o6 => some (o6.1, o6.2)
set_option maxRecDepth 100000 in
theorem xm_costAt_ok {d : Nat} {P : Option Value → pm_H → Prop} {w : pm_H} {sh : Shp} {w0 : pm_H} {s : Hp} (hS : StM sh) {p1 : Int} {p2 : Int} {p3 : Int} (h : Rw sh w0 s w) {o : Int × Hp} (hx : xm_costAt s p1 p2 p3 = some o) (kr : ∀ w1, Rw sh w0 o.2 w1 → P (some (.int (Int32.ofInt o.1))) w1) : wp (d + 4) 251 0 (lv_args 0 [.ref 146, .int (Int32.ofInt p1), .int (Int32.ofInt p2), .int (Int32.ofInt p3)]) [] w P := by
  show wp _ 251 0 [(0, .ref 146), (1, .int (Int32.ofInt p1)), (2, .int (Int32.ofInt p2)), (3, .int (Int32.ofInt p3))] [] w _
  unfold xm_costAt at hx
  refine wp_g 3 (pc1 := 3) (lv1 := [(0, .ref 146), (1, .int (Int32.ofInt p1)), (2, .int (Int32.ofInt p2)), (3, .int (Int32.ofInt p3))]) (st1 := [.int (Int32.ofInt p3), .int (Int32.ofInt p1), .ref 146]) (w1 := w) rfl ?_
  obtain ⟨o1, e2, hx⟩ := bd hx
  refine wp_cl [.ref 146, .int (Int32.ofInt p1), .int (Int32.ofInt p3)] [] (i := .invokevirtual 358) (ln := 3) (a := 207) (b := 0) (z := 0) (by decide +kernel) rfl rfl (by decide) rfl (show (3 : Nat) = pm_na 207 by decide +kernel) (Nat.le_of_ble_eq_true rfl) (show (3 : Nat) ≤ pm_n 207 by decide +kernel) (rcv_x 12 h (hS _ _ sm_146) (by decide +kernel)) (xm_canCrease_ok (d := d + 1) hS h e2 ?_)
  show wp _ 251 6 [(0, .ref 146), (1, .int (Int32.ofInt p1)), (2, .int (Int32.ofInt p2)), (3, .int (Int32.ofInt p3))] [.int (Int32.ofInt o1)] w _
  refine wz_eq (oo := 14) (ln := 3) (a := 20) (b := 0) (zz := 0) (by decide +kernel) (fun h5 => ?_) (fun h5 => ?_)
  · have hx := ite_t h5 hx
    refine wp_g 1 (pc1 := 21) (lv1 := [(0, .ref 146), (1, .int (Int32.ofInt p1)), (2, .int (Int32.ofInt p2)), (3, .int (Int32.ofInt p3))]) (st1 := [.int (Int32.ofInt (-1))]) (w1 := w) rfl ?_
    refine wp_rt (i := .ireturn) (r := some (.int (Int32.ofInt (-1)))) (ln := 1) (a := 0) (b := 0) (z := 0) (by decide +kernel) rfl (ret_ok (by decide +kernel)) ?_
    cases hx
    exact kr _ h
  · have hx := ite_f h5 hx
    refine wp_g 5 (pc1 := 14) (lv1 := [(0, .ref 146), (1, .int (Int32.ofInt p1)), (2, .int (Int32.ofInt p2)), (3, .int (Int32.ofInt p3))]) (st1 := [.int (Int32.ofInt p3), .int (Int32.ofInt p2), .int (Int32.ofInt p1), .int (Int32.ofInt 0), .ref 146]) (w1 := w) rfl ?_
    obtain ⟨o6, e7, hx⟩ := bd hx
    refine wp_cl [.ref 146, .int (Int32.ofInt 0), .int (Int32.ofInt p1), .int (Int32.ofInt p2), .int (Int32.ofInt p3)] [] (i := .invokevirtual 364) (ln := 3) (a := 211) (b := 0) (z := 0) (by decide +kernel) rfl rfl (by decide) rfl (show (5 : Nat) = pm_na 211 by decide +kernel) (Nat.le_of_ble_eq_true rfl) (show (5 : Nat) ≤ pm_n 211 by decide +kernel) (rcv_x 12 h (hS _ _ sm_146) (by decide +kernel)) (xm_prices_ok (d := d) hS h e7 (fun w8 h9 => ?_))
    show wp _ 251 17 [(0, .ref 146), (1, .int (Int32.ofInt p1)), (2, .int (Int32.ofInt p2)), (3, .int (Int32.ofInt p3))] [.int (Int32.ofInt o6.1)] w8 _
    refine wp_g 1 (pc1 := 21) (lv1 := [(0, .ref 146), (1, .int (Int32.ofInt p1)), (2, .int (Int32.ofInt p2)), (3, .int (Int32.ofInt p3))]) (st1 := [.int (Int32.ofInt o6.1)]) (w1 := w8) rfl ?_
    refine wp_rt (i := .ireturn) (r := some (.int (Int32.ofInt o6.1))) (ln := 1) (a := 0) (b := 0) (z := 0) (by decide +kernel) rfl (ret_ok (by decide +kernel)) ?_
    cases hx
    exact kr _ h9
noncomputable def xm_fillsFits_b35 (s : Hp) (x1 : Int) (x2 : Int) (x3 : Int) (x4 : Int) : Option ((Int × Int × Hp) ⊕ (Int × Int × Hp)) :=
  (ix 130 129).bind fun i1 => if w32 x4 < w32 (s 156 i1) then if w32 x3 = 0 then some (.inl (0, x4 + 1, s)) else (ix 130 (89 + (4 * x4))).bind fun i5 => (ix 130 ((89 + (4 * x4)) + 1)).bind fun i7 => (ix 130 ((89 + (4 * x4)) + 2)).bind fun i9 => (xm_costAt s (s 156 i5) (s 156 i7) (s 156 i9)).bind fun o11 => (ix 130 ((89 + (4 * x4)) + 3)).bind fun i15 => if w32 o11.1 = w32 (o11.2 156 i15) then some (.inl (1, x4 + 1, o11.2)) else some (.inl (0, x4 + 1, o11.2)) else some (.inr (x3, x4, s))
set_option maxRecDepth 100000 in
theorem xm_fillsFits_b35_ok {d : Nat} {P : Option Value → pm_H → Prop} {w : pm_H} {sh : Shp} {w0 : pm_H} {s : Hp} (hS : StM sh) {x1 : Int} {x2 : Int} {x3 : Int} {x4 : Int} (h : Rw sh w0 s w) {o : ((Int × Int × Hp) ⊕ (Int × Int × Hp))} (hx : xm_fillsFits_b35 s x1 x2 x3 x4 = some o) (kn : ∀ (q : Int × Int × Hp) w1, o = .inl q → Rw sh w0 q.2.2 w1 → wp (d + 5) 252 35 [(0, .ref 146), (1, .int (Int32.ofInt x1)), (2, .int (Int32.ofInt x2)), (3, .int (Int32.ofInt q.1)), (4, .int (Int32.ofInt q.2.1))] [] w1 P) (kc : ∀ (r : (Int × Int × Hp)), o = .inr r → (∀ w1, Rw sh w0 r.2.2 w1 → wp (d + 5) 252 114 [(0, .ref 146), (1, .int (Int32.ofInt x1)), (2, .int (Int32.ofInt x2)), (3, .int (Int32.ofInt r.1)), (4, .int (Int32.ofInt r.2.1))] [] w1 P)) : wp (d + 5) 252 35 [(0, .ref 146), (1, .int (Int32.ofInt x1)), (2, .int (Int32.ofInt x2)), (3, .int (Int32.ofInt x3)), (4, .int (Int32.ofInt x4))] [] w P := by
  unfold xm_fillsFits_b35 at hx
  refine wp_g 2 (pc1 := 38) (lv1 := [(0, .ref 146), (1, .int (Int32.ofInt x1)), (2, .int (Int32.ofInt x2)), (3, .int (Int32.ofInt x3)), (4, .int (Int32.ofInt x4))]) (st1 := [.ref 146, .int (Int32.ofInt x4)]) (w1 := w) rfl ?_
  refine wx_gr (o := 10) (kf := 39) (ln := 3) (ci := 12) (b := 20) (zz := 0) (x := 146) (by decide +kernel) h (hS _ _ sm_146) rfl ?_
  show wp _ 252 41 [(0, .ref 146), (1, .int (Int32.ofInt x1)), (2, .int (Int32.ofInt x2)), (3, .int (Int32.ofInt x3)), (4, .int (Int32.ofInt x4))] [.ref 156, .int (Int32.ofInt x4)] w _
  refine wp_g 1 (pc1 := 44) (lv1 := [(0, .ref 146), (1, .int (Int32.ofInt x1)), (2, .int (Int32.ofInt x2)), (3, .int (Int32.ofInt x3)), (4, .int (Int32.ofInt x4))]) (st1 := [.int (Int32.ofInt 129), .ref 156, .int (Int32.ofInt x4)]) (w1 := w) rfl ?_
  obtain ⟨i1, e2, hx⟩ := bd hx
  refine wx_ra (x := 156) (n := 130) (ln := 1) (a := 0) (b := 0) (zz := 0) (by decide +kernel) h (hS _ _ sm_156) e2 ?_
  show wp _ 252 45 [(0, .ref 146), (1, .int (Int32.ofInt x1)), (2, .int (Int32.ofInt x2)), (3, .int (Int32.ofInt x3)), (4, .int (Int32.ofInt x4))] [.int (Int32.ofInt (s 156 i1)), .int (Int32.ofInt x4)] w _
  refine wx_ge (oo := 69) (ln := 3) (a := 114) (b := 0) (zz := 0) (by decide +kernel) (fun h3 => ?_) (fun h3 => ?_)
  · have hx := ite_f h3 hx
    cases hx
    exact kc _ rfl _ h
  · have hx := ite_t h3 hx
    refine wp_g 7 (pc1 := 58) (lv1 := [(5, .int (Int32.ofInt (89 + (4 * x4)))), (0, .ref 146), (1, .int (Int32.ofInt x1)), (2, .int (Int32.ofInt x2)), (3, .int (Int32.ofInt x3)), (4, .int (Int32.ofInt x4))]) (st1 := [.int (Int32.ofInt x3)]) (w1 := w) (by simp only [Int32.ofInt_add, Int32.ofInt_sub, Int32.ofInt_mul, Int32.ofInt_neg, p_and, p_or, p_xor, p_shl, p_shr, p_usr, p_w8, p_c16, p_lI, q_and, q_or, q_shl, q_shr, q_w32, Int64.ofInt_add, Int64.ofInt_sub, Int64.ofInt_mul, p_mx, p_mn, q_mx, q_mn]; rfl) ?_
    refine wz_eq (oo := 48) (ln := 3) (a := 106) (b := 0) (zz := 0) (by decide +kernel) (fun h4 => ?_) (fun h4 => ?_)
    · have hx := ite_t h4 hx
      refine wp_g 4 (pc1 := 35) (lv1 := [(4, .int (Int32.ofInt (x4 + 1))), (3, .int (Int32.ofInt 0)), (5, .int (Int32.ofInt (89 + (4 * x4)))), (0, .ref 146), (1, .int (Int32.ofInt x1)), (2, .int (Int32.ofInt x2))]) (st1 := []) (w1 := w) (by simp only [Int32.ofInt_add, Int32.ofInt_sub, Int32.ofInt_mul, Int32.ofInt_neg, p_and, p_or, p_xor, p_shl, p_shr, p_usr, p_w8, p_c16, p_lI, q_and, q_or, q_shl, q_shr, q_w32, Int64.ofInt_add, Int64.ofInt_sub, Int64.ofInt_mul, p_mx, p_mn, q_mx, q_mn]; rfl) ?_
      refine wp_lv (lv1 := [(0, .ref 146), (1, .int (Int32.ofInt x1)), (2, .int (Int32.ofInt x2)), (3, .int (Int32.ofInt 0)), (4, .int (Int32.ofInt (x4 + 1)))]) (lsub_p [3, 4, 5, 1, 0] rfl rfl rfl) ?_
      cases hx
      exact kn _ _ rfl h
    · have hx := ite_f h4 hx
      refine wp_g 2 (pc1 := 63) (lv1 := [(5, .int (Int32.ofInt (89 + (4 * x4)))), (0, .ref 146), (1, .int (Int32.ofInt x1)), (2, .int (Int32.ofInt x2)), (3, .int (Int32.ofInt x3)), (4, .int (Int32.ofInt x4))]) (st1 := [.ref 146, .ref 146]) (w1 := w) rfl ?_
      refine wx_gr (o := 10) (kf := 39) (ln := 3) (ci := 12) (b := 20) (zz := 0) (x := 146) (by decide +kernel) h (hS _ _ sm_146) rfl ?_
      show wp _ 252 66 [(5, .int (Int32.ofInt (89 + (4 * x4)))), (0, .ref 146), (1, .int (Int32.ofInt x1)), (2, .int (Int32.ofInt x2)), (3, .int (Int32.ofInt x3)), (4, .int (Int32.ofInt x4))] [.ref 156, .ref 146] w _
      refine wp_g 1 (pc1 := 68) (lv1 := [(5, .int (Int32.ofInt (89 + (4 * x4)))), (0, .ref 146), (1, .int (Int32.ofInt x1)), (2, .int (Int32.ofInt x2)), (3, .int (Int32.ofInt x3)), (4, .int (Int32.ofInt x4))]) (st1 := [.int (Int32.ofInt (89 + (4 * x4))), .ref 156, .ref 146]) (w1 := w) rfl ?_
      obtain ⟨i5, e6, hx⟩ := bd hx
      refine wx_ra (x := 156) (n := 130) (ln := 1) (a := 0) (b := 0) (zz := 0) (by decide +kernel) h (hS _ _ sm_156) e6 ?_
      show wp _ 252 69 [(5, .int (Int32.ofInt (89 + (4 * x4)))), (0, .ref 146), (1, .int (Int32.ofInt x1)), (2, .int (Int32.ofInt x2)), (3, .int (Int32.ofInt x3)), (4, .int (Int32.ofInt x4))] [.int (Int32.ofInt (s 156 i5)), .ref 146] w _
      refine wp_g 1 (pc1 := 70) (lv1 := [(5, .int (Int32.ofInt (89 + (4 * x4)))), (0, .ref 146), (1, .int (Int32.ofInt x1)), (2, .int (Int32.ofInt x2)), (3, .int (Int32.ofInt x3)), (4, .int (Int32.ofInt x4))]) (st1 := [.ref 146, .int (Int32.ofInt (s 156 i5)), .ref 146]) (w1 := w) rfl ?_
      refine wx_gr (o := 10) (kf := 39) (ln := 3) (ci := 12) (b := 20) (zz := 0) (x := 146) (by decide +kernel) h (hS _ _ sm_146) rfl ?_
      show wp _ 252 73 [(5, .int (Int32.ofInt (89 + (4 * x4)))), (0, .ref 146), (1, .int (Int32.ofInt x1)), (2, .int (Int32.ofInt x2)), (3, .int (Int32.ofInt x3)), (4, .int (Int32.ofInt x4))] [.ref 156, .int (Int32.ofInt (s 156 i5)), .ref 146] w _
      refine wp_g 3 (pc1 := 77) (lv1 := [(5, .int (Int32.ofInt (89 + (4 * x4)))), (0, .ref 146), (1, .int (Int32.ofInt x1)), (2, .int (Int32.ofInt x2)), (3, .int (Int32.ofInt x3)), (4, .int (Int32.ofInt x4))]) (st1 := [.int (Int32.ofInt ((89 + (4 * x4)) + 1)), .ref 156, .int (Int32.ofInt (s 156 i5)), .ref 146]) (w1 := w) (by simp only [Int32.ofInt_add, Int32.ofInt_sub, Int32.ofInt_mul, Int32.ofInt_neg, p_and, p_or, p_xor, p_shl, p_shr, p_usr, p_w8, p_c16, p_lI, q_and, q_or, q_shl, q_shr, q_w32, Int64.ofInt_add, Int64.ofInt_sub, Int64.ofInt_mul, p_mx, p_mn, q_mx, q_mn]; rfl) ?_
      obtain ⟨i7, e8, hx⟩ := bd hx
      refine wx_ra (x := 156) (n := 130) (ln := 1) (a := 0) (b := 0) (zz := 0) (by decide +kernel) h (hS _ _ sm_156) e8 ?_
      show wp _ 252 78 [(5, .int (Int32.ofInt (89 + (4 * x4)))), (0, .ref 146), (1, .int (Int32.ofInt x1)), (2, .int (Int32.ofInt x2)), (3, .int (Int32.ofInt x3)), (4, .int (Int32.ofInt x4))] [.int (Int32.ofInt (s 156 i7)), .int (Int32.ofInt (s 156 i5)), .ref 146] w _
      refine wp_g 1 (pc1 := 79) (lv1 := [(5, .int (Int32.ofInt (89 + (4 * x4)))), (0, .ref 146), (1, .int (Int32.ofInt x1)), (2, .int (Int32.ofInt x2)), (3, .int (Int32.ofInt x3)), (4, .int (Int32.ofInt x4))]) (st1 := [.ref 146, .int (Int32.ofInt (s 156 i7)), .int (Int32.ofInt (s 156 i5)), .ref 146]) (w1 := w) rfl ?_
      refine wx_gr (o := 10) (kf := 39) (ln := 3) (ci := 12) (b := 20) (zz := 0) (x := 146) (by decide +kernel) h (hS _ _ sm_146) rfl ?_
      show wp _ 252 82 [(5, .int (Int32.ofInt (89 + (4 * x4)))), (0, .ref 146), (1, .int (Int32.ofInt x1)), (2, .int (Int32.ofInt x2)), (3, .int (Int32.ofInt x3)), (4, .int (Int32.ofInt x4))] [.ref 156, .int (Int32.ofInt (s 156 i7)), .int (Int32.ofInt (s 156 i5)), .ref 146] w _
      refine wp_g 3 (pc1 := 86) (lv1 := [(5, .int (Int32.ofInt (89 + (4 * x4)))), (0, .ref 146), (1, .int (Int32.ofInt x1)), (2, .int (Int32.ofInt x2)), (3, .int (Int32.ofInt x3)), (4, .int (Int32.ofInt x4))]) (st1 := [.int (Int32.ofInt ((89 + (4 * x4)) + 2)), .ref 156, .int (Int32.ofInt (s 156 i7)), .int (Int32.ofInt (s 156 i5)), .ref 146]) (w1 := w) (by simp only [Int32.ofInt_add, Int32.ofInt_sub, Int32.ofInt_mul, Int32.ofInt_neg, p_and, p_or, p_xor, p_shl, p_shr, p_usr, p_w8, p_c16, p_lI, q_and, q_or, q_shl, q_shr, q_w32, Int64.ofInt_add, Int64.ofInt_sub, Int64.ofInt_mul, p_mx, p_mn, q_mx, q_mn]; rfl) ?_
      obtain ⟨i9, e10, hx⟩ := bd hx
      refine wx_ra (x := 156) (n := 130) (ln := 1) (a := 0) (b := 0) (zz := 0) (by decide +kernel) h (hS _ _ sm_156) e10 ?_
      show wp _ 252 87 [(5, .int (Int32.ofInt (89 + (4 * x4)))), (0, .ref 146), (1, .int (Int32.ofInt x1)), (2, .int (Int32.ofInt x2)), (3, .int (Int32.ofInt x3)), (4, .int (Int32.ofInt x4))] [.int (Int32.ofInt (s 156 i9)), .int (Int32.ofInt (s 156 i7)), .int (Int32.ofInt (s 156 i5)), .ref 146] w _
      obtain ⟨o11, e12, hx⟩ := bd hx
      refine wp_cl [.ref 146, .int (Int32.ofInt (s 156 i5)), .int (Int32.ofInt (s 156 i7)), .int (Int32.ofInt (s 156 i9))] [] (i := .invokevirtual 461) (ln := 3) (a := 251) (b := 0) (z := 0) (by decide +kernel) rfl rfl (by decide) rfl (show (4 : Nat) = pm_na 251 by decide +kernel) (Nat.le_of_ble_eq_true rfl) (show (4 : Nat) ≤ pm_n 251 by decide +kernel) (rcv_x 12 h (hS _ _ sm_146) (by decide +kernel)) (xm_costAt_ok (d := d) hS h e12 (fun w13 h14 => ?_))
      show wp _ 252 90 [(5, .int (Int32.ofInt (89 + (4 * x4)))), (0, .ref 146), (1, .int (Int32.ofInt x1)), (2, .int (Int32.ofInt x2)), (3, .int (Int32.ofInt x3)), (4, .int (Int32.ofInt x4))] [.int (Int32.ofInt o11.1)] w13 _
      refine wp_g 1 (pc1 := 91) (lv1 := [(5, .int (Int32.ofInt (89 + (4 * x4)))), (0, .ref 146), (1, .int (Int32.ofInt x1)), (2, .int (Int32.ofInt x2)), (3, .int (Int32.ofInt x3)), (4, .int (Int32.ofInt x4))]) (st1 := [.ref 146, .int (Int32.ofInt o11.1)]) (w1 := w13) rfl ?_
      refine wx_gr (o := 10) (kf := 39) (ln := 3) (ci := 12) (b := 20) (zz := 0) (x := 146) (by decide +kernel) h14 (hS _ _ sm_146) rfl ?_
      show wp _ 252 94 [(5, .int (Int32.ofInt (89 + (4 * x4)))), (0, .ref 146), (1, .int (Int32.ofInt x1)), (2, .int (Int32.ofInt x2)), (3, .int (Int32.ofInt x3)), (4, .int (Int32.ofInt x4))] [.ref 156, .int (Int32.ofInt o11.1)] w13 _
      refine wp_g 3 (pc1 := 98) (lv1 := [(5, .int (Int32.ofInt (89 + (4 * x4)))), (0, .ref 146), (1, .int (Int32.ofInt x1)), (2, .int (Int32.ofInt x2)), (3, .int (Int32.ofInt x3)), (4, .int (Int32.ofInt x4))]) (st1 := [.int (Int32.ofInt ((89 + (4 * x4)) + 3)), .ref 156, .int (Int32.ofInt o11.1)]) (w1 := w13) (by simp only [Int32.ofInt_add, Int32.ofInt_sub, Int32.ofInt_mul, Int32.ofInt_neg, p_and, p_or, p_xor, p_shl, p_shr, p_usr, p_w8, p_c16, p_lI, q_and, q_or, q_shl, q_shr, q_w32, Int64.ofInt_add, Int64.ofInt_sub, Int64.ofInt_mul, p_mx, p_mn, q_mx, q_mn]; rfl) ?_
      obtain ⟨i15, e16, hx⟩ := bd hx
      refine wx_ra (x := 156) (n := 130) (ln := 1) (a := 0) (b := 0) (zz := 0) (by decide +kernel) h14 (hS _ _ sm_156) e16 ?_
      show wp _ 252 99 [(5, .int (Int32.ofInt (89 + (4 * x4)))), (0, .ref 146), (1, .int (Int32.ofInt x1)), (2, .int (Int32.ofInt x2)), (3, .int (Int32.ofInt x3)), (4, .int (Int32.ofInt x4))] [.int (Int32.ofInt (o11.2 156 i15)), .int (Int32.ofInt o11.1)] w13 _
      refine wx_ne (oo := 7) (ln := 3) (a := 106) (b := 0) (zz := 0) (by decide +kernel) (fun h17 => ?_) (fun h17 => ?_)
      · have hx := ite_f h17 hx
        refine wp_g 4 (pc1 := 35) (lv1 := [(4, .int (Int32.ofInt (x4 + 1))), (3, .int (Int32.ofInt 0)), (5, .int (Int32.ofInt (89 + (4 * x4)))), (0, .ref 146), (1, .int (Int32.ofInt x1)), (2, .int (Int32.ofInt x2))]) (st1 := []) (w1 := w13) (by simp only [Int32.ofInt_add, Int32.ofInt_sub, Int32.ofInt_mul, Int32.ofInt_neg, p_and, p_or, p_xor, p_shl, p_shr, p_usr, p_w8, p_c16, p_lI, q_and, q_or, q_shl, q_shr, q_w32, Int64.ofInt_add, Int64.ofInt_sub, Int64.ofInt_mul, p_mx, p_mn, q_mx, q_mn]; rfl) ?_
        refine wp_lv (lv1 := [(0, .ref 146), (1, .int (Int32.ofInt x1)), (2, .int (Int32.ofInt x2)), (3, .int (Int32.ofInt 0)), (4, .int (Int32.ofInt (x4 + 1)))]) (lsub_p [3, 4, 5, 1, 0] rfl rfl rfl) ?_
        cases hx
        exact kn _ _ rfl h14
      · have hx := ite_t h17 hx
        refine wp_g 5 (pc1 := 35) (lv1 := [(4, .int (Int32.ofInt (x4 + 1))), (3, .int (Int32.ofInt 1)), (5, .int (Int32.ofInt (89 + (4 * x4)))), (0, .ref 146), (1, .int (Int32.ofInt x1)), (2, .int (Int32.ofInt x2))]) (st1 := []) (w1 := w13) (by simp only [Int32.ofInt_add, Int32.ofInt_sub, Int32.ofInt_mul, Int32.ofInt_neg, p_and, p_or, p_xor, p_shl, p_shr, p_usr, p_w8, p_c16, p_lI, q_and, q_or, q_shl, q_shr, q_w32, Int64.ofInt_add, Int64.ofInt_sub, Int64.ofInt_mul, p_mx, p_mn, q_mx, q_mn]; rfl) ?_
        refine wp_lv (lv1 := [(0, .ref 146), (1, .int (Int32.ofInt x1)), (2, .int (Int32.ofInt x2)), (3, .int (Int32.ofInt 1)), (4, .int (Int32.ofInt (x4 + 1)))]) (lsub_p [3, 4, 5, 1, 0] rfl rfl rfl) ?_
        cases hx
        exact kn _ _ rfl h14
noncomputable def xm_fillsFits_b124 (s : Hp) (x1 : Int) (x2 : Int) (x4 : Int) : Option ((Int × Hp) ⊕ (Int × Hp)) :=
  (ix 130 0).bind fun i1 => if w32 x4 < w32 ((s 156 i1) - 1) then (ix 130 1).bind fun i4 => if 0 < w32 (s 156 i4) then (xm_costAt s x4 0 0).bind fun o7 => (ix 56 ((8 * x2) + x4)).bind fun i11 => (some (uh o7.2 170 i11 o7.1)).bind fun s13 => some (.inl (x4 + 1, s13)) else some (.inr (x4, s)) else some (.inr (x4, s))
set_option maxRecDepth 100000 in
theorem xm_fillsFits_b124_ok {d : Nat} {P : Option Value → pm_H → Prop} {w : pm_H} {sh : Shp} {w0 : pm_H} {s : Hp} (hS : StM sh) {x1 : Int} {x2 : Int} {x4 : Int} (h : Rw sh w0 s w) {o : ((Int × Hp) ⊕ (Int × Hp))} (hx : xm_fillsFits_b124 s x1 x2 x4 = some o) (kn : ∀ (q : Int × Hp) w1, o = .inl q → Rw sh w0 q.2 w1 → wp (d + 5) 252 124 [(0, .ref 146), (1, .int (Int32.ofInt x1)), (2, .int (Int32.ofInt x2)), (4, .int (Int32.ofInt q.1))] [] w1 P) (kc : ∀ (r : (Int × Hp)), o = .inr r → (∀ w1, Rw sh w0 r.2 w1 → wp (d + 5) 252 172 [(0, .ref 146), (1, .int (Int32.ofInt x1)), (2, .int (Int32.ofInt x2)), (4, .int (Int32.ofInt r.1))] [] w1 P)) : wp (d + 5) 252 124 [(0, .ref 146), (1, .int (Int32.ofInt x1)), (2, .int (Int32.ofInt x2)), (4, .int (Int32.ofInt x4))] [] w P := by
  unfold xm_fillsFits_b124 at hx
  refine wp_g 2 (pc1 := 127) (lv1 := [(0, .ref 146), (1, .int (Int32.ofInt x1)), (2, .int (Int32.ofInt x2)), (4, .int (Int32.ofInt x4))]) (st1 := [.ref 146, .int (Int32.ofInt x4)]) (w1 := w) rfl ?_
  refine wx_gr (o := 10) (kf := 39) (ln := 3) (ci := 12) (b := 20) (zz := 0) (x := 146) (by decide +kernel) h (hS _ _ sm_146) rfl ?_
  show wp _ 252 130 [(0, .ref 146), (1, .int (Int32.ofInt x1)), (2, .int (Int32.ofInt x2)), (4, .int (Int32.ofInt x4))] [.ref 156, .int (Int32.ofInt x4)] w _
  refine wp_g 1 (pc1 := 131) (lv1 := [(0, .ref 146), (1, .int (Int32.ofInt x1)), (2, .int (Int32.ofInt x2)), (4, .int (Int32.ofInt x4))]) (st1 := [.int (Int32.ofInt 0), .ref 156, .int (Int32.ofInt x4)]) (w1 := w) rfl ?_
  obtain ⟨i1, e2, hx⟩ := bd hx
  refine wx_ra (x := 156) (n := 130) (ln := 1) (a := 0) (b := 0) (zz := 0) (by decide +kernel) h (hS _ _ sm_156) e2 ?_
  show wp _ 252 132 [(0, .ref 146), (1, .int (Int32.ofInt x1)), (2, .int (Int32.ofInt x2)), (4, .int (Int32.ofInt x4))] [.int (Int32.ofInt (s 156 i1)), .int (Int32.ofInt x4)] w _
  refine wp_g 2 (pc1 := 134) (lv1 := [(0, .ref 146), (1, .int (Int32.ofInt x1)), (2, .int (Int32.ofInt x2)), (4, .int (Int32.ofInt x4))]) (st1 := [.int (Int32.ofInt ((s 156 i1) - 1)), .int (Int32.ofInt x4)]) (w1 := w) (by simp only [Int32.ofInt_add, Int32.ofInt_sub, Int32.ofInt_mul, Int32.ofInt_neg, p_and, p_or, p_xor, p_shl, p_shr, p_usr, p_w8, p_c16, p_lI, q_and, q_or, q_shl, q_shr, q_w32, Int64.ofInt_add, Int64.ofInt_sub, Int64.ofInt_mul, p_mx, p_mn, q_mx, q_mn]; rfl) ?_
  refine wx_ge (oo := 38) (ln := 3) (a := 172) (b := 0) (zz := 0) (by decide +kernel) (fun h3 => ?_) (fun h3 => ?_)
  · have hx := ite_f h3 hx
    cases hx
    exact kc _ rfl _ h
  · have hx := ite_t h3 hx
    refine wp_g 1 (pc1 := 138) (lv1 := [(0, .ref 146), (1, .int (Int32.ofInt x1)), (2, .int (Int32.ofInt x2)), (4, .int (Int32.ofInt x4))]) (st1 := [.ref 146]) (w1 := w) rfl ?_
    refine wx_gr (o := 10) (kf := 39) (ln := 3) (ci := 12) (b := 20) (zz := 0) (x := 146) (by decide +kernel) h (hS _ _ sm_146) rfl ?_
    show wp _ 252 141 [(0, .ref 146), (1, .int (Int32.ofInt x1)), (2, .int (Int32.ofInt x2)), (4, .int (Int32.ofInt x4))] [.ref 156] w _
    refine wp_g 1 (pc1 := 142) (lv1 := [(0, .ref 146), (1, .int (Int32.ofInt x1)), (2, .int (Int32.ofInt x2)), (4, .int (Int32.ofInt x4))]) (st1 := [.int (Int32.ofInt 1), .ref 156]) (w1 := w) rfl ?_
    obtain ⟨i4, e5, hx⟩ := bd hx
    refine wx_ra (x := 156) (n := 130) (ln := 1) (a := 0) (b := 0) (zz := 0) (by decide +kernel) h (hS _ _ sm_156) e5 ?_
    show wp _ 252 143 [(0, .ref 146), (1, .int (Int32.ofInt x1)), (2, .int (Int32.ofInt x2)), (4, .int (Int32.ofInt x4))] [.int (Int32.ofInt (s 156 i4))] w _
    refine wz_le (oo := 29) (ln := 3) (a := 172) (b := 0) (zz := 0) (by decide +kernel) (fun h6 => ?_) (fun h6 => ?_)
    · have hx := ite_f h6 hx
      cases hx
      exact kc _ rfl _ h
    · have hx := ite_t h6 hx
      refine wp_g 1 (pc1 := 147) (lv1 := [(0, .ref 146), (1, .int (Int32.ofInt x1)), (2, .int (Int32.ofInt x2)), (4, .int (Int32.ofInt x4))]) (st1 := [.ref 146]) (w1 := w) rfl ?_
      refine wx_gr (o := 24) (kf := 86) (ln := 3) (ci := 12) (b := 39) (zz := 0) (x := 146) (by decide +kernel) h (hS _ _ sm_146) rfl ?_
      show wp _ 252 150 [(0, .ref 146), (1, .int (Int32.ofInt x1)), (2, .int (Int32.ofInt x2)), (4, .int (Int32.ofInt x4))] [.ref 170] w _
      refine wp_g 9 (pc1 := 162) (lv1 := [(0, .ref 146), (1, .int (Int32.ofInt x1)), (2, .int (Int32.ofInt x2)), (4, .int (Int32.ofInt x4))]) (st1 := [.int (Int32.ofInt 0), .int (Int32.ofInt 0), .int (Int32.ofInt x4), .ref 146, .int (Int32.ofInt ((8 * x2) + x4)), .ref 170]) (w1 := w) (by simp only [Int32.ofInt_add, Int32.ofInt_sub, Int32.ofInt_mul, Int32.ofInt_neg, p_and, p_or, p_xor, p_shl, p_shr, p_usr, p_w8, p_c16, p_lI, q_and, q_or, q_shl, q_shr, q_w32, Int64.ofInt_add, Int64.ofInt_sub, Int64.ofInt_mul, p_mx, p_mn, q_mx, q_mn]; rfl) ?_
      obtain ⟨o7, e8, hx⟩ := bd hx
      refine wp_cl [.ref 146, .int (Int32.ofInt x4), .int (Int32.ofInt 0), .int (Int32.ofInt 0)] [.int (Int32.ofInt ((8 * x2) + x4)), .ref 170] (i := .invokevirtual 461) (ln := 3) (a := 251) (b := 0) (z := 0) (by decide +kernel) rfl rfl (by decide) rfl (show (4 : Nat) = pm_na 251 by decide +kernel) (Nat.le_of_ble_eq_true rfl) (show (4 : Nat) ≤ pm_n 251 by decide +kernel) (rcv_x 12 h (hS _ _ sm_146) (by decide +kernel)) (xm_costAt_ok (d := d) hS h e8 (fun w9 h10 => ?_))
      show wp _ 252 165 [(0, .ref 146), (1, .int (Int32.ofInt x1)), (2, .int (Int32.ofInt x2)), (4, .int (Int32.ofInt x4))] [.int (Int32.ofInt o7.1), .int (Int32.ofInt ((8 * x2) + x4)), .ref 170] w9 _
      obtain ⟨i11, e12, hx⟩ := bd hx
      obtain ⟨s13, e14, hx⟩ := bd hx
      refine wx_wa (x := 170) (n := 56) (ln := 1) (a := 0) (b := 0) (zz := 0) (by decide +kernel) h10 (hS _ _ sm_170) e12 e14 (fun w15 h16 => ?_)
      refine wp_g 2 (pc1 := 124) (lv1 := [(4, .int (Int32.ofInt (x4 + 1))), (0, .ref 146), (1, .int (Int32.ofInt x1)), (2, .int (Int32.ofInt x2))]) (st1 := []) (w1 := w15) (by simp only [Int32.ofInt_add, Int32.ofInt_sub, Int32.ofInt_mul, Int32.ofInt_neg, p_and, p_or, p_xor, p_shl, p_shr, p_usr, p_w8, p_c16, p_lI, q_and, q_or, q_shl, q_shr, q_w32, Int64.ofInt_add, Int64.ofInt_sub, Int64.ofInt_mul, p_mx, p_mn, q_mx, q_mn]; rfl) ?_
      refine wp_lv (lv1 := [(0, .ref 146), (1, .int (Int32.ofInt x1)), (2, .int (Int32.ofInt x2)), (4, .int (Int32.ofInt (x4 + 1)))]) (lsub_p [1, 2, 3, 0] rfl rfl rfl) ?_
      cases hx
      exact kn _ _ rfl h16
noncomputable def xm_fillsFits_b15 (s : Hp) (x1 : Int) (x2 : Int) : Option ((Int × Hp) ⊕ (Int × Hp)) :=
  if w32 (s 146 2) < w32 x2 then some (.inr (x2, s)) else (some (uh s 146 21 (x2 - 1))).bind fun s2 => (lp (fun (q : Int × Int × Hp) => xm_fillsFits_b35 q.2.2 x1 x2 q.1 q.2.1) (1, 0, s2)).bind fun q6 => (ix 7 x2).bind fun i10 => (some (uh q6.2.2 169 i10 (nz q6.1))).bind fun s12 => (lp (fun (q : Int × Hp) => xm_fillsFits_b124 q.2 x1 x2 q.1) (0, s12)).bind fun q16 => some (.inl (x2 + 1, q16.2))
set_option maxRecDepth 100000 in
theorem xm_fillsFits_b15_ok {d : Nat} {P : Option Value → pm_H → Prop} {w : pm_H} {sh : Shp} {w0 : pm_H} {s : Hp} (hS : StM sh) {x1 : Int} {x2 : Int} (h : Rw sh w0 s w) {o : ((Int × Hp) ⊕ (Int × Hp))} (hx : xm_fillsFits_b15 s x1 x2 = some o) (kn : ∀ (q : Int × Hp) w1, o = .inl q → Rw sh w0 q.2 w1 → wp (d + 5) 252 15 [(0, .ref 146), (1, .int (Int32.ofInt x1)), (2, .int (Int32.ofInt q.1))] [] w1 P) (kc : ∀ (r : (Int × Hp)), o = .inr r → (∀ w1, Rw sh w0 r.2 w1 → wp (d + 5) 252 178 [(0, .ref 146), (1, .int (Int32.ofInt x1)), (2, .int (Int32.ofInt r.1))] [] w1 P)) : wp (d + 5) 252 15 [(0, .ref 146), (1, .int (Int32.ofInt x1)), (2, .int (Int32.ofInt x2))] [] w P := by
  unfold xm_fillsFits_b15 at hx
  refine wp_g 2 (pc1 := 17) (lv1 := [(0, .ref 146), (1, .int (Int32.ofInt x1)), (2, .int (Int32.ofInt x2))]) (st1 := [.ref 146, .int (Int32.ofInt x2)]) (w1 := w) rfl ?_
  refine wx_gi (kf := 274) (ln := 3) (ci := 12) (b := 2) (zz := 0) (x := 146) (by decide +kernel) h (hS _ _ sm_146) rfl ?_
  show wp _ 252 20 [(0, .ref 146), (1, .int (Int32.ofInt x1)), (2, .int (Int32.ofInt x2))] [.int (Int32.ofInt (s 146 2)), .int (Int32.ofInt x2)] w _
  refine wx_gt (oo := 158) (ln := 3) (a := 178) (b := 0) (zz := 0) (by decide +kernel) (fun h1 => ?_) (fun h1 => ?_)
  · have hx := ite_t h1 hx
    cases hx
    exact kc _ rfl _ h
  · have hx := ite_f h1 hx
    refine wp_g 4 (pc1 := 27) (lv1 := [(0, .ref 146), (1, .int (Int32.ofInt x1)), (2, .int (Int32.ofInt x2))]) (st1 := [.int (Int32.ofInt (x2 - 1)), .ref 146]) (w1 := w) (by simp only [Int32.ofInt_add, Int32.ofInt_sub, Int32.ofInt_mul, Int32.ofInt_neg, p_and, p_or, p_xor, p_shl, p_shr, p_usr, p_w8, p_c16, p_lI, q_and, q_or, q_shl, q_shr, q_w32, Int64.ofInt_add, Int64.ofInt_sub, Int64.ofInt_mul, p_mx, p_mn, q_mx, q_mn]; rfl) ?_
    obtain ⟨s2, e3, hx⟩ := bd hx
    refine wx_pi (kf := 42) (ln := 3) (ci := 12) (b := 21) (zz := 0) (x := 146) (by decide +kernel) h (hS _ _ sm_146) rfl (by decide +kernel) e3 (fun w4 h5 => ?_)
    refine wp_g 4 (pc1 := 35) (lv1 := [(4, .int (Int32.ofInt 0)), (3, .int (Int32.ofInt 1)), (0, .ref 146), (1, .int (Int32.ofInt x1)), (2, .int (Int32.ofInt x2))]) (st1 := []) (w1 := w4) rfl ?_
    refine wp_lv (lv1 := [(0, .ref 146), (1, .int (Int32.ofInt x1)), (2, .int (Int32.ofInt x2)), (3, .int (Int32.ofInt 1)), (4, .int (Int32.ofInt 0))]) (lsub_p [2, 3, 4, 1, 0] rfl rfl rfl) ?_
    obtain ⟨q6, e7, hx⟩ := bd hx
    refine wp_lp (σ := Int × Int × Hp) (ρ := (Int × Int × Hp)) (B := fun q => xm_fillsFits_b35 q.2.2 x1 x2 q.1 q.2.1) (R := fun q w' => Rw sh w0 q.2.2 w') (C := fun r => ∀ w1, Rw sh w0 r.2.2 w1 → wp (d + 5) 252 114 [(0, .ref 146), (1, .int (Int32.ofInt x1)), (2, .int (Int32.ofInt x2)), (3, .int (Int32.ofInt r.1)), (4, .int (Int32.ofInt r.2.1))] [] w1 P) (lv := fun q => [(0, .ref 146), (1, .int (Int32.ofInt x1)), (2, .int (Int32.ofInt x2)), (3, .int (Int32.ofInt q.1)), (4, .int (Int32.ofInt q.2.1))]) (hd := 35) (fun q w' o hR hb kn kc => xm_fillsFits_b35_ok hS hR hb kn kc) _ _ _ e7 h5 ?_
    intro w8 h9
    show wp _ 252 114 [(0, .ref 146), (1, .int (Int32.ofInt x1)), (2, .int (Int32.ofInt x2)), (3, .int (Int32.ofInt q6.1)), (4, .int (Int32.ofInt q6.2.1))] [] w8 _
    refine wp_g 1 (pc1 := 115) (lv1 := [(0, .ref 146), (1, .int (Int32.ofInt x1)), (2, .int (Int32.ofInt x2)), (3, .int (Int32.ofInt q6.1)), (4, .int (Int32.ofInt q6.2.1))]) (st1 := [.ref 146]) (w1 := w8) rfl ?_
    refine wx_gr (o := 23) (kf := 82) (ln := 3) (ci := 12) (b := 38) (zz := 0) (x := 146) (by decide +kernel) h9 (hS _ _ sm_146) rfl ?_
    show wp _ 252 118 [(0, .ref 146), (1, .int (Int32.ofInt x1)), (2, .int (Int32.ofInt x2)), (3, .int (Int32.ofInt q6.1)), (4, .int (Int32.ofInt q6.2.1))] [.ref 169] w8 _
    refine wp_g 2 (pc1 := 120) (lv1 := [(0, .ref 146), (1, .int (Int32.ofInt x1)), (2, .int (Int32.ofInt x2)), (3, .int (Int32.ofInt q6.1)), (4, .int (Int32.ofInt q6.2.1))]) (st1 := [.int (Int32.ofInt q6.1), .int (Int32.ofInt x2), .ref 169]) (w1 := w8) rfl ?_
    obtain ⟨i10, e11, hx⟩ := bd hx
    obtain ⟨s12, e13, hx⟩ := bd hx
    refine wx_wz (x := 169) (n := 7) (ln := 1) (a := 0) (b := 0) (zz := 0) (by decide +kernel) h9 (hS _ _ sm_169) e11 e13 (fun w14 h15 => ?_)
    refine wp_g 2 (pc1 := 124) (lv1 := [(4, .int (Int32.ofInt 0)), (0, .ref 146), (1, .int (Int32.ofInt x1)), (2, .int (Int32.ofInt x2)), (3, .int (Int32.ofInt q6.1))]) (st1 := []) (w1 := w14) rfl ?_
    refine wp_lv (lv1 := [(0, .ref 146), (1, .int (Int32.ofInt x1)), (2, .int (Int32.ofInt x2)), (4, .int (Int32.ofInt 0))]) (lsub_p [1, 2, 3, 0] rfl rfl rfl) ?_
    obtain ⟨q16, e17, hx⟩ := bd hx
    refine wp_lp (σ := Int × Hp) (ρ := (Int × Hp)) (B := fun q => xm_fillsFits_b124 q.2 x1 x2 q.1) (R := fun q w' => Rw sh w0 q.2 w') (C := fun r => ∀ w1, Rw sh w0 r.2 w1 → wp (d + 5) 252 172 [(0, .ref 146), (1, .int (Int32.ofInt x1)), (2, .int (Int32.ofInt x2)), (4, .int (Int32.ofInt r.1))] [] w1 P) (lv := fun q => [(0, .ref 146), (1, .int (Int32.ofInt x1)), (2, .int (Int32.ofInt x2)), (4, .int (Int32.ofInt q.1))]) (hd := 124) (fun q w' o hR hb kn kc => xm_fillsFits_b124_ok hS hR hb kn kc) _ _ _ e17 h15 ?_
    intro w18 h19
    show wp _ 252 172 [(0, .ref 146), (1, .int (Int32.ofInt x1)), (2, .int (Int32.ofInt x2)), (4, .int (Int32.ofInt q16.1))] [] w18 _
    refine wp_g 2 (pc1 := 15) (lv1 := [(2, .int (Int32.ofInt (x2 + 1))), (0, .ref 146), (1, .int (Int32.ofInt x1)), (4, .int (Int32.ofInt q16.1))]) (st1 := []) (w1 := w18) (by simp only [Int32.ofInt_add, Int32.ofInt_sub, Int32.ofInt_mul, Int32.ofInt_neg, p_and, p_or, p_xor, p_shl, p_shr, p_usr, p_w8, p_c16, p_lI, q_and, q_or, q_shl, q_shr, q_w32, Int64.ofInt_add, Int64.ofInt_sub, Int64.ofInt_mul, p_mx, p_mn, q_mx, q_mn]; rfl) ?_
    refine wp_lv (lv1 := [(0, .ref 146), (1, .int (Int32.ofInt x1)), (2, .int (Int32.ofInt (x2 + 1)))]) (lsub_p [1, 2, 0] rfl rfl rfl) ?_
    cases hx
    exact kn _ _ rfl h19
/-- FoldDeedsModel.fillsFits ()V -/
noncomputable def xm_fillsFits (s : Hp) : Option Hp :=
  (xm_keeps s).bind fun o1 => (xm_begins o1).bind fun o5 => (lp (fun (q : Int × Hp) => xm_fillsFits_b15 q.2 (s 146 21) q.1) (0, o5)).bind fun q9 => (some (uh q9.2 146 21 (s 146 21))).bind fun s13 => (xm_laysBack s13).bind fun o17 => some o17
set_option maxRecDepth 100000 in
theorem xm_fillsFits_ok {d : Nat} {P : Option Value → pm_H → Prop} {w : pm_H} {sh : Shp} {w0 : pm_H} {s : Hp} (hS : StM sh) (h : Rw sh w0 s w) {o : Hp} (hx : xm_fillsFits s = some o) (kr : ∀ w1, Rw sh w0 o w1 → P none w1) : wp (d + 5) 252 0 (lv_args 0 [.ref 146]) [] w P := by
  show wp _ 252 0 [(0, .ref 146)] [] w _
  unfold xm_fillsFits at hx
  refine wp_g 1 (pc1 := 1) (lv1 := [(0, .ref 146)]) (st1 := [.ref 146]) (w1 := w) rfl ?_
  refine wx_gi (kf := 42) (ln := 3) (ci := 12) (b := 21) (zz := 0) (x := 146) (by decide +kernel) h (hS _ _ sm_146) rfl ?_
  show wp _ 252 4 [(0, .ref 146)] [.int (Int32.ofInt (s 146 21))] w _
  refine wp_g 2 (pc1 := 6) (lv1 := [(1, .int (Int32.ofInt (s 146 21))), (0, .ref 146)]) (st1 := [.ref 146]) (w1 := w) rfl ?_
  obtain ⟨o1, e2, hx⟩ := bd hx
  refine wp_cl [.ref 146] [] (i := .invokevirtual 414) (ln := 3) (a := 226) (b := 0) (z := 0) (by decide +kernel) rfl rfl (by decide) rfl (show (1 : Nat) = pm_na 226 by decide +kernel) (Nat.le_of_ble_eq_true rfl) (show (1 : Nat) ≤ pm_n 226 by decide +kernel) (rcv_x 12 h (hS _ _ sm_146) (by decide +kernel)) (xm_keeps_ok (d := d + 4) hS h e2 (fun w3 h4 => ?_))
  show wp _ 252 9 [(1, .int (Int32.ofInt (s 146 21))), (0, .ref 146)] [] w3 _
  refine wp_g 1 (pc1 := 10) (lv1 := [(1, .int (Int32.ofInt (s 146 21))), (0, .ref 146)]) (st1 := [.ref 146]) (w1 := w3) rfl ?_
  obtain ⟨o5, e6, hx⟩ := bd hx
  refine wp_cl [.ref 146] [] (i := .invokevirtual 280) (ln := 3) (a := 197) (b := 0) (z := 0) (by decide +kernel) rfl rfl (by decide) rfl (show (1 : Nat) = pm_na 197 by decide +kernel) (Nat.le_of_ble_eq_true rfl) (show (1 : Nat) ≤ pm_n 197 by decide +kernel) (rcv_x 12 h4 (hS _ _ sm_146) (by decide +kernel)) (xm_begins_ok (d := d + 3) hS h4 e6 (fun w7 h8 => ?_))
  show wp _ 252 13 [(1, .int (Int32.ofInt (s 146 21))), (0, .ref 146)] [] w7 _
  refine wp_g 2 (pc1 := 15) (lv1 := [(2, .int (Int32.ofInt 0)), (1, .int (Int32.ofInt (s 146 21))), (0, .ref 146)]) (st1 := []) (w1 := w7) rfl ?_
  refine wp_lv (lv1 := [(0, .ref 146), (1, .int (Int32.ofInt (s 146 21))), (2, .int (Int32.ofInt 0))]) (lsub_p [2, 1, 0] rfl rfl rfl) ?_
  obtain ⟨q9, e10, hx⟩ := bd hx
  refine wp_lp (σ := Int × Hp) (ρ := (Int × Hp)) (B := fun q => xm_fillsFits_b15 q.2 (s 146 21) q.1) (R := fun q w' => Rw sh w0 q.2 w') (C := fun r => ∀ w1, Rw sh w0 r.2 w1 → wp (d + 5) 252 178 [(0, .ref 146), (1, .int (Int32.ofInt (s 146 21))), (2, .int (Int32.ofInt r.1))] [] w1 P) (lv := fun q => [(0, .ref 146), (1, .int (Int32.ofInt (s 146 21))), (2, .int (Int32.ofInt q.1))]) (hd := 15) (fun q w' o hR hb kn kc => xm_fillsFits_b15_ok hS hR hb kn kc) _ _ _ e10 h8 ?_
  intro w11 h12
  show wp _ 252 178 [(0, .ref 146), (1, .int (Int32.ofInt (s 146 21))), (2, .int (Int32.ofInt q9.1))] [] w11 _
  refine wp_g 2 (pc1 := 180) (lv1 := [(0, .ref 146), (1, .int (Int32.ofInt (s 146 21))), (2, .int (Int32.ofInt q9.1))]) (st1 := [.int (Int32.ofInt (s 146 21)), .ref 146]) (w1 := w11) rfl ?_
  obtain ⟨s13, e14, hx⟩ := bd hx
  refine wx_pi (kf := 42) (ln := 3) (ci := 12) (b := 21) (zz := 0) (x := 146) (by decide +kernel) h12 (hS _ _ sm_146) rfl (by decide +kernel) e14 (fun w15 h16 => ?_)
  refine wp_g 1 (pc1 := 184) (lv1 := [(0, .ref 146), (1, .int (Int32.ofInt (s 146 21))), (2, .int (Int32.ofInt q9.1))]) (st1 := [.ref 146]) (w1 := w15) rfl ?_
  obtain ⟨o17, e18, hx⟩ := bd hx
  refine wp_cl [.ref 146] [] (i := .invokevirtual 420) (ln := 3) (a := 227) (b := 0) (z := 0) (by decide +kernel) rfl rfl (by decide) rfl (show (1 : Nat) = pm_na 227 by decide +kernel) (Nat.le_of_ble_eq_true rfl) (show (1 : Nat) ≤ pm_n 227 by decide +kernel) (rcv_x 12 h16 (hS _ _ sm_146) (by decide +kernel)) (xm_laysBack_ok (d := d + 4) hS h16 e18 (fun w19 h20 => ?_))
  show wp _ 252 187 [(0, .ref 146), (1, .int (Int32.ofInt (s 146 21))), (2, .int (Int32.ofInt q9.1))] [] w19 _
  refine wp_rt (i := .return_) (r := none) (ln := 1) (a := 0) (b := 0) (z := 0) (by decide +kernel) rfl (ret_v (by decide +kernel)) ?_
  cases hx
  exact kr _ h20
noncomputable def xm_ruled_b35 (s : Hp) (x1 : Int) (x2 : Int) (x3 : Int) (x4 : Int) : Option ((Int × Int × Int) ⊕ (Int × Int × Int)) :=
  if w32 x4 < 0 then some (.inr (x2, x3, x4)) else (ix 7 x4).bind fun i2 => if w32 (s 169 i2) = 0 then some (.inl (x2, x3, x4 + (-1))) else some (.inl (x2 + 1, x4 - 1, x4 + (-1)))
set_option maxRecDepth 100000 in
theorem xm_ruled_b35_ok {d : Nat} {P : Option Value → pm_H → Prop} {w : pm_H} {sh : Shp} {w0 : pm_H} {s : Hp} (hS : StM sh) {x1 : Int} {x2 : Int} {x3 : Int} {x4 : Int} (h : Rw sh w0 s w) {o : ((Int × Int × Int) ⊕ (Int × Int × Int))} (hx : xm_ruled_b35 s x1 x2 x3 x4 = some o) (kn : ∀ (q : Int × Int × Int) w1, o = .inl q → w = w1 → wp (d + 6) 253 35 [(0, .ref 146), (1, .int (Int32.ofInt x1)), (2, .int (Int32.ofInt q.1)), (3, .int (Int32.ofInt q.2.1)), (4, .int (Int32.ofInt q.2.2))] [] w1 P) (kc : ∀ (r : (Int × Int × Int)), o = .inr r → (∀ w1, w = w1 → wp (d + 6) 253 67 [(0, .ref 146), (1, .int (Int32.ofInt x1)), (2, .int (Int32.ofInt r.1)), (3, .int (Int32.ofInt r.2.1)), (4, .int (Int32.ofInt r.2.2))] [] w1 P)) : wp (d + 6) 253 35 [(0, .ref 146), (1, .int (Int32.ofInt x1)), (2, .int (Int32.ofInt x2)), (3, .int (Int32.ofInt x3)), (4, .int (Int32.ofInt x4))] [] w P := by
  unfold xm_ruled_b35 at hx
  refine wp_g 1 (pc1 := 37) (lv1 := [(0, .ref 146), (1, .int (Int32.ofInt x1)), (2, .int (Int32.ofInt x2)), (3, .int (Int32.ofInt x3)), (4, .int (Int32.ofInt x4))]) (st1 := [.int (Int32.ofInt x4)]) (w1 := w) rfl ?_
  refine wz_lt (oo := 30) (ln := 3) (a := 67) (b := 0) (zz := 0) (by decide +kernel) (fun h1 => ?_) (fun h1 => ?_)
  · have hx := ite_t h1 hx
    cases hx
    exact kc _ rfl _ rfl
  · have hx := ite_f h1 hx
    refine wp_g 1 (pc1 := 41) (lv1 := [(0, .ref 146), (1, .int (Int32.ofInt x1)), (2, .int (Int32.ofInt x2)), (3, .int (Int32.ofInt x3)), (4, .int (Int32.ofInt x4))]) (st1 := [.ref 146]) (w1 := w) rfl ?_
    refine wx_gr (o := 23) (kf := 82) (ln := 3) (ci := 12) (b := 38) (zz := 0) (x := 146) (by decide +kernel) h (hS _ _ sm_146) rfl ?_
    show wp _ 253 44 [(0, .ref 146), (1, .int (Int32.ofInt x1)), (2, .int (Int32.ofInt x2)), (3, .int (Int32.ofInt x3)), (4, .int (Int32.ofInt x4))] [.ref 169] w _
    refine wp_g 1 (pc1 := 46) (lv1 := [(0, .ref 146), (1, .int (Int32.ofInt x1)), (2, .int (Int32.ofInt x2)), (3, .int (Int32.ofInt x3)), (4, .int (Int32.ofInt x4))]) (st1 := [.int (Int32.ofInt x4), .ref 169]) (w1 := w) rfl ?_
    obtain ⟨i2, e3, hx⟩ := bd hx
    refine wx_rz (x := 169) (n := 7) (ln := 1) (a := 0) (b := 0) (zz := 0) (by decide +kernel) h (hS _ _ sm_169) e3 ?_
    show wp _ 253 47 [(0, .ref 146), (1, .int (Int32.ofInt x1)), (2, .int (Int32.ofInt x2)), (3, .int (Int32.ofInt x3)), (4, .int (Int32.ofInt x4))] [.int (Int32.ofInt (s 169 i2))] w _
    refine wz_ne (oo := 6) (ln := 3) (a := 53) (b := 0) (zz := 0) (by decide +kernel) (fun h4 => ?_) (fun h4 => ?_)
    · have hx := ite_f h4 hx
      refine wp_g 7 (pc1 := 35) (lv1 := [(4, .int (Int32.ofInt (x4 + (-1)))), (2, .int (Int32.ofInt (x2 + 1))), (3, .int (Int32.ofInt (x4 - 1))), (0, .ref 146), (1, .int (Int32.ofInt x1))]) (st1 := []) (w1 := w) (by simp only [Int32.ofInt_add, Int32.ofInt_sub, Int32.ofInt_mul, Int32.ofInt_neg, p_and, p_or, p_xor, p_shl, p_shr, p_usr, p_w8, p_c16, p_lI, q_and, q_or, q_shl, q_shr, q_w32, Int64.ofInt_add, Int64.ofInt_sub, Int64.ofInt_mul, p_mx, p_mn, q_mx, q_mn]; rfl) ?_
      refine wp_lv (lv1 := [(0, .ref 146), (1, .int (Int32.ofInt x1)), (2, .int (Int32.ofInt (x2 + 1))), (3, .int (Int32.ofInt (x4 - 1))), (4, .int (Int32.ofInt (x4 + (-1))))]) (lsub_p [3, 4, 1, 2, 0] rfl rfl rfl) ?_
      cases hx
      exact kn _ _ rfl rfl
    · have hx := ite_t h4 hx
      refine wp_g 3 (pc1 := 35) (lv1 := [(4, .int (Int32.ofInt (x4 + (-1)))), (0, .ref 146), (1, .int (Int32.ofInt x1)), (2, .int (Int32.ofInt x2)), (3, .int (Int32.ofInt x3))]) (st1 := []) (w1 := w) (by simp only [Int32.ofInt_add, Int32.ofInt_sub, Int32.ofInt_mul, Int32.ofInt_neg, p_and, p_or, p_xor, p_shl, p_shr, p_usr, p_w8, p_c16, p_lI, q_and, q_or, q_shl, q_shr, q_w32, Int64.ofInt_add, Int64.ofInt_sub, Int64.ofInt_mul, p_mx, p_mn, q_mx, q_mn]; rfl) ?_
      refine wp_lv (lv1 := [(0, .ref 146), (1, .int (Int32.ofInt x1)), (2, .int (Int32.ofInt x2)), (3, .int (Int32.ofInt x3)), (4, .int (Int32.ofInt (x4 + (-1))))]) (lsub_p [1, 2, 3, 4, 0] rfl rfl rfl) ?_
      cases hx
      exact kn _ _ rfl rfl
/-- FoldDeedsModel.ruled (I)I -/
noncomputable def xm_ruled (s : Hp) (p1 : Int) : Option (Int × Hp) :=
  (xm_isCloth s).bind fun o1 => if w32 o1 = 0 then some ((-3), s) else (xm_in (w32 p1) 0 1).bind fun o6 => if w32 o6 = 0 then some ((-3), s) else (xm_fillsFits s).bind fun o11 => (lp (fun (q : Int × Int × Int) => xm_ruled_b35 o11 p1 q.1 q.2.1 q.2.2) (0, (-2), o11 146 2)).bind fun q15 => if w32 p1 = 0 then some (q15.1, o11) else some (q15.2.1, o11)
set_option maxRecDepth 100000 in
theorem xm_ruled_ok {d : Nat} {P : Option Value → pm_H → Prop} {w : pm_H} {sh : Shp} {w0 : pm_H} {s : Hp} (hS : StM sh) {p1 : Int} (h : Rw sh w0 s w) {o : Int × Hp} (hx : xm_ruled s p1 = some o) (kr : ∀ w1, Rw sh w0 o.2 w1 → P (some (.int (Int32.ofInt o.1))) w1) : wp (d + 6) 253 0 (lv_args 0 [.ref 146, .int (Int32.ofInt p1)]) [] w P := by
  show wp _ 253 0 [(0, .ref 146), (1, .int (Int32.ofInt p1))] [] w _
  unfold xm_ruled at hx
  refine wp_g 1 (pc1 := 1) (lv1 := [(0, .ref 146), (1, .int (Int32.ofInt p1))]) (st1 := [.ref 146]) (w1 := w) rfl ?_
  obtain ⟨o1, e2, hx⟩ := bd hx
  refine wp_cl [.ref 146] [] (i := .invokevirtual 301) (ln := 3) (a := 190) (b := 0) (z := 0) (by decide +kernel) rfl rfl (by decide) rfl (show (1 : Nat) = pm_na 190 by decide +kernel) (Nat.le_of_ble_eq_true rfl) (show (1 : Nat) ≤ pm_n 190 by decide +kernel) (rcv_x 12 h (hS _ _ sm_146) (by decide +kernel)) (xm_isCloth_ok (d := d + 5) hS h e2 ?_)
  show wp _ 253 4 [(0, .ref 146), (1, .int (Int32.ofInt p1))] [.int (Int32.ofInt o1)] w _
  refine wz_eq (oo := 13) (ln := 3) (a := 17) (b := 0) (zz := 0) (by decide +kernel) (fun h5 => ?_) (fun h5 => ?_)
  · have hx := ite_t h5 hx
    refine wp_g 1 (pc1 := 19) (lv1 := [(0, .ref 146), (1, .int (Int32.ofInt p1))]) (st1 := [.int (Int32.ofInt (-3))]) (w1 := w) rfl ?_
    refine wp_rt (i := .ireturn) (r := some (.int (Int32.ofInt (-3)))) (ln := 1) (a := 0) (b := 0) (z := 0) (by decide +kernel) rfl (ret_ok (by decide +kernel)) ?_
    cases hx
    exact kr _ h
  · have hx := ite_f h5 hx
    refine wp_g 4 (pc1 := 11) (lv1 := [(0, .ref 146), (1, .int (Int32.ofInt p1))]) (st1 := [.long (Int64.ofInt 1), .long (Int64.ofInt 0), .long (Int64.ofInt (w32 p1))]) (w1 := w) (by simp only [Int32.ofInt_add, Int32.ofInt_sub, Int32.ofInt_mul, Int32.ofInt_neg, p_and, p_or, p_xor, p_shl, p_shr, p_usr, p_w8, p_c16, p_lI, q_and, q_or, q_shl, q_shr, q_w32, Int64.ofInt_add, Int64.ofInt_sub, Int64.ofInt_mul, p_mx, p_mn, q_mx, q_mn]; rfl) ?_
    obtain ⟨o6, e7, hx⟩ := bd hx
    refine wp_cl [.long (Int64.ofInt (w32 p1)), .long (Int64.ofInt 0), .long (Int64.ofInt 1)] [] (i := .invokestatic 139) (ln := 3) (a := 147) (b := 1) (z := 0) (by decide +kernel) rfl rfl (by decide) rfl (show (3 : Nat) = pm_na 147 by decide +kernel) (Nat.le_of_ble_eq_true rfl) (show (6 : Nat) ≤ pm_n 147 by decide +kernel) (by rw [show pm_k 147 = 1 by decide +kernel]; rfl) (xm_in_ok (d := d + 5) e7 ?_)
    show wp _ 253 14 [(0, .ref 146), (1, .int (Int32.ofInt p1))] [.int (Int32.ofInt o6)] w _
    refine wz_ne (oo := 6) (ln := 3) (a := 20) (b := 0) (zz := 0) (by decide +kernel) (fun h10 => ?_) (fun h10 => ?_)
    · have hx := ite_f h10 hx
      refine wp_g 1 (pc1 := 21) (lv1 := [(0, .ref 146), (1, .int (Int32.ofInt p1))]) (st1 := [.ref 146]) (w1 := w) rfl ?_
      obtain ⟨o11, e12, hx⟩ := bd hx
      refine wp_cl [.ref 146] [] (i := .invokevirtual 464) (ln := 3) (a := 252) (b := 0) (z := 0) (by decide +kernel) rfl rfl (by decide) rfl (show (1 : Nat) = pm_na 252 by decide +kernel) (Nat.le_of_ble_eq_true rfl) (show (1 : Nat) ≤ pm_n 252 by decide +kernel) (rcv_x 12 h (hS _ _ sm_146) (by decide +kernel)) (xm_fillsFits_ok (d := d) hS h e12 (fun w13 h14 => ?_))
      show wp _ 253 24 [(0, .ref 146), (1, .int (Int32.ofInt p1))] [] w13 _
      refine wp_g 5 (pc1 := 30) (lv1 := [(3, .int (Int32.ofInt (-2))), (2, .int (Int32.ofInt 0)), (0, .ref 146), (1, .int (Int32.ofInt p1))]) (st1 := [.ref 146]) (w1 := w13) rfl ?_
      refine wx_gi (kf := 274) (ln := 3) (ci := 12) (b := 2) (zz := 0) (x := 146) (by decide +kernel) h14 (hS _ _ sm_146) rfl ?_
      show wp _ 253 33 [(3, .int (Int32.ofInt (-2))), (2, .int (Int32.ofInt 0)), (0, .ref 146), (1, .int (Int32.ofInt p1))] [.int (Int32.ofInt (o11 146 2))] w13 _
      refine wp_g 1 (pc1 := 35) (lv1 := [(4, .int (Int32.ofInt (o11 146 2))), (3, .int (Int32.ofInt (-2))), (2, .int (Int32.ofInt 0)), (0, .ref 146), (1, .int (Int32.ofInt p1))]) (st1 := []) (w1 := w13) rfl ?_
      refine wp_lv (lv1 := [(0, .ref 146), (1, .int (Int32.ofInt p1)), (2, .int (Int32.ofInt 0)), (3, .int (Int32.ofInt (-2))), (4, .int (Int32.ofInt (o11 146 2)))]) (lsub_p [3, 4, 2, 1, 0] rfl rfl rfl) ?_
      obtain ⟨q15, e16, hx⟩ := bd hx
      refine wp_lp (σ := Int × Int × Int) (ρ := (Int × Int × Int)) (B := fun q => xm_ruled_b35 o11 p1 q.1 q.2.1 q.2.2) (R := fun q w' => w13 = w') (C := fun r => ∀ w1, w13 = w1 → wp (d + 6) 253 67 [(0, .ref 146), (1, .int (Int32.ofInt p1)), (2, .int (Int32.ofInt r.1)), (3, .int (Int32.ofInt r.2.1)), (4, .int (Int32.ofInt r.2.2))] [] w1 P) (lv := fun q => [(0, .ref 146), (1, .int (Int32.ofInt p1)), (2, .int (Int32.ofInt q.1)), (3, .int (Int32.ofInt q.2.1)), (4, .int (Int32.ofInt q.2.2))]) (hd := 35) (fun q w' o hR hb kn kc => by subst hR; exact xm_ruled_b35_ok hS h14 hb kn kc) _ _ _ e16 rfl ?_
      intro w17 h18
      subst h18
      show wp _ 253 67 [(0, .ref 146), (1, .int (Int32.ofInt p1)), (2, .int (Int32.ofInt q15.1)), (3, .int (Int32.ofInt q15.2.1)), (4, .int (Int32.ofInt q15.2.2))] [] w13 _
      refine wp_g 1 (pc1 := 68) (lv1 := [(0, .ref 146), (1, .int (Int32.ofInt p1)), (2, .int (Int32.ofInt q15.1)), (3, .int (Int32.ofInt q15.2.1)), (4, .int (Int32.ofInt q15.2.2))]) (st1 := [.int (Int32.ofInt p1)]) (w1 := w13) rfl ?_
      refine wz_ne (oo := 7) (ln := 3) (a := 75) (b := 0) (zz := 0) (by decide +kernel) (fun h19 => ?_) (fun h19 => ?_)
      · have hx := ite_f h19 hx
        refine wp_g 1 (pc1 := 76) (lv1 := [(0, .ref 146), (1, .int (Int32.ofInt p1)), (2, .int (Int32.ofInt q15.1)), (3, .int (Int32.ofInt q15.2.1)), (4, .int (Int32.ofInt q15.2.2))]) (st1 := [.int (Int32.ofInt q15.2.1)]) (w1 := w13) rfl ?_
        refine wp_rt (i := .ireturn) (r := some (.int (Int32.ofInt q15.2.1))) (ln := 1) (a := 0) (b := 0) (z := 0) (by decide +kernel) rfl (ret_ok (by decide +kernel)) ?_
        cases hx
        exact kr _ h14
      · have hx := ite_t h19 hx
        refine wp_g 2 (pc1 := 76) (lv1 := [(0, .ref 146), (1, .int (Int32.ofInt p1)), (2, .int (Int32.ofInt q15.1)), (3, .int (Int32.ofInt q15.2.1)), (4, .int (Int32.ofInt q15.2.2))]) (st1 := [.int (Int32.ofInt q15.1)]) (w1 := w13) rfl ?_
        refine wp_rt (i := .ireturn) (r := some (.int (Int32.ofInt q15.1))) (ln := 1) (a := 0) (b := 0) (z := 0) (by decide +kernel) rfl (ret_ok (by decide +kernel)) ?_
        cases hx
        exact kr _ h14
    · have hx := ite_t h10 hx
      refine wp_g 1 (pc1 := 19) (lv1 := [(0, .ref 146), (1, .int (Int32.ofInt p1))]) (st1 := [.int (Int32.ofInt (-3))]) (w1 := w) rfl ?_
      refine wp_rt (i := .ireturn) (r := some (.int (Int32.ofInt (-3)))) (ln := 1) (a := 0) (b := 0) (z := 0) (by decide +kernel) rfl (ret_ok (by decide +kernel)) ?_
      cases hx
      exact kr _ h
noncomputable def xm_alikeAt_b18 (s : Hp) (x1 : Int) (x2 : Int) (x3 : Int) (x4 : Int) (x5 : Int) : Option ((Int × Int) ⊕ (Int × Int)) :=
  if w32 (s 146 2) < w32 x5 then some (.inr (x4, x5)) else (ix 7 x3).bind fun i2 => if w32 (s 169 i2) = 0 then some (.inr (x4, x5)) else (ix 7 x5).bind fun i5 => if w32 (s 169 i5) = 0 then some (.inl (x4 + 0, x5 + 1)) else (ix 56 ((8 * x3) + x1)).bind fun i8 => (ix 56 ((8 * x5) + x1)).bind fun i10 => if w32 (s 170 i8) = w32 (s 170 i10) then some (.inl (x4 + 1, x5 + 1)) else some (.inl (x4 + 0, x5 + 1))
set_option maxRecDepth 100000 in
theorem xm_alikeAt_b18_ok {d : Nat} {P : Option Value → pm_H → Prop} {w : pm_H} {sh : Shp} {w0 : pm_H} {s : Hp} (hS : StM sh) {x1 : Int} {x2 : Int} {x3 : Int} {x4 : Int} {x5 : Int} (h : Rw sh w0 s w) {o : ((Int × Int) ⊕ (Int × Int))} (hx : xm_alikeAt_b18 s x1 x2 x3 x4 x5 = some o) (kn : ∀ (q : Int × Int) w1, o = .inl q → w = w1 → wp d 254 18 [(0, .ref 146), (1, .int (Int32.ofInt x1)), (2, .int (Int32.ofInt x2)), (3, .int (Int32.ofInt x3)), (4, .int (Int32.ofInt q.1)), (5, .int (Int32.ofInt q.2))] [] w1 P) (kc : ∀ (r : (Int × Int)), o = .inr r → (∀ w1, w = w1 → wp d 254 88 [(0, .ref 146), (1, .int (Int32.ofInt x1)), (2, .int (Int32.ofInt x2)), (3, .int (Int32.ofInt x3)), (4, .int (Int32.ofInt r.1)), (5, .int (Int32.ofInt r.2))] [] w1 P)) : wp d 254 18 [(0, .ref 146), (1, .int (Int32.ofInt x1)), (2, .int (Int32.ofInt x2)), (3, .int (Int32.ofInt x3)), (4, .int (Int32.ofInt x4)), (5, .int (Int32.ofInt x5))] [] w P := by
  unfold xm_alikeAt_b18 at hx
  refine wp_g 2 (pc1 := 21) (lv1 := [(0, .ref 146), (1, .int (Int32.ofInt x1)), (2, .int (Int32.ofInt x2)), (3, .int (Int32.ofInt x3)), (4, .int (Int32.ofInt x4)), (5, .int (Int32.ofInt x5))]) (st1 := [.ref 146, .int (Int32.ofInt x5)]) (w1 := w) rfl ?_
  refine wx_gi (kf := 274) (ln := 3) (ci := 12) (b := 2) (zz := 0) (x := 146) (by decide +kernel) h (hS _ _ sm_146) rfl ?_
  show wp _ 254 24 [(0, .ref 146), (1, .int (Int32.ofInt x1)), (2, .int (Int32.ofInt x2)), (3, .int (Int32.ofInt x3)), (4, .int (Int32.ofInt x4)), (5, .int (Int32.ofInt x5))] [.int (Int32.ofInt (s 146 2)), .int (Int32.ofInt x5)] w _
  refine wx_gt (oo := 64) (ln := 3) (a := 88) (b := 0) (zz := 0) (by decide +kernel) (fun h1 => ?_) (fun h1 => ?_)
  · have hx := ite_t h1 hx
    cases hx
    exact kc _ rfl _ rfl
  · have hx := ite_f h1 hx
    refine wp_g 1 (pc1 := 28) (lv1 := [(0, .ref 146), (1, .int (Int32.ofInt x1)), (2, .int (Int32.ofInt x2)), (3, .int (Int32.ofInt x3)), (4, .int (Int32.ofInt x4)), (5, .int (Int32.ofInt x5))]) (st1 := [.ref 146]) (w1 := w) rfl ?_
    refine wx_gr (o := 23) (kf := 82) (ln := 3) (ci := 12) (b := 38) (zz := 0) (x := 146) (by decide +kernel) h (hS _ _ sm_146) rfl ?_
    show wp _ 254 31 [(0, .ref 146), (1, .int (Int32.ofInt x1)), (2, .int (Int32.ofInt x2)), (3, .int (Int32.ofInt x3)), (4, .int (Int32.ofInt x4)), (5, .int (Int32.ofInt x5))] [.ref 169] w _
    refine wp_g 1 (pc1 := 32) (lv1 := [(0, .ref 146), (1, .int (Int32.ofInt x1)), (2, .int (Int32.ofInt x2)), (3, .int (Int32.ofInt x3)), (4, .int (Int32.ofInt x4)), (5, .int (Int32.ofInt x5))]) (st1 := [.int (Int32.ofInt x3), .ref 169]) (w1 := w) rfl ?_
    obtain ⟨i2, e3, hx⟩ := bd hx
    refine wx_rz (x := 169) (n := 7) (ln := 1) (a := 0) (b := 0) (zz := 0) (by decide +kernel) h (hS _ _ sm_169) e3 ?_
    show wp _ 254 33 [(0, .ref 146), (1, .int (Int32.ofInt x1)), (2, .int (Int32.ofInt x2)), (3, .int (Int32.ofInt x3)), (4, .int (Int32.ofInt x4)), (5, .int (Int32.ofInt x5))] [.int (Int32.ofInt (s 169 i2))] w _
    refine wz_eq (oo := 55) (ln := 3) (a := 88) (b := 0) (zz := 0) (by decide +kernel) (fun h4 => ?_) (fun h4 => ?_)
    · have hx := ite_t h4 hx
      cases hx
      exact kc _ rfl _ rfl
    · have hx := ite_f h4 hx
      refine wp_g 2 (pc1 := 39) (lv1 := [(0, .ref 146), (1, .int (Int32.ofInt x1)), (2, .int (Int32.ofInt x2)), (3, .int (Int32.ofInt x3)), (4, .int (Int32.ofInt x4)), (5, .int (Int32.ofInt x5))]) (st1 := [.ref 146, .int (Int32.ofInt x4)]) (w1 := w) rfl ?_
      refine wx_gr (o := 23) (kf := 82) (ln := 3) (ci := 12) (b := 38) (zz := 0) (x := 146) (by decide +kernel) h (hS _ _ sm_146) rfl ?_
      show wp _ 254 42 [(0, .ref 146), (1, .int (Int32.ofInt x1)), (2, .int (Int32.ofInt x2)), (3, .int (Int32.ofInt x3)), (4, .int (Int32.ofInt x4)), (5, .int (Int32.ofInt x5))] [.ref 169, .int (Int32.ofInt x4)] w _
      refine wp_g 1 (pc1 := 44) (lv1 := [(0, .ref 146), (1, .int (Int32.ofInt x1)), (2, .int (Int32.ofInt x2)), (3, .int (Int32.ofInt x3)), (4, .int (Int32.ofInt x4)), (5, .int (Int32.ofInt x5))]) (st1 := [.int (Int32.ofInt x5), .ref 169, .int (Int32.ofInt x4)]) (w1 := w) rfl ?_
      obtain ⟨i5, e6, hx⟩ := bd hx
      refine wx_rz (x := 169) (n := 7) (ln := 1) (a := 0) (b := 0) (zz := 0) (by decide +kernel) h (hS _ _ sm_169) e6 ?_
      show wp _ 254 45 [(0, .ref 146), (1, .int (Int32.ofInt x1)), (2, .int (Int32.ofInt x2)), (3, .int (Int32.ofInt x3)), (4, .int (Int32.ofInt x4)), (5, .int (Int32.ofInt x5))] [.int (Int32.ofInt (s 169 i5)), .int (Int32.ofInt x4)] w _
      refine wz_eq (oo := 33) (ln := 3) (a := 78) (b := 0) (zz := 0) (by decide +kernel) (fun h7 => ?_) (fun h7 => ?_)
      · have hx := ite_t h7 hx
        refine wp_g 5 (pc1 := 18) (lv1 := [(5, .int (Int32.ofInt (x5 + 1))), (4, .int (Int32.ofInt (x4 + 0))), (0, .ref 146), (1, .int (Int32.ofInt x1)), (2, .int (Int32.ofInt x2)), (3, .int (Int32.ofInt x3))]) (st1 := []) (w1 := w) (by simp only [Int32.ofInt_add, Int32.ofInt_sub, Int32.ofInt_mul, Int32.ofInt_neg, p_and, p_or, p_xor, p_shl, p_shr, p_usr, p_w8, p_c16, p_lI, q_and, q_or, q_shl, q_shr, q_w32, Int64.ofInt_add, Int64.ofInt_sub, Int64.ofInt_mul, p_mx, p_mn, q_mx, q_mn]; rfl) ?_
        refine wp_lv (lv1 := [(0, .ref 146), (1, .int (Int32.ofInt x1)), (2, .int (Int32.ofInt x2)), (3, .int (Int32.ofInt x3)), (4, .int (Int32.ofInt (x4 + 0))), (5, .int (Int32.ofInt (x5 + 1)))]) (lsub_p [2, 3, 4, 5, 1, 0] rfl rfl rfl) ?_
        cases hx
        exact kn _ _ rfl rfl
      · have hx := ite_f h7 hx
        refine wp_g 1 (pc1 := 49) (lv1 := [(0, .ref 146), (1, .int (Int32.ofInt x1)), (2, .int (Int32.ofInt x2)), (3, .int (Int32.ofInt x3)), (4, .int (Int32.ofInt x4)), (5, .int (Int32.ofInt x5))]) (st1 := [.ref 146, .int (Int32.ofInt x4)]) (w1 := w) rfl ?_
        refine wx_gr (o := 24) (kf := 86) (ln := 3) (ci := 12) (b := 39) (zz := 0) (x := 146) (by decide +kernel) h (hS _ _ sm_146) rfl ?_
        show wp _ 254 52 [(0, .ref 146), (1, .int (Int32.ofInt x1)), (2, .int (Int32.ofInt x2)), (3, .int (Int32.ofInt x3)), (4, .int (Int32.ofInt x4)), (5, .int (Int32.ofInt x5))] [.ref 170, .int (Int32.ofInt x4)] w _
        refine wp_g 5 (pc1 := 58) (lv1 := [(0, .ref 146), (1, .int (Int32.ofInt x1)), (2, .int (Int32.ofInt x2)), (3, .int (Int32.ofInt x3)), (4, .int (Int32.ofInt x4)), (5, .int (Int32.ofInt x5))]) (st1 := [.int (Int32.ofInt ((8 * x3) + x1)), .ref 170, .int (Int32.ofInt x4)]) (w1 := w) (by simp only [Int32.ofInt_add, Int32.ofInt_sub, Int32.ofInt_mul, Int32.ofInt_neg, p_and, p_or, p_xor, p_shl, p_shr, p_usr, p_w8, p_c16, p_lI, q_and, q_or, q_shl, q_shr, q_w32, Int64.ofInt_add, Int64.ofInt_sub, Int64.ofInt_mul, p_mx, p_mn, q_mx, q_mn]; rfl) ?_
        obtain ⟨i8, e9, hx⟩ := bd hx
        refine wx_ra (x := 170) (n := 56) (ln := 1) (a := 0) (b := 0) (zz := 0) (by decide +kernel) h (hS _ _ sm_170) e9 ?_
        show wp _ 254 59 [(0, .ref 146), (1, .int (Int32.ofInt x1)), (2, .int (Int32.ofInt x2)), (3, .int (Int32.ofInt x3)), (4, .int (Int32.ofInt x4)), (5, .int (Int32.ofInt x5))] [.int (Int32.ofInt (s 170 i8)), .int (Int32.ofInt x4)] w _
        refine wp_g 1 (pc1 := 60) (lv1 := [(0, .ref 146), (1, .int (Int32.ofInt x1)), (2, .int (Int32.ofInt x2)), (3, .int (Int32.ofInt x3)), (4, .int (Int32.ofInt x4)), (5, .int (Int32.ofInt x5))]) (st1 := [.ref 146, .int (Int32.ofInt (s 170 i8)), .int (Int32.ofInt x4)]) (w1 := w) rfl ?_
        refine wx_gr (o := 24) (kf := 86) (ln := 3) (ci := 12) (b := 39) (zz := 0) (x := 146) (by decide +kernel) h (hS _ _ sm_146) rfl ?_
        show wp _ 254 63 [(0, .ref 146), (1, .int (Int32.ofInt x1)), (2, .int (Int32.ofInt x2)), (3, .int (Int32.ofInt x3)), (4, .int (Int32.ofInt x4)), (5, .int (Int32.ofInt x5))] [.ref 170, .int (Int32.ofInt (s 170 i8)), .int (Int32.ofInt x4)] w _
        refine wp_g 5 (pc1 := 70) (lv1 := [(0, .ref 146), (1, .int (Int32.ofInt x1)), (2, .int (Int32.ofInt x2)), (3, .int (Int32.ofInt x3)), (4, .int (Int32.ofInt x4)), (5, .int (Int32.ofInt x5))]) (st1 := [.int (Int32.ofInt ((8 * x5) + x1)), .ref 170, .int (Int32.ofInt (s 170 i8)), .int (Int32.ofInt x4)]) (w1 := w) (by simp only [Int32.ofInt_add, Int32.ofInt_sub, Int32.ofInt_mul, Int32.ofInt_neg, p_and, p_or, p_xor, p_shl, p_shr, p_usr, p_w8, p_c16, p_lI, q_and, q_or, q_shl, q_shr, q_w32, Int64.ofInt_add, Int64.ofInt_sub, Int64.ofInt_mul, p_mx, p_mn, q_mx, q_mn]; rfl) ?_
        obtain ⟨i10, e11, hx⟩ := bd hx
        refine wx_ra (x := 170) (n := 56) (ln := 1) (a := 0) (b := 0) (zz := 0) (by decide +kernel) h (hS _ _ sm_170) e11 ?_
        show wp _ 254 71 [(0, .ref 146), (1, .int (Int32.ofInt x1)), (2, .int (Int32.ofInt x2)), (3, .int (Int32.ofInt x3)), (4, .int (Int32.ofInt x4)), (5, .int (Int32.ofInt x5))] [.int (Int32.ofInt (s 170 i10)), .int (Int32.ofInt (s 170 i8)), .int (Int32.ofInt x4)] w _
        refine wx_ne (oo := 7) (ln := 3) (a := 78) (b := 0) (zz := 0) (by decide +kernel) (fun h12 => ?_) (fun h12 => ?_)
        · have hx := ite_f h12 hx
          refine wp_g 5 (pc1 := 18) (lv1 := [(5, .int (Int32.ofInt (x5 + 1))), (4, .int (Int32.ofInt (x4 + 0))), (0, .ref 146), (1, .int (Int32.ofInt x1)), (2, .int (Int32.ofInt x2)), (3, .int (Int32.ofInt x3))]) (st1 := []) (w1 := w) (by simp only [Int32.ofInt_add, Int32.ofInt_sub, Int32.ofInt_mul, Int32.ofInt_neg, p_and, p_or, p_xor, p_shl, p_shr, p_usr, p_w8, p_c16, p_lI, q_and, q_or, q_shl, q_shr, q_w32, Int64.ofInt_add, Int64.ofInt_sub, Int64.ofInt_mul, p_mx, p_mn, q_mx, q_mn]; rfl) ?_
          refine wp_lv (lv1 := [(0, .ref 146), (1, .int (Int32.ofInt x1)), (2, .int (Int32.ofInt x2)), (3, .int (Int32.ofInt x3)), (4, .int (Int32.ofInt (x4 + 0))), (5, .int (Int32.ofInt (x5 + 1)))]) (lsub_p [2, 3, 4, 5, 1, 0] rfl rfl rfl) ?_
          cases hx
          exact kn _ _ rfl rfl
        · have hx := ite_t h12 hx
          refine wp_g 6 (pc1 := 18) (lv1 := [(5, .int (Int32.ofInt (x5 + 1))), (4, .int (Int32.ofInt (x4 + 1))), (0, .ref 146), (1, .int (Int32.ofInt x1)), (2, .int (Int32.ofInt x2)), (3, .int (Int32.ofInt x3))]) (st1 := []) (w1 := w) (by simp only [Int32.ofInt_add, Int32.ofInt_sub, Int32.ofInt_mul, Int32.ofInt_neg, p_and, p_or, p_xor, p_shl, p_shr, p_usr, p_w8, p_c16, p_lI, q_and, q_or, q_shl, q_shr, q_w32, Int64.ofInt_add, Int64.ofInt_sub, Int64.ofInt_mul, p_mx, p_mn, q_mx, q_mn]; rfl) ?_
          refine wp_lv (lv1 := [(0, .ref 146), (1, .int (Int32.ofInt x1)), (2, .int (Int32.ofInt x2)), (3, .int (Int32.ofInt x3)), (4, .int (Int32.ofInt (x4 + 1))), (5, .int (Int32.ofInt (x5 + 1)))]) (lsub_p [2, 3, 4, 5, 1, 0] rfl rfl rfl) ?_
          cases hx
          exact kn _ _ rfl rfl
noncomputable def xm_alikeAt_b4_j88 (s : Hp) (x1 : Int) (x2 : Int) (x3 : Int) (x4 : Int) : Option ((Int × Int) ⊕ (Int × Int)) :=
  if w32 x2 < w32 x4 then some (.inl (x4, x3 + 1)) else some (.inl (x2, x3 + 1))
set_option maxRecDepth 100000 in
theorem xm_alikeAt_b4_j88_ok {d : Nat} {P : Option Value → pm_H → Prop} {w : pm_H} {sh : Shp} {w0 : pm_H} {s : Hp} (hS : StM sh) {x1 : Int} {x2 : Int} {x3 : Int} {x4 : Int} (h : Rw sh w0 s w) {o : ((Int × Int) ⊕ (Int × Int))} (hx : xm_alikeAt_b4_j88 s x1 x2 x3 x4 = some o) (kn : ∀ (q : Int × Int) w1, o = .inl q → w = w1 → wp d 254 4 [(0, .ref 146), (1, .int (Int32.ofInt x1)), (2, .int (Int32.ofInt q.1)), (3, .int (Int32.ofInt q.2))] [] w1 P) (kc : ∀ (r : (Int × Int)), o = .inr r → (∀ w1, w = w1 → wp d 254 107 [(0, .ref 146), (1, .int (Int32.ofInt x1)), (2, .int (Int32.ofInt r.1)), (3, .int (Int32.ofInt r.2))] [] w1 P)) : wp d 254 88 [(0, .ref 146), (1, .int (Int32.ofInt x1)), (2, .int (Int32.ofInt x2)), (3, .int (Int32.ofInt x3)), (4, .int (Int32.ofInt x4))] [] w P := by
  unfold xm_alikeAt_b4_j88 at hx
  refine wp_g 2 (pc1 := 91) (lv1 := [(0, .ref 146), (1, .int (Int32.ofInt x1)), (2, .int (Int32.ofInt x2)), (3, .int (Int32.ofInt x3)), (4, .int (Int32.ofInt x4))]) (st1 := [.int (Int32.ofInt x2), .int (Int32.ofInt x4)]) (w1 := w) rfl ?_
  refine wx_le (oo := 8) (ln := 3) (a := 99) (b := 0) (zz := 0) (by decide +kernel) (fun h1 => ?_) (fun h1 => ?_)
  · have hx := ite_f h1 hx
    refine wp_g 4 (pc1 := 4) (lv1 := [(3, .int (Int32.ofInt (x3 + 1))), (2, .int (Int32.ofInt x2)), (0, .ref 146), (1, .int (Int32.ofInt x1)), (4, .int (Int32.ofInt x4))]) (st1 := []) (w1 := w) (by simp only [Int32.ofInt_add, Int32.ofInt_sub, Int32.ofInt_mul, Int32.ofInt_neg, p_and, p_or, p_xor, p_shl, p_shr, p_usr, p_w8, p_c16, p_lI, q_and, q_or, q_shl, q_shr, q_w32, Int64.ofInt_add, Int64.ofInt_sub, Int64.ofInt_mul, p_mx, p_mn, q_mx, q_mn]; rfl) ?_
    refine wp_lv (lv1 := [(0, .ref 146), (1, .int (Int32.ofInt x1)), (2, .int (Int32.ofInt x2)), (3, .int (Int32.ofInt (x3 + 1)))]) (lsub_p [2, 3, 1, 0] rfl rfl rfl) ?_
    cases hx
    exact kn _ _ rfl rfl
  · have hx := ite_t h1 hx
    refine wp_g 5 (pc1 := 4) (lv1 := [(3, .int (Int32.ofInt (x3 + 1))), (2, .int (Int32.ofInt x4)), (0, .ref 146), (1, .int (Int32.ofInt x1)), (4, .int (Int32.ofInt x4))]) (st1 := []) (w1 := w) (by simp only [Int32.ofInt_add, Int32.ofInt_sub, Int32.ofInt_mul, Int32.ofInt_neg, p_and, p_or, p_xor, p_shl, p_shr, p_usr, p_w8, p_c16, p_lI, q_and, q_or, q_shl, q_shr, q_w32, Int64.ofInt_add, Int64.ofInt_sub, Int64.ofInt_mul, p_mx, p_mn, q_mx, q_mn]; rfl) ?_
    refine wp_lv (lv1 := [(0, .ref 146), (1, .int (Int32.ofInt x1)), (2, .int (Int32.ofInt x4)), (3, .int (Int32.ofInt (x3 + 1)))]) (lsub_p [2, 3, 1, 0] rfl rfl rfl) ?_
    cases hx
    exact kn _ _ rfl rfl
noncomputable def xm_alikeAt_b4 (s : Hp) (x1 : Int) (x2 : Int) (x3 : Int) : Option ((Int × Int) ⊕ (Int × Int)) :=
  if w32 (s 146 2) < w32 x3 then some (.inr (x2, x3)) else (lp (fun (q : Int × Int) => xm_alikeAt_b18 s x1 x2 x3 q.1 q.2) (0, 0)).bind fun q2 => xm_alikeAt_b4_j88 s x1 x2 x3 q2.1
set_option maxRecDepth 100000 in
theorem xm_alikeAt_b4_ok {d : Nat} {P : Option Value → pm_H → Prop} {w : pm_H} {sh : Shp} {w0 : pm_H} {s : Hp} (hS : StM sh) {x1 : Int} {x2 : Int} {x3 : Int} (h : Rw sh w0 s w) {o : ((Int × Int) ⊕ (Int × Int))} (hx : xm_alikeAt_b4 s x1 x2 x3 = some o) (kn : ∀ (q : Int × Int) w1, o = .inl q → w = w1 → wp d 254 4 [(0, .ref 146), (1, .int (Int32.ofInt x1)), (2, .int (Int32.ofInt q.1)), (3, .int (Int32.ofInt q.2))] [] w1 P) (kc : ∀ (r : (Int × Int)), o = .inr r → (∀ w1, w = w1 → wp d 254 107 [(0, .ref 146), (1, .int (Int32.ofInt x1)), (2, .int (Int32.ofInt r.1)), (3, .int (Int32.ofInt r.2))] [] w1 P)) : wp d 254 4 [(0, .ref 146), (1, .int (Int32.ofInt x1)), (2, .int (Int32.ofInt x2)), (3, .int (Int32.ofInt x3))] [] w P := by
  unfold xm_alikeAt_b4 at hx
  refine wp_g 2 (pc1 := 6) (lv1 := [(0, .ref 146), (1, .int (Int32.ofInt x1)), (2, .int (Int32.ofInt x2)), (3, .int (Int32.ofInt x3))]) (st1 := [.ref 146, .int (Int32.ofInt x3)]) (w1 := w) rfl ?_
  refine wx_gi (kf := 274) (ln := 3) (ci := 12) (b := 2) (zz := 0) (x := 146) (by decide +kernel) h (hS _ _ sm_146) rfl ?_
  show wp _ 254 9 [(0, .ref 146), (1, .int (Int32.ofInt x1)), (2, .int (Int32.ofInt x2)), (3, .int (Int32.ofInt x3))] [.int (Int32.ofInt (s 146 2)), .int (Int32.ofInt x3)] w _
  refine wx_gt (oo := 98) (ln := 3) (a := 107) (b := 0) (zz := 0) (by decide +kernel) (fun h1 => ?_) (fun h1 => ?_)
  · have hx := ite_t h1 hx
    cases hx
    exact kc _ rfl _ rfl
  · have hx := ite_f h1 hx
    refine wp_g 4 (pc1 := 18) (lv1 := [(5, .int (Int32.ofInt 0)), (4, .int (Int32.ofInt 0)), (0, .ref 146), (1, .int (Int32.ofInt x1)), (2, .int (Int32.ofInt x2)), (3, .int (Int32.ofInt x3))]) (st1 := []) (w1 := w) rfl ?_
    refine wp_lv (lv1 := [(0, .ref 146), (1, .int (Int32.ofInt x1)), (2, .int (Int32.ofInt x2)), (3, .int (Int32.ofInt x3)), (4, .int (Int32.ofInt 0)), (5, .int (Int32.ofInt 0))]) (lsub_p [2, 3, 4, 5, 1, 0] rfl rfl rfl) ?_
    obtain ⟨q2, e3, hx⟩ := bd hx
    refine wp_lp (σ := Int × Int) (ρ := (Int × Int)) (B := fun q => xm_alikeAt_b18 s x1 x2 x3 q.1 q.2) (R := fun q w' => w = w') (C := fun r => ∀ w1, w = w1 → wp d 254 88 [(0, .ref 146), (1, .int (Int32.ofInt x1)), (2, .int (Int32.ofInt x2)), (3, .int (Int32.ofInt x3)), (4, .int (Int32.ofInt r.1)), (5, .int (Int32.ofInt r.2))] [] w1 P) (lv := fun q => [(0, .ref 146), (1, .int (Int32.ofInt x1)), (2, .int (Int32.ofInt x2)), (3, .int (Int32.ofInt x3)), (4, .int (Int32.ofInt q.1)), (5, .int (Int32.ofInt q.2))]) (hd := 18) (fun q w' o hR hb kn kc => by subst hR; exact xm_alikeAt_b18_ok hS h hb kn kc) _ _ _ e3 rfl ?_
    intro w4 h5
    subst h5
    show wp _ 254 88 [(0, .ref 146), (1, .int (Int32.ofInt x1)), (2, .int (Int32.ofInt x2)), (3, .int (Int32.ofInt x3)), (4, .int (Int32.ofInt q2.1)), (5, .int (Int32.ofInt q2.2))] [] w _
    refine wp_lv (lv1 := [(0, .ref 146), (1, .int (Int32.ofInt x1)), (2, .int (Int32.ofInt x2)), (3, .int (Int32.ofInt x3)), (4, .int (Int32.ofInt q2.1))]) (lsub_p [0, 1, 2, 3, 4] rfl rfl rfl) ?_
    exact xm_alikeAt_b4_j88_ok hS h hx kn kc
/-- FoldDeedsModel.alikeAt (I)I -/
noncomputable def xm_alikeAt (s : Hp) (p1 : Int) : Option Int :=
  (lp (fun (q : Int × Int) => xm_alikeAt_b4 s p1 q.1 q.2) (0, 0)).bind fun q1 => some q1.1
set_option maxRecDepth 100000 in
theorem xm_alikeAt_ok {d : Nat} {P : Option Value → pm_H → Prop} {w : pm_H} {sh : Shp} {w0 : pm_H} {s : Hp} (hS : StM sh) {p1 : Int} (h : Rw sh w0 s w) {o : Int} (hx : xm_alikeAt s p1 = some o) (kr : P (some (.int (Int32.ofInt o))) w) : wp d 254 0 (lv_args 0 [.ref 146, .int (Int32.ofInt p1)]) [] w P := by
  show wp _ 254 0 [(0, .ref 146), (1, .int (Int32.ofInt p1))] [] w _
  unfold xm_alikeAt at hx
  refine wp_g 4 (pc1 := 4) (lv1 := [(3, .int (Int32.ofInt 0)), (2, .int (Int32.ofInt 0)), (0, .ref 146), (1, .int (Int32.ofInt p1))]) (st1 := []) (w1 := w) rfl ?_
  refine wp_lv (lv1 := [(0, .ref 146), (1, .int (Int32.ofInt p1)), (2, .int (Int32.ofInt 0)), (3, .int (Int32.ofInt 0))]) (lsub_p [2, 3, 1, 0] rfl rfl rfl) ?_
  obtain ⟨q1, e2, hx⟩ := bd hx
  refine wp_lp (σ := Int × Int) (ρ := (Int × Int)) (B := fun q => xm_alikeAt_b4 s p1 q.1 q.2) (R := fun q w' => w = w') (C := fun r => ∀ w1, w = w1 → wp d 254 107 [(0, .ref 146), (1, .int (Int32.ofInt p1)), (2, .int (Int32.ofInt r.1)), (3, .int (Int32.ofInt r.2))] [] w1 P) (lv := fun q => [(0, .ref 146), (1, .int (Int32.ofInt p1)), (2, .int (Int32.ofInt q.1)), (3, .int (Int32.ofInt q.2))]) (hd := 4) (fun q w' o hR hb kn kc => by subst hR; exact xm_alikeAt_b4_ok hS h hb kn kc) _ _ _ e2 rfl ?_
  intro w3 h4
  subst h4
  show wp _ 254 107 [(0, .ref 146), (1, .int (Int32.ofInt p1)), (2, .int (Int32.ofInt q1.1)), (3, .int (Int32.ofInt q1.2))] [] w _
  refine wp_g 1 (pc1 := 108) (lv1 := [(0, .ref 146), (1, .int (Int32.ofInt p1)), (2, .int (Int32.ofInt q1.1)), (3, .int (Int32.ofInt q1.2))]) (st1 := [.int (Int32.ofInt q1.1)]) (w1 := w) rfl ?_
  refine wp_rt (i := .ireturn) (r := some (.int (Int32.ofInt q1.1))) (ln := 1) (a := 0) (b := 0) (z := 0) (by decide +kernel) rfl (ret_ok (by decide +kernel)) ?_
  cases hx
  exact kr
noncomputable def xm_look_b39 (s : Hp) (x1 : Int) (x2 : Int) (x3 : Int) : Option ((Int × Int) ⊕ (Int × Int)) :=
  (ix 130 0).bind fun i1 => if w32 x3 < w32 ((s 156 i1) - 1) then (xm_alikeAt s x3).bind fun o4 => (xm_alikeAt s x2).bind fun o8 => if w32 o4 < w32 o8 then some (.inl (x3, x3 + 1)) else some (.inl (x2, x3 + 1)) else some (.inr (x2, x3))
set_option maxRecDepth 100000 in
theorem xm_look_b39_ok {d : Nat} {P : Option Value → pm_H → Prop} {w : pm_H} {sh : Shp} {w0 : pm_H} {s : Hp} (hS : StM sh) {x1 : Int} {x2 : Int} {x3 : Int} (h : Rw sh w0 s w) {o : ((Int × Int) ⊕ (Int × Int))} (hx : xm_look_b39 s x1 x2 x3 = some o) (kn : ∀ (q : Int × Int) w1, o = .inl q → w = w1 → wp (d + 6) 255 39 [(0, .ref 146), (1, .int (Int32.ofInt x1)), (2, .int (Int32.ofInt q.1)), (3, .int (Int32.ofInt q.2))] [] w1 P) (kc : ∀ (r : (Int × Int)), o = .inr r → (∀ w1, w = w1 → wp (d + 6) 255 72 [(0, .ref 146), (1, .int (Int32.ofInt x1)), (2, .int (Int32.ofInt r.1)), (3, .int (Int32.ofInt r.2))] [] w1 P)) : wp (d + 6) 255 39 [(0, .ref 146), (1, .int (Int32.ofInt x1)), (2, .int (Int32.ofInt x2)), (3, .int (Int32.ofInt x3))] [] w P := by
  unfold xm_look_b39 at hx
  refine wp_g 2 (pc1 := 41) (lv1 := [(0, .ref 146), (1, .int (Int32.ofInt x1)), (2, .int (Int32.ofInt x2)), (3, .int (Int32.ofInt x3))]) (st1 := [.ref 146, .int (Int32.ofInt x3)]) (w1 := w) rfl ?_
  refine wx_gr (o := 10) (kf := 39) (ln := 3) (ci := 12) (b := 20) (zz := 0) (x := 146) (by decide +kernel) h (hS _ _ sm_146) rfl ?_
  show wp _ 255 44 [(0, .ref 146), (1, .int (Int32.ofInt x1)), (2, .int (Int32.ofInt x2)), (3, .int (Int32.ofInt x3))] [.ref 156, .int (Int32.ofInt x3)] w _
  refine wp_g 1 (pc1 := 45) (lv1 := [(0, .ref 146), (1, .int (Int32.ofInt x1)), (2, .int (Int32.ofInt x2)), (3, .int (Int32.ofInt x3))]) (st1 := [.int (Int32.ofInt 0), .ref 156, .int (Int32.ofInt x3)]) (w1 := w) rfl ?_
  obtain ⟨i1, e2, hx⟩ := bd hx
  refine wx_ra (x := 156) (n := 130) (ln := 1) (a := 0) (b := 0) (zz := 0) (by decide +kernel) h (hS _ _ sm_156) e2 ?_
  show wp _ 255 46 [(0, .ref 146), (1, .int (Int32.ofInt x1)), (2, .int (Int32.ofInt x2)), (3, .int (Int32.ofInt x3))] [.int (Int32.ofInt (s 156 i1)), .int (Int32.ofInt x3)] w _
  refine wp_g 2 (pc1 := 48) (lv1 := [(0, .ref 146), (1, .int (Int32.ofInt x1)), (2, .int (Int32.ofInt x2)), (3, .int (Int32.ofInt x3))]) (st1 := [.int (Int32.ofInt ((s 156 i1) - 1)), .int (Int32.ofInt x3)]) (w1 := w) (by simp only [Int32.ofInt_add, Int32.ofInt_sub, Int32.ofInt_mul, Int32.ofInt_neg, p_and, p_or, p_xor, p_shl, p_shr, p_usr, p_w8, p_c16, p_lI, q_and, q_or, q_shl, q_shr, q_w32, Int64.ofInt_add, Int64.ofInt_sub, Int64.ofInt_mul, p_mx, p_mn, q_mx, q_mn]; rfl) ?_
  refine wx_ge (oo := 24) (ln := 3) (a := 72) (b := 0) (zz := 0) (by decide +kernel) (fun h3 => ?_) (fun h3 => ?_)
  · have hx := ite_f h3 hx
    cases hx
    exact kc _ rfl _ rfl
  · have hx := ite_t h3 hx
    refine wp_g 2 (pc1 := 53) (lv1 := [(0, .ref 146), (1, .int (Int32.ofInt x1)), (2, .int (Int32.ofInt x2)), (3, .int (Int32.ofInt x3))]) (st1 := [.int (Int32.ofInt x3), .ref 146]) (w1 := w) rfl ?_
    obtain ⟨o4, e5, hx⟩ := bd hx
    refine wp_cl [.ref 146, .int (Int32.ofInt x3)] [] (i := .invokevirtual 467) (ln := 3) (a := 254) (b := 0) (z := 0) (by decide +kernel) rfl rfl (by decide) rfl (show (2 : Nat) = pm_na 254 by decide +kernel) (Nat.le_of_ble_eq_true rfl) (show (2 : Nat) ≤ pm_n 254 by decide +kernel) (rcv_x 12 h (hS _ _ sm_146) (by decide +kernel)) (xm_alikeAt_ok (d := d + 5) hS h e5 ?_)
    show wp _ 255 56 [(0, .ref 146), (1, .int (Int32.ofInt x1)), (2, .int (Int32.ofInt x2)), (3, .int (Int32.ofInt x3))] [.int (Int32.ofInt o4)] w _
    refine wp_g 2 (pc1 := 58) (lv1 := [(0, .ref 146), (1, .int (Int32.ofInt x1)), (2, .int (Int32.ofInt x2)), (3, .int (Int32.ofInt x3))]) (st1 := [.int (Int32.ofInt x2), .ref 146, .int (Int32.ofInt o4)]) (w1 := w) rfl ?_
    obtain ⟨o8, e9, hx⟩ := bd hx
    refine wp_cl [.ref 146, .int (Int32.ofInt x2)] [.int (Int32.ofInt o4)] (i := .invokevirtual 467) (ln := 3) (a := 254) (b := 0) (z := 0) (by decide +kernel) rfl rfl (by decide) rfl (show (2 : Nat) = pm_na 254 by decide +kernel) (Nat.le_of_ble_eq_true rfl) (show (2 : Nat) ≤ pm_n 254 by decide +kernel) (rcv_x 12 h (hS _ _ sm_146) (by decide +kernel)) (xm_alikeAt_ok (d := d + 5) hS h e9 ?_)
    show wp _ 255 61 [(0, .ref 146), (1, .int (Int32.ofInt x1)), (2, .int (Int32.ofInt x2)), (3, .int (Int32.ofInt x3))] [.int (Int32.ofInt o8), .int (Int32.ofInt o4)] w _
    refine wx_ge (oo := 5) (ln := 3) (a := 66) (b := 0) (zz := 0) (by decide +kernel) (fun h12 => ?_) (fun h12 => ?_)
    · have hx := ite_f h12 hx
      refine wp_g 2 (pc1 := 39) (lv1 := [(3, .int (Int32.ofInt (x3 + 1))), (0, .ref 146), (1, .int (Int32.ofInt x1)), (2, .int (Int32.ofInt x2))]) (st1 := []) (w1 := w) (by simp only [Int32.ofInt_add, Int32.ofInt_sub, Int32.ofInt_mul, Int32.ofInt_neg, p_and, p_or, p_xor, p_shl, p_shr, p_usr, p_w8, p_c16, p_lI, q_and, q_or, q_shl, q_shr, q_w32, Int64.ofInt_add, Int64.ofInt_sub, Int64.ofInt_mul, p_mx, p_mn, q_mx, q_mn]; rfl) ?_
      refine wp_lv (lv1 := [(0, .ref 146), (1, .int (Int32.ofInt x1)), (2, .int (Int32.ofInt x2)), (3, .int (Int32.ofInt (x3 + 1)))]) (lsub_p [1, 2, 3, 0] rfl rfl rfl) ?_
      cases hx
      exact kn _ _ rfl rfl
    · have hx := ite_t h12 hx
      refine wp_g 4 (pc1 := 39) (lv1 := [(3, .int (Int32.ofInt (x3 + 1))), (2, .int (Int32.ofInt x3)), (0, .ref 146), (1, .int (Int32.ofInt x1))]) (st1 := []) (w1 := w) (by simp only [Int32.ofInt_add, Int32.ofInt_sub, Int32.ofInt_mul, Int32.ofInt_neg, p_and, p_or, p_xor, p_shl, p_shr, p_usr, p_w8, p_c16, p_lI, q_and, q_or, q_shl, q_shr, q_w32, Int64.ofInt_add, Int64.ofInt_sub, Int64.ofInt_mul, p_mx, p_mn, q_mx, q_mn]; rfl) ?_
      refine wp_lv (lv1 := [(0, .ref 146), (1, .int (Int32.ofInt x1)), (2, .int (Int32.ofInt x3)), (3, .int (Int32.ofInt (x3 + 1)))]) (lsub_p [2, 3, 1, 0] rfl rfl rfl) ?_
      cases hx
      exact kn _ _ rfl rfl
/-- FoldDeedsModel.look (I)I -/
noncomputable def xm_look (s : Hp) (p1 : Int) : Option (Int × Hp) :=
  (xm_isCloth s).bind fun o1 => if w32 o1 = 0 then some ((-1), s) else (xm_in (w32 p1) 0 1).bind fun o6 => if w32 o6 = 0 then some ((-1), s) else (ix 130 1).bind fun i11 => if w32 (s 156 i11) = 0 then some ((-2), s) else (xm_fillsFits s).bind fun o14 => (lp (fun (q : Int × Int) => xm_look_b39 o14 p1 q.1 q.2) (0, 1)).bind fun q18 => (xm_alikeAt o14 q18.1).bind fun o22 => if w32 o22 = 0 then some ((-2), o14) else if w32 p1 = 0 then some (q18.1, o14) else (xm_alikeAt o14 q18.1).bind fun o28 => some (o28, o14)
set_option maxRecDepth 100000 in
theorem xm_look_ok {d : Nat} {P : Option Value → pm_H → Prop} {w : pm_H} {sh : Shp} {w0 : pm_H} {s : Hp} (hS : StM sh) {p1 : Int} (h : Rw sh w0 s w) {o : Int × Hp} (hx : xm_look s p1 = some o) (kr : ∀ w1, Rw sh w0 o.2 w1 → P (some (.int (Int32.ofInt o.1))) w1) : wp (d + 6) 255 0 (lv_args 0 [.ref 146, .int (Int32.ofInt p1)]) [] w P := by
  show wp _ 255 0 [(0, .ref 146), (1, .int (Int32.ofInt p1))] [] w _
  unfold xm_look at hx
  refine wp_g 1 (pc1 := 1) (lv1 := [(0, .ref 146), (1, .int (Int32.ofInt p1))]) (st1 := [.ref 146]) (w1 := w) rfl ?_
  obtain ⟨o1, e2, hx⟩ := bd hx
  refine wp_cl [.ref 146] [] (i := .invokevirtual 301) (ln := 3) (a := 190) (b := 0) (z := 0) (by decide +kernel) rfl rfl (by decide) rfl (show (1 : Nat) = pm_na 190 by decide +kernel) (Nat.le_of_ble_eq_true rfl) (show (1 : Nat) ≤ pm_n 190 by decide +kernel) (rcv_x 12 h (hS _ _ sm_146) (by decide +kernel)) (xm_isCloth_ok (d := d + 5) hS h e2 ?_)
  show wp _ 255 4 [(0, .ref 146), (1, .int (Int32.ofInt p1))] [.int (Int32.ofInt o1)] w _
  refine wz_eq (oo := 13) (ln := 3) (a := 17) (b := 0) (zz := 0) (by decide +kernel) (fun h5 => ?_) (fun h5 => ?_)
  · have hx := ite_t h5 hx
    refine wp_g 1 (pc1 := 18) (lv1 := [(0, .ref 146), (1, .int (Int32.ofInt p1))]) (st1 := [.int (Int32.ofInt (-1))]) (w1 := w) rfl ?_
    refine wp_rt (i := .ireturn) (r := some (.int (Int32.ofInt (-1)))) (ln := 1) (a := 0) (b := 0) (z := 0) (by decide +kernel) rfl (ret_ok (by decide +kernel)) ?_
    cases hx
    exact kr _ h
  · have hx := ite_f h5 hx
    refine wp_g 4 (pc1 := 11) (lv1 := [(0, .ref 146), (1, .int (Int32.ofInt p1))]) (st1 := [.long (Int64.ofInt 1), .long (Int64.ofInt 0), .long (Int64.ofInt (w32 p1))]) (w1 := w) (by simp only [Int32.ofInt_add, Int32.ofInt_sub, Int32.ofInt_mul, Int32.ofInt_neg, p_and, p_or, p_xor, p_shl, p_shr, p_usr, p_w8, p_c16, p_lI, q_and, q_or, q_shl, q_shr, q_w32, Int64.ofInt_add, Int64.ofInt_sub, Int64.ofInt_mul, p_mx, p_mn, q_mx, q_mn]; rfl) ?_
    obtain ⟨o6, e7, hx⟩ := bd hx
    refine wp_cl [.long (Int64.ofInt (w32 p1)), .long (Int64.ofInt 0), .long (Int64.ofInt 1)] [] (i := .invokestatic 139) (ln := 3) (a := 147) (b := 1) (z := 0) (by decide +kernel) rfl rfl (by decide) rfl (show (3 : Nat) = pm_na 147 by decide +kernel) (Nat.le_of_ble_eq_true rfl) (show (6 : Nat) ≤ pm_n 147 by decide +kernel) (by rw [show pm_k 147 = 1 by decide +kernel]; rfl) (xm_in_ok (d := d + 5) e7 ?_)
    show wp _ 255 14 [(0, .ref 146), (1, .int (Int32.ofInt p1))] [.int (Int32.ofInt o6)] w _
    refine wz_ne (oo := 5) (ln := 3) (a := 19) (b := 0) (zz := 0) (by decide +kernel) (fun h10 => ?_) (fun h10 => ?_)
    · have hx := ite_f h10 hx
      refine wp_g 1 (pc1 := 20) (lv1 := [(0, .ref 146), (1, .int (Int32.ofInt p1))]) (st1 := [.ref 146]) (w1 := w) rfl ?_
      refine wx_gr (o := 10) (kf := 39) (ln := 3) (ci := 12) (b := 20) (zz := 0) (x := 146) (by decide +kernel) h (hS _ _ sm_146) rfl ?_
      show wp _ 255 23 [(0, .ref 146), (1, .int (Int32.ofInt p1))] [.ref 156] w _
      refine wp_g 1 (pc1 := 24) (lv1 := [(0, .ref 146), (1, .int (Int32.ofInt p1))]) (st1 := [.int (Int32.ofInt 1), .ref 156]) (w1 := w) rfl ?_
      obtain ⟨i11, e12, hx⟩ := bd hx
      refine wx_ra (x := 156) (n := 130) (ln := 1) (a := 0) (b := 0) (zz := 0) (by decide +kernel) h (hS _ _ sm_156) e12 ?_
      show wp _ 255 25 [(0, .ref 146), (1, .int (Int32.ofInt p1))] [.int (Int32.ofInt (s 156 i11))] w _
      refine wz_ne (oo := 6) (ln := 3) (a := 31) (b := 0) (zz := 0) (by decide +kernel) (fun h13 => ?_) (fun h13 => ?_)
      · have hx := ite_f h13 hx
        refine wp_g 1 (pc1 := 32) (lv1 := [(0, .ref 146), (1, .int (Int32.ofInt p1))]) (st1 := [.ref 146]) (w1 := w) rfl ?_
        obtain ⟨o14, e15, hx⟩ := bd hx
        refine wp_cl [.ref 146] [] (i := .invokevirtual 464) (ln := 3) (a := 252) (b := 0) (z := 0) (by decide +kernel) rfl rfl (by decide) rfl (show (1 : Nat) = pm_na 252 by decide +kernel) (Nat.le_of_ble_eq_true rfl) (show (1 : Nat) ≤ pm_n 252 by decide +kernel) (rcv_x 12 h (hS _ _ sm_146) (by decide +kernel)) (xm_fillsFits_ok (d := d) hS h e15 (fun w16 h17 => ?_))
        show wp _ 255 35 [(0, .ref 146), (1, .int (Int32.ofInt p1))] [] w16 _
        refine wp_g 4 (pc1 := 39) (lv1 := [(3, .int (Int32.ofInt 1)), (2, .int (Int32.ofInt 0)), (0, .ref 146), (1, .int (Int32.ofInt p1))]) (st1 := []) (w1 := w16) rfl ?_
        refine wp_lv (lv1 := [(0, .ref 146), (1, .int (Int32.ofInt p1)), (2, .int (Int32.ofInt 0)), (3, .int (Int32.ofInt 1))]) (lsub_p [2, 3, 1, 0] rfl rfl rfl) ?_
        obtain ⟨q18, e19, hx⟩ := bd hx
        refine wp_lp (σ := Int × Int) (ρ := (Int × Int)) (B := fun q => xm_look_b39 o14 p1 q.1 q.2) (R := fun q w' => w16 = w') (C := fun r => ∀ w1, w16 = w1 → wp (d + 6) 255 72 [(0, .ref 146), (1, .int (Int32.ofInt p1)), (2, .int (Int32.ofInt r.1)), (3, .int (Int32.ofInt r.2))] [] w1 P) (lv := fun q => [(0, .ref 146), (1, .int (Int32.ofInt p1)), (2, .int (Int32.ofInt q.1)), (3, .int (Int32.ofInt q.2))]) (hd := 39) (fun q w' o hR hb kn kc => by subst hR; exact xm_look_b39_ok hS h17 hb kn kc) _ _ _ e19 rfl ?_
        intro w20 h21
        subst h21
        show wp _ 255 72 [(0, .ref 146), (1, .int (Int32.ofInt p1)), (2, .int (Int32.ofInt q18.1)), (3, .int (Int32.ofInt q18.2))] [] w16 _
        refine wp_g 2 (pc1 := 74) (lv1 := [(0, .ref 146), (1, .int (Int32.ofInt p1)), (2, .int (Int32.ofInt q18.1)), (3, .int (Int32.ofInt q18.2))]) (st1 := [.int (Int32.ofInt q18.1), .ref 146]) (w1 := w16) rfl ?_
        obtain ⟨o22, e23, hx⟩ := bd hx
        refine wp_cl [.ref 146, .int (Int32.ofInt q18.1)] [] (i := .invokevirtual 467) (ln := 3) (a := 254) (b := 0) (z := 0) (by decide +kernel) rfl rfl (by decide) rfl (show (2 : Nat) = pm_na 254 by decide +kernel) (Nat.le_of_ble_eq_true rfl) (show (2 : Nat) ≤ pm_n 254 by decide +kernel) (rcv_x 12 h17 (hS _ _ sm_146) (by decide +kernel)) (xm_alikeAt_ok (d := d + 5) hS h17 e23 ?_)
        show wp _ 255 77 [(0, .ref 146), (1, .int (Int32.ofInt p1)), (2, .int (Int32.ofInt q18.1)), (3, .int (Int32.ofInt q18.2))] [.int (Int32.ofInt o22)] w16 _
        refine wz_ne (oo := 8) (ln := 3) (a := 85) (b := 0) (zz := 0) (by decide +kernel) (fun h26 => ?_) (fun h26 => ?_)
        · have hx := ite_f h26 hx
          refine wp_g 1 (pc1 := 86) (lv1 := [(0, .ref 146), (1, .int (Int32.ofInt p1)), (2, .int (Int32.ofInt q18.1)), (3, .int (Int32.ofInt q18.2))]) (st1 := [.int (Int32.ofInt p1)]) (w1 := w16) rfl ?_
          refine wz_ne (oo := 7) (ln := 3) (a := 93) (b := 0) (zz := 0) (by decide +kernel) (fun h27 => ?_) (fun h27 => ?_)
          · have hx := ite_f h27 hx
            refine wp_g 2 (pc1 := 95) (lv1 := [(0, .ref 146), (1, .int (Int32.ofInt p1)), (2, .int (Int32.ofInt q18.1)), (3, .int (Int32.ofInt q18.2))]) (st1 := [.int (Int32.ofInt q18.1), .ref 146]) (w1 := w16) rfl ?_
            obtain ⟨o28, e29, hx⟩ := bd hx
            refine wp_cl [.ref 146, .int (Int32.ofInt q18.1)] [] (i := .invokevirtual 467) (ln := 3) (a := 254) (b := 0) (z := 0) (by decide +kernel) rfl rfl (by decide) rfl (show (2 : Nat) = pm_na 254 by decide +kernel) (Nat.le_of_ble_eq_true rfl) (show (2 : Nat) ≤ pm_n 254 by decide +kernel) (rcv_x 12 h17 (hS _ _ sm_146) (by decide +kernel)) (xm_alikeAt_ok (d := d + 5) hS h17 e29 ?_)
            show wp _ 255 98 [(0, .ref 146), (1, .int (Int32.ofInt p1)), (2, .int (Int32.ofInt q18.1)), (3, .int (Int32.ofInt q18.2))] [.int (Int32.ofInt o28)] w16 _
            refine wp_rt (i := .ireturn) (r := some (.int (Int32.ofInt o28))) (ln := 1) (a := 0) (b := 0) (z := 0) (by decide +kernel) rfl (ret_ok (by decide +kernel)) ?_
            cases hx
            exact kr _ h17
          · have hx := ite_t h27 hx
            refine wp_g 2 (pc1 := 98) (lv1 := [(0, .ref 146), (1, .int (Int32.ofInt p1)), (2, .int (Int32.ofInt q18.1)), (3, .int (Int32.ofInt q18.2))]) (st1 := [.int (Int32.ofInt q18.1)]) (w1 := w16) rfl ?_
            refine wp_rt (i := .ireturn) (r := some (.int (Int32.ofInt q18.1))) (ln := 1) (a := 0) (b := 0) (z := 0) (by decide +kernel) rfl (ret_ok (by decide +kernel)) ?_
            cases hx
            exact kr _ h17
        · have hx := ite_t h26 hx
          refine wp_g 2 (pc1 := 98) (lv1 := [(0, .ref 146), (1, .int (Int32.ofInt p1)), (2, .int (Int32.ofInt q18.1)), (3, .int (Int32.ofInt q18.2))]) (st1 := [.int (Int32.ofInt (-2))]) (w1 := w16) rfl ?_
          refine wp_rt (i := .ireturn) (r := some (.int (Int32.ofInt (-2)))) (ln := 1) (a := 0) (b := 0) (z := 0) (by decide +kernel) rfl (ret_ok (by decide +kernel)) ?_
          cases hx
          exact kr _ h17
      · have hx := ite_t h13 hx
        refine wp_g 1 (pc1 := 30) (lv1 := [(0, .ref 146), (1, .int (Int32.ofInt p1))]) (st1 := [.int (Int32.ofInt (-2))]) (w1 := w) rfl ?_
        refine wp_rt (i := .ireturn) (r := some (.int (Int32.ofInt (-2)))) (ln := 1) (a := 0) (b := 0) (z := 0) (by decide +kernel) rfl (ret_ok (by decide +kernel)) ?_
        cases hx
        exact kr _ h
    · have hx := ite_t h10 hx
      refine wp_g 1 (pc1 := 18) (lv1 := [(0, .ref 146), (1, .int (Int32.ofInt p1))]) (st1 := [.int (Int32.ofInt (-1))]) (w1 := w) rfl ?_
      refine wp_rt (i := .ireturn) (r := some (.int (Int32.ofInt (-1)))) (ln := 1) (a := 0) (b := 0) (z := 0) (by decide +kernel) rfl (ret_ok (by decide +kernel)) ?_
      cases hx
      exact kr _ h
/-- FoldDeedsModel.seed (I)I -/
noncomputable def xm_seed (s : Hp) (p1 : Int) : Option (Int × Hp) :=
  if w32 p1 < 0 then some ((-1), s) else (some (uh s 146 22 p1)).bind fun s2 => some (s 146 22, s2)
set_option maxRecDepth 100000 in
theorem xm_seed_ok {d : Nat} {P : Option Value → pm_H → Prop} {w : pm_H} {sh : Shp} {w0 : pm_H} {s : Hp} (hS : StM sh) {p1 : Int} (h : Rw sh w0 s w) {o : Int × Hp} (hx : xm_seed s p1 = some o) (kr : ∀ w1, Rw sh w0 o.2 w1 → P (some (.int (Int32.ofInt o.1))) w1) : wp d 256 0 (lv_args 0 [.ref 146, .int (Int32.ofInt p1)]) [] w P := by
  show wp _ 256 0 [(0, .ref 146), (1, .int (Int32.ofInt p1))] [] w _
  unfold xm_seed at hx
  refine wp_g 1 (pc1 := 1) (lv1 := [(0, .ref 146), (1, .int (Int32.ofInt p1))]) (st1 := [.int (Int32.ofInt p1)]) (w1 := w) rfl ?_
  refine wz_ge (oo := 5) (ln := 3) (a := 6) (b := 0) (zz := 0) (by decide +kernel) (fun h1 => ?_) (fun h1 => ?_)
  · have hx := ite_f h1 hx
    refine wp_g 1 (pc1 := 7) (lv1 := [(0, .ref 146), (1, .int (Int32.ofInt p1))]) (st1 := [.ref 146]) (w1 := w) rfl ?_
    refine wx_gi (kf := 470) (ln := 3) (ci := 12) (b := 22) (zz := 0) (x := 146) (by decide +kernel) h (hS _ _ sm_146) rfl ?_
    show wp _ 256 10 [(0, .ref 146), (1, .int (Int32.ofInt p1))] [.int (Int32.ofInt (s 146 22))] w _
    refine wp_g 3 (pc1 := 13) (lv1 := [(2, .int (Int32.ofInt (s 146 22))), (0, .ref 146), (1, .int (Int32.ofInt p1))]) (st1 := [.int (Int32.ofInt p1), .ref 146]) (w1 := w) rfl ?_
    obtain ⟨s2, e3, hx⟩ := bd hx
    refine wx_pi (kf := 470) (ln := 3) (ci := 12) (b := 22) (zz := 0) (x := 146) (by decide +kernel) h (hS _ _ sm_146) rfl (by decide +kernel) e3 (fun w4 h5 => ?_)
    refine wp_g 1 (pc1 := 17) (lv1 := [(2, .int (Int32.ofInt (s 146 22))), (0, .ref 146), (1, .int (Int32.ofInt p1))]) (st1 := [.int (Int32.ofInt (s 146 22))]) (w1 := w4) rfl ?_
    refine wp_rt (i := .ireturn) (r := some (.int (Int32.ofInt (s 146 22)))) (ln := 1) (a := 0) (b := 0) (z := 0) (by decide +kernel) rfl (ret_ok (by decide +kernel)) ?_
    cases hx
    exact kr _ h5
  · have hx := ite_t h1 hx
    refine wp_g 1 (pc1 := 5) (lv1 := [(0, .ref 146), (1, .int (Int32.ofInt p1))]) (st1 := [.int (Int32.ofInt (-1))]) (w1 := w) rfl ?_
    refine wp_rt (i := .ireturn) (r := some (.int (Int32.ofInt (-1)))) (ln := 1) (a := 0) (b := 0) (z := 0) (by decide +kernel) rfl (ret_ok (by decide +kernel)) ?_
    cases hx
    exact kr _ h
/-- FoldDeedsModel.draw (I)I -/
noncomputable def xm_draw (s : Hp) (p1 : Int) : Option (Int × Hp) :=
  (some (uh s 146 40 (lRem (((s 146 40) * 1103515245) + 12345) 2147483648))).bind fun s1 => if ¬ w64 (w32 p1) = 0 then some (lI (lRem (lDiv (s1 146 40) 65536) (w32 p1)), s1) else none
set_option maxRecDepth 100000 in
theorem xm_draw_ok {d : Nat} {P : Option Value → pm_H → Prop} {w : pm_H} {sh : Shp} {w0 : pm_H} {s : Hp} (hS : StM sh) {p1 : Int} (h : Rw sh w0 s w) {o : Int × Hp} (hx : xm_draw s p1 = some o) (kr : ∀ w1, Rw sh w0 o.2 w1 → P (some (.int (Int32.ofInt o.1))) w1) : wp d 257 0 (lv_args 0 [.ref 146, .int (Int32.ofInt p1)]) [] w P := by
  show wp _ 257 0 [(0, .ref 146), (1, .int (Int32.ofInt p1))] [] w _
  unfold xm_draw at hx
  refine wp_g 2 (pc1 := 2) (lv1 := [(0, .ref 146), (1, .int (Int32.ofInt p1))]) (st1 := [.ref 146, .ref 146]) (w1 := w) rfl ?_
  refine wx_gl (kf := 473) (ln := 3) (ci := 12) (b := 40) (zz := 0) (x := 146) (by decide +kernel) h (hS _ _ sm_146) rfl ?_
  show wp _ 257 5 [(0, .ref 146), (1, .int (Int32.ofInt p1))] [.long (Int64.ofInt (s 146 40)), .ref 146] w _
  refine wp_g 5 (pc1 := 16) (lv1 := [(0, .ref 146), (1, .int (Int32.ofInt p1))]) (st1 := [.long (Int64.ofInt 2147483648), .long (Int64.ofInt (((s 146 40) * 1103515245) + 12345)), .ref 146]) (w1 := w) (by simp only [Int32.ofInt_add, Int32.ofInt_sub, Int32.ofInt_mul, Int32.ofInt_neg, p_and, p_or, p_xor, p_shl, p_shr, p_usr, p_w8, p_c16, p_lI, q_and, q_or, q_shl, q_shr, q_w32, Int64.ofInt_add, Int64.ofInt_sub, Int64.ofInt_mul, p_mx, p_mn, q_mx, q_mn]; rfl) ?_
  refine wx_lr (ln := 1) (a := 0) (b := 0) (zz := 0) (by decide +kernel) (by decide) ?_
  obtain ⟨s1, e2, hx⟩ := bd hx
  refine wx_pl (kf := 473) (ln := 3) (ci := 12) (b := 40) (zz := 0) (x := 146) (by decide +kernel) h (hS _ _ sm_146) rfl (by decide +kernel) e2 (fun w3 h4 => ?_)
  refine wp_g 1 (pc1 := 21) (lv1 := [(0, .ref 146), (1, .int (Int32.ofInt p1))]) (st1 := [.ref 146]) (w1 := w3) rfl ?_
  refine wx_gl (kf := 473) (ln := 3) (ci := 12) (b := 40) (zz := 0) (x := 146) (by decide +kernel) h4 (hS _ _ sm_146) rfl ?_
  show wp _ 257 24 [(0, .ref 146), (1, .int (Int32.ofInt p1))] [.long (Int64.ofInt (s1 146 40))] w3 _
  refine wp_g 1 (pc1 := 27) (lv1 := [(0, .ref 146), (1, .int (Int32.ofInt p1))]) (st1 := [.long (Int64.ofInt 65536), .long (Int64.ofInt (s1 146 40))]) (w1 := w3) rfl ?_
  refine wx_ld (ln := 1) (a := 0) (b := 0) (zz := 0) (by decide +kernel) (by decide) ?_
  refine wp_g 2 (pc1 := 30) (lv1 := [(0, .ref 146), (1, .int (Int32.ofInt p1))]) (st1 := [.long (Int64.ofInt (w32 p1)), .long (Int64.ofInt (lDiv (s1 146 40) 65536))]) (w1 := w3) (by simp only [Int32.ofInt_add, Int32.ofInt_sub, Int32.ofInt_mul, Int32.ofInt_neg, p_and, p_or, p_xor, p_shl, p_shr, p_usr, p_w8, p_c16, p_lI, q_and, q_or, q_shl, q_shr, q_w32, Int64.ofInt_add, Int64.ofInt_sub, Int64.ofInt_mul, p_mx, p_mn, q_mx, q_mn]; rfl) ?_
  obtain ⟨h5, hx⟩ := gd hx
  refine wx_lr (ln := 1) (a := 0) (b := 0) (zz := 0) (by decide +kernel) h5 ?_
  refine wp_g 1 (pc1 := 32) (lv1 := [(0, .ref 146), (1, .int (Int32.ofInt p1))]) (st1 := [.int (Int32.ofInt (lI (lRem (lDiv (s1 146 40) 65536) (w32 p1))))]) (w1 := w3) (by simp only [Int32.ofInt_add, Int32.ofInt_sub, Int32.ofInt_mul, Int32.ofInt_neg, p_and, p_or, p_xor, p_shl, p_shr, p_usr, p_w8, p_c16, p_lI, q_and, q_or, q_shl, q_shr, q_w32, Int64.ofInt_add, Int64.ofInt_sub, Int64.ofInt_mul, p_mx, p_mn, q_mx, q_mn]; rfl) ?_
  refine wp_rt (i := .ireturn) (r := some (.int (Int32.ofInt (lI (lRem (lDiv (s1 146 40) 65536) (w32 p1)))))) (ln := 1) (a := 0) (b := 0) (z := 0) (by decide +kernel) rfl (ret_ok (by decide +kernel)) ?_
  cases hx
  exact kr _ h4
/-- FoldDeedsModel.foldsDrawn ()Z -/
noncomputable def xm_foldsDrawn (s : Hp) : Option (Int × Hp) :=
  (ix 130 1).bind fun i1 => (xm_draw s (s 156 i1)).bind fun o3 => (ix 130 10).bind fun i7 => if w32 (o3.2 156 i7) = w32 1 then (xm_liesOpen o3.2).bind fun o33 => some (0, o33) else (xm_draw o3.2 ((o3.2 156 i7) - 1)).bind fun o10 => (xm_draw o10.2 2).bind fun o14 => (xm_draw o14.2 2).bind fun o18 => (ix 130 (51 + o3.1)).bind fun i22 => (xm_isFolded o18.2 o3.1 (((4 * o10.1) + (2 * o14.1)) + o18.1)).bind fun o24 => if w32 o24.1 = 0 then some (0, o24.2) else (some (uh o24.2 146 41 ((o24.2 146 41) + ((o18.2 156 i22) - (o24.2 156 i22))))).bind fun s29 => some (1, s29)
set_option maxRecDepth 100000 in
theorem xm_foldsDrawn_ok {d : Nat} {P : Option Value → pm_H → Prop} {w : pm_H} {sh : Shp} {w0 : pm_H} {s : Hp} (hS : StM sh) (h : Rw sh w0 s w) {o : Int × Hp} (hx : xm_foldsDrawn s = some o) (kr : ∀ w1, Rw sh w0 o.2 w1 → P (some (.int (Int32.ofInt o.1))) w1) : wp (d + 5) 258 0 (lv_args 0 [.ref 146]) [] w P := by
  show wp _ 258 0 [(0, .ref 146)] [] w _
  unfold xm_foldsDrawn at hx
  refine wp_g 2 (pc1 := 2) (lv1 := [(0, .ref 146)]) (st1 := [.ref 146, .ref 146]) (w1 := w) rfl ?_
  refine wx_gr (o := 10) (kf := 39) (ln := 3) (ci := 12) (b := 20) (zz := 0) (x := 146) (by decide +kernel) h (hS _ _ sm_146) rfl ?_
  show wp _ 258 5 [(0, .ref 146)] [.ref 156, .ref 146] w _
  refine wp_g 1 (pc1 := 6) (lv1 := [(0, .ref 146)]) (st1 := [.int (Int32.ofInt 1), .ref 156, .ref 146]) (w1 := w) rfl ?_
  obtain ⟨i1, e2, hx⟩ := bd hx
  refine wx_ra (x := 156) (n := 130) (ln := 1) (a := 0) (b := 0) (zz := 0) (by decide +kernel) h (hS _ _ sm_156) e2 ?_
  show wp _ 258 7 [(0, .ref 146)] [.int (Int32.ofInt (s 156 i1)), .ref 146] w _
  obtain ⟨o3, e4, hx⟩ := bd hx
  refine wp_cl [.ref 146, .int (Int32.ofInt (s 156 i1))] [] (i := .invokevirtual 485) (ln := 3) (a := 257) (b := 0) (z := 0) (by decide +kernel) rfl rfl (by decide) rfl (show (2 : Nat) = pm_na 257 by decide +kernel) (Nat.le_of_ble_eq_true rfl) (show (2 : Nat) ≤ pm_n 257 by decide +kernel) (rcv_x 12 h (hS _ _ sm_146) (by decide +kernel)) (xm_draw_ok (d := d + 4) hS h e4 (fun w5 h6 => ?_))
  show wp _ 258 10 [(0, .ref 146)] [.int (Int32.ofInt o3.1)] w5 _
  refine wp_g 2 (pc1 := 12) (lv1 := [(1, .int (Int32.ofInt o3.1)), (0, .ref 146)]) (st1 := [.ref 146]) (w1 := w5) rfl ?_
  refine wx_gr (o := 10) (kf := 39) (ln := 3) (ci := 12) (b := 20) (zz := 0) (x := 146) (by decide +kernel) h6 (hS _ _ sm_146) rfl ?_
  show wp _ 258 15 [(1, .int (Int32.ofInt o3.1)), (0, .ref 146)] [.ref 156] w5 _
  refine wp_g 1 (pc1 := 17) (lv1 := [(1, .int (Int32.ofInt o3.1)), (0, .ref 146)]) (st1 := [.int (Int32.ofInt 10), .ref 156]) (w1 := w5) rfl ?_
  obtain ⟨i7, e8, hx⟩ := bd hx
  refine wx_ra (x := 156) (n := 130) (ln := 1) (a := 0) (b := 0) (zz := 0) (by decide +kernel) h6 (hS _ _ sm_156) e8 ?_
  show wp _ 258 18 [(1, .int (Int32.ofInt o3.1)), (0, .ref 146)] [.int (Int32.ofInt (o3.2 156 i7))] w5 _
  refine wp_g 1 (pc1 := 19) (lv1 := [(1, .int (Int32.ofInt o3.1)), (0, .ref 146)]) (st1 := [.int (Int32.ofInt 1), .int (Int32.ofInt (o3.2 156 i7))]) (w1 := w5) rfl ?_
  refine wx_ne (oo := 9) (ln := 3) (a := 28) (b := 0) (zz := 0) (by decide +kernel) (fun h9 => ?_) (fun h9 => ?_)
  · have hx := ite_f h9 hx
    refine wp_g 3 (pc1 := 31) (lv1 := [(1, .int (Int32.ofInt o3.1)), (0, .ref 146)]) (st1 := [.ref 146, .ref 146, .int (Int32.ofInt 4)]) (w1 := w5) rfl ?_
    refine wx_gr (o := 10) (kf := 39) (ln := 3) (ci := 12) (b := 20) (zz := 0) (x := 146) (by decide +kernel) h6 (hS _ _ sm_146) rfl ?_
    show wp _ 258 34 [(1, .int (Int32.ofInt o3.1)), (0, .ref 146)] [.ref 156, .ref 146, .int (Int32.ofInt 4)] w5 _
    refine wp_g 1 (pc1 := 36) (lv1 := [(1, .int (Int32.ofInt o3.1)), (0, .ref 146)]) (st1 := [.int (Int32.ofInt 10), .ref 156, .ref 146, .int (Int32.ofInt 4)]) (w1 := w5) rfl ?_
    refine wx_ra (x := 156) (n := 130) (ln := 1) (a := 0) (b := 0) (zz := 0) (by decide +kernel) h6 (hS _ _ sm_156) e8 ?_
    show wp _ 258 37 [(1, .int (Int32.ofInt o3.1)), (0, .ref 146)] [.int (Int32.ofInt (o3.2 156 i7)), .ref 146, .int (Int32.ofInt 4)] w5 _
    refine wp_g 2 (pc1 := 39) (lv1 := [(1, .int (Int32.ofInt o3.1)), (0, .ref 146)]) (st1 := [.int (Int32.ofInt ((o3.2 156 i7) - 1)), .ref 146, .int (Int32.ofInt 4)]) (w1 := w5) (by simp only [Int32.ofInt_add, Int32.ofInt_sub, Int32.ofInt_mul, Int32.ofInt_neg, p_and, p_or, p_xor, p_shl, p_shr, p_usr, p_w8, p_c16, p_lI, q_and, q_or, q_shl, q_shr, q_w32, Int64.ofInt_add, Int64.ofInt_sub, Int64.ofInt_mul, p_mx, p_mn, q_mx, q_mn]; rfl) ?_
    obtain ⟨o10, e11, hx⟩ := bd hx
    refine wp_cl [.ref 146, .int (Int32.ofInt ((o3.2 156 i7) - 1))] [.int (Int32.ofInt 4)] (i := .invokevirtual 485) (ln := 3) (a := 257) (b := 0) (z := 0) (by decide +kernel) rfl rfl (by decide) rfl (show (2 : Nat) = pm_na 257 by decide +kernel) (Nat.le_of_ble_eq_true rfl) (show (2 : Nat) ≤ pm_n 257 by decide +kernel) (rcv_x 12 h6 (hS _ _ sm_146) (by decide +kernel)) (xm_draw_ok (d := d + 4) hS h6 e11 (fun w12 h13 => ?_))
    show wp _ 258 42 [(1, .int (Int32.ofInt o3.1)), (0, .ref 146)] [.int (Int32.ofInt o10.1), .int (Int32.ofInt 4)] w12 _
    refine wp_g 6 (pc1 := 48) (lv1 := [(2, .int (Int32.ofInt (4 * o10.1))), (1, .int (Int32.ofInt o3.1)), (0, .ref 146)]) (st1 := [.int (Int32.ofInt 2), .ref 146, .int (Int32.ofInt 2), .int (Int32.ofInt (4 * o10.1))]) (w1 := w12) (by simp only [Int32.ofInt_add, Int32.ofInt_sub, Int32.ofInt_mul, Int32.ofInt_neg, p_and, p_or, p_xor, p_shl, p_shr, p_usr, p_w8, p_c16, p_lI, q_and, q_or, q_shl, q_shr, q_w32, Int64.ofInt_add, Int64.ofInt_sub, Int64.ofInt_mul, p_mx, p_mn, q_mx, q_mn]; rfl) ?_
    obtain ⟨o14, e15, hx⟩ := bd hx
    refine wp_cl [.ref 146, .int (Int32.ofInt 2)] [.int (Int32.ofInt 2), .int (Int32.ofInt (4 * o10.1))] (i := .invokevirtual 485) (ln := 3) (a := 257) (b := 0) (z := 0) (by decide +kernel) rfl rfl (by decide) rfl (show (2 : Nat) = pm_na 257 by decide +kernel) (Nat.le_of_ble_eq_true rfl) (show (2 : Nat) ≤ pm_n 257 by decide +kernel) (rcv_x 12 h13 (hS _ _ sm_146) (by decide +kernel)) (xm_draw_ok (d := d + 4) hS h13 e15 (fun w16 h17 => ?_))
    show wp _ 258 51 [(2, .int (Int32.ofInt (4 * o10.1))), (1, .int (Int32.ofInt o3.1)), (0, .ref 146)] [.int (Int32.ofInt o14.1), .int (Int32.ofInt 2), .int (Int32.ofInt (4 * o10.1))] w16 _
    refine wp_g 6 (pc1 := 57) (lv1 := [(2, .int (Int32.ofInt ((4 * o10.1) + (2 * o14.1)))), (1, .int (Int32.ofInt o3.1)), (0, .ref 146)]) (st1 := [.int (Int32.ofInt 2), .ref 146, .int (Int32.ofInt ((4 * o10.1) + (2 * o14.1)))]) (w1 := w16) (by simp only [Int32.ofInt_add, Int32.ofInt_sub, Int32.ofInt_mul, Int32.ofInt_neg, p_and, p_or, p_xor, p_shl, p_shr, p_usr, p_w8, p_c16, p_lI, q_and, q_or, q_shl, q_shr, q_w32, Int64.ofInt_add, Int64.ofInt_sub, Int64.ofInt_mul, p_mx, p_mn, q_mx, q_mn]; rfl) ?_
    obtain ⟨o18, e19, hx⟩ := bd hx
    refine wp_cl [.ref 146, .int (Int32.ofInt 2)] [.int (Int32.ofInt ((4 * o10.1) + (2 * o14.1)))] (i := .invokevirtual 485) (ln := 3) (a := 257) (b := 0) (z := 0) (by decide +kernel) rfl rfl (by decide) rfl (show (2 : Nat) = pm_na 257 by decide +kernel) (Nat.le_of_ble_eq_true rfl) (show (2 : Nat) ≤ pm_n 257 by decide +kernel) (rcv_x 12 h17 (hS _ _ sm_146) (by decide +kernel)) (xm_draw_ok (d := d + 4) hS h17 e19 (fun w20 h21 => ?_))
    show wp _ 258 60 [(2, .int (Int32.ofInt ((4 * o10.1) + (2 * o14.1)))), (1, .int (Int32.ofInt o3.1)), (0, .ref 146)] [.int (Int32.ofInt o18.1), .int (Int32.ofInt ((4 * o10.1) + (2 * o14.1)))] w20 _
    refine wp_g 3 (pc1 := 63) (lv1 := [(2, .int (Int32.ofInt (((4 * o10.1) + (2 * o14.1)) + o18.1))), (1, .int (Int32.ofInt o3.1)), (0, .ref 146)]) (st1 := [.ref 146]) (w1 := w20) (by simp only [Int32.ofInt_add, Int32.ofInt_sub, Int32.ofInt_mul, Int32.ofInt_neg, p_and, p_or, p_xor, p_shl, p_shr, p_usr, p_w8, p_c16, p_lI, q_and, q_or, q_shl, q_shr, q_w32, Int64.ofInt_add, Int64.ofInt_sub, Int64.ofInt_mul, p_mx, p_mn, q_mx, q_mn]; rfl) ?_
    refine wx_gr (o := 10) (kf := 39) (ln := 3) (ci := 12) (b := 20) (zz := 0) (x := 146) (by decide +kernel) h21 (hS _ _ sm_146) rfl ?_
    show wp _ 258 66 [(2, .int (Int32.ofInt (((4 * o10.1) + (2 * o14.1)) + o18.1))), (1, .int (Int32.ofInt o3.1)), (0, .ref 146)] [.ref 156] w20 _
    refine wp_g 3 (pc1 := 70) (lv1 := [(2, .int (Int32.ofInt (((4 * o10.1) + (2 * o14.1)) + o18.1))), (1, .int (Int32.ofInt o3.1)), (0, .ref 146)]) (st1 := [.int (Int32.ofInt (51 + o3.1)), .ref 156]) (w1 := w20) (by simp only [Int32.ofInt_add, Int32.ofInt_sub, Int32.ofInt_mul, Int32.ofInt_neg, p_and, p_or, p_xor, p_shl, p_shr, p_usr, p_w8, p_c16, p_lI, q_and, q_or, q_shl, q_shr, q_w32, Int64.ofInt_add, Int64.ofInt_sub, Int64.ofInt_mul, p_mx, p_mn, q_mx, q_mn]; rfl) ?_
    obtain ⟨i22, e23, hx⟩ := bd hx
    refine wx_ra (x := 156) (n := 130) (ln := 1) (a := 0) (b := 0) (zz := 0) (by decide +kernel) h21 (hS _ _ sm_156) e23 ?_
    show wp _ 258 71 [(2, .int (Int32.ofInt (((4 * o10.1) + (2 * o14.1)) + o18.1))), (1, .int (Int32.ofInt o3.1)), (0, .ref 146)] [.int (Int32.ofInt (o18.2 156 i22))] w20 _
    refine wp_g 4 (pc1 := 75) (lv1 := [(3, .int (Int32.ofInt (o18.2 156 i22))), (2, .int (Int32.ofInt (((4 * o10.1) + (2 * o14.1)) + o18.1))), (1, .int (Int32.ofInt o3.1)), (0, .ref 146)]) (st1 := [.int (Int32.ofInt (((4 * o10.1) + (2 * o14.1)) + o18.1)), .int (Int32.ofInt o3.1), .ref 146]) (w1 := w20) rfl ?_
    obtain ⟨o24, e25, hx⟩ := bd hx
    refine wp_cl [.ref 146, .int (Int32.ofInt o3.1), .int (Int32.ofInt (((4 * o10.1) + (2 * o14.1)) + o18.1))] [] (i := .invokevirtual 384) (ln := 3) (a := 216) (b := 0) (z := 0) (by decide +kernel) rfl rfl (by decide) rfl (show (3 : Nat) = pm_na 216 by decide +kernel) (Nat.le_of_ble_eq_true rfl) (show (3 : Nat) ≤ pm_n 216 by decide +kernel) (rcv_x 12 h21 (hS _ _ sm_146) (by decide +kernel)) (xm_isFolded_ok (d := d) hS h21 e25 (fun w26 h27 => ?_))
    show wp _ 258 78 [(3, .int (Int32.ofInt (o18.2 156 i22))), (2, .int (Int32.ofInt (((4 * o10.1) + (2 * o14.1)) + o18.1))), (1, .int (Int32.ofInt o3.1)), (0, .ref 146)] [.int (Int32.ofInt o24.1)] w26 _
    refine wz_ne (oo := 5) (ln := 3) (a := 83) (b := 0) (zz := 0) (by decide +kernel) (fun h28 => ?_) (fun h28 => ?_)
    · have hx := ite_f h28 hx
      refine wp_g 2 (pc1 := 85) (lv1 := [(3, .int (Int32.ofInt (o18.2 156 i22))), (2, .int (Int32.ofInt (((4 * o10.1) + (2 * o14.1)) + o18.1))), (1, .int (Int32.ofInt o3.1)), (0, .ref 146)]) (st1 := [.ref 146, .ref 146]) (w1 := w26) rfl ?_
      refine wx_gi (kf := 488) (ln := 3) (ci := 12) (b := 41) (zz := 0) (x := 146) (by decide +kernel) h27 (hS _ _ sm_146) rfl ?_
      show wp _ 258 88 [(3, .int (Int32.ofInt (o18.2 156 i22))), (2, .int (Int32.ofInt (((4 * o10.1) + (2 * o14.1)) + o18.1))), (1, .int (Int32.ofInt o3.1)), (0, .ref 146)] [.int (Int32.ofInt (o24.2 146 41)), .ref 146] w26 _
      refine wp_g 2 (pc1 := 90) (lv1 := [(3, .int (Int32.ofInt (o18.2 156 i22))), (2, .int (Int32.ofInt (((4 * o10.1) + (2 * o14.1)) + o18.1))), (1, .int (Int32.ofInt o3.1)), (0, .ref 146)]) (st1 := [.ref 146, .int (Int32.ofInt (o18.2 156 i22)), .int (Int32.ofInt (o24.2 146 41)), .ref 146]) (w1 := w26) rfl ?_
      refine wx_gr (o := 10) (kf := 39) (ln := 3) (ci := 12) (b := 20) (zz := 0) (x := 146) (by decide +kernel) h27 (hS _ _ sm_146) rfl ?_
      show wp _ 258 93 [(3, .int (Int32.ofInt (o18.2 156 i22))), (2, .int (Int32.ofInt (((4 * o10.1) + (2 * o14.1)) + o18.1))), (1, .int (Int32.ofInt o3.1)), (0, .ref 146)] [.ref 156, .int (Int32.ofInt (o18.2 156 i22)), .int (Int32.ofInt (o24.2 146 41)), .ref 146] w26 _
      refine wp_g 3 (pc1 := 97) (lv1 := [(3, .int (Int32.ofInt (o18.2 156 i22))), (2, .int (Int32.ofInt (((4 * o10.1) + (2 * o14.1)) + o18.1))), (1, .int (Int32.ofInt o3.1)), (0, .ref 146)]) (st1 := [.int (Int32.ofInt (51 + o3.1)), .ref 156, .int (Int32.ofInt (o18.2 156 i22)), .int (Int32.ofInt (o24.2 146 41)), .ref 146]) (w1 := w26) (by simp only [Int32.ofInt_add, Int32.ofInt_sub, Int32.ofInt_mul, Int32.ofInt_neg, p_and, p_or, p_xor, p_shl, p_shr, p_usr, p_w8, p_c16, p_lI, q_and, q_or, q_shl, q_shr, q_w32, Int64.ofInt_add, Int64.ofInt_sub, Int64.ofInt_mul, p_mx, p_mn, q_mx, q_mn]; rfl) ?_
      refine wx_ra (x := 156) (n := 130) (ln := 1) (a := 0) (b := 0) (zz := 0) (by decide +kernel) h27 (hS _ _ sm_156) e23 ?_
      show wp _ 258 98 [(3, .int (Int32.ofInt (o18.2 156 i22))), (2, .int (Int32.ofInt (((4 * o10.1) + (2 * o14.1)) + o18.1))), (1, .int (Int32.ofInt o3.1)), (0, .ref 146)] [.int (Int32.ofInt (o24.2 156 i22)), .int (Int32.ofInt (o18.2 156 i22)), .int (Int32.ofInt (o24.2 146 41)), .ref 146] w26 _
      refine wp_g 2 (pc1 := 100) (lv1 := [(3, .int (Int32.ofInt (o18.2 156 i22))), (2, .int (Int32.ofInt (((4 * o10.1) + (2 * o14.1)) + o18.1))), (1, .int (Int32.ofInt o3.1)), (0, .ref 146)]) (st1 := [.int (Int32.ofInt ((o24.2 146 41) + ((o18.2 156 i22) - (o24.2 156 i22)))), .ref 146]) (w1 := w26) (by simp only [Int32.ofInt_add, Int32.ofInt_sub, Int32.ofInt_mul, Int32.ofInt_neg, p_and, p_or, p_xor, p_shl, p_shr, p_usr, p_w8, p_c16, p_lI, q_and, q_or, q_shl, q_shr, q_w32, Int64.ofInt_add, Int64.ofInt_sub, Int64.ofInt_mul, p_mx, p_mn, q_mx, q_mn]; rfl) ?_
      obtain ⟨s29, e30, hx⟩ := bd hx
      refine wx_pi (kf := 488) (ln := 3) (ci := 12) (b := 41) (zz := 0) (x := 146) (by decide +kernel) h27 (hS _ _ sm_146) rfl (by decide +kernel) e30 (fun w31 h32 => ?_)
      refine wp_g 1 (pc1 := 104) (lv1 := [(3, .int (Int32.ofInt (o18.2 156 i22))), (2, .int (Int32.ofInt (((4 * o10.1) + (2 * o14.1)) + o18.1))), (1, .int (Int32.ofInt o3.1)), (0, .ref 146)]) (st1 := [.int (Int32.ofInt 1)]) (w1 := w31) rfl ?_
      refine wp_rt (i := .ireturn) (r := some (.int (Int32.ofInt 1))) (ln := 1) (a := 0) (b := 0) (z := 0) (by decide +kernel) rfl (ret_b (by decide +kernel) (Or.inr rfl)) ?_
      cases hx
      exact kr _ h32
    · have hx := ite_t h28 hx
      refine wp_g 1 (pc1 := 82) (lv1 := [(3, .int (Int32.ofInt (o18.2 156 i22))), (2, .int (Int32.ofInt (((4 * o10.1) + (2 * o14.1)) + o18.1))), (1, .int (Int32.ofInt o3.1)), (0, .ref 146)]) (st1 := [.int (Int32.ofInt 0)]) (w1 := w26) rfl ?_
      refine wp_rt (i := .ireturn) (r := some (.int (Int32.ofInt 0))) (ln := 1) (a := 0) (b := 0) (z := 0) (by decide +kernel) rfl (ret_b (by decide +kernel) (Or.inl rfl)) ?_
      cases hx
      exact kr _ h27
  · have hx := ite_t h9 hx
    refine wp_g 1 (pc1 := 23) (lv1 := [(1, .int (Int32.ofInt o3.1)), (0, .ref 146)]) (st1 := [.ref 146]) (w1 := w5) rfl ?_
    obtain ⟨o33, e34, hx⟩ := bd hx
    refine wp_cl [.ref 146] [] (i := .invokevirtual 308) (ln := 3) (a := 196) (b := 0) (z := 0) (by decide +kernel) rfl rfl (by decide) rfl (show (1 : Nat) = pm_na 196 by decide +kernel) (Nat.le_of_ble_eq_true rfl) (show (1 : Nat) ≤ pm_n 196 by decide +kernel) (rcv_x 12 h6 (hS _ _ sm_146) (by decide +kernel)) (xm_liesOpen_ok (d := d + 4) hS h6 e34 (fun w35 h36 => ?_))
    show wp _ 258 26 [(1, .int (Int32.ofInt o3.1)), (0, .ref 146)] [] w35 _
    refine wp_g 1 (pc1 := 27) (lv1 := [(1, .int (Int32.ofInt o3.1)), (0, .ref 146)]) (st1 := [.int (Int32.ofInt 0)]) (w1 := w35) rfl ?_
    refine wp_rt (i := .ireturn) (r := some (.int (Int32.ofInt 0))) (ln := 1) (a := 0) (b := 0) (z := 0) (by decide +kernel) rfl (ret_b (by decide +kernel) (Or.inl rfl)) ?_
    cases hx
    exact kr _ h36
noncomputable def xm_days_b85 (s : Hp) (x1 : Int) (x2 : Int) (x3 : Int) (x4 : Int) (x5 : Int) (x6 : Int) : Option ((Int × Int × Hp) ⊕ (Int × Int × Hp)) :=
  if w32 x6 < w32 x2 then (xm_foldsDrawn s).bind fun o2 => if w32 o2.1 = 0 then some (.inl (x4 + 0, x6 + 1, o2.2)) else some (.inl (x4 + 1, x6 + 1, o2.2)) else some (.inr (x4, x6, s))
set_option maxRecDepth 100000 in
theorem xm_days_b85_ok {d : Nat} {P : Option Value → pm_H → Prop} {w : pm_H} {sh : Shp} {w0 : pm_H} {s : Hp} (hS : StM sh) {x1 : Int} {x2 : Int} {x3 : Int} {x4 : Int} {x5 : Int} {x6 : Int} (h : Rw sh w0 s w) {o : ((Int × Int × Hp) ⊕ (Int × Int × Hp))} (hx : xm_days_b85 s x1 x2 x3 x4 x5 x6 = some o) (kn : ∀ (q : Int × Int × Hp) w1, o = .inl q → Rw sh w0 q.2.2 w1 → wp (d + 6) 259 85 [(0, .ref 146), (1, .int (Int32.ofInt x1)), (2, .int (Int32.ofInt x2)), (3, .int (Int32.ofInt x3)), (4, .int (Int32.ofInt q.1)), (5, .int (Int32.ofInt x5)), (6, .int (Int32.ofInt q.2.1))] [] w1 P) (kc : ∀ (r : (Int × Int × Hp)), o = .inr r → (∀ w1, Rw sh w0 r.2.2 w1 → wp (d + 6) 259 114 [(0, .ref 146), (1, .int (Int32.ofInt x1)), (2, .int (Int32.ofInt x2)), (3, .int (Int32.ofInt x3)), (4, .int (Int32.ofInt r.1)), (5, .int (Int32.ofInt x5)), (6, .int (Int32.ofInt r.2.1))] [] w1 P)) : wp (d + 6) 259 85 [(0, .ref 146), (1, .int (Int32.ofInt x1)), (2, .int (Int32.ofInt x2)), (3, .int (Int32.ofInt x3)), (4, .int (Int32.ofInt x4)), (5, .int (Int32.ofInt x5)), (6, .int (Int32.ofInt x6))] [] w P := by
  unfold xm_days_b85 at hx
  refine wp_g 2 (pc1 := 88) (lv1 := [(0, .ref 146), (1, .int (Int32.ofInt x1)), (2, .int (Int32.ofInt x2)), (3, .int (Int32.ofInt x3)), (4, .int (Int32.ofInt x4)), (5, .int (Int32.ofInt x5)), (6, .int (Int32.ofInt x6))]) (st1 := [.int (Int32.ofInt x2), .int (Int32.ofInt x6)]) (w1 := w) rfl ?_
  refine wx_ge (oo := 26) (ln := 3) (a := 114) (b := 0) (zz := 0) (by decide +kernel) (fun h1 => ?_) (fun h1 => ?_)
  · have hx := ite_f h1 hx
    cases hx
    exact kc _ rfl _ h
  · have hx := ite_t h1 hx
    refine wp_g 2 (pc1 := 94) (lv1 := [(0, .ref 146), (1, .int (Int32.ofInt x1)), (2, .int (Int32.ofInt x2)), (3, .int (Int32.ofInt x3)), (4, .int (Int32.ofInt x4)), (5, .int (Int32.ofInt x5)), (6, .int (Int32.ofInt x6))]) (st1 := [.ref 146, .int (Int32.ofInt x4)]) (w1 := w) rfl ?_
    obtain ⟨o2, e3, hx⟩ := bd hx
    refine wp_cl [.ref 146] [.int (Int32.ofInt x4)] (i := .invokevirtual 493) (ln := 3) (a := 258) (b := 0) (z := 0) (by decide +kernel) rfl rfl (by decide) rfl (show (1 : Nat) = pm_na 258 by decide +kernel) (Nat.le_of_ble_eq_true rfl) (show (1 : Nat) ≤ pm_n 258 by decide +kernel) (rcv_x 12 h (hS _ _ sm_146) (by decide +kernel)) (xm_foldsDrawn_ok (d := d) hS h e3 (fun w4 h5 => ?_))
    show wp _ 259 97 [(0, .ref 146), (1, .int (Int32.ofInt x1)), (2, .int (Int32.ofInt x2)), (3, .int (Int32.ofInt x3)), (4, .int (Int32.ofInt x4)), (5, .int (Int32.ofInt x5)), (6, .int (Int32.ofInt x6))] [.int (Int32.ofInt o2.1), .int (Int32.ofInt x4)] w4 _
    refine wz_eq (oo := 7) (ln := 3) (a := 104) (b := 0) (zz := 0) (by decide +kernel) (fun h6 => ?_) (fun h6 => ?_)
    · have hx := ite_t h6 hx
      refine wp_g 5 (pc1 := 85) (lv1 := [(6, .int (Int32.ofInt (x6 + 1))), (4, .int (Int32.ofInt (x4 + 0))), (0, .ref 146), (1, .int (Int32.ofInt x1)), (2, .int (Int32.ofInt x2)), (3, .int (Int32.ofInt x3)), (5, .int (Int32.ofInt x5))]) (st1 := []) (w1 := w4) (by simp only [Int32.ofInt_add, Int32.ofInt_sub, Int32.ofInt_mul, Int32.ofInt_neg, p_and, p_or, p_xor, p_shl, p_shr, p_usr, p_w8, p_c16, p_lI, q_and, q_or, q_shl, q_shr, q_w32, Int64.ofInt_add, Int64.ofInt_sub, Int64.ofInt_mul, p_mx, p_mn, q_mx, q_mn]; rfl) ?_
      refine wp_lv (lv1 := [(0, .ref 146), (1, .int (Int32.ofInt x1)), (2, .int (Int32.ofInt x2)), (3, .int (Int32.ofInt x3)), (4, .int (Int32.ofInt (x4 + 0))), (5, .int (Int32.ofInt x5)), (6, .int (Int32.ofInt (x6 + 1)))]) (lsub_p [2, 3, 4, 5, 1, 6, 0] rfl rfl rfl) ?_
      cases hx
      exact kn _ _ rfl h5
    · have hx := ite_f h6 hx
      refine wp_g 6 (pc1 := 85) (lv1 := [(6, .int (Int32.ofInt (x6 + 1))), (4, .int (Int32.ofInt (x4 + 1))), (0, .ref 146), (1, .int (Int32.ofInt x1)), (2, .int (Int32.ofInt x2)), (3, .int (Int32.ofInt x3)), (5, .int (Int32.ofInt x5))]) (st1 := []) (w1 := w4) (by simp only [Int32.ofInt_add, Int32.ofInt_sub, Int32.ofInt_mul, Int32.ofInt_neg, p_and, p_or, p_xor, p_shl, p_shr, p_usr, p_w8, p_c16, p_lI, q_and, q_or, q_shl, q_shr, q_w32, Int64.ofInt_add, Int64.ofInt_sub, Int64.ofInt_mul, p_mx, p_mn, q_mx, q_mn]; rfl) ?_
      refine wp_lv (lv1 := [(0, .ref 146), (1, .int (Int32.ofInt x1)), (2, .int (Int32.ofInt x2)), (3, .int (Int32.ofInt x3)), (4, .int (Int32.ofInt (x4 + 1))), (5, .int (Int32.ofInt x5)), (6, .int (Int32.ofInt (x6 + 1)))]) (lsub_p [2, 3, 4, 5, 1, 6, 0] rfl rfl rfl) ?_
      cases hx
      exact kn _ _ rfl h5
noncomputable def xm_days_b67 (s : Hp) (x1 : Int) (x2 : Int) (x3 : Int) (x4 : Int) (x5 : Int) : Option ((Int × Int × Hp) ⊕ (Int × Int × Hp)) :=
  if w32 x5 < w32 x1 then (ix 130 1).bind fun i2 => if 0 < w32 (s 156 i2) then (lp (fun (q : Int × Int × Hp) => xm_days_b85 q.2.2 x1 x2 x3 q.1 x5 q.2.1) (x4, 0, s)).bind fun q5 => (xm_laysBack q5.2.2).bind fun o9 => some (.inl (q5.1, x5 + 1, o9)) else some (.inr (x4, x5, s)) else some (.inr (x4, x5, s))
set_option maxRecDepth 100000 in
theorem xm_days_b67_ok {d : Nat} {P : Option Value → pm_H → Prop} {w : pm_H} {sh : Shp} {w0 : pm_H} {s : Hp} (hS : StM sh) {x1 : Int} {x2 : Int} {x3 : Int} {x4 : Int} {x5 : Int} (h : Rw sh w0 s w) {o : ((Int × Int × Hp) ⊕ (Int × Int × Hp))} (hx : xm_days_b67 s x1 x2 x3 x4 x5 = some o) (kn : ∀ (q : Int × Int × Hp) w1, o = .inl q → Rw sh w0 q.2.2 w1 → wp (d + 6) 259 67 [(0, .ref 146), (1, .int (Int32.ofInt x1)), (2, .int (Int32.ofInt x2)), (3, .int (Int32.ofInt x3)), (4, .int (Int32.ofInt q.1)), (5, .int (Int32.ofInt q.2.1))] [] w1 P) (kc : ∀ (r : (Int × Int × Hp)), o = .inr r → (∀ w1, Rw sh w0 r.2.2 w1 → wp (d + 6) 259 124 [(0, .ref 146), (1, .int (Int32.ofInt x1)), (2, .int (Int32.ofInt x2)), (3, .int (Int32.ofInt x3)), (4, .int (Int32.ofInt r.1)), (5, .int (Int32.ofInt r.2.1))] [] w1 P)) : wp (d + 6) 259 67 [(0, .ref 146), (1, .int (Int32.ofInt x1)), (2, .int (Int32.ofInt x2)), (3, .int (Int32.ofInt x3)), (4, .int (Int32.ofInt x4)), (5, .int (Int32.ofInt x5))] [] w P := by
  unfold xm_days_b67 at hx
  refine wp_g 2 (pc1 := 70) (lv1 := [(0, .ref 146), (1, .int (Int32.ofInt x1)), (2, .int (Int32.ofInt x2)), (3, .int (Int32.ofInt x3)), (4, .int (Int32.ofInt x4)), (5, .int (Int32.ofInt x5))]) (st1 := [.int (Int32.ofInt x1), .int (Int32.ofInt x5)]) (w1 := w) rfl ?_
  refine wx_ge (oo := 54) (ln := 3) (a := 124) (b := 0) (zz := 0) (by decide +kernel) (fun h1 => ?_) (fun h1 => ?_)
  · have hx := ite_f h1 hx
    cases hx
    exact kc _ rfl _ h
  · have hx := ite_t h1 hx
    refine wp_g 1 (pc1 := 74) (lv1 := [(0, .ref 146), (1, .int (Int32.ofInt x1)), (2, .int (Int32.ofInt x2)), (3, .int (Int32.ofInt x3)), (4, .int (Int32.ofInt x4)), (5, .int (Int32.ofInt x5))]) (st1 := [.ref 146]) (w1 := w) rfl ?_
    refine wx_gr (o := 10) (kf := 39) (ln := 3) (ci := 12) (b := 20) (zz := 0) (x := 146) (by decide +kernel) h (hS _ _ sm_146) rfl ?_
    show wp _ 259 77 [(0, .ref 146), (1, .int (Int32.ofInt x1)), (2, .int (Int32.ofInt x2)), (3, .int (Int32.ofInt x3)), (4, .int (Int32.ofInt x4)), (5, .int (Int32.ofInt x5))] [.ref 156] w _
    refine wp_g 1 (pc1 := 78) (lv1 := [(0, .ref 146), (1, .int (Int32.ofInt x1)), (2, .int (Int32.ofInt x2)), (3, .int (Int32.ofInt x3)), (4, .int (Int32.ofInt x4)), (5, .int (Int32.ofInt x5))]) (st1 := [.int (Int32.ofInt 1), .ref 156]) (w1 := w) rfl ?_
    obtain ⟨i2, e3, hx⟩ := bd hx
    refine wx_ra (x := 156) (n := 130) (ln := 1) (a := 0) (b := 0) (zz := 0) (by decide +kernel) h (hS _ _ sm_156) e3 ?_
    show wp _ 259 79 [(0, .ref 146), (1, .int (Int32.ofInt x1)), (2, .int (Int32.ofInt x2)), (3, .int (Int32.ofInt x3)), (4, .int (Int32.ofInt x4)), (5, .int (Int32.ofInt x5))] [.int (Int32.ofInt (s 156 i2))] w _
    refine wz_le (oo := 45) (ln := 3) (a := 124) (b := 0) (zz := 0) (by decide +kernel) (fun h4 => ?_) (fun h4 => ?_)
    · have hx := ite_f h4 hx
      cases hx
      exact kc _ rfl _ h
    · have hx := ite_t h4 hx
      refine wp_g 2 (pc1 := 85) (lv1 := [(6, .int (Int32.ofInt 0)), (0, .ref 146), (1, .int (Int32.ofInt x1)), (2, .int (Int32.ofInt x2)), (3, .int (Int32.ofInt x3)), (4, .int (Int32.ofInt x4)), (5, .int (Int32.ofInt x5))]) (st1 := []) (w1 := w) rfl ?_
      refine wp_lv (lv1 := [(0, .ref 146), (1, .int (Int32.ofInt x1)), (2, .int (Int32.ofInt x2)), (3, .int (Int32.ofInt x3)), (4, .int (Int32.ofInt x4)), (5, .int (Int32.ofInt x5)), (6, .int (Int32.ofInt 0))]) (lsub_p [1, 2, 3, 4, 5, 6, 0] rfl rfl rfl) ?_
      obtain ⟨q5, e6, hx⟩ := bd hx
      refine wp_lp (σ := Int × Int × Hp) (ρ := (Int × Int × Hp)) (B := fun q => xm_days_b85 q.2.2 x1 x2 x3 q.1 x5 q.2.1) (R := fun q w' => Rw sh w0 q.2.2 w') (C := fun r => ∀ w1, Rw sh w0 r.2.2 w1 → wp (d + 6) 259 114 [(0, .ref 146), (1, .int (Int32.ofInt x1)), (2, .int (Int32.ofInt x2)), (3, .int (Int32.ofInt x3)), (4, .int (Int32.ofInt r.1)), (5, .int (Int32.ofInt x5)), (6, .int (Int32.ofInt r.2.1))] [] w1 P) (lv := fun q => [(0, .ref 146), (1, .int (Int32.ofInt x1)), (2, .int (Int32.ofInt x2)), (3, .int (Int32.ofInt x3)), (4, .int (Int32.ofInt q.1)), (5, .int (Int32.ofInt x5)), (6, .int (Int32.ofInt q.2.1))]) (hd := 85) (fun q w' o hR hb kn kc => xm_days_b85_ok hS hR hb kn kc) _ _ _ e6 h ?_
      intro w7 h8
      show wp _ 259 114 [(0, .ref 146), (1, .int (Int32.ofInt x1)), (2, .int (Int32.ofInt x2)), (3, .int (Int32.ofInt x3)), (4, .int (Int32.ofInt q5.1)), (5, .int (Int32.ofInt x5)), (6, .int (Int32.ofInt q5.2.1))] [] w7 _
      refine wp_g 1 (pc1 := 115) (lv1 := [(0, .ref 146), (1, .int (Int32.ofInt x1)), (2, .int (Int32.ofInt x2)), (3, .int (Int32.ofInt x3)), (4, .int (Int32.ofInt q5.1)), (5, .int (Int32.ofInt x5)), (6, .int (Int32.ofInt q5.2.1))]) (st1 := [.ref 146]) (w1 := w7) rfl ?_
      obtain ⟨o9, e10, hx⟩ := bd hx
      refine wp_cl [.ref 146] [] (i := .invokevirtual 420) (ln := 3) (a := 227) (b := 0) (z := 0) (by decide +kernel) rfl rfl (by decide) rfl (show (1 : Nat) = pm_na 227 by decide +kernel) (Nat.le_of_ble_eq_true rfl) (show (1 : Nat) ≤ pm_n 227 by decide +kernel) (rcv_x 12 h8 (hS _ _ sm_146) (by decide +kernel)) (xm_laysBack_ok (d := d + 5) hS h8 e10 (fun w11 h12 => ?_))
      show wp _ 259 118 [(0, .ref 146), (1, .int (Int32.ofInt x1)), (2, .int (Int32.ofInt x2)), (3, .int (Int32.ofInt x3)), (4, .int (Int32.ofInt q5.1)), (5, .int (Int32.ofInt x5)), (6, .int (Int32.ofInt q5.2.1))] [] w11 _
      refine wp_g 2 (pc1 := 67) (lv1 := [(5, .int (Int32.ofInt (x5 + 1))), (0, .ref 146), (1, .int (Int32.ofInt x1)), (2, .int (Int32.ofInt x2)), (3, .int (Int32.ofInt x3)), (4, .int (Int32.ofInt q5.1)), (6, .int (Int32.ofInt q5.2.1))]) (st1 := []) (w1 := w11) (by simp only [Int32.ofInt_add, Int32.ofInt_sub, Int32.ofInt_mul, Int32.ofInt_neg, p_and, p_or, p_xor, p_shl, p_shr, p_usr, p_w8, p_c16, p_lI, q_and, q_or, q_shl, q_shr, q_w32, Int64.ofInt_add, Int64.ofInt_sub, Int64.ofInt_mul, p_mx, p_mn, q_mx, q_mn]; rfl) ?_
      refine wp_lv (lv1 := [(0, .ref 146), (1, .int (Int32.ofInt x1)), (2, .int (Int32.ofInt x2)), (3, .int (Int32.ofInt x3)), (4, .int (Int32.ofInt q5.1)), (5, .int (Int32.ofInt (x5 + 1)))]) (lsub_p [1, 2, 3, 4, 5, 0] rfl rfl rfl) ?_
      cases hx
      exact kn _ _ rfl h12
/-- FoldDeedsModel.days (III)I -/
noncomputable def xm_days (s : Hp) (p1 : Int) (p2 : Int) (p3 : Int) : Option (Int × Hp) :=
  (xm_isCloth s).bind fun o1 => if w32 o1 = 0 then some ((-1), s) else (xm_in (w32 p1) 1 10).bind fun o6 => if w32 o6 = 0 then some ((-1), s) else (xm_in (w32 p2) 1 30).bind fun o11 => if w32 o11 = 0 then some ((-1), s) else (xm_in (w32 p3) 0 1).bind fun o16 => if w32 o16 = 0 then some ((-1), s) else (some (uh s 146 40 (w32 (s 146 22)))).bind fun s21 => (some (uh s21 146 41 0)).bind fun s25 => (xm_keeps s25).bind fun o29 => (lp (fun (q : Int × Int × Hp) => xm_days_b67 q.2.2 p1 p2 p3 q.1 q.2.1) (0, 0, o29)).bind fun q33 => if w32 p3 = 0 then some (q33.1, q33.2.2) else some (q33.2.2 146 41, q33.2.2)
set_option maxRecDepth 100000 in
theorem xm_days_ok {d : Nat} {P : Option Value → pm_H → Prop} {w : pm_H} {sh : Shp} {w0 : pm_H} {s : Hp} (hS : StM sh) {p1 : Int} {p2 : Int} {p3 : Int} (h : Rw sh w0 s w) {o : Int × Hp} (hx : xm_days s p1 p2 p3 = some o) (kr : ∀ w1, Rw sh w0 o.2 w1 → P (some (.int (Int32.ofInt o.1))) w1) : wp (d + 6) 259 0 (lv_args 0 [.ref 146, .int (Int32.ofInt p1), .int (Int32.ofInt p2), .int (Int32.ofInt p3)]) [] w P := by
  show wp _ 259 0 [(0, .ref 146), (1, .int (Int32.ofInt p1)), (2, .int (Int32.ofInt p2)), (3, .int (Int32.ofInt p3))] [] w _
  unfold xm_days at hx
  refine wp_g 1 (pc1 := 1) (lv1 := [(0, .ref 146), (1, .int (Int32.ofInt p1)), (2, .int (Int32.ofInt p2)), (3, .int (Int32.ofInt p3))]) (st1 := [.ref 146]) (w1 := w) rfl ?_
  obtain ⟨o1, e2, hx⟩ := bd hx
  refine wp_cl [.ref 146] [] (i := .invokevirtual 301) (ln := 3) (a := 190) (b := 0) (z := 0) (by decide +kernel) rfl rfl (by decide) rfl (show (1 : Nat) = pm_na 190 by decide +kernel) (Nat.le_of_ble_eq_true rfl) (show (1 : Nat) ≤ pm_n 190 by decide +kernel) (rcv_x 12 h (hS _ _ sm_146) (by decide +kernel)) (xm_isCloth_ok (d := d + 5) hS h e2 ?_)
  show wp _ 259 4 [(0, .ref 146), (1, .int (Int32.ofInt p1)), (2, .int (Int32.ofInt p2)), (3, .int (Int32.ofInt p3))] [.int (Int32.ofInt o1)] w _
  refine wz_eq (oo := 37) (ln := 3) (a := 41) (b := 0) (zz := 0) (by decide +kernel) (fun h5 => ?_) (fun h5 => ?_)
  · have hx := ite_t h5 hx
    refine wp_g 1 (pc1 := 42) (lv1 := [(0, .ref 146), (1, .int (Int32.ofInt p1)), (2, .int (Int32.ofInt p2)), (3, .int (Int32.ofInt p3))]) (st1 := [.int (Int32.ofInt (-1))]) (w1 := w) rfl ?_
    refine wp_rt (i := .ireturn) (r := some (.int (Int32.ofInt (-1)))) (ln := 1) (a := 0) (b := 0) (z := 0) (by decide +kernel) rfl (ret_ok (by decide +kernel)) ?_
    cases hx
    exact kr _ h
  · have hx := ite_f h5 hx
    refine wp_g 4 (pc1 := 13) (lv1 := [(0, .ref 146), (1, .int (Int32.ofInt p1)), (2, .int (Int32.ofInt p2)), (3, .int (Int32.ofInt p3))]) (st1 := [.long (Int64.ofInt 10), .long (Int64.ofInt 1), .long (Int64.ofInt (w32 p1))]) (w1 := w) (by simp only [Int32.ofInt_add, Int32.ofInt_sub, Int32.ofInt_mul, Int32.ofInt_neg, p_and, p_or, p_xor, p_shl, p_shr, p_usr, p_w8, p_c16, p_lI, q_and, q_or, q_shl, q_shr, q_w32, Int64.ofInt_add, Int64.ofInt_sub, Int64.ofInt_mul, p_mx, p_mn, q_mx, q_mn]; rfl) ?_
    obtain ⟨o6, e7, hx⟩ := bd hx
    refine wp_cl [.long (Int64.ofInt (w32 p1)), .long (Int64.ofInt 1), .long (Int64.ofInt 10)] [] (i := .invokestatic 139) (ln := 3) (a := 147) (b := 1) (z := 0) (by decide +kernel) rfl rfl (by decide) rfl (show (3 : Nat) = pm_na 147 by decide +kernel) (Nat.le_of_ble_eq_true rfl) (show (6 : Nat) ≤ pm_n 147 by decide +kernel) (by rw [show pm_k 147 = 1 by decide +kernel]; rfl) (xm_in_ok (d := d + 5) e7 ?_)
    show wp _ 259 16 [(0, .ref 146), (1, .int (Int32.ofInt p1)), (2, .int (Int32.ofInt p2)), (3, .int (Int32.ofInt p3))] [.int (Int32.ofInt o6)] w _
    refine wz_eq (oo := 25) (ln := 3) (a := 41) (b := 0) (zz := 0) (by decide +kernel) (fun h10 => ?_) (fun h10 => ?_)
    · have hx := ite_t h10 hx
      refine wp_g 1 (pc1 := 42) (lv1 := [(0, .ref 146), (1, .int (Int32.ofInt p1)), (2, .int (Int32.ofInt p2)), (3, .int (Int32.ofInt p3))]) (st1 := [.int (Int32.ofInt (-1))]) (w1 := w) rfl ?_
      refine wp_rt (i := .ireturn) (r := some (.int (Int32.ofInt (-1)))) (ln := 1) (a := 0) (b := 0) (z := 0) (by decide +kernel) rfl (ret_ok (by decide +kernel)) ?_
      cases hx
      exact kr _ h
    · have hx := ite_f h10 hx
      refine wp_g 4 (pc1 := 25) (lv1 := [(0, .ref 146), (1, .int (Int32.ofInt p1)), (2, .int (Int32.ofInt p2)), (3, .int (Int32.ofInt p3))]) (st1 := [.long (Int64.ofInt 30), .long (Int64.ofInt 1), .long (Int64.ofInt (w32 p2))]) (w1 := w) (by simp only [Int32.ofInt_add, Int32.ofInt_sub, Int32.ofInt_mul, Int32.ofInt_neg, p_and, p_or, p_xor, p_shl, p_shr, p_usr, p_w8, p_c16, p_lI, q_and, q_or, q_shl, q_shr, q_w32, Int64.ofInt_add, Int64.ofInt_sub, Int64.ofInt_mul, p_mx, p_mn, q_mx, q_mn]; rfl) ?_
      obtain ⟨o11, e12, hx⟩ := bd hx
      refine wp_cl [.long (Int64.ofInt (w32 p2)), .long (Int64.ofInt 1), .long (Int64.ofInt 30)] [] (i := .invokestatic 139) (ln := 3) (a := 147) (b := 1) (z := 0) (by decide +kernel) rfl rfl (by decide) rfl (show (3 : Nat) = pm_na 147 by decide +kernel) (Nat.le_of_ble_eq_true rfl) (show (6 : Nat) ≤ pm_n 147 by decide +kernel) (by rw [show pm_k 147 = 1 by decide +kernel]; rfl) (xm_in_ok (d := d + 5) e12 ?_)
      show wp _ 259 28 [(0, .ref 146), (1, .int (Int32.ofInt p1)), (2, .int (Int32.ofInt p2)), (3, .int (Int32.ofInt p3))] [.int (Int32.ofInt o11)] w _
      refine wz_eq (oo := 13) (ln := 3) (a := 41) (b := 0) (zz := 0) (by decide +kernel) (fun h15 => ?_) (fun h15 => ?_)
      · have hx := ite_t h15 hx
        refine wp_g 1 (pc1 := 42) (lv1 := [(0, .ref 146), (1, .int (Int32.ofInt p1)), (2, .int (Int32.ofInt p2)), (3, .int (Int32.ofInt p3))]) (st1 := [.int (Int32.ofInt (-1))]) (w1 := w) rfl ?_
        refine wp_rt (i := .ireturn) (r := some (.int (Int32.ofInt (-1)))) (ln := 1) (a := 0) (b := 0) (z := 0) (by decide +kernel) rfl (ret_ok (by decide +kernel)) ?_
        cases hx
        exact kr _ h
      · have hx := ite_f h15 hx
        refine wp_g 4 (pc1 := 35) (lv1 := [(0, .ref 146), (1, .int (Int32.ofInt p1)), (2, .int (Int32.ofInt p2)), (3, .int (Int32.ofInt p3))]) (st1 := [.long (Int64.ofInt 1), .long (Int64.ofInt 0), .long (Int64.ofInt (w32 p3))]) (w1 := w) (by simp only [Int32.ofInt_add, Int32.ofInt_sub, Int32.ofInt_mul, Int32.ofInt_neg, p_and, p_or, p_xor, p_shl, p_shr, p_usr, p_w8, p_c16, p_lI, q_and, q_or, q_shl, q_shr, q_w32, Int64.ofInt_add, Int64.ofInt_sub, Int64.ofInt_mul, p_mx, p_mn, q_mx, q_mn]; rfl) ?_
        obtain ⟨o16, e17, hx⟩ := bd hx
        refine wp_cl [.long (Int64.ofInt (w32 p3)), .long (Int64.ofInt 0), .long (Int64.ofInt 1)] [] (i := .invokestatic 139) (ln := 3) (a := 147) (b := 1) (z := 0) (by decide +kernel) rfl rfl (by decide) rfl (show (3 : Nat) = pm_na 147 by decide +kernel) (Nat.le_of_ble_eq_true rfl) (show (6 : Nat) ≤ pm_n 147 by decide +kernel) (by rw [show pm_k 147 = 1 by decide +kernel]; rfl) (xm_in_ok (d := d + 5) e17 ?_)
        show wp _ 259 38 [(0, .ref 146), (1, .int (Int32.ofInt p1)), (2, .int (Int32.ofInt p2)), (3, .int (Int32.ofInt p3))] [.int (Int32.ofInt o16)] w _
        refine wz_ne (oo := 5) (ln := 3) (a := 43) (b := 0) (zz := 0) (by decide +kernel) (fun h20 => ?_) (fun h20 => ?_)
        · have hx := ite_f h20 hx
          refine wp_g 2 (pc1 := 45) (lv1 := [(0, .ref 146), (1, .int (Int32.ofInt p1)), (2, .int (Int32.ofInt p2)), (3, .int (Int32.ofInt p3))]) (st1 := [.ref 146, .ref 146]) (w1 := w) rfl ?_
          refine wx_gi (kf := 470) (ln := 3) (ci := 12) (b := 22) (zz := 0) (x := 146) (by decide +kernel) h (hS _ _ sm_146) rfl ?_
          show wp _ 259 48 [(0, .ref 146), (1, .int (Int32.ofInt p1)), (2, .int (Int32.ofInt p2)), (3, .int (Int32.ofInt p3))] [.int (Int32.ofInt (s 146 22)), .ref 146] w _
          refine wp_g 1 (pc1 := 49) (lv1 := [(0, .ref 146), (1, .int (Int32.ofInt p1)), (2, .int (Int32.ofInt p2)), (3, .int (Int32.ofInt p3))]) (st1 := [.long (Int64.ofInt (w32 (s 146 22))), .ref 146]) (w1 := w) (by simp only [Int32.ofInt_add, Int32.ofInt_sub, Int32.ofInt_mul, Int32.ofInt_neg, p_and, p_or, p_xor, p_shl, p_shr, p_usr, p_w8, p_c16, p_lI, q_and, q_or, q_shl, q_shr, q_w32, Int64.ofInt_add, Int64.ofInt_sub, Int64.ofInt_mul, p_mx, p_mn, q_mx, q_mn]; rfl) ?_
          obtain ⟨s21, e22, hx⟩ := bd hx
          refine wx_pl (kf := 473) (ln := 3) (ci := 12) (b := 40) (zz := 0) (x := 146) (by decide +kernel) h (hS _ _ sm_146) rfl (by decide +kernel) e22 (fun w23 h24 => ?_)
          refine wp_g 2 (pc1 := 54) (lv1 := [(0, .ref 146), (1, .int (Int32.ofInt p1)), (2, .int (Int32.ofInt p2)), (3, .int (Int32.ofInt p3))]) (st1 := [.int (Int32.ofInt 0), .ref 146]) (w1 := w23) rfl ?_
          obtain ⟨s25, e26, hx⟩ := bd hx
          refine wx_pi (kf := 488) (ln := 3) (ci := 12) (b := 41) (zz := 0) (x := 146) (by decide +kernel) h24 (hS _ _ sm_146) rfl (by decide +kernel) e26 (fun w27 h28 => ?_)
          refine wp_g 3 (pc1 := 61) (lv1 := [(4, .int (Int32.ofInt 0)), (0, .ref 146), (1, .int (Int32.ofInt p1)), (2, .int (Int32.ofInt p2)), (3, .int (Int32.ofInt p3))]) (st1 := [.ref 146]) (w1 := w27) rfl ?_
          obtain ⟨o29, e30, hx⟩ := bd hx
          refine wp_cl [.ref 146] [] (i := .invokevirtual 414) (ln := 3) (a := 226) (b := 0) (z := 0) (by decide +kernel) rfl rfl (by decide) rfl (show (1 : Nat) = pm_na 226 by decide +kernel) (Nat.le_of_ble_eq_true rfl) (show (1 : Nat) ≤ pm_n 226 by decide +kernel) (rcv_x 12 h28 (hS _ _ sm_146) (by decide +kernel)) (xm_keeps_ok (d := d + 5) hS h28 e30 (fun w31 h32 => ?_))
          show wp _ 259 64 [(4, .int (Int32.ofInt 0)), (0, .ref 146), (1, .int (Int32.ofInt p1)), (2, .int (Int32.ofInt p2)), (3, .int (Int32.ofInt p3))] [] w31 _
          refine wp_g 2 (pc1 := 67) (lv1 := [(5, .int (Int32.ofInt 0)), (4, .int (Int32.ofInt 0)), (0, .ref 146), (1, .int (Int32.ofInt p1)), (2, .int (Int32.ofInt p2)), (3, .int (Int32.ofInt p3))]) (st1 := []) (w1 := w31) rfl ?_
          refine wp_lv (lv1 := [(0, .ref 146), (1, .int (Int32.ofInt p1)), (2, .int (Int32.ofInt p2)), (3, .int (Int32.ofInt p3)), (4, .int (Int32.ofInt 0)), (5, .int (Int32.ofInt 0))]) (lsub_p [2, 3, 4, 5, 1, 0] rfl rfl rfl) ?_
          obtain ⟨q33, e34, hx⟩ := bd hx
          refine wp_lp (σ := Int × Int × Hp) (ρ := (Int × Int × Hp)) (B := fun q => xm_days_b67 q.2.2 p1 p2 p3 q.1 q.2.1) (R := fun q w' => Rw sh w0 q.2.2 w') (C := fun r => ∀ w1, Rw sh w0 r.2.2 w1 → wp (d + 6) 259 124 [(0, .ref 146), (1, .int (Int32.ofInt p1)), (2, .int (Int32.ofInt p2)), (3, .int (Int32.ofInt p3)), (4, .int (Int32.ofInt r.1)), (5, .int (Int32.ofInt r.2.1))] [] w1 P) (lv := fun q => [(0, .ref 146), (1, .int (Int32.ofInt p1)), (2, .int (Int32.ofInt p2)), (3, .int (Int32.ofInt p3)), (4, .int (Int32.ofInt q.1)), (5, .int (Int32.ofInt q.2.1))]) (hd := 67) (fun q w' o hR hb kn kc => xm_days_b67_ok hS hR hb kn kc) _ _ _ e34 h32 ?_
          intro w35 h36
          show wp _ 259 124 [(0, .ref 146), (1, .int (Int32.ofInt p1)), (2, .int (Int32.ofInt p2)), (3, .int (Int32.ofInt p3)), (4, .int (Int32.ofInt q33.1)), (5, .int (Int32.ofInt q33.2.1))] [] w35 _
          refine wp_g 1 (pc1 := 125) (lv1 := [(0, .ref 146), (1, .int (Int32.ofInt p1)), (2, .int (Int32.ofInt p2)), (3, .int (Int32.ofInt p3)), (4, .int (Int32.ofInt q33.1)), (5, .int (Int32.ofInt q33.2.1))]) (st1 := [.int (Int32.ofInt p3)]) (w1 := w35) rfl ?_
          refine wz_ne (oo := 8) (ln := 3) (a := 133) (b := 0) (zz := 0) (by decide +kernel) (fun h37 => ?_) (fun h37 => ?_)
          · have hx := ite_f h37 hx
            refine wp_g 1 (pc1 := 134) (lv1 := [(0, .ref 146), (1, .int (Int32.ofInt p1)), (2, .int (Int32.ofInt p2)), (3, .int (Int32.ofInt p3)), (4, .int (Int32.ofInt q33.1)), (5, .int (Int32.ofInt q33.2.1))]) (st1 := [.ref 146]) (w1 := w35) rfl ?_
            refine wx_gi (kf := 488) (ln := 3) (ci := 12) (b := 41) (zz := 0) (x := 146) (by decide +kernel) h36 (hS _ _ sm_146) rfl ?_
            show wp _ 259 137 [(0, .ref 146), (1, .int (Int32.ofInt p1)), (2, .int (Int32.ofInt p2)), (3, .int (Int32.ofInt p3)), (4, .int (Int32.ofInt q33.1)), (5, .int (Int32.ofInt q33.2.1))] [.int (Int32.ofInt (q33.2.2 146 41))] w35 _
            refine wp_rt (i := .ireturn) (r := some (.int (Int32.ofInt (q33.2.2 146 41)))) (ln := 1) (a := 0) (b := 0) (z := 0) (by decide +kernel) rfl (ret_ok (by decide +kernel)) ?_
            cases hx
            exact kr _ h36
          · have hx := ite_t h37 hx
            refine wp_g 2 (pc1 := 137) (lv1 := [(0, .ref 146), (1, .int (Int32.ofInt p1)), (2, .int (Int32.ofInt p2)), (3, .int (Int32.ofInt p3)), (4, .int (Int32.ofInt q33.1)), (5, .int (Int32.ofInt q33.2.1))]) (st1 := [.int (Int32.ofInt q33.1)]) (w1 := w35) rfl ?_
            refine wp_rt (i := .ireturn) (r := some (.int (Int32.ofInt q33.1))) (ln := 1) (a := 0) (b := 0) (z := 0) (by decide +kernel) rfl (ret_ok (by decide +kernel)) ?_
            cases hx
            exact kr _ h36
        · have hx := ite_t h20 hx
          refine wp_g 1 (pc1 := 42) (lv1 := [(0, .ref 146), (1, .int (Int32.ofInt p1)), (2, .int (Int32.ofInt p2)), (3, .int (Int32.ofInt p3))]) (st1 := [.int (Int32.ofInt (-1))]) (w1 := w) rfl ?_
          refine wp_rt (i := .ireturn) (r := some (.int (Int32.ofInt (-1)))) (ln := 1) (a := 0) (b := 0) (z := 0) (by decide +kernel) rfl (ret_ok (by decide +kernel)) ?_
          cases hx
          exact kr _ h
noncomputable def xm_count_b99 (s : Hp) (x2 : Int) (x3 : Int) : Option ((Int × Int) ⊕ (Int × Int)) :=
  (ix 130 0).bind fun i1 => if w32 x3 < w32 ((s 156 i1) - 1) then (ix 130 (44 + x3)).bind fun i4 => if w32 (s 156 i4) = 0 then some (.inl (bOr x2 0, x3 + 1)) else some (.inl (bOr x2 (bShl 1 x3), x3 + 1)) else some (.inr (x2, x3))
set_option maxRecDepth 100000 in
theorem xm_count_b99_ok {d : Nat} {P : Option Value → pm_H → Prop} {w : pm_H} {sh : Shp} {w0 : pm_H} {s : Hp} (hS : StM sh) {x2 : Int} {x3 : Int} (h : Rw sh w0 s w) {o : ((Int × Int) ⊕ (Int × Int))} (hx : xm_count_b99 s x2 x3 = some o) (kn : ∀ (q : Int × Int) w1, o = .inl q → w = w1 → wp (d + 2) 260 99 [(0, .ref 146), (2, .int (Int32.ofInt q.1)), (3, .int (Int32.ofInt q.2))] [] w1 P) (kc : ∀ (r : (Int × Int)), o = .inr r → (∀ w1, w = w1 → wp (d + 2) 260 139 [(0, .ref 146), (2, .int (Int32.ofInt r.1)), (3, .int (Int32.ofInt r.2))] [] w1 P)) : wp (d + 2) 260 99 [(0, .ref 146), (2, .int (Int32.ofInt x2)), (3, .int (Int32.ofInt x3))] [] w P := by
  unfold xm_count_b99 at hx
  refine wp_g 2 (pc1 := 101) (lv1 := [(0, .ref 146), (2, .int (Int32.ofInt x2)), (3, .int (Int32.ofInt x3))]) (st1 := [.ref 146, .int (Int32.ofInt x3)]) (w1 := w) rfl ?_
  refine wx_gr (o := 10) (kf := 39) (ln := 3) (ci := 12) (b := 20) (zz := 0) (x := 146) (by decide +kernel) h (hS _ _ sm_146) rfl ?_
  show wp _ 260 104 [(0, .ref 146), (2, .int (Int32.ofInt x2)), (3, .int (Int32.ofInt x3))] [.ref 156, .int (Int32.ofInt x3)] w _
  refine wp_g 1 (pc1 := 105) (lv1 := [(0, .ref 146), (2, .int (Int32.ofInt x2)), (3, .int (Int32.ofInt x3))]) (st1 := [.int (Int32.ofInt 0), .ref 156, .int (Int32.ofInt x3)]) (w1 := w) rfl ?_
  obtain ⟨i1, e2, hx⟩ := bd hx
  refine wx_ra (x := 156) (n := 130) (ln := 1) (a := 0) (b := 0) (zz := 0) (by decide +kernel) h (hS _ _ sm_156) e2 ?_
  show wp _ 260 106 [(0, .ref 146), (2, .int (Int32.ofInt x2)), (3, .int (Int32.ofInt x3))] [.int (Int32.ofInt (s 156 i1)), .int (Int32.ofInt x3)] w _
  refine wp_g 2 (pc1 := 108) (lv1 := [(0, .ref 146), (2, .int (Int32.ofInt x2)), (3, .int (Int32.ofInt x3))]) (st1 := [.int (Int32.ofInt ((s 156 i1) - 1)), .int (Int32.ofInt x3)]) (w1 := w) (by simp only [Int32.ofInt_add, Int32.ofInt_sub, Int32.ofInt_mul, Int32.ofInt_neg, p_and, p_or, p_xor, p_shl, p_shr, p_usr, p_w8, p_c16, p_lI, q_and, q_or, q_shl, q_shr, q_w32, Int64.ofInt_add, Int64.ofInt_sub, Int64.ofInt_mul, p_mx, p_mn, q_mx, q_mn]; rfl) ?_
  refine wx_ge (oo := 31) (ln := 3) (a := 139) (b := 0) (zz := 0) (by decide +kernel) (fun h3 => ?_) (fun h3 => ?_)
  · have hx := ite_f h3 hx
    cases hx
    exact kc _ rfl _ rfl
  · have hx := ite_t h3 hx
    refine wp_g 2 (pc1 := 113) (lv1 := [(0, .ref 146), (2, .int (Int32.ofInt x2)), (3, .int (Int32.ofInt x3))]) (st1 := [.ref 146, .int (Int32.ofInt x2)]) (w1 := w) rfl ?_
    refine wx_gr (o := 10) (kf := 39) (ln := 3) (ci := 12) (b := 20) (zz := 0) (x := 146) (by decide +kernel) h (hS _ _ sm_146) rfl ?_
    show wp _ 260 116 [(0, .ref 146), (2, .int (Int32.ofInt x2)), (3, .int (Int32.ofInt x3))] [.ref 156, .int (Int32.ofInt x2)] w _
    refine wp_g 3 (pc1 := 120) (lv1 := [(0, .ref 146), (2, .int (Int32.ofInt x2)), (3, .int (Int32.ofInt x3))]) (st1 := [.int (Int32.ofInt (44 + x3)), .ref 156, .int (Int32.ofInt x2)]) (w1 := w) (by simp only [Int32.ofInt_add, Int32.ofInt_sub, Int32.ofInt_mul, Int32.ofInt_neg, p_and, p_or, p_xor, p_shl, p_shr, p_usr, p_w8, p_c16, p_lI, q_and, q_or, q_shl, q_shr, q_w32, Int64.ofInt_add, Int64.ofInt_sub, Int64.ofInt_mul, p_mx, p_mn, q_mx, q_mn]; rfl) ?_
    obtain ⟨i4, e5, hx⟩ := bd hx
    refine wx_ra (x := 156) (n := 130) (ln := 1) (a := 0) (b := 0) (zz := 0) (by decide +kernel) h (hS _ _ sm_156) e5 ?_
    show wp _ 260 121 [(0, .ref 146), (2, .int (Int32.ofInt x2)), (3, .int (Int32.ofInt x3))] [.int (Int32.ofInt (s 156 i4)), .int (Int32.ofInt x2)] w _
    refine wz_eq (oo := 9) (ln := 3) (a := 130) (b := 0) (zz := 0) (by decide +kernel) (fun h6 => ?_) (fun h6 => ?_)
    · have hx := ite_t h6 hx
      refine wp_g 5 (pc1 := 99) (lv1 := [(3, .int (Int32.ofInt (x3 + 1))), (2, .int (Int32.ofInt (bOr x2 0))), (0, .ref 146)]) (st1 := []) (w1 := w) (by simp only [Int32.ofInt_add, Int32.ofInt_sub, Int32.ofInt_mul, Int32.ofInt_neg, p_and, p_or, p_xor, p_shl, p_shr, p_usr, p_w8, p_c16, p_lI, q_and, q_or, q_shl, q_shr, q_w32, Int64.ofInt_add, Int64.ofInt_sub, Int64.ofInt_mul, p_mx, p_mn, q_mx, q_mn]; rfl) ?_
      refine wp_lv (lv1 := [(0, .ref 146), (2, .int (Int32.ofInt (bOr x2 0))), (3, .int (Int32.ofInt (x3 + 1)))]) (lsub_p [2, 1, 0] rfl rfl rfl) ?_
      cases hx
      exact kn _ _ rfl rfl
    · have hx := ite_f h6 hx
      refine wp_g 8 (pc1 := 99) (lv1 := [(3, .int (Int32.ofInt (x3 + 1))), (2, .int (Int32.ofInt (bOr x2 (bShl 1 x3)))), (0, .ref 146)]) (st1 := []) (w1 := w) (by simp only [Int32.ofInt_add, Int32.ofInt_sub, Int32.ofInt_mul, Int32.ofInt_neg, p_and, p_or, p_xor, p_shl, p_shr, p_usr, p_w8, p_c16, p_lI, q_and, q_or, q_shl, q_shr, q_w32, Int64.ofInt_add, Int64.ofInt_sub, Int64.ofInt_mul, p_mx, p_mn, q_mx, q_mn]; rfl) ?_
      refine wp_lv (lv1 := [(0, .ref 146), (2, .int (Int32.ofInt (bOr x2 (bShl 1 x3)))), (3, .int (Int32.ofInt (x3 + 1)))]) (lsub_p [2, 1, 0] rfl rfl rfl) ?_
      cases hx
      exact kn _ _ rfl rfl
/-- FoldDeedsModel.count (I)I -/
noncomputable def xm_count (s : Hp) (p1 : Int) : Option Int :=
  if w32 p1 = 0 then (ix 130 p1).bind fun i2 => some (s 156 i2) else if w32 p1 = 1 then (ix 130 p1).bind fun i5 => some (s 156 i5) else if w32 p1 = 2 then (ix 130 10).bind fun i8 => some (s 156 i8) else if w32 p1 = 3 then some (s 146 2) else if w32 p1 = 4 then some (s 146 21) else if w32 p1 = 5 then (ix 130 11).bind fun i13 => some (s 156 i13) else if w32 p1 = 6 then (lp (fun (q : Int × Int) => xm_count_b99 s q.1 q.2) (0, 0)).bind fun q16 => some q16.1 else if w32 p1 = 7 then (xm_cellsOf s (-1)).bind fun o21 => some o21 else if w32 p1 = 8 then (ix 130 129).bind fun i26 => some (s 156 i26) else if w32 p1 = 9 then some (s 146 26) else if w32 p1 = 10 then some (s 146 22) else if w32 p1 = 11 then some (s 146 1) else some (-1)
set_option maxRecDepth 100000 in
theorem xm_count_ok {d : Nat} {P : Option Value → pm_H → Prop} {w : pm_H} {sh : Shp} {w0 : pm_H} {s : Hp} (hS : StM sh) {p1 : Int} (h : Rw sh w0 s w) {o : Int} (hx : xm_count s p1 = some o) (kr : P (some (.int (Int32.ofInt o))) w) : wp (d + 2) 260 0 (lv_args 0 [.ref 146, .int (Int32.ofInt p1)]) [] w P := by
  show wp _ 260 0 [(0, .ref 146), (1, .int (Int32.ofInt p1))] [] w _
  unfold xm_count at hx
  refine wp_g 3 (pc1 := 3) (lv1 := [(2, .int (Int32.ofInt 0)), (0, .ref 146), (1, .int (Int32.ofInt p1))]) (st1 := [.int (Int32.ofInt p1)]) (w1 := w) rfl ?_
  by_cases h1 : w32 p1 = 0
  · have hx := ite_t h1 hx
    refine wx_sw (dflt := 168) (lo := 0) (hi := 11) (offs := #[61, 61, 68, 76, 81, 86, 94, 138, 144, 153, 158, 163]) (ln := 61) (a := 0) (b := 0) (zz := 0) (tgt := 64) (q := 61) (by decide +kernel) h1 (by decide) (by decide) (by decide) (by decide) ?_
    refine wp_g 1 (pc1 := 65) (lv1 := [(2, .int (Int32.ofInt 0)), (0, .ref 146), (1, .int (Int32.ofInt p1))]) (st1 := [.ref 146]) (w1 := w) rfl ?_
    refine wx_gr (o := 10) (kf := 39) (ln := 3) (ci := 12) (b := 20) (zz := 0) (x := 146) (by decide +kernel) h (hS _ _ sm_146) rfl ?_
    show wp _ 260 68 [(2, .int (Int32.ofInt 0)), (0, .ref 146), (1, .int (Int32.ofInt p1))] [.ref 156] w _
    refine wp_g 1 (pc1 := 69) (lv1 := [(2, .int (Int32.ofInt 0)), (0, .ref 146), (1, .int (Int32.ofInt p1))]) (st1 := [.int (Int32.ofInt p1), .ref 156]) (w1 := w) rfl ?_
    obtain ⟨i2, e3, hx⟩ := bd hx
    refine wx_ra (x := 156) (n := 130) (ln := 1) (a := 0) (b := 0) (zz := 0) (by decide +kernel) h (hS _ _ sm_156) e3 ?_
    show wp _ 260 70 [(2, .int (Int32.ofInt 0)), (0, .ref 146), (1, .int (Int32.ofInt p1))] [.int (Int32.ofInt (s 156 i2))] w _
    refine wp_rt (i := .ireturn) (r := some (.int (Int32.ofInt (s 156 i2)))) (ln := 1) (a := 0) (b := 0) (z := 0) (by decide +kernel) rfl (ret_ok (by decide +kernel)) ?_
    cases hx
    exact kr
  have hx := ite_f h1 hx
  by_cases h4 : w32 p1 = 1
  · have hx := ite_t h4 hx
    refine wx_sw (dflt := 168) (lo := 0) (hi := 11) (offs := #[61, 61, 68, 76, 81, 86, 94, 138, 144, 153, 158, 163]) (ln := 61) (a := 0) (b := 0) (zz := 0) (tgt := 64) (q := 61) (by decide +kernel) h4 (by decide) (by decide) (by decide) (by decide) ?_
    refine wp_g 1 (pc1 := 65) (lv1 := [(2, .int (Int32.ofInt 0)), (0, .ref 146), (1, .int (Int32.ofInt p1))]) (st1 := [.ref 146]) (w1 := w) rfl ?_
    refine wx_gr (o := 10) (kf := 39) (ln := 3) (ci := 12) (b := 20) (zz := 0) (x := 146) (by decide +kernel) h (hS _ _ sm_146) rfl ?_
    show wp _ 260 68 [(2, .int (Int32.ofInt 0)), (0, .ref 146), (1, .int (Int32.ofInt p1))] [.ref 156] w _
    refine wp_g 1 (pc1 := 69) (lv1 := [(2, .int (Int32.ofInt 0)), (0, .ref 146), (1, .int (Int32.ofInt p1))]) (st1 := [.int (Int32.ofInt p1), .ref 156]) (w1 := w) rfl ?_
    obtain ⟨i5, e6, hx⟩ := bd hx
    refine wx_ra (x := 156) (n := 130) (ln := 1) (a := 0) (b := 0) (zz := 0) (by decide +kernel) h (hS _ _ sm_156) e6 ?_
    show wp _ 260 70 [(2, .int (Int32.ofInt 0)), (0, .ref 146), (1, .int (Int32.ofInt p1))] [.int (Int32.ofInt (s 156 i5))] w _
    refine wp_rt (i := .ireturn) (r := some (.int (Int32.ofInt (s 156 i5)))) (ln := 1) (a := 0) (b := 0) (z := 0) (by decide +kernel) rfl (ret_ok (by decide +kernel)) ?_
    cases hx
    exact kr
  have hx := ite_f h4 hx
  by_cases h7 : w32 p1 = 2
  · have hx := ite_t h7 hx
    refine wx_sw (dflt := 168) (lo := 0) (hi := 11) (offs := #[61, 61, 68, 76, 81, 86, 94, 138, 144, 153, 158, 163]) (ln := 61) (a := 0) (b := 0) (zz := 0) (tgt := 71) (q := 68) (by decide +kernel) h7 (by decide) (by decide) (by decide) (by decide) ?_
    refine wp_g 1 (pc1 := 72) (lv1 := [(2, .int (Int32.ofInt 0)), (0, .ref 146), (1, .int (Int32.ofInt p1))]) (st1 := [.ref 146]) (w1 := w) rfl ?_
    refine wx_gr (o := 10) (kf := 39) (ln := 3) (ci := 12) (b := 20) (zz := 0) (x := 146) (by decide +kernel) h (hS _ _ sm_146) rfl ?_
    show wp _ 260 75 [(2, .int (Int32.ofInt 0)), (0, .ref 146), (1, .int (Int32.ofInt p1))] [.ref 156] w _
    refine wp_g 1 (pc1 := 77) (lv1 := [(2, .int (Int32.ofInt 0)), (0, .ref 146), (1, .int (Int32.ofInt p1))]) (st1 := [.int (Int32.ofInt 10), .ref 156]) (w1 := w) rfl ?_
    obtain ⟨i8, e9, hx⟩ := bd hx
    refine wx_ra (x := 156) (n := 130) (ln := 1) (a := 0) (b := 0) (zz := 0) (by decide +kernel) h (hS _ _ sm_156) e9 ?_
    show wp _ 260 78 [(2, .int (Int32.ofInt 0)), (0, .ref 146), (1, .int (Int32.ofInt p1))] [.int (Int32.ofInt (s 156 i8))] w _
    refine wp_rt (i := .ireturn) (r := some (.int (Int32.ofInt (s 156 i8)))) (ln := 1) (a := 0) (b := 0) (z := 0) (by decide +kernel) rfl (ret_ok (by decide +kernel)) ?_
    cases hx
    exact kr
  have hx := ite_f h7 hx
  by_cases h10 : w32 p1 = 3
  · have hx := ite_t h10 hx
    refine wx_sw (dflt := 168) (lo := 0) (hi := 11) (offs := #[61, 61, 68, 76, 81, 86, 94, 138, 144, 153, 158, 163]) (ln := 61) (a := 0) (b := 0) (zz := 0) (tgt := 79) (q := 76) (by decide +kernel) h10 (by decide) (by decide) (by decide) (by decide) ?_
    refine wp_g 1 (pc1 := 80) (lv1 := [(2, .int (Int32.ofInt 0)), (0, .ref 146), (1, .int (Int32.ofInt p1))]) (st1 := [.ref 146]) (w1 := w) rfl ?_
    refine wx_gi (kf := 274) (ln := 3) (ci := 12) (b := 2) (zz := 0) (x := 146) (by decide +kernel) h (hS _ _ sm_146) rfl ?_
    show wp _ 260 83 [(2, .int (Int32.ofInt 0)), (0, .ref 146), (1, .int (Int32.ofInt p1))] [.int (Int32.ofInt (s 146 2))] w _
    refine wp_rt (i := .ireturn) (r := some (.int (Int32.ofInt (s 146 2)))) (ln := 1) (a := 0) (b := 0) (z := 0) (by decide +kernel) rfl (ret_ok (by decide +kernel)) ?_
    cases hx
    exact kr
  have hx := ite_f h10 hx
  by_cases h11 : w32 p1 = 4
  · have hx := ite_t h11 hx
    refine wx_sw (dflt := 168) (lo := 0) (hi := 11) (offs := #[61, 61, 68, 76, 81, 86, 94, 138, 144, 153, 158, 163]) (ln := 61) (a := 0) (b := 0) (zz := 0) (tgt := 84) (q := 81) (by decide +kernel) h11 (by decide) (by decide) (by decide) (by decide) ?_
    refine wp_g 1 (pc1 := 85) (lv1 := [(2, .int (Int32.ofInt 0)), (0, .ref 146), (1, .int (Int32.ofInt p1))]) (st1 := [.ref 146]) (w1 := w) rfl ?_
    refine wx_gi (kf := 42) (ln := 3) (ci := 12) (b := 21) (zz := 0) (x := 146) (by decide +kernel) h (hS _ _ sm_146) rfl ?_
    show wp _ 260 88 [(2, .int (Int32.ofInt 0)), (0, .ref 146), (1, .int (Int32.ofInt p1))] [.int (Int32.ofInt (s 146 21))] w _
    refine wp_rt (i := .ireturn) (r := some (.int (Int32.ofInt (s 146 21)))) (ln := 1) (a := 0) (b := 0) (z := 0) (by decide +kernel) rfl (ret_ok (by decide +kernel)) ?_
    cases hx
    exact kr
  have hx := ite_f h11 hx
  by_cases h12 : w32 p1 = 5
  · have hx := ite_t h12 hx
    refine wx_sw (dflt := 168) (lo := 0) (hi := 11) (offs := #[61, 61, 68, 76, 81, 86, 94, 138, 144, 153, 158, 163]) (ln := 61) (a := 0) (b := 0) (zz := 0) (tgt := 89) (q := 86) (by decide +kernel) h12 (by decide) (by decide) (by decide) (by decide) ?_
    refine wp_g 1 (pc1 := 90) (lv1 := [(2, .int (Int32.ofInt 0)), (0, .ref 146), (1, .int (Int32.ofInt p1))]) (st1 := [.ref 146]) (w1 := w) rfl ?_
    refine wx_gr (o := 10) (kf := 39) (ln := 3) (ci := 12) (b := 20) (zz := 0) (x := 146) (by decide +kernel) h (hS _ _ sm_146) rfl ?_
    show wp _ 260 93 [(2, .int (Int32.ofInt 0)), (0, .ref 146), (1, .int (Int32.ofInt p1))] [.ref 156] w _
    refine wp_g 1 (pc1 := 95) (lv1 := [(2, .int (Int32.ofInt 0)), (0, .ref 146), (1, .int (Int32.ofInt p1))]) (st1 := [.int (Int32.ofInt 11), .ref 156]) (w1 := w) rfl ?_
    obtain ⟨i13, e14, hx⟩ := bd hx
    refine wx_ra (x := 156) (n := 130) (ln := 1) (a := 0) (b := 0) (zz := 0) (by decide +kernel) h (hS _ _ sm_156) e14 ?_
    show wp _ 260 96 [(2, .int (Int32.ofInt 0)), (0, .ref 146), (1, .int (Int32.ofInt p1))] [.int (Int32.ofInt (s 156 i13))] w _
    refine wp_rt (i := .ireturn) (r := some (.int (Int32.ofInt (s 156 i13)))) (ln := 1) (a := 0) (b := 0) (z := 0) (by decide +kernel) rfl (ret_ok (by decide +kernel)) ?_
    cases hx
    exact kr
  have hx := ite_f h12 hx
  by_cases h15 : w32 p1 = 6
  · have hx := ite_t h15 hx
    refine wx_sw (dflt := 168) (lo := 0) (hi := 11) (offs := #[61, 61, 68, 76, 81, 86, 94, 138, 144, 153, 158, 163]) (ln := 61) (a := 0) (b := 0) (zz := 0) (tgt := 97) (q := 94) (by decide +kernel) h15 (by decide) (by decide) (by decide) (by decide) ?_
    refine wp_g 2 (pc1 := 99) (lv1 := [(3, .int (Int32.ofInt 0)), (2, .int (Int32.ofInt 0)), (0, .ref 146), (1, .int (Int32.ofInt p1))]) (st1 := []) (w1 := w) rfl ?_
    refine wp_lv (lv1 := [(0, .ref 146), (2, .int (Int32.ofInt 0)), (3, .int (Int32.ofInt 0))]) (lsub_p [2, 1, 0] rfl rfl rfl) ?_
    obtain ⟨q16, e17, hx⟩ := bd hx
    refine wp_lp (σ := Int × Int) (ρ := (Int × Int)) (B := fun q => xm_count_b99 s q.1 q.2) (R := fun q w' => w = w') (C := fun r => ∀ w1, w = w1 → wp (d + 2) 260 139 [(0, .ref 146), (2, .int (Int32.ofInt r.1)), (3, .int (Int32.ofInt r.2))] [] w1 P) (lv := fun q => [(0, .ref 146), (2, .int (Int32.ofInt q.1)), (3, .int (Int32.ofInt q.2))]) (hd := 99) (fun q w' o hR hb kn kc => by subst hR; exact xm_count_b99_ok hS h hb kn kc) _ _ _ e17 rfl ?_
    intro w18 h19
    subst h19
    show wp _ 260 139 [(0, .ref 146), (2, .int (Int32.ofInt q16.1)), (3, .int (Int32.ofInt q16.2))] [] w _
    refine wp_g 1 (pc1 := 140) (lv1 := [(0, .ref 146), (2, .int (Int32.ofInt q16.1)), (3, .int (Int32.ofInt q16.2))]) (st1 := [.int (Int32.ofInt q16.1)]) (w1 := w) rfl ?_
    refine wp_rt (i := .ireturn) (r := some (.int (Int32.ofInt q16.1))) (ln := 1) (a := 0) (b := 0) (z := 0) (by decide +kernel) rfl (ret_ok (by decide +kernel)) ?_
    cases hx
    exact kr
  have hx := ite_f h15 hx
  by_cases h20 : w32 p1 = 7
  · have hx := ite_t h20 hx
    refine wx_sw (dflt := 168) (lo := 0) (hi := 11) (offs := #[61, 61, 68, 76, 81, 86, 94, 138, 144, 153, 158, 163]) (ln := 61) (a := 0) (b := 0) (zz := 0) (tgt := 141) (q := 138) (by decide +kernel) h20 (by decide) (by decide) (by decide) (by decide) ?_
    refine wp_g 2 (pc1 := 143) (lv1 := [(2, .int (Int32.ofInt 0)), (0, .ref 146), (1, .int (Int32.ofInt p1))]) (st1 := [.int (Int32.ofInt (-1)), .ref 146]) (w1 := w) rfl ?_
    obtain ⟨o21, e22, hx⟩ := bd hx
    refine wp_cl [.ref 146, .int (Int32.ofInt (-1))] [] (i := .invokevirtual 325) (ln := 3) (a := 198) (b := 0) (z := 0) (by decide +kernel) rfl rfl (by decide) rfl (show (2 : Nat) = pm_na 198 by decide +kernel) (Nat.le_of_ble_eq_true rfl) (show (2 : Nat) ≤ pm_n 198 by decide +kernel) (rcv_x 12 h (hS _ _ sm_146) (by decide +kernel)) (xm_cellsOf_ok (d := d) hS h e22 ?_)
    show wp _ 260 146 [(2, .int (Int32.ofInt 0)), (0, .ref 146), (1, .int (Int32.ofInt p1))] [.int (Int32.ofInt o21)] w _
    refine wp_rt (i := .ireturn) (r := some (.int (Int32.ofInt o21))) (ln := 1) (a := 0) (b := 0) (z := 0) (by decide +kernel) rfl (ret_ok (by decide +kernel)) ?_
    cases hx
    exact kr
  have hx := ite_f h20 hx
  by_cases h25 : w32 p1 = 8
  · have hx := ite_t h25 hx
    refine wx_sw (dflt := 168) (lo := 0) (hi := 11) (offs := #[61, 61, 68, 76, 81, 86, 94, 138, 144, 153, 158, 163]) (ln := 61) (a := 0) (b := 0) (zz := 0) (tgt := 147) (q := 144) (by decide +kernel) h25 (by decide) (by decide) (by decide) (by decide) ?_
    refine wp_g 1 (pc1 := 148) (lv1 := [(2, .int (Int32.ofInt 0)), (0, .ref 146), (1, .int (Int32.ofInt p1))]) (st1 := [.ref 146]) (w1 := w) rfl ?_
    refine wx_gr (o := 10) (kf := 39) (ln := 3) (ci := 12) (b := 20) (zz := 0) (x := 146) (by decide +kernel) h (hS _ _ sm_146) rfl ?_
    show wp _ 260 151 [(2, .int (Int32.ofInt 0)), (0, .ref 146), (1, .int (Int32.ofInt p1))] [.ref 156] w _
    refine wp_g 1 (pc1 := 154) (lv1 := [(2, .int (Int32.ofInt 0)), (0, .ref 146), (1, .int (Int32.ofInt p1))]) (st1 := [.int (Int32.ofInt 129), .ref 156]) (w1 := w) rfl ?_
    obtain ⟨i26, e27, hx⟩ := bd hx
    refine wx_ra (x := 156) (n := 130) (ln := 1) (a := 0) (b := 0) (zz := 0) (by decide +kernel) h (hS _ _ sm_156) e27 ?_
    show wp _ 260 155 [(2, .int (Int32.ofInt 0)), (0, .ref 146), (1, .int (Int32.ofInt p1))] [.int (Int32.ofInt (s 156 i26))] w _
    refine wp_rt (i := .ireturn) (r := some (.int (Int32.ofInt (s 156 i26)))) (ln := 1) (a := 0) (b := 0) (z := 0) (by decide +kernel) rfl (ret_ok (by decide +kernel)) ?_
    cases hx
    exact kr
  have hx := ite_f h25 hx
  by_cases h28 : w32 p1 = 9
  · have hx := ite_t h28 hx
    refine wx_sw (dflt := 168) (lo := 0) (hi := 11) (offs := #[61, 61, 68, 76, 81, 86, 94, 138, 144, 153, 158, 163]) (ln := 61) (a := 0) (b := 0) (zz := 0) (tgt := 156) (q := 153) (by decide +kernel) h28 (by decide) (by decide) (by decide) (by decide) ?_
    refine wp_g 1 (pc1 := 157) (lv1 := [(2, .int (Int32.ofInt 0)), (0, .ref 146), (1, .int (Int32.ofInt p1))]) (st1 := [.ref 146]) (w1 := w) rfl ?_
    refine wx_gi (kf := 283) (ln := 3) (ci := 12) (b := 26) (zz := 0) (x := 146) (by decide +kernel) h (hS _ _ sm_146) rfl ?_
    show wp _ 260 160 [(2, .int (Int32.ofInt 0)), (0, .ref 146), (1, .int (Int32.ofInt p1))] [.int (Int32.ofInt (s 146 26))] w _
    refine wp_rt (i := .ireturn) (r := some (.int (Int32.ofInt (s 146 26)))) (ln := 1) (a := 0) (b := 0) (z := 0) (by decide +kernel) rfl (ret_ok (by decide +kernel)) ?_
    cases hx
    exact kr
  have hx := ite_f h28 hx
  by_cases h29 : w32 p1 = 10
  · have hx := ite_t h29 hx
    refine wx_sw (dflt := 168) (lo := 0) (hi := 11) (offs := #[61, 61, 68, 76, 81, 86, 94, 138, 144, 153, 158, 163]) (ln := 61) (a := 0) (b := 0) (zz := 0) (tgt := 161) (q := 158) (by decide +kernel) h29 (by decide) (by decide) (by decide) (by decide) ?_
    refine wp_g 1 (pc1 := 162) (lv1 := [(2, .int (Int32.ofInt 0)), (0, .ref 146), (1, .int (Int32.ofInt p1))]) (st1 := [.ref 146]) (w1 := w) rfl ?_
    refine wx_gi (kf := 470) (ln := 3) (ci := 12) (b := 22) (zz := 0) (x := 146) (by decide +kernel) h (hS _ _ sm_146) rfl ?_
    show wp _ 260 165 [(2, .int (Int32.ofInt 0)), (0, .ref 146), (1, .int (Int32.ofInt p1))] [.int (Int32.ofInt (s 146 22))] w _
    refine wp_rt (i := .ireturn) (r := some (.int (Int32.ofInt (s 146 22)))) (ln := 1) (a := 0) (b := 0) (z := 0) (by decide +kernel) rfl (ret_ok (by decide +kernel)) ?_
    cases hx
    exact kr
  have hx := ite_f h29 hx
  by_cases h30 : w32 p1 = 11
  · have hx := ite_t h30 hx
    refine wx_sw (dflt := 168) (lo := 0) (hi := 11) (offs := #[61, 61, 68, 76, 81, 86, 94, 138, 144, 153, 158, 163]) (ln := 61) (a := 0) (b := 0) (zz := 0) (tgt := 166) (q := 163) (by decide +kernel) h30 (by decide) (by decide) (by decide) (by decide) ?_
    refine wp_g 1 (pc1 := 167) (lv1 := [(2, .int (Int32.ofInt 0)), (0, .ref 146), (1, .int (Int32.ofInt p1))]) (st1 := [.ref 146]) (w1 := w) rfl ?_
    refine wx_gi (kf := 101) (ln := 3) (ci := 12) (b := 1) (zz := 0) (x := 146) (by decide +kernel) h (hS _ _ sm_146) rfl ?_
    show wp _ 260 170 [(2, .int (Int32.ofInt 0)), (0, .ref 146), (1, .int (Int32.ofInt p1))] [.int (Int32.ofInt (s 146 1))] w _
    refine wp_rt (i := .ireturn) (r := some (.int (Int32.ofInt (s 146 1)))) (ln := 1) (a := 0) (b := 0) (z := 0) (by decide +kernel) rfl (ret_ok (by decide +kernel)) ?_
    cases hx
    exact kr
  have hx := ite_f h30 hx
  refine wx_sd (dflt := 168) (lo := 0) (hi := 11) (offs := #[61, 61, 68, 76, 81, 86, 94, 138, 144, 153, 158, 163]) (ln := 61) (a := 0) (b := 0) (zz := 0) (tgt := 171) (by decide +kernel) (by omega) (by decide) ?_
  refine wp_g 1 (pc1 := 172) (lv1 := [(2, .int (Int32.ofInt 0)), (0, .ref 146), (1, .int (Int32.ofInt p1))]) (st1 := [.int (Int32.ofInt (-1))]) (w1 := w) rfl ?_
  refine wp_rt (i := .ireturn) (r := some (.int (Int32.ofInt (-1)))) (ln := 1) (a := 0) (b := 0) (z := 0) (by decide +kernel) rfl (ret_ok (by decide +kernel)) ?_
  cases hx
  exact kr
noncomputable def xm_image_b43 (s : Hp) (x1 : Int) (x2 : Int) : Option ((Int × Hp) ⊕ (Int × Hp)) :=
  if w32 x2 < w32 130 then (ix 130 x2).bind fun i2 => (ix 520 ((130 * x1) + x2)).bind fun i4 => (some (uh s 171 i4 (s 156 i2))).bind fun s6 => some (.inl (x2 + 1, s6)) else some (.inr (x2, s))
set_option maxRecDepth 100000 in
theorem xm_image_b43_ok {d : Nat} {P : Option Value → pm_H → Prop} {w : pm_H} {sh : Shp} {w0 : pm_H} {s : Hp} (hS : StM sh) {x1 : Int} {x2 : Int} (h : Rw sh w0 s w) {o : ((Int × Hp) ⊕ (Int × Hp))} (hx : xm_image_b43 s x1 x2 = some o) (kn : ∀ (q : Int × Hp) w1, o = .inl q → Rw sh w0 q.2 w1 → wp (d + 1) 261 43 [(0, .ref 146), (1, .int (Int32.ofInt x1)), (2, .int (Int32.ofInt q.1))] [] w1 P) (kc : ∀ (r : (Int × Hp)), o = .inr r → (∀ w1, Rw sh w0 r.2 w1 → wp (d + 1) 261 74 [(0, .ref 146), (1, .int (Int32.ofInt x1)), (2, .int (Int32.ofInt r.1))] [] w1 P)) : wp (d + 1) 261 43 [(0, .ref 146), (1, .int (Int32.ofInt x1)), (2, .int (Int32.ofInt x2))] [] w P := by
  unfold xm_image_b43 at hx
  refine wp_g 2 (pc1 := 47) (lv1 := [(0, .ref 146), (1, .int (Int32.ofInt x1)), (2, .int (Int32.ofInt x2))]) (st1 := [.int (Int32.ofInt 130), .int (Int32.ofInt x2)]) (w1 := w) rfl ?_
  refine wx_ge (oo := 27) (ln := 3) (a := 74) (b := 0) (zz := 0) (by decide +kernel) (fun h1 => ?_) (fun h1 => ?_)
  · have hx := ite_f h1 hx
    cases hx
    exact kc _ rfl _ h
  · have hx := ite_t h1 hx
    refine wp_g 1 (pc1 := 51) (lv1 := [(0, .ref 146), (1, .int (Int32.ofInt x1)), (2, .int (Int32.ofInt x2))]) (st1 := [.ref 146]) (w1 := w) rfl ?_
    refine wx_gr (o := 25) (kf := 89) (ln := 3) (ci := 12) (b := 42) (zz := 0) (x := 146) (by decide +kernel) h (hS _ _ sm_146) rfl ?_
    show wp _ 261 54 [(0, .ref 146), (1, .int (Int32.ofInt x1)), (2, .int (Int32.ofInt x2))] [.ref 171] w _
    refine wp_g 6 (pc1 := 62) (lv1 := [(0, .ref 146), (1, .int (Int32.ofInt x1)), (2, .int (Int32.ofInt x2))]) (st1 := [.ref 146, .int (Int32.ofInt ((130 * x1) + x2)), .ref 171]) (w1 := w) (by simp only [Int32.ofInt_add, Int32.ofInt_sub, Int32.ofInt_mul, Int32.ofInt_neg, p_and, p_or, p_xor, p_shl, p_shr, p_usr, p_w8, p_c16, p_lI, q_and, q_or, q_shl, q_shr, q_w32, Int64.ofInt_add, Int64.ofInt_sub, Int64.ofInt_mul, p_mx, p_mn, q_mx, q_mn]; rfl) ?_
    refine wx_gr (o := 10) (kf := 39) (ln := 3) (ci := 12) (b := 20) (zz := 0) (x := 146) (by decide +kernel) h (hS _ _ sm_146) rfl ?_
    show wp _ 261 65 [(0, .ref 146), (1, .int (Int32.ofInt x1)), (2, .int (Int32.ofInt x2))] [.ref 156, .int (Int32.ofInt ((130 * x1) + x2)), .ref 171] w _
    refine wp_g 1 (pc1 := 66) (lv1 := [(0, .ref 146), (1, .int (Int32.ofInt x1)), (2, .int (Int32.ofInt x2))]) (st1 := [.int (Int32.ofInt x2), .ref 156, .int (Int32.ofInt ((130 * x1) + x2)), .ref 171]) (w1 := w) rfl ?_
    obtain ⟨i2, e3, hx⟩ := bd hx
    refine wx_ra (x := 156) (n := 130) (ln := 1) (a := 0) (b := 0) (zz := 0) (by decide +kernel) h (hS _ _ sm_156) e3 ?_
    show wp _ 261 67 [(0, .ref 146), (1, .int (Int32.ofInt x1)), (2, .int (Int32.ofInt x2))] [.int (Int32.ofInt (s 156 i2)), .int (Int32.ofInt ((130 * x1) + x2)), .ref 171] w _
    obtain ⟨i4, e5, hx⟩ := bd hx
    obtain ⟨s6, e7, hx⟩ := bd hx
    refine wx_wa (x := 171) (n := 520) (ln := 1) (a := 0) (b := 0) (zz := 0) (by decide +kernel) h (hS _ _ sm_171) e5 e7 (fun w8 h9 => ?_)
    refine wp_g 2 (pc1 := 43) (lv1 := [(2, .int (Int32.ofInt (x2 + 1))), (0, .ref 146), (1, .int (Int32.ofInt x1))]) (st1 := []) (w1 := w8) (by simp only [Int32.ofInt_add, Int32.ofInt_sub, Int32.ofInt_mul, Int32.ofInt_neg, p_and, p_or, p_xor, p_shl, p_shr, p_usr, p_w8, p_c16, p_lI, q_and, q_or, q_shl, q_shr, q_w32, Int64.ofInt_add, Int64.ofInt_sub, Int64.ofInt_mul, p_mx, p_mn, q_mx, q_mn]; rfl) ?_
    refine wp_lv (lv1 := [(0, .ref 146), (1, .int (Int32.ofInt x1)), (2, .int (Int32.ofInt (x2 + 1)))]) (lsub_p [1, 2, 0] rfl rfl rfl) ?_
    cases hx
    exact kn _ _ rfl h9
/-- FoldDeedsModel.image (I)I -/
noncomputable def xm_image (s : Hp) (p1 : Int) : Option (Int × Hp) :=
  (xm_in (w32 p1) 0 3).bind fun o1 => if w32 o1 = 0 then some ((-1), s) else (ix 4 p1).bind fun i6 => (some (uh s 174 i6 (nz 1))).bind fun s8 => (some (uh s8 172 i6 (s8 146 21))).bind fun s12 => (some (uh s12 173 i6 (s12 146 22))).bind fun s16 => (lp (fun (q : Int × Hp) => xm_image_b43 q.2 p1 q.1) (0, s16)).bind fun q20 => (ix 130 11).bind fun i24 => some (q20.2 156 i24, q20.2)
set_option maxRecDepth 100000 in
theorem xm_image_ok {d : Nat} {P : Option Value → pm_H → Prop} {w : pm_H} {sh : Shp} {w0 : pm_H} {s : Hp} (hS : StM sh) {p1 : Int} (h : Rw sh w0 s w) {o : Int × Hp} (hx : xm_image s p1 = some o) (kr : ∀ w1, Rw sh w0 o.2 w1 → P (some (.int (Int32.ofInt o.1))) w1) : wp (d + 1) 261 0 (lv_args 0 [.ref 146, .int (Int32.ofInt p1)]) [] w P := by
  show wp _ 261 0 [(0, .ref 146), (1, .int (Int32.ofInt p1))] [] w _
  unfold xm_image at hx
  refine wp_g 4 (pc1 := 6) (lv1 := [(0, .ref 146), (1, .int (Int32.ofInt p1))]) (st1 := [.long (Int64.ofInt 3), .long (Int64.ofInt 0), .long (Int64.ofInt (w32 p1))]) (w1 := w) (by simp only [Int32.ofInt_add, Int32.ofInt_sub, Int32.ofInt_mul, Int32.ofInt_neg, p_and, p_or, p_xor, p_shl, p_shr, p_usr, p_w8, p_c16, p_lI, q_and, q_or, q_shl, q_shr, q_w32, Int64.ofInt_add, Int64.ofInt_sub, Int64.ofInt_mul, p_mx, p_mn, q_mx, q_mn]; rfl) ?_
  obtain ⟨o1, e2, hx⟩ := bd hx
  refine wp_cl [.long (Int64.ofInt (w32 p1)), .long (Int64.ofInt 0), .long (Int64.ofInt 3)] [] (i := .invokestatic 139) (ln := 3) (a := 147) (b := 1) (z := 0) (by decide +kernel) rfl rfl (by decide) rfl (show (3 : Nat) = pm_na 147 by decide +kernel) (Nat.le_of_ble_eq_true rfl) (show (6 : Nat) ≤ pm_n 147 by decide +kernel) (by rw [show pm_k 147 = 1 by decide +kernel]; rfl) (xm_in_ok (d := d) e2 ?_)
  show wp _ 261 9 [(0, .ref 146), (1, .int (Int32.ofInt p1))] [.int (Int32.ofInt o1)] w _
  refine wz_ne (oo := 5) (ln := 3) (a := 14) (b := 0) (zz := 0) (by decide +kernel) (fun h5 => ?_) (fun h5 => ?_)
  · have hx := ite_f h5 hx
    refine wp_g 1 (pc1 := 15) (lv1 := [(0, .ref 146), (1, .int (Int32.ofInt p1))]) (st1 := [.ref 146]) (w1 := w) rfl ?_
    refine wx_gr (o := 28) (kf := 98) (ln := 3) (ci := 12) (b := 45) (zz := 0) (x := 146) (by decide +kernel) h (hS _ _ sm_146) rfl ?_
    show wp _ 261 18 [(0, .ref 146), (1, .int (Int32.ofInt p1))] [.ref 174] w _
    refine wp_g 2 (pc1 := 20) (lv1 := [(0, .ref 146), (1, .int (Int32.ofInt p1))]) (st1 := [.int (Int32.ofInt 1), .int (Int32.ofInt p1), .ref 174]) (w1 := w) rfl ?_
    obtain ⟨i6, e7, hx⟩ := bd hx
    obtain ⟨s8, e9, hx⟩ := bd hx
    refine wx_wz (x := 174) (n := 4) (ln := 1) (a := 0) (b := 0) (zz := 0) (by decide +kernel) h (hS _ _ sm_174) e7 e9 (fun w10 h11 => ?_)
    refine wp_g 1 (pc1 := 22) (lv1 := [(0, .ref 146), (1, .int (Int32.ofInt p1))]) (st1 := [.ref 146]) (w1 := w10) rfl ?_
    refine wx_gr (o := 26) (kf := 92) (ln := 3) (ci := 12) (b := 43) (zz := 0) (x := 146) (by decide +kernel) h11 (hS _ _ sm_146) rfl ?_
    show wp _ 261 25 [(0, .ref 146), (1, .int (Int32.ofInt p1))] [.ref 172] w10 _
    refine wp_g 2 (pc1 := 27) (lv1 := [(0, .ref 146), (1, .int (Int32.ofInt p1))]) (st1 := [.ref 146, .int (Int32.ofInt p1), .ref 172]) (w1 := w10) rfl ?_
    refine wx_gi (kf := 42) (ln := 3) (ci := 12) (b := 21) (zz := 0) (x := 146) (by decide +kernel) h11 (hS _ _ sm_146) rfl ?_
    show wp _ 261 30 [(0, .ref 146), (1, .int (Int32.ofInt p1))] [.int (Int32.ofInt (s8 146 21)), .int (Int32.ofInt p1), .ref 172] w10 _
    obtain ⟨s12, e13, hx⟩ := bd hx
    refine wx_wa (x := 172) (n := 4) (ln := 1) (a := 0) (b := 0) (zz := 0) (by decide +kernel) h11 (hS _ _ sm_172) e7 e13 (fun w14 h15 => ?_)
    refine wp_g 1 (pc1 := 32) (lv1 := [(0, .ref 146), (1, .int (Int32.ofInt p1))]) (st1 := [.ref 146]) (w1 := w14) rfl ?_
    refine wx_gr (o := 27) (kf := 95) (ln := 3) (ci := 12) (b := 44) (zz := 0) (x := 146) (by decide +kernel) h15 (hS _ _ sm_146) rfl ?_
    show wp _ 261 35 [(0, .ref 146), (1, .int (Int32.ofInt p1))] [.ref 173] w14 _
    refine wp_g 2 (pc1 := 37) (lv1 := [(0, .ref 146), (1, .int (Int32.ofInt p1))]) (st1 := [.ref 146, .int (Int32.ofInt p1), .ref 173]) (w1 := w14) rfl ?_
    refine wx_gi (kf := 470) (ln := 3) (ci := 12) (b := 22) (zz := 0) (x := 146) (by decide +kernel) h15 (hS _ _ sm_146) rfl ?_
    show wp _ 261 40 [(0, .ref 146), (1, .int (Int32.ofInt p1))] [.int (Int32.ofInt (s12 146 22)), .int (Int32.ofInt p1), .ref 173] w14 _
    obtain ⟨s16, e17, hx⟩ := bd hx
    refine wx_wa (x := 173) (n := 4) (ln := 1) (a := 0) (b := 0) (zz := 0) (by decide +kernel) h15 (hS _ _ sm_173) e7 e17 (fun w18 h19 => ?_)
    refine wp_g 2 (pc1 := 43) (lv1 := [(2, .int (Int32.ofInt 0)), (0, .ref 146), (1, .int (Int32.ofInt p1))]) (st1 := []) (w1 := w18) rfl ?_
    refine wp_lv (lv1 := [(0, .ref 146), (1, .int (Int32.ofInt p1)), (2, .int (Int32.ofInt 0))]) (lsub_p [1, 2, 0] rfl rfl rfl) ?_
    obtain ⟨q20, e21, hx⟩ := bd hx
    refine wp_lp (σ := Int × Hp) (ρ := (Int × Hp)) (B := fun q => xm_image_b43 q.2 p1 q.1) (R := fun q w' => Rw sh w0 q.2 w') (C := fun r => ∀ w1, Rw sh w0 r.2 w1 → wp (d + 1) 261 74 [(0, .ref 146), (1, .int (Int32.ofInt p1)), (2, .int (Int32.ofInt r.1))] [] w1 P) (lv := fun q => [(0, .ref 146), (1, .int (Int32.ofInt p1)), (2, .int (Int32.ofInt q.1))]) (hd := 43) (fun q w' o hR hb kn kc => xm_image_b43_ok hS hR hb kn kc) _ _ _ e21 h19 ?_
    intro w22 h23
    show wp _ 261 74 [(0, .ref 146), (1, .int (Int32.ofInt p1)), (2, .int (Int32.ofInt q20.1))] [] w22 _
    refine wp_g 1 (pc1 := 75) (lv1 := [(0, .ref 146), (1, .int (Int32.ofInt p1)), (2, .int (Int32.ofInt q20.1))]) (st1 := [.ref 146]) (w1 := w22) rfl ?_
    refine wx_gr (o := 10) (kf := 39) (ln := 3) (ci := 12) (b := 20) (zz := 0) (x := 146) (by decide +kernel) h23 (hS _ _ sm_146) rfl ?_
    show wp _ 261 78 [(0, .ref 146), (1, .int (Int32.ofInt p1)), (2, .int (Int32.ofInt q20.1))] [.ref 156] w22 _
    refine wp_g 1 (pc1 := 80) (lv1 := [(0, .ref 146), (1, .int (Int32.ofInt p1)), (2, .int (Int32.ofInt q20.1))]) (st1 := [.int (Int32.ofInt 11), .ref 156]) (w1 := w22) rfl ?_
    obtain ⟨i24, e25, hx⟩ := bd hx
    refine wx_ra (x := 156) (n := 130) (ln := 1) (a := 0) (b := 0) (zz := 0) (by decide +kernel) h23 (hS _ _ sm_156) e25 ?_
    show wp _ 261 81 [(0, .ref 146), (1, .int (Int32.ofInt p1)), (2, .int (Int32.ofInt q20.1))] [.int (Int32.ofInt (q20.2 156 i24))] w22 _
    refine wp_rt (i := .ireturn) (r := some (.int (Int32.ofInt (q20.2 156 i24)))) (ln := 1) (a := 0) (b := 0) (z := 0) (by decide +kernel) rfl (ret_ok (by decide +kernel)) ?_
    cases hx
    exact kr _ h23
  · have hx := ite_t h5 hx
    refine wp_g 1 (pc1 := 13) (lv1 := [(0, .ref 146), (1, .int (Int32.ofInt p1))]) (st1 := [.int (Int32.ofInt (-1))]) (w1 := w) rfl ?_
    refine wp_rt (i := .ireturn) (r := some (.int (Int32.ofInt (-1)))) (ln := 1) (a := 0) (b := 0) (z := 0) (by decide +kernel) rfl (ret_ok (by decide +kernel)) ?_
    cases hx
    exact kr _ h
noncomputable def xm_back_b50 (s : Hp) (x1 : Int) (x2 : Int) : Option ((Int × Hp) ⊕ (Int × Hp)) :=
  if w32 x2 < w32 130 then (ix 520 ((130 * x1) + x2)).bind fun i2 => (ix 130 x2).bind fun i4 => (some (uh s 156 i4 (s 171 i2))).bind fun s6 => some (.inl (x2 + 1, s6)) else some (.inr (x2, s))
set_option maxRecDepth 100000 in
theorem xm_back_b50_ok {d : Nat} {P : Option Value → pm_H → Prop} {w : pm_H} {sh : Shp} {w0 : pm_H} {s : Hp} (hS : StM sh) {x1 : Int} {x2 : Int} (h : Rw sh w0 s w) {o : ((Int × Hp) ⊕ (Int × Hp))} (hx : xm_back_b50 s x1 x2 = some o) (kn : ∀ (q : Int × Hp) w1, o = .inl q → Rw sh w0 q.2 w1 → wp (d + 1) 262 50 [(0, .ref 146), (1, .int (Int32.ofInt x1)), (2, .int (Int32.ofInt q.1))] [] w1 P) (kc : ∀ (r : (Int × Hp)), o = .inr r → (∀ w1, Rw sh w0 r.2 w1 → wp (d + 1) 262 81 [(0, .ref 146), (1, .int (Int32.ofInt x1)), (2, .int (Int32.ofInt r.1))] [] w1 P)) : wp (d + 1) 262 50 [(0, .ref 146), (1, .int (Int32.ofInt x1)), (2, .int (Int32.ofInt x2))] [] w P := by
  unfold xm_back_b50 at hx
  refine wp_g 2 (pc1 := 54) (lv1 := [(0, .ref 146), (1, .int (Int32.ofInt x1)), (2, .int (Int32.ofInt x2))]) (st1 := [.int (Int32.ofInt 130), .int (Int32.ofInt x2)]) (w1 := w) rfl ?_
  refine wx_ge (oo := 27) (ln := 3) (a := 81) (b := 0) (zz := 0) (by decide +kernel) (fun h1 => ?_) (fun h1 => ?_)
  · have hx := ite_f h1 hx
    cases hx
    exact kc _ rfl _ h
  · have hx := ite_t h1 hx
    refine wp_g 1 (pc1 := 58) (lv1 := [(0, .ref 146), (1, .int (Int32.ofInt x1)), (2, .int (Int32.ofInt x2))]) (st1 := [.ref 146]) (w1 := w) rfl ?_
    refine wx_gr (o := 10) (kf := 39) (ln := 3) (ci := 12) (b := 20) (zz := 0) (x := 146) (by decide +kernel) h (hS _ _ sm_146) rfl ?_
    show wp _ 262 61 [(0, .ref 146), (1, .int (Int32.ofInt x1)), (2, .int (Int32.ofInt x2))] [.ref 156] w _
    refine wp_g 2 (pc1 := 63) (lv1 := [(0, .ref 146), (1, .int (Int32.ofInt x1)), (2, .int (Int32.ofInt x2))]) (st1 := [.ref 146, .int (Int32.ofInt x2), .ref 156]) (w1 := w) rfl ?_
    refine wx_gr (o := 25) (kf := 89) (ln := 3) (ci := 12) (b := 42) (zz := 0) (x := 146) (by decide +kernel) h (hS _ _ sm_146) rfl ?_
    show wp _ 262 66 [(0, .ref 146), (1, .int (Int32.ofInt x1)), (2, .int (Int32.ofInt x2))] [.ref 171, .int (Int32.ofInt x2), .ref 156] w _
    refine wp_g 5 (pc1 := 73) (lv1 := [(0, .ref 146), (1, .int (Int32.ofInt x1)), (2, .int (Int32.ofInt x2))]) (st1 := [.int (Int32.ofInt ((130 * x1) + x2)), .ref 171, .int (Int32.ofInt x2), .ref 156]) (w1 := w) (by simp only [Int32.ofInt_add, Int32.ofInt_sub, Int32.ofInt_mul, Int32.ofInt_neg, p_and, p_or, p_xor, p_shl, p_shr, p_usr, p_w8, p_c16, p_lI, q_and, q_or, q_shl, q_shr, q_w32, Int64.ofInt_add, Int64.ofInt_sub, Int64.ofInt_mul, p_mx, p_mn, q_mx, q_mn]; rfl) ?_
    obtain ⟨i2, e3, hx⟩ := bd hx
    refine wx_ra (x := 171) (n := 520) (ln := 1) (a := 0) (b := 0) (zz := 0) (by decide +kernel) h (hS _ _ sm_171) e3 ?_
    show wp _ 262 74 [(0, .ref 146), (1, .int (Int32.ofInt x1)), (2, .int (Int32.ofInt x2))] [.int (Int32.ofInt (s 171 i2)), .int (Int32.ofInt x2), .ref 156] w _
    obtain ⟨i4, e5, hx⟩ := bd hx
    obtain ⟨s6, e7, hx⟩ := bd hx
    refine wx_wa (x := 156) (n := 130) (ln := 1) (a := 0) (b := 0) (zz := 0) (by decide +kernel) h (hS _ _ sm_156) e5 e7 (fun w8 h9 => ?_)
    refine wp_g 2 (pc1 := 50) (lv1 := [(2, .int (Int32.ofInt (x2 + 1))), (0, .ref 146), (1, .int (Int32.ofInt x1))]) (st1 := []) (w1 := w8) (by simp only [Int32.ofInt_add, Int32.ofInt_sub, Int32.ofInt_mul, Int32.ofInt_neg, p_and, p_or, p_xor, p_shl, p_shr, p_usr, p_w8, p_c16, p_lI, q_and, q_or, q_shl, q_shr, q_w32, Int64.ofInt_add, Int64.ofInt_sub, Int64.ofInt_mul, p_mx, p_mn, q_mx, q_mn]; rfl) ?_
    refine wp_lv (lv1 := [(0, .ref 146), (1, .int (Int32.ofInt x1)), (2, .int (Int32.ofInt (x2 + 1)))]) (lsub_p [1, 2, 0] rfl rfl rfl) ?_
    cases hx
    exact kn _ _ rfl h9
/-- FoldDeedsModel.back (I)I -/
noncomputable def xm_back (s : Hp) (p1 : Int) : Option (Int × Hp) :=
  (xm_in (w32 p1) 0 3).bind fun o1 => if w32 o1 = 0 then some ((-1), s) else (ix 4 p1).bind fun i6 => if w32 (s 174 i6) = 0 then some ((-1), s) else (some (uh s 146 21 (s 172 i6))).bind fun s9 => (some (uh s9 146 22 (s9 173 i6))).bind fun s13 => (some (uh s13 146 26 0)).bind fun s17 => (lp (fun (q : Int × Hp) => xm_back_b50 q.2 p1 q.1) (0, s17)).bind fun q21 => (ix 130 11).bind fun i25 => some (q21.2 156 i25, q21.2)
set_option maxRecDepth 100000 in
theorem xm_back_ok {d : Nat} {P : Option Value → pm_H → Prop} {w : pm_H} {sh : Shp} {w0 : pm_H} {s : Hp} (hS : StM sh) {p1 : Int} (h : Rw sh w0 s w) {o : Int × Hp} (hx : xm_back s p1 = some o) (kr : ∀ w1, Rw sh w0 o.2 w1 → P (some (.int (Int32.ofInt o.1))) w1) : wp (d + 1) 262 0 (lv_args 0 [.ref 146, .int (Int32.ofInt p1)]) [] w P := by
  show wp _ 262 0 [(0, .ref 146), (1, .int (Int32.ofInt p1))] [] w _
  unfold xm_back at hx
  refine wp_g 4 (pc1 := 6) (lv1 := [(0, .ref 146), (1, .int (Int32.ofInt p1))]) (st1 := [.long (Int64.ofInt 3), .long (Int64.ofInt 0), .long (Int64.ofInt (w32 p1))]) (w1 := w) (by simp only [Int32.ofInt_add, Int32.ofInt_sub, Int32.ofInt_mul, Int32.ofInt_neg, p_and, p_or, p_xor, p_shl, p_shr, p_usr, p_w8, p_c16, p_lI, q_and, q_or, q_shl, q_shr, q_w32, Int64.ofInt_add, Int64.ofInt_sub, Int64.ofInt_mul, p_mx, p_mn, q_mx, q_mn]; rfl) ?_
  obtain ⟨o1, e2, hx⟩ := bd hx
  refine wp_cl [.long (Int64.ofInt (w32 p1)), .long (Int64.ofInt 0), .long (Int64.ofInt 3)] [] (i := .invokestatic 139) (ln := 3) (a := 147) (b := 1) (z := 0) (by decide +kernel) rfl rfl (by decide) rfl (show (3 : Nat) = pm_na 147 by decide +kernel) (Nat.le_of_ble_eq_true rfl) (show (6 : Nat) ≤ pm_n 147 by decide +kernel) (by rw [show pm_k 147 = 1 by decide +kernel]; rfl) (xm_in_ok (d := d) e2 ?_)
  show wp _ 262 9 [(0, .ref 146), (1, .int (Int32.ofInt p1))] [.int (Int32.ofInt o1)] w _
  refine wz_eq (oo := 12) (ln := 3) (a := 21) (b := 0) (zz := 0) (by decide +kernel) (fun h5 => ?_) (fun h5 => ?_)
  · have hx := ite_t h5 hx
    refine wp_g 1 (pc1 := 22) (lv1 := [(0, .ref 146), (1, .int (Int32.ofInt p1))]) (st1 := [.int (Int32.ofInt (-1))]) (w1 := w) rfl ?_
    refine wp_rt (i := .ireturn) (r := some (.int (Int32.ofInt (-1)))) (ln := 1) (a := 0) (b := 0) (z := 0) (by decide +kernel) rfl (ret_ok (by decide +kernel)) ?_
    cases hx
    exact kr _ h
  · have hx := ite_f h5 hx
    refine wp_g 1 (pc1 := 13) (lv1 := [(0, .ref 146), (1, .int (Int32.ofInt p1))]) (st1 := [.ref 146]) (w1 := w) rfl ?_
    refine wx_gr (o := 28) (kf := 98) (ln := 3) (ci := 12) (b := 45) (zz := 0) (x := 146) (by decide +kernel) h (hS _ _ sm_146) rfl ?_
    show wp _ 262 16 [(0, .ref 146), (1, .int (Int32.ofInt p1))] [.ref 174] w _
    refine wp_g 1 (pc1 := 17) (lv1 := [(0, .ref 146), (1, .int (Int32.ofInt p1))]) (st1 := [.int (Int32.ofInt p1), .ref 174]) (w1 := w) rfl ?_
    obtain ⟨i6, e7, hx⟩ := bd hx
    refine wx_rz (x := 174) (n := 4) (ln := 1) (a := 0) (b := 0) (zz := 0) (by decide +kernel) h (hS _ _ sm_174) e7 ?_
    show wp _ 262 18 [(0, .ref 146), (1, .int (Int32.ofInt p1))] [.int (Int32.ofInt (s 174 i6))] w _
    refine wz_ne (oo := 5) (ln := 3) (a := 23) (b := 0) (zz := 0) (by decide +kernel) (fun h8 => ?_) (fun h8 => ?_)
    · have hx := ite_f h8 hx
      refine wp_g 2 (pc1 := 25) (lv1 := [(0, .ref 146), (1, .int (Int32.ofInt p1))]) (st1 := [.ref 146, .ref 146]) (w1 := w) rfl ?_
      refine wx_gr (o := 26) (kf := 92) (ln := 3) (ci := 12) (b := 43) (zz := 0) (x := 146) (by decide +kernel) h (hS _ _ sm_146) rfl ?_
      show wp _ 262 28 [(0, .ref 146), (1, .int (Int32.ofInt p1))] [.ref 172, .ref 146] w _
      refine wp_g 1 (pc1 := 29) (lv1 := [(0, .ref 146), (1, .int (Int32.ofInt p1))]) (st1 := [.int (Int32.ofInt p1), .ref 172, .ref 146]) (w1 := w) rfl ?_
      refine wx_ra (x := 172) (n := 4) (ln := 1) (a := 0) (b := 0) (zz := 0) (by decide +kernel) h (hS _ _ sm_172) e7 ?_
      show wp _ 262 30 [(0, .ref 146), (1, .int (Int32.ofInt p1))] [.int (Int32.ofInt (s 172 i6)), .ref 146] w _
      obtain ⟨s9, e10, hx⟩ := bd hx
      refine wx_pi (kf := 42) (ln := 3) (ci := 12) (b := 21) (zz := 0) (x := 146) (by decide +kernel) h (hS _ _ sm_146) rfl (by decide +kernel) e10 (fun w11 h12 => ?_)
      refine wp_g 2 (pc1 := 35) (lv1 := [(0, .ref 146), (1, .int (Int32.ofInt p1))]) (st1 := [.ref 146, .ref 146]) (w1 := w11) rfl ?_
      refine wx_gr (o := 27) (kf := 95) (ln := 3) (ci := 12) (b := 44) (zz := 0) (x := 146) (by decide +kernel) h12 (hS _ _ sm_146) rfl ?_
      show wp _ 262 38 [(0, .ref 146), (1, .int (Int32.ofInt p1))] [.ref 173, .ref 146] w11 _
      refine wp_g 1 (pc1 := 39) (lv1 := [(0, .ref 146), (1, .int (Int32.ofInt p1))]) (st1 := [.int (Int32.ofInt p1), .ref 173, .ref 146]) (w1 := w11) rfl ?_
      refine wx_ra (x := 173) (n := 4) (ln := 1) (a := 0) (b := 0) (zz := 0) (by decide +kernel) h12 (hS _ _ sm_173) e7 ?_
      show wp _ 262 40 [(0, .ref 146), (1, .int (Int32.ofInt p1))] [.int (Int32.ofInt (s9 173 i6)), .ref 146] w11 _
      obtain ⟨s13, e14, hx⟩ := bd hx
      refine wx_pi (kf := 470) (ln := 3) (ci := 12) (b := 22) (zz := 0) (x := 146) (by decide +kernel) h12 (hS _ _ sm_146) rfl (by decide +kernel) e14 (fun w15 h16 => ?_)
      refine wp_g 2 (pc1 := 45) (lv1 := [(0, .ref 146), (1, .int (Int32.ofInt p1))]) (st1 := [.int (Int32.ofInt 0), .ref 146]) (w1 := w15) rfl ?_
      obtain ⟨s17, e18, hx⟩ := bd hx
      refine wx_pi (kf := 283) (ln := 3) (ci := 12) (b := 26) (zz := 0) (x := 146) (by decide +kernel) h16 (hS _ _ sm_146) rfl (by decide +kernel) e18 (fun w19 h20 => ?_)
      refine wp_g 2 (pc1 := 50) (lv1 := [(2, .int (Int32.ofInt 0)), (0, .ref 146), (1, .int (Int32.ofInt p1))]) (st1 := []) (w1 := w19) rfl ?_
      refine wp_lv (lv1 := [(0, .ref 146), (1, .int (Int32.ofInt p1)), (2, .int (Int32.ofInt 0))]) (lsub_p [1, 2, 0] rfl rfl rfl) ?_
      obtain ⟨q21, e22, hx⟩ := bd hx
      refine wp_lp (σ := Int × Hp) (ρ := (Int × Hp)) (B := fun q => xm_back_b50 q.2 p1 q.1) (R := fun q w' => Rw sh w0 q.2 w') (C := fun r => ∀ w1, Rw sh w0 r.2 w1 → wp (d + 1) 262 81 [(0, .ref 146), (1, .int (Int32.ofInt p1)), (2, .int (Int32.ofInt r.1))] [] w1 P) (lv := fun q => [(0, .ref 146), (1, .int (Int32.ofInt p1)), (2, .int (Int32.ofInt q.1))]) (hd := 50) (fun q w' o hR hb kn kc => xm_back_b50_ok hS hR hb kn kc) _ _ _ e22 h20 ?_
      intro w23 h24
      show wp _ 262 81 [(0, .ref 146), (1, .int (Int32.ofInt p1)), (2, .int (Int32.ofInt q21.1))] [] w23 _
      refine wp_g 1 (pc1 := 82) (lv1 := [(0, .ref 146), (1, .int (Int32.ofInt p1)), (2, .int (Int32.ofInt q21.1))]) (st1 := [.ref 146]) (w1 := w23) rfl ?_
      refine wx_gr (o := 10) (kf := 39) (ln := 3) (ci := 12) (b := 20) (zz := 0) (x := 146) (by decide +kernel) h24 (hS _ _ sm_146) rfl ?_
      show wp _ 262 85 [(0, .ref 146), (1, .int (Int32.ofInt p1)), (2, .int (Int32.ofInt q21.1))] [.ref 156] w23 _
      refine wp_g 1 (pc1 := 87) (lv1 := [(0, .ref 146), (1, .int (Int32.ofInt p1)), (2, .int (Int32.ofInt q21.1))]) (st1 := [.int (Int32.ofInt 11), .ref 156]) (w1 := w23) rfl ?_
      obtain ⟨i25, e26, hx⟩ := bd hx
      refine wx_ra (x := 156) (n := 130) (ln := 1) (a := 0) (b := 0) (zz := 0) (by decide +kernel) h24 (hS _ _ sm_156) e26 ?_
      show wp _ 262 88 [(0, .ref 146), (1, .int (Int32.ofInt p1)), (2, .int (Int32.ofInt q21.1))] [.int (Int32.ofInt (q21.2 156 i25))] w23 _
      refine wp_rt (i := .ireturn) (r := some (.int (Int32.ofInt (q21.2 156 i25)))) (ln := 1) (a := 0) (b := 0) (z := 0) (by decide +kernel) rfl (ret_ok (by decide +kernel)) ?_
      cases hx
      exact kr _ h24
    · have hx := ite_t h8 hx
      refine wp_g 1 (pc1 := 22) (lv1 := [(0, .ref 146), (1, .int (Int32.ofInt p1))]) (st1 := [.int (Int32.ofInt (-1))]) (w1 := w) rfl ?_
      refine wp_rt (i := .ireturn) (r := some (.int (Int32.ofInt (-1)))) (ln := 1) (a := 0) (b := 0) (z := 0) (by decide +kernel) rfl (ret_ok (by decide +kernel)) ?_
      cases hx
      exact kr _ h
