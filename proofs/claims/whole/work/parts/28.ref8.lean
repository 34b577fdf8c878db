/-- which kind joint j would be creased by a line behind q, way t -/
def kbj (f : Nat → Int32) (j : Nat) (q t : Int32) : Int32 := kby (f (12 + 4 * j)) (f (12 + 4 * (j + 1))) (f (12 + 4 * j + 2)) q t
/-- whether the creases from joint i on, g of them, allow it -/
def ccr (f : Nat → Int32) (q t : Int32) : Nat → Nat → Int32
  | _, 0 => 1
  | i, g + 1 => if ¬ kbj f i q t = 0 ∧ ¬ f (44 + i) = 0 ∧ ¬ f (44 + i) = kbj f i q t then 0 else ccr f q t (i + 1) g
set_option maxRecDepth 100000 in
theorem rf_canCrease_l {d : Nat} {w : pm_H} {F : List Value} (hM : w[146]? = some (0, 12, F)) (hF : MF F) {f : Nat → Int32} {m : Nat} (hs : w[156]? = some (1, 0, ar 130 f)) (hm : f 0 = nI m) (m8 : m ≤ 8) (m2 : 2 ≤ m) (q t : Int32) : ∀ (g : Nat) (i : Nat) (hi : i + g + 1 = m), wp (d + 2) 207 2 [(3, .int (nI i)), (0, .ref 146), (1, .int q), (2, .int t)] [] w (fun r w1 => r = some (.int (ccr f q t i g)) ∧ w = w1) := by
  intro g
  induction g with
  | zero =>
    intro i hi
    refine wp_g 2 (pc1 := 4) (lv1 := [(3, .int (nI i)), (0, .ref 146), (1, .int q), (2, .int t)]) (st1 := [.ref 146, .int (nI i)]) (w1 := w) rfl ?_
    refine wp_get (kf := 39) (ln := 3) (a := 12) (b := 20) (z := 0) (by decide +kernel) hM (mo_20 hF) ?_
    refine wp_g 1 (pc1 := 8) (lv1 := [(3, .int (nI i)), (0, .ref 146), (1, .int q), (2, .int t)]) (st1 := [.int 0, .ref 156, .int (nI i)]) (w1 := w) rfl ?_
    refine wp_ia (i := 0) (ln := 1) (a := 0) (b := 0) (z := 0) (by decide +kernel) hs (by omega) (by decide) ?_
    rw [hm]
    refine wp_g 2 (pc1 := 11) (lv1 := [(3, .int (nI i)), (0, .ref 146), (1, .int q), (2, .int t)]) (st1 := [.int ((nI m) - 1), .int (nI i)]) (w1 := w) rfl ?_
    refine wp_top (show (nI m) - 1 = nI (m - 1) from nx_sub (rfl : nI m = nI m) (rfl : (1 : Int32) = nI 1) (by omega)) ?_
    refine wp_icn (cnd := .ge) (o := 51) (x := i) (y := m - 1) (ln := 3) (a := 62) (b := 0) (z := 0) (by decide +kernel) (by omega) (by omega) (fun h1 => ?_) (fun h1 => ?_)
    · have h1 : i ≥ m - 1 := h1
      refine wp_g 1 (pc1 := 63) (lv1 := [(3, .int (nI i)), (0, .ref 146), (1, .int q), (2, .int t)]) (st1 := [.int 1]) (w1 := w) rfl ?_
      refine wp_rt (i := .ireturn) (r := some (.int 1)) (ln := 1) (a := 0) (b := 0) (z := 0) (by decide +kernel) rfl (ret_b (by decide +kernel) (Or.inr rfl)) ?_
      exact ⟨rfl, rfl⟩
    · have h1 : ¬ (i ≥ m - 1) := h1
      exfalso
      omega
  | succ g ih =>
    intro i hi
    refine wp_g 2 (pc1 := 4) (lv1 := [(3, .int (nI i)), (0, .ref 146), (1, .int q), (2, .int t)]) (st1 := [.ref 146, .int (nI i)]) (w1 := w) rfl ?_
    refine wp_get (kf := 39) (ln := 3) (a := 12) (b := 20) (z := 0) (by decide +kernel) hM (mo_20 hF) ?_
    refine wp_g 1 (pc1 := 8) (lv1 := [(3, .int (nI i)), (0, .ref 146), (1, .int q), (2, .int t)]) (st1 := [.int 0, .ref 156, .int (nI i)]) (w1 := w) rfl ?_
    refine wp_ia (i := 0) (ln := 1) (a := 0) (b := 0) (z := 0) (by decide +kernel) hs (by omega) (by decide) ?_
    rw [hm]
    refine wp_g 2 (pc1 := 11) (lv1 := [(3, .int (nI i)), (0, .ref 146), (1, .int q), (2, .int t)]) (st1 := [.int ((nI m) - 1), .int (nI i)]) (w1 := w) rfl ?_
    refine wp_top (show (nI m) - 1 = nI (m - 1) from nx_sub (rfl : nI m = nI m) (rfl : (1 : Int32) = nI 1) (by omega)) ?_
    refine wp_icn (cnd := .ge) (o := 51) (x := i) (y := m - 1) (ln := 3) (a := 62) (b := 0) (z := 0) (by decide +kernel) (by omega) (by omega) (fun h1 => ?_) (fun h1 => ?_)
    · have h1 : i ≥ m - 1 := h1
      exfalso
      omega
    · have h1 : ¬ (i ≥ m - 1) := h1
      refine wp_g 4 (pc1 := 18) (lv1 := [(3, .int (nI i)), (0, .ref 146), (1, .int q), (2, .int t)]) (st1 := [.int t, .int q, .int (nI i), .ref 146]) (w1 := w) rfl ?_
      refine wp_cc [.ref 146, .int (nI i), .int q, .int t] [] (i := .invokevirtual 331) (ln := 3) (a := 206) (b := 0) (z := 0) (by decide +kernel) rfl rfl (by decide) rfl (show (4 : Nat) = pm_na 206 by decide +kernel) (Nat.le_of_ble_eq_true rfl) (show (4 : Nat) ≤ pm_n 206 by decide +kernel) (rcv_ok hM (by decide +kernel)) (rf_kindBy (w := w) hM hF hs (j := i) (by omega) q t) (fun r2 w3 hq => ?_)
      obtain ⟨rfl, rfl⟩ := hq
      show wp _ 207 21 [(3, .int (nI i)), (0, .ref 146), (1, .int q), (2, .int t)] [.int (kbj f i q t)] w _
      refine wp_g 2 (pc1 := 25) (lv1 := [(4, .int (kbj f i q t)), (3, .int (nI i)), (0, .ref 146), (1, .int q), (2, .int t)]) (st1 := [.int (kbj f i q t)]) (w1 := w) rfl ?_
      refine wp_ifc (cnd := .eq) (o := 31) (ln := 3) (a := 56) (b := 0) (z := 0) (by decide +kernel) (fun h4 => ?_) (fun h4 => ?_)
      · have h4 := of_decide_eq_true h4
        refine wp_g 1 (pc1 := 59) (lv1 := [(3, .int (nI i + 1)), (4, .int (kbj f i q t)), (0, .ref 146), (1, .int q), (2, .int t)]) (st1 := []) (w1 := w) rfl ?_
        rw [show nI i + 1 = nI (i + 1) from nx_add rfl rfl]
        refine wp_g 1 (pc1 := 2) (lv1 := [(3, .int (nI (i + 1))), (4, .int (kbj f i q t)), (0, .ref 146), (1, .int q), (2, .int t)]) (st1 := []) (w1 := w) rfl ?_
        refine wp_lv (lv1 := [(3, .int (nI (i + 1))), (0, .ref 146), (1, .int q), (2, .int t)]) (lsub_p [0, 2, 3, 4] rfl rfl rfl) ?_
        refine wp_mono (ih (i + 1) (by omega)) (fun r w1 hq => ?_)
        obtain ⟨rfl, rfl⟩ := hq
        refine ⟨?_, rfl⟩
        rw [show ccr f q t i (g + 1) = if ¬ kbj f i q t = 0 ∧ ¬ f (44 + i) = 0 ∧ ¬ f (44 + i) = kbj f i q t then 0 else ccr f q t (i + 1) g from rfl, if_neg (fun hh => hh.1 h4)]
      · have h4 := of_decide_eq_false h4
        refine wp_g 1 (pc1 := 29) (lv1 := [(4, .int (kbj f i q t)), (3, .int (nI i)), (0, .ref 146), (1, .int q), (2, .int t)]) (st1 := [.ref 146]) (w1 := w) rfl ?_
        refine wp_get (kf := 39) (ln := 3) (a := 12) (b := 20) (z := 0) (by decide +kernel) hM (mo_20 hF) ?_
        refine wp_g 3 (pc1 := 36) (lv1 := [(4, .int (kbj f i q t)), (3, .int (nI i)), (0, .ref 146), (1, .int q), (2, .int t)]) (st1 := [.int (44 + (nI i)), .ref 156]) (w1 := w) rfl ?_
        refine wp_top (show 44 + (nI i) = nI (44 + i) from nx_add (rfl : (44 : Int32) = nI 44) (rfl : nI i = nI i)) ?_
        refine wp_ia (i := 44 + i) (ln := 1) (a := 0) (b := 0) (z := 0) (by decide +kernel) hs (by omega) (by decide) ?_
        refine wp_ifc (cnd := .eq) (o := 19) (ln := 3) (a := 56) (b := 0) (z := 0) (by decide +kernel) (fun h5 => ?_) (fun h5 => ?_)
        · have h5 := of_decide_eq_true h5
          refine wp_g 1 (pc1 := 59) (lv1 := [(3, .int (nI i + 1)), (4, .int (kbj f i q t)), (0, .ref 146), (1, .int q), (2, .int t)]) (st1 := []) (w1 := w) rfl ?_
          rw [show nI i + 1 = nI (i + 1) from nx_add rfl rfl]
          refine wp_g 1 (pc1 := 2) (lv1 := [(3, .int (nI (i + 1))), (4, .int (kbj f i q t)), (0, .ref 146), (1, .int q), (2, .int t)]) (st1 := []) (w1 := w) rfl ?_
          refine wp_lv (lv1 := [(3, .int (nI (i + 1))), (0, .ref 146), (1, .int q), (2, .int t)]) (lsub_p [0, 2, 3, 4] rfl rfl rfl) ?_
          refine wp_mono (ih (i + 1) (by omega)) (fun r w1 hq => ?_)
          obtain ⟨rfl, rfl⟩ := hq
          refine ⟨?_, rfl⟩
          rw [show ccr f q t i (g + 1) = if ¬ kbj f i q t = 0 ∧ ¬ f (44 + i) = 0 ∧ ¬ f (44 + i) = kbj f i q t then 0 else ccr f q t (i + 1) g from rfl, if_neg (fun hh => hh.2.1 h5)]
        · have h5 := of_decide_eq_false h5
          refine wp_g 1 (pc1 := 41) (lv1 := [(4, .int (kbj f i q t)), (3, .int (nI i)), (0, .ref 146), (1, .int q), (2, .int t)]) (st1 := [.ref 146]) (w1 := w) rfl ?_
          refine wp_get (kf := 39) (ln := 3) (a := 12) (b := 20) (z := 0) (by decide +kernel) hM (mo_20 hF) ?_
          refine wp_g 3 (pc1 := 48) (lv1 := [(4, .int (kbj f i q t)), (3, .int (nI i)), (0, .ref 146), (1, .int q), (2, .int t)]) (st1 := [.int (44 + (nI i)), .ref 156]) (w1 := w) rfl ?_
          refine wp_top (show 44 + (nI i) = nI (44 + i) from nx_add (rfl : (44 : Int32) = nI 44) (rfl : nI i = nI i)) ?_
          refine wp_ia (i := 44 + i) (ln := 1) (a := 0) (b := 0) (z := 0) (by decide +kernel) hs (by omega) (by decide) ?_
          refine wp_g 1 (pc1 := 51) (lv1 := [(4, .int (kbj f i q t)), (3, .int (nI i)), (0, .ref 146), (1, .int q), (2, .int t)]) (st1 := [.int (kbj f i q t), .int (f (44 + i))]) (w1 := w) rfl ?_
          refine wp_icm (cnd := .eq) (o := 5) (ln := 3) (a := 56) (b := 0) (z := 0) (by decide +kernel) (fun h6 => ?_) (fun h6 => ?_)
          · have h6 := of_decide_eq_true h6
            refine wp_g 1 (pc1 := 59) (lv1 := [(3, .int (nI i + 1)), (4, .int (kbj f i q t)), (0, .ref 146), (1, .int q), (2, .int t)]) (st1 := []) (w1 := w) rfl ?_
            rw [show nI i + 1 = nI (i + 1) from nx_add rfl rfl]
            refine wp_g 1 (pc1 := 2) (lv1 := [(3, .int (nI (i + 1))), (4, .int (kbj f i q t)), (0, .ref 146), (1, .int q), (2, .int t)]) (st1 := []) (w1 := w) rfl ?_
            refine wp_lv (lv1 := [(3, .int (nI (i + 1))), (0, .ref 146), (1, .int q), (2, .int t)]) (lsub_p [0, 2, 3, 4] rfl rfl rfl) ?_
            refine wp_mono (ih (i + 1) (by omega)) (fun r w1 hq => ?_)
            obtain ⟨rfl, rfl⟩ := hq
            refine ⟨?_, rfl⟩
            rw [show ccr f q t i (g + 1) = if ¬ kbj f i q t = 0 ∧ ¬ f (44 + i) = 0 ∧ ¬ f (44 + i) = kbj f i q t then 0 else ccr f q t (i + 1) g from rfl, if_neg (fun hh => hh.2.2 h6)]
          · have h6 := of_decide_eq_false h6
            refine wp_g 1 (pc1 := 55) (lv1 := [(4, .int (kbj f i q t)), (3, .int (nI i)), (0, .ref 146), (1, .int q), (2, .int t)]) (st1 := [.int 0]) (w1 := w) rfl ?_
            refine wp_rt (i := .ireturn) (r := some (.int 0)) (ln := 1) (a := 0) (b := 0) (z := 0) (by decide +kernel) rfl (ret_b (by decide +kernel) (Or.inl rfl)) ?_
            exact ⟨by rw [show ccr f q t i (g + 1) = if ¬ kbj f i q t = 0 ∧ ¬ f (44 + i) = 0 ∧ ¬ f (44 + i) = kbj f i q t then 0 else ccr f q t (i + 1) g from rfl, if_pos ⟨h4, h5, h6⟩], rfl⟩
set_option maxRecDepth 100000 in
theorem rf_canCrease {d : Nat} {w : pm_H} {F : List Value} (hM : w[146]? = some (0, 12, F)) (hF : MF F) {f : Nat → Int32} {m : Nat} (hs : w[156]? = some (1, 0, ar 130 f)) (hm : f 0 = nI m) (m8 : m ≤ 8) (m2 : 2 ≤ m) (q t : Int32) : wp (d + 2) 207 0 (lv_args 0 [.ref 146, .int q, .int t]) [] w (fun r w1 => r = some (.int (ccr f q t 0 (m - 1))) ∧ w = w1) := by
  show wp _ 207 0 [(0, .ref 146), (1, .int q), (2, .int t)] [] w _
  refine wp_g 2 (pc1 := 2) (lv1 := [(3, .int 0), (0, .ref 146), (1, .int q), (2, .int t)]) (st1 := []) (w1 := w) rfl ?_
  exact rf_canCrease_l hM hF hs hm m8 m2 q t (m - 1) 0 (by omega)
/-- how thick it lies at each place, from place i on -/
def thk (f th : Nat → Int32) (m : Nat) : Nat → Nat → Nat → Int32
  | _, 0 => th
  | i, g + 1 => thk f (upd th i (nI (ctg f (nI i) 0 m))) m (i + 1) g
/-- joints creased by the fold, from joint i on -/
def crs (q t : Int32) : (Nat → Int32) → Nat → Nat → Nat → Int32
  | f, _, 0 => f
  | f, i, g + 1 => crs q t (if kbj f i q t = 0 then f else upd f (44 + i) (kbj f i q t)) (i + 1) g
set_option maxRecDepth 100000 in
theorem rf_turn1 {d : Nat} {P : Option Value → pm_H → Prop} {F : List Value} (hF : MF F) {f : Nat → Int32} {m wd p sd wy : Nat} (hm : f 0 = nI m) (m8 : m ≤ 8) (wd8 : wd ≤ 8) : ∀ (g : Nat) (w : pm_H) (i : Nat) (th : Nat → Int32) (hM : w[146]? = some (0, 12, F)) (hs : w[156]? = some (1, 0, ar 130 f)) (hT : w[157]? = some (1, 0, ar 8 th)) (hi : i + g = wd) (kk : wp (d + 2) 208 38 [(5, .int (nI wd)), (4, .int (nI wd)), (0, .ref 146), (1, .int (nI p)), (2, .int (nI sd)), (3, .int (nI wy))] [] (w.set 157 (1, 0, ar 8 (thk f th m i g))) P), wp (d + 2) 208 12 [(5, .int (nI i)), (4, .int (nI wd)), (0, .ref 146), (1, .int (nI p)), (2, .int (nI sd)), (3, .int (nI wy))] [] w P := by
  intro g
  induction g with
  | zero =>
    intro w i th hM hs hT hi kk
    refine wp_g 2 (pc1 := 16) (lv1 := [(5, .int (nI i)), (4, .int (nI wd)), (0, .ref 146), (1, .int (nI p)), (2, .int (nI sd)), (3, .int (nI wy))]) (st1 := [.int (nI wd), .int (nI i)]) (w1 := w) rfl ?_
    refine wp_icn (cnd := .ge) (o := 22) (x := i) (y := wd) (ln := 3) (a := 38) (b := 0) (z := 0) (by decide +kernel) (by omega) (by omega) (fun h1 => ?_) (fun h1 => ?_)
    · have h1 : i ≥ wd := h1
      obtain rfl : i = wd := by omega
      rw [show thk f th m i 0 = th from rfl, set_same hT] at kk
      exact kk
    · have h1 : ¬ (i ≥ wd) := h1
      exfalso
      omega
  | succ g ih =>
    intro w i th hM hs hT hi kk
    refine wp_g 2 (pc1 := 16) (lv1 := [(5, .int (nI i)), (4, .int (nI wd)), (0, .ref 146), (1, .int (nI p)), (2, .int (nI sd)), (3, .int (nI wy))]) (st1 := [.int (nI wd), .int (nI i)]) (w1 := w) rfl ?_
    refine wp_icn (cnd := .ge) (o := 22) (x := i) (y := wd) (ln := 3) (a := 38) (b := 0) (z := 0) (by decide +kernel) (by omega) (by omega) (fun h1 => ?_) (fun h1 => ?_)
    · have h1 : i ≥ wd := h1
      exfalso
      omega
    · have h1 : ¬ (i ≥ wd) := h1
      refine wp_g 1 (pc1 := 20) (lv1 := [(5, .int (nI i)), (4, .int (nI wd)), (0, .ref 146), (1, .int (nI p)), (2, .int (nI sd)), (3, .int (nI wy))]) (st1 := [.ref 146]) (w1 := w) rfl ?_
      refine wp_get (kf := 46) (ln := 3) (a := 12) (b := 23) (z := 0) (by decide +kernel) hM (mo_23 hF) ?_
      refine wp_g 3 (pc1 := 28) (lv1 := [(5, .int (nI i)), (4, .int (nI wd)), (0, .ref 146), (1, .int (nI p)), (2, .int (nI sd)), (3, .int (nI wy))]) (st1 := [.int (nI i), .ref 146, .int (nI i), .ref 157]) (w1 := w) rfl ?_
      refine wp_cc [.ref 146, .int (nI i)] [.int (nI i), .ref 157] (i := .invokevirtual 328) (ln := 3) (a := 195) (b := 0) (z := 0) (by decide +kernel) rfl rfl (by decide) rfl (show (2 : Nat) = pm_na 195 by decide +kernel) (Nat.le_of_ble_eq_true rfl) (show (2 : Nat) ≤ pm_n 195 by decide +kernel) (rcv_ok hM (by decide +kernel)) (rf_thickAt (w := w) hM hF hs hm m8 (nI i)) (fun r2 w3 hq => ?_)
      obtain ⟨rfl, rfl⟩ := hq
      show wp _ 208 31 [(5, .int (nI i)), (4, .int (nI wd)), (0, .ref 146), (1, .int (nI p)), (2, .int (nI sd)), (3, .int (nI wy))] [.int (nI (ctg f (nI i) 0 m)), .int (nI i), .ref 157] w _
      refine wp_is (i := i) (ln := 1) (a := 0) (b := 0) (z := 0) (by decide +kernel) hT (by omega) (by decide) ?_
      refine wp_g 1 (pc1 := 35) (lv1 := [(5, .int (nI i + 1)), (4, .int (nI wd)), (0, .ref 146), (1, .int (nI p)), (2, .int (nI sd)), (3, .int (nI wy))]) (st1 := []) (w1 := (List.set w 157 (1, 0, ar 8 ((upd th i (nI (ctg f (nI i) 0 m))))))) rfl ?_
      rw [show nI i + 1 = nI (i + 1) from nx_add rfl rfl]
      refine wp_g 1 (pc1 := 12) (lv1 := [(5, .int (nI (i + 1))), (4, .int (nI wd)), (0, .ref 146), (1, .int (nI p)), (2, .int (nI sd)), (3, .int (nI wy))]) (st1 := []) (w1 := (List.set w 157 (1, 0, ar 8 ((upd th i (nI (ctg f (nI i) 0 m))))))) rfl ?_
      refine ih _ (i + 1) _ (ev_ne hM (by decide)) (ev_ne hs (by decide)) (ev_eq hT) (by omega) ?_
      rw [List.set_set]
      exact kk
