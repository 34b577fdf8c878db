set_option maxRecDepth 100000 in
theorem rf_cell_y {d : Nat} {w : pm_H} {F : List Value} (hM : w[146]? = some (0, 12, F)) (hF : MF F) {f : Nat → Int32} {m : Nat} (hs : w[156]? = some (1, 0, ar 130 f)) (hm : f 0 = nI m) (m8 : m ≤ 8) {c t : Nat} (hc : c < m) (ht : t < 4) : wp (d + 1) 200 0 (lv_args 0 [.ref 146, .int (nI c), .int (nI t)]) [] w (fun r w1 => r = some (.int (f (12 + 4 * c + t))) ∧ w = w1) := by
  show wp _ 200 0 [(0, .ref 146), (1, .int (nI c)), (2, .int (nI t))] [] w _
  refine wp_g 2 (pc1 := 2) (lv1 := [(0, .ref 146), (1, .int (nI c)), (2, .int (nI t))]) (st1 := [.int (nI c), .ref 146]) (w1 := w) rfl ?_
  refine wp_cc [.ref 146, .int (nI c)] [] (i := .invokevirtual 314) (ln := 3) (a := 191) (b := 0) (z := 0) (by decide +kernel) rfl rfl (by decide) rfl (show (2 : Nat) = pm_na 191 by decide +kernel) (Nat.le_of_ble_eq_true rfl) (show (2 : Nat) ≤ pm_n 191 by decide +kernel) (rcv_ok hM (by decide +kernel)) (rf_isCell_n (w := w) hM hF hs hm m8 c (by omega)) (fun r1 w2 hq => ?_)
  obtain ⟨rfl, rfl⟩ := hq
  show wp _ 200 5 [(0, .ref 146), (1, .int (nI c)), (2, .int (nI t))] [.int (tB (c < m))] w _
  by_cases h3 : c < m
  · rw [show tB (c < m) = 1 from if_pos h3]
    refine wp_g 1 (pc1 := 8) (lv1 := [(0, .ref 146), (1, .int (nI c)), (2, .int (nI t))]) (st1 := []) (w1 := w) rfl ?_
    refine wp_g 4 (pc1 := 14) (lv1 := [(0, .ref 146), (1, .int (nI c)), (2, .int (nI t))]) (st1 := [.long 4, .long 0, .long ((nI t).toInt64)]) (w1 := w) rfl ?_
    refine wp_cc [.long ((nI t).toInt64), .long 0, .long 4] [] (i := .invokestatic 139) (ln := 3) (a := 147) (b := 1) (z := 0) (by decide +kernel) rfl rfl (by decide) rfl (show (3 : Nat) = pm_na 147 by decide +kernel) (Nat.le_of_ble_eq_true rfl) (show (6 : Nat) ≤ pm_n 147 by decide +kernel) (by rw [show pm_k 147 = 1 by decide +kernel]; rfl) (rf_in_n (w := w) (t := t) (by omega) (a := 0) (b := 4) (by decide) (by decide)) (fun r4 w5 hq => ?_)
    obtain ⟨rfl, rfl⟩ := hq
    show wp _ 200 17 [(0, .ref 146), (1, .int (nI c)), (2, .int (nI t))] [.int (tB ((0 : Int) ≤ (t : Nat) ∧ ((t : Nat) : Int) ≤ 4))] w _
    by_cases h6 : (0 : Int) ≤ (t : Nat) ∧ ((t : Nat) : Int) ≤ 4
    · rw [show tB ((0 : Int) ≤ (t : Nat) ∧ ((t : Nat) : Int) ≤ 4) = 1 from if_pos h6]
      refine wp_g 1 (pc1 := 23) (lv1 := [(0, .ref 146), (1, .int (nI c)), (2, .int (nI t))]) (st1 := []) (w1 := w) rfl ?_
      refine wp_g 2 (pc1 := 25) (lv1 := [(0, .ref 146), (1, .int (nI c)), (2, .int (nI t))]) (st1 := [.int 4, .int (nI t)]) (w1 := w) rfl ?_
      refine wp_icn (cnd := .ge) (o := 12) (x := t) (y := 4) (ln := 3) (a := 37) (b := 0) (z := 0) (by decide +kernel) (by omega) (by omega) (fun h7 => ?_) (fun h7 => ?_)
      · have h7 : t ≥ 4 := h7
        exfalso
        omega
      · have h7 : ¬ (t ≥ 4) := h7
        refine wp_g 3 (pc1 := 31) (lv1 := [(0, .ref 146), (1, .int (nI c)), (2, .int (nI t))]) (st1 := [.int (nI t), .int (nI c), .ref 146]) (w1 := w) rfl ?_
        refine wp_cc [.ref 146, .int (nI c), .int (nI t)] [] (i := .invokevirtual 304) (ln := 3) (a := 194) (b := 0) (z := 0) (by decide +kernel) rfl rfl (by decide) rfl (show (3 : Nat) = pm_na 194 by decide +kernel) (Nat.le_of_ble_eq_true rfl) (show (3 : Nat) ≤ pm_n 194 by decide +kernel) (rcv_ok hM (by decide +kernel)) (rf_cellOf (w := w) hM hF hs (c := c) (t := t) (by omega) (by omega)) (fun r8 w9 hq => ?_)
        obtain ⟨rfl, rfl⟩ := hq
        show wp _ 200 34 [(0, .ref 146), (1, .int (nI c)), (2, .int (nI t))] [.int (f (12 + 4 * c + t))] w _
        refine wp_g 1 (pc1 := 46) (lv1 := [(0, .ref 146), (1, .int (nI c)), (2, .int (nI t))]) (st1 := [.int (f (12 + 4 * c + t))]) (w1 := w) rfl ?_
        refine wp_rt (i := .ireturn) (r := some (.int (f (12 + 4 * c + t)))) (ln := 1) (a := 0) (b := 0) (z := 0) (by decide +kernel) rfl (ret_ok (by decide +kernel)) ?_
        exact ⟨rfl, rfl⟩
    · rw [show tB ((0 : Int) ≤ (t : Nat) ∧ ((t : Nat) : Int) ≤ 4) = 0 from if_neg h6]
      exfalso
      omega
  · rw [show tB (c < m) = 0 from if_neg h3]
    exfalso
    omega
set_option maxRecDepth 100000 in
theorem rf_cell_w {d : Nat} {w : pm_H} {F : List Value} (hM : w[146]? = some (0, 12, F)) (hF : MF F) {f : Nat → Int32} {m : Nat} (hs : w[156]? = some (1, 0, ar 130 f)) (hm : f 0 = nI m) (m8 : m ≤ 8) {c : Nat} (hc : c < m) : wp (d + 1) 200 0 (lv_args 0 [.ref 146, .int (nI c), .int (nI 4)]) [] w (fun r w1 => r = some (.int (f (55 + c))) ∧ w = w1) := by
  show wp _ 200 0 [(0, .ref 146), (1, .int (nI c)), (2, .int (nI 4))] [] w _
  refine wp_g 2 (pc1 := 2) (lv1 := [(0, .ref 146), (1, .int (nI c)), (2, .int (nI 4))]) (st1 := [.int (nI c), .ref 146]) (w1 := w) rfl ?_
  refine wp_cc [.ref 146, .int (nI c)] [] (i := .invokevirtual 314) (ln := 3) (a := 191) (b := 0) (z := 0) (by decide +kernel) rfl rfl (by decide) rfl (show (2 : Nat) = pm_na 191 by decide +kernel) (Nat.le_of_ble_eq_true rfl) (show (2 : Nat) ≤ pm_n 191 by decide +kernel) (rcv_ok hM (by decide +kernel)) (rf_isCell_n (w := w) hM hF hs hm m8 c (by omega)) (fun r1 w2 hq => ?_)
  obtain ⟨rfl, rfl⟩ := hq
  show wp _ 200 5 [(0, .ref 146), (1, .int (nI c)), (2, .int (nI 4))] [.int (tB (c < m))] w _
  by_cases h3 : c < m
  · rw [show tB (c < m) = 1 from if_pos h3]
    refine wp_g 1 (pc1 := 8) (lv1 := [(0, .ref 146), (1, .int (nI c)), (2, .int (nI 4))]) (st1 := []) (w1 := w) rfl ?_
    refine wp_g 4 (pc1 := 14) (lv1 := [(0, .ref 146), (1, .int (nI c)), (2, .int (nI 4))]) (st1 := [.long 4, .long 0, .long ((nI 4).toInt64)]) (w1 := w) rfl ?_
    refine wp_cc [.long ((nI 4).toInt64), .long 0, .long 4] [] (i := .invokestatic 139) (ln := 3) (a := 147) (b := 1) (z := 0) (by decide +kernel) rfl rfl (by decide) rfl (show (3 : Nat) = pm_na 147 by decide +kernel) (Nat.le_of_ble_eq_true rfl) (show (6 : Nat) ≤ pm_n 147 by decide +kernel) (by rw [show pm_k 147 = 1 by decide +kernel]; rfl) (rf_in_n (w := w) (t := 4) (by omega) (a := 0) (b := 4) (by decide) (by decide)) (fun r4 w5 hq => ?_)
    obtain ⟨rfl, rfl⟩ := hq
    show wp _ 200 17 [(0, .ref 146), (1, .int (nI c)), (2, .int (nI 4))] [.int (tB ((0 : Int) ≤ (4 : Nat) ∧ ((4 : Nat) : Int) ≤ 4))] w _
    by_cases h6 : (0 : Int) ≤ (4 : Nat) ∧ ((4 : Nat) : Int) ≤ 4
    · rw [show tB ((0 : Int) ≤ (4 : Nat) ∧ ((4 : Nat) : Int) ≤ 4) = 1 from if_pos h6]
      refine wp_g 1 (pc1 := 23) (lv1 := [(0, .ref 146), (1, .int (nI c)), (2, .int (nI 4))]) (st1 := []) (w1 := w) rfl ?_
      refine wp_g 2 (pc1 := 25) (lv1 := [(0, .ref 146), (1, .int (nI c)), (2, .int (nI 4))]) (st1 := [.int 4, .int (nI 4)]) (w1 := w) rfl ?_
      refine wp_icn (cnd := .ge) (o := 12) (x := 4) (y := 4) (ln := 3) (a := 37) (b := 0) (z := 0) (by decide +kernel) (by omega) (by omega) (fun h7 => ?_) (fun h7 => ?_)
      · have h7 : 4 ≥ 4 := h7
        refine wp_g 1 (pc1 := 38) (lv1 := [(0, .ref 146), (1, .int (nI c)), (2, .int (nI 4))]) (st1 := [.ref 146]) (w1 := w) rfl ?_
        refine wp_get (kf := 39) (ln := 3) (a := 12) (b := 20) (z := 0) (by decide +kernel) hM (mo_20 hF) ?_
        refine wp_g 3 (pc1 := 45) (lv1 := [(0, .ref 146), (1, .int (nI c)), (2, .int (nI 4))]) (st1 := [.int (55 + (nI c)), .ref 156]) (w1 := w) rfl ?_
        refine wp_top (show 55 + (nI c) = nI (55 + c) from nx_add (rfl : (55 : Int32) = nI 55) (rfl : nI c = nI c)) ?_
        refine wp_ia (i := 55 + c) (ln := 1) (a := 0) (b := 0) (z := 0) (by decide +kernel) hs (by omega) (by decide) ?_
        refine wp_rt (i := .ireturn) (r := some (.int (f (55 + c)))) (ln := 1) (a := 0) (b := 0) (z := 0) (by decide +kernel) rfl (ret_ok (by decide +kernel)) ?_
        exact ⟨rfl, rfl⟩
      · have h7 : ¬ (4 ≥ 4) := h7
        exfalso
        omega
    · rw [show tB ((0 : Int) ≤ (4 : Nat) ∧ ((4 : Nat) : Int) ≤ 4) = 0 from if_neg h6]
      exfalso
      omega
  · rw [show tB (c < m) = 0 from if_neg h3]
    exfalso
    omega
set_option maxRecDepth 100000 in
theorem rf_cell_n {d : Nat} {w : pm_H} {F : List Value} (hM : w[146]? = some (0, 12, F)) (hF : MF F) {f : Nat → Int32} {m : Nat} (hs : w[156]? = some (1, 0, ar 130 f)) (hm : f 0 = nI m) (m8 : m ≤ 8) {c k : Int32} (hn : ¬ ((0 ≤ c.toInt ∧ c.toInt < m) ∧ 0 ≤ k.toInt ∧ k.toInt ≤ 4)) : wp (d + 1) 200 0 (lv_args 0 [.ref 146, .int c, .int k]) [] w (fun r w1 => r = some (.int (-2)) ∧ w = w1) := by
  show wp _ 200 0 [(0, .ref 146), (1, .int c), (2, .int k)] [] w _
  refine wp_g 2 (pc1 := 2) (lv1 := [(0, .ref 146), (1, .int c), (2, .int k)]) (st1 := [.int c, .ref 146]) (w1 := w) rfl ?_
  refine wp_cc [.ref 146, .int c] [] (i := .invokevirtual 314) (ln := 3) (a := 191) (b := 0) (z := 0) (by decide +kernel) rfl rfl (by decide) rfl (show (2 : Nat) = pm_na 191 by decide +kernel) (Nat.le_of_ble_eq_true rfl) (show (2 : Nat) ≤ pm_n 191 by decide +kernel) (rcv_ok hM (by decide +kernel)) (rf_isCell (w := w) hM hF hs hm m8 c) (fun r1 w2 hq => ?_)
  obtain ⟨rfl, rfl⟩ := hq
  show wp _ 200 5 [(0, .ref 146), (1, .int c), (2, .int k)] [.int (tB (0 ≤ Int32.toInt c ∧ Int32.toInt c < m))] w _
  by_cases h3 : 0 ≤ Int32.toInt c ∧ Int32.toInt c < m
  · rw [show tB (0 ≤ Int32.toInt c ∧ Int32.toInt c < m) = 1 from if_pos h3]
    refine wp_g 1 (pc1 := 8) (lv1 := [(0, .ref 146), (1, .int c), (2, .int k)]) (st1 := []) (w1 := w) rfl ?_
    refine wp_g 4 (pc1 := 14) (lv1 := [(0, .ref 146), (1, .int c), (2, .int k)]) (st1 := [.long 4, .long 0, .long k.toInt64]) (w1 := w) rfl ?_
    refine wp_cc [.long k.toInt64, .long 0, .long 4] [] (i := .invokestatic 139) (ln := 3) (a := 147) (b := 1) (z := 0) (by decide +kernel) rfl rfl (by decide) rfl (show (3 : Nat) = pm_na 147 by decide +kernel) (Nat.le_of_ble_eq_true rfl) (show (6 : Nat) ≤ pm_n 147 by decide +kernel) (by rw [show pm_k 147 = 1 by decide +kernel]; rfl) (rf_in32 (w := w) (x := k) (a := 0) (b := 4) (by decide) (by decide)) (fun r4 w5 hq => ?_)
    obtain ⟨rfl, rfl⟩ := hq
    show wp _ 200 17 [(0, .ref 146), (1, .int c), (2, .int k)] [.int (tB ((0 : Int) ≤ Int32.toInt k ∧ Int32.toInt k ≤ 4))] w _
    by_cases h6 : (0 : Int) ≤ Int32.toInt k ∧ Int32.toInt k ≤ 4
    · rw [show tB ((0 : Int) ≤ Int32.toInt k ∧ Int32.toInt k ≤ 4) = 1 from if_pos h6]
      exfalso
      omega
    · rw [show tB ((0 : Int) ≤ Int32.toInt k ∧ Int32.toInt k ≤ 4) = 0 from if_neg h6]
      refine wp_g 1 (pc1 := 20) (lv1 := [(0, .ref 146), (1, .int c), (2, .int k)]) (st1 := []) (w1 := w) rfl ?_
      refine wp_g 1 (pc1 := 22) (lv1 := [(0, .ref 146), (1, .int c), (2, .int k)]) (st1 := [.int ((-2))]) (w1 := w) rfl ?_
      refine wp_rt (i := .ireturn) (r := some (.int ((-2)))) (ln := 1) (a := 0) (b := 0) (z := 0) (by decide +kernel) rfl (ret_ok (by decide +kernel)) ?_
      exact ⟨rfl, rfl⟩
  · rw [show tB (0 ≤ Int32.toInt c ∧ Int32.toInt c < m) = 0 from if_neg h3]
    refine wp_g 1 (pc1 := 20) (lv1 := [(0, .ref 146), (1, .int c), (2, .int k)]) (st1 := []) (w1 := w) rfl ?_
    refine wp_g 1 (pc1 := 22) (lv1 := [(0, .ref 146), (1, .int c), (2, .int k)]) (st1 := [.int ((-2))]) (w1 := w) rfl ?_
    refine wp_rt (i := .ireturn) (r := some (.int ((-2)))) (ln := 1) (a := 0) (b := 0) (z := 0) (by decide +kernel) rfl (ret_ok (by decide +kernel)) ?_
    exact ⟨rfl, rfl⟩
set_option maxRecDepth 100000 in
theorem rf_joint_c {d : Nat} {w : pm_H} {F : List Value} (hM : w[146]? = some (0, 12, F)) (hF : MF F) {f : Nat → Int32} {m : Nat} (hs : w[156]? = some (1, 0, ar 130 f)) (hm : f 0 = nI m) (m8 : m ≤ 8) {j : Nat} (hj : j + 1 < m) : wp (d + 2) 201 0 (lv_args 0 [.ref 146, .int (nI j), .int (nI 0)]) [] w (fun r w1 => r = some (.int (f (44 + j))) ∧ w = w1) := by
  show wp _ 201 0 [(0, .ref 146), (1, .int (nI j)), (2, .int (nI 0))] [] w _
  refine wp_g 2 (pc1 := 2) (lv1 := [(0, .ref 146), (1, .int (nI j)), (2, .int (nI 0))]) (st1 := [.int (nI j), .ref 146]) (w1 := w) rfl ?_
  refine wp_cc [.ref 146, .int (nI j)] [] (i := .invokevirtual 319) (ln := 3) (a := 192) (b := 0) (z := 0) (by decide +kernel) rfl rfl (by decide) rfl (show (2 : Nat) = pm_na 192 by decide +kernel) (Nat.le_of_ble_eq_true rfl) (show (2 : Nat) ≤ pm_n 192 by decide +kernel) (rcv_ok hM (by decide +kernel)) (rf_isJoint_n (w := w) hM hF hs hm m8 j (by omega)) (fun r1 w2 hq => ?_)
  obtain ⟨rfl, rfl⟩ := hq
  show wp _ 201 5 [(0, .ref 146), (1, .int (nI j)), (2, .int (nI 0))] [.int (tB (j + 1 < m))] w _
  by_cases h3 : j + 1 < m
  · rw [show tB (j + 1 < m) = 1 from if_pos h3]
    refine wp_g 1 (pc1 := 8) (lv1 := [(0, .ref 146), (1, .int (nI j)), (2, .int (nI 0))]) (st1 := []) (w1 := w) rfl ?_
    refine wp_g 4 (pc1 := 12) (lv1 := [(0, .ref 146), (1, .int (nI j)), (2, .int (nI 0))]) (st1 := [.long 1, .long 0, .long ((nI 0).toInt64)]) (w1 := w) rfl ?_
    refine wp_cc [.long ((nI 0).toInt64), .long 0, .long 1] [] (i := .invokestatic 139) (ln := 3) (a := 147) (b := 1) (z := 0) (by decide +kernel) rfl rfl (by decide) rfl (show (3 : Nat) = pm_na 147 by decide +kernel) (Nat.le_of_ble_eq_true rfl) (show (6 : Nat) ≤ pm_n 147 by decide +kernel) (by rw [show pm_k 147 = 1 by decide +kernel]; rfl) (rf_in_n (w := w) (t := 0) (by omega) (a := 0) (b := 1) (by decide) (by decide)) (fun r4 w5 hq => ?_)
    obtain ⟨rfl, rfl⟩ := hq
    show wp _ 201 15 [(0, .ref 146), (1, .int (nI j)), (2, .int (nI 0))] [.int (tB ((0 : Int) ≤ (0 : Nat) ∧ ((0 : Nat) : Int) ≤ 1))] w _
    by_cases h6 : (0 : Int) ≤ (0 : Nat) ∧ ((0 : Nat) : Int) ≤ 1
    · rw [show tB ((0 : Int) ≤ (0 : Nat) ∧ ((0 : Nat) : Int) ≤ 1) = 1 from if_pos h6]
      refine wp_g 1 (pc1 := 18) (lv1 := [(0, .ref 146), (1, .int (nI j)), (2, .int (nI 0))]) (st1 := []) (w1 := w) rfl ?_
      refine wp_g 1 (pc1 := 19) (lv1 := [(0, .ref 146), (1, .int (nI j)), (2, .int (nI 0))]) (st1 := [.ref 146]) (w1 := w) rfl ?_
      refine wp_get (kf := 39) (ln := 3) (a := 12) (b := 20) (z := 0) (by decide +kernel) hM (mo_20 hF) ?_
      refine wp_g 1 (pc1 := 23) (lv1 := [(0, .ref 146), (1, .int (nI j)), (2, .int (nI 0))]) (st1 := [.int (nI 0), .ref 156]) (w1 := w) rfl ?_
      refine wp_ifn (cnd := .ne) (o := 8) (x := 0) (ln := 3) (a := 31) (b := 0) (z := 0) (by decide +kernel) (by omega) (fun h7 => ?_) (fun h7 => ?_)
      · have h7 : 0 ≠ 0 := h7
        exfalso
        omega
      · have h7 : ¬ (0 ≠ 0) := h7
        refine wp_g 4 (pc1 := 35) (lv1 := [(0, .ref 146), (1, .int (nI j)), (2, .int (nI 0))]) (st1 := [.int (44 + (nI j)), .ref 156]) (w1 := w) rfl ?_
        refine wp_top (show 44 + (nI j) = nI (44 + j) from nx_add (rfl : (44 : Int32) = nI 44) (rfl : nI j = nI j)) ?_
        refine wp_ia (i := 44 + j) (ln := 1) (a := 0) (b := 0) (z := 0) (by decide +kernel) hs (by omega) (by decide) ?_
        refine wp_g 1 (pc1 := 40) (lv1 := [(0, .ref 146), (1, .int (nI j)), (2, .int (nI 0))]) (st1 := [.int (f (44 + j))]) (w1 := w) rfl ?_
        refine wp_rt (i := .ireturn) (r := some (.int (f (44 + j)))) (ln := 1) (a := 0) (b := 0) (z := 0) (by decide +kernel) rfl (ret_ok (by decide +kernel)) ?_
        exact ⟨rfl, rfl⟩
    · rw [show tB ((0 : Int) ≤ (0 : Nat) ∧ ((0 : Nat) : Int) ≤ 1) = 0 from if_neg h6]
      exfalso
      omega
  · rw [show tB (j + 1 < m) = 0 from if_neg h3]
    exfalso
    omega
set_option maxRecDepth 100000 in
theorem rf_joint_m {d : Nat} {w : pm_H} {F : List Value} (hM : w[146]? = some (0, 12, F)) (hF : MF F) {f : Nat → Int32} {m : Nat} (hs : w[156]? = some (1, 0, ar 130 f)) (hm : f 0 = nI m) (m8 : m ≤ 8) {j : Nat} (hj : j + 1 < m) : wp (d + 2) 201 0 (lv_args 0 [.ref 146, .int (nI j), .int (nI 1)]) [] w (fun r w1 => r = some (.int (f (82 + j))) ∧ w = w1) := by
  show wp _ 201 0 [(0, .ref 146), (1, .int (nI j)), (2, .int (nI 1))] [] w _
  refine wp_g 2 (pc1 := 2) (lv1 := [(0, .ref 146), (1, .int (nI j)), (2, .int (nI 1))]) (st1 := [.int (nI j), .ref 146]) (w1 := w) rfl ?_
  refine wp_cc [.ref 146, .int (nI j)] [] (i := .invokevirtual 319) (ln := 3) (a := 192) (b := 0) (z := 0) (by decide +kernel) rfl rfl (by decide) rfl (show (2 : Nat) = pm_na 192 by decide +kernel) (Nat.le_of_ble_eq_true rfl) (show (2 : Nat) ≤ pm_n 192 by decide +kernel) (rcv_ok hM (by decide +kernel)) (rf_isJoint_n (w := w) hM hF hs hm m8 j (by omega)) (fun r1 w2 hq => ?_)
  obtain ⟨rfl, rfl⟩ := hq
  show wp _ 201 5 [(0, .ref 146), (1, .int (nI j)), (2, .int (nI 1))] [.int (tB (j + 1 < m))] w _
  by_cases h3 : j + 1 < m
  · rw [show tB (j + 1 < m) = 1 from if_pos h3]
    refine wp_g 1 (pc1 := 8) (lv1 := [(0, .ref 146), (1, .int (nI j)), (2, .int (nI 1))]) (st1 := []) (w1 := w) rfl ?_
    refine wp_g 4 (pc1 := 12) (lv1 := [(0, .ref 146), (1, .int (nI j)), (2, .int (nI 1))]) (st1 := [.long 1, .long 0, .long ((nI 1).toInt64)]) (w1 := w) rfl ?_
    refine wp_cc [.long ((nI 1).toInt64), .long 0, .long 1] [] (i := .invokestatic 139) (ln := 3) (a := 147) (b := 1) (z := 0) (by decide +kernel) rfl rfl (by decide) rfl (show (3 : Nat) = pm_na 147 by decide +kernel) (Nat.le_of_ble_eq_true rfl) (show (6 : Nat) ≤ pm_n 147 by decide +kernel) (by rw [show pm_k 147 = 1 by decide +kernel]; rfl) (rf_in_n (w := w) (t := 1) (by omega) (a := 0) (b := 1) (by decide) (by decide)) (fun r4 w5 hq => ?_)
    obtain ⟨rfl, rfl⟩ := hq
    show wp _ 201 15 [(0, .ref 146), (1, .int (nI j)), (2, .int (nI 1))] [.int (tB ((0 : Int) ≤ (1 : Nat) ∧ ((1 : Nat) : Int) ≤ 1))] w _
    by_cases h6 : (0 : Int) ≤ (1 : Nat) ∧ ((1 : Nat) : Int) ≤ 1
    · rw [show tB ((0 : Int) ≤ (1 : Nat) ∧ ((1 : Nat) : Int) ≤ 1) = 1 from if_pos h6]
      refine wp_g 1 (pc1 := 18) (lv1 := [(0, .ref 146), (1, .int (nI j)), (2, .int (nI 1))]) (st1 := []) (w1 := w) rfl ?_
      refine wp_g 1 (pc1 := 19) (lv1 := [(0, .ref 146), (1, .int (nI j)), (2, .int (nI 1))]) (st1 := [.ref 146]) (w1 := w) rfl ?_
      refine wp_get (kf := 39) (ln := 3) (a := 12) (b := 20) (z := 0) (by decide +kernel) hM (mo_20 hF) ?_
      refine wp_g 1 (pc1 := 23) (lv1 := [(0, .ref 146), (1, .int (nI j)), (2, .int (nI 1))]) (st1 := [.int (nI 1), .ref 156]) (w1 := w) rfl ?_
      refine wp_ifn (cnd := .ne) (o := 8) (x := 1) (ln := 3) (a := 31) (b := 0) (z := 0) (by decide +kernel) (by omega) (fun h7 => ?_) (fun h7 => ?_)
      · have h7 : 1 ≠ 0 := h7
        refine wp_g 3 (pc1 := 35) (lv1 := [(0, .ref 146), (1, .int (nI j)), (2, .int (nI 1))]) (st1 := [.int (82 + (nI j)), .ref 156]) (w1 := w) rfl ?_
        refine wp_top (show 82 + (nI j) = nI (82 + j) from nx_add (rfl : (82 : Int32) = nI 82) (rfl : nI j = nI j)) ?_
        refine wp_ia (i := 82 + j) (ln := 1) (a := 0) (b := 0) (z := 0) (by decide +kernel) hs (by omega) (by decide) ?_
        refine wp_g 1 (pc1 := 40) (lv1 := [(0, .ref 146), (1, .int (nI j)), (2, .int (nI 1))]) (st1 := [.int (f (82 + j))]) (w1 := w) rfl ?_
        refine wp_rt (i := .ireturn) (r := some (.int (f (82 + j)))) (ln := 1) (a := 0) (b := 0) (z := 0) (by decide +kernel) rfl (ret_ok (by decide +kernel)) ?_
        exact ⟨rfl, rfl⟩
      · have h7 : ¬ (1 ≠ 0) := h7
        exfalso
        omega
    · rw [show tB ((0 : Int) ≤ (1 : Nat) ∧ ((1 : Nat) : Int) ≤ 1) = 0 from if_neg h6]
      exfalso
      omega
  · rw [show tB (j + 1 < m) = 0 from if_neg h3]
    exfalso
    omega
set_option maxRecDepth 100000 in
theorem rf_joint_n {d : Nat} {w : pm_H} {F : List Value} (hM : w[146]? = some (0, 12, F)) (hF : MF F) {f : Nat → Int32} {m : Nat} (hs : w[156]? = some (1, 0, ar 130 f)) (hm : f 0 = nI m) (m8 : m ≤ 8) {c k : Int32} (hn : ¬ ((0 ≤ c.toInt ∧ c.toInt + 1 < m) ∧ 0 ≤ k.toInt ∧ k.toInt ≤ 1)) : wp (d + 2) 201 0 (lv_args 0 [.ref 146, .int c, .int k]) [] w (fun r w1 => r = some (.int (-1)) ∧ w = w1) := by
  show wp _ 201 0 [(0, .ref 146), (1, .int c), (2, .int k)] [] w _
  refine wp_g 2 (pc1 := 2) (lv1 := [(0, .ref 146), (1, .int c), (2, .int k)]) (st1 := [.int c, .ref 146]) (w1 := w) rfl ?_
  refine wp_cc [.ref 146, .int c] [] (i := .invokevirtual 319) (ln := 3) (a := 192) (b := 0) (z := 0) (by decide +kernel) rfl rfl (by decide) rfl (show (2 : Nat) = pm_na 192 by decide +kernel) (Nat.le_of_ble_eq_true rfl) (show (2 : Nat) ≤ pm_n 192 by decide +kernel) (rcv_ok hM (by decide +kernel)) (rf_isJoint (w := w) hM hF hs hm m8 c) (fun r1 w2 hq => ?_)
  obtain ⟨rfl, rfl⟩ := hq
  show wp _ 201 5 [(0, .ref 146), (1, .int c), (2, .int k)] [.int (tB (0 ≤ Int32.toInt c ∧ Int32.toInt c + 1 < m))] w _
  by_cases h3 : 0 ≤ Int32.toInt c ∧ Int32.toInt c + 1 < m
  · rw [show tB (0 ≤ Int32.toInt c ∧ Int32.toInt c + 1 < m) = 1 from if_pos h3]
    refine wp_g 1 (pc1 := 8) (lv1 := [(0, .ref 146), (1, .int c), (2, .int k)]) (st1 := []) (w1 := w) rfl ?_
    refine wp_g 4 (pc1 := 12) (lv1 := [(0, .ref 146), (1, .int c), (2, .int k)]) (st1 := [.long 1, .long 0, .long k.toInt64]) (w1 := w) rfl ?_
    refine wp_cc [.long k.toInt64, .long 0, .long 1] [] (i := .invokestatic 139) (ln := 3) (a := 147) (b := 1) (z := 0) (by decide +kernel) rfl rfl (by decide) rfl (show (3 : Nat) = pm_na 147 by decide +kernel) (Nat.le_of_ble_eq_true rfl) (show (6 : Nat) ≤ pm_n 147 by decide +kernel) (by rw [show pm_k 147 = 1 by decide +kernel]; rfl) (rf_in32 (w := w) (x := k) (a := 0) (b := 1) (by decide) (by decide)) (fun r4 w5 hq => ?_)
    obtain ⟨rfl, rfl⟩ := hq
    show wp _ 201 15 [(0, .ref 146), (1, .int c), (2, .int k)] [.int (tB ((0 : Int) ≤ Int32.toInt k ∧ Int32.toInt k ≤ 1))] w _
    by_cases h6 : (0 : Int) ≤ Int32.toInt k ∧ Int32.toInt k ≤ 1
    · rw [show tB ((0 : Int) ≤ Int32.toInt k ∧ Int32.toInt k ≤ 1) = 1 from if_pos h6]
      exfalso
      omega
    · rw [show tB ((0 : Int) ≤ Int32.toInt k ∧ Int32.toInt k ≤ 1) = 0 from if_neg h6]
      refine wp_g 1 (pc1 := 39) (lv1 := [(0, .ref 146), (1, .int c), (2, .int k)]) (st1 := []) (w1 := w) rfl ?_
      refine wp_g 1 (pc1 := 40) (lv1 := [(0, .ref 146), (1, .int c), (2, .int k)]) (st1 := [.int ((-1))]) (w1 := w) rfl ?_
      refine wp_rt (i := .ireturn) (r := some (.int ((-1)))) (ln := 1) (a := 0) (b := 0) (z := 0) (by decide +kernel) rfl (ret_ok (by decide +kernel)) ?_
      exact ⟨rfl, rfl⟩
  · rw [show tB (0 ≤ Int32.toInt c ∧ Int32.toInt c + 1 < m) = 0 from if_neg h3]
    refine wp_g 1 (pc1 := 39) (lv1 := [(0, .ref 146), (1, .int c), (2, .int k)]) (st1 := []) (w1 := w) rfl ?_
    refine wp_g 1 (pc1 := 40) (lv1 := [(0, .ref 146), (1, .int c), (2, .int k)]) (st1 := [.int ((-1))]) (w1 := w) rfl ?_
    refine wp_rt (i := .ireturn) (r := some (.int ((-1)))) (ln := 1) (a := 0) (b := 0) (z := 0) (by decide +kernel) rfl (ret_ok (by decide +kernel)) ?_
    exact ⟨rfl, rfl⟩
set_option maxRecDepth 100000 in
theorem rf_open_y {d : Nat} {w : pm_H} {F : List Value} (hM : w[146]? = some (0, 12, F)) (hF : MF F) {f h : Nat → Int32} {m : Nat} (hs : w[156]? = some (1, 0, ar 130 f)) (hm : f 0 = nI m) (m8 : m ≤ 8) (hB : w[159]? = some (1, 0, ar 900 h)) {u : Nat} (h26 : F[26]? = some (.int (nI u))) (u20 : u ≤ 20) {wd : Nat} (hwd : f 10 = nI wd) (wd8 : wd ≤ 8) (hy : 0 < m ∧ wd ≠ m) : wp (d + 2) 221 0 (lv_args 0 [.ref 146]) [] w (fun r w1 => r = some (.int (nI wd)) ∧ ((w.set 159 (1, 0, ar 900 (kact h f u))).set 146 (0, 12, F.set 26 (.int (nI (kmany u))))).set 156 (1, 0, ar 130 (lopen f m)) = w1) := by
  show wp _ 221 0 [(0, .ref 146)] [] w _
  refine wp_g 1 (pc1 := 1) (lv1 := [(0, .ref 146)]) (st1 := [.ref 146]) (w1 := w) rfl ?_
  refine wp_cc [.ref 146] [] (i := .invokevirtual 301) (ln := 3) (a := 190) (b := 0) (z := 0) (by decide +kernel) rfl rfl (by decide) rfl (show (1 : Nat) = pm_na 190 by decide +kernel) (Nat.le_of_ble_eq_true rfl) (show (1 : Nat) ≤ pm_n 190 by decide +kernel) (rcv_ok hM (by decide +kernel)) (rf_isCloth (w := w) hM hF hs hm m8) (fun r1 w2 hq => ?_)
  obtain ⟨rfl, rfl⟩ := hq
  show wp _ 221 4 [(0, .ref 146)] [.int (tB (0 < m))] w _
  by_cases h3 : 0 < m
  · rw [show tB (0 < m) = 1 from if_pos h3]
    refine wp_g 1 (pc1 := 7) (lv1 := [(0, .ref 146)]) (st1 := []) (w1 := w) rfl ?_
    refine wp_g 1 (pc1 := 8) (lv1 := [(0, .ref 146)]) (st1 := [.ref 146]) (w1 := w) rfl ?_
    refine wp_get (kf := 39) (ln := 3) (a := 12) (b := 20) (z := 0) (by decide +kernel) hM (mo_20 hF) ?_
    refine wp_g 1 (pc1 := 13) (lv1 := [(0, .ref 146)]) (st1 := [.int 10, .ref 156]) (w1 := w) rfl ?_
    refine wp_ia (i := 10) (ln := 1) (a := 0) (b := 0) (z := 0) (by decide +kernel) hs (by omega) (by decide) ?_
    rw [hwd]
    refine wp_g 1 (pc1 := 15) (lv1 := [(0, .ref 146)]) (st1 := [.ref 146, .int (nI wd)]) (w1 := w) rfl ?_
    refine wp_get (kf := 39) (ln := 3) (a := 12) (b := 20) (z := 0) (by decide +kernel) hM (mo_20 hF) ?_
    refine wp_g 1 (pc1 := 19) (lv1 := [(0, .ref 146)]) (st1 := [.int 0, .ref 156, .int (nI wd)]) (w1 := w) rfl ?_
    refine wp_ia (i := 0) (ln := 1) (a := 0) (b := 0) (z := 0) (by decide +kernel) hs (by omega) (by decide) ?_
    rw [hm]
    refine wp_icn (cnd := .ne) (o := 5) (x := wd) (y := m) (ln := 3) (a := 25) (b := 0) (z := 0) (by decide +kernel) (by omega) (by omega) (fun h4 => ?_) (fun h4 => ?_)
    · have h4 : wd ≠ m := h4
      refine wp_g 1 (pc1 := 26) (lv1 := [(0, .ref 146)]) (st1 := [.ref 146]) (w1 := w) rfl ?_
      refine wp_cc [.ref 146] [] (i := .invokevirtual 381) (ln := 3) (a := 217) (b := 0) (z := 0) (by decide +kernel) rfl rfl (by decide) rfl (show (1 : Nat) = pm_na 217 by decide +kernel) (Nat.le_of_ble_eq_true rfl) (show (1 : Nat) ≤ pm_n 217 by decide +kernel) (rcv_ok hM (by decide +kernel)) (rf_keepsAct (w := w) hM hF hs hB h26 u20) (fun r5 w6 hq => ?_)
      obtain ⟨rfl, rfl⟩ := hq
      show wp _ 221 29 [(0, .ref 146)] [] (List.set (List.set w 159 (1, 0, ar 900 ((kact h f u)))) 146 (0, 12, (List.set F 26 (.int (nI (kmany u)))))) _
      refine wp_g 1 (pc1 := 30) (lv1 := [(0, .ref 146)]) (st1 := [.ref 146]) (w1 := (List.set (List.set w 159 (1, 0, ar 900 ((kact h f u)))) 146 (0, 12, (List.set F 26 (.int (nI (kmany u))))))) rfl ?_
      refine wp_get (kf := 39) (ln := 3) (a := 12) (b := 20) (z := 0) (by decide +kernel) (ev_eq ((ev_ne hM (by decide)))) ((List.getElem?_set_ne (by decide)).trans ((mo_20 hF))) ?_
      refine wp_g 1 (pc1 := 35) (lv1 := [(0, .ref 146)]) (st1 := [.int 10, .ref 156]) (w1 := (List.set (List.set w 159 (1, 0, ar 900 ((kact h f u)))) 146 (0, 12, (List.set F 26 (.int (nI (kmany u))))))) rfl ?_
      refine wp_ia (i := 10) (ln := 1) (a := 0) (b := 0) (z := 0) (by decide +kernel) (ev_ne ((ev_ne hs (by decide))) (by decide)) (by omega) (by decide) ?_
      rw [hwd]
      refine wp_g 2 (pc1 := 38) (lv1 := [(1, .int (nI wd)), (0, .ref 146)]) (st1 := [.ref 146]) (w1 := (List.set (List.set w 159 (1, 0, ar 900 ((kact h f u)))) 146 (0, 12, (List.set F 26 (.int (nI (kmany u))))))) rfl ?_
      refine wp_cc [.ref 146] [] (i := .invokevirtual 308) (ln := 3) (a := 196) (b := 0) (z := 0) (by decide +kernel) rfl rfl (by decide) rfl (show (1 : Nat) = pm_na 196 by decide +kernel) (Nat.le_of_ble_eq_true rfl) (show (1 : Nat) ≤ pm_n 196 by decide +kernel) (rcv_ok (ev_eq ((ev_ne hM (by decide)))) (by decide +kernel)) (rf_liesOpen (w := (List.set (List.set w 159 (1, 0, ar 900 ((kact h f u)))) 146 (0, 12, (List.set F 26 (.int (nI (kmany u))))))) (ev_eq ((ev_ne hM (by decide)))) (mf_set hF 26 _ (by decide)) (ev_ne ((ev_ne hs (by decide))) (by decide)) hm m8) (fun r7 w8 hq => ?_)
      obtain ⟨rfl, rfl⟩ := hq
      show wp _ 221 41 [(1, .int (nI wd)), (0, .ref 146)] [] (List.set (List.set (List.set w 159 (1, 0, ar 900 ((kact h f u)))) 146 (0, 12, (List.set F 26 (.int (nI (kmany u)))))) 156 (1, 0, ar 130 ((lopen f m)))) _
      refine wp_g 1 (pc1 := 42) (lv1 := [(1, .int (nI wd)), (0, .ref 146)]) (st1 := [.int (nI wd)]) (w1 := (List.set (List.set (List.set w 159 (1, 0, ar 900 ((kact h f u)))) 146 (0, 12, (List.set F 26 (.int (nI (kmany u)))))) 156 (1, 0, ar 130 ((lopen f m))))) rfl ?_
      refine wp_rt (i := .ireturn) (r := some (.int (nI wd))) (ln := 1) (a := 0) (b := 0) (z := 0) (by decide +kernel) rfl (ret_ok (by decide +kernel)) ?_
      exact ⟨rfl, rfl⟩
    · have h4 : ¬ (wd ≠ m) := h4
      exfalso
      omega
  · rw [show tB (0 < m) = 0 from if_neg h3]
    exfalso
    omega
set_option maxRecDepth 100000 in
theorem rf_open_n {d : Nat} {w : pm_H} {F : List Value} (hM : w[146]? = some (0, 12, F)) (hF : MF F) {f h : Nat → Int32} {m : Nat} (hs : w[156]? = some (1, 0, ar 130 f)) (hm : f 0 = nI m) (m8 : m ≤ 8) (hB : w[159]? = some (1, 0, ar 900 h)) {u : Nat} (h26 : F[26]? = some (.int (nI u))) (u20 : u ≤ 20) {wd : Nat} (hwd : f 10 = nI wd) (wd8 : wd ≤ 8) (hn : ¬ (0 < m ∧ wd ≠ m)) : wp (d + 2) 221 0 (lv_args 0 [.ref 146]) [] w (fun r w1 => r = some (.int (-1)) ∧ w = w1) := by
  show wp _ 221 0 [(0, .ref 146)] [] w _
  refine wp_g 1 (pc1 := 1) (lv1 := [(0, .ref 146)]) (st1 := [.ref 146]) (w1 := w) rfl ?_
  refine wp_cc [.ref 146] [] (i := .invokevirtual 301) (ln := 3) (a := 190) (b := 0) (z := 0) (by decide +kernel) rfl rfl (by decide) rfl (show (1 : Nat) = pm_na 190 by decide +kernel) (Nat.le_of_ble_eq_true rfl) (show (1 : Nat) ≤ pm_n 190 by decide +kernel) (rcv_ok hM (by decide +kernel)) (rf_isCloth (w := w) hM hF hs hm m8) (fun r1 w2 hq => ?_)
  obtain ⟨rfl, rfl⟩ := hq
  show wp _ 221 4 [(0, .ref 146)] [.int (tB (0 < m))] w _
  by_cases h3 : 0 < m
  · rw [show tB (0 < m) = 1 from if_pos h3]
    refine wp_g 1 (pc1 := 7) (lv1 := [(0, .ref 146)]) (st1 := []) (w1 := w) rfl ?_
    refine wp_g 1 (pc1 := 8) (lv1 := [(0, .ref 146)]) (st1 := [.ref 146]) (w1 := w) rfl ?_
    refine wp_get (kf := 39) (ln := 3) (a := 12) (b := 20) (z := 0) (by decide +kernel) hM (mo_20 hF) ?_
    refine wp_g 1 (pc1 := 13) (lv1 := [(0, .ref 146)]) (st1 := [.int 10, .ref 156]) (w1 := w) rfl ?_
    refine wp_ia (i := 10) (ln := 1) (a := 0) (b := 0) (z := 0) (by decide +kernel) hs (by omega) (by decide) ?_
    rw [hwd]
    refine wp_g 1 (pc1 := 15) (lv1 := [(0, .ref 146)]) (st1 := [.ref 146, .int (nI wd)]) (w1 := w) rfl ?_
    refine wp_get (kf := 39) (ln := 3) (a := 12) (b := 20) (z := 0) (by decide +kernel) hM (mo_20 hF) ?_
    refine wp_g 1 (pc1 := 19) (lv1 := [(0, .ref 146)]) (st1 := [.int 0, .ref 156, .int (nI wd)]) (w1 := w) rfl ?_
    refine wp_ia (i := 0) (ln := 1) (a := 0) (b := 0) (z := 0) (by decide +kernel) hs (by omega) (by decide) ?_
    rw [hm]
    refine wp_icn (cnd := .ne) (o := 5) (x := wd) (y := m) (ln := 3) (a := 25) (b := 0) (z := 0) (by decide +kernel) (by omega) (by omega) (fun h4 => ?_) (fun h4 => ?_)
    · have h4 : wd ≠ m := h4
      exfalso
      omega
    · have h4 : ¬ (wd ≠ m) := h4
      refine wp_g 1 (pc1 := 24) (lv1 := [(0, .ref 146)]) (st1 := [.int ((-1))]) (w1 := w) rfl ?_
      refine wp_rt (i := .ireturn) (r := some (.int ((-1)))) (ln := 1) (a := 0) (b := 0) (z := 0) (by decide +kernel) rfl (ret_ok (by decide +kernel)) ?_
      exact ⟨rfl, rfl⟩
  · rw [show tB (0 < m) = 0 from if_neg h3]
    refine wp_g 1 (pc1 := 23) (lv1 := [(0, .ref 146)]) (st1 := []) (w1 := w) rfl ?_
    refine wp_g 1 (pc1 := 24) (lv1 := [(0, .ref 146)]) (st1 := [.int ((-1))]) (w1 := w) rfl ?_
    refine wp_rt (i := .ireturn) (r := some (.int ((-1)))) (ln := 1) (a := 0) (b := 0) (z := 0) (by decide +kernel) rfl (ret_ok (by decide +kernel)) ?_
    exact ⟨rfl, rfl⟩
set_option maxRecDepth 100000 in
theorem rf_iron_y {d : Nat} {w : pm_H} {F : List Value} (hM : w[146]? = some (0, 12, F)) (hF : MF F) {f h : Nat → Int32} {m : Nat} (hs : w[156]? = some (1, 0, ar 130 f)) (hm : f 0 = nI m) (m8 : m ≤ 8) (hB : w[159]? = some (1, 0, ar 900 h)) {u : Nat} (h26 : F[26]? = some (.int (nI u))) (u20 : u ≤ 20) {wd : Nat} (hwd : f 10 = nI wd) (wd8 : wd ≤ 8) {j : Nat} (hj : j + 1 < m) (hc : f (44 + j) ≠ 0) (hw : wd = m) : wp (d + 2) 222 0 (lv_args 0 [.ref 146, .int (nI j)]) [] w (fun r w1 => r = some (.int (f (44 + j))) ∧ ((w.set 159 (1, 0, ar 900 (kact h f u))).set 146 (0, 12, F.set 26 (.int (nI (kmany u))))).set 156 (1, 0, ar 130 (upd f (44 + j) 0)) = w1) := by
  show wp _ 222 0 [(0, .ref 146), (1, .int (nI j))] [] w _
  refine wp_g 2 (pc1 := 2) (lv1 := [(0, .ref 146), (1, .int (nI j))]) (st1 := [.int (nI j), .ref 146]) (w1 := w) rfl ?_
  refine wp_cc [.ref 146, .int (nI j)] [] (i := .invokevirtual 319) (ln := 3) (a := 192) (b := 0) (z := 0) (by decide +kernel) rfl rfl (by decide) rfl (show (2 : Nat) = pm_na 192 by decide +kernel) (Nat.le_of_ble_eq_true rfl) (show (2 : Nat) ≤ pm_n 192 by decide +kernel) (rcv_ok hM (by decide +kernel)) (rf_isJoint_n (w := w) hM hF hs hm m8 j (by omega)) (fun r1 w2 hq => ?_)
  obtain ⟨rfl, rfl⟩ := hq
  show wp _ 222 5 [(0, .ref 146), (1, .int (nI j))] [.int (tB (j + 1 < m))] w _
  by_cases h3 : j + 1 < m
  · rw [show tB (j + 1 < m) = 1 from if_pos h3]
    refine wp_g 1 (pc1 := 8) (lv1 := [(0, .ref 146), (1, .int (nI j))]) (st1 := []) (w1 := w) rfl ?_
    refine wp_g 1 (pc1 := 9) (lv1 := [(0, .ref 146), (1, .int (nI j))]) (st1 := [.ref 146]) (w1 := w) rfl ?_
    refine wp_get (kf := 39) (ln := 3) (a := 12) (b := 20) (z := 0) (by decide +kernel) hM (mo_20 hF) ?_
    refine wp_g 3 (pc1 := 16) (lv1 := [(0, .ref 146), (1, .int (nI j))]) (st1 := [.int (44 + (nI j)), .ref 156]) (w1 := w) rfl ?_
    refine wp_top (show 44 + (nI j) = nI (44 + j) from nx_add (rfl : (44 : Int32) = nI 44) (rfl : nI j = nI j)) ?_
    refine wp_ia (i := 44 + j) (ln := 1) (a := 0) (b := 0) (z := 0) (by decide +kernel) hs (by omega) (by decide) ?_
    refine wp_ifc (cnd := .eq) (o := 19) (ln := 3) (a := 36) (b := 0) (z := 0) (by decide +kernel) (fun h4 => ?_) (fun h4 => ?_)
    · have h4 := of_decide_eq_true h4
      exact absurd h4 hc
    · have h4 := of_decide_eq_false h4
      refine wp_g 1 (pc1 := 21) (lv1 := [(0, .ref 146), (1, .int (nI j))]) (st1 := [.ref 146]) (w1 := w) rfl ?_
      refine wp_get (kf := 39) (ln := 3) (a := 12) (b := 20) (z := 0) (by decide +kernel) hM (mo_20 hF) ?_
      refine wp_g 1 (pc1 := 26) (lv1 := [(0, .ref 146), (1, .int (nI j))]) (st1 := [.int 10, .ref 156]) (w1 := w) rfl ?_
      refine wp_ia (i := 10) (ln := 1) (a := 0) (b := 0) (z := 0) (by decide +kernel) hs (by omega) (by decide) ?_
      rw [hwd]
      refine wp_g 1 (pc1 := 28) (lv1 := [(0, .ref 146), (1, .int (nI j))]) (st1 := [.ref 146, .int (nI wd)]) (w1 := w) rfl ?_
      refine wp_get (kf := 39) (ln := 3) (a := 12) (b := 20) (z := 0) (by decide +kernel) hM (mo_20 hF) ?_
      refine wp_g 1 (pc1 := 32) (lv1 := [(0, .ref 146), (1, .int (nI j))]) (st1 := [.int 0, .ref 156, .int (nI wd)]) (w1 := w) rfl ?_
      refine wp_ia (i := 0) (ln := 1) (a := 0) (b := 0) (z := 0) (by decide +kernel) hs (by omega) (by decide) ?_
      rw [hm]
      refine wp_icn (cnd := .eq) (o := 5) (x := wd) (y := m) (ln := 3) (a := 38) (b := 0) (z := 0) (by decide +kernel) (by omega) (by omega) (fun h5 => ?_) (fun h5 => ?_)
      · have h5 : wd = m := h5
        refine wp_g 1 (pc1 := 39) (lv1 := [(0, .ref 146), (1, .int (nI j))]) (st1 := [.ref 146]) (w1 := w) rfl ?_
        refine wp_cc [.ref 146] [] (i := .invokevirtual 381) (ln := 3) (a := 217) (b := 0) (z := 0) (by decide +kernel) rfl rfl (by decide) rfl (show (1 : Nat) = pm_na 217 by decide +kernel) (Nat.le_of_ble_eq_true rfl) (show (1 : Nat) ≤ pm_n 217 by decide +kernel) (rcv_ok hM (by decide +kernel)) (rf_keepsAct (w := w) hM hF hs hB h26 u20) (fun r6 w7 hq => ?_)
        obtain ⟨rfl, rfl⟩ := hq
        show wp _ 222 42 [(0, .ref 146), (1, .int (nI j))] [] (List.set (List.set w 159 (1, 0, ar 900 ((kact h f u)))) 146 (0, 12, (List.set F 26 (.int (nI (kmany u)))))) _
        refine wp_g 1 (pc1 := 43) (lv1 := [(0, .ref 146), (1, .int (nI j))]) (st1 := [.ref 146]) (w1 := (List.set (List.set w 159 (1, 0, ar 900 ((kact h f u)))) 146 (0, 12, (List.set F 26 (.int (nI (kmany u))))))) rfl ?_
        refine wp_get (kf := 39) (ln := 3) (a := 12) (b := 20) (z := 0) (by decide +kernel) (ev_eq ((ev_ne hM (by decide)))) ((List.getElem?_set_ne (by decide)).trans ((mo_20 hF))) ?_
        refine wp_g 3 (pc1 := 50) (lv1 := [(0, .ref 146), (1, .int (nI j))]) (st1 := [.int (44 + (nI j)), .ref 156]) (w1 := (List.set (List.set w 159 (1, 0, ar 900 ((kact h f u)))) 146 (0, 12, (List.set F 26 (.int (nI (kmany u))))))) rfl ?_
        refine wp_top (show 44 + (nI j) = nI (44 + j) from nx_add (rfl : (44 : Int32) = nI 44) (rfl : nI j = nI j)) ?_
        refine wp_ia (i := 44 + j) (ln := 1) (a := 0) (b := 0) (z := 0) (by decide +kernel) (ev_ne ((ev_ne hs (by decide))) (by decide)) (by omega) (by decide) ?_
        refine wp_g 2 (pc1 := 53) (lv1 := [(2, .int (f (44 + j))), (0, .ref 146), (1, .int (nI j))]) (st1 := [.ref 146]) (w1 := (List.set (List.set w 159 (1, 0, ar 900 ((kact h f u)))) 146 (0, 12, (List.set F 26 (.int (nI (kmany u))))))) rfl ?_
        refine wp_get (kf := 39) (ln := 3) (a := 12) (b := 20) (z := 0) (by decide +kernel) (ev_eq ((ev_ne hM (by decide)))) ((List.getElem?_set_ne (by decide)).trans ((mo_20 hF))) ?_
        refine wp_g 3 (pc1 := 60) (lv1 := [(2, .int (f (44 + j))), (0, .ref 146), (1, .int (nI j))]) (st1 := [.int (44 + (nI j)), .ref 156]) (w1 := (List.set (List.set w 159 (1, 0, ar 900 ((kact h f u)))) 146 (0, 12, (List.set F 26 (.int (nI (kmany u))))))) rfl ?_
        refine wp_top (show 44 + (nI j) = nI (44 + j) from nx_add (rfl : (44 : Int32) = nI 44) (rfl : nI j = nI j)) ?_
        refine wp_g 1 (pc1 := 61) (lv1 := [(2, .int (f (44 + j))), (0, .ref 146), (1, .int (nI j))]) (st1 := [.int 0, .int (nI (44 + j)), .ref 156]) (w1 := (List.set (List.set w 159 (1, 0, ar 900 ((kact h f u)))) 146 (0, 12, (List.set F 26 (.int (nI (kmany u))))))) rfl ?_
        refine wp_is (i := 44 + j) (ln := 1) (a := 0) (b := 0) (z := 0) (by decide +kernel) (ev_ne ((ev_ne hs (by decide))) (by decide)) (by omega) (by decide) ?_
        refine wp_g 1 (pc1 := 63) (lv1 := [(2, .int (f (44 + j))), (0, .ref 146), (1, .int (nI j))]) (st1 := [.int (f (44 + j))]) (w1 := (List.set (List.set (List.set w 159 (1, 0, ar 900 ((kact h f u)))) 146 (0, 12, (List.set F 26 (.int (nI (kmany u)))))) 156 (1, 0, ar 130 ((upd f (44 + j) 0))))) rfl ?_
        refine wp_rt (i := .ireturn) (r := some (.int (f (44 + j)))) (ln := 1) (a := 0) (b := 0) (z := 0) (by decide +kernel) rfl (ret_ok (by decide +kernel)) ?_
        exact ⟨rfl, rfl⟩
      · have h5 : ¬ (wd = m) := h5
        exfalso
        omega
  · rw [show tB (j + 1 < m) = 0 from if_neg h3]
    exfalso
    omega
set_option maxRecDepth 100000 in
theorem rf_iron_n {d : Nat} {w : pm_H} {F : List Value} (hM : w[146]? = some (0, 12, F)) (hF : MF F) {f h : Nat → Int32} {m : Nat} (hs : w[156]? = some (1, 0, ar 130 f)) (hm : f 0 = nI m) (m8 : m ≤ 8) (hB : w[159]? = some (1, 0, ar 900 h)) {u : Nat} (h26 : F[26]? = some (.int (nI u))) (u20 : u ≤ 20) {wd : Nat} (hwd : f 10 = nI wd) (wd8 : wd ≤ 8) {j : Nat} (hj : j + 1 < m) (hn : f (44 + j) = 0 ∨ wd ≠ m) : wp (d + 2) 222 0 (lv_args 0 [.ref 146, .int (nI j)]) [] w (fun r w1 => r = some (.int (-1)) ∧ w = w1) := by
  show wp _ 222 0 [(0, .ref 146), (1, .int (nI j))] [] w _
  refine wp_g 2 (pc1 := 2) (lv1 := [(0, .ref 146), (1, .int (nI j))]) (st1 := [.int (nI j), .ref 146]) (w1 := w) rfl ?_
  refine wp_cc [.ref 146, .int (nI j)] [] (i := .invokevirtual 319) (ln := 3) (a := 192) (b := 0) (z := 0) (by decide +kernel) rfl rfl (by decide) rfl (show (2 : Nat) = pm_na 192 by decide +kernel) (Nat.le_of_ble_eq_true rfl) (show (2 : Nat) ≤ pm_n 192 by decide +kernel) (rcv_ok hM (by decide +kernel)) (rf_isJoint_n (w := w) hM hF hs hm m8 j (by omega)) (fun r1 w2 hq => ?_)
  obtain ⟨rfl, rfl⟩ := hq
  show wp _ 222 5 [(0, .ref 146), (1, .int (nI j))] [.int (tB (j + 1 < m))] w _
  by_cases h3 : j + 1 < m
  · rw [show tB (j + 1 < m) = 1 from if_pos h3]
    refine wp_g 1 (pc1 := 8) (lv1 := [(0, .ref 146), (1, .int (nI j))]) (st1 := []) (w1 := w) rfl ?_
    refine wp_g 1 (pc1 := 9) (lv1 := [(0, .ref 146), (1, .int (nI j))]) (st1 := [.ref 146]) (w1 := w) rfl ?_
    refine wp_get (kf := 39) (ln := 3) (a := 12) (b := 20) (z := 0) (by decide +kernel) hM (mo_20 hF) ?_
    refine wp_g 3 (pc1 := 16) (lv1 := [(0, .ref 146), (1, .int (nI j))]) (st1 := [.int (44 + (nI j)), .ref 156]) (w1 := w) rfl ?_
    refine wp_top (show 44 + (nI j) = nI (44 + j) from nx_add (rfl : (44 : Int32) = nI 44) (rfl : nI j = nI j)) ?_
    refine wp_ia (i := 44 + j) (ln := 1) (a := 0) (b := 0) (z := 0) (by decide +kernel) hs (by omega) (by decide) ?_
    refine wp_ifc (cnd := .eq) (o := 19) (ln := 3) (a := 36) (b := 0) (z := 0) (by decide +kernel) (fun h4 => ?_) (fun h4 => ?_)
    · have h4 := of_decide_eq_true h4
      refine wp_g 1 (pc1 := 37) (lv1 := [(0, .ref 146), (1, .int (nI j))]) (st1 := [.int ((-1))]) (w1 := w) rfl ?_
      refine wp_rt (i := .ireturn) (r := some (.int ((-1)))) (ln := 1) (a := 0) (b := 0) (z := 0) (by decide +kernel) rfl (ret_ok (by decide +kernel)) ?_
      exact ⟨rfl, rfl⟩
    · have h4 := of_decide_eq_false h4
      refine wp_g 1 (pc1 := 21) (lv1 := [(0, .ref 146), (1, .int (nI j))]) (st1 := [.ref 146]) (w1 := w) rfl ?_
      refine wp_get (kf := 39) (ln := 3) (a := 12) (b := 20) (z := 0) (by decide +kernel) hM (mo_20 hF) ?_
      refine wp_g 1 (pc1 := 26) (lv1 := [(0, .ref 146), (1, .int (nI j))]) (st1 := [.int 10, .ref 156]) (w1 := w) rfl ?_
      refine wp_ia (i := 10) (ln := 1) (a := 0) (b := 0) (z := 0) (by decide +kernel) hs (by omega) (by decide) ?_
      rw [hwd]
      refine wp_g 1 (pc1 := 28) (lv1 := [(0, .ref 146), (1, .int (nI j))]) (st1 := [.ref 146, .int (nI wd)]) (w1 := w) rfl ?_
      refine wp_get (kf := 39) (ln := 3) (a := 12) (b := 20) (z := 0) (by decide +kernel) hM (mo_20 hF) ?_
      refine wp_g 1 (pc1 := 32) (lv1 := [(0, .ref 146), (1, .int (nI j))]) (st1 := [.int 0, .ref 156, .int (nI wd)]) (w1 := w) rfl ?_
      refine wp_ia (i := 0) (ln := 1) (a := 0) (b := 0) (z := 0) (by decide +kernel) hs (by omega) (by decide) ?_
      rw [hm]
      refine wp_icn (cnd := .eq) (o := 5) (x := wd) (y := m) (ln := 3) (a := 38) (b := 0) (z := 0) (by decide +kernel) (by omega) (by omega) (fun h5 => ?_) (fun h5 => ?_)
      · have h5 : wd = m := h5
        exfalso
        rcases hn with hn | hn
        · exact absurd hn (by assumption)
        · omega
      · have h5 : ¬ (wd = m) := h5
        refine wp_g 1 (pc1 := 37) (lv1 := [(0, .ref 146), (1, .int (nI j))]) (st1 := [.int ((-1))]) (w1 := w) rfl ?_
        refine wp_rt (i := .ireturn) (r := some (.int ((-1)))) (ln := 1) (a := 0) (b := 0) (z := 0) (by decide +kernel) rfl (ret_ok (by decide +kernel)) ?_
        exact ⟨rfl, rfl⟩
  · rw [show tB (j + 1 < m) = 0 from if_neg h3]
    exfalso
    omega
set_option maxRecDepth 100000 in
theorem rf_iron_o {d : Nat} {w : pm_H} {F : List Value} (hM : w[146]? = some (0, 12, F)) (hF : MF F) {f h : Nat → Int32} {m : Nat} (hs : w[156]? = some (1, 0, ar 130 f)) (hm : f 0 = nI m) (m8 : m ≤ 8) (hB : w[159]? = some (1, 0, ar 900 h)) {u : Nat} (h26 : F[26]? = some (.int (nI u))) (u20 : u ≤ 20) {wd : Nat} (hwd : f 10 = nI wd) (wd8 : wd ≤ 8) {c : Int32} (hn : ¬ (0 ≤ c.toInt ∧ c.toInt + 1 < m)) : wp (d + 2) 222 0 (lv_args 0 [.ref 146, .int c]) [] w (fun r w1 => r = some (.int (-1)) ∧ w = w1) := by
  show wp _ 222 0 [(0, .ref 146), (1, .int c)] [] w _
  refine wp_g 2 (pc1 := 2) (lv1 := [(0, .ref 146), (1, .int c)]) (st1 := [.int c, .ref 146]) (w1 := w) rfl ?_
  refine wp_cc [.ref 146, .int c] [] (i := .invokevirtual 319) (ln := 3) (a := 192) (b := 0) (z := 0) (by decide +kernel) rfl rfl (by decide) rfl (show (2 : Nat) = pm_na 192 by decide +kernel) (Nat.le_of_ble_eq_true rfl) (show (2 : Nat) ≤ pm_n 192 by decide +kernel) (rcv_ok hM (by decide +kernel)) (rf_isJoint (w := w) hM hF hs hm m8 c) (fun r1 w2 hq => ?_)
  obtain ⟨rfl, rfl⟩ := hq
  show wp _ 222 5 [(0, .ref 146), (1, .int c)] [.int (tB (0 ≤ Int32.toInt c ∧ Int32.toInt c + 1 < m))] w _
  by_cases h3 : 0 ≤ Int32.toInt c ∧ Int32.toInt c + 1 < m
  · rw [show tB (0 ≤ Int32.toInt c ∧ Int32.toInt c + 1 < m) = 1 from if_pos h3]
    exfalso
    omega
  · rw [show tB (0 ≤ Int32.toInt c ∧ Int32.toInt c + 1 < m) = 0 from if_neg h3]
    refine wp_g 1 (pc1 := 36) (lv1 := [(0, .ref 146), (1, .int c)]) (st1 := []) (w1 := w) rfl ?_
    refine wp_g 1 (pc1 := 37) (lv1 := [(0, .ref 146), (1, .int c)]) (st1 := [.int ((-1))]) (w1 := w) rfl ?_
    refine wp_rt (i := .ireturn) (r := some (.int ((-1)))) (ln := 1) (a := 0) (b := 0) (z := 0) (by decide +kernel) rfl (ret_ok (by decide +kernel)) ?_
    exact ⟨rfl, rfl⟩
set_option maxRecDepth 100000 in
theorem rf_give_y {d : Nat} {w : pm_H} {F : List Value} (hM : w[146]? = some (0, 12, F)) (hF : MF F) {f h : Nat → Int32} {m : Nat} (hs : w[156]? = some (1, 0, ar 130 f)) (hm : f 0 = nI m) (m8 : m ≤ 8) (hB : w[159]? = some (1, 0, ar 900 h)) {u : Nat} (h26 : F[26]? = some (.int (nI u))) (u20 : u ≤ 20) {wd : Nat} (hwd : f 10 = nI wd) (wd8 : wd ≤ 8) {p : Nat} (hp : f 1 = nI p) (p4 : p ≤ 4) {c q : Nat} (hc : c < m) (hq : q < p) (ho : ¬ f (12 + 4 * c + 3) < 0) (hn : f (12 + 4 * c + 3) ≠ nI q) : wp (d + 2) 223 0 (lv_args 0 [.ref 146, .int (nI c), .int (nI q)]) [] w (fun r w1 => r = some (.int (f (12 + 4 * c + 3))) ∧ ((w.set 159 (1, 0, ar 900 (kact h f u))).set 146 (0, 12, F.set 26 (.int (nI (kmany u))))).set 156 (1, 0, ar 130 (upd f (12 + 4 * c + 3) (nI q))) = w1) := by
  show wp _ 223 0 [(0, .ref 146), (1, .int (nI c)), (2, .int (nI q))] [] w _
  refine wp_g 2 (pc1 := 2) (lv1 := [(0, .ref 146), (1, .int (nI c)), (2, .int (nI q))]) (st1 := [.int (nI c), .ref 146]) (w1 := w) rfl ?_
  refine wp_cc [.ref 146, .int (nI c)] [] (i := .invokevirtual 314) (ln := 3) (a := 191) (b := 0) (z := 0) (by decide +kernel) rfl rfl (by decide) rfl (show (2 : Nat) = pm_na 191 by decide +kernel) (Nat.le_of_ble_eq_true rfl) (show (2 : Nat) ≤ pm_n 191 by decide +kernel) (rcv_ok hM (by decide +kernel)) (rf_isCell_n (w := w) hM hF hs hm m8 c (by omega)) (fun r1 w2 hq => ?_)
  obtain ⟨rfl, rfl⟩ := hq
  show wp _ 223 5 [(0, .ref 146), (1, .int (nI c)), (2, .int (nI q))] [.int (tB (c < m))] w _
  by_cases h3 : c < m
  · rw [show tB (c < m) = 1 from if_pos h3]
    refine wp_g 1 (pc1 := 8) (lv1 := [(0, .ref 146), (1, .int (nI c)), (2, .int (nI q))]) (st1 := []) (w1 := w) rfl ?_
    refine wp_g 2 (pc1 := 10) (lv1 := [(0, .ref 146), (1, .int (nI c)), (2, .int (nI q))]) (st1 := [.int (nI q), .ref 146]) (w1 := w) rfl ?_
    refine wp_cc [.ref 146, .int (nI q)] [] (i := .invokevirtual 322) (ln := 3) (a := 193) (b := 0) (z := 0) (by decide +kernel) rfl rfl (by decide) rfl (show (2 : Nat) = pm_na 193 by decide +kernel) (Nat.le_of_ble_eq_true rfl) (show (2 : Nat) ≤ pm_n 193 by decide +kernel) (rcv_ok hM (by decide +kernel)) (rf_isPerson_n (w := w) hM hF hs hp p4 q (by omega)) (fun r4 w5 hq => ?_)
    obtain ⟨rfl, rfl⟩ := hq
    show wp _ 223 13 [(0, .ref 146), (1, .int (nI c)), (2, .int (nI q))] [.int (tB (q < p))] w _
    by_cases h6 : q < p
    · rw [show tB (q < p) = 1 from if_pos h6]
      refine wp_g 1 (pc1 := 16) (lv1 := [(0, .ref 146), (1, .int (nI c)), (2, .int (nI q))]) (st1 := []) (w1 := w) rfl ?_
      refine wp_g 3 (pc1 := 19) (lv1 := [(0, .ref 146), (1, .int (nI c)), (2, .int (nI q))]) (st1 := [.int 3, .int (nI c), .ref 146]) (w1 := w) rfl ?_
      refine wp_cc [.ref 146, .int (nI c), .int 3] [] (i := .invokevirtual 304) (ln := 3) (a := 194) (b := 0) (z := 0) (by decide +kernel) rfl rfl (by decide) rfl (show (3 : Nat) = pm_na 194 by decide +kernel) (Nat.le_of_ble_eq_true rfl) (show (3 : Nat) ≤ pm_n 194 by decide +kernel) (rcv_ok hM (by decide +kernel)) (rf_cellOf (w := w) hM hF hs (c := c) (t := 3) (by omega) (by omega)) (fun r7 w8 hq => ?_)
      obtain ⟨rfl, rfl⟩ := hq
      show wp _ 223 22 [(0, .ref 146), (1, .int (nI c)), (2, .int (nI q))] [.int (f (12 + 4 * c + 3))] w _
      refine wp_ifc (cnd := .lt) (o := 13) (ln := 3) (a := 35) (b := 0) (z := 0) (by decide +kernel) (fun h9 => ?_) (fun h9 => ?_)
      · have h9 := of_decide_eq_true h9
        exact absurd h9 ho
      · have h9 := of_decide_eq_false h9
        refine wp_g 3 (pc1 := 28) (lv1 := [(0, .ref 146), (1, .int (nI c)), (2, .int (nI q))]) (st1 := [.int 3, .int (nI c), .ref 146]) (w1 := w) rfl ?_
        refine wp_cc [.ref 146, .int (nI c), .int 3] [] (i := .invokevirtual 304) (ln := 3) (a := 194) (b := 0) (z := 0) (by decide +kernel) rfl rfl (by decide) rfl (show (3 : Nat) = pm_na 194 by decide +kernel) (Nat.le_of_ble_eq_true rfl) (show (3 : Nat) ≤ pm_n 194 by decide +kernel) (rcv_ok hM (by decide +kernel)) (rf_cellOf (w := w) hM hF hs (c := c) (t := 3) (by omega) (by omega)) (fun r10 w11 hq => ?_)
        obtain ⟨rfl, rfl⟩ := hq
        show wp _ 223 31 [(0, .ref 146), (1, .int (nI c)), (2, .int (nI q))] [.int (f (12 + 4 * c + 3))] w _
        refine wp_g 1 (pc1 := 32) (lv1 := [(0, .ref 146), (1, .int (nI c)), (2, .int (nI q))]) (st1 := [.int (nI q), .int (f (12 + 4 * c + 3))]) (w1 := w) rfl ?_
        refine wp_icm (cnd := .ne) (o := 5) (ln := 3) (a := 37) (b := 0) (z := 0) (by decide +kernel) (fun h12 => ?_) (fun h12 => ?_)
        · have h12 := of_decide_eq_true h12
          refine wp_g 1 (pc1 := 38) (lv1 := [(0, .ref 146), (1, .int (nI c)), (2, .int (nI q))]) (st1 := [.ref 146]) (w1 := w) rfl ?_
          refine wp_cc [.ref 146] [] (i := .invokevirtual 381) (ln := 3) (a := 217) (b := 0) (z := 0) (by decide +kernel) rfl rfl (by decide) rfl (show (1 : Nat) = pm_na 217 by decide +kernel) (Nat.le_of_ble_eq_true rfl) (show (1 : Nat) ≤ pm_n 217 by decide +kernel) (rcv_ok hM (by decide +kernel)) (rf_keepsAct (w := w) hM hF hs hB h26 u20) (fun r13 w14 hq => ?_)
          obtain ⟨rfl, rfl⟩ := hq
          show wp _ 223 41 [(0, .ref 146), (1, .int (nI c)), (2, .int (nI q))] [] (List.set (List.set w 159 (1, 0, ar 900 ((kact h f u)))) 146 (0, 12, (List.set F 26 (.int (nI (kmany u)))))) _
          refine wp_g 3 (pc1 := 44) (lv1 := [(0, .ref 146), (1, .int (nI c)), (2, .int (nI q))]) (st1 := [.int 3, .int (nI c), .ref 146]) (w1 := (List.set (List.set w 159 (1, 0, ar 900 ((kact h f u)))) 146 (0, 12, (List.set F 26 (.int (nI (kmany u))))))) rfl ?_
          refine wp_cc [.ref 146, .int (nI c), .int 3] [] (i := .invokevirtual 304) (ln := 3) (a := 194) (b := 0) (z := 0) (by decide +kernel) rfl rfl (by decide) rfl (show (3 : Nat) = pm_na 194 by decide +kernel) (Nat.le_of_ble_eq_true rfl) (show (3 : Nat) ≤ pm_n 194 by decide +kernel) (rcv_ok (ev_eq ((ev_ne hM (by decide)))) (by decide +kernel)) (rf_cellOf (w := (List.set (List.set w 159 (1, 0, ar 900 ((kact h f u)))) 146 (0, 12, (List.set F 26 (.int (nI (kmany u))))))) (ev_eq ((ev_ne hM (by decide)))) (mf_set hF 26 _ (by decide)) (ev_ne ((ev_ne hs (by decide))) (by decide)) (c := c) (t := 3) (by omega) (by omega)) (fun r15 w16 hq => ?_)
          obtain ⟨rfl, rfl⟩ := hq
          show wp _ 223 47 [(0, .ref 146), (1, .int (nI c)), (2, .int (nI q))] [.int (f (12 + 4 * c + 3))] (List.set (List.set w 159 (1, 0, ar 900 ((kact h f u)))) 146 (0, 12, (List.set F 26 (.int (nI (kmany u)))))) _
          refine wp_g 2 (pc1 := 49) (lv1 := [(3, .int (f (12 + 4 * c + 3))), (0, .ref 146), (1, .int (nI c)), (2, .int (nI q))]) (st1 := [.ref 146]) (w1 := (List.set (List.set w 159 (1, 0, ar 900 ((kact h f u)))) 146 (0, 12, (List.set F 26 (.int (nI (kmany u))))))) rfl ?_
          refine wp_get (kf := 39) (ln := 3) (a := 12) (b := 20) (z := 0) (by decide +kernel) (ev_eq ((ev_ne hM (by decide)))) ((List.getElem?_set_ne (by decide)).trans ((mo_20 hF))) ?_
          refine wp_g 4 (pc1 := 57) (lv1 := [(3, .int (f (12 + 4 * c + 3))), (0, .ref 146), (1, .int (nI c)), (2, .int (nI q))]) (st1 := [.int (4 * (nI c)), .int 12, .ref 156]) (w1 := (List.set (List.set w 159 (1, 0, ar 900 ((kact h f u)))) 146 (0, 12, (List.set F 26 (.int (nI (kmany u))))))) rfl ?_
          refine wp_top (show 4 * (nI c) = nI (4 * c) from nx_mul (rfl : (4 : Int32) = nI 4) (rfl : nI c = nI c)) ?_
          refine wp_g 1 (pc1 := 58) (lv1 := [(3, .int (f (12 + 4 * c + 3))), (0, .ref 146), (1, .int (nI c)), (2, .int (nI q))]) (st1 := [.int (12 + (nI (4 * c))), .ref 156]) (w1 := (List.set (List.set w 159 (1, 0, ar 900 ((kact h f u)))) 146 (0, 12, (List.set F 26 (.int (nI (kmany u))))))) rfl ?_
          refine wp_top (show 12 + (nI (4 * c)) = nI (12 + (4 * c)) from nx_add (rfl : (12 : Int32) = nI 12) (rfl : nI (4 * c) = nI (4 * c))) ?_
          refine wp_g 2 (pc1 := 60) (lv1 := [(3, .int (f (12 + 4 * c + 3))), (0, .ref 146), (1, .int (nI c)), (2, .int (nI q))]) (st1 := [.int ((nI (12 + (4 * c))) + 3), .ref 156]) (w1 := (List.set (List.set w 159 (1, 0, ar 900 ((kact h f u)))) 146 (0, 12, (List.set F 26 (.int (nI (kmany u))))))) rfl ?_
          refine wp_top (show (nI (12 + (4 * c))) + 3 = nI ((12 + (4 * c)) + 3) from nx_add (rfl : nI (12 + (4 * c)) = nI (12 + (4 * c))) (rfl : (3 : Int32) = nI 3)) ?_
          refine wp_g 1 (pc1 := 61) (lv1 := [(3, .int (f (12 + 4 * c + 3))), (0, .ref 146), (1, .int (nI c)), (2, .int (nI q))]) (st1 := [.int (nI q), .int (nI ((12 + (4 * c)) + 3)), .ref 156]) (w1 := (List.set (List.set w 159 (1, 0, ar 900 ((kact h f u)))) 146 (0, 12, (List.set F 26 (.int (nI (kmany u))))))) rfl ?_
          refine wp_is (i := (12 + (4 * c)) + 3) (ln := 1) (a := 0) (b := 0) (z := 0) (by decide +kernel) (ev_ne ((ev_ne hs (by decide))) (by decide)) (by omega) (by decide) ?_
          refine wp_g 1 (pc1 := 63) (lv1 := [(3, .int (f (12 + 4 * c + 3))), (0, .ref 146), (1, .int (nI c)), (2, .int (nI q))]) (st1 := [.int (f (12 + 4 * c + 3))]) (w1 := (List.set (List.set (List.set w 159 (1, 0, ar 900 ((kact h f u)))) 146 (0, 12, (List.set F 26 (.int (nI (kmany u)))))) 156 (1, 0, ar 130 ((upd f ((12 + (4 * c)) + 3) (nI q)))))) rfl ?_
          refine wp_rt (i := .ireturn) (r := some (.int (f (12 + 4 * c + 3)))) (ln := 1) (a := 0) (b := 0) (z := 0) (by decide +kernel) rfl (ret_ok (by decide +kernel)) ?_
          exact ⟨rfl, rfl⟩
        · have h12 := Classical.not_not.mp (of_decide_eq_false h12)
          exact absurd h12 hn
    · rw [show tB (q < p) = 0 from if_neg h6]
      exfalso
      omega
  · rw [show tB (c < m) = 0 from if_neg h3]
    exfalso
    omega
set_option maxRecDepth 100000 in
theorem rf_give_n {d : Nat} {w : pm_H} {F : List Value} (hM : w[146]? = some (0, 12, F)) (hF : MF F) {f h : Nat → Int32} {m : Nat} (hs : w[156]? = some (1, 0, ar 130 f)) (hm : f 0 = nI m) (m8 : m ≤ 8) (hB : w[159]? = some (1, 0, ar 900 h)) {u : Nat} (h26 : F[26]? = some (.int (nI u))) (u20 : u ≤ 20) {wd : Nat} (hwd : f 10 = nI wd) (wd8 : wd ≤ 8) {p : Nat} (hp : f 1 = nI p) (p4 : p ≤ 4) {c q : Nat} (hc : c < m) (hq : q < p) (hn : f (12 + 4 * c + 3) < 0 ∨ f (12 + 4 * c + 3) = nI q) : wp (d + 2) 223 0 (lv_args 0 [.ref 146, .int (nI c), .int (nI q)]) [] w (fun r w1 => r = some (.int (-1)) ∧ w = w1) := by
  show wp _ 223 0 [(0, .ref 146), (1, .int (nI c)), (2, .int (nI q))] [] w _
  refine wp_g 2 (pc1 := 2) (lv1 := [(0, .ref 146), (1, .int (nI c)), (2, .int (nI q))]) (st1 := [.int (nI c), .ref 146]) (w1 := w) rfl ?_
  refine wp_cc [.ref 146, .int (nI c)] [] (i := .invokevirtual 314) (ln := 3) (a := 191) (b := 0) (z := 0) (by decide +kernel) rfl rfl (by decide) rfl (show (2 : Nat) = pm_na 191 by decide +kernel) (Nat.le_of_ble_eq_true rfl) (show (2 : Nat) ≤ pm_n 191 by decide +kernel) (rcv_ok hM (by decide +kernel)) (rf_isCell_n (w := w) hM hF hs hm m8 c (by omega)) (fun r1 w2 hq => ?_)
  obtain ⟨rfl, rfl⟩ := hq
  show wp _ 223 5 [(0, .ref 146), (1, .int (nI c)), (2, .int (nI q))] [.int (tB (c < m))] w _
  by_cases h3 : c < m
  · rw [show tB (c < m) = 1 from if_pos h3]
    refine wp_g 1 (pc1 := 8) (lv1 := [(0, .ref 146), (1, .int (nI c)), (2, .int (nI q))]) (st1 := []) (w1 := w) rfl ?_
    refine wp_g 2 (pc1 := 10) (lv1 := [(0, .ref 146), (1, .int (nI c)), (2, .int (nI q))]) (st1 := [.int (nI q), .ref 146]) (w1 := w) rfl ?_
    refine wp_cc [.ref 146, .int (nI q)] [] (i := .invokevirtual 322) (ln := 3) (a := 193) (b := 0) (z := 0) (by decide +kernel) rfl rfl (by decide) rfl (show (2 : Nat) = pm_na 193 by decide +kernel) (Nat.le_of_ble_eq_true rfl) (show (2 : Nat) ≤ pm_n 193 by decide +kernel) (rcv_ok hM (by decide +kernel)) (rf_isPerson_n (w := w) hM hF hs hp p4 q (by omega)) (fun r4 w5 hq => ?_)
    obtain ⟨rfl, rfl⟩ := hq
    show wp _ 223 13 [(0, .ref 146), (1, .int (nI c)), (2, .int (nI q))] [.int (tB (q < p))] w _
    by_cases h6 : q < p
    · rw [show tB (q < p) = 1 from if_pos h6]
      refine wp_g 1 (pc1 := 16) (lv1 := [(0, .ref 146), (1, .int (nI c)), (2, .int (nI q))]) (st1 := []) (w1 := w) rfl ?_
      refine wp_g 3 (pc1 := 19) (lv1 := [(0, .ref 146), (1, .int (nI c)), (2, .int (nI q))]) (st1 := [.int 3, .int (nI c), .ref 146]) (w1 := w) rfl ?_
      refine wp_cc [.ref 146, .int (nI c), .int 3] [] (i := .invokevirtual 304) (ln := 3) (a := 194) (b := 0) (z := 0) (by decide +kernel) rfl rfl (by decide) rfl (show (3 : Nat) = pm_na 194 by decide +kernel) (Nat.le_of_ble_eq_true rfl) (show (3 : Nat) ≤ pm_n 194 by decide +kernel) (rcv_ok hM (by decide +kernel)) (rf_cellOf (w := w) hM hF hs (c := c) (t := 3) (by omega) (by omega)) (fun r7 w8 hq => ?_)
      obtain ⟨rfl, rfl⟩ := hq
      show wp _ 223 22 [(0, .ref 146), (1, .int (nI c)), (2, .int (nI q))] [.int (f (12 + 4 * c + 3))] w _
      refine wp_ifc (cnd := .lt) (o := 13) (ln := 3) (a := 35) (b := 0) (z := 0) (by decide +kernel) (fun h9 => ?_) (fun h9 => ?_)
      · have h9 := of_decide_eq_true h9
        refine wp_g 1 (pc1 := 36) (lv1 := [(0, .ref 146), (1, .int (nI c)), (2, .int (nI q))]) (st1 := [.int ((-1))]) (w1 := w) rfl ?_
        refine wp_rt (i := .ireturn) (r := some (.int ((-1)))) (ln := 1) (a := 0) (b := 0) (z := 0) (by decide +kernel) rfl (ret_ok (by decide +kernel)) ?_
        exact ⟨rfl, rfl⟩
      · have h9 := of_decide_eq_false h9
        refine wp_g 3 (pc1 := 28) (lv1 := [(0, .ref 146), (1, .int (nI c)), (2, .int (nI q))]) (st1 := [.int 3, .int (nI c), .ref 146]) (w1 := w) rfl ?_
        refine wp_cc [.ref 146, .int (nI c), .int 3] [] (i := .invokevirtual 304) (ln := 3) (a := 194) (b := 0) (z := 0) (by decide +kernel) rfl rfl (by decide) rfl (show (3 : Nat) = pm_na 194 by decide +kernel) (Nat.le_of_ble_eq_true rfl) (show (3 : Nat) ≤ pm_n 194 by decide +kernel) (rcv_ok hM (by decide +kernel)) (rf_cellOf (w := w) hM hF hs (c := c) (t := 3) (by omega) (by omega)) (fun r10 w11 hq => ?_)
        obtain ⟨rfl, rfl⟩ := hq
        show wp _ 223 31 [(0, .ref 146), (1, .int (nI c)), (2, .int (nI q))] [.int (f (12 + 4 * c + 3))] w _
        refine wp_g 1 (pc1 := 32) (lv1 := [(0, .ref 146), (1, .int (nI c)), (2, .int (nI q))]) (st1 := [.int (nI q), .int (f (12 + 4 * c + 3))]) (w1 := w) rfl ?_
        refine wp_icm (cnd := .ne) (o := 5) (ln := 3) (a := 37) (b := 0) (z := 0) (by decide +kernel) (fun h12 => ?_) (fun h12 => ?_)
        · have h12 := of_decide_eq_true h12
          exfalso
          rcases hn with hn | hn
          · exact absurd hn (by assumption)
          · exact absurd hn h12
        · have h12 := Classical.not_not.mp (of_decide_eq_false h12)
          refine wp_g 1 (pc1 := 36) (lv1 := [(0, .ref 146), (1, .int (nI c)), (2, .int (nI q))]) (st1 := [.int ((-1))]) (w1 := w) rfl ?_
          refine wp_rt (i := .ireturn) (r := some (.int ((-1)))) (ln := 1) (a := 0) (b := 0) (z := 0) (by decide +kernel) rfl (ret_ok (by decide +kernel)) ?_
          exact ⟨rfl, rfl⟩
    · rw [show tB (q < p) = 0 from if_neg h6]
      exfalso
      omega
  · rw [show tB (c < m) = 0 from if_neg h3]
    exfalso
    omega
set_option maxRecDepth 100000 in
theorem rf_give_o {d : Nat} {w : pm_H} {F : List Value} (hM : w[146]? = some (0, 12, F)) (hF : MF F) {f h : Nat → Int32} {m : Nat} (hs : w[156]? = some (1, 0, ar 130 f)) (hm : f 0 = nI m) (m8 : m ≤ 8) (hB : w[159]? = some (1, 0, ar 900 h)) {u : Nat} (h26 : F[26]? = some (.int (nI u))) (u20 : u ≤ 20) {wd : Nat} (hwd : f 10 = nI wd) (wd8 : wd ≤ 8) {p : Nat} (hp : f 1 = nI p) (p4 : p ≤ 4) {c q : Int32} (hn : ¬ ((0 ≤ c.toInt ∧ c.toInt < m) ∧ 0 ≤ q.toInt ∧ q.toInt < p)) : wp (d + 2) 223 0 (lv_args 0 [.ref 146, .int c, .int q]) [] w (fun r w1 => r = some (.int (-1)) ∧ w = w1) := by
  show wp _ 223 0 [(0, .ref 146), (1, .int c), (2, .int q)] [] w _
  refine wp_g 2 (pc1 := 2) (lv1 := [(0, .ref 146), (1, .int c), (2, .int q)]) (st1 := [.int c, .ref 146]) (w1 := w) rfl ?_
  refine wp_cc [.ref 146, .int c] [] (i := .invokevirtual 314) (ln := 3) (a := 191) (b := 0) (z := 0) (by decide +kernel) rfl rfl (by decide) rfl (show (2 : Nat) = pm_na 191 by decide +kernel) (Nat.le_of_ble_eq_true rfl) (show (2 : Nat) ≤ pm_n 191 by decide +kernel) (rcv_ok hM (by decide +kernel)) (rf_isCell (w := w) hM hF hs hm m8 c) (fun r1 w2 hq => ?_)
  obtain ⟨rfl, rfl⟩ := hq
  show wp _ 223 5 [(0, .ref 146), (1, .int c), (2, .int q)] [.int (tB (0 ≤ Int32.toInt c ∧ Int32.toInt c < m))] w _
  by_cases h3 : 0 ≤ Int32.toInt c ∧ Int32.toInt c < m
  · rw [show tB (0 ≤ Int32.toInt c ∧ Int32.toInt c < m) = 1 from if_pos h3]
    refine wp_g 1 (pc1 := 8) (lv1 := [(0, .ref 146), (1, .int c), (2, .int q)]) (st1 := []) (w1 := w) rfl ?_
    refine wp_g 2 (pc1 := 10) (lv1 := [(0, .ref 146), (1, .int c), (2, .int q)]) (st1 := [.int q, .ref 146]) (w1 := w) rfl ?_
    refine wp_cc [.ref 146, .int q] [] (i := .invokevirtual 322) (ln := 3) (a := 193) (b := 0) (z := 0) (by decide +kernel) rfl rfl (by decide) rfl (show (2 : Nat) = pm_na 193 by decide +kernel) (Nat.le_of_ble_eq_true rfl) (show (2 : Nat) ≤ pm_n 193 by decide +kernel) (rcv_ok hM (by decide +kernel)) (rf_isPerson (w := w) hM hF hs hp p4 q) (fun r4 w5 hq => ?_)
    obtain ⟨rfl, rfl⟩ := hq
    show wp _ 223 13 [(0, .ref 146), (1, .int c), (2, .int q)] [.int (tB (0 ≤ Int32.toInt q ∧ Int32.toInt q < p))] w _
    by_cases h6 : 0 ≤ Int32.toInt q ∧ Int32.toInt q < p
    · rw [show tB (0 ≤ Int32.toInt q ∧ Int32.toInt q < p) = 1 from if_pos h6]
      exfalso
      omega
    · rw [show tB (0 ≤ Int32.toInt q ∧ Int32.toInt q < p) = 0 from if_neg h6]
      refine wp_g 1 (pc1 := 35) (lv1 := [(0, .ref 146), (1, .int c), (2, .int q)]) (st1 := []) (w1 := w) rfl ?_
      refine wp_g 1 (pc1 := 36) (lv1 := [(0, .ref 146), (1, .int c), (2, .int q)]) (st1 := [.int ((-1))]) (w1 := w) rfl ?_
      refine wp_rt (i := .ireturn) (r := some (.int ((-1)))) (ln := 1) (a := 0) (b := 0) (z := 0) (by decide +kernel) rfl (ret_ok (by decide +kernel)) ?_
      exact ⟨rfl, rfl⟩
  · rw [show tB (0 ≤ Int32.toInt c ∧ Int32.toInt c < m) = 0 from if_neg h3]
    refine wp_g 1 (pc1 := 35) (lv1 := [(0, .ref 146), (1, .int c), (2, .int q)]) (st1 := []) (w1 := w) rfl ?_
    refine wp_g 1 (pc1 := 36) (lv1 := [(0, .ref 146), (1, .int c), (2, .int q)]) (st1 := [.int ((-1))]) (w1 := w) rfl ?_
    refine wp_rt (i := .ireturn) (r := some (.int ((-1)))) (ln := 1) (a := 0) (b := 0) (z := 0) (by decide +kernel) rfl (ret_ok (by decide +kernel)) ?_
    exact ⟨rfl, rfl⟩
set_option maxRecDepth 100000 in
theorem rf_person_p {d : Nat} {w : pm_H} {F : List Value} (hM : w[146]? = some (0, 12, F)) (hF : MF F) {f : Nat → Int32} {m : Nat} (hs : w[156]? = some (1, 0, ar 130 f)) (hm : f 0 = nI m) (m8 : m ≤ 8) {p : Nat} (hp : f 1 = nI p) (p4 : p ≤ 4) {q : Nat} (hq : q < p) : wp (d + 2) 202 0 (lv_args 0 [.ref 146, .int (nI q), .int (nI 0)]) [] w (fun r w1 => r = some (.int (f (51 + q))) ∧ w = w1) := by
  show wp _ 202 0 [(0, .ref 146), (1, .int (nI q)), (2, .int (nI 0))] [] w _
  refine wp_g 2 (pc1 := 2) (lv1 := [(0, .ref 146), (1, .int (nI q)), (2, .int (nI 0))]) (st1 := [.int (nI q), .ref 146]) (w1 := w) rfl ?_
  refine wp_cc [.ref 146, .int (nI q)] [] (i := .invokevirtual 322) (ln := 3) (a := 193) (b := 0) (z := 0) (by decide +kernel) rfl rfl (by decide) rfl (show (2 : Nat) = pm_na 193 by decide +kernel) (Nat.le_of_ble_eq_true rfl) (show (2 : Nat) ≤ pm_n 193 by decide +kernel) (rcv_ok hM (by decide +kernel)) (rf_isPerson_n (w := w) hM hF hs hp p4 q (by omega)) (fun r1 w2 hq => ?_)
  obtain ⟨rfl, rfl⟩ := hq
  show wp _ 202 5 [(0, .ref 146), (1, .int (nI q)), (2, .int (nI 0))] [.int (tB (q < p))] w _
  by_cases h3 : q < p
  · rw [show tB (q < p) = 1 from if_pos h3]
    refine wp_g 1 (pc1 := 8) (lv1 := [(0, .ref 146), (1, .int (nI q)), (2, .int (nI 0))]) (st1 := []) (w1 := w) rfl ?_
    refine wp_g 4 (pc1 := 12) (lv1 := [(0, .ref 146), (1, .int (nI q)), (2, .int (nI 0))]) (st1 := [.long 1, .long 0, .long ((nI 0).toInt64)]) (w1 := w) rfl ?_
    refine wp_cc [.long ((nI 0).toInt64), .long 0, .long 1] [] (i := .invokestatic 139) (ln := 3) (a := 147) (b := 1) (z := 0) (by decide +kernel) rfl rfl (by decide) rfl (show (3 : Nat) = pm_na 147 by decide +kernel) (Nat.le_of_ble_eq_true rfl) (show (6 : Nat) ≤ pm_n 147 by decide +kernel) (by rw [show pm_k 147 = 1 by decide +kernel]; rfl) (rf_in_n (w := w) (t := 0) (by omega) (a := 0) (b := 1) (by decide) (by decide)) (fun r4 w5 hq => ?_)
    obtain ⟨rfl, rfl⟩ := hq
    show wp _ 202 15 [(0, .ref 146), (1, .int (nI q)), (2, .int (nI 0))] [.int (tB ((0 : Int) ≤ (0 : Nat) ∧ ((0 : Nat) : Int) ≤ 1))] w _
    by_cases h6 : (0 : Int) ≤ (0 : Nat) ∧ ((0 : Nat) : Int) ≤ 1
    · rw [show tB ((0 : Int) ≤ (0 : Nat) ∧ ((0 : Nat) : Int) ≤ 1) = 1 from if_pos h6]
      refine wp_g 1 (pc1 := 18) (lv1 := [(0, .ref 146), (1, .int (nI q)), (2, .int (nI 0))]) (st1 := []) (w1 := w) rfl ?_
      refine wp_g 1 (pc1 := 19) (lv1 := [(0, .ref 146), (1, .int (nI q)), (2, .int (nI 0))]) (st1 := [.int (nI 0)]) (w1 := w) rfl ?_
      refine wp_ifn (cnd := .ne) (o := 15) (x := 0) (ln := 3) (a := 34) (b := 0) (z := 0) (by decide +kernel) (by omega) (fun h7 => ?_) (fun h7 => ?_)
      · have h7 : 0 ≠ 0 := h7
        exfalso
        omega
      · have h7 : ¬ (0 ≠ 0) := h7
        refine wp_g 1 (pc1 := 23) (lv1 := [(0, .ref 146), (1, .int (nI q)), (2, .int (nI 0))]) (st1 := [.ref 146]) (w1 := w) rfl ?_
        refine wp_get (kf := 39) (ln := 3) (a := 12) (b := 20) (z := 0) (by decide +kernel) hM (mo_20 hF) ?_
        refine wp_g 3 (pc1 := 30) (lv1 := [(0, .ref 146), (1, .int (nI q)), (2, .int (nI 0))]) (st1 := [.int (51 + (nI q)), .ref 156]) (w1 := w) rfl ?_
        refine wp_top (show 51 + (nI q) = nI (51 + q) from nx_add (rfl : (51 : Int32) = nI 51) (rfl : nI q = nI q)) ?_
        refine wp_ia (i := 51 + q) (ln := 1) (a := 0) (b := 0) (z := 0) (by decide +kernel) hs (by omega) (by decide) ?_
        refine wp_g 1 (pc1 := 43) (lv1 := [(0, .ref 146), (1, .int (nI q)), (2, .int (nI 0))]) (st1 := [.int (f (51 + q))]) (w1 := w) rfl ?_
        refine wp_rt (i := .ireturn) (r := some (.int (f (51 + q)))) (ln := 1) (a := 0) (b := 0) (z := 0) (by decide +kernel) rfl (ret_ok (by decide +kernel)) ?_
        exact ⟨rfl, rfl⟩
    · rw [show tB ((0 : Int) ≤ (0 : Nat) ∧ ((0 : Nat) : Int) ≤ 1) = 0 from if_neg h6]
      exfalso
      omega
  · rw [show tB (q < p) = 0 from if_neg h3]
    exfalso
    omega
set_option maxRecDepth 100000 in
theorem rf_person_c {d : Nat} {w : pm_H} {F : List Value} (hM : w[146]? = some (0, 12, F)) (hF : MF F) {f : Nat → Int32} {m : Nat} (hs : w[156]? = some (1, 0, ar 130 f)) (hm : f 0 = nI m) (m8 : m ≤ 8) {p : Nat} (hp : f 1 = nI p) (p4 : p ≤ 4) {q : Nat} (hq : q < p) : wp (d + 2) 202 0 (lv_args 0 [.ref 146, .int (nI q), .int (nI 1)]) [] w (fun r w1 => r = some (.int (csg f (nI q) 0 0 m)) ∧ w = w1) := by
  show wp _ 202 0 [(0, .ref 146), (1, .int (nI q)), (2, .int (nI 1))] [] w _
  refine wp_g 2 (pc1 := 2) (lv1 := [(0, .ref 146), (1, .int (nI q)), (2, .int (nI 1))]) (st1 := [.int (nI q), .ref 146]) (w1 := w) rfl ?_
  refine wp_cc [.ref 146, .int (nI q)] [] (i := .invokevirtual 322) (ln := 3) (a := 193) (b := 0) (z := 0) (by decide +kernel) rfl rfl (by decide) rfl (show (2 : Nat) = pm_na 193 by decide +kernel) (Nat.le_of_ble_eq_true rfl) (show (2 : Nat) ≤ pm_n 193 by decide +kernel) (rcv_ok hM (by decide +kernel)) (rf_isPerson_n (w := w) hM hF hs hp p4 q (by omega)) (fun r1 w2 hq => ?_)
  obtain ⟨rfl, rfl⟩ := hq
  show wp _ 202 5 [(0, .ref 146), (1, .int (nI q)), (2, .int (nI 1))] [.int (tB (q < p))] w _
  by_cases h3 : q < p
  · rw [show tB (q < p) = 1 from if_pos h3]
    refine wp_g 1 (pc1 := 8) (lv1 := [(0, .ref 146), (1, .int (nI q)), (2, .int (nI 1))]) (st1 := []) (w1 := w) rfl ?_
    refine wp_g 4 (pc1 := 12) (lv1 := [(0, .ref 146), (1, .int (nI q)), (2, .int (nI 1))]) (st1 := [.long 1, .long 0, .long ((nI 1).toInt64)]) (w1 := w) rfl ?_
    refine wp_cc [.long ((nI 1).toInt64), .long 0, .long 1] [] (i := .invokestatic 139) (ln := 3) (a := 147) (b := 1) (z := 0) (by decide +kernel) rfl rfl (by decide) rfl (show (3 : Nat) = pm_na 147 by decide +kernel) (Nat.le_of_ble_eq_true rfl) (show (6 : Nat) ≤ pm_n 147 by decide +kernel) (by rw [show pm_k 147 = 1 by decide +kernel]; rfl) (rf_in_n (w := w) (t := 1) (by omega) (a := 0) (b := 1) (by decide) (by decide)) (fun r4 w5 hq => ?_)
    obtain ⟨rfl, rfl⟩ := hq
    show wp _ 202 15 [(0, .ref 146), (1, .int (nI q)), (2, .int (nI 1))] [.int (tB ((0 : Int) ≤ (1 : Nat) ∧ ((1 : Nat) : Int) ≤ 1))] w _
    by_cases h6 : (0 : Int) ≤ (1 : Nat) ∧ ((1 : Nat) : Int) ≤ 1
    · rw [show tB ((0 : Int) ≤ (1 : Nat) ∧ ((1 : Nat) : Int) ≤ 1) = 1 from if_pos h6]
      refine wp_g 1 (pc1 := 18) (lv1 := [(0, .ref 146), (1, .int (nI q)), (2, .int (nI 1))]) (st1 := []) (w1 := w) rfl ?_
      refine wp_g 1 (pc1 := 19) (lv1 := [(0, .ref 146), (1, .int (nI q)), (2, .int (nI 1))]) (st1 := [.int (nI 1)]) (w1 := w) rfl ?_
      refine wp_ifn (cnd := .ne) (o := 15) (x := 1) (ln := 3) (a := 34) (b := 0) (z := 0) (by decide +kernel) (by omega) (fun h7 => ?_) (fun h7 => ?_)
      · have h7 : 1 ≠ 0 := h7
        refine wp_g 2 (pc1 := 36) (lv1 := [(0, .ref 146), (1, .int (nI q)), (2, .int (nI 1))]) (st1 := [.int (nI q), .ref 146]) (w1 := w) rfl ?_
        refine wp_cc [.ref 146, .int (nI q)] [] (i := .invokevirtual 325) (ln := 3) (a := 198) (b := 0) (z := 0) (by decide +kernel) rfl rfl (by decide) rfl (show (2 : Nat) = pm_na 198 by decide +kernel) (Nat.le_of_ble_eq_true rfl) (show (2 : Nat) ≤ pm_n 198 by decide +kernel) (rcv_ok hM (by decide +kernel)) (rf_cellsOf (w := w) hM hF hs hm m8 (nI q)) (fun r8 w9 hq => ?_)
        obtain ⟨rfl, rfl⟩ := hq
        show wp _ 202 39 [(0, .ref 146), (1, .int (nI q)), (2, .int (nI 1))] [.int (csg f (nI q) 0 0 m)] w _
        refine wp_g 1 (pc1 := 43) (lv1 := [(0, .ref 146), (1, .int (nI q)), (2, .int (nI 1))]) (st1 := [.int (csg f (nI q) 0 0 m)]) (w1 := w) rfl ?_
        refine wp_rt (i := .ireturn) (r := some (.int (csg f (nI q) 0 0 m))) (ln := 1) (a := 0) (b := 0) (z := 0) (by decide +kernel) rfl (ret_ok (by decide +kernel)) ?_
        exact ⟨rfl, rfl⟩
      · have h7 : ¬ (1 ≠ 0) := h7
        exfalso
        omega
    · rw [show tB ((0 : Int) ≤ (1 : Nat) ∧ ((1 : Nat) : Int) ≤ 1) = 0 from if_neg h6]
      exfalso
      omega
  · rw [show tB (q < p) = 0 from if_neg h3]
    exfalso
    omega
set_option maxRecDepth 100000 in
theorem rf_person_n {d : Nat} {w : pm_H} {F : List Value} (hM : w[146]? = some (0, 12, F)) (hF : MF F) {f : Nat → Int32} {m : Nat} (hs : w[156]? = some (1, 0, ar 130 f)) (hm : f 0 = nI m) (m8 : m ≤ 8) {p : Nat} (hp : f 1 = nI p) (p4 : p ≤ 4) {c k : Int32} (hn : ¬ ((0 ≤ c.toInt ∧ c.toInt < p) ∧ 0 ≤ k.toInt ∧ k.toInt ≤ 1)) : wp (d + 2) 202 0 (lv_args 0 [.ref 146, .int c, .int k]) [] w (fun r w1 => r = some (.int (-1)) ∧ w = w1) := by
  show wp _ 202 0 [(0, .ref 146), (1, .int c), (2, .int k)] [] w _
  refine wp_g 2 (pc1 := 2) (lv1 := [(0, .ref 146), (1, .int c), (2, .int k)]) (st1 := [.int c, .ref 146]) (w1 := w) rfl ?_
  refine wp_cc [.ref 146, .int c] [] (i := .invokevirtual 322) (ln := 3) (a := 193) (b := 0) (z := 0) (by decide +kernel) rfl rfl (by decide) rfl (show (2 : Nat) = pm_na 193 by decide +kernel) (Nat.le_of_ble_eq_true rfl) (show (2 : Nat) ≤ pm_n 193 by decide +kernel) (rcv_ok hM (by decide +kernel)) (rf_isPerson (w := w) hM hF hs hp p4 c) (fun r1 w2 hq => ?_)
  obtain ⟨rfl, rfl⟩ := hq
  show wp _ 202 5 [(0, .ref 146), (1, .int c), (2, .int k)] [.int (tB (0 ≤ Int32.toInt c ∧ Int32.toInt c < p))] w _
  by_cases h3 : 0 ≤ Int32.toInt c ∧ Int32.toInt c < p
  · rw [show tB (0 ≤ Int32.toInt c ∧ Int32.toInt c < p) = 1 from if_pos h3]
    refine wp_g 1 (pc1 := 8) (lv1 := [(0, .ref 146), (1, .int c), (2, .int k)]) (st1 := []) (w1 := w) rfl ?_
    refine wp_g 4 (pc1 := 12) (lv1 := [(0, .ref 146), (1, .int c), (2, .int k)]) (st1 := [.long 1, .long 0, .long k.toInt64]) (w1 := w) rfl ?_
    refine wp_cc [.long k.toInt64, .long 0, .long 1] [] (i := .invokestatic 139) (ln := 3) (a := 147) (b := 1) (z := 0) (by decide +kernel) rfl rfl (by decide) rfl (show (3 : Nat) = pm_na 147 by decide +kernel) (Nat.le_of_ble_eq_true rfl) (show (6 : Nat) ≤ pm_n 147 by decide +kernel) (by rw [show pm_k 147 = 1 by decide +kernel]; rfl) (rf_in32 (w := w) (x := k) (a := 0) (b := 1) (by decide) (by decide)) (fun r4 w5 hq => ?_)
    obtain ⟨rfl, rfl⟩ := hq
    show wp _ 202 15 [(0, .ref 146), (1, .int c), (2, .int k)] [.int (tB ((0 : Int) ≤ Int32.toInt k ∧ Int32.toInt k ≤ 1))] w _
    by_cases h6 : (0 : Int) ≤ Int32.toInt k ∧ Int32.toInt k ≤ 1
    · rw [show tB ((0 : Int) ≤ Int32.toInt k ∧ Int32.toInt k ≤ 1) = 1 from if_pos h6]
      exfalso
      omega
    · rw [show tB ((0 : Int) ≤ Int32.toInt k ∧ Int32.toInt k ≤ 1) = 0 from if_neg h6]
      refine wp_g 1 (pc1 := 42) (lv1 := [(0, .ref 146), (1, .int c), (2, .int k)]) (st1 := []) (w1 := w) rfl ?_
      refine wp_g 1 (pc1 := 43) (lv1 := [(0, .ref 146), (1, .int c), (2, .int k)]) (st1 := [.int ((-1))]) (w1 := w) rfl ?_
      refine wp_rt (i := .ireturn) (r := some (.int ((-1)))) (ln := 1) (a := 0) (b := 0) (z := 0) (by decide +kernel) rfl (ret_ok (by decide +kernel)) ?_
      exact ⟨rfl, rfl⟩
  · rw [show tB (0 ≤ Int32.toInt c ∧ Int32.toInt c < p) = 0 from if_neg h3]
    refine wp_g 1 (pc1 := 42) (lv1 := [(0, .ref 146), (1, .int c), (2, .int k)]) (st1 := []) (w1 := w) rfl ?_
    refine wp_g 1 (pc1 := 43) (lv1 := [(0, .ref 146), (1, .int c), (2, .int k)]) (st1 := [.int ((-1))]) (w1 := w) rfl ?_
    refine wp_rt (i := .ireturn) (r := some (.int ((-1)))) (ln := 1) (a := 0) (b := 0) (z := 0) (by decide +kernel) rfl (ret_ok (by decide +kernel)) ?_
    exact ⟨rfl, rfl⟩
set_option maxRecDepth 100000 in
theorem rf_end_y {d : Nat} {w : pm_H} {F : List Value} (hM : w[146]? = some (0, 12, F)) (hF : MF F) {t : Nat} (h1x : F[1]? = some (.int (nI t))) (t4 : t ≤ 400) {n : Nat} (hn : n ≤ t) : wp d 151 0 (lv_args 0 [.ref 146, .int (nI n)]) [] w (fun r w1 => r = some (.int (nI n)) ∧ w.set 146 (0, 12, F.set 1 (.int (nI n))) = w1) := by
  show wp _ 151 0 [(0, .ref 146), (1, .int (nI n))] [] w _
  refine wp_g 1 (pc1 := 1) (lv1 := [(0, .ref 146), (1, .int (nI n))]) (st1 := [.int (nI n)]) (w1 := w) rfl ?_
  refine wp_ifn (cnd := .lt) (o := 11) (x := n) (ln := 3) (a := 12) (b := 0) (z := 0) (by decide +kernel) (by omega) (fun h1 => ?_) (fun h1 => ?_)
  · have h1 : n < 0 := h1
    exfalso
    omega
  · have h1 : ¬ (n < 0) := h1
    refine wp_g 2 (pc1 := 6) (lv1 := [(0, .ref 146), (1, .int (nI n))]) (st1 := [.ref 146, .int (nI n)]) (w1 := w) rfl ?_
    refine wp_get (kf := 101) (ln := 3) (a := 12) (b := 1) (z := 0) (by decide +kernel) hM h1x ?_
    refine wp_icn (cnd := .le) (o := 5) (x := n) (y := t) (ln := 3) (a := 14) (b := 0) (z := 0) (by decide +kernel) (by omega) (by omega) (fun h2 => ?_) (fun h2 => ?_)
    · have h2 : n ≤ t := h2
      refine wp_g 2 (pc1 := 16) (lv1 := [(0, .ref 146), (1, .int (nI n))]) (st1 := [.int (nI n), .ref 146]) (w1 := w) rfl ?_
      refine wp_put (kf := 101) (ln := 3) (a := 12) (b := 1) (z := 0) (by decide +kernel) hM (mo_lt hF 1 (by decide)) (show pm_fit (pm_ft 12 1) (.int (nI n)) = true by rw [show pm_ft 12 1 = .int by decide +kernel]; rfl) ?_
      refine wp_g 1 (pc1 := 20) (lv1 := [(0, .ref 146), (1, .int (nI n))]) (st1 := [.int (nI n)]) (w1 := (List.set w 146 (0, 12, (List.set F 1 (.int (nI n)))))) rfl ?_
      refine wp_rt (i := .ireturn) (r := some (.int (nI n))) (ln := 1) (a := 0) (b := 0) (z := 0) (by decide +kernel) rfl (ret_ok (by decide +kernel)) ?_
      exact ⟨rfl, rfl⟩
    · have h2 : ¬ (n ≤ t) := h2
      exfalso
      omega
set_option maxRecDepth 100000 in
theorem rf_end_n {d : Nat} {w : pm_H} {F : List Value} (hM : w[146]? = some (0, 12, F)) (hF : MF F) {t : Nat} (h1x : F[1]? = some (.int (nI t))) (t4 : t ≤ 400) {c : Int32} (hn : ¬ (0 ≤ c.toInt ∧ c.toInt ≤ t)) : wp d 151 0 (lv_args 0 [.ref 146, .int c]) [] w (fun r w1 => r = some (.int (-1)) ∧ w = w1) := by
  show wp _ 151 0 [(0, .ref 146), (1, .int c)] [] w _
  refine wp_g 1 (pc1 := 1) (lv1 := [(0, .ref 146), (1, .int c)]) (st1 := [.int c]) (w1 := w) rfl ?_
  refine wp_ifc (cnd := .lt) (o := 11) (ln := 3) (a := 12) (b := 0) (z := 0) (by decide +kernel) (fun h1 => ?_) (fun h1 => ?_)
  · have h1 := of_decide_eq_true h1
    refine wp_g 1 (pc1 := 13) (lv1 := [(0, .ref 146), (1, .int c)]) (st1 := [.int ((-1))]) (w1 := w) rfl ?_
    refine wp_rt (i := .ireturn) (r := some (.int ((-1)))) (ln := 1) (a := 0) (b := 0) (z := 0) (by decide +kernel) rfl (ret_ok (by decide +kernel)) ?_
    exact ⟨rfl, rfl⟩
  · have h1 := of_decide_eq_false h1
    refine wp_g 2 (pc1 := 6) (lv1 := [(0, .ref 146), (1, .int c)]) (st1 := [.ref 146, .int c]) (w1 := w) rfl ?_
    refine wp_get (kf := 101) (ln := 3) (a := 12) (b := 1) (z := 0) (by decide +kernel) hM h1x ?_
    refine wp_icm (cnd := .le) (o := 5) (ln := 3) (a := 14) (b := 0) (z := 0) (by decide +kernel) (fun h2 => ?_) (fun h2 => ?_)
    · have h2 := of_decide_eq_true h2
      refine wp_g 2 (pc1 := 16) (lv1 := [(0, .ref 146), (1, .int c)]) (st1 := [.int c, .ref 146]) (w1 := w) rfl ?_
      refine wp_put (kf := 101) (ln := 3) (a := 12) (b := 1) (z := 0) (by decide +kernel) hM (mo_lt hF 1 (by decide)) (show pm_fit (pm_ft 12 1) (.int c) = true by rw [show pm_ft 12 1 = .int by decide +kernel]; rfl) ?_
      refine wp_g 1 (pc1 := 20) (lv1 := [(0, .ref 146), (1, .int c)]) (st1 := [.int c]) (w1 := (List.set w 146 (0, 12, (List.set F 1 (.int c))))) rfl ?_
      refine wp_rt (i := .ireturn) (r := some (.int c)) (ln := 1) (a := 0) (b := 0) (z := 0) (by decide +kernel) rfl (ret_ok (by decide +kernel)) ?_
      exfalso
      have jh1 := i3_ltf h1
      have jh2 := i3_let h2
      simp only [show ((0 : Int32)).toInt = 0 by decide, show (nI t).toInt = ((t : Nat) : Int) from nI_toInt (by omega)] at jh1 jh2
      omega
    · have h2 := of_decide_eq_false h2
      refine wp_g 1 (pc1 := 13) (lv1 := [(0, .ref 146), (1, .int c)]) (st1 := [.int ((-1))]) (w1 := w) rfl ?_
      refine wp_rt (i := .ireturn) (r := some (.int ((-1)))) (ln := 1) (a := 0) (b := 0) (z := 0) (by decide +kernel) rfl (ret_ok (by decide +kernel)) ?_
      exact ⟨rfl, rfl⟩
