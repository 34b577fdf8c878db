theorem rf_in32 {d : Nat} {w : pm_H} {x : Int32} {lo hi : Int64} {a b : Int} (ha : lo.toInt = a) (hb : hi.toInt = b) : wp d 147 0 (lv_args 0 [.long x.toInt64, .long lo, .long hi]) [] w (fun r w1 => r = some (.int (tB (a ≤ x.toInt ∧ x.toInt ≤ b))) ∧ w = w1) := by
  refine wp_mono (rf_in x.toInt64 lo hi) (fun r w1 hq => ?_)
  obtain ⟨rfl, rfl⟩ := hq
  exact ⟨congrArg (fun v => some (Value.int v)) (tB_c (by rw [ha, hb, Int32.toInt_toInt64])), rfl⟩
theorem rf_in_n {d : Nat} {w : pm_H} {t : Nat} (ht : t < 2 ^ 31) {lo hi : Int64} {a b : Int} (ha : lo.toInt = a) (hb : hi.toInt = b) : wp d 147 0 (lv_args 0 [.long (nI t).toInt64, .long lo, .long hi]) [] w (fun r w1 => r = some (.int (tB (a ≤ (t : Int) ∧ (t : Int) ≤ b))) ∧ w = w1) := by
  refine wp_mono (rf_in32 ha hb) (fun r w1 hq => ?_)
  obtain ⟨rfl, rfl⟩ := hq
  exact ⟨congrArg (fun v => some (Value.int v)) (tB_c (by rw [nI_toInt ht])), rfl⟩
set_option maxRecDepth 100000 in
theorem rf_mark_y {d : Nat} {w : pm_H} {F : List Value} (hM : w[146]? = some (0, 12, F)) (hF : MF F) {f : Nat → Int32} {m : Nat} (hs : w[156]? = some (1, 0, ar 130 f)) (hm : f 0 = nI m) (m8 : m ≤ 8) {j t : Nat} (hj : j + 1 < m) (ht : t ≤ 2) : wp (d + 2) 225 0 (lv_args 0 [.ref 146, .int (nI j), .int (nI t)]) [] w (fun r w1 => r = some (.int (f (82 + j))) ∧ w.set 156 (1, 0, ar 130 (upd f (82 + j) (nI t))) = w1) := by
  show wp _ 225 0 [(0, .ref 146), (1, .int (nI j)), (2, .int (nI t))] [] w _
  refine wp_g 2 (pc1 := 2) (lv1 := [(0, .ref 146), (1, .int (nI j)), (2, .int (nI t))]) (st1 := [.int (nI j), .ref 146]) (w1 := w) rfl ?_
  refine wp_cc [.ref 146, .int (nI j)] [] (i := .invokevirtual 319) (ln := 3) (a := 192) (b := 0) (z := 0) (by decide +kernel) rfl rfl (by decide) rfl (show (2 : Nat) = pm_na 192 by decide +kernel) (Nat.le_of_ble_eq_true rfl) (show (2 : Nat) ≤ pm_n 192 by decide +kernel) (rcv_ok hM (by decide +kernel)) (rf_isJoint_n hM hF hs hm m8 j (by omega)) (fun r1 w2 hq => ?_)
  obtain ⟨rfl, rfl⟩ := hq
  show wp _ 225 5 [(0, .ref 146), (1, .int (nI j)), (2, .int (nI t))] [.int (tB (j + 1 < m))] w _
  by_cases h3 : j + 1 < m
  · rw [show tB (j + 1 < m) = 1 from if_pos h3]
    refine wp_g 1 (pc1 := 8) (lv1 := [(0, .ref 146), (1, .int (nI j)), (2, .int (nI t))]) (st1 := []) (w1 := w) rfl ?_
    refine wp_g 4 (pc1 := 14) (lv1 := [(0, .ref 146), (1, .int (nI j)), (2, .int (nI t))]) (st1 := [.long 2, .long 0, .long ((nI t).toInt64)]) (w1 := w) rfl ?_
    refine wp_cc [.long ((nI t).toInt64), .long 0, .long 2] [] (i := .invokestatic 139) (ln := 3) (a := 147) (b := 1) (z := 0) (by decide +kernel) rfl rfl (by decide) rfl (show (3 : Nat) = pm_na 147 by decide +kernel) (Nat.le_of_ble_eq_true rfl) (show (6 : Nat) ≤ pm_n 147 by decide +kernel) (by rw [show pm_k 147 = 1 by decide +kernel]; rfl) (rf_in_n (t := t) (by omega) (a := 0) (b := 2) (by decide) (by decide)) (fun r4 w5 hq => ?_)
    obtain ⟨rfl, rfl⟩ := hq
    show wp _ 225 17 [(0, .ref 146), (1, .int (nI j)), (2, .int (nI t))] [.int (tB ((0 : Int) ≤ (t : Nat) ∧ ((t : Nat) : Int) ≤ 2))] w _
    by_cases h6 : (0 : Int) ≤ (t : Nat) ∧ ((t : Nat) : Int) ≤ 2
    · rw [show tB ((0 : Int) ≤ (t : Nat) ∧ ((t : Nat) : Int) ≤ 2) = 1 from if_pos h6]
      refine wp_g 1 (pc1 := 22) (lv1 := [(0, .ref 146), (1, .int (nI j)), (2, .int (nI t))]) (st1 := []) (w1 := w) rfl ?_
      refine wp_g 1 (pc1 := 23) (lv1 := [(0, .ref 146), (1, .int (nI j)), (2, .int (nI t))]) (st1 := [.ref 146]) (w1 := w) rfl ?_
      refine wp_get (kf := 39) (ln := 3) (a := 12) (b := 20) (z := 0) (by decide +kernel) hM (mo_20 hF) ?_
      refine wp_g 3 (pc1 := 30) (lv1 := [(0, .ref 146), (1, .int (nI j)), (2, .int (nI t))]) (st1 := [.int (82 + (nI j)), .ref 156]) (w1 := w) rfl ?_
      refine wp_top (show 82 + (nI j) = nI (82 + j) from nx_add (rfl : (82 : Int32) = nI 82) (rfl : nI j = nI j)) ?_
      refine wp_ia (i := 82 + j) (ln := 1) (a := 0) (b := 0) (z := 0) (by decide +kernel) hs (by omega) (by decide) ?_
      refine wp_g 2 (pc1 := 33) (lv1 := [(3, .int (f (82 + j))), (0, .ref 146), (1, .int (nI j)), (2, .int (nI t))]) (st1 := [.ref 146]) (w1 := w) rfl ?_
      refine wp_get (kf := 39) (ln := 3) (a := 12) (b := 20) (z := 0) (by decide +kernel) hM (mo_20 hF) ?_
      refine wp_g 3 (pc1 := 40) (lv1 := [(3, .int (f (82 + j))), (0, .ref 146), (1, .int (nI j)), (2, .int (nI t))]) (st1 := [.int (82 + (nI j)), .ref 156]) (w1 := w) rfl ?_
      refine wp_top (show 82 + (nI j) = nI (82 + j) from nx_add (rfl : (82 : Int32) = nI 82) (rfl : nI j = nI j)) ?_
      refine wp_g 1 (pc1 := 41) (lv1 := [(3, .int (f (82 + j))), (0, .ref 146), (1, .int (nI j)), (2, .int (nI t))]) (st1 := [.int (nI t), .int (nI (82 + j)), .ref 156]) (w1 := w) rfl ?_
      refine wp_is (i := 82 + j) (ln := 1) (a := 0) (b := 0) (z := 0) (by decide +kernel) hs (by omega) (by decide) ?_
      refine wp_g 1 (pc1 := 43) (lv1 := [(3, .int (f (82 + j))), (0, .ref 146), (1, .int (nI j)), (2, .int (nI t))]) (st1 := [.int (f (82 + j))]) (w1 := (List.set w 156 (1, 0, ar 130 ((upd f (82 + j) (nI t)))))) rfl ?_
      refine wp_rt (i := .ireturn) (r := some (.int (f (82 + j)))) (ln := 1) (a := 0) (b := 0) (z := 0) (by decide +kernel) rfl (ret_ok (by decide +kernel)) ?_
      exact ⟨rfl, rfl⟩
    · rw [show tB ((0 : Int) ≤ (t : Nat) ∧ ((t : Nat) : Int) ≤ 2) = 0 from if_neg h6]
      exfalso
      omega
  · rw [show tB (j + 1 < m) = 0 from if_neg h3]
    exfalso
    omega
set_option maxRecDepth 100000 in
theorem rf_mark_n {d : Nat} {w : pm_H} {F : List Value} (hM : w[146]? = some (0, 12, F)) (hF : MF F) {f : Nat → Int32} {m : Nat} (hs : w[156]? = some (1, 0, ar 130 f)) (hm : f 0 = nI m) (m8 : m ≤ 8) {c k : Int32} (hn : ¬ ((0 ≤ c.toInt ∧ c.toInt + 1 < m) ∧ 0 ≤ k.toInt ∧ k.toInt ≤ 2)) : wp (d + 2) 225 0 (lv_args 0 [.ref 146, .int c, .int k]) [] w (fun r w1 => r = some (.int (-1)) ∧ w = w1) := by
  show wp _ 225 0 [(0, .ref 146), (1, .int c), (2, .int k)] [] w _
  refine wp_g 2 (pc1 := 2) (lv1 := [(0, .ref 146), (1, .int c), (2, .int k)]) (st1 := [.int c, .ref 146]) (w1 := w) rfl ?_
  refine wp_cc [.ref 146, .int c] [] (i := .invokevirtual 319) (ln := 3) (a := 192) (b := 0) (z := 0) (by decide +kernel) rfl rfl (by decide) rfl (show (2 : Nat) = pm_na 192 by decide +kernel) (Nat.le_of_ble_eq_true rfl) (show (2 : Nat) ≤ pm_n 192 by decide +kernel) (rcv_ok hM (by decide +kernel)) (rf_isJoint hM hF hs hm m8 c) (fun r1 w2 hq => ?_)
  obtain ⟨rfl, rfl⟩ := hq
  show wp _ 225 5 [(0, .ref 146), (1, .int c), (2, .int k)] [.int (tB (0 ≤ Int32.toInt c ∧ Int32.toInt c + 1 < m))] w _
  by_cases h3 : 0 ≤ Int32.toInt c ∧ Int32.toInt c + 1 < m
  · rw [show tB (0 ≤ Int32.toInt c ∧ Int32.toInt c + 1 < m) = 1 from if_pos h3]
    refine wp_g 1 (pc1 := 8) (lv1 := [(0, .ref 146), (1, .int c), (2, .int k)]) (st1 := []) (w1 := w) rfl ?_
    refine wp_g 4 (pc1 := 14) (lv1 := [(0, .ref 146), (1, .int c), (2, .int k)]) (st1 := [.long 2, .long 0, .long k.toInt64]) (w1 := w) rfl ?_
    refine wp_cc [.long k.toInt64, .long 0, .long 2] [] (i := .invokestatic 139) (ln := 3) (a := 147) (b := 1) (z := 0) (by decide +kernel) rfl rfl (by decide) rfl (show (3 : Nat) = pm_na 147 by decide +kernel) (Nat.le_of_ble_eq_true rfl) (show (6 : Nat) ≤ pm_n 147 by decide +kernel) (by rw [show pm_k 147 = 1 by decide +kernel]; rfl) (rf_in32 (x := k) (a := 0) (b := 2) (by decide) (by decide)) (fun r4 w5 hq => ?_)
    obtain ⟨rfl, rfl⟩ := hq
    show wp _ 225 17 [(0, .ref 146), (1, .int c), (2, .int k)] [.int (tB ((0 : Int) ≤ Int32.toInt k ∧ Int32.toInt k ≤ 2))] w _
    by_cases h6 : (0 : Int) ≤ Int32.toInt k ∧ Int32.toInt k ≤ 2
    · rw [show tB ((0 : Int) ≤ Int32.toInt k ∧ Int32.toInt k ≤ 2) = 1 from if_pos h6]
      exfalso
      omega
    · rw [show tB ((0 : Int) ≤ Int32.toInt k ∧ Int32.toInt k ≤ 2) = 0 from if_neg h6]
      refine wp_g 1 (pc1 := 20) (lv1 := [(0, .ref 146), (1, .int c), (2, .int k)]) (st1 := []) (w1 := w) rfl ?_
      refine wp_g 1 (pc1 := 21) (lv1 := [(0, .ref 146), (1, .int c), (2, .int k)]) (st1 := [.int ((-1))]) (w1 := w) rfl ?_
      refine wp_rt (i := .ireturn) (r := some (.int ((-1)))) (ln := 1) (a := 0) (b := 0) (z := 0) (by decide +kernel) rfl (ret_ok (by decide +kernel)) ?_
      exact ⟨rfl, rfl⟩
  · rw [show tB (0 ≤ Int32.toInt c ∧ Int32.toInt c + 1 < m) = 0 from if_neg h3]
    refine wp_g 1 (pc1 := 20) (lv1 := [(0, .ref 146), (1, .int c), (2, .int k)]) (st1 := []) (w1 := w) rfl ?_
    refine wp_g 1 (pc1 := 21) (lv1 := [(0, .ref 146), (1, .int c), (2, .int k)]) (st1 := [.int ((-1))]) (w1 := w) rfl ?_
    refine wp_rt (i := .ireturn) (r := some (.int ((-1)))) (ln := 1) (a := 0) (b := 0) (z := 0) (by decide +kernel) rfl (ret_ok (by decide +kernel)) ?_
    exact ⟨rfl, rfl⟩
set_option maxRecDepth 100000 in
theorem rf_force_y {d : Nat} {w : pm_H} {F : List Value} (hM : w[146]? = some (0, 12, F)) (hF : MF F) {n : Nat} (h2 : F[2]? = some (.int (nI n))) (n6 : n ≤ 6) {fo : Int32} (h21 : F[21]? = some (.int fo)) {v : Int32} (hv : v.toInt = -1 ∨ (0 ≤ v.toInt ∧ v.toInt < n)) : wp (d + 1) 199 0 (lv_args 0 [.ref 146, .int v]) [] w (fun r w1 => r = some (.int fo) ∧ w.set 146 (0, 12, F.set 21 (.int v)) = w1) := by
  show wp _ 199 0 [(0, .ref 146), (1, .int v)] [] w _
  refine wp_g 2 (pc1 := 2) (lv1 := [(0, .ref 146), (1, .int v)]) (st1 := [.int ((-1)), .int v]) (w1 := w) rfl ?_
  refine wp_icm (cnd := .eq) (o := 14) (ln := 3) (a := 16) (b := 0) (z := 0) (by decide +kernel) (fun h1 => ?_) (fun h1 => ?_)
  · have h1 := of_decide_eq_true h1
    refine wp_g 1 (pc1 := 17) (lv1 := [(0, .ref 146), (1, .int v)]) (st1 := [.ref 146]) (w1 := w) rfl ?_
    refine wp_get (kf := 42) (ln := 3) (a := 12) (b := 21) (z := 0) (by decide +kernel) hM h21 ?_
    refine wp_g 3 (pc1 := 23) (lv1 := [(2, .int fo), (0, .ref 146), (1, .int v)]) (st1 := [.int v, .ref 146]) (w1 := w) rfl ?_
    refine wp_put (kf := 42) (ln := 3) (a := 12) (b := 21) (z := 0) (by decide +kernel) hM (mo_lt hF 21 (by decide)) (show pm_fit (pm_ft 12 21) (.int v) = true by rw [show pm_ft 12 21 = .int by decide +kernel]; rfl) ?_
    refine wp_g 1 (pc1 := 27) (lv1 := [(2, .int fo), (0, .ref 146), (1, .int v)]) (st1 := [.int fo]) (w1 := (List.set w 146 (0, 12, (List.set F 21 (.int v))))) rfl ?_
    refine wp_rt (i := .ireturn) (r := some (.int fo)) (ln := 1) (a := 0) (b := 0) (z := 0) (by decide +kernel) rfl (ret_ok (by decide +kernel)) ?_
    exact ⟨rfl, rfl⟩
  · have h1 := of_decide_eq_false h1
    refine wp_g 2 (pc1 := 7) (lv1 := [(0, .ref 146), (1, .int v)]) (st1 := [.int v, .ref 146]) (w1 := w) rfl ?_
    refine wp_cc [.ref 146, .int v] [] (i := .invokevirtual 311) (ln := 3) (a := 185) (b := 0) (z := 0) (by decide +kernel) rfl rfl (by decide) rfl (show (2 : Nat) = pm_na 185 by decide +kernel) (Nat.le_of_ble_eq_true rfl) (show (2 : Nat) ≤ pm_n 185 by decide +kernel) (rcv_ok hM (by decide +kernel)) (rf_isRule hM hF h2 n6 v) (fun r2 w3 hq => ?_)
    obtain ⟨rfl, rfl⟩ := hq
    show wp _ 199 10 [(0, .ref 146), (1, .int v)] [.int (tB (0 ≤ Int32.toInt v ∧ Int32.toInt v < n))] w _
    by_cases h4 : 0 ≤ Int32.toInt v ∧ Int32.toInt v < n
    · rw [show tB (0 ≤ Int32.toInt v ∧ Int32.toInt v < n) = 1 from if_pos h4]
      refine wp_g 1 (pc1 := 16) (lv1 := [(0, .ref 146), (1, .int v)]) (st1 := []) (w1 := w) rfl ?_
      refine wp_g 1 (pc1 := 17) (lv1 := [(0, .ref 146), (1, .int v)]) (st1 := [.ref 146]) (w1 := w) rfl ?_
      refine wp_get (kf := 42) (ln := 3) (a := 12) (b := 21) (z := 0) (by decide +kernel) hM h21 ?_
      refine wp_g 3 (pc1 := 23) (lv1 := [(2, .int fo), (0, .ref 146), (1, .int v)]) (st1 := [.int v, .ref 146]) (w1 := w) rfl ?_
      refine wp_put (kf := 42) (ln := 3) (a := 12) (b := 21) (z := 0) (by decide +kernel) hM (mo_lt hF 21 (by decide)) (show pm_fit (pm_ft 12 21) (.int v) = true by rw [show pm_ft 12 21 = .int by decide +kernel]; rfl) ?_
      refine wp_g 1 (pc1 := 27) (lv1 := [(2, .int fo), (0, .ref 146), (1, .int v)]) (st1 := [.int fo]) (w1 := (List.set w 146 (0, 12, (List.set F 21 (.int v))))) rfl ?_
      refine wp_rt (i := .ireturn) (r := some (.int fo)) (ln := 1) (a := 0) (b := 0) (z := 0) (by decide +kernel) rfl (ret_ok (by decide +kernel)) ?_
      exact ⟨rfl, rfl⟩
    · rw [show tB (0 ≤ Int32.toInt v ∧ Int32.toInt v < n) = 0 from if_neg h4]
      refine wp_g 1 (pc1 := 13) (lv1 := [(0, .ref 146), (1, .int v)]) (st1 := []) (w1 := w) rfl ?_
      refine wp_g 1 (pc1 := 15) (lv1 := [(0, .ref 146), (1, .int v)]) (st1 := [.int ((-2))]) (w1 := w) rfl ?_
      refine wp_rt (i := .ireturn) (r := some (.int ((-2)))) (ln := 1) (a := 0) (b := 0) (z := 0) (by decide +kernel) rfl (ret_ok (by decide +kernel)) ?_
      exfalso
      have jh1 := i3_eqf h1
      simp only [show ((-1 : Int32)).toInt = -1 by decide] at jh1
      omega
set_option maxRecDepth 100000 in
theorem rf_force_n {d : Nat} {w : pm_H} {F : List Value} (hM : w[146]? = some (0, 12, F)) (hF : MF F) {n : Nat} (h2 : F[2]? = some (.int (nI n))) (n6 : n ≤ 6) {fo : Int32} (h21 : F[21]? = some (.int fo)) {v : Int32} (hv : ¬ (v.toInt = -1 ∨ (0 ≤ v.toInt ∧ v.toInt < n))) : wp (d + 1) 199 0 (lv_args 0 [.ref 146, .int v]) [] w (fun r w1 => r = some (.int (-2)) ∧ w = w1) := by
  show wp _ 199 0 [(0, .ref 146), (1, .int v)] [] w _
  refine wp_g 2 (pc1 := 2) (lv1 := [(0, .ref 146), (1, .int v)]) (st1 := [.int ((-1)), .int v]) (w1 := w) rfl ?_
  refine wp_icm (cnd := .eq) (o := 14) (ln := 3) (a := 16) (b := 0) (z := 0) (by decide +kernel) (fun h1 => ?_) (fun h1 => ?_)
  · have h1 := of_decide_eq_true h1
    refine wp_g 1 (pc1 := 17) (lv1 := [(0, .ref 146), (1, .int v)]) (st1 := [.ref 146]) (w1 := w) rfl ?_
    refine wp_get (kf := 42) (ln := 3) (a := 12) (b := 21) (z := 0) (by decide +kernel) hM h21 ?_
    refine wp_g 3 (pc1 := 23) (lv1 := [(2, .int fo), (0, .ref 146), (1, .int v)]) (st1 := [.int v, .ref 146]) (w1 := w) rfl ?_
    refine wp_put (kf := 42) (ln := 3) (a := 12) (b := 21) (z := 0) (by decide +kernel) hM (mo_lt hF 21 (by decide)) (show pm_fit (pm_ft 12 21) (.int v) = true by rw [show pm_ft 12 21 = .int by decide +kernel]; rfl) ?_
    refine wp_g 1 (pc1 := 27) (lv1 := [(2, .int fo), (0, .ref 146), (1, .int v)]) (st1 := [.int fo]) (w1 := (List.set w 146 (0, 12, (List.set F 21 (.int v))))) rfl ?_
    refine wp_rt (i := .ireturn) (r := some (.int fo)) (ln := 1) (a := 0) (b := 0) (z := 0) (by decide +kernel) rfl (ret_ok (by decide +kernel)) ?_
    exfalso
    have jh1 := i3_eqt h1
    simp only [show ((-1 : Int32)).toInt = -1 by decide] at jh1
    omega
  · have h1 := of_decide_eq_false h1
    refine wp_g 2 (pc1 := 7) (lv1 := [(0, .ref 146), (1, .int v)]) (st1 := [.int v, .ref 146]) (w1 := w) rfl ?_
    refine wp_cc [.ref 146, .int v] [] (i := .invokevirtual 311) (ln := 3) (a := 185) (b := 0) (z := 0) (by decide +kernel) rfl rfl (by decide) rfl (show (2 : Nat) = pm_na 185 by decide +kernel) (Nat.le_of_ble_eq_true rfl) (show (2 : Nat) ≤ pm_n 185 by decide +kernel) (rcv_ok hM (by decide +kernel)) (rf_isRule hM hF h2 n6 v) (fun r2 w3 hq => ?_)
    obtain ⟨rfl, rfl⟩ := hq
    show wp _ 199 10 [(0, .ref 146), (1, .int v)] [.int (tB (0 ≤ Int32.toInt v ∧ Int32.toInt v < n))] w _
    by_cases h4 : 0 ≤ Int32.toInt v ∧ Int32.toInt v < n
    · rw [show tB (0 ≤ Int32.toInt v ∧ Int32.toInt v < n) = 1 from if_pos h4]
      refine wp_g 1 (pc1 := 16) (lv1 := [(0, .ref 146), (1, .int v)]) (st1 := []) (w1 := w) rfl ?_
      refine wp_g 1 (pc1 := 17) (lv1 := [(0, .ref 146), (1, .int v)]) (st1 := [.ref 146]) (w1 := w) rfl ?_
      refine wp_get (kf := 42) (ln := 3) (a := 12) (b := 21) (z := 0) (by decide +kernel) hM h21 ?_
      refine wp_g 3 (pc1 := 23) (lv1 := [(2, .int fo), (0, .ref 146), (1, .int v)]) (st1 := [.int v, .ref 146]) (w1 := w) rfl ?_
      refine wp_put (kf := 42) (ln := 3) (a := 12) (b := 21) (z := 0) (by decide +kernel) hM (mo_lt hF 21 (by decide)) (show pm_fit (pm_ft 12 21) (.int v) = true by rw [show pm_ft 12 21 = .int by decide +kernel]; rfl) ?_
      refine wp_g 1 (pc1 := 27) (lv1 := [(2, .int fo), (0, .ref 146), (1, .int v)]) (st1 := [.int fo]) (w1 := (List.set w 146 (0, 12, (List.set F 21 (.int v))))) rfl ?_
      refine wp_rt (i := .ireturn) (r := some (.int fo)) (ln := 1) (a := 0) (b := 0) (z := 0) (by decide +kernel) rfl (ret_ok (by decide +kernel)) ?_
      exfalso
      have jh1 := i3_eqf h1
      simp only [show ((-1 : Int32)).toInt = -1 by decide] at jh1
      omega
    · rw [show tB (0 ≤ Int32.toInt v ∧ Int32.toInt v < n) = 0 from if_neg h4]
      refine wp_g 1 (pc1 := 13) (lv1 := [(0, .ref 146), (1, .int v)]) (st1 := []) (w1 := w) rfl ?_
      refine wp_g 1 (pc1 := 15) (lv1 := [(0, .ref 146), (1, .int v)]) (st1 := [.int ((-2))]) (w1 := w) rfl ?_
      refine wp_rt (i := .ireturn) (r := some (.int ((-2)))) (ln := 1) (a := 0) (b := 0) (z := 0) (by decide +kernel) rfl (ret_ok (by decide +kernel)) ?_
      exact ⟨rfl, rfl⟩
