section WD
variable {d k pc : Nat} {lv : pm_L} {rest : List Value} {w : pm_H} {ln a b : Nat} {z : Int} {P : Option Value → pm_H → Prop}
theorem wp_dv {x y : Nat} (hI : pm_I k pc = some (.idiv, ln, a, b, z)) (hx : x < 2 ^ 31) (h0 : 0 < y) (hy : y < 2 ^ 31) (kk : wp d k (pc + 1) lv (.int (nI (x / y)) :: rest) w P) : wp d k pc lv (.int (nI y) :: .int (nI x) :: rest) w P := by
  refine wp_of (fun _ _ h3 => ev_st hI rfl rfl ?_ h3) kk
  show (if nI y = 0 then none else some (pc + 1, lv, Value.int (nI x / nI y) :: rest, w)) = _
  rw [if_neg (nI_ne0 h0 hy), pk_div hx h0 hy]
theorem wp_rm {x y : Nat} (hI : pm_I k pc = some (.irem, ln, a, b, z)) (hx : x < 2 ^ 31) (h0 : 0 < y) (hy : y < 2 ^ 31) (kk : wp d k (pc + 1) lv (.int (nI (x % y)) :: rest) w P) : wp d k pc lv (.int (nI y) :: .int (nI x) :: rest) w P := by
  refine wp_of (fun _ _ h3 => ev_st hI rfl rfl ?_ h3) kk
  show (if nI y = 0 then none else some (pc + 1, lv, Value.int (nI x - nI x / nI y * nI y) :: rest, w)) = _
  rw [if_neg (nI_ne0 h0 hy), pk_rem hx h0 hy]
end WD
set_option maxRecDepth 100000 in
theorem rf_in {d : Nat} {w : pm_H} (v lo hi : Int64) : wp d 147 0 (lv_args 0 [.long v, .long lo, .long hi]) [] w (fun r w1 => r = some (.int (tB (lo.toInt ≤ v.toInt ∧ v.toInt ≤ hi.toInt))) ∧ w = w1) := by
  show wp _ 147 0 [(0, .long v), (2, .long lo), (4, .long hi)] [] w _
  refine wp_g 3 (pc1 := 3) (lv1 := [(0, .long v), (2, .long lo), (4, .long hi)]) (st1 := [.int (lg_cmp v lo)]) (w1 := w) rfl ?_
  refine wp_ifc (cnd := .lt) (o := 14) (ln := 3) (a := 17) (b := 0) (z := 0) (by decide +kernel) (fun h1 => ?_) (fun h1 => ?_)
  · have h1 := of_decide_eq_true h1
    refine wp_g 1 (pc1 := 18) (lv1 := [(0, .long v), (2, .long lo), (4, .long hi)]) (st1 := [.int 0]) (w1 := w) rfl ?_
    refine wp_rt (i := .ireturn) (r := some (.int 0)) (ln := 1) (a := 0) (b := 0) (z := 0) (by decide +kernel) rfl (ret_b (by decide +kernel) (Or.inl rfl)) ?_
    have jh1 := i3_ltt h1
    have q0 := lgc v lo
    simp only [show ((0 : Int32)).toInt = 0 by decide, Int32.toInt_toInt64, show ((-3 : Int64)).toInt = -3 by decide, show ((-2 : Int64)).toInt = -2 by decide, show ((-1 : Int64)).toInt = -1 by decide, show ((0 : Int64)).toInt = 0 by decide, show ((1 : Int64)).toInt = 1 by decide, show ((2 : Int64)).toInt = 2 by decide, show ((3 : Int64)).toInt = 3 by decide, show ((4 : Int64)).toInt = 4 by decide, show ((5 : Int64)).toInt = 5 by decide, show ((6 : Int64)).toInt = 6 by decide, show ((7 : Int64)).toInt = 7 by decide, show ((8 : Int64)).toInt = 8 by decide, show ((9 : Int64)).toInt = 9 by decide, show ((10 : Int64)).toInt = 10 by decide, show ((11 : Int64)).toInt = 11 by decide] at jh1 q0
    exact ⟨congrArg (fun v => some (Value.int v)) (tB_f (by omega)).symm, rfl⟩
  · have h1 := of_decide_eq_false h1
    refine wp_g 3 (pc1 := 10) (lv1 := [(0, .long v), (2, .long lo), (4, .long hi)]) (st1 := [.int (lg_cmp v hi)]) (w1 := w) rfl ?_
    refine wp_ifc (cnd := .gt) (o := 7) (ln := 3) (a := 17) (b := 0) (z := 0) (by decide +kernel) (fun h2 => ?_) (fun h2 => ?_)
    · have h2 := of_decide_eq_true h2
      refine wp_g 1 (pc1 := 18) (lv1 := [(0, .long v), (2, .long lo), (4, .long hi)]) (st1 := [.int 0]) (w1 := w) rfl ?_
      refine wp_rt (i := .ireturn) (r := some (.int 0)) (ln := 1) (a := 0) (b := 0) (z := 0) (by decide +kernel) rfl (ret_b (by decide +kernel) (Or.inl rfl)) ?_
      have jh1 := i3_ltf h1
      have jh2 := i3_gtt h2
      have q0 := lgc v lo
      have q1 := lgc v hi
      simp only [show ((0 : Int32)).toInt = 0 by decide, Int32.toInt_toInt64, show ((-3 : Int64)).toInt = -3 by decide, show ((-2 : Int64)).toInt = -2 by decide, show ((-1 : Int64)).toInt = -1 by decide, show ((0 : Int64)).toInt = 0 by decide, show ((1 : Int64)).toInt = 1 by decide, show ((2 : Int64)).toInt = 2 by decide, show ((3 : Int64)).toInt = 3 by decide, show ((4 : Int64)).toInt = 4 by decide, show ((5 : Int64)).toInt = 5 by decide, show ((6 : Int64)).toInt = 6 by decide, show ((7 : Int64)).toInt = 7 by decide, show ((8 : Int64)).toInt = 8 by decide, show ((9 : Int64)).toInt = 9 by decide, show ((10 : Int64)).toInt = 10 by decide, show ((11 : Int64)).toInt = 11 by decide] at jh1 jh2 q0 q1
      exact ⟨congrArg (fun v => some (Value.int v)) (tB_f (by omega)).symm, rfl⟩
    · have h2 := of_decide_eq_false h2
      refine wp_g 2 (pc1 := 18) (lv1 := [(0, .long v), (2, .long lo), (4, .long hi)]) (st1 := [.int 1]) (w1 := w) rfl ?_
      refine wp_rt (i := .ireturn) (r := some (.int 1)) (ln := 1) (a := 0) (b := 0) (z := 0) (by decide +kernel) rfl (ret_b (by decide +kernel) (Or.inr rfl)) ?_
      have jh1 := i3_ltf h1
      have jh2 := i3_gtf h2
      have q0 := lgc v lo
      have q1 := lgc v hi
      simp only [show ((0 : Int32)).toInt = 0 by decide, Int32.toInt_toInt64, show ((-3 : Int64)).toInt = -3 by decide, show ((-2 : Int64)).toInt = -2 by decide, show ((-1 : Int64)).toInt = -1 by decide, show ((0 : Int64)).toInt = 0 by decide, show ((1 : Int64)).toInt = 1 by decide, show ((2 : Int64)).toInt = 2 by decide, show ((3 : Int64)).toInt = 3 by decide, show ((4 : Int64)).toInt = 4 by decide, show ((5 : Int64)).toInt = 5 by decide, show ((6 : Int64)).toInt = 6 by decide, show ((7 : Int64)).toInt = 7 by decide, show ((8 : Int64)).toInt = 8 by decide, show ((9 : Int64)).toInt = 9 by decide, show ((10 : Int64)).toInt = 10 by decide, show ((11 : Int64)).toInt = 11 by decide] at jh1 jh2 q0 q1
      exact ⟨congrArg (fun v => some (Value.int v)) (tB_t (by omega)).symm, rfl⟩
set_option maxRecDepth 100000 in
theorem rf_isOf {d : Nat} {w : pm_H} (s k : Int32) : wp d 148 0 (lv_args 0 [.int s, .int k]) [] w (fun r w1 => r = some (.int (tB ((s >>> (k &&& 31)) &&& 1 = 1))) ∧ w = w1) := by
  show wp _ 148 0 [(0, .int s), (1, .int k)] [] w _
  refine wp_g 6 (pc1 := 6) (lv1 := [(0, .int s), (1, .int k)]) (st1 := [.int 1, .int ((s >>> (k &&& 31)) &&& 1)]) (w1 := w) rfl ?_
  refine wp_icm (cnd := .ne) (o := 7) (ln := 3) (a := 13) (b := 0) (z := 0) (by decide +kernel) (fun h1 => ?_) (fun h1 => ?_)
  · have h1 := of_decide_eq_true h1
    refine wp_g 1 (pc1 := 14) (lv1 := [(0, .int s), (1, .int k)]) (st1 := [.int 0]) (w1 := w) rfl ?_
    refine wp_rt (i := .ireturn) (r := some (.int 0)) (ln := 1) (a := 0) (b := 0) (z := 0) (by decide +kernel) rfl (ret_b (by decide +kernel) (Or.inl rfl)) ?_
    exact ⟨by first | (simp [tB, h1]; done) | (exfalso; clear w; simp_all; done), rfl⟩
  · have h1 := Classical.not_not.mp (of_decide_eq_false h1)
    refine wp_g 2 (pc1 := 14) (lv1 := [(0, .int s), (1, .int k)]) (st1 := [.int 1]) (w1 := w) rfl ?_
    refine wp_rt (i := .ireturn) (r := some (.int 1)) (ln := 1) (a := 0) (b := 0) (z := 0) (by decide +kernel) rfl (ret_b (by decide +kernel) (Or.inr rfl)) ?_
    exact ⟨by first | (simp [tB, h1]; done) | (exfalso; clear w; simp_all; done), rfl⟩
set_option maxRecDepth 100000 in
theorem rf_placeOf {d : Nat} {w : pm_H} {n : Nat} (hn : n < 64) : wp d 213 0 (lv_args 0 [.int (nI n)]) [] w (fun r w1 => r = some (.int (nI (n / 4))) ∧ w = w1) := by
  show wp _ 213 0 [(0, .int (nI n))] [] w _
  refine wp_g 2 (pc1 := 2) (lv1 := [(0, .int (nI n))]) (st1 := [.int 4, .int (nI n)]) (w1 := w) rfl ?_
  refine wp_dv (x := n) (y := 4) (ln := 1) (a := 0) (b := 0) (z := 0) (by decide +kernel) (by omega) (by decide) (by decide) ?_
  refine wp_rt (i := .ireturn) (r := some (.int (nI (n / 4)))) (ln := 1) (a := 0) (b := 0) (z := 0) (by decide +kernel) rfl (ret_ok (by decide +kernel)) ?_
  exact ⟨rfl, rfl⟩
set_option maxRecDepth 100000 in
theorem rf_sideOf {d : Nat} {w : pm_H} {n : Nat} (hn : n < 64) : wp d 214 0 (lv_args 0 [.int (nI n)]) [] w (fun r w1 => r = some (.int (nI (n / 2 % 2))) ∧ w = w1) := by
  show wp _ 214 0 [(0, .int (nI n))] [] w _
  refine wp_g 2 (pc1 := 2) (lv1 := [(0, .int (nI n))]) (st1 := [.int 2, .int (nI n)]) (w1 := w) rfl ?_
  refine wp_dv (x := n) (y := 2) (ln := 1) (a := 0) (b := 0) (z := 0) (by decide +kernel) (by omega) (by decide) (by decide) ?_
  refine wp_g 1 (pc1 := 4) (lv1 := [(0, .int (nI n))]) (st1 := [.int 2, .int (nI (n / 2))]) (w1 := w) rfl ?_
  refine wp_rm (x := n / 2) (y := 2) (ln := 1) (a := 0) (b := 0) (z := 0) (by decide +kernel) (by omega) (by decide) (by decide) ?_
  refine wp_rt (i := .ireturn) (r := some (.int (nI ((n / 2) % 2)))) (ln := 1) (a := 0) (b := 0) (z := 0) (by decide +kernel) rfl (ret_ok (by decide +kernel)) ?_
  exact ⟨rfl, rfl⟩
set_option maxRecDepth 100000 in
theorem rf_wayOf {d : Nat} {w : pm_H} {n : Nat} (hn : n < 64) : wp d 215 0 (lv_args 0 [.int (nI n)]) [] w (fun r w1 => r = some (.int (nI (n % 2))) ∧ w = w1) := by
  show wp _ 215 0 [(0, .int (nI n))] [] w _
  refine wp_g 2 (pc1 := 2) (lv1 := [(0, .int (nI n))]) (st1 := [.int 2, .int (nI n)]) (w1 := w) rfl ?_
  refine wp_rm (x := n) (y := 2) (ln := 1) (a := 0) (b := 0) (z := 0) (by decide +kernel) (by omega) (by decide) (by decide) ?_
  refine wp_rt (i := .ireturn) (r := some (.int (nI (n % 2)))) (ln := 1) (a := 0) (b := 0) (z := 0) (by decide +kernel) rfl (ret_ok (by decide +kernel)) ?_
  exact ⟨rfl, rfl⟩
set_option maxRecDepth 100000 in
theorem rf_isLine {d : Nat} {w : pm_H} {F : List Value} (hM : w[146]? = some (0, 12, F)) (hF : MF F) {f : Nat → Int32} {m : Nat} (hs : w[156]? = some (1, 0, ar 130 f)) (hm : f 0 = nI m) (m8 : m ≤ 8) {wd : Nat} (hwd : f 10 = nI wd) (wd8 : wd ≤ 8) (wz : 0 < m → 1 ≤ wd) (c : Int32) : wp (d + 1) 204 0 (lv_args 0 [.ref 146, .int c]) [] w (fun r w1 => r = some (.int (tB (0 < m ∧ 0 ≤ c.toInt ∧ c.toInt + 1 < wd))) ∧ w = w1) := by
  show wp _ 204 0 [(0, .ref 146), (1, .int c)] [] w _
  refine wp_g 1 (pc1 := 1) (lv1 := [(0, .ref 146), (1, .int c)]) (st1 := [.ref 146]) (w1 := w) rfl ?_
  refine wp_cc [.ref 146] [] (i := .invokevirtual 301) (ln := 3) (a := 190) (b := 0) (z := 0) (by decide +kernel) rfl rfl (by decide) rfl (show (1 : Nat) = pm_na 190 by decide +kernel) (Nat.le_of_ble_eq_true rfl) (show (1 : Nat) ≤ pm_n 190 by decide +kernel) (rcv_ok hM (by decide +kernel)) (rf_isCloth hM hF hs hm m8) (fun r1 w2 hq => ?_)
  obtain ⟨rfl, rfl⟩ := hq
  show wp _ 204 4 [(0, .ref 146), (1, .int c)] [.int (tB (0 < m))] w _
  by_cases h3 : 0 < m
  · rw [show tB (0 < m) = 1 from if_pos h3]
    refine wp_g 1 (pc1 := 7) (lv1 := [(0, .ref 146), (1, .int c)]) (st1 := []) (w1 := w) rfl ?_
    refine wp_g 1 (pc1 := 8) (lv1 := [(0, .ref 146), (1, .int c)]) (st1 := [.int c]) (w1 := w) rfl ?_
    refine wp_ifc (cnd := .lt) (o := 20) (ln := 3) (a := 28) (b := 0) (z := 0) (by decide +kernel) (fun h4 => ?_) (fun h4 => ?_)
    · have h4 := of_decide_eq_true h4
      refine wp_g 1 (pc1 := 29) (lv1 := [(0, .ref 146), (1, .int c)]) (st1 := [.int 0]) (w1 := w) rfl ?_
      refine wp_rt (i := .ireturn) (r := some (.int 0)) (ln := 1) (a := 0) (b := 0) (z := 0) (by decide +kernel) rfl (ret_b (by decide +kernel) (Or.inl rfl)) ?_
      have jh4 := i3_ltt h4
      simp only [show ((0 : Int32)).toInt = 0 by decide] at jh4
      exact ⟨congrArg (fun v => some (Value.int v)) (tB_f (by omega)).symm, rfl⟩
    · have h4 := of_decide_eq_false h4
      refine wp_g 2 (pc1 := 13) (lv1 := [(0, .ref 146), (1, .int c)]) (st1 := [.ref 146, .int c]) (w1 := w) rfl ?_
      refine wp_get (kf := 39) (ln := 3) (a := 12) (b := 20) (z := 0) (by decide +kernel) hM (mo_20 hF) ?_
      refine wp_g 1 (pc1 := 18) (lv1 := [(0, .ref 146), (1, .int c)]) (st1 := [.int 10, .ref 156, .int c]) (w1 := w) rfl ?_
      refine wp_ia (i := 10) (ln := 1) (a := 0) (b := 0) (z := 0) (by decide +kernel) hs (by omega) (by decide) ?_
      rw [hwd]
      refine wp_g 2 (pc1 := 21) (lv1 := [(0, .ref 146), (1, .int c)]) (st1 := [.int ((nI wd) - 1), .int c]) (w1 := w) rfl ?_
      refine wp_top (show (nI wd) - 1 = nI (wd - 1) from nx_sub (rfl : nI wd = nI wd) (rfl : (1 : Int32) = nI 1) (by omega)) ?_
      refine wp_icm (cnd := .ge) (o := 7) (ln := 3) (a := 28) (b := 0) (z := 0) (by decide +kernel) (fun h5 => ?_) (fun h5 => ?_)
      · have h5 := of_decide_eq_true h5
        refine wp_g 1 (pc1 := 29) (lv1 := [(0, .ref 146), (1, .int c)]) (st1 := [.int 0]) (w1 := w) rfl ?_
        refine wp_rt (i := .ireturn) (r := some (.int 0)) (ln := 1) (a := 0) (b := 0) (z := 0) (by decide +kernel) rfl (ret_b (by decide +kernel) (Or.inl rfl)) ?_
        have jh4 := i3_ltf h4
        have jh5 := i3_get h5
        simp only [show ((0 : Int32)).toInt = 0 by decide, show (nI (wd - 1)).toInt = ((wd - 1 : Nat) : Int) from nI_toInt (by omega)] at jh4 jh5
        exact ⟨congrArg (fun v => some (Value.int v)) (tB_f (by omega)).symm, rfl⟩
      · have h5 := of_decide_eq_false h5
        refine wp_g 2 (pc1 := 29) (lv1 := [(0, .ref 146), (1, .int c)]) (st1 := [.int 1]) (w1 := w) rfl ?_
        refine wp_rt (i := .ireturn) (r := some (.int 1)) (ln := 1) (a := 0) (b := 0) (z := 0) (by decide +kernel) rfl (ret_b (by decide +kernel) (Or.inr rfl)) ?_
        have jh4 := i3_ltf h4
        have jh5 := i3_gef h5
        simp only [show ((0 : Int32)).toInt = 0 by decide, show (nI (wd - 1)).toInt = ((wd - 1 : Nat) : Int) from nI_toInt (by omega)] at jh4 jh5
        exact ⟨congrArg (fun v => some (Value.int v)) (tB_t (by omega)).symm, rfl⟩
  · rw [show tB (0 < m) = 0 from if_neg h3]
    refine wp_g 1 (pc1 := 28) (lv1 := [(0, .ref 146), (1, .int c)]) (st1 := []) (w1 := w) rfl ?_
    refine wp_g 1 (pc1 := 29) (lv1 := [(0, .ref 146), (1, .int c)]) (st1 := [.int 0]) (w1 := w) rfl ?_
    refine wp_rt (i := .ireturn) (r := some (.int 0)) (ln := 1) (a := 0) (b := 0) (z := 0) (by decide +kernel) rfl (ret_b (by decide +kernel) (Or.inl rfl)) ?_
    exact ⟨congrArg (fun v => some (Value.int v)) (tB_f (by omega)).symm, rfl⟩
/-- whether a cell at place a moves: the line behind place q, side s -/
def mvd (a q s : Int32) : Prop := (s = 0 ∧ q < a) ∨ (¬ s = 0 ∧ a ≤ q)
def mvd_dec (a q s : Int32) : Decidable (mvd a q s) := by unfold mvd; exact inferInstance
def mvb (a q s : Int32) : Int32 := if s = 0 then (if q < a then 1 else 0) else (if a ≤ q then 1 else 0)
/-- which kind a joint would be creased -/
def kby (a b u q t : Int32) : Int32 := if a = b then 0 else if a = q ∨ a = q + 1 then (if b = q ∨ b = q + 1 then (if (t = 0 ↔ u = 1) then 1 else 2) else 0) else 0
set_option maxRecDepth 100000 in
theorem rf_isMoved {d : Nat} {w : pm_H} {F : List Value} (hM : w[146]? = some (0, 12, F)) (hF : MF F) {f : Nat → Int32} (hs : w[156]? = some (1, 0, ar 130 f)) {c : Nat} (hc : c < 8) (q s : Int32) : wp (d + 1) 205 0 (lv_args 0 [.ref 146, .int (nI c), .int q, .int s]) [] w (fun r w1 => r = some (.int (mvb (f (12 + 4 * c)) q s)) ∧ w = w1) := by
  show wp _ 205 0 [(0, .ref 146), (1, .int (nI c)), (2, .int q), (3, .int s)] [] w _
  refine wp_g 1 (pc1 := 1) (lv1 := [(0, .ref 146), (1, .int (nI c)), (2, .int q), (3, .int s)]) (st1 := [.int s]) (w1 := w) rfl ?_
  refine wp_ifc (cnd := .ne) (o := 21) (ln := 3) (a := 22) (b := 0) (z := 0) (by decide +kernel) (fun h1 => ?_) (fun h1 => ?_)
  · have h1 := of_decide_eq_true h1
    refine wp_g 3 (pc1 := 25) (lv1 := [(0, .ref 146), (1, .int (nI c)), (2, .int q), (3, .int s)]) (st1 := [.int 0, .int (nI c), .ref 146]) (w1 := w) rfl ?_
    refine wp_cc [.ref 146, .int (nI c), .int 0] [] (i := .invokevirtual 304) (ln := 3) (a := 194) (b := 0) (z := 0) (by decide +kernel) rfl rfl (by decide) rfl (show (3 : Nat) = pm_na 194 by decide +kernel) (Nat.le_of_ble_eq_true rfl) (show (3 : Nat) ≤ pm_n 194 by decide +kernel) (rcv_ok hM (by decide +kernel)) (rf_cellOf hM hF hs (c := c) (t := 0) (by omega) (by omega)) (fun r2 w3 hq => ?_)
    obtain ⟨rfl, rfl⟩ := hq
    show wp _ 205 28 [(0, .ref 146), (1, .int (nI c)), (2, .int q), (3, .int s)] [.int (f (12 + 4 * c))] w _
    refine wp_g 1 (pc1 := 29) (lv1 := [(0, .ref 146), (1, .int (nI c)), (2, .int q), (3, .int s)]) (st1 := [.int q, .int (f (12 + 4 * c))]) (w1 := w) rfl ?_
    refine wp_icm (cnd := .gt) (o := 7) (ln := 3) (a := 36) (b := 0) (z := 0) (by decide +kernel) (fun h4 => ?_) (fun h4 => ?_)
    · have h4 := of_decide_eq_true h4
      refine wp_g 1 (pc1 := 37) (lv1 := [(0, .ref 146), (1, .int (nI c)), (2, .int q), (3, .int s)]) (st1 := [.int 0]) (w1 := w) rfl ?_
      refine wp_rt (i := .ireturn) (r := some (.int 0)) (ln := 1) (a := 0) (b := 0) (z := 0) (by decide +kernel) rfl (ret_b (by decide +kernel) (Or.inl rfl)) ?_
      exact ⟨by first | (simp [mvb, h1, h4]; done) | (exfalso; clear hM hF hs; simp_all; done), rfl⟩
    · have h4 := of_decide_eq_false h4
      refine wp_g 2 (pc1 := 37) (lv1 := [(0, .ref 146), (1, .int (nI c)), (2, .int q), (3, .int s)]) (st1 := [.int 1]) (w1 := w) rfl ?_
      refine wp_rt (i := .ireturn) (r := some (.int 1)) (ln := 1) (a := 0) (b := 0) (z := 0) (by decide +kernel) rfl (ret_b (by decide +kernel) (Or.inr rfl)) ?_
      exact ⟨by first | (simp [mvb, h1, h4]; done) | (exfalso; clear hM hF hs; simp_all; done), rfl⟩
  · have h1 := Classical.not_not.mp (of_decide_eq_false h1)
    refine wp_g 3 (pc1 := 7) (lv1 := [(0, .ref 146), (1, .int (nI c)), (2, .int q), (3, .int s)]) (st1 := [.int 0, .int (nI c), .ref 146]) (w1 := w) rfl ?_
    refine wp_cc [.ref 146, .int (nI c), .int 0] [] (i := .invokevirtual 304) (ln := 3) (a := 194) (b := 0) (z := 0) (by decide +kernel) rfl rfl (by decide) rfl (show (3 : Nat) = pm_na 194 by decide +kernel) (Nat.le_of_ble_eq_true rfl) (show (3 : Nat) ≤ pm_n 194 by decide +kernel) (rcv_ok hM (by decide +kernel)) (rf_cellOf hM hF hs (c := c) (t := 0) (by omega) (by omega)) (fun r5 w6 hq => ?_)
    obtain ⟨rfl, rfl⟩ := hq
    show wp _ 205 10 [(0, .ref 146), (1, .int (nI c)), (2, .int q), (3, .int s)] [.int (f (12 + 4 * c))] w _
    refine wp_g 1 (pc1 := 11) (lv1 := [(0, .ref 146), (1, .int (nI c)), (2, .int q), (3, .int s)]) (st1 := [.int q, .int (f (12 + 4 * c))]) (w1 := w) rfl ?_
    refine wp_icm (cnd := .le) (o := 7) (ln := 3) (a := 18) (b := 0) (z := 0) (by decide +kernel) (fun h7 => ?_) (fun h7 => ?_)
    · have h7 := of_decide_eq_true h7
      refine wp_g 2 (pc1 := 37) (lv1 := [(0, .ref 146), (1, .int (nI c)), (2, .int q), (3, .int s)]) (st1 := [.int 0]) (w1 := w) rfl ?_
      refine wp_rt (i := .ireturn) (r := some (.int 0)) (ln := 1) (a := 0) (b := 0) (z := 0) (by decide +kernel) rfl (ret_b (by decide +kernel) (Or.inl rfl)) ?_
      exact ⟨by first | (simp [mvb, h1, h7]; done) | (exfalso; clear hM hF hs; simp_all; done), rfl⟩
    · have h7 := of_decide_eq_false h7
      refine wp_g 2 (pc1 := 37) (lv1 := [(0, .ref 146), (1, .int (nI c)), (2, .int q), (3, .int s)]) (st1 := [.int 1]) (w1 := w) rfl ?_
      refine wp_rt (i := .ireturn) (r := some (.int 1)) (ln := 1) (a := 0) (b := 0) (z := 0) (by decide +kernel) rfl (ret_b (by decide +kernel) (Or.inr rfl)) ?_
      exact ⟨by first | (simp [mvb, h1, h7]; done) | (exfalso; clear hM hF hs; simp_all; done), rfl⟩
set_option maxRecDepth 100000 in
theorem rf_kindBy {d : Nat} {w : pm_H} {F : List Value} (hM : w[146]? = some (0, 12, F)) (hF : MF F) {f : Nat → Int32} (hs : w[156]? = some (1, 0, ar 130 f)) {j : Nat} (hc : j < 7) (q t : Int32) : wp (d + 1) 206 0 (lv_args 0 [.ref 146, .int (nI j), .int q, .int t]) [] w (fun r w1 => r = some (.int (kby (f (12 + 4 * j)) (f (12 + 4 * (j + 1))) (f (12 + 4 * j + 2)) q t)) ∧ w = w1) := by
  show wp _ 206 0 [(0, .ref 146), (1, .int (nI j)), (2, .int q), (3, .int t)] [] w _
  refine wp_g 3 (pc1 := 3) (lv1 := [(0, .ref 146), (1, .int (nI j)), (2, .int q), (3, .int t)]) (st1 := [.int 0, .int (nI j), .ref 146]) (w1 := w) rfl ?_
  refine wp_cc [.ref 146, .int (nI j), .int 0] [] (i := .invokevirtual 304) (ln := 3) (a := 194) (b := 0) (z := 0) (by decide +kernel) rfl rfl (by decide) rfl (show (3 : Nat) = pm_na 194 by decide +kernel) (Nat.le_of_ble_eq_true rfl) (show (3 : Nat) ≤ pm_n 194 by decide +kernel) (rcv_ok hM (by decide +kernel)) (rf_cellOf hM hF hs (c := j) (t := 0) (by omega) (by omega)) (fun r1 w2 hq => ?_)
  obtain ⟨rfl, rfl⟩ := hq
  show wp _ 206 6 [(0, .ref 146), (1, .int (nI j)), (2, .int q), (3, .int t)] [.int (f (12 + 4 * j))] w _
  refine wp_g 5 (pc1 := 12) (lv1 := [(4, .int (f (12 + 4 * j))), (0, .ref 146), (1, .int (nI j)), (2, .int q), (3, .int t)]) (st1 := [.int ((nI j) + 1), .ref 146]) (w1 := w) rfl ?_
  refine wp_top (show (nI j) + 1 = nI (j + 1) from nx_add (rfl : nI j = nI j) (rfl : (1 : Int32) = nI 1)) ?_
  refine wp_g 1 (pc1 := 13) (lv1 := [(4, .int (f (12 + 4 * j))), (0, .ref 146), (1, .int (nI j)), (2, .int q), (3, .int t)]) (st1 := [.int 0, .int (nI (j + 1)), .ref 146]) (w1 := w) rfl ?_
  refine wp_cc [.ref 146, .int (nI (j + 1)), .int 0] [] (i := .invokevirtual 304) (ln := 3) (a := 194) (b := 0) (z := 0) (by decide +kernel) rfl rfl (by decide) rfl (show (3 : Nat) = pm_na 194 by decide +kernel) (Nat.le_of_ble_eq_true rfl) (show (3 : Nat) ≤ pm_n 194 by decide +kernel) (rcv_ok hM (by decide +kernel)) (rf_cellOf hM hF hs (c := j + 1) (t := 0) (by omega) (by omega)) (fun r3 w4 hq => ?_)
  obtain ⟨rfl, rfl⟩ := hq
  show wp _ 206 16 [(4, .int (f (12 + 4 * j))), (0, .ref 146), (1, .int (nI j)), (2, .int q), (3, .int t)] [.int (f (12 + 4 * (j + 1)))] w _
  refine wp_g 3 (pc1 := 22) (lv1 := [(5, .int (f (12 + 4 * (j + 1)))), (4, .int (f (12 + 4 * j))), (0, .ref 146), (1, .int (nI j)), (2, .int q), (3, .int t)]) (st1 := [.int (f (12 + 4 * (j + 1))), .int (f (12 + 4 * j))]) (w1 := w) rfl ?_
  refine wp_icm (cnd := .eq) (o := 31) (ln := 3) (a := 53) (b := 0) (z := 0) (by decide +kernel) (fun h5 => ?_) (fun h5 => ?_)
  · have h5 := of_decide_eq_true h5
    refine wp_g 1 (pc1 := 54) (lv1 := [(5, .int (f (12 + 4 * (j + 1)))), (4, .int (f (12 + 4 * j))), (0, .ref 146), (1, .int (nI j)), (2, .int q), (3, .int t)]) (st1 := [.int 0]) (w1 := w) rfl ?_
    refine wp_rt (i := .ireturn) (r := some (.int 0)) (ln := 1) (a := 0) (b := 0) (z := 0) (by decide +kernel) rfl (ret_ok (by decide +kernel)) ?_
    exact ⟨by first | (simp [kby, h5]; done) | (exfalso; clear hM hF hs; simp_all; done), rfl⟩
  · have h5 := of_decide_eq_false h5
    refine wp_g 2 (pc1 := 28) (lv1 := [(5, .int (f (12 + 4 * (j + 1)))), (4, .int (f (12 + 4 * j))), (0, .ref 146), (1, .int (nI j)), (2, .int q), (3, .int t)]) (st1 := [.int q, .int (f (12 + 4 * j))]) (w1 := w) rfl ?_
    refine wp_icm (cnd := .eq) (o := 11) (ln := 3) (a := 39) (b := 0) (z := 0) (by decide +kernel) (fun h6 => ?_) (fun h6 => ?_)
    · have h6 := of_decide_eq_true h6
      refine wp_g 2 (pc1 := 42) (lv1 := [(5, .int (f (12 + 4 * (j + 1)))), (4, .int (f (12 + 4 * j))), (0, .ref 146), (1, .int (nI j)), (2, .int q), (3, .int t)]) (st1 := [.int q, .int (f (12 + 4 * (j + 1)))]) (w1 := w) rfl ?_
      refine wp_icm (cnd := .eq) (o := 13) (ln := 3) (a := 55) (b := 0) (z := 0) (by decide +kernel) (fun h7 => ?_) (fun h7 => ?_)
      · have h7 := of_decide_eq_true h7
        refine wp_g 1 (pc1 := 56) (lv1 := [(5, .int (f (12 + 4 * (j + 1)))), (4, .int (f (12 + 4 * j))), (0, .ref 146), (1, .int (nI j)), (2, .int q), (3, .int t)]) (st1 := [.int t]) (w1 := w) rfl ?_
        refine wp_ifc (cnd := .ne) (o := 7) (ln := 3) (a := 63) (b := 0) (z := 0) (by decide +kernel) (fun h8 => ?_) (fun h8 => ?_)
        · have h8 := of_decide_eq_true h8
          refine wp_g 4 (pc1 := 67) (lv1 := [(5, .int (f (12 + 4 * (j + 1)))), (4, .int (f (12 + 4 * j))), (0, .ref 146), (1, .int (nI j)), (2, .int q), (3, .int t)]) (st1 := [.int 2, .int (nI j), .ref 146, .int 0]) (w1 := w) rfl ?_
          refine wp_cc [.ref 146, .int (nI j), .int 2] [.int 0] (i := .invokevirtual 304) (ln := 3) (a := 194) (b := 0) (z := 0) (by decide +kernel) rfl rfl (by decide) rfl (show (3 : Nat) = pm_na 194 by decide +kernel) (Nat.le_of_ble_eq_true rfl) (show (3 : Nat) ≤ pm_n 194 by decide +kernel) (rcv_ok hM (by decide +kernel)) (rf_cellOf hM hF hs (c := j) (t := 2) (by omega) (by omega)) (fun r9 w10 hq => ?_)
          obtain ⟨rfl, rfl⟩ := hq
          show wp _ 206 70 [(5, .int (f (12 + 4 * (j + 1)))), (4, .int (f (12 + 4 * j))), (0, .ref 146), (1, .int (nI j)), (2, .int q), (3, .int t)] [.int (f (12 + 4 * j + 2)), .int 0] w _
          refine wp_g 1 (pc1 := 71) (lv1 := [(5, .int (f (12 + 4 * (j + 1)))), (4, .int (f (12 + 4 * j))), (0, .ref 146), (1, .int (nI j)), (2, .int q), (3, .int t)]) (st1 := [.int 1, .int (f (12 + 4 * j + 2)), .int 0]) (w1 := w) rfl ?_
          refine wp_icm (cnd := .ne) (o := 7) (ln := 3) (a := 78) (b := 0) (z := 0) (by decide +kernel) (fun h11 => ?_) (fun h11 => ?_)
          · have h11 := of_decide_eq_true h11
            refine wp_g 4 (pc1 := 87) (lv1 := [(5, .int (f (12 + 4 * (j + 1)))), (4, .int (f (12 + 4 * j))), (0, .ref 146), (1, .int (nI j)), (2, .int q), (3, .int t)]) (st1 := [.int 1]) (w1 := w) rfl ?_
            refine wp_rt (i := .ireturn) (r := some (.int 1)) (ln := 1) (a := 0) (b := 0) (z := 0) (by decide +kernel) rfl (ret_ok (by decide +kernel)) ?_
            exact ⟨by first | (simp [kby, h5, h6, h7, h8, h11]; done) | (exfalso; clear hM hF hs; simp_all; done), rfl⟩
          · have h11 := Classical.not_not.mp (of_decide_eq_false h11)
            refine wp_g 4 (pc1 := 87) (lv1 := [(5, .int (f (12 + 4 * (j + 1)))), (4, .int (f (12 + 4 * j))), (0, .ref 146), (1, .int (nI j)), (2, .int q), (3, .int t)]) (st1 := [.int 2]) (w1 := w) rfl ?_
            refine wp_rt (i := .ireturn) (r := some (.int 2)) (ln := 1) (a := 0) (b := 0) (z := 0) (by decide +kernel) rfl (ret_ok (by decide +kernel)) ?_
            exact ⟨by first | (simp [kby, h5, h6, h7, h8, h11]; done) | (exfalso; clear hM hF hs; simp_all; done), rfl⟩
        · have h8 := Classical.not_not.mp (of_decide_eq_false h8)
          refine wp_g 5 (pc1 := 67) (lv1 := [(5, .int (f (12 + 4 * (j + 1)))), (4, .int (f (12 + 4 * j))), (0, .ref 146), (1, .int (nI j)), (2, .int q), (3, .int t)]) (st1 := [.int 2, .int (nI j), .ref 146, .int 1]) (w1 := w) rfl ?_
          refine wp_cc [.ref 146, .int (nI j), .int 2] [.int 1] (i := .invokevirtual 304) (ln := 3) (a := 194) (b := 0) (z := 0) (by decide +kernel) rfl rfl (by decide) rfl (show (3 : Nat) = pm_na 194 by decide +kernel) (Nat.le_of_ble_eq_true rfl) (show (3 : Nat) ≤ pm_n 194 by decide +kernel) (rcv_ok hM (by decide +kernel)) (rf_cellOf hM hF hs (c := j) (t := 2) (by omega) (by omega)) (fun r12 w13 hq => ?_)
          obtain ⟨rfl, rfl⟩ := hq
          show wp _ 206 70 [(5, .int (f (12 + 4 * (j + 1)))), (4, .int (f (12 + 4 * j))), (0, .ref 146), (1, .int (nI j)), (2, .int q), (3, .int t)] [.int (f (12 + 4 * j + 2)), .int 1] w _
          refine wp_g 1 (pc1 := 71) (lv1 := [(5, .int (f (12 + 4 * (j + 1)))), (4, .int (f (12 + 4 * j))), (0, .ref 146), (1, .int (nI j)), (2, .int q), (3, .int t)]) (st1 := [.int 1, .int (f (12 + 4 * j + 2)), .int 1]) (w1 := w) rfl ?_
          refine wp_icm (cnd := .ne) (o := 7) (ln := 3) (a := 78) (b := 0) (z := 0) (by decide +kernel) (fun h14 => ?_) (fun h14 => ?_)
          · have h14 := of_decide_eq_true h14
            refine wp_g 3 (pc1 := 87) (lv1 := [(5, .int (f (12 + 4 * (j + 1)))), (4, .int (f (12 + 4 * j))), (0, .ref 146), (1, .int (nI j)), (2, .int q), (3, .int t)]) (st1 := [.int 2]) (w1 := w) rfl ?_
            refine wp_rt (i := .ireturn) (r := some (.int 2)) (ln := 1) (a := 0) (b := 0) (z := 0) (by decide +kernel) rfl (ret_ok (by decide +kernel)) ?_
            exact ⟨by first | (simp [kby, h5, h6, h7, h8, h14]; done) | (exfalso; clear hM hF hs; simp_all; done), rfl⟩
          · have h14 := Classical.not_not.mp (of_decide_eq_false h14)
            refine wp_g 5 (pc1 := 87) (lv1 := [(5, .int (f (12 + 4 * (j + 1)))), (4, .int (f (12 + 4 * j))), (0, .ref 146), (1, .int (nI j)), (2, .int q), (3, .int t)]) (st1 := [.int 1]) (w1 := w) rfl ?_
            refine wp_rt (i := .ireturn) (r := some (.int 1)) (ln := 1) (a := 0) (b := 0) (z := 0) (by decide +kernel) rfl (ret_ok (by decide +kernel)) ?_
            exact ⟨by first | (simp [kby, h5, h6, h7, h8, h14]; done) | (exfalso; clear hM hF hs; simp_all; done), rfl⟩
      · have h7 := of_decide_eq_false h7
        refine wp_g 4 (pc1 := 50) (lv1 := [(5, .int (f (12 + 4 * (j + 1)))), (4, .int (f (12 + 4 * j))), (0, .ref 146), (1, .int (nI j)), (2, .int q), (3, .int t)]) (st1 := [.int (q + 1), .int (f (12 + 4 * (j + 1)))]) (w1 := w) rfl ?_
        refine wp_icm (cnd := .eq) (o := 5) (ln := 3) (a := 55) (b := 0) (z := 0) (by decide +kernel) (fun h15 => ?_) (fun h15 => ?_)
        · have h15 := of_decide_eq_true h15
          refine wp_g 1 (pc1 := 56) (lv1 := [(5, .int (f (12 + 4 * (j + 1)))), (4, .int (f (12 + 4 * j))), (0, .ref 146), (1, .int (nI j)), (2, .int q), (3, .int t)]) (st1 := [.int t]) (w1 := w) rfl ?_
          refine wp_ifc (cnd := .ne) (o := 7) (ln := 3) (a := 63) (b := 0) (z := 0) (by decide +kernel) (fun h16 => ?_) (fun h16 => ?_)
          · have h16 := of_decide_eq_true h16
            refine wp_g 4 (pc1 := 67) (lv1 := [(5, .int (f (12 + 4 * (j + 1)))), (4, .int (f (12 + 4 * j))), (0, .ref 146), (1, .int (nI j)), (2, .int q), (3, .int t)]) (st1 := [.int 2, .int (nI j), .ref 146, .int 0]) (w1 := w) rfl ?_
            refine wp_cc [.ref 146, .int (nI j), .int 2] [.int 0] (i := .invokevirtual 304) (ln := 3) (a := 194) (b := 0) (z := 0) (by decide +kernel) rfl rfl (by decide) rfl (show (3 : Nat) = pm_na 194 by decide +kernel) (Nat.le_of_ble_eq_true rfl) (show (3 : Nat) ≤ pm_n 194 by decide +kernel) (rcv_ok hM (by decide +kernel)) (rf_cellOf hM hF hs (c := j) (t := 2) (by omega) (by omega)) (fun r17 w18 hq => ?_)
            obtain ⟨rfl, rfl⟩ := hq
            show wp _ 206 70 [(5, .int (f (12 + 4 * (j + 1)))), (4, .int (f (12 + 4 * j))), (0, .ref 146), (1, .int (nI j)), (2, .int q), (3, .int t)] [.int (f (12 + 4 * j + 2)), .int 0] w _
            refine wp_g 1 (pc1 := 71) (lv1 := [(5, .int (f (12 + 4 * (j + 1)))), (4, .int (f (12 + 4 * j))), (0, .ref 146), (1, .int (nI j)), (2, .int q), (3, .int t)]) (st1 := [.int 1, .int (f (12 + 4 * j + 2)), .int 0]) (w1 := w) rfl ?_
            refine wp_icm (cnd := .ne) (o := 7) (ln := 3) (a := 78) (b := 0) (z := 0) (by decide +kernel) (fun h19 => ?_) (fun h19 => ?_)
            · have h19 := of_decide_eq_true h19
              refine wp_g 4 (pc1 := 87) (lv1 := [(5, .int (f (12 + 4 * (j + 1)))), (4, .int (f (12 + 4 * j))), (0, .ref 146), (1, .int (nI j)), (2, .int q), (3, .int t)]) (st1 := [.int 1]) (w1 := w) rfl ?_
              refine wp_rt (i := .ireturn) (r := some (.int 1)) (ln := 1) (a := 0) (b := 0) (z := 0) (by decide +kernel) rfl (ret_ok (by decide +kernel)) ?_
              exact ⟨by first | (simp [kby, h5, h6, h7, h15, h16, h19]; done) | (exfalso; clear hM hF hs; simp_all; done), rfl⟩
            · have h19 := Classical.not_not.mp (of_decide_eq_false h19)
              refine wp_g 4 (pc1 := 87) (lv1 := [(5, .int (f (12 + 4 * (j + 1)))), (4, .int (f (12 + 4 * j))), (0, .ref 146), (1, .int (nI j)), (2, .int q), (3, .int t)]) (st1 := [.int 2]) (w1 := w) rfl ?_
              refine wp_rt (i := .ireturn) (r := some (.int 2)) (ln := 1) (a := 0) (b := 0) (z := 0) (by decide +kernel) rfl (ret_ok (by decide +kernel)) ?_
              exact ⟨by first | (simp [kby, h5, h6, h7, h15, h16, h19]; done) | (exfalso; clear hM hF hs; simp_all; done), rfl⟩
          · have h16 := Classical.not_not.mp (of_decide_eq_false h16)
            refine wp_g 5 (pc1 := 67) (lv1 := [(5, .int (f (12 + 4 * (j + 1)))), (4, .int (f (12 + 4 * j))), (0, .ref 146), (1, .int (nI j)), (2, .int q), (3, .int t)]) (st1 := [.int 2, .int (nI j), .ref 146, .int 1]) (w1 := w) rfl ?_
            refine wp_cc [.ref 146, .int (nI j), .int 2] [.int 1] (i := .invokevirtual 304) (ln := 3) (a := 194) (b := 0) (z := 0) (by decide +kernel) rfl rfl (by decide) rfl (show (3 : Nat) = pm_na 194 by decide +kernel) (Nat.le_of_ble_eq_true rfl) (show (3 : Nat) ≤ pm_n 194 by decide +kernel) (rcv_ok hM (by decide +kernel)) (rf_cellOf hM hF hs (c := j) (t := 2) (by omega) (by omega)) (fun r20 w21 hq => ?_)
            obtain ⟨rfl, rfl⟩ := hq
            show wp _ 206 70 [(5, .int (f (12 + 4 * (j + 1)))), (4, .int (f (12 + 4 * j))), (0, .ref 146), (1, .int (nI j)), (2, .int q), (3, .int t)] [.int (f (12 + 4 * j + 2)), .int 1] w _
            refine wp_g 1 (pc1 := 71) (lv1 := [(5, .int (f (12 + 4 * (j + 1)))), (4, .int (f (12 + 4 * j))), (0, .ref 146), (1, .int (nI j)), (2, .int q), (3, .int t)]) (st1 := [.int 1, .int (f (12 + 4 * j + 2)), .int 1]) (w1 := w) rfl ?_
            refine wp_icm (cnd := .ne) (o := 7) (ln := 3) (a := 78) (b := 0) (z := 0) (by decide +kernel) (fun h22 => ?_) (fun h22 => ?_)
            · have h22 := of_decide_eq_true h22
              refine wp_g 3 (pc1 := 87) (lv1 := [(5, .int (f (12 + 4 * (j + 1)))), (4, .int (f (12 + 4 * j))), (0, .ref 146), (1, .int (nI j)), (2, .int q), (3, .int t)]) (st1 := [.int 2]) (w1 := w) rfl ?_
              refine wp_rt (i := .ireturn) (r := some (.int 2)) (ln := 1) (a := 0) (b := 0) (z := 0) (by decide +kernel) rfl (ret_ok (by decide +kernel)) ?_
              exact ⟨by first | (simp [kby, h5, h6, h7, h15, h16, h22]; done) | (exfalso; clear hM hF hs; simp_all; done), rfl⟩
            · have h22 := Classical.not_not.mp (of_decide_eq_false h22)
              refine wp_g 5 (pc1 := 87) (lv1 := [(5, .int (f (12 + 4 * (j + 1)))), (4, .int (f (12 + 4 * j))), (0, .ref 146), (1, .int (nI j)), (2, .int q), (3, .int t)]) (st1 := [.int 1]) (w1 := w) rfl ?_
              refine wp_rt (i := .ireturn) (r := some (.int 1)) (ln := 1) (a := 0) (b := 0) (z := 0) (by decide +kernel) rfl (ret_ok (by decide +kernel)) ?_
              exact ⟨by first | (simp [kby, h5, h6, h7, h15, h16, h22]; done) | (exfalso; clear hM hF hs; simp_all; done), rfl⟩
        · have h15 := of_decide_eq_false h15
          refine wp_g 1 (pc1 := 54) (lv1 := [(5, .int (f (12 + 4 * (j + 1)))), (4, .int (f (12 + 4 * j))), (0, .ref 146), (1, .int (nI j)), (2, .int q), (3, .int t)]) (st1 := [.int 0]) (w1 := w) rfl ?_
          refine wp_rt (i := .ireturn) (r := some (.int 0)) (ln := 1) (a := 0) (b := 0) (z := 0) (by decide +kernel) rfl (ret_ok (by decide +kernel)) ?_
          exact ⟨by first | (simp [kby, h5, h6, h7, h15]; done) | (exfalso; clear hM hF hs; simp_all; done), rfl⟩
    · have h6 := of_decide_eq_false h6
      refine wp_g 4 (pc1 := 36) (lv1 := [(5, .int (f (12 + 4 * (j + 1)))), (4, .int (f (12 + 4 * j))), (0, .ref 146), (1, .int (nI j)), (2, .int q), (3, .int t)]) (st1 := [.int (q + 1), .int (f (12 + 4 * j))]) (w1 := w) rfl ?_
      refine wp_icm (cnd := .ne) (o := 17) (ln := 3) (a := 53) (b := 0) (z := 0) (by decide +kernel) (fun h23 => ?_) (fun h23 => ?_)
      · have h23 := of_decide_eq_true h23
        refine wp_g 1 (pc1 := 54) (lv1 := [(5, .int (f (12 + 4 * (j + 1)))), (4, .int (f (12 + 4 * j))), (0, .ref 146), (1, .int (nI j)), (2, .int q), (3, .int t)]) (st1 := [.int 0]) (w1 := w) rfl ?_
        refine wp_rt (i := .ireturn) (r := some (.int 0)) (ln := 1) (a := 0) (b := 0) (z := 0) (by decide +kernel) rfl (ret_ok (by decide +kernel)) ?_
        exact ⟨by first | (simp [kby, h5, h6, h23]; done) | (exfalso; clear hM hF hs; simp_all; done), rfl⟩
      · have h23 := Classical.not_not.mp (of_decide_eq_false h23)
        refine wp_g 2 (pc1 := 42) (lv1 := [(5, .int (f (12 + 4 * (j + 1)))), (4, .int (f (12 + 4 * j))), (0, .ref 146), (1, .int (nI j)), (2, .int q), (3, .int t)]) (st1 := [.int q, .int (f (12 + 4 * (j + 1)))]) (w1 := w) rfl ?_
        refine wp_icm (cnd := .eq) (o := 13) (ln := 3) (a := 55) (b := 0) (z := 0) (by decide +kernel) (fun h24 => ?_) (fun h24 => ?_)
        · have h24 := of_decide_eq_true h24
          refine wp_g 1 (pc1 := 56) (lv1 := [(5, .int (f (12 + 4 * (j + 1)))), (4, .int (f (12 + 4 * j))), (0, .ref 146), (1, .int (nI j)), (2, .int q), (3, .int t)]) (st1 := [.int t]) (w1 := w) rfl ?_
          refine wp_ifc (cnd := .ne) (o := 7) (ln := 3) (a := 63) (b := 0) (z := 0) (by decide +kernel) (fun h25 => ?_) (fun h25 => ?_)
          · have h25 := of_decide_eq_true h25
            refine wp_g 4 (pc1 := 67) (lv1 := [(5, .int (f (12 + 4 * (j + 1)))), (4, .int (f (12 + 4 * j))), (0, .ref 146), (1, .int (nI j)), (2, .int q), (3, .int t)]) (st1 := [.int 2, .int (nI j), .ref 146, .int 0]) (w1 := w) rfl ?_
            refine wp_cc [.ref 146, .int (nI j), .int 2] [.int 0] (i := .invokevirtual 304) (ln := 3) (a := 194) (b := 0) (z := 0) (by decide +kernel) rfl rfl (by decide) rfl (show (3 : Nat) = pm_na 194 by decide +kernel) (Nat.le_of_ble_eq_true rfl) (show (3 : Nat) ≤ pm_n 194 by decide +kernel) (rcv_ok hM (by decide +kernel)) (rf_cellOf hM hF hs (c := j) (t := 2) (by omega) (by omega)) (fun r26 w27 hq => ?_)
            obtain ⟨rfl, rfl⟩ := hq
            show wp _ 206 70 [(5, .int (f (12 + 4 * (j + 1)))), (4, .int (f (12 + 4 * j))), (0, .ref 146), (1, .int (nI j)), (2, .int q), (3, .int t)] [.int (f (12 + 4 * j + 2)), .int 0] w _
            refine wp_g 1 (pc1 := 71) (lv1 := [(5, .int (f (12 + 4 * (j + 1)))), (4, .int (f (12 + 4 * j))), (0, .ref 146), (1, .int (nI j)), (2, .int q), (3, .int t)]) (st1 := [.int 1, .int (f (12 + 4 * j + 2)), .int 0]) (w1 := w) rfl ?_
            refine wp_icm (cnd := .ne) (o := 7) (ln := 3) (a := 78) (b := 0) (z := 0) (by decide +kernel) (fun h28 => ?_) (fun h28 => ?_)
            · have h28 := of_decide_eq_true h28
              refine wp_g 4 (pc1 := 87) (lv1 := [(5, .int (f (12 + 4 * (j + 1)))), (4, .int (f (12 + 4 * j))), (0, .ref 146), (1, .int (nI j)), (2, .int q), (3, .int t)]) (st1 := [.int 1]) (w1 := w) rfl ?_
              refine wp_rt (i := .ireturn) (r := some (.int 1)) (ln := 1) (a := 0) (b := 0) (z := 0) (by decide +kernel) rfl (ret_ok (by decide +kernel)) ?_
              exact ⟨by first | (simp [kby, h5, h6, h23, h24, h25, h28]; done) | (exfalso; clear hM hF hs; simp_all; done), rfl⟩
            · have h28 := Classical.not_not.mp (of_decide_eq_false h28)
              refine wp_g 4 (pc1 := 87) (lv1 := [(5, .int (f (12 + 4 * (j + 1)))), (4, .int (f (12 + 4 * j))), (0, .ref 146), (1, .int (nI j)), (2, .int q), (3, .int t)]) (st1 := [.int 2]) (w1 := w) rfl ?_
              refine wp_rt (i := .ireturn) (r := some (.int 2)) (ln := 1) (a := 0) (b := 0) (z := 0) (by decide +kernel) rfl (ret_ok (by decide +kernel)) ?_
              exact ⟨by first | (simp [kby, h5, h6, h23, h24, h25, h28]; done) | (exfalso; clear hM hF hs; simp_all; done), rfl⟩
          · have h25 := Classical.not_not.mp (of_decide_eq_false h25)
            refine wp_g 5 (pc1 := 67) (lv1 := [(5, .int (f (12 + 4 * (j + 1)))), (4, .int (f (12 + 4 * j))), (0, .ref 146), (1, .int (nI j)), (2, .int q), (3, .int t)]) (st1 := [.int 2, .int (nI j), .ref 146, .int 1]) (w1 := w) rfl ?_
            refine wp_cc [.ref 146, .int (nI j), .int 2] [.int 1] (i := .invokevirtual 304) (ln := 3) (a := 194) (b := 0) (z := 0) (by decide +kernel) rfl rfl (by decide) rfl (show (3 : Nat) = pm_na 194 by decide +kernel) (Nat.le_of_ble_eq_true rfl) (show (3 : Nat) ≤ pm_n 194 by decide +kernel) (rcv_ok hM (by decide +kernel)) (rf_cellOf hM hF hs (c := j) (t := 2) (by omega) (by omega)) (fun r29 w30 hq => ?_)
            obtain ⟨rfl, rfl⟩ := hq
            show wp _ 206 70 [(5, .int (f (12 + 4 * (j + 1)))), (4, .int (f (12 + 4 * j))), (0, .ref 146), (1, .int (nI j)), (2, .int q), (3, .int t)] [.int (f (12 + 4 * j + 2)), .int 1] w _
            refine wp_g 1 (pc1 := 71) (lv1 := [(5, .int (f (12 + 4 * (j + 1)))), (4, .int (f (12 + 4 * j))), (0, .ref 146), (1, .int (nI j)), (2, .int q), (3, .int t)]) (st1 := [.int 1, .int (f (12 + 4 * j + 2)), .int 1]) (w1 := w) rfl ?_
            refine wp_icm (cnd := .ne) (o := 7) (ln := 3) (a := 78) (b := 0) (z := 0) (by decide +kernel) (fun h31 => ?_) (fun h31 => ?_)
            · have h31 := of_decide_eq_true h31
              refine wp_g 3 (pc1 := 87) (lv1 := [(5, .int (f (12 + 4 * (j + 1)))), (4, .int (f (12 + 4 * j))), (0, .ref 146), (1, .int (nI j)), (2, .int q), (3, .int t)]) (st1 := [.int 2]) (w1 := w) rfl ?_
              refine wp_rt (i := .ireturn) (r := some (.int 2)) (ln := 1) (a := 0) (b := 0) (z := 0) (by decide +kernel) rfl (ret_ok (by decide +kernel)) ?_
              exact ⟨by first | (simp [kby, h5, h6, h23, h24, h25, h31]; done) | (exfalso; clear hM hF hs; simp_all; done), rfl⟩
            · have h31 := Classical.not_not.mp (of_decide_eq_false h31)
              refine wp_g 5 (pc1 := 87) (lv1 := [(5, .int (f (12 + 4 * (j + 1)))), (4, .int (f (12 + 4 * j))), (0, .ref 146), (1, .int (nI j)), (2, .int q), (3, .int t)]) (st1 := [.int 1]) (w1 := w) rfl ?_
              refine wp_rt (i := .ireturn) (r := some (.int 1)) (ln := 1) (a := 0) (b := 0) (z := 0) (by decide +kernel) rfl (ret_ok (by decide +kernel)) ?_
              exact ⟨by first | (simp [kby, h5, h6, h23, h24, h25, h31]; done) | (exfalso; clear hM hF hs; simp_all; done), rfl⟩
        · have h24 := of_decide_eq_false h24
          refine wp_g 4 (pc1 := 50) (lv1 := [(5, .int (f (12 + 4 * (j + 1)))), (4, .int (f (12 + 4 * j))), (0, .ref 146), (1, .int (nI j)), (2, .int q), (3, .int t)]) (st1 := [.int (q + 1), .int (f (12 + 4 * (j + 1)))]) (w1 := w) rfl ?_
          refine wp_icm (cnd := .eq) (o := 5) (ln := 3) (a := 55) (b := 0) (z := 0) (by decide +kernel) (fun h32 => ?_) (fun h32 => ?_)
          · have h32 := of_decide_eq_true h32
            refine wp_g 1 (pc1 := 56) (lv1 := [(5, .int (f (12 + 4 * (j + 1)))), (4, .int (f (12 + 4 * j))), (0, .ref 146), (1, .int (nI j)), (2, .int q), (3, .int t)]) (st1 := [.int t]) (w1 := w) rfl ?_
            refine wp_ifc (cnd := .ne) (o := 7) (ln := 3) (a := 63) (b := 0) (z := 0) (by decide +kernel) (fun h33 => ?_) (fun h33 => ?_)
            · have h33 := of_decide_eq_true h33
              refine wp_g 4 (pc1 := 67) (lv1 := [(5, .int (f (12 + 4 * (j + 1)))), (4, .int (f (12 + 4 * j))), (0, .ref 146), (1, .int (nI j)), (2, .int q), (3, .int t)]) (st1 := [.int 2, .int (nI j), .ref 146, .int 0]) (w1 := w) rfl ?_
              refine wp_cc [.ref 146, .int (nI j), .int 2] [.int 0] (i := .invokevirtual 304) (ln := 3) (a := 194) (b := 0) (z := 0) (by decide +kernel) rfl rfl (by decide) rfl (show (3 : Nat) = pm_na 194 by decide +kernel) (Nat.le_of_ble_eq_true rfl) (show (3 : Nat) ≤ pm_n 194 by decide +kernel) (rcv_ok hM (by decide +kernel)) (rf_cellOf hM hF hs (c := j) (t := 2) (by omega) (by omega)) (fun r34 w35 hq => ?_)
              obtain ⟨rfl, rfl⟩ := hq
              show wp _ 206 70 [(5, .int (f (12 + 4 * (j + 1)))), (4, .int (f (12 + 4 * j))), (0, .ref 146), (1, .int (nI j)), (2, .int q), (3, .int t)] [.int (f (12 + 4 * j + 2)), .int 0] w _
              refine wp_g 1 (pc1 := 71) (lv1 := [(5, .int (f (12 + 4 * (j + 1)))), (4, .int (f (12 + 4 * j))), (0, .ref 146), (1, .int (nI j)), (2, .int q), (3, .int t)]) (st1 := [.int 1, .int (f (12 + 4 * j + 2)), .int 0]) (w1 := w) rfl ?_
              refine wp_icm (cnd := .ne) (o := 7) (ln := 3) (a := 78) (b := 0) (z := 0) (by decide +kernel) (fun h36 => ?_) (fun h36 => ?_)
              · have h36 := of_decide_eq_true h36
                refine wp_g 4 (pc1 := 87) (lv1 := [(5, .int (f (12 + 4 * (j + 1)))), (4, .int (f (12 + 4 * j))), (0, .ref 146), (1, .int (nI j)), (2, .int q), (3, .int t)]) (st1 := [.int 1]) (w1 := w) rfl ?_
                refine wp_rt (i := .ireturn) (r := some (.int 1)) (ln := 1) (a := 0) (b := 0) (z := 0) (by decide +kernel) rfl (ret_ok (by decide +kernel)) ?_
                exact ⟨by first | (simp [kby, h5, h6, h23, h24, h32, h33, h36]; done) | (exfalso; clear hM hF hs; simp_all; done), rfl⟩
              · have h36 := Classical.not_not.mp (of_decide_eq_false h36)
                refine wp_g 4 (pc1 := 87) (lv1 := [(5, .int (f (12 + 4 * (j + 1)))), (4, .int (f (12 + 4 * j))), (0, .ref 146), (1, .int (nI j)), (2, .int q), (3, .int t)]) (st1 := [.int 2]) (w1 := w) rfl ?_
                refine wp_rt (i := .ireturn) (r := some (.int 2)) (ln := 1) (a := 0) (b := 0) (z := 0) (by decide +kernel) rfl (ret_ok (by decide +kernel)) ?_
                exact ⟨by first | (simp [kby, h5, h6, h23, h24, h32, h33, h36]; done) | (exfalso; clear hM hF hs; simp_all; done), rfl⟩
            · have h33 := Classical.not_not.mp (of_decide_eq_false h33)
              refine wp_g 5 (pc1 := 67) (lv1 := [(5, .int (f (12 + 4 * (j + 1)))), (4, .int (f (12 + 4 * j))), (0, .ref 146), (1, .int (nI j)), (2, .int q), (3, .int t)]) (st1 := [.int 2, .int (nI j), .ref 146, .int 1]) (w1 := w) rfl ?_
              refine wp_cc [.ref 146, .int (nI j), .int 2] [.int 1] (i := .invokevirtual 304) (ln := 3) (a := 194) (b := 0) (z := 0) (by decide +kernel) rfl rfl (by decide) rfl (show (3 : Nat) = pm_na 194 by decide +kernel) (Nat.le_of_ble_eq_true rfl) (show (3 : Nat) ≤ pm_n 194 by decide +kernel) (rcv_ok hM (by decide +kernel)) (rf_cellOf hM hF hs (c := j) (t := 2) (by omega) (by omega)) (fun r37 w38 hq => ?_)
              obtain ⟨rfl, rfl⟩ := hq
              show wp _ 206 70 [(5, .int (f (12 + 4 * (j + 1)))), (4, .int (f (12 + 4 * j))), (0, .ref 146), (1, .int (nI j)), (2, .int q), (3, .int t)] [.int (f (12 + 4 * j + 2)), .int 1] w _
              refine wp_g 1 (pc1 := 71) (lv1 := [(5, .int (f (12 + 4 * (j + 1)))), (4, .int (f (12 + 4 * j))), (0, .ref 146), (1, .int (nI j)), (2, .int q), (3, .int t)]) (st1 := [.int 1, .int (f (12 + 4 * j + 2)), .int 1]) (w1 := w) rfl ?_
              refine wp_icm (cnd := .ne) (o := 7) (ln := 3) (a := 78) (b := 0) (z := 0) (by decide +kernel) (fun h39 => ?_) (fun h39 => ?_)
              · have h39 := of_decide_eq_true h39
                refine wp_g 3 (pc1 := 87) (lv1 := [(5, .int (f (12 + 4 * (j + 1)))), (4, .int (f (12 + 4 * j))), (0, .ref 146), (1, .int (nI j)), (2, .int q), (3, .int t)]) (st1 := [.int 2]) (w1 := w) rfl ?_
                refine wp_rt (i := .ireturn) (r := some (.int 2)) (ln := 1) (a := 0) (b := 0) (z := 0) (by decide +kernel) rfl (ret_ok (by decide +kernel)) ?_
                exact ⟨by first | (simp [kby, h5, h6, h23, h24, h32, h33, h39]; done) | (exfalso; clear hM hF hs; simp_all; done), rfl⟩
              · have h39 := Classical.not_not.mp (of_decide_eq_false h39)
                refine wp_g 5 (pc1 := 87) (lv1 := [(5, .int (f (12 + 4 * (j + 1)))), (4, .int (f (12 + 4 * j))), (0, .ref 146), (1, .int (nI j)), (2, .int q), (3, .int t)]) (st1 := [.int 1]) (w1 := w) rfl ?_
                refine wp_rt (i := .ireturn) (r := some (.int 1)) (ln := 1) (a := 0) (b := 0) (z := 0) (by decide +kernel) rfl (ret_ok (by decide +kernel)) ?_
                exact ⟨by first | (simp [kby, h5, h6, h23, h24, h32, h33, h39]; done) | (exfalso; clear hM hF hs; simp_all; done), rfl⟩
          · have h32 := of_decide_eq_false h32
            refine wp_g 1 (pc1 := 54) (lv1 := [(5, .int (f (12 + 4 * (j + 1)))), (4, .int (f (12 + 4 * j))), (0, .ref 146), (1, .int (nI j)), (2, .int q), (3, .int t)]) (st1 := [.int 0]) (w1 := w) rfl ?_
            refine wp_rt (i := .ireturn) (r := some (.int 0)) (ln := 1) (a := 0) (b := 0) (z := 0) (by decide +kernel) rfl (ret_ok (by decide +kernel)) ?_
            exact ⟨by first | (simp [kby, h5, h6, h23, h24, h32]; done) | (exfalso; clear hM hF hs; simp_all; done), rfl⟩
/-- the row laid open from cell i on, g cells -/
def lof : (Nat → Int32) → Nat → Nat → Nat → Int32
  | f, _, 0 => f
  | f, i, g + 1 => lof (upd (upd (upd f (12 + 4 * i) (nI i)) (12 + 4 * i + 1) 0) (12 + 4 * i + 2) 1) (i + 1) g
theorem lof_lo : ∀ (g i : Nat) (f : Nat → Int32) (j : Nat), j < 12 + 4 * i → lof f i g j = f j
  | 0, _, _, _, _ => rfl
  | g + 1, i, f, j, h => by
    show lof _ (i + 1) g j = f j
    rw [lof_lo g (i + 1) _ j (by omega)]
    simp only [upd]
    rw [if_neg (by omega), if_neg (by omega), if_neg (by omega)]
