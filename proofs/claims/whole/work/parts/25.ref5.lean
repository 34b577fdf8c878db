set_option maxRecDepth 100000 in
theorem rf_liesOpen_l {d : Nat} {F : List Value} (hF : MF F) {m : Nat} (m8 : m ≤ 8) : ∀ (g : Nat) (w : pm_H) (i : Nat) (f : Nat → Int32) (hM : w[146]? = some (0, 12, F)) (hs : w[156]? = some (1, 0, ar 130 f)) (hm : f 0 = nI m) (hi : i + g = m), wp d 196 15 [(1, .int (nI i)), (0, .ref 146)] [] w (fun r w1 => r = none ∧ w.set 156 (1, 0, ar 130 (lof f i g)) = w1) := by
  intro g
  induction g with
  | zero =>
    intro w i f hM hs hm hi
    refine wp_g 2 (pc1 := 17) (lv1 := [(1, .int (nI i)), (0, .ref 146)]) (st1 := [.ref 146, .int (nI i)]) (w1 := w) rfl ?_
    refine wp_get (kf := 39) (ln := 3) (a := 12) (b := 20) (z := 0) (by decide +kernel) hM (mo_20 hF) ?_
    refine wp_g 1 (pc1 := 21) (lv1 := [(1, .int (nI i)), (0, .ref 146)]) (st1 := [.int 0, .ref 156, .int (nI i)]) (w1 := w) rfl ?_
    refine wp_ia (i := 0) (ln := 1) (a := 0) (b := 0) (z := 0) (by decide +kernel) hs (by omega) (by decide) ?_
    rw [hm]
    refine wp_icn (cnd := .ge) (o := 41) (x := i) (y := m) (ln := 3) (a := 63) (b := 0) (z := 0) (by decide +kernel) (by omega) (by omega) (fun h1 => ?_) (fun h1 => ?_)
    · have h1 : i ≥ m := h1
      refine wp_rt (i := .return_) (r := none) (ln := 1) (a := 0) (b := 0) (z := 0) (by decide +kernel) rfl (ret_v (by decide +kernel)) ?_
      exact ⟨rfl, set_same hs⟩
    · have h1 : ¬ (i ≥ m) := h1
      exfalso
      omega
  | succ g ih =>
    intro w i f hM hs hm hi
    refine wp_g 2 (pc1 := 17) (lv1 := [(1, .int (nI i)), (0, .ref 146)]) (st1 := [.ref 146, .int (nI i)]) (w1 := w) rfl ?_
    refine wp_get (kf := 39) (ln := 3) (a := 12) (b := 20) (z := 0) (by decide +kernel) hM (mo_20 hF) ?_
    refine wp_g 1 (pc1 := 21) (lv1 := [(1, .int (nI i)), (0, .ref 146)]) (st1 := [.int 0, .ref 156, .int (nI i)]) (w1 := w) rfl ?_
    refine wp_ia (i := 0) (ln := 1) (a := 0) (b := 0) (z := 0) (by decide +kernel) hs (by omega) (by decide) ?_
    rw [hm]
    refine wp_icn (cnd := .ge) (o := 41) (x := i) (y := m) (ln := 3) (a := 63) (b := 0) (z := 0) (by decide +kernel) (by omega) (by omega) (fun h1 => ?_) (fun h1 => ?_)
    · have h1 : i ≥ m := h1
      exfalso
      omega
    · have h1 : ¬ (i ≥ m) := h1
      refine wp_g 4 (pc1 := 30) (lv1 := [(1, .int (nI i)), (0, .ref 146)]) (st1 := [.int (4 * (nI i)), .int 12]) (w1 := w) rfl ?_
      refine wp_top (show 4 * (nI i) = nI (4 * i) from nx_mul (rfl : (4 : Int32) = nI 4) (rfl : nI i = nI i)) ?_
      refine wp_g 1 (pc1 := 31) (lv1 := [(1, .int (nI i)), (0, .ref 146)]) (st1 := [.int (12 + (nI (4 * i)))]) (w1 := w) rfl ?_
      refine wp_top (show 12 + (nI (4 * i)) = nI (12 + (4 * i)) from nx_add (rfl : (12 : Int32) = nI 12) (rfl : nI (4 * i) = nI (4 * i))) ?_
      refine wp_g 2 (pc1 := 33) (lv1 := [(2, .int (nI (12 + (4 * i)))), (1, .int (nI i)), (0, .ref 146)]) (st1 := [.ref 146]) (w1 := w) rfl ?_
      refine wp_get (kf := 39) (ln := 3) (a := 12) (b := 20) (z := 0) (by decide +kernel) hM (mo_20 hF) ?_
      refine wp_g 2 (pc1 := 38) (lv1 := [(2, .int (nI (12 + (4 * i)))), (1, .int (nI i)), (0, .ref 146)]) (st1 := [.int (nI i), .int (nI (12 + (4 * i))), .ref 156]) (w1 := w) rfl ?_
      refine wp_is (i := 12 + (4 * i)) (ln := 1) (a := 0) (b := 0) (z := 0) (by decide +kernel) hs (by omega) (by decide) ?_
      refine wp_g 1 (pc1 := 40) (lv1 := [(2, .int (nI (12 + (4 * i)))), (1, .int (nI i)), (0, .ref 146)]) (st1 := [.ref 146]) (w1 := (List.set w 156 (1, 0, ar 130 ((upd f (12 + (4 * i)) (nI i)))))) rfl ?_
      refine wp_get (kf := 39) (ln := 3) (a := 12) (b := 20) (z := 0) (by decide +kernel) (ev_ne hM (by decide)) (mo_20 hF) ?_
      refine wp_g 3 (pc1 := 46) (lv1 := [(2, .int (nI (12 + (4 * i)))), (1, .int (nI i)), (0, .ref 146)]) (st1 := [.int ((nI (12 + (4 * i))) + 1), .ref 156]) (w1 := (List.set w 156 (1, 0, ar 130 ((upd f (12 + (4 * i)) (nI i)))))) rfl ?_
      refine wp_top (show (nI (12 + (4 * i))) + 1 = nI ((12 + (4 * i)) + 1) from nx_add (rfl : nI (12 + (4 * i)) = nI (12 + (4 * i))) (rfl : (1 : Int32) = nI 1)) ?_
      refine wp_g 1 (pc1 := 47) (lv1 := [(2, .int (nI (12 + (4 * i)))), (1, .int (nI i)), (0, .ref 146)]) (st1 := [.int 0, .int (nI ((12 + (4 * i)) + 1)), .ref 156]) (w1 := (List.set w 156 (1, 0, ar 130 ((upd f (12 + (4 * i)) (nI i)))))) rfl ?_
      refine wp_is (i := (12 + (4 * i)) + 1) (ln := 1) (a := 0) (b := 0) (z := 0) (by decide +kernel) (ev_eq hs) (by omega) (by decide) ?_
      refine wp_g 1 (pc1 := 49) (lv1 := [(2, .int (nI (12 + (4 * i)))), (1, .int (nI i)), (0, .ref 146)]) (st1 := [.ref 146]) (w1 := (List.set (List.set w 156 (1, 0, ar 130 ((upd f (12 + (4 * i)) (nI i))))) 156 (1, 0, ar 130 ((upd ((upd f (12 + (4 * i)) (nI i))) ((12 + (4 * i)) + 1) 0))))) rfl ?_
      refine wp_get (kf := 39) (ln := 3) (a := 12) (b := 20) (z := 0) (by decide +kernel) (ev_ne ((ev_ne hM (by decide))) (by decide)) (mo_20 hF) ?_
      refine wp_g 3 (pc1 := 55) (lv1 := [(2, .int (nI (12 + (4 * i)))), (1, .int (nI i)), (0, .ref 146)]) (st1 := [.int ((nI (12 + (4 * i))) + 2), .ref 156]) (w1 := (List.set (List.set w 156 (1, 0, ar 130 ((upd f (12 + (4 * i)) (nI i))))) 156 (1, 0, ar 130 ((upd ((upd f (12 + (4 * i)) (nI i))) ((12 + (4 * i)) + 1) 0))))) rfl ?_
      refine wp_top (show (nI (12 + (4 * i))) + 2 = nI ((12 + (4 * i)) + 2) from nx_add (rfl : nI (12 + (4 * i)) = nI (12 + (4 * i))) (rfl : (2 : Int32) = nI 2)) ?_
      refine wp_g 1 (pc1 := 56) (lv1 := [(2, .int (nI (12 + (4 * i)))), (1, .int (nI i)), (0, .ref 146)]) (st1 := [.int 1, .int (nI ((12 + (4 * i)) + 2)), .ref 156]) (w1 := (List.set (List.set w 156 (1, 0, ar 130 ((upd f (12 + (4 * i)) (nI i))))) 156 (1, 0, ar 130 ((upd ((upd f (12 + (4 * i)) (nI i))) ((12 + (4 * i)) + 1) 0))))) rfl ?_
      refine wp_is (i := (12 + (4 * i)) + 2) (ln := 1) (a := 0) (b := 0) (z := 0) (by decide +kernel) (ev_eq ((ev_eq hs))) (by omega) (by decide) ?_
      refine wp_g 1 (pc1 := 60) (lv1 := [(1, .int (nI i + 1)), (2, .int (nI (12 + (4 * i)))), (0, .ref 146)]) (st1 := []) (w1 := (List.set (List.set (List.set w 156 (1, 0, ar 130 ((upd f (12 + (4 * i)) (nI i))))) 156 (1, 0, ar 130 ((upd ((upd f (12 + (4 * i)) (nI i))) ((12 + (4 * i)) + 1) 0)))) 156 (1, 0, ar 130 ((upd ((upd ((upd f (12 + (4 * i)) (nI i))) ((12 + (4 * i)) + 1) 0)) ((12 + (4 * i)) + 2) 1))))) rfl ?_
      rw [show nI i + 1 = nI (i + 1) from nx_add rfl rfl]
      refine wp_g 1 (pc1 := 15) (lv1 := [(1, .int (nI (i + 1))), (2, .int (nI (12 + (4 * i)))), (0, .ref 146)]) (st1 := []) (w1 := (List.set (List.set (List.set w 156 (1, 0, ar 130 ((upd f (12 + (4 * i)) (nI i))))) 156 (1, 0, ar 130 ((upd ((upd f (12 + (4 * i)) (nI i))) ((12 + (4 * i)) + 1) 0)))) 156 (1, 0, ar 130 ((upd ((upd ((upd f (12 + (4 * i)) (nI i))) ((12 + (4 * i)) + 1) 0)) ((12 + (4 * i)) + 2) 1))))) rfl ?_
      refine wp_lv (lv1 := [(1, .int (nI (i + 1))), (0, .ref 146)]) (lsub_p [0, 2] rfl rfl rfl) ?_
      refine wp_mono (ih _ (i + 1) _ (ev_ne ((ev_ne ((ev_ne hM (by decide))) (by decide))) (by decide)) (ev_eq ((ev_eq ((ev_eq hs))))) (by simp only [upd]; rw [if_neg (by omega), if_neg (by omega), if_neg (by omega)]; exact hm) (by omega)) (fun r w1 hq => ?_)
      obtain ⟨rfl, rfl⟩ := hq
      refine ⟨rfl, ?_⟩
      simp only [List.set_set]
      rfl
/-- all lies open -/
def lopen (f : Nat → Int32) (m : Nat) : Nat → Int32 := lof (upd f 10 (nI m)) 0 m
set_option maxRecDepth 100000 in
theorem rf_liesOpen {d : Nat} {w : pm_H} {F : List Value} (hM : w[146]? = some (0, 12, F)) (hF : MF F) {f : Nat → Int32} {m : Nat} (hs : w[156]? = some (1, 0, ar 130 f)) (hm : f 0 = nI m) (m8 : m ≤ 8) : wp d 196 0 (lv_args 0 [.ref 146]) [] w (fun r w1 => r = none ∧ w.set 156 (1, 0, ar 130 (lopen f m)) = w1) := by
  show wp _ 196 0 [(0, .ref 146)] [] w _
  refine wp_g 1 (pc1 := 1) (lv1 := [(0, .ref 146)]) (st1 := [.ref 146]) (w1 := w) rfl ?_
  refine wp_get (kf := 39) (ln := 3) (a := 12) (b := 20) (z := 0) (by decide +kernel) hM (mo_20 hF) ?_
  refine wp_g 2 (pc1 := 7) (lv1 := [(0, .ref 146)]) (st1 := [.ref 146, .int 10, .ref 156]) (w1 := w) rfl ?_
  refine wp_get (kf := 39) (ln := 3) (a := 12) (b := 20) (z := 0) (by decide +kernel) hM (mo_20 hF) ?_
  refine wp_g 1 (pc1 := 11) (lv1 := [(0, .ref 146)]) (st1 := [.int 0, .ref 156, .int 10, .ref 156]) (w1 := w) rfl ?_
  refine wp_ia (i := 0) (ln := 1) (a := 0) (b := 0) (z := 0) (by decide +kernel) hs (by omega) (by decide) ?_
  rw [hm]
  refine wp_is (i := 10) (ln := 1) (a := 0) (b := 0) (z := 0) (by decide +kernel) hs (by omega) (by decide) ?_
  refine wp_g 2 (pc1 := 15) (lv1 := [(1, .int 0), (0, .ref 146)]) (st1 := []) (w1 := (List.set w 156 (1, 0, ar 130 ((upd f 10 (nI m)))))) rfl ?_
  refine wp_mono (rf_liesOpen_l hF m8 m _ 0 _ (ev_ne hM (by decide)) (ev_eq hs) (by simp only [upd]; rw [if_neg (by omega)]; exact hm) (by omega)) (fun r w1 hq => ?_)
  obtain ⟨rfl, rfl⟩ := hq
  exact ⟨rfl, by rw [List.set_set]; rfl⟩
/-- within one row: from o2 on to o1 on -/
def cps (f : Nat → Int32) (o1 o2 i n : Nat) : Nat → Int32 := fun j => if o1 + i ≤ j ∧ j < o1 + n then f (o2 + (j - o1)) else f j
theorem cps_nil (f : Nat → Int32) (o1 o2 i n : Nat) (h : n ≤ i) : cps f o1 o2 i n = f := by
  funext j
  unfold cps
  rw [if_neg (by omega)]
theorem cps_step {f : Nat → Int32} {o1 o2 i n a b : Nat} (h1 : a = o1 + i) (h2 : b = o2 + i) (hi : i < n) (hd : o1 + n ≤ o2) : cps (upd f a (f b)) o1 o2 (i + 1) n = cps f o1 o2 i n := by
  subst h1; subst h2
  funext j
  unfold cps upd
  by_cases hj : j = o1 + i
  · subst hj
    rw [if_neg (by omega), if_pos rfl, if_pos (by omega)]
    congr 1
    omega
  · rw [if_neg hj]
    by_cases h : o1 + (i + 1) ≤ j ∧ j < o1 + n
    · rw [if_pos h, if_neg (by omega), if_pos (by omega)]
    · rw [if_neg h, if_neg (by omega)]
/-- whose each cell is, as told -/
def stf (f : Nat → Int32) (i : Nat) : Nat → Int32 := fun j => if j % 4 = 3 ∧ 15 + 4 * i ≤ j ∧ j < 47 then f (63 + (j - 15) / 4) else f j
theorem stf_nil {f : Nat → Int32} {i : Nat} (h : 8 ≤ i) : stf f i = f := by
  funext j
  unfold stf
  rw [if_neg (by omega)]
theorem stf_step {f : Nat → Int32} {i a b : Nat} (h1 : a = 15 + 4 * i) (h2 : b = 63 + i) (hi : i < 8) : stf (upd f a (f b)) (i + 1) = stf f i := by
  subst h1; subst h2
  funext j
  unfold stf upd
  by_cases hj : j = 15 + 4 * i
  · subst hj
    rw [if_neg (by omega), if_pos rfl, if_pos (by omega)]
    congr 1
    omega
  · rw [if_neg hj]
    by_cases h : j % 4 = 3 ∧ 15 + 4 * (i + 1) ≤ j ∧ j < 47
    · rw [if_pos h, if_neg (by omega), if_pos (by omega)]
    · rw [if_neg h, if_neg (by omega)]
set_option maxRecDepth 100000 in
theorem rf_beg1 {d : Nat} {P : Option Value → pm_H → Prop} {F : List Value} (hF : MF F) : ∀ (g : Nat) (w : pm_H) (i : Nat) (f : Nat → Int32) (hM : w[146]? = some (0, 12, F)) (hs : w[156]? = some (1, 0, ar 130 f)) (hi : i + g = 8) (kk : wp d 197 48 [(1, .int (nI 8)), (0, .ref 146)] [] (w.set 156 (1, 0, ar 130 (stf f i))) P), wp d 197 14 [(1, .int (nI i)), (0, .ref 146)] [] w P := by
  intro g
  induction g with
  | zero =>
    intro w i f hM hs hi kk
    refine wp_g 2 (pc1 := 17) (lv1 := [(1, .int (nI i)), (0, .ref 146)]) (st1 := [.int 8, .int (nI i)]) (w1 := w) rfl ?_
    refine wp_icn (cnd := .ge) (o := 31) (x := i) (y := 8) (ln := 3) (a := 48) (b := 0) (z := 0) (by decide +kernel) (by omega) (by omega) (fun h1 => ?_) (fun h1 => ?_)
    · have h1 : i ≥ 8 := h1
      obtain rfl : i = 8 := by omega
      rw [stf_nil (Nat.le_refl 8), set_same hs] at kk
      exact kk
    · have h1 : ¬ (i ≥ 8) := h1
      exfalso
      omega
  | succ g ih =>
    intro w i f hM hs hi kk
    refine wp_g 2 (pc1 := 17) (lv1 := [(1, .int (nI i)), (0, .ref 146)]) (st1 := [.int 8, .int (nI i)]) (w1 := w) rfl ?_
    refine wp_icn (cnd := .ge) (o := 31) (x := i) (y := 8) (ln := 3) (a := 48) (b := 0) (z := 0) (by decide +kernel) (by omega) (by omega) (fun h1 => ?_) (fun h1 => ?_)
    · have h1 : i ≥ 8 := h1
      exfalso
      omega
    · have h1 : ¬ (i ≥ 8) := h1
      refine wp_g 1 (pc1 := 21) (lv1 := [(1, .int (nI i)), (0, .ref 146)]) (st1 := [.ref 146]) (w1 := w) rfl ?_
      refine wp_get (kf := 39) (ln := 3) (a := 12) (b := 20) (z := 0) (by decide +kernel) hM (mo_20 hF) ?_
      refine wp_g 4 (pc1 := 29) (lv1 := [(1, .int (nI i)), (0, .ref 146)]) (st1 := [.int (4 * (nI i)), .int 12, .ref 156]) (w1 := w) rfl ?_
      refine wp_top (show 4 * (nI i) = nI (4 * i) from nx_mul (rfl : (4 : Int32) = nI 4) (rfl : nI i = nI i)) ?_
      refine wp_g 1 (pc1 := 30) (lv1 := [(1, .int (nI i)), (0, .ref 146)]) (st1 := [.int (12 + (nI (4 * i))), .ref 156]) (w1 := w) rfl ?_
      refine wp_top (show 12 + (nI (4 * i)) = nI (12 + (4 * i)) from nx_add (rfl : (12 : Int32) = nI 12) (rfl : nI (4 * i) = nI (4 * i))) ?_
      refine wp_g 2 (pc1 := 32) (lv1 := [(1, .int (nI i)), (0, .ref 146)]) (st1 := [.int ((nI (12 + (4 * i))) + 3), .ref 156]) (w1 := w) rfl ?_
      refine wp_top (show (nI (12 + (4 * i))) + 3 = nI ((12 + (4 * i)) + 3) from nx_add (rfl : nI (12 + (4 * i)) = nI (12 + (4 * i))) (rfl : (3 : Int32) = nI 3)) ?_
      refine wp_g 1 (pc1 := 33) (lv1 := [(1, .int (nI i)), (0, .ref 146)]) (st1 := [.ref 146, .int (nI ((12 + (4 * i)) + 3)), .ref 156]) (w1 := w) rfl ?_
      refine wp_get (kf := 39) (ln := 3) (a := 12) (b := 20) (z := 0) (by decide +kernel) hM (mo_20 hF) ?_
      refine wp_g 3 (pc1 := 40) (lv1 := [(1, .int (nI i)), (0, .ref 146)]) (st1 := [.int (63 + (nI i)), .ref 156, .int (nI ((12 + (4 * i)) + 3)), .ref 156]) (w1 := w) rfl ?_
      refine wp_top (show 63 + (nI i) = nI (63 + i) from nx_add (rfl : (63 : Int32) = nI 63) (rfl : nI i = nI i)) ?_
      refine wp_ia (i := 63 + i) (ln := 1) (a := 0) (b := 0) (z := 0) (by decide +kernel) hs (by omega) (by decide) ?_
      refine wp_is (i := (12 + (4 * i)) + 3) (ln := 1) (a := 0) (b := 0) (z := 0) (by decide +kernel) hs (by omega) (by decide) ?_
      refine wp_g 1 (pc1 := 45) (lv1 := [(1, .int (nI i + 1)), (0, .ref 146)]) (st1 := []) (w1 := (List.set w 156 (1, 0, ar 130 ((upd f ((12 + (4 * i)) + 3) (f (63 + i))))))) rfl ?_
      rw [show nI i + 1 = nI (i + 1) from nx_add rfl rfl]
      refine wp_g 1 (pc1 := 14) (lv1 := [(1, .int (nI (i + 1))), (0, .ref 146)]) (st1 := []) (w1 := (List.set w 156 (1, 0, ar 130 ((upd f ((12 + (4 * i)) + 3) (f (63 + i))))))) rfl ?_
      refine ih _ (i + 1) _ (ev_ne hM (by decide)) (ev_eq hs) (by omega) ?_
      rw [List.set_set, stf_step (by omega) (by omega) (by omega)]
      exact kk
set_option maxRecDepth 100000 in
theorem rf_beg2 {d : Nat} {P : Option Value → pm_H → Prop} {F : List Value} (hF : MF F) : ∀ (g : Nat) (w : pm_H) (i : Nat) (f : Nat → Int32) (hM : w[146]? = some (0, 12, F)) (hs : w[156]? = some (1, 0, ar 130 f)) (hi : i + g = 7) (kk : wp d 197 80 [(1, .int (nI 7)), (0, .ref 146)] [] (w.set 156 (1, 0, ar 130 (cps f 44 71 i 7))) P), wp d 197 50 [(1, .int (nI i)), (0, .ref 146)] [] w P := by
  intro g
  induction g with
  | zero =>
    intro w i f hM hs hi kk
    refine wp_g 2 (pc1 := 53) (lv1 := [(1, .int (nI i)), (0, .ref 146)]) (st1 := [.int 7, .int (nI i)]) (w1 := w) rfl ?_
    refine wp_icn (cnd := .ge) (o := 27) (x := i) (y := 7) (ln := 3) (a := 80) (b := 0) (z := 0) (by decide +kernel) (by omega) (by omega) (fun h1 => ?_) (fun h1 => ?_)
    · have h1 : i ≥ 7 := h1
      obtain rfl : i = 7 := by omega
      rw [cps_nil _ _ _ _ _ (Nat.le_refl 7), set_same hs] at kk
      exact kk
    · have h1 : ¬ (i ≥ 7) := h1
      exfalso
      omega
  | succ g ih =>
    intro w i f hM hs hi kk
    refine wp_g 2 (pc1 := 53) (lv1 := [(1, .int (nI i)), (0, .ref 146)]) (st1 := [.int 7, .int (nI i)]) (w1 := w) rfl ?_
    refine wp_icn (cnd := .ge) (o := 27) (x := i) (y := 7) (ln := 3) (a := 80) (b := 0) (z := 0) (by decide +kernel) (by omega) (by omega) (fun h1 => ?_) (fun h1 => ?_)
    · have h1 : i ≥ 7 := h1
      exfalso
      omega
    · have h1 : ¬ (i ≥ 7) := h1
      refine wp_g 1 (pc1 := 57) (lv1 := [(1, .int (nI i)), (0, .ref 146)]) (st1 := [.ref 146]) (w1 := w) rfl ?_
      refine wp_get (kf := 39) (ln := 3) (a := 12) (b := 20) (z := 0) (by decide +kernel) hM (mo_20 hF) ?_
      refine wp_g 3 (pc1 := 64) (lv1 := [(1, .int (nI i)), (0, .ref 146)]) (st1 := [.int (44 + (nI i)), .ref 156]) (w1 := w) rfl ?_
      refine wp_top (show 44 + (nI i) = nI (44 + i) from nx_add (rfl : (44 : Int32) = nI 44) (rfl : nI i = nI i)) ?_
      refine wp_g 1 (pc1 := 65) (lv1 := [(1, .int (nI i)), (0, .ref 146)]) (st1 := [.ref 146, .int (nI (44 + i)), .ref 156]) (w1 := w) rfl ?_
      refine wp_get (kf := 39) (ln := 3) (a := 12) (b := 20) (z := 0) (by decide +kernel) hM (mo_20 hF) ?_
      refine wp_g 3 (pc1 := 72) (lv1 := [(1, .int (nI i)), (0, .ref 146)]) (st1 := [.int (71 + (nI i)), .ref 156, .int (nI (44 + i)), .ref 156]) (w1 := w) rfl ?_
      refine wp_top (show 71 + (nI i) = nI (71 + i) from nx_add (rfl : (71 : Int32) = nI 71) (rfl : nI i = nI i)) ?_
      refine wp_ia (i := 71 + i) (ln := 1) (a := 0) (b := 0) (z := 0) (by decide +kernel) hs (by omega) (by decide) ?_
      refine wp_is (i := 44 + i) (ln := 1) (a := 0) (b := 0) (z := 0) (by decide +kernel) hs (by omega) (by decide) ?_
      refine wp_g 1 (pc1 := 77) (lv1 := [(1, .int (nI i + 1)), (0, .ref 146)]) (st1 := []) (w1 := (List.set w 156 (1, 0, ar 130 ((upd f (44 + i) (f (71 + i))))))) rfl ?_
      rw [show nI i + 1 = nI (i + 1) from nx_add rfl rfl]
      refine wp_g 1 (pc1 := 50) (lv1 := [(1, .int (nI (i + 1))), (0, .ref 146)]) (st1 := []) (w1 := (List.set w 156 (1, 0, ar 130 ((upd f (44 + i) (f (71 + i))))))) rfl ?_
      refine ih _ (i + 1) _ (ev_ne hM (by decide)) (ev_eq hs) (by omega) ?_
      rw [List.set_set, cps_step (by omega) (by omega) (by omega) (by omega)]
      exact kk
set_option maxRecDepth 100000 in
theorem rf_beg3 {d : Nat} {P : Option Value → pm_H → Prop} {F : List Value} (hF : MF F) : ∀ (g : Nat) (w : pm_H) (i : Nat) (f : Nat → Int32) (hM : w[146]? = some (0, 12, F)) (hs : w[156]? = some (1, 0, ar 130 f)) (hi : i + g = 4) (kk : wp d 197 111 [(1, .int (nI 4)), (0, .ref 146)] [] (w.set 156 (1, 0, ar 130 (cps f 51 78 i 4))) P), wp d 197 82 [(1, .int (nI i)), (0, .ref 146)] [] w P := by
  intro g
  induction g with
  | zero =>
    intro w i f hM hs hi kk
    refine wp_g 2 (pc1 := 84) (lv1 := [(1, .int (nI i)), (0, .ref 146)]) (st1 := [.int 4, .int (nI i)]) (w1 := w) rfl ?_
    refine wp_icn (cnd := .ge) (o := 27) (x := i) (y := 4) (ln := 3) (a := 111) (b := 0) (z := 0) (by decide +kernel) (by omega) (by omega) (fun h1 => ?_) (fun h1 => ?_)
    · have h1 : i ≥ 4 := h1
      obtain rfl : i = 4 := by omega
      rw [cps_nil _ _ _ _ _ (Nat.le_refl 4), set_same hs] at kk
      exact kk
    · have h1 : ¬ (i ≥ 4) := h1
      exfalso
      omega
  | succ g ih =>
    intro w i f hM hs hi kk
    refine wp_g 2 (pc1 := 84) (lv1 := [(1, .int (nI i)), (0, .ref 146)]) (st1 := [.int 4, .int (nI i)]) (w1 := w) rfl ?_
    refine wp_icn (cnd := .ge) (o := 27) (x := i) (y := 4) (ln := 3) (a := 111) (b := 0) (z := 0) (by decide +kernel) (by omega) (by omega) (fun h1 => ?_) (fun h1 => ?_)
    · have h1 : i ≥ 4 := h1
      exfalso
      omega
    · have h1 : ¬ (i ≥ 4) := h1
      refine wp_g 1 (pc1 := 88) (lv1 := [(1, .int (nI i)), (0, .ref 146)]) (st1 := [.ref 146]) (w1 := w) rfl ?_
      refine wp_get (kf := 39) (ln := 3) (a := 12) (b := 20) (z := 0) (by decide +kernel) hM (mo_20 hF) ?_
      refine wp_g 3 (pc1 := 95) (lv1 := [(1, .int (nI i)), (0, .ref 146)]) (st1 := [.int (51 + (nI i)), .ref 156]) (w1 := w) rfl ?_
      refine wp_top (show 51 + (nI i) = nI (51 + i) from nx_add (rfl : (51 : Int32) = nI 51) (rfl : nI i = nI i)) ?_
      refine wp_g 1 (pc1 := 96) (lv1 := [(1, .int (nI i)), (0, .ref 146)]) (st1 := [.ref 146, .int (nI (51 + i)), .ref 156]) (w1 := w) rfl ?_
      refine wp_get (kf := 39) (ln := 3) (a := 12) (b := 20) (z := 0) (by decide +kernel) hM (mo_20 hF) ?_
      refine wp_g 3 (pc1 := 103) (lv1 := [(1, .int (nI i)), (0, .ref 146)]) (st1 := [.int (78 + (nI i)), .ref 156, .int (nI (51 + i)), .ref 156]) (w1 := w) rfl ?_
      refine wp_top (show 78 + (nI i) = nI (78 + i) from nx_add (rfl : (78 : Int32) = nI 78) (rfl : nI i = nI i)) ?_
      refine wp_ia (i := 78 + i) (ln := 1) (a := 0) (b := 0) (z := 0) (by decide +kernel) hs (by omega) (by decide) ?_
      refine wp_is (i := 51 + i) (ln := 1) (a := 0) (b := 0) (z := 0) (by decide +kernel) hs (by omega) (by decide) ?_
      refine wp_g 1 (pc1 := 108) (lv1 := [(1, .int (nI i + 1)), (0, .ref 146)]) (st1 := []) (w1 := (List.set w 156 (1, 0, ar 130 ((upd f (51 + i) (f (78 + i))))))) rfl ?_
      rw [show nI i + 1 = nI (i + 1) from nx_add rfl rfl]
      refine wp_g 1 (pc1 := 82) (lv1 := [(1, .int (nI (i + 1))), (0, .ref 146)]) (st1 := []) (w1 := (List.set w 156 (1, 0, ar 130 ((upd f (51 + i) (f (78 + i))))))) rfl ?_
      refine ih _ (i + 1) _ (ev_ne hM (by decide)) (ev_eq hs) (by omega) ?_
      rw [List.set_set, cps_step (by omega) (by omega) (by omega) (by omega)]
      exact kk
/-- all as the text told it -/
def bgn (f : Nat → Int32) (m : Nat) : Nat → Int32 := cps (cps (stf (lopen (upd f 11 0) m) 0) 44 71 0 7) 51 78 0 4
set_option maxRecDepth 100000 in
theorem rf_begins {d : Nat} {w : pm_H} {F : List Value} (hM : w[146]? = some (0, 12, F)) (hF : MF F) {f : Nat → Int32} {m : Nat} (hs : w[156]? = some (1, 0, ar 130 f)) (hm : f 0 = nI m) (m8 : m ≤ 8) : wp (d + 1) 197 0 (lv_args 0 [.ref 146]) [] w (fun r w1 => r = none ∧ w.set 156 (1, 0, ar 130 (bgn f m)) = w1) := by
  show wp _ 197 0 [(0, .ref 146)] [] w _
  refine wp_g 1 (pc1 := 1) (lv1 := [(0, .ref 146)]) (st1 := [.ref 146]) (w1 := w) rfl ?_
  refine wp_get (kf := 39) (ln := 3) (a := 12) (b := 20) (z := 0) (by decide +kernel) hM (mo_20 hF) ?_
  refine wp_g 2 (pc1 := 7) (lv1 := [(0, .ref 146)]) (st1 := [.int 0, .int 11, .ref 156]) (w1 := w) rfl ?_
  refine wp_is (i := 11) (ln := 1) (a := 0) (b := 0) (z := 0) (by decide +kernel) hs (by omega) (by decide) ?_
  refine wp_g 1 (pc1 := 9) (lv1 := [(0, .ref 146)]) (st1 := [.ref 146]) (w1 := (List.set w 156 (1, 0, ar 130 ((upd f 11 0))))) rfl ?_
  refine wp_cc [.ref 146] [] (i := .invokevirtual 308) (ln := 3) (a := 196) (b := 0) (z := 0) (by decide +kernel) rfl rfl (by decide) rfl (show (1 : Nat) = pm_na 196 by decide +kernel) (Nat.le_of_ble_eq_true rfl) (show (1 : Nat) ≤ pm_n 196 by decide +kernel) (rcv_ok (ev_ne hM (by decide)) (by decide +kernel)) (rf_liesOpen (ev_ne hM (by decide)) hF (ev_eq hs) (by simp only [upd]; rw [if_neg (by omega)]; exact hm) m8) (fun r1 w2 hq => ?_)
  obtain ⟨rfl, rfl⟩ := hq
  show wp _ 197 12 [(0, .ref 146)] [] (List.set (List.set w 156 (1, 0, ar 130 ((upd f 11 0)))) 156 (1, 0, ar 130 ((lopen ((upd f 11 0)) m)))) _
  refine wp_g 2 (pc1 := 14) (lv1 := [(1, .int 0), (0, .ref 146)]) (st1 := []) (w1 := (List.set (List.set w 156 (1, 0, ar 130 ((upd f 11 0)))) 156 (1, 0, ar 130 ((lopen ((upd f 11 0)) m))))) rfl ?_
  refine rf_beg1 hF 8 _ 0 _ (ev_ne ((ev_ne hM (by decide))) (by decide)) (ev_eq ((ev_eq hs))) (by omega) ?_
  refine wp_g 2 (pc1 := 50) (lv1 := [(1, .int 0), (0, .ref 146)]) (st1 := []) (w1 := (List.set (List.set (List.set w 156 (1, 0, ar 130 ((upd f 11 0)))) 156 (1, 0, ar 130 ((lopen ((upd f 11 0)) m)))) 156 (1, 0, ar 130 ((stf ((lopen ((upd f 11 0)) m)) 0))))) rfl ?_
  refine rf_beg2 hF 7 _ 0 _ (ev_ne ((ev_ne ((ev_ne hM (by decide))) (by decide))) (by decide)) (ev_eq ((ev_eq ((ev_eq hs))))) (by omega) ?_
  refine wp_g 2 (pc1 := 82) (lv1 := [(1, .int 0), (0, .ref 146)]) (st1 := []) (w1 := (List.set (List.set (List.set (List.set w 156 (1, 0, ar 130 ((upd f 11 0)))) 156 (1, 0, ar 130 ((lopen ((upd f 11 0)) m)))) 156 (1, 0, ar 130 ((stf ((lopen ((upd f 11 0)) m)) 0)))) 156 (1, 0, ar 130 ((cps ((stf ((lopen ((upd f 11 0)) m)) 0)) 44 71 0 7))))) rfl ?_
  refine rf_beg3 hF 4 _ 0 _ (ev_ne ((ev_ne ((ev_ne ((ev_ne hM (by decide))) (by decide))) (by decide))) (by decide)) (ev_eq ((ev_eq ((ev_eq ((ev_eq hs))))))) (by omega) ?_
  refine wp_rt (i := .return_) (r := none) (ln := 1) (a := 0) (b := 0) (z := 0) (by decide +kernel) rfl (ret_v (by decide +kernel)) ?_
  exact ⟨rfl, by simp only [List.set_set]; rfl⟩
