theorem lsub_p {lv1 lv : pm_L} (ks : List Nat) (h1 : ks.filterMap (fun k => lv[k]?) = lv1) (h2 : decide ((lv.map Prod.fst).Nodup) = true) (h3 : decide ((lv1.map Prod.fst).Nodup) = true) : lsub lv1 lv := by
  refine ⟨(of_decide_eq_true h3 : (lv1.map Prod.fst).Nodup), (of_decide_eq_true h2 : (lv.map Prod.fst).Nodup), fun q hq => ?_⟩
  rw [← h1] at hq
  obtain ⟨k, -, hk⟩ := List.mem_filterMap.mp hq
  exact List.mem_of_getElem? hk
theorem set_same {w : pm_H} {a : Nat} {c : pm_C} (h : w[a]? = some c) : w.set a c = w := by
  apply List.ext_getElem?
  intro j
  by_cases hj : a = j
  · subst hj
    rw [List.getElem?_set_self (List.getElem?_eq_some_iff.mp h).1, h]
  · rw [List.getElem?_set_ne hj]
/-- the row k with what stands in f from o2 + i on, up to o2 + n, at o1 + i on -/
def cpf (k f : Nat → Int32) (o1 o2 i n : Nat) : Nat → Int32 := fun j => if o1 + i ≤ j ∧ j < o1 + n then f (o2 + (j - o1)) else k j
theorem cpf_nil (k f : Nat → Int32) (o1 o2 i n : Nat) (h : n ≤ i) : cpf k f o1 o2 i n = k := by
  funext j
  unfold cpf
  rw [if_neg (by omega)]
theorem cpf_step {k f : Nat → Int32} {o1 o2 i n a b : Nat} (h1 : a = o1 + i) (h2 : b = o2 + i) (hi : i < n) : cpf (upd k a (f b)) f o1 o2 (i + 1) n = cpf k f o1 o2 i n := by
  subst h1; subst h2
  funext j
  unfold cpf upd
  by_cases hj : j = o1 + i
  · subst hj
    rw [if_neg (by omega), if_pos rfl, if_pos (by omega)]
    congr 1
    omega
  · rw [if_neg hj]
    by_cases h : o1 + (i + 1) ≤ j ∧ j < o1 + n
    · rw [if_pos h, if_pos (by omega)]
    · rw [if_neg h, if_neg (by omega)]
/-- the row with all from place 45 on moved by 45, what stands from i on yet to be moved -/
def shf (h : Nat → Int32) (i : Nat) : Nat → Int32 := fun j => if i ≤ j + 45 ∧ j < 855 then h (j + 45) else h j
theorem shf_step {h : Nat → Int32} {i : Nat} (h1 : 45 ≤ i) (h2 : i < 900) : shf (upd h (i - 45) (h i)) (i + 1) = shf h i := by
  funext j
  unfold shf upd
  by_cases hj : j = i - 45
  · subst hj
    rw [if_neg (by omega), if_pos rfl, if_pos (by omega)]
    congr 1
    omega
  · rw [if_neg hj]
    by_cases hc : i + 1 ≤ j + 45 ∧ j < 855
    · rw [if_pos hc, if_neg (by omega : ¬ j + 45 = i - 45), if_pos (by omega)]
    · rw [if_neg hc, if_neg (by omega)]
theorem shf_nil {h : Nat → Int32} {i : Nat} (h1 : 900 ≤ i) : shf h i = h := by
  funext j
  unfold shf
  rw [if_neg (by omega)]
set_option maxRecDepth 100000 in
theorem rf_keeps_l {d : Nat} {F : List Value} (hF : MF F)  : ∀ (g : Nat) (w : pm_H) (i : Nat) (f kf : Nat → Int32) (hM : w[146]? = some (0, 12, F)) (hA : w[156]? = some (1, 0, ar 130 f)) (hB : w[160]? = some (1, 0, ar 45 kf)) (hi : i + g = 45), wp d 226 2 [(1, .int (nI i)), (0, .ref 146)] [] w (fun r w1 => r = none ∧ w.set 160 (1, 0, ar 45 (cpf kf f 0 10 i 45)) = w1) := by
  intro g
  induction g with
  | zero =>
    intro w i f kf hM hA hB hi
    refine wp_g 2 (pc1 := 5) (lv1 := [(1, .int (nI i)), (0, .ref 146)]) (st1 := [.int 45, .int (nI i)]) (w1 := w) rfl ?_
    refine wp_icn (cnd := .ge) (o := 24) (x := i) (y := 45) (ln := 3) (a := 29) (b := 0) (z := 0) (by decide +kernel) (by omega) (by omega) (fun h1 => ?_) (fun h1 => ?_)
    · have h1 : i ≥ 45 := h1
      refine wp_rt (i := .return_) (r := none) (ln := 1) (a := 0) (b := 0) (z := 0) (by decide +kernel) rfl (ret_v (by decide +kernel)) ?_
      exact ⟨rfl, by rw [cpf_nil _ _ _ _ _ _ (by omega)]; exact set_same hB⟩
    · have h1 : ¬ (i ≥ 45) := h1
      exfalso
      omega
  | succ g ih =>
    intro w i f kf hM hA hB hi
    refine wp_g 2 (pc1 := 5) (lv1 := [(1, .int (nI i)), (0, .ref 146)]) (st1 := [.int 45, .int (nI i)]) (w1 := w) rfl ?_
    refine wp_icn (cnd := .ge) (o := 24) (x := i) (y := 45) (ln := 3) (a := 29) (b := 0) (z := 0) (by decide +kernel) (by omega) (by omega) (fun h1 => ?_) (fun h1 => ?_)
    · have h1 : i ≥ 45 := h1
      exfalso
      omega
    · have h1 : ¬ (i ≥ 45) := h1
      refine wp_g 1 (pc1 := 9) (lv1 := [(1, .int (nI i)), (0, .ref 146)]) (st1 := [.ref 146]) (w1 := w) rfl ?_
      refine wp_get (kf := 55) (ln := 3) (a := 12) (b := 27) (z := 0) (by decide +kernel) hM (mo_27 hF) ?_
      refine wp_g 2 (pc1 := 14) (lv1 := [(1, .int (nI i)), (0, .ref 146)]) (st1 := [.ref 146, .int (nI i), .ref 160]) (w1 := w) rfl ?_
      refine wp_get (kf := 39) (ln := 3) (a := 12) (b := 20) (z := 0) (by decide +kernel) hM (mo_20 hF) ?_
      refine wp_g 3 (pc1 := 21) (lv1 := [(1, .int (nI i)), (0, .ref 146)]) (st1 := [.int (10 + (nI i)), .ref 156, .int (nI i), .ref 160]) (w1 := w) rfl ?_
      refine wp_top (show 10 + (nI i) = nI (10 + i) from nx_add (rfl : (10 : Int32) = nI 10) (rfl : nI i = nI i)) ?_
      refine wp_ia (i := 10 + i) (ln := 1) (a := 0) (b := 0) (z := 0) (by decide +kernel) hA (by omega) (by decide) ?_
      refine wp_is (i := i) (ln := 1) (a := 0) (b := 0) (z := 0) (by decide +kernel) hB (by omega) (by decide) ?_
      refine wp_g 1 (pc1 := 26) (lv1 := [(1, .int (nI i + 1)), (0, .ref 146)]) (st1 := []) (w1 := (List.set w 160 (1, 0, ar 45 ((upd kf i (f (10 + i))))))) rfl ?_
      rw [show nI i + 1 = nI (i + 1) from nx_add rfl rfl]
      refine wp_g 1 (pc1 := 2) (lv1 := [(1, .int (nI (i + 1))), (0, .ref 146)]) (st1 := []) (w1 := (List.set w 160 (1, 0, ar 45 ((upd kf i (f (10 + i))))))) rfl ?_
      refine wp_lv (lv1 := [(1, .int (nI (i + 1))), (0, .ref 146)]) (lsub_p [0, 1] rfl rfl rfl) ?_
      refine wp_mono (ih _ (i + 1) f _ (ev_ne hM (by decide)) (ev_ne hA (by decide)) (ev_eq hB) (by omega)) (fun r w1 hq => ?_)
      obtain ⟨rfl, rfl⟩ := hq
      refine ⟨rfl, ?_⟩
      rw [List.set_set, cpf_step (by omega) (by omega) (by omega)]
set_option maxRecDepth 100000 in
theorem rf_laysBack_l {d : Nat} {F : List Value} (hF : MF F)  : ∀ (g : Nat) (w : pm_H) (i : Nat) (f kf : Nat → Int32) (hM : w[146]? = some (0, 12, F)) (hA : w[160]? = some (1, 0, ar 45 f)) (hB : w[156]? = some (1, 0, ar 130 kf)) (hi : i + g = 45), wp d 227 2 [(1, .int (nI i)), (0, .ref 146)] [] w (fun r w1 => r = none ∧ w.set 156 (1, 0, ar 130 (cpf kf f 10 0 i 45)) = w1) := by
  intro g
  induction g with
  | zero =>
    intro w i f kf hM hA hB hi
    refine wp_g 2 (pc1 := 5) (lv1 := [(1, .int (nI i)), (0, .ref 146)]) (st1 := [.int 45, .int (nI i)]) (w1 := w) rfl ?_
    refine wp_icn (cnd := .ge) (o := 24) (x := i) (y := 45) (ln := 3) (a := 29) (b := 0) (z := 0) (by decide +kernel) (by omega) (by omega) (fun h1 => ?_) (fun h1 => ?_)
    · have h1 : i ≥ 45 := h1
      refine wp_rt (i := .return_) (r := none) (ln := 1) (a := 0) (b := 0) (z := 0) (by decide +kernel) rfl (ret_v (by decide +kernel)) ?_
      exact ⟨rfl, by rw [cpf_nil _ _ _ _ _ _ (by omega)]; exact set_same hB⟩
    · have h1 : ¬ (i ≥ 45) := h1
      exfalso
      omega
  | succ g ih =>
    intro w i f kf hM hA hB hi
    refine wp_g 2 (pc1 := 5) (lv1 := [(1, .int (nI i)), (0, .ref 146)]) (st1 := [.int 45, .int (nI i)]) (w1 := w) rfl ?_
    refine wp_icn (cnd := .ge) (o := 24) (x := i) (y := 45) (ln := 3) (a := 29) (b := 0) (z := 0) (by decide +kernel) (by omega) (by omega) (fun h1 => ?_) (fun h1 => ?_)
    · have h1 : i ≥ 45 := h1
      exfalso
      omega
    · have h1 : ¬ (i ≥ 45) := h1
      refine wp_g 1 (pc1 := 9) (lv1 := [(1, .int (nI i)), (0, .ref 146)]) (st1 := [.ref 146]) (w1 := w) rfl ?_
      refine wp_get (kf := 39) (ln := 3) (a := 12) (b := 20) (z := 0) (by decide +kernel) hM (mo_20 hF) ?_
      refine wp_g 3 (pc1 := 16) (lv1 := [(1, .int (nI i)), (0, .ref 146)]) (st1 := [.int (10 + (nI i)), .ref 156]) (w1 := w) rfl ?_
      refine wp_top (show 10 + (nI i) = nI (10 + i) from nx_add (rfl : (10 : Int32) = nI 10) (rfl : nI i = nI i)) ?_
      refine wp_g 1 (pc1 := 17) (lv1 := [(1, .int (nI i)), (0, .ref 146)]) (st1 := [.ref 146, .int (nI (10 + i)), .ref 156]) (w1 := w) rfl ?_
      refine wp_get (kf := 55) (ln := 3) (a := 12) (b := 27) (z := 0) (by decide +kernel) hM (mo_27 hF) ?_
      refine wp_g 1 (pc1 := 21) (lv1 := [(1, .int (nI i)), (0, .ref 146)]) (st1 := [.int (nI i), .ref 160, .int (nI (10 + i)), .ref 156]) (w1 := w) rfl ?_
      refine wp_ia (i := i) (ln := 1) (a := 0) (b := 0) (z := 0) (by decide +kernel) hA (by omega) (by decide) ?_
      refine wp_is (i := 10 + i) (ln := 1) (a := 0) (b := 0) (z := 0) (by decide +kernel) hB (by omega) (by decide) ?_
      refine wp_g 1 (pc1 := 26) (lv1 := [(1, .int (nI i + 1)), (0, .ref 146)]) (st1 := []) (w1 := (List.set w 156 (1, 0, ar 130 ((upd kf (10 + i) (f i)))))) rfl ?_
      rw [show nI i + 1 = nI (i + 1) from nx_add rfl rfl]
      refine wp_g 1 (pc1 := 2) (lv1 := [(1, .int (nI (i + 1))), (0, .ref 146)]) (st1 := []) (w1 := (List.set w 156 (1, 0, ar 130 ((upd kf (10 + i) (f i)))))) rfl ?_
      refine wp_lv (lv1 := [(1, .int (nI (i + 1))), (0, .ref 146)]) (lsub_p [0, 1] rfl rfl rfl) ?_
      refine wp_mono (ih _ (i + 1) f _ (ev_ne hM (by decide)) (ev_ne hA (by decide)) (ev_eq hB) (by omega)) (fun r w1 hq => ?_)
      obtain ⟨rfl, rfl⟩ := hq
      refine ⟨rfl, ?_⟩
      rw [List.set_set, cpf_step (by omega) (by omega) (by omega)]
set_option maxRecDepth 100000 in
theorem rf_keepsPlace_l {d : Nat} {F : List Value} (hF : MF F) {q : Nat} (q9 : q < 9) : ∀ (g : Nat) (w : pm_H) (i : Nat) (f kf : Nat → Int32) (hM : w[146]? = some (0, 12, F)) (hA : w[156]? = some (1, 0, ar 130 f)) (hB : w[162]? = some (1, 0, ar 405 kf)) (hi : i + g = 45), wp d 228 2 [(2, .int (nI i)), (0, .ref 146), (1, .int (nI q))] [] w (fun r w1 => r = none ∧ w.set 162 (1, 0, ar 405 (cpf kf f (45 * q) 10 i 45)) = w1) := by
  intro g
  induction g with
  | zero =>
    intro w i f kf hM hA hB hi
    refine wp_g 2 (pc1 := 5) (lv1 := [(2, .int (nI i)), (0, .ref 146), (1, .int (nI q))]) (st1 := [.int 45, .int (nI i)]) (w1 := w) rfl ?_
    refine wp_icn (cnd := .ge) (o := 29) (x := i) (y := 45) (ln := 3) (a := 34) (b := 0) (z := 0) (by decide +kernel) (by omega) (by omega) (fun h1 => ?_) (fun h1 => ?_)
    · have h1 : i ≥ 45 := h1
      refine wp_rt (i := .return_) (r := none) (ln := 1) (a := 0) (b := 0) (z := 0) (by decide +kernel) rfl (ret_v (by decide +kernel)) ?_
      exact ⟨rfl, by rw [cpf_nil _ _ _ _ _ _ (by omega)]; exact set_same hB⟩
    · have h1 : ¬ (i ≥ 45) := h1
      exfalso
      omega
  | succ g ih =>
    intro w i f kf hM hA hB hi
    refine wp_g 2 (pc1 := 5) (lv1 := [(2, .int (nI i)), (0, .ref 146), (1, .int (nI q))]) (st1 := [.int 45, .int (nI i)]) (w1 := w) rfl ?_
    refine wp_icn (cnd := .ge) (o := 29) (x := i) (y := 45) (ln := 3) (a := 34) (b := 0) (z := 0) (by decide +kernel) (by omega) (by omega) (fun h1 => ?_) (fun h1 => ?_)
    · have h1 : i ≥ 45 := h1
      exfalso
      omega
    · have h1 : ¬ (i ≥ 45) := h1
      refine wp_g 1 (pc1 := 9) (lv1 := [(2, .int (nI i)), (0, .ref 146), (1, .int (nI q))]) (st1 := [.ref 146]) (w1 := w) rfl ?_
      refine wp_get (kf := 61) (ln := 3) (a := 12) (b := 29) (z := 0) (by decide +kernel) hM (mo_29 hF) ?_
      refine wp_g 3 (pc1 := 16) (lv1 := [(2, .int (nI i)), (0, .ref 146), (1, .int (nI q))]) (st1 := [.int (45 * (nI q)), .ref 162]) (w1 := w) rfl ?_
      refine wp_top (show 45 * (nI q) = nI (45 * q) from nx_mul (rfl : (45 : Int32) = nI 45) (rfl : nI q = nI q)) ?_
      refine wp_g 2 (pc1 := 18) (lv1 := [(2, .int (nI i)), (0, .ref 146), (1, .int (nI q))]) (st1 := [.int ((nI (45 * q)) + (nI i)), .ref 162]) (w1 := w) rfl ?_
      refine wp_top (show (nI (45 * q)) + (nI i) = nI ((45 * q) + i) from nx_add (rfl : nI (45 * q) = nI (45 * q)) (rfl : nI i = nI i)) ?_
      refine wp_g 1 (pc1 := 19) (lv1 := [(2, .int (nI i)), (0, .ref 146), (1, .int (nI q))]) (st1 := [.ref 146, .int (nI ((45 * q) + i)), .ref 162]) (w1 := w) rfl ?_
      refine wp_get (kf := 39) (ln := 3) (a := 12) (b := 20) (z := 0) (by decide +kernel) hM (mo_20 hF) ?_
      refine wp_g 3 (pc1 := 26) (lv1 := [(2, .int (nI i)), (0, .ref 146), (1, .int (nI q))]) (st1 := [.int (10 + (nI i)), .ref 156, .int (nI ((45 * q) + i)), .ref 162]) (w1 := w) rfl ?_
      refine wp_top (show 10 + (nI i) = nI (10 + i) from nx_add (rfl : (10 : Int32) = nI 10) (rfl : nI i = nI i)) ?_
      refine wp_ia (i := 10 + i) (ln := 1) (a := 0) (b := 0) (z := 0) (by decide +kernel) hA (by omega) (by decide) ?_
      refine wp_is (i := (45 * q) + i) (ln := 1) (a := 0) (b := 0) (z := 0) (by decide +kernel) hB (by omega) (by decide) ?_
      refine wp_g 1 (pc1 := 31) (lv1 := [(2, .int (nI i + 1)), (0, .ref 146), (1, .int (nI q))]) (st1 := []) (w1 := (List.set w 162 (1, 0, ar 405 ((upd kf ((45 * q) + i) (f (10 + i))))))) rfl ?_
      rw [show nI i + 1 = nI (i + 1) from nx_add rfl rfl]
      refine wp_g 1 (pc1 := 2) (lv1 := [(2, .int (nI (i + 1))), (0, .ref 146), (1, .int (nI q))]) (st1 := []) (w1 := (List.set w 162 (1, 0, ar 405 ((upd kf ((45 * q) + i) (f (10 + i))))))) rfl ?_
      refine wp_lv (lv1 := [(2, .int (nI (i + 1))), (0, .ref 146), (1, .int (nI q))]) (lsub_p [0, 1, 2] rfl rfl rfl) ?_
      refine wp_mono (ih _ (i + 1) f _ (ev_ne hM (by decide)) (ev_ne hA (by decide)) (ev_eq hB) (by omega)) (fun r w1 hq => ?_)
      obtain ⟨rfl, rfl⟩ := hq
      refine ⟨rfl, ?_⟩
      rw [List.set_set, cpf_step (by omega) (by omega) (by omega)]
set_option maxRecDepth 100000 in
theorem rf_laysPlace_l {d : Nat} {F : List Value} (hF : MF F) {q : Nat} (q9 : q < 9) : ∀ (g : Nat) (w : pm_H) (i : Nat) (f kf : Nat → Int32) (hM : w[146]? = some (0, 12, F)) (hA : w[162]? = some (1, 0, ar 405 f)) (hB : w[156]? = some (1, 0, ar 130 kf)) (hi : i + g = 45), wp d 229 2 [(2, .int (nI i)), (0, .ref 146), (1, .int (nI q))] [] w (fun r w1 => r = none ∧ w.set 156 (1, 0, ar 130 (cpf kf f 10 (45 * q) i 45)) = w1) := by
  intro g
  induction g with
  | zero =>
    intro w i f kf hM hA hB hi
    refine wp_g 2 (pc1 := 5) (lv1 := [(2, .int (nI i)), (0, .ref 146), (1, .int (nI q))]) (st1 := [.int 45, .int (nI i)]) (w1 := w) rfl ?_
    refine wp_icn (cnd := .ge) (o := 29) (x := i) (y := 45) (ln := 3) (a := 34) (b := 0) (z := 0) (by decide +kernel) (by omega) (by omega) (fun h1 => ?_) (fun h1 => ?_)
    · have h1 : i ≥ 45 := h1
      refine wp_rt (i := .return_) (r := none) (ln := 1) (a := 0) (b := 0) (z := 0) (by decide +kernel) rfl (ret_v (by decide +kernel)) ?_
      exact ⟨rfl, by rw [cpf_nil _ _ _ _ _ _ (by omega)]; exact set_same hB⟩
    · have h1 : ¬ (i ≥ 45) := h1
      exfalso
      omega
  | succ g ih =>
    intro w i f kf hM hA hB hi
    refine wp_g 2 (pc1 := 5) (lv1 := [(2, .int (nI i)), (0, .ref 146), (1, .int (nI q))]) (st1 := [.int 45, .int (nI i)]) (w1 := w) rfl ?_
    refine wp_icn (cnd := .ge) (o := 29) (x := i) (y := 45) (ln := 3) (a := 34) (b := 0) (z := 0) (by decide +kernel) (by omega) (by omega) (fun h1 => ?_) (fun h1 => ?_)
    · have h1 : i ≥ 45 := h1
      exfalso
      omega
    · have h1 : ¬ (i ≥ 45) := h1
      refine wp_g 1 (pc1 := 9) (lv1 := [(2, .int (nI i)), (0, .ref 146), (1, .int (nI q))]) (st1 := [.ref 146]) (w1 := w) rfl ?_
      refine wp_get (kf := 39) (ln := 3) (a := 12) (b := 20) (z := 0) (by decide +kernel) hM (mo_20 hF) ?_
      refine wp_g 3 (pc1 := 16) (lv1 := [(2, .int (nI i)), (0, .ref 146), (1, .int (nI q))]) (st1 := [.int (10 + (nI i)), .ref 156]) (w1 := w) rfl ?_
      refine wp_top (show 10 + (nI i) = nI (10 + i) from nx_add (rfl : (10 : Int32) = nI 10) (rfl : nI i = nI i)) ?_
      refine wp_g 1 (pc1 := 17) (lv1 := [(2, .int (nI i)), (0, .ref 146), (1, .int (nI q))]) (st1 := [.ref 146, .int (nI (10 + i)), .ref 156]) (w1 := w) rfl ?_
      refine wp_get (kf := 61) (ln := 3) (a := 12) (b := 29) (z := 0) (by decide +kernel) hM (mo_29 hF) ?_
      refine wp_g 3 (pc1 := 24) (lv1 := [(2, .int (nI i)), (0, .ref 146), (1, .int (nI q))]) (st1 := [.int (45 * (nI q)), .ref 162, .int (nI (10 + i)), .ref 156]) (w1 := w) rfl ?_
      refine wp_top (show 45 * (nI q) = nI (45 * q) from nx_mul (rfl : (45 : Int32) = nI 45) (rfl : nI q = nI q)) ?_
      refine wp_g 2 (pc1 := 26) (lv1 := [(2, .int (nI i)), (0, .ref 146), (1, .int (nI q))]) (st1 := [.int ((nI (45 * q)) + (nI i)), .ref 162, .int (nI (10 + i)), .ref 156]) (w1 := w) rfl ?_
      refine wp_top (show (nI (45 * q)) + (nI i) = nI ((45 * q) + i) from nx_add (rfl : nI (45 * q) = nI (45 * q)) (rfl : nI i = nI i)) ?_
      refine wp_ia (i := (45 * q) + i) (ln := 1) (a := 0) (b := 0) (z := 0) (by decide +kernel) hA (by omega) (by decide) ?_
      refine wp_is (i := 10 + i) (ln := 1) (a := 0) (b := 0) (z := 0) (by decide +kernel) hB (by omega) (by decide) ?_
      refine wp_g 1 (pc1 := 31) (lv1 := [(2, .int (nI i + 1)), (0, .ref 146), (1, .int (nI q))]) (st1 := []) (w1 := (List.set w 156 (1, 0, ar 130 ((upd kf (10 + i) (f ((45 * q) + i))))))) rfl ?_
      rw [show nI i + 1 = nI (i + 1) from nx_add rfl rfl]
      refine wp_g 1 (pc1 := 2) (lv1 := [(2, .int (nI (i + 1))), (0, .ref 146), (1, .int (nI q))]) (st1 := []) (w1 := (List.set w 156 (1, 0, ar 130 ((upd kf (10 + i) (f ((45 * q) + i))))))) rfl ?_
      refine wp_lv (lv1 := [(2, .int (nI (i + 1))), (0, .ref 146), (1, .int (nI q))]) (lsub_p [0, 1, 2] rfl rfl rfl) ?_
      refine wp_mono (ih _ (i + 1) f _ (ev_ne hM (by decide)) (ev_ne hA (by decide)) (ev_eq hB) (by omega)) (fun r w1 hq => ?_)
      obtain ⟨rfl, rfl⟩ := hq
      refine ⟨rfl, ?_⟩
      rw [List.set_set, cpf_step (by omega) (by omega) (by omega)]
set_option maxRecDepth 100000 in
theorem rf_keeps {d : Nat} {w : pm_H} {F : List Value} (hM : w[146]? = some (0, 12, F)) (hF : MF F) {f kf : Nat → Int32} (hA : w[156]? = some (1, 0, ar 130 f)) (hB : w[160]? = some (1, 0, ar 45 kf))  : wp d 226 0 (lv_args 0 [.ref 146]) [] w (fun r w1 => r = none ∧ w.set 160 (1, 0, ar 45 (cpf kf f 0 10 0 45)) = w1) := by
  show wp _ 226 0 [(0, .ref 146)] [] w _
  refine wp_g 2 (pc1 := 2) (lv1 := [(1, .int 0), (0, .ref 146)]) (st1 := []) (w1 := w) rfl ?_
  exact rf_keeps_l hF 45 w 0 f kf hM hA hB (by omega)
set_option maxRecDepth 100000 in
theorem rf_laysBack {d : Nat} {w : pm_H} {F : List Value} (hM : w[146]? = some (0, 12, F)) (hF : MF F) {f kf : Nat → Int32} (hA : w[160]? = some (1, 0, ar 45 f)) (hB : w[156]? = some (1, 0, ar 130 kf))  : wp d 227 0 (lv_args 0 [.ref 146]) [] w (fun r w1 => r = none ∧ w.set 156 (1, 0, ar 130 (cpf kf f 10 0 0 45)) = w1) := by
  show wp _ 227 0 [(0, .ref 146)] [] w _
  refine wp_g 2 (pc1 := 2) (lv1 := [(1, .int 0), (0, .ref 146)]) (st1 := []) (w1 := w) rfl ?_
  exact rf_laysBack_l hF 45 w 0 f kf hM hA hB (by omega)
set_option maxRecDepth 100000 in
theorem rf_keepsPlace {d : Nat} {w : pm_H} {F : List Value} (hM : w[146]? = some (0, 12, F)) (hF : MF F) {f kf : Nat → Int32} (hA : w[156]? = some (1, 0, ar 130 f)) (hB : w[162]? = some (1, 0, ar 405 kf)) {q : Nat} (q9 : q < 9) : wp d 228 0 (lv_args 0 [.ref 146, .int (nI q)]) [] w (fun r w1 => r = none ∧ w.set 162 (1, 0, ar 405 (cpf kf f (45 * q) 10 0 45)) = w1) := by
  show wp _ 228 0 [(0, .ref 146), (1, .int (nI q))] [] w _
  refine wp_g 2 (pc1 := 2) (lv1 := [(2, .int 0), (0, .ref 146), (1, .int (nI q))]) (st1 := []) (w1 := w) rfl ?_
  exact rf_keepsPlace_l hF q9 45 w 0 f kf hM hA hB (by omega)
set_option maxRecDepth 100000 in
theorem rf_laysPlace {d : Nat} {w : pm_H} {F : List Value} (hM : w[146]? = some (0, 12, F)) (hF : MF F) {f kf : Nat → Int32} (hA : w[162]? = some (1, 0, ar 405 f)) (hB : w[156]? = some (1, 0, ar 130 kf)) {q : Nat} (q9 : q < 9) : wp d 229 0 (lv_args 0 [.ref 146, .int (nI q)]) [] w (fun r w1 => r = none ∧ w.set 156 (1, 0, ar 130 (cpf kf f 10 (45 * q) 0 45)) = w1) := by
  show wp _ 229 0 [(0, .ref 146), (1, .int (nI q))] [] w _
  refine wp_g 2 (pc1 := 2) (lv1 := [(2, .int 0), (0, .ref 146), (1, .int (nI q))]) (st1 := []) (w1 := w) rfl ?_
  exact rf_laysPlace_l hF q9 45 w 0 f kf hM hA hB (by omega)
