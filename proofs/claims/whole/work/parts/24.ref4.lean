theorem set_4 {w : pm_H} {a b : Nat} {p q r t : pm_C} (h : a ≠ b) : (((w.set a p).set b q).set a r).set b t = (w.set a r).set b t := by
  rw [List.set_comm q r (Ne.symm h), List.set_set, List.set_set]
theorem rf_isJoint_n {d : Nat} {w : pm_H} {F : List Value} (hM : w[146]? = some (0, 12, F)) (hF : MF F) {f : Nat → Int32} {m : Nat} (hs : w[156]? = some (1, 0, ar 130 f)) (hm : f 0 = nI m) (m8 : m ≤ 8) (j : Nat) (hj : j < 2 ^ 31) : wp (d + 1) 192 0 (lv_args 0 [.ref 146, .int (nI j)]) [] w (fun r w1 => r = some (.int (tB (j + 1 < m))) ∧ w = w1) := by
  refine wp_mono (rf_isJoint hM hF hs hm m8 (nI j)) (fun r w1 hq => ?_)
  obtain ⟨rfl, rfl⟩ := hq
  refine ⟨congrArg (fun v => some (Value.int v)) (tB_c ?_), rfl⟩
  rw [nI_toInt hj]
  omega
theorem rf_isCell_n {d : Nat} {w : pm_H} {F : List Value} (hM : w[146]? = some (0, 12, F)) (hF : MF F) {f : Nat → Int32} {m : Nat} (hs : w[156]? = some (1, 0, ar 130 f)) (hm : f 0 = nI m) (m8 : m ≤ 8) (j : Nat) (hj : j < 2 ^ 31) : wp d 191 0 (lv_args 0 [.ref 146, .int (nI j)]) [] w (fun r w1 => r = some (.int (tB (j < m))) ∧ w = w1) := by
  refine wp_mono (rf_isCell hM hF hs hm m8 (nI j)) (fun r w1 hq => ?_)
  obtain ⟨rfl, rfl⟩ := hq
  refine ⟨congrArg (fun v => some (Value.int v)) (tB_c ?_), rfl⟩
  rw [nI_toInt hj]
  omega
theorem rf_isPerson_n {d : Nat} {w : pm_H} {F : List Value} (hM : w[146]? = some (0, 12, F)) (hF : MF F) {f : Nat → Int32} {p : Nat} (hs : w[156]? = some (1, 0, ar 130 f)) (hp : f 1 = nI p) (p4 : p ≤ 4) (j : Nat) (hj : j < 2 ^ 31) : wp d 193 0 (lv_args 0 [.ref 146, .int (nI j)]) [] w (fun r w1 => r = some (.int (tB (j < p))) ∧ w = w1) := by
  refine wp_mono (rf_isPerson hM hF hs hp p4 (nI j)) (fun r w1 hq => ?_)
  obtain ⟨rfl, rfl⟩ := hq
  refine ⟨congrArg (fun v => some (Value.int v)) (tB_c ?_), rfl⟩
  rw [nI_toInt hj]
  omega
set_option maxRecDepth 100000 in
theorem rf_kact1 {d : Nat} {P : Option Value → pm_H → Prop} {F : List Value} (hF : MF F) : ∀ (g : Nat) (w : pm_H) (i : Nat) (h : Nat → Int32) (hM : w[146]? = some (0, 12, F)) (hB : w[159]? = some (1, 0, ar 900 h)) (hi : i + g = 900) (hl : 45 ≤ i) (kk : wp d 217 40 [(1, .int (nI 900)), (0, .ref 146)] [] (w.set 159 (1, 0, ar 900 (shf h i))) P), wp d 217 12 [(1, .int (nI i)), (0, .ref 146)] [] w P := by
  intro g
  induction g with
  | zero =>
    intro w i h hM hB hi hl kk
    refine wp_g 2 (pc1 := 16) (lv1 := [(1, .int (nI i)), (0, .ref 146)]) (st1 := [.int 900, .int (nI i)]) (w1 := w) rfl ?_
    refine wp_icn (cnd := .ge) (o := 24) (x := i) (y := 900) (ln := 3) (a := 40) (b := 0) (z := 0) (by decide +kernel) (by omega) (by omega) (fun h1 => ?_) (fun h1 => ?_)
    · have h1 : i ≥ 900 := h1
      obtain rfl : i = 900 := by omega
      rw [shf_nil (Nat.le_refl 900), set_same hB] at kk
      exact kk
    · have h1 : ¬ (i ≥ 900) := h1
      exfalso
      omega
  | succ g ih =>
    intro w i h hM hB hi hl kk
    refine wp_g 2 (pc1 := 16) (lv1 := [(1, .int (nI i)), (0, .ref 146)]) (st1 := [.int 900, .int (nI i)]) (w1 := w) rfl ?_
    refine wp_icn (cnd := .ge) (o := 24) (x := i) (y := 900) (ln := 3) (a := 40) (b := 0) (z := 0) (by decide +kernel) (by omega) (by omega) (fun h1 => ?_) (fun h1 => ?_)
    · have h1 : i ≥ 900 := h1
      exfalso
      omega
    · have h1 : ¬ (i ≥ 900) := h1
      refine wp_g 1 (pc1 := 20) (lv1 := [(1, .int (nI i)), (0, .ref 146)]) (st1 := [.ref 146]) (w1 := w) rfl ?_
      refine wp_get (kf := 52) (ln := 3) (a := 12) (b := 25) (z := 0) (by decide +kernel) hM (mo_25 hF) ?_
      refine wp_g 3 (pc1 := 27) (lv1 := [(1, .int (nI i)), (0, .ref 146)]) (st1 := [.int ((nI i) - 45), .ref 159]) (w1 := w) rfl ?_
      refine wp_top (show (nI i) - 45 = nI (i - 45) from nx_sub (rfl : nI i = nI i) (rfl : (45 : Int32) = nI 45) (by omega)) ?_
      refine wp_g 1 (pc1 := 28) (lv1 := [(1, .int (nI i)), (0, .ref 146)]) (st1 := [.ref 146, .int (nI (i - 45)), .ref 159]) (w1 := w) rfl ?_
      refine wp_get (kf := 52) (ln := 3) (a := 12) (b := 25) (z := 0) (by decide +kernel) hM (mo_25 hF) ?_
      refine wp_g 1 (pc1 := 32) (lv1 := [(1, .int (nI i)), (0, .ref 146)]) (st1 := [.int (nI i), .ref 159, .int (nI (i - 45)), .ref 159]) (w1 := w) rfl ?_
      refine wp_ia (i := i) (ln := 1) (a := 0) (b := 0) (z := 0) (by decide +kernel) hB (by omega) (by decide) ?_
      refine wp_is (i := i - 45) (ln := 1) (a := 0) (b := 0) (z := 0) (by decide +kernel) hB (by omega) (by decide) ?_
      refine wp_g 1 (pc1 := 37) (lv1 := [(1, .int (nI i + 1)), (0, .ref 146)]) (st1 := []) (w1 := (List.set w 159 (1, 0, ar 900 ((upd h (i - 45) (h i)))))) rfl ?_
      rw [show nI i + 1 = nI (i + 1) from nx_add rfl rfl]
      refine wp_g 1 (pc1 := 12) (lv1 := [(1, .int (nI (i + 1))), (0, .ref 146)]) (st1 := []) (w1 := (List.set w 159 (1, 0, ar 900 ((upd h (i - 45) (h i)))))) rfl ?_
      refine ih _ (i + 1) _ (ev_ne hM (by decide)) (ev_eq hB) (by omega) (by omega) ?_
      rw [List.set_set, shf_step (by omega) (by omega)]
      exact kk
set_option maxRecDepth 100000 in
theorem rf_kact2 {d : Nat} {P : Option Value → pm_H → Prop} {F : List Value} (hF : MF F) {u : Nat} (h26 : F[26]? = some (.int (nI u))) (u19 : u ≤ 19) : ∀ (g : Nat) (w : pm_H) (i : Nat) (f h : Nat → Int32) (hM : w[146]? = some (0, 12, F)) (hA : w[156]? = some (1, 0, ar 130 f)) (hB : w[159]? = some (1, 0, ar 900 h)) (hi : i + g = 45) (kk : wp d 217 87 [(1, .int (nI 45)), (0, .ref 146)] [] (w.set 159 (1, 0, ar 900 (cpf h f (45 * u) 10 i 45))) P), wp d 217 52 [(1, .int (nI i)), (0, .ref 146)] [] w P := by
  intro g
  induction g with
  | zero =>
    intro w i f h hM hA hB hi kk
    refine wp_g 2 (pc1 := 55) (lv1 := [(1, .int (nI i)), (0, .ref 146)]) (st1 := [.int 45, .int (nI i)]) (w1 := w) rfl ?_
    refine wp_icn (cnd := .ge) (o := 32) (x := i) (y := 45) (ln := 3) (a := 87) (b := 0) (z := 0) (by decide +kernel) (by omega) (by omega) (fun h1 => ?_) (fun h1 => ?_)
    · have h1 : i ≥ 45 := h1
      obtain rfl : i = 45 := by omega
      rw [cpf_nil _ _ _ _ _ _ (Nat.le_refl 45), set_same hB] at kk
      exact kk
    · have h1 : ¬ (i ≥ 45) := h1
      exfalso
      omega
  | succ g ih =>
    intro w i f h hM hA hB hi kk
    refine wp_g 2 (pc1 := 55) (lv1 := [(1, .int (nI i)), (0, .ref 146)]) (st1 := [.int 45, .int (nI i)]) (w1 := w) rfl ?_
    refine wp_icn (cnd := .ge) (o := 32) (x := i) (y := 45) (ln := 3) (a := 87) (b := 0) (z := 0) (by decide +kernel) (by omega) (by omega) (fun h1 => ?_) (fun h1 => ?_)
    · have h1 : i ≥ 45 := h1
      exfalso
      omega
    · have h1 : ¬ (i ≥ 45) := h1
      refine wp_g 1 (pc1 := 59) (lv1 := [(1, .int (nI i)), (0, .ref 146)]) (st1 := [.ref 146]) (w1 := w) rfl ?_
      refine wp_get (kf := 52) (ln := 3) (a := 12) (b := 25) (z := 0) (by decide +kernel) hM (mo_25 hF) ?_
      refine wp_g 2 (pc1 := 65) (lv1 := [(1, .int (nI i)), (0, .ref 146)]) (st1 := [.ref 146, .int 45, .ref 159]) (w1 := w) rfl ?_
      refine wp_get (kf := 283) (ln := 3) (a := 12) (b := 26) (z := 0) (by decide +kernel) hM h26 ?_
      refine wp_g 1 (pc1 := 69) (lv1 := [(1, .int (nI i)), (0, .ref 146)]) (st1 := [.int (45 * (nI u)), .ref 159]) (w1 := w) rfl ?_
      refine wp_top (show 45 * (nI u) = nI (45 * u) from nx_mul (rfl : (45 : Int32) = nI 45) (rfl : nI u = nI u)) ?_
      refine wp_g 2 (pc1 := 71) (lv1 := [(1, .int (nI i)), (0, .ref 146)]) (st1 := [.int ((nI (45 * u)) + (nI i)), .ref 159]) (w1 := w) rfl ?_
      refine wp_top (show (nI (45 * u)) + (nI i) = nI ((45 * u) + i) from nx_add (rfl : nI (45 * u) = nI (45 * u)) (rfl : nI i = nI i)) ?_
      refine wp_g 1 (pc1 := 72) (lv1 := [(1, .int (nI i)), (0, .ref 146)]) (st1 := [.ref 146, .int (nI ((45 * u) + i)), .ref 159]) (w1 := w) rfl ?_
      refine wp_get (kf := 39) (ln := 3) (a := 12) (b := 20) (z := 0) (by decide +kernel) hM (mo_20 hF) ?_
      refine wp_g 3 (pc1 := 79) (lv1 := [(1, .int (nI i)), (0, .ref 146)]) (st1 := [.int (10 + (nI i)), .ref 156, .int (nI ((45 * u) + i)), .ref 159]) (w1 := w) rfl ?_
      refine wp_top (show 10 + (nI i) = nI (10 + i) from nx_add (rfl : (10 : Int32) = nI 10) (rfl : nI i = nI i)) ?_
      refine wp_ia (i := 10 + i) (ln := 1) (a := 0) (b := 0) (z := 0) (by decide +kernel) hA (by omega) (by decide) ?_
      refine wp_is (i := (45 * u) + i) (ln := 1) (a := 0) (b := 0) (z := 0) (by decide +kernel) hB (by omega) (by decide) ?_
      refine wp_g 1 (pc1 := 84) (lv1 := [(1, .int (nI i + 1)), (0, .ref 146)]) (st1 := []) (w1 := (List.set w 159 (1, 0, ar 900 ((upd h ((45 * u) + i) (f (10 + i))))))) rfl ?_
      rw [show nI i + 1 = nI (i + 1) from nx_add rfl rfl]
      refine wp_g 1 (pc1 := 52) (lv1 := [(1, .int (nI (i + 1))), (0, .ref 146)]) (st1 := []) (w1 := (List.set w 159 (1, 0, ar 900 ((upd h ((45 * u) + i) (f (10 + i))))))) rfl ?_
      refine ih _ (i + 1) f _ (ev_ne hM (by decide)) (ev_ne hA (by decide)) (ev_eq hB) (by omega) ?_
      rw [List.set_set, cpf_step (by omega) (by omega) (by omega)]
      exact kk
set_option maxRecDepth 100000 in
theorem rf_keepsAct_lt {d : Nat} {w : pm_H} {F : List Value} (hM : w[146]? = some (0, 12, F)) (hF : MF F) {f h : Nat → Int32} (hA : w[156]? = some (1, 0, ar 130 f)) (hB : w[159]? = some (1, 0, ar 900 h)) {u : Nat} (h26 : F[26]? = some (.int (nI u))) (u20 : u < 20) : wp d 217 0 (lv_args 0 [.ref 146]) [] w (fun r w1 => r = none ∧ (w.set 159 (1, 0, ar 900 (cpf h f (45 * u) 10 0 45))).set 146 (0, 12, F.set 26 (.int (nI (u + 1)))) = w1) := by
  show wp _ 217 0 [(0, .ref 146)] [] w _
  refine wp_g 1 (pc1 := 1) (lv1 := [(0, .ref 146)]) (st1 := [.ref 146]) (w1 := w) rfl ?_
  refine wp_get (kf := 283) (ln := 3) (a := 12) (b := 26) (z := 0) (by decide +kernel) hM h26 ?_
  refine wp_g 1 (pc1 := 6) (lv1 := [(0, .ref 146)]) (st1 := [.int 20, .int (nI u)]) (w1 := w) rfl ?_
  refine wp_icn (cnd := .ne) (o := 44) (x := u) (y := 20) (ln := 3) (a := 50) (b := 0) (z := 0) (by decide +kernel) (by omega) (by omega) (fun h1 => ?_) (fun h1 => ?_)
  · have h1 : u ≠ 20 := h1
    refine wp_g 2 (pc1 := 52) (lv1 := [(1, .int 0), (0, .ref 146)]) (st1 := []) (w1 := w) rfl ?_
    refine rf_kact2 hF (u := u) h26 (by omega) 45 _ 0 f _ hM hA hB (by omega) ?_
    refine wp_g 2 (pc1 := 89) (lv1 := [(1, .int (nI 45)), (0, .ref 146)]) (st1 := [.ref 146, .ref 146]) (w1 := (List.set w 159 (1, 0, ar 900 ((cpf h f (45 * u) 10 0 45))))) rfl ?_
    refine wp_get (kf := 283) (ln := 3) (a := 12) (b := 26) (z := 0) (by decide +kernel) (ev_ne hM (by decide)) h26 ?_
    refine wp_g 2 (pc1 := 94) (lv1 := [(1, .int (nI 45)), (0, .ref 146)]) (st1 := [.int ((nI u) + 1), .ref 146]) (w1 := (List.set w 159 (1, 0, ar 900 ((cpf h f (45 * u) 10 0 45))))) rfl ?_
    refine wp_top (show (nI u) + 1 = nI (u + 1) from nx_add (rfl : nI u = nI u) (rfl : (1 : Int32) = nI 1)) ?_
    refine wp_put (kf := 283) (ln := 3) (a := 12) (b := 26) (z := 0) (by decide +kernel) (ev_ne hM (by decide)) (mo_lt hF 26 (by decide)) (show pm_fit (pm_ft 12 26) (.int (nI (u + 1))) = true by rw [show pm_ft 12 26 = .int by decide +kernel]; rfl) ?_
    refine wp_rt (i := .return_) (r := none) (ln := 1) (a := 0) (b := 0) (z := 0) (by decide +kernel) rfl (ret_v (by decide +kernel)) ?_
    exact ⟨rfl, rfl⟩
  · have h1 : ¬ (u ≠ 20) := h1
    exfalso
    omega
set_option maxRecDepth 100000 in
theorem rf_keepsAct_20 {d : Nat} {w : pm_H} {F : List Value} (hM : w[146]? = some (0, 12, F)) (hF : MF F) {f h : Nat → Int32} (hA : w[156]? = some (1, 0, ar 130 f)) (hB : w[159]? = some (1, 0, ar 900 h)) (h26 : F[26]? = some (.int 20)) : wp d 217 0 (lv_args 0 [.ref 146]) [] w (fun r w1 => r = none ∧ (w.set 159 (1, 0, ar 900 (cpf (shf h 45) f (45 * 19) 10 0 45))).set 146 (0, 12, F.set 26 (.int 20)) = w1) := by
  show wp _ 217 0 [(0, .ref 146)] [] w _
  refine wp_g 1 (pc1 := 1) (lv1 := [(0, .ref 146)]) (st1 := [.ref 146]) (w1 := w) rfl ?_
  refine wp_get (kf := 283) (ln := 3) (a := 12) (b := 26) (z := 0) (by decide +kernel) hM h26 ?_
  refine wp_g 4 (pc1 := 12) (lv1 := [(1, .int 45), (0, .ref 146)]) (st1 := []) (w1 := w) rfl ?_
  refine rf_kact1 hF 855 _ 45 h hM hB (by omega) (by omega) ?_
  refine wp_g 2 (pc1 := 42) (lv1 := [(1, .int (nI 900)), (0, .ref 146)]) (st1 := [.ref 146, .ref 146]) (w1 := (List.set w 159 (1, 0, ar 900 ((shf h 45))))) rfl ?_
  refine wp_get (kf := 283) (ln := 3) (a := 12) (b := 26) (z := 0) (by decide +kernel) (ev_ne hM (by decide)) h26 ?_
  refine wp_g 2 (pc1 := 47) (lv1 := [(1, .int (nI 900)), (0, .ref 146)]) (st1 := [.int 19, .ref 146]) (w1 := (List.set w 159 (1, 0, ar 900 ((shf h 45))))) rfl ?_
  refine wp_put (kf := 283) (ln := 3) (a := 12) (b := 26) (z := 0) (by decide +kernel) (ev_ne hM (by decide)) (mo_lt hF 26 (by decide)) (show pm_fit (pm_ft 12 26) (.int 19) = true by rw [show pm_ft 12 26 = .int by decide +kernel]; rfl) ?_
  refine wp_g 2 (pc1 := 52) (lv1 := [(1, .int 0), (0, .ref 146)]) (st1 := []) (w1 := (List.set (List.set w 159 (1, 0, ar 900 ((shf h 45)))) 146 (0, 12, (List.set F 26 (.int 19))))) rfl ?_
  refine rf_kact2 (mf_set hF 26 _ (by decide)) (u := 19) (List.getElem?_set_self (mo_lt hF 26 (by decide))) (by omega) 45 _ 0 f _ (ev_eq ((ev_ne hM (by decide)))) (ev_ne ((ev_ne hA (by decide))) (by decide)) (ev_ne ((ev_eq hB)) (by decide)) (by omega) ?_
  refine wp_g 2 (pc1 := 89) (lv1 := [(1, .int (nI 45)), (0, .ref 146)]) (st1 := [.ref 146, .ref 146]) (w1 := (List.set (List.set (List.set w 159 (1, 0, ar 900 ((shf h 45)))) 146 (0, 12, (List.set F 26 (.int 19)))) 159 (1, 0, ar 900 ((cpf ((shf h 45)) f (45 * 19) 10 0 45))))) rfl ?_
  refine wp_get (kf := 283) (ln := 3) (a := 12) (b := 26) (z := 0) (by decide +kernel) (ev_ne ((ev_eq ((ev_ne hM (by decide))))) (by decide)) (List.getElem?_set_self (mo_lt hF 26 (by decide))) ?_
  refine wp_g 2 (pc1 := 94) (lv1 := [(1, .int (nI 45)), (0, .ref 146)]) (st1 := [.int 20, .ref 146]) (w1 := (List.set (List.set (List.set w 159 (1, 0, ar 900 ((shf h 45)))) 146 (0, 12, (List.set F 26 (.int 19)))) 159 (1, 0, ar 900 ((cpf ((shf h 45)) f (45 * 19) 10 0 45))))) rfl ?_
  refine wp_put (kf := 283) (ln := 3) (a := 12) (b := 26) (z := 0) (by decide +kernel) (ev_ne ((ev_eq ((ev_ne hM (by decide))))) (by decide)) (by rw [List.length_set]; exact (mo_lt hF 26 (by decide))) (show pm_fit (pm_ft 12 26) (.int 20) = true by rw [show pm_ft 12 26 = .int by decide +kernel]; rfl) ?_
  refine wp_rt (i := .return_) (r := none) (ln := 1) (a := 0) (b := 0) (z := 0) (by decide +kernel) rfl (ret_v (by decide +kernel)) ?_
  exact ⟨rfl, by rw [set_4 (by decide), List.set_set]⟩
/-- the acts kept, one more -/
def kact (h f : Nat → Int32) (u : Nat) : Nat → Int32 := if u = 20 then cpf (shf h 45) f (45 * 19) 10 0 45 else cpf h f (45 * u) 10 0 45
def kmany (u : Nat) : Nat := if u = 20 then 20 else u + 1
theorem rf_keepsAct {d : Nat} {w : pm_H} {F : List Value} (hM : w[146]? = some (0, 12, F)) (hF : MF F) {f h : Nat → Int32} (hA : w[156]? = some (1, 0, ar 130 f)) (hB : w[159]? = some (1, 0, ar 900 h)) {u : Nat} (h26 : F[26]? = some (.int (nI u))) (u20 : u ≤ 20) : wp d 217 0 (lv_args 0 [.ref 146]) [] w (fun r w1 => r = none ∧ (w.set 159 (1, 0, ar 900 (kact h f u))).set 146 (0, 12, F.set 26 (.int (nI (kmany u)))) = w1) := by
  unfold kact kmany
  by_cases hu : u = 20
  · subst hu
    rw [if_pos rfl, if_pos rfl]
    exact rf_keepsAct_20 hM hF hA hB h26
  · rw [if_neg hu, if_neg hu]
    exact rf_keepsAct_lt hM hF hA hB h26 (by omega)
set_option maxRecDepth 100000 in
theorem rf_undo_l {d : Nat} {P : Option Value → pm_H → Prop} {F : List Value} (hF : MF F) {u : Nat} (h26 : F[26]? = some (.int (nI u))) (u19 : u ≤ 19) : ∀ (g : Nat) (w : pm_H) (i : Nat) (f h : Nat → Int32) (hM : w[146]? = some (0, 12, F)) (hA : w[156]? = some (1, 0, ar 130 f)) (hB : w[159]? = some (1, 0, ar 900 h)) (hi : i + g = 45) (kk : wp d 218 56 [(1, .int (nI 45)), (0, .ref 146)] [] (w.set 156 (1, 0, ar 130 (cpf f h 10 (45 * u) i 45))) P), wp d 218 21 [(1, .int (nI i)), (0, .ref 146)] [] w P := by
  intro g
  induction g with
  | zero =>
    intro w i f h hM hA hB hi kk
    refine wp_g 2 (pc1 := 24) (lv1 := [(1, .int (nI i)), (0, .ref 146)]) (st1 := [.int 45, .int (nI i)]) (w1 := w) rfl ?_
    refine wp_icn (cnd := .ge) (o := 32) (x := i) (y := 45) (ln := 3) (a := 56) (b := 0) (z := 0) (by decide +kernel) (by omega) (by omega) (fun h1 => ?_) (fun h1 => ?_)
    · have h1 : i ≥ 45 := h1
      obtain rfl : i = 45 := by omega
      rw [cpf_nil _ _ _ _ _ _ (Nat.le_refl 45), set_same hA] at kk
      exact kk
    · have h1 : ¬ (i ≥ 45) := h1
      exfalso
      omega
  | succ g ih =>
    intro w i f h hM hA hB hi kk
    refine wp_g 2 (pc1 := 24) (lv1 := [(1, .int (nI i)), (0, .ref 146)]) (st1 := [.int 45, .int (nI i)]) (w1 := w) rfl ?_
    refine wp_icn (cnd := .ge) (o := 32) (x := i) (y := 45) (ln := 3) (a := 56) (b := 0) (z := 0) (by decide +kernel) (by omega) (by omega) (fun h1 => ?_) (fun h1 => ?_)
    · have h1 : i ≥ 45 := h1
      exfalso
      omega
    · have h1 : ¬ (i ≥ 45) := h1
      refine wp_g 1 (pc1 := 28) (lv1 := [(1, .int (nI i)), (0, .ref 146)]) (st1 := [.ref 146]) (w1 := w) rfl ?_
      refine wp_get (kf := 39) (ln := 3) (a := 12) (b := 20) (z := 0) (by decide +kernel) hM (mo_20 hF) ?_
      refine wp_g 3 (pc1 := 35) (lv1 := [(1, .int (nI i)), (0, .ref 146)]) (st1 := [.int (10 + (nI i)), .ref 156]) (w1 := w) rfl ?_
      refine wp_top (show 10 + (nI i) = nI (10 + i) from nx_add (rfl : (10 : Int32) = nI 10) (rfl : nI i = nI i)) ?_
      refine wp_g 1 (pc1 := 36) (lv1 := [(1, .int (nI i)), (0, .ref 146)]) (st1 := [.ref 146, .int (nI (10 + i)), .ref 156]) (w1 := w) rfl ?_
      refine wp_get (kf := 52) (ln := 3) (a := 12) (b := 25) (z := 0) (by decide +kernel) hM (mo_25 hF) ?_
      refine wp_g 2 (pc1 := 42) (lv1 := [(1, .int (nI i)), (0, .ref 146)]) (st1 := [.ref 146, .int 45, .ref 159, .int (nI (10 + i)), .ref 156]) (w1 := w) rfl ?_
      refine wp_get (kf := 283) (ln := 3) (a := 12) (b := 26) (z := 0) (by decide +kernel) hM h26 ?_
      refine wp_g 1 (pc1 := 46) (lv1 := [(1, .int (nI i)), (0, .ref 146)]) (st1 := [.int (45 * (nI u)), .ref 159, .int (nI (10 + i)), .ref 156]) (w1 := w) rfl ?_
      refine wp_top (show 45 * (nI u) = nI (45 * u) from nx_mul (rfl : (45 : Int32) = nI 45) (rfl : nI u = nI u)) ?_
      refine wp_g 2 (pc1 := 48) (lv1 := [(1, .int (nI i)), (0, .ref 146)]) (st1 := [.int ((nI (45 * u)) + (nI i)), .ref 159, .int (nI (10 + i)), .ref 156]) (w1 := w) rfl ?_
      refine wp_top (show (nI (45 * u)) + (nI i) = nI ((45 * u) + i) from nx_add (rfl : nI (45 * u) = nI (45 * u)) (rfl : nI i = nI i)) ?_
      refine wp_ia (i := (45 * u) + i) (ln := 1) (a := 0) (b := 0) (z := 0) (by decide +kernel) hB (by omega) (by decide) ?_
      refine wp_is (i := 10 + i) (ln := 1) (a := 0) (b := 0) (z := 0) (by decide +kernel) hA (by omega) (by decide) ?_
      refine wp_g 1 (pc1 := 53) (lv1 := [(1, .int (nI i + 1)), (0, .ref 146)]) (st1 := []) (w1 := (List.set w 156 (1, 0, ar 130 ((upd f (10 + i) (h ((45 * u) + i))))))) rfl ?_
      rw [show nI i + 1 = nI (i + 1) from nx_add rfl rfl]
      refine wp_g 1 (pc1 := 21) (lv1 := [(1, .int (nI (i + 1))), (0, .ref 146)]) (st1 := []) (w1 := (List.set w 156 (1, 0, ar 130 ((upd f (10 + i) (h ((45 * u) + i))))))) rfl ?_
      refine ih _ (i + 1) _ h (ev_ne hM (by decide)) (ev_eq hA) (ev_ne hB (by decide)) (by omega) ?_
      rw [List.set_set, cpf_step (by omega) (by omega) (by omega)]
      exact kk
set_option maxRecDepth 100000 in
theorem rf_undo_s {d : Nat} {w : pm_H} {F : List Value} (hM : w[146]? = some (0, 12, F)) (hF : MF F) {f h : Nat → Int32} (hA : w[156]? = some (1, 0, ar 130 f)) (hB : w[159]? = some (1, 0, ar 900 h)) {t : Nat} (h26 : F[26]? = some (.int (nI (t + 1)))) (t19 : t ≤ 19) : wp d 218 0 (lv_args 0 [.ref 146]) [] w (fun r w1 => r = some (.int (nI t)) ∧ (w.set 146 (0, 12, F.set 26 (.int (nI t)))).set 156 (1, 0, ar 130 (cpf f h 10 (45 * t) 0 45)) = w1) := by
  show wp _ 218 0 [(0, .ref 146)] [] w _
  refine wp_g 1 (pc1 := 1) (lv1 := [(0, .ref 146)]) (st1 := [.ref 146]) (w1 := w) rfl ?_
  refine wp_get (kf := 283) (ln := 3) (a := 12) (b := 26) (z := 0) (by decide +kernel) hM h26 ?_
  refine wp_ifn (cnd := .ne) (o := 5) (x := t + 1) (ln := 3) (a := 9) (b := 0) (z := 0) (by decide +kernel) (by omega) (fun h1 => ?_) (fun h1 => ?_)
  · have h1 : t + 1 ≠ 0 := h1
    refine wp_g 2 (pc1 := 11) (lv1 := [(0, .ref 146)]) (st1 := [.ref 146, .ref 146]) (w1 := w) rfl ?_
    refine wp_get (kf := 283) (ln := 3) (a := 12) (b := 26) (z := 0) (by decide +kernel) hM h26 ?_
    refine wp_g 2 (pc1 := 16) (lv1 := [(0, .ref 146)]) (st1 := [.int ((nI (t + 1)) - 1), .ref 146]) (w1 := w) rfl ?_
    refine wp_top (show (nI (t + 1)) - 1 = nI ((t + 1) - 1) from nx_sub (rfl : nI (t + 1) = nI (t + 1)) (rfl : (1 : Int32) = nI 1) (by omega)) ?_
    refine wp_put (kf := 283) (ln := 3) (a := 12) (b := 26) (z := 0) (by decide +kernel) hM (mo_lt hF 26 (by decide)) (show pm_fit (pm_ft 12 26) (.int (nI ((t + 1) - 1))) = true by rw [show pm_ft 12 26 = .int by decide +kernel]; rfl) ?_
    refine wp_g 2 (pc1 := 21) (lv1 := [(1, .int 0), (0, .ref 146)]) (st1 := []) (w1 := (List.set w 146 (0, 12, (List.set F 26 (.int (nI ((t + 1) - 1))))))) rfl ?_
    refine rf_undo_l (mf_set hF 26 _ (by decide)) (u := t) (List.getElem?_set_self (mo_lt hF 26 (by decide))) (by omega) 45 _ 0 f h (ev_eq hM) (ev_ne hA (by decide)) (ev_ne hB (by decide)) (by omega) ?_
    refine wp_g 1 (pc1 := 57) (lv1 := [(1, .int (nI 45)), (0, .ref 146)]) (st1 := [.ref 146]) (w1 := (List.set (List.set w 146 (0, 12, (List.set F 26 (.int (nI ((t + 1) - 1)))))) 156 (1, 0, ar 130 ((cpf f h 10 (45 * t) 0 45))))) rfl ?_
    refine wp_get (kf := 283) (ln := 3) (a := 12) (b := 26) (z := 0) (by decide +kernel) (ev_ne ((ev_eq hM)) (by decide)) (List.getElem?_set_self (mo_lt hF 26 (by decide))) ?_
    refine wp_rt (i := .ireturn) (r := some (.int (nI ((t + 1) - 1)))) (ln := 1) (a := 0) (b := 0) (z := 0) (by decide +kernel) rfl (ret_ok (by decide +kernel)) ?_
    exact ⟨rfl, rfl⟩
  · have h1 : ¬ (t + 1 ≠ 0) := h1
    exfalso
    omega
set_option maxRecDepth 100000 in
theorem rf_undo_0 {d : Nat} {w : pm_H} {F : List Value} (hM : w[146]? = some (0, 12, F)) (hF : MF F) {f h : Nat → Int32} (hA : w[156]? = some (1, 0, ar 130 f)) (hB : w[159]? = some (1, 0, ar 900 h)) (h26 : F[26]? = some (.int 0)) : wp d 218 0 (lv_args 0 [.ref 146]) [] w (fun r w1 => r = some (.int (-1)) ∧ w = w1) := by
  show wp _ 218 0 [(0, .ref 146)] [] w _
  refine wp_g 1 (pc1 := 1) (lv1 := [(0, .ref 146)]) (st1 := [.ref 146]) (w1 := w) rfl ?_
  refine wp_get (kf := 283) (ln := 3) (a := 12) (b := 26) (z := 0) (by decide +kernel) hM h26 ?_
  refine wp_g 2 (pc1 := 8) (lv1 := [(0, .ref 146)]) (st1 := [.int ((-1))]) (w1 := w) rfl ?_
  refine wp_rt (i := .ireturn) (r := some (.int ((-1)))) (ln := 1) (a := 0) (b := 0) (z := 0) (by decide +kernel) rfl (ret_ok (by decide +kernel)) ?_
  exact ⟨rfl, rfl⟩
set_option maxRecDepth 100000 in
theorem rf_seed {d : Nat} {w : pm_H} {F : List Value} (hM : w[146]? = some (0, 12, F)) (hF : MF F) {x : Int32} (h22 : F[22]? = some (.int x)) (v : Int32) : wp d 256 0 (lv_args 0 [.ref 146, .int v]) [] w (fun r w1 => (0 ≤ v.toInt → r = some (.int x) ∧ w.set 146 (0, 12, F.set 22 (.int v)) = w1) ∧ (v.toInt < 0 → r = some (.int (-1)) ∧ w = w1)) := by
  show wp _ 256 0 [(0, .ref 146), (1, .int v)] [] w _
  refine wp_g 1 (pc1 := 1) (lv1 := [(0, .ref 146), (1, .int v)]) (st1 := [.int v]) (w1 := w) rfl ?_
  refine wp_ifc (cnd := .ge) (o := 5) (ln := 3) (a := 6) (b := 0) (z := 0) (by decide +kernel) (fun h1 => ?_) (fun h1 => ?_)
  · have h1 := of_decide_eq_true h1
    refine wp_g 1 (pc1 := 7) (lv1 := [(0, .ref 146), (1, .int v)]) (st1 := [.ref 146]) (w1 := w) rfl ?_
    refine wp_get (kf := 470) (ln := 3) (a := 12) (b := 22) (z := 0) (by decide +kernel) hM h22 ?_
    refine wp_g 3 (pc1 := 13) (lv1 := [(2, .int x), (0, .ref 146), (1, .int v)]) (st1 := [.int v, .ref 146]) (w1 := w) rfl ?_
    refine wp_put (kf := 470) (ln := 3) (a := 12) (b := 22) (z := 0) (by decide +kernel) hM (mo_lt hF 22 (by decide)) (show pm_fit (pm_ft 12 22) (.int v) = true by rw [show pm_ft 12 22 = .int by decide +kernel]; rfl) ?_
    refine wp_g 1 (pc1 := 17) (lv1 := [(2, .int x), (0, .ref 146), (1, .int v)]) (st1 := [.int x]) (w1 := (List.set w 146 (0, 12, (List.set F 22 (.int v))))) rfl ?_
    refine wp_rt (i := .ireturn) (r := some (.int x)) (ln := 1) (a := 0) (b := 0) (z := 0) (by decide +kernel) rfl (ret_ok (by decide +kernel)) ?_
    have jh1 := i3_get h1
    simp only [show ((0 : Int32)).toInt = 0 by decide] at jh1
    exact ⟨fun hh => by first | exact ⟨rfl, rfl⟩ | (exfalso; omega), fun hh => by first | exact ⟨rfl, rfl⟩ | (exfalso; omega)⟩
  · have h1 := of_decide_eq_false h1
    refine wp_g 1 (pc1 := 5) (lv1 := [(0, .ref 146), (1, .int v)]) (st1 := [.int ((-1))]) (w1 := w) rfl ?_
    refine wp_rt (i := .ireturn) (r := some (.int ((-1)))) (ln := 1) (a := 0) (b := 0) (z := 0) (by decide +kernel) rfl (ret_ok (by decide +kernel)) ?_
    have jh1 := i3_gef h1
    simp only [show ((0 : Int32)).toInt = 0 by decide] at jh1
    exact ⟨fun hh => by first | exact ⟨rfl, rfl⟩ | (exfalso; omega), fun hh => by first | exact ⟨rfl, rfl⟩ | (exfalso; omega)⟩
