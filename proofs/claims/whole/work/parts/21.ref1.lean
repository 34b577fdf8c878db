/-! the reference's object: where its rows lie: by program -/
def MF (F : List Value) : Prop := F.length = 46 ∧ F[0]? = some (.ref 147) ∧ F[3]? = some (.ref 148) ∧ F[4]? = some (.ref 149) ∧ F[5]? = some (.ref 150) ∧ F[6]? = some (.ref 151) ∧ F[7]? = some (.ref 152) ∧ F[15]? = some (.ref 153) ∧ F[17]? = some (.ref 154) ∧ F[19]? = some (.ref 155) ∧ F[20]? = some (.ref 156) ∧ F[23]? = some (.ref 157) ∧ F[24]? = some (.ref 158) ∧ F[25]? = some (.ref 159) ∧ F[27]? = some (.ref 160) ∧ F[28]? = some (.ref 161) ∧ F[29]? = some (.ref 162) ∧ F[31]? = some (.ref 163) ∧ F[32]? = some (.ref 164) ∧ F[34]? = some (.ref 165) ∧ F[35]? = some (.ref 166) ∧ F[36]? = some (.ref 167) ∧ F[37]? = some (.ref 168) ∧ F[38]? = some (.ref 169) ∧ F[39]? = some (.ref 170) ∧ F[42]? = some (.ref 171) ∧ F[43]? = some (.ref 172) ∧ F[44]? = some (.ref 173) ∧ F[45]? = some (.ref 174)
theorem mo_lt {F : List Value} (h : MF F) (k : Nat) (hk : k < 46) : k < F.length := by rw [h.1]; exact hk
theorem mo_0 {F : List Value} (h : MF F) : F[0]? = some (.ref 147) := h.2.1
theorem mo_3 {F : List Value} (h : MF F) : F[3]? = some (.ref 148) := h.2.2.1
theorem mo_4 {F : List Value} (h : MF F) : F[4]? = some (.ref 149) := h.2.2.2.1
theorem mo_5 {F : List Value} (h : MF F) : F[5]? = some (.ref 150) := h.2.2.2.2.1
theorem mo_6 {F : List Value} (h : MF F) : F[6]? = some (.ref 151) := h.2.2.2.2.2.1
theorem mo_7 {F : List Value} (h : MF F) : F[7]? = some (.ref 152) := h.2.2.2.2.2.2.1
theorem mo_15 {F : List Value} (h : MF F) : F[15]? = some (.ref 153) := h.2.2.2.2.2.2.2.1
theorem mo_17 {F : List Value} (h : MF F) : F[17]? = some (.ref 154) := h.2.2.2.2.2.2.2.2.1
theorem mo_19 {F : List Value} (h : MF F) : F[19]? = some (.ref 155) := h.2.2.2.2.2.2.2.2.2.1
theorem mo_20 {F : List Value} (h : MF F) : F[20]? = some (.ref 156) := h.2.2.2.2.2.2.2.2.2.2.1
theorem mo_23 {F : List Value} (h : MF F) : F[23]? = some (.ref 157) := h.2.2.2.2.2.2.2.2.2.2.2.1
theorem mo_24 {F : List Value} (h : MF F) : F[24]? = some (.ref 158) := h.2.2.2.2.2.2.2.2.2.2.2.2.1
theorem mo_25 {F : List Value} (h : MF F) : F[25]? = some (.ref 159) := h.2.2.2.2.2.2.2.2.2.2.2.2.2.1
theorem mo_27 {F : List Value} (h : MF F) : F[27]? = some (.ref 160) := h.2.2.2.2.2.2.2.2.2.2.2.2.2.2.1
theorem mo_28 {F : List Value} (h : MF F) : F[28]? = some (.ref 161) := h.2.2.2.2.2.2.2.2.2.2.2.2.2.2.2.1
theorem mo_29 {F : List Value} (h : MF F) : F[29]? = some (.ref 162) := h.2.2.2.2.2.2.2.2.2.2.2.2.2.2.2.2.1
theorem mo_31 {F : List Value} (h : MF F) : F[31]? = some (.ref 163) := h.2.2.2.2.2.2.2.2.2.2.2.2.2.2.2.2.2.1
theorem mo_32 {F : List Value} (h : MF F) : F[32]? = some (.ref 164) := h.2.2.2.2.2.2.2.2.2.2.2.2.2.2.2.2.2.2.1
theorem mo_34 {F : List Value} (h : MF F) : F[34]? = some (.ref 165) := h.2.2.2.2.2.2.2.2.2.2.2.2.2.2.2.2.2.2.2.1
theorem mo_35 {F : List Value} (h : MF F) : F[35]? = some (.ref 166) := h.2.2.2.2.2.2.2.2.2.2.2.2.2.2.2.2.2.2.2.2.1
theorem mo_36 {F : List Value} (h : MF F) : F[36]? = some (.ref 167) := h.2.2.2.2.2.2.2.2.2.2.2.2.2.2.2.2.2.2.2.2.2.1
theorem mo_37 {F : List Value} (h : MF F) : F[37]? = some (.ref 168) := h.2.2.2.2.2.2.2.2.2.2.2.2.2.2.2.2.2.2.2.2.2.2.1
theorem mo_38 {F : List Value} (h : MF F) : F[38]? = some (.ref 169) := h.2.2.2.2.2.2.2.2.2.2.2.2.2.2.2.2.2.2.2.2.2.2.2.1
theorem mo_39 {F : List Value} (h : MF F) : F[39]? = some (.ref 170) := h.2.2.2.2.2.2.2.2.2.2.2.2.2.2.2.2.2.2.2.2.2.2.2.2.1
theorem mo_42 {F : List Value} (h : MF F) : F[42]? = some (.ref 171) := h.2.2.2.2.2.2.2.2.2.2.2.2.2.2.2.2.2.2.2.2.2.2.2.2.2.1
theorem mo_43 {F : List Value} (h : MF F) : F[43]? = some (.ref 172) := h.2.2.2.2.2.2.2.2.2.2.2.2.2.2.2.2.2.2.2.2.2.2.2.2.2.2.1
theorem mo_44 {F : List Value} (h : MF F) : F[44]? = some (.ref 173) := h.2.2.2.2.2.2.2.2.2.2.2.2.2.2.2.2.2.2.2.2.2.2.2.2.2.2.2.1
theorem mo_45 {F : List Value} (h : MF F) : F[45]? = some (.ref 174) := h.2.2.2.2.2.2.2.2.2.2.2.2.2.2.2.2.2.2.2.2.2.2.2.2.2.2.2.2
theorem mf_set {F : List Value} (h : MF F) (k : Nat) (v : Value) (hk : k ∈ ([1, 2, 8, 9, 10, 11, 12, 13, 14, 16, 18, 21, 22, 26, 30, 33, 40, 41] : List Nat)) : MF (F.set k v) := by
  have e : ∀ j ∈ ([0, 3, 4, 5, 6, 7, 15, 17, 19, 20, 23, 24, 25, 27, 28, 29, 31, 32, 34, 35, 36, 37, 38, 39, 42, 43, 44, 45] : List Nat), (F.set k v)[j]? = F[j]? := by
    intro j hj
    refine List.getElem?_set_ne ?_
    rintro rfl
    exact absurd (by decide : ∀ j ∈ ([1, 2, 8, 9, 10, 11, 12, 13, 14, 16, 18, 21, 22, 26, 30, 33, 40, 41] : List Nat), j ∉ ([0, 3, 4, 5, 6, 7, 15, 17, 19, 20, 23, 24, 25, 27, 28, 29, 31, 32, 34, 35, 36, 37, 38, 39, 42, 43, 44, 45] : List Nat)) (fun q => q _ hk hj)
  exact ⟨by rw [List.length_set]; exact h.1, (e 0 (by decide)).trans (mo_0 h), (e 3 (by decide)).trans (mo_3 h), (e 4 (by decide)).trans (mo_4 h), (e 5 (by decide)).trans (mo_5 h), (e 6 (by decide)).trans (mo_6 h), (e 7 (by decide)).trans (mo_7 h), (e 15 (by decide)).trans (mo_15 h), (e 17 (by decide)).trans (mo_17 h), (e 19 (by decide)).trans (mo_19 h), (e 20 (by decide)).trans (mo_20 h), (e 23 (by decide)).trans (mo_23 h), (e 24 (by decide)).trans (mo_24 h), (e 25 (by decide)).trans (mo_25 h), (e 27 (by decide)).trans (mo_27 h), (e 28 (by decide)).trans (mo_28 h), (e 29 (by decide)).trans (mo_29 h), (e 31 (by decide)).trans (mo_31 h), (e 32 (by decide)).trans (mo_32 h), (e 34 (by decide)).trans (mo_34 h), (e 35 (by decide)).trans (mo_35 h), (e 36 (by decide)).trans (mo_36 h), (e 37 (by decide)).trans (mo_37 h), (e 38 (by decide)).trans (mo_38 h), (e 39 (by decide)).trans (mo_39 h), (e 42 (by decide)).trans (mo_42 h), (e 43 (by decide)).trans (mo_43 h), (e 44 (by decide)).trans (mo_44 h), (e 45 (by decide)).trans (mo_45 h)⟩

theorem tB_t {p : Prop} [Decidable p] (h : p) : tB p = 1 := if_pos h
theorem tB_f {p : Prop} [Decidable p] (h : ¬ p) : tB p = 0 := if_neg h
theorem tB_c {p q : Prop} [Decidable p] [Decidable q] (h : p ↔ q) : tB p = tB q := by
  by_cases hp : p
  · rw [tB_t hp, tB_t (h.mp hp)]
  · rw [tB_f hp, tB_f (fun hq => hp (h.mpr hq))]
set_option maxRecDepth 100000 in
theorem rf_isRule {d : Nat} {w : pm_H} {F : List Value} (hM : w[146]? = some (0, 12, F)) (hF : MF F) {n : Nat} (h2 : F[2]? = some (.int (nI n))) (n6 : n ≤ 6) (c : Int32) : wp d 185 0 (lv_args 0 [.ref 146, .int c]) [] w (fun r w1 => r = some (.int (tB (0 ≤ c.toInt ∧ c.toInt < n))) ∧ w = w1) := by
  show wp _ 185 0 [(0, .ref 146), (1, .int c)] [] w _
  refine wp_g 1 (pc1 := 1) (lv1 := [(0, .ref 146), (1, .int c)]) (st1 := [.int c]) (w1 := w) rfl ?_
  refine wp_ifc (cnd := .lt) (o := 15) (ln := 3) (a := 16) (b := 0) (z := 0) (by decide +kernel) (fun h1 => ?_) (fun h1 => ?_)
  · have h1 := of_decide_eq_true h1
    refine wp_g 1 (pc1 := 17) (lv1 := [(0, .ref 146), (1, .int c)]) (st1 := [.int 0]) (w1 := w) rfl ?_
    refine wp_rt (i := .ireturn) (r := some (.int 0)) (ln := 1) (a := 0) (b := 0) (z := 0) (by decide +kernel) rfl (ret_b (by decide +kernel) (Or.inl rfl)) ?_
    have jh1 := i3_ltt h1
    simp only [show ((0 : Int32)).toInt = 0 by decide] at jh1
    exact ⟨congrArg (fun v => some (Value.int v)) (tB_f (by omega)).symm, rfl⟩
  · have h1 := of_decide_eq_false h1
    refine wp_g 2 (pc1 := 6) (lv1 := [(0, .ref 146), (1, .int c)]) (st1 := [.ref 146, .int c]) (w1 := w) rfl ?_
    refine wp_get (kf := 274) (ln := 3) (a := 12) (b := 2) (z := 0) (by decide +kernel) hM h2 ?_
    refine wp_icm (cnd := .ge) (o := 7) (ln := 3) (a := 16) (b := 0) (z := 0) (by decide +kernel) (fun h2 => ?_) (fun h2 => ?_)
    · have h2 := of_decide_eq_true h2
      refine wp_g 1 (pc1 := 17) (lv1 := [(0, .ref 146), (1, .int c)]) (st1 := [.int 0]) (w1 := w) rfl ?_
      refine wp_rt (i := .ireturn) (r := some (.int 0)) (ln := 1) (a := 0) (b := 0) (z := 0) (by decide +kernel) rfl (ret_b (by decide +kernel) (Or.inl rfl)) ?_
      have jh1 := i3_ltf h1
      have jh2 := i3_get h2
      simp only [show ((0 : Int32)).toInt = 0 by decide, show (nI n).toInt = ((n : Nat) : Int) from nI_toInt (by omega)] at jh1 jh2
      exact ⟨congrArg (fun v => some (Value.int v)) (tB_f (by omega)).symm, rfl⟩
    · have h2 := of_decide_eq_false h2
      refine wp_g 2 (pc1 := 17) (lv1 := [(0, .ref 146), (1, .int c)]) (st1 := [.int 1]) (w1 := w) rfl ?_
      refine wp_rt (i := .ireturn) (r := some (.int 1)) (ln := 1) (a := 0) (b := 0) (z := 0) (by decide +kernel) rfl (ret_b (by decide +kernel) (Or.inr rfl)) ?_
      have jh1 := i3_ltf h1
      have jh2 := i3_gef h2
      simp only [show ((0 : Int32)).toInt = 0 by decide, show (nI n).toInt = ((n : Nat) : Int) from nI_toInt (by omega)] at jh1 jh2
      exact ⟨congrArg (fun v => some (Value.int v)) (tB_t (by omega)).symm, rfl⟩
set_option maxRecDepth 100000 in
theorem rf_isCell {d : Nat} {w : pm_H} {F : List Value} (hM : w[146]? = some (0, 12, F)) (hF : MF F) {f : Nat → Int32} {m : Nat} (hs : w[156]? = some (1, 0, ar 130 f)) (hm : f 0 = nI m) (m8 : m ≤ 8) (c : Int32) : wp d 191 0 (lv_args 0 [.ref 146, .int c]) [] w (fun r w1 => r = some (.int (tB (0 ≤ c.toInt ∧ c.toInt < m))) ∧ w = w1) := by
  show wp _ 191 0 [(0, .ref 146), (1, .int c)] [] w _
  refine wp_g 1 (pc1 := 1) (lv1 := [(0, .ref 146), (1, .int c)]) (st1 := [.int c]) (w1 := w) rfl ?_
  refine wp_ifc (cnd := .lt) (o := 17) (ln := 3) (a := 18) (b := 0) (z := 0) (by decide +kernel) (fun h1 => ?_) (fun h1 => ?_)
  · have h1 := of_decide_eq_true h1
    refine wp_g 1 (pc1 := 19) (lv1 := [(0, .ref 146), (1, .int c)]) (st1 := [.int 0]) (w1 := w) rfl ?_
    refine wp_rt (i := .ireturn) (r := some (.int 0)) (ln := 1) (a := 0) (b := 0) (z := 0) (by decide +kernel) rfl (ret_b (by decide +kernel) (Or.inl rfl)) ?_
    have jh1 := i3_ltt h1
    simp only [show ((0 : Int32)).toInt = 0 by decide] at jh1
    exact ⟨congrArg (fun v => some (Value.int v)) (tB_f (by omega)).symm, rfl⟩
  · have h1 := of_decide_eq_false h1
    refine wp_g 2 (pc1 := 6) (lv1 := [(0, .ref 146), (1, .int c)]) (st1 := [.ref 146, .int c]) (w1 := w) rfl ?_
    refine wp_get (kf := 39) (ln := 3) (a := 12) (b := 20) (z := 0) (by decide +kernel) hM (mo_20 hF) ?_
    refine wp_g 1 (pc1 := 10) (lv1 := [(0, .ref 146), (1, .int c)]) (st1 := [.int 0, .ref 156, .int c]) (w1 := w) rfl ?_
    refine wp_ia (i := 0) (ln := 1) (a := 0) (b := 0) (z := 0) (by decide +kernel) hs (by omega) (by decide) ?_
    rw [hm]
    refine wp_icm (cnd := .ge) (o := 7) (ln := 3) (a := 18) (b := 0) (z := 0) (by decide +kernel) (fun h2 => ?_) (fun h2 => ?_)
    · have h2 := of_decide_eq_true h2
      refine wp_g 1 (pc1 := 19) (lv1 := [(0, .ref 146), (1, .int c)]) (st1 := [.int 0]) (w1 := w) rfl ?_
      refine wp_rt (i := .ireturn) (r := some (.int 0)) (ln := 1) (a := 0) (b := 0) (z := 0) (by decide +kernel) rfl (ret_b (by decide +kernel) (Or.inl rfl)) ?_
      have jh1 := i3_ltf h1
      have jh2 := i3_get h2
      simp only [show ((0 : Int32)).toInt = 0 by decide, show (nI m).toInt = ((m : Nat) : Int) from nI_toInt (by omega)] at jh1 jh2
      exact ⟨congrArg (fun v => some (Value.int v)) (tB_f (by omega)).symm, rfl⟩
    · have h2 := of_decide_eq_false h2
      refine wp_g 2 (pc1 := 19) (lv1 := [(0, .ref 146), (1, .int c)]) (st1 := [.int 1]) (w1 := w) rfl ?_
      refine wp_rt (i := .ireturn) (r := some (.int 1)) (ln := 1) (a := 0) (b := 0) (z := 0) (by decide +kernel) rfl (ret_b (by decide +kernel) (Or.inr rfl)) ?_
      have jh1 := i3_ltf h1
      have jh2 := i3_gef h2
      simp only [show ((0 : Int32)).toInt = 0 by decide, show (nI m).toInt = ((m : Nat) : Int) from nI_toInt (by omega)] at jh1 jh2
      exact ⟨congrArg (fun v => some (Value.int v)) (tB_t (by omega)).symm, rfl⟩
set_option maxRecDepth 100000 in
theorem rf_isCloth {d : Nat} {w : pm_H} {F : List Value} (hM : w[146]? = some (0, 12, F)) (hF : MF F) {f : Nat → Int32} {m : Nat} (hs : w[156]? = some (1, 0, ar 130 f)) (hm : f 0 = nI m) (m8 : m ≤ 8) : wp d 190 0 (lv_args 0 [.ref 146]) [] w (fun r w1 => r = some (.int (tB (0 < m))) ∧ w = w1) := by
  show wp _ 190 0 [(0, .ref 146)] [] w _
  refine wp_g 1 (pc1 := 1) (lv1 := [(0, .ref 146)]) (st1 := [.ref 146]) (w1 := w) rfl ?_
  refine wp_get (kf := 39) (ln := 3) (a := 12) (b := 20) (z := 0) (by decide +kernel) hM (mo_20 hF) ?_
  refine wp_g 1 (pc1 := 5) (lv1 := [(0, .ref 146)]) (st1 := [.int 0, .ref 156]) (w1 := w) rfl ?_
  refine wp_ia (i := 0) (ln := 1) (a := 0) (b := 0) (z := 0) (by decide +kernel) hs (by omega) (by decide) ?_
  rw [hm]
  refine wp_ifn (cnd := .le) (o := 7) (x := m) (ln := 3) (a := 13) (b := 0) (z := 0) (by decide +kernel) (by omega) (fun h1 => ?_) (fun h1 => ?_)
  · have h1 : m ≤ 0 := h1
    refine wp_g 1 (pc1 := 14) (lv1 := [(0, .ref 146)]) (st1 := [.int 0]) (w1 := w) rfl ?_
    refine wp_rt (i := .ireturn) (r := some (.int 0)) (ln := 1) (a := 0) (b := 0) (z := 0) (by decide +kernel) rfl (ret_b (by decide +kernel) (Or.inl rfl)) ?_
    exact ⟨congrArg (fun v => some (Value.int v)) (tB_f (by omega)).symm, rfl⟩
  · have h1 : ¬ (m ≤ 0) := h1
    refine wp_g 2 (pc1 := 14) (lv1 := [(0, .ref 146)]) (st1 := [.int 1]) (w1 := w) rfl ?_
    refine wp_rt (i := .ireturn) (r := some (.int 1)) (ln := 1) (a := 0) (b := 0) (z := 0) (by decide +kernel) rfl (ret_b (by decide +kernel) (Or.inr rfl)) ?_
    exact ⟨congrArg (fun v => some (Value.int v)) (tB_t (by omega)).symm, rfl⟩
set_option maxRecDepth 100000 in
theorem rf_isPerson {d : Nat} {w : pm_H} {F : List Value} (hM : w[146]? = some (0, 12, F)) (hF : MF F) {f : Nat → Int32} {p : Nat} (hs : w[156]? = some (1, 0, ar 130 f)) (hp : f 1 = nI p) (p4 : p ≤ 4) (c : Int32) : wp d 193 0 (lv_args 0 [.ref 146, .int c]) [] w (fun r w1 => r = some (.int (tB (0 ≤ c.toInt ∧ c.toInt < p))) ∧ w = w1) := by
  show wp _ 193 0 [(0, .ref 146), (1, .int c)] [] w _
  refine wp_g 1 (pc1 := 1) (lv1 := [(0, .ref 146), (1, .int c)]) (st1 := [.int c]) (w1 := w) rfl ?_
  refine wp_ifc (cnd := .lt) (o := 17) (ln := 3) (a := 18) (b := 0) (z := 0) (by decide +kernel) (fun h1 => ?_) (fun h1 => ?_)
  · have h1 := of_decide_eq_true h1
    refine wp_g 1 (pc1 := 19) (lv1 := [(0, .ref 146), (1, .int c)]) (st1 := [.int 0]) (w1 := w) rfl ?_
    refine wp_rt (i := .ireturn) (r := some (.int 0)) (ln := 1) (a := 0) (b := 0) (z := 0) (by decide +kernel) rfl (ret_b (by decide +kernel) (Or.inl rfl)) ?_
    have jh1 := i3_ltt h1
    simp only [show ((0 : Int32)).toInt = 0 by decide] at jh1
    exact ⟨congrArg (fun v => some (Value.int v)) (tB_f (by omega)).symm, rfl⟩
  · have h1 := of_decide_eq_false h1
    refine wp_g 2 (pc1 := 6) (lv1 := [(0, .ref 146), (1, .int c)]) (st1 := [.ref 146, .int c]) (w1 := w) rfl ?_
    refine wp_get (kf := 39) (ln := 3) (a := 12) (b := 20) (z := 0) (by decide +kernel) hM (mo_20 hF) ?_
    refine wp_g 1 (pc1 := 10) (lv1 := [(0, .ref 146), (1, .int c)]) (st1 := [.int 1, .ref 156, .int c]) (w1 := w) rfl ?_
    refine wp_ia (i := 1) (ln := 1) (a := 0) (b := 0) (z := 0) (by decide +kernel) hs (by omega) (by decide) ?_
    rw [hp]
    refine wp_icm (cnd := .ge) (o := 7) (ln := 3) (a := 18) (b := 0) (z := 0) (by decide +kernel) (fun h2 => ?_) (fun h2 => ?_)
    · have h2 := of_decide_eq_true h2
      refine wp_g 1 (pc1 := 19) (lv1 := [(0, .ref 146), (1, .int c)]) (st1 := [.int 0]) (w1 := w) rfl ?_
      refine wp_rt (i := .ireturn) (r := some (.int 0)) (ln := 1) (a := 0) (b := 0) (z := 0) (by decide +kernel) rfl (ret_b (by decide +kernel) (Or.inl rfl)) ?_
      have jh1 := i3_ltf h1
      have jh2 := i3_get h2
      simp only [show ((0 : Int32)).toInt = 0 by decide, show (nI p).toInt = ((p : Nat) : Int) from nI_toInt (by omega)] at jh1 jh2
      exact ⟨congrArg (fun v => some (Value.int v)) (tB_f (by omega)).symm, rfl⟩
    · have h2 := of_decide_eq_false h2
      refine wp_g 2 (pc1 := 19) (lv1 := [(0, .ref 146), (1, .int c)]) (st1 := [.int 1]) (w1 := w) rfl ?_
      refine wp_rt (i := .ireturn) (r := some (.int 1)) (ln := 1) (a := 0) (b := 0) (z := 0) (by decide +kernel) rfl (ret_b (by decide +kernel) (Or.inr rfl)) ?_
      have jh1 := i3_ltf h1
      have jh2 := i3_gef h2
      simp only [show ((0 : Int32)).toInt = 0 by decide, show (nI p).toInt = ((p : Nat) : Int) from nI_toInt (by omega)] at jh1 jh2
      exact ⟨congrArg (fun v => some (Value.int v)) (tB_t (by omega)).symm, rfl⟩
set_option maxRecDepth 100000 in
theorem rf_cellOf {d : Nat} {w : pm_H} {F : List Value} (hM : w[146]? = some (0, 12, F)) (hF : MF F) {f : Nat → Int32} (hs : w[156]? = some (1, 0, ar 130 f)) {c t : Nat} (hc : c < 8) (ht : t < 4) : wp d 194 0 (lv_args 0 [.ref 146, .int (nI c), .int (nI t)]) [] w (fun r w1 => r = some (.int (f (12 + 4 * c + t))) ∧ w = w1) := by
  show wp _ 194 0 [(0, .ref 146), (1, .int (nI c)), (2, .int (nI t))] [] w _
  refine wp_g 1 (pc1 := 1) (lv1 := [(0, .ref 146), (1, .int (nI c)), (2, .int (nI t))]) (st1 := [.ref 146]) (w1 := w) rfl ?_
  refine wp_get (kf := 39) (ln := 3) (a := 12) (b := 20) (z := 0) (by decide +kernel) hM (mo_20 hF) ?_
  refine wp_g 4 (pc1 := 9) (lv1 := [(0, .ref 146), (1, .int (nI c)), (2, .int (nI t))]) (st1 := [.int (4 * (nI c)), .int 12, .ref 156]) (w1 := w) rfl ?_
  refine wp_top (show 4 * (nI c) = nI (4 * c) from nx_mul (rfl : (4 : Int32) = nI 4) (rfl : nI c = nI c)) ?_
  refine wp_g 1 (pc1 := 10) (lv1 := [(0, .ref 146), (1, .int (nI c)), (2, .int (nI t))]) (st1 := [.int (12 + (nI (4 * c))), .ref 156]) (w1 := w) rfl ?_
  refine wp_top (show 12 + (nI (4 * c)) = nI (12 + (4 * c)) from nx_add (rfl : (12 : Int32) = nI 12) (rfl : nI (4 * c) = nI (4 * c))) ?_
  refine wp_g 2 (pc1 := 12) (lv1 := [(0, .ref 146), (1, .int (nI c)), (2, .int (nI t))]) (st1 := [.int ((nI (12 + (4 * c))) + (nI t)), .ref 156]) (w1 := w) rfl ?_
  refine wp_top (show (nI (12 + (4 * c))) + (nI t) = nI ((12 + (4 * c)) + t) from nx_add (rfl : nI (12 + (4 * c)) = nI (12 + (4 * c))) (rfl : nI t = nI t)) ?_
  refine wp_ia (i := (12 + (4 * c)) + t) (ln := 1) (a := 0) (b := 0) (z := 0) (by decide +kernel) hs (by omega) (by decide) ?_
  refine wp_rt (i := .ireturn) (r := some (.int (f ((12 + (4 * c)) + t)))) (ln := 1) (a := 0) (b := 0) (z := 0) (by decide +kernel) rfl (ret_ok (by decide +kernel)) ?_
  exact ⟨rfl, rfl⟩
/-- how many cells from i on, g of them, lie at a place -/
def ctg (f : Nat → Int32) (p : Int32) : Nat → Nat → Nat
  | _, 0 => 0
  | i, g + 1 => (if f (12 + 4 * i + 0) = p then 1 else 0) + ctg f p (i + 1) g
/-- the set of cells of a person -/
def csg (f : Nat → Int32) (p : Int32) : Int32 → Nat → Nat → Int32
  | a, _, 0 => a
  | a, i, g + 1 => csg f p (a ||| (if f (12 + 4 * i + 3) = p then 1 <<< (nI i &&& 31) else 0)) (i + 1) g
set_option maxRecDepth 100000 in
theorem rf_thickAt_l {d : Nat} {w : pm_H} {F : List Value} (hM : w[146]? = some (0, 12, F)) (hF : MF F) {f : Nat → Int32} {m : Nat} (hs : w[156]? = some (1, 0, ar 130 f)) (hm : f 0 = nI m) (m8 : m ≤ 8) (p : Int32) : ∀ (g i n : Nat) (_ : i + g = m), wp (d + 1) 195 4 [(3, .int (nI i)), (2, .int (nI n)), (0, .ref 146), (1, .int p)] [] w (fun r w1 => r = some (.int (nI (n + ctg f p i g))) ∧ w = w1) := by
  intro g
  induction g with
  | zero =>
    intro i n hi
    refine wp_g 2 (pc1 := 6) (lv1 := [(3, .int (nI i)), (2, .int (nI n)), (0, .ref 146), (1, .int p)]) (st1 := [.ref 146, .int (nI i)]) (w1 := w) rfl ?_
    refine wp_get (kf := 39) (ln := 3) (a := 12) (b := 20) (z := 0) (by decide +kernel) hM (mo_20 hF) ?_
    refine wp_g 1 (pc1 := 10) (lv1 := [(3, .int (nI i)), (2, .int (nI n)), (0, .ref 146), (1, .int p)]) (st1 := [.int 0, .ref 156, .int (nI i)]) (w1 := w) rfl ?_
    refine wp_ia (i := 0) (ln := 1) (a := 0) (b := 0) (z := 0) (by decide +kernel) hs (by omega) (by decide) ?_
    rw [hm]
    refine wp_icn (cnd := .ge) (o := 27) (x := i) (y := m) (ln := 3) (a := 38) (b := 0) (z := 0) (by decide +kernel) (by omega) (by omega) (fun h1 => ?_) (fun h1 => ?_)
    · have h1 : i ≥ m := h1
      refine wp_g 1 (pc1 := 39) (lv1 := [(3, .int (nI i)), (2, .int (nI n)), (0, .ref 146), (1, .int p)]) (st1 := [.int (nI n)]) (w1 := w) rfl ?_
      refine wp_rt (i := .ireturn) (r := some (.int (nI n))) (ln := 1) (a := 0) (b := 0) (z := 0) (by decide +kernel) rfl (ret_ok (by decide +kernel)) ?_
      exact ⟨by rw [show ctg f p i 0 = 0 from rfl, Nat.add_zero], rfl⟩
    · have h1 : ¬ (i ≥ m) := h1
      exfalso
      omega
  | succ g ih =>
    intro i n hi
    refine wp_g 2 (pc1 := 6) (lv1 := [(3, .int (nI i)), (2, .int (nI n)), (0, .ref 146), (1, .int p)]) (st1 := [.ref 146, .int (nI i)]) (w1 := w) rfl ?_
    refine wp_get (kf := 39) (ln := 3) (a := 12) (b := 20) (z := 0) (by decide +kernel) hM (mo_20 hF) ?_
    refine wp_g 1 (pc1 := 10) (lv1 := [(3, .int (nI i)), (2, .int (nI n)), (0, .ref 146), (1, .int p)]) (st1 := [.int 0, .ref 156, .int (nI i)]) (w1 := w) rfl ?_
    refine wp_ia (i := 0) (ln := 1) (a := 0) (b := 0) (z := 0) (by decide +kernel) hs (by omega) (by decide) ?_
    rw [hm]
    refine wp_icn (cnd := .ge) (o := 27) (x := i) (y := m) (ln := 3) (a := 38) (b := 0) (z := 0) (by decide +kernel) (by omega) (by omega) (fun h1 => ?_) (fun h1 => ?_)
    · have h1 : i ≥ m := h1
      exfalso
      omega
    · have h1 : ¬ (i ≥ m) := h1
      refine wp_g 4 (pc1 := 18) (lv1 := [(3, .int (nI i)), (2, .int (nI n)), (0, .ref 146), (1, .int p)]) (st1 := [.int 0, .int (nI i), .ref 146, .int (nI n)]) (w1 := w) rfl ?_
      refine wp_cc [.ref 146, .int (nI i), .int 0] [.int (nI n)] (i := .invokevirtual 304) (ln := 3) (a := 194) (b := 0) (z := 0) (by decide +kernel) rfl rfl (by decide) rfl (show (3 : Nat) = pm_na 194 by decide +kernel) (Nat.le_of_ble_eq_true rfl) (show (3 : Nat) ≤ pm_n 194 by decide +kernel) (rcv_ok hM (by decide +kernel)) (rf_cellOf hM hF hs (c := i) (t := 0) (by omega) (by omega)) (fun r2 w3 hq => ?_)
      obtain ⟨rfl, rfl⟩ := hq
      show wp _ 195 21 [(3, .int (nI i)), (2, .int (nI n)), (0, .ref 146), (1, .int p)] [.int (f (12 + 4 * i + 0)), .int (nI n)] w _
      refine wp_g 1 (pc1 := 22) (lv1 := [(3, .int (nI i)), (2, .int (nI n)), (0, .ref 146), (1, .int p)]) (st1 := [.int p, .int (f (12 + 4 * i + 0)), .int (nI n)]) (w1 := w) rfl ?_
      refine wp_icm (cnd := .ne) (o := 7) (ln := 3) (a := 29) (b := 0) (z := 0) (by decide +kernel) (fun h4 => ?_) (fun h4 => ?_)
      · have h4 := of_decide_eq_true h4
        refine wp_g 2 (pc1 := 31) (lv1 := [(3, .int (nI i)), (2, .int (nI n)), (0, .ref 146), (1, .int p)]) (st1 := [.int ((nI n) + 0)]) (w1 := w) rfl ?_
        refine wp_top (show (nI n) + 0 = nI (n + 0) from nx_add (rfl : nI n = nI n) (rfl : (0 : Int32) = nI 0)) ?_
        refine wp_g 2 (pc1 := 35) (lv1 := [(3, .int (nI i + 1)), (2, .int (nI (n + 0))), (0, .ref 146), (1, .int p)]) (st1 := []) (w1 := w) rfl ?_
        rw [show nI i + 1 = nI (i + 1) from nx_add rfl rfl]
        refine wp_g 1 (pc1 := 4) (lv1 := [(3, .int (nI (i + 1))), (2, .int (nI (n + 0))), (0, .ref 146), (1, .int p)]) (st1 := []) (w1 := w) rfl ?_
        refine wp_mono (ih (i + 1) (n + 0) (by omega)) (fun r w1 hq => ?_)
        obtain ⟨rfl, rfl⟩ := hq
        refine ⟨?_, rfl⟩
        rw [show ctg f p i (g + 1) = (if f (12 + 4 * i + 0) = p then 1 else 0) + ctg f p (i + 1) g from rfl]
        rw [if_neg h4]
        refine congrArg (fun t => some (Value.int (nI t))) ?_
        omega
      · have h4 := of_decide_eq_false h4
        refine wp_g 3 (pc1 := 31) (lv1 := [(3, .int (nI i)), (2, .int (nI n)), (0, .ref 146), (1, .int p)]) (st1 := [.int ((nI n) + 1)]) (w1 := w) rfl ?_
        refine wp_top (show (nI n) + 1 = nI (n + 1) from nx_add (rfl : nI n = nI n) (rfl : (1 : Int32) = nI 1)) ?_
        refine wp_g 2 (pc1 := 35) (lv1 := [(3, .int (nI i + 1)), (2, .int (nI (n + 1))), (0, .ref 146), (1, .int p)]) (st1 := []) (w1 := w) rfl ?_
        rw [show nI i + 1 = nI (i + 1) from nx_add rfl rfl]
        refine wp_g 1 (pc1 := 4) (lv1 := [(3, .int (nI (i + 1))), (2, .int (nI (n + 1))), (0, .ref 146), (1, .int p)]) (st1 := []) (w1 := w) rfl ?_
        refine wp_mono (ih (i + 1) (n + 1) (by omega)) (fun r w1 hq => ?_)
        obtain ⟨rfl, rfl⟩ := hq
        refine ⟨?_, rfl⟩
        rw [show ctg f p i (g + 1) = (if f (12 + 4 * i + 0) = p then 1 else 0) + ctg f p (i + 1) g from rfl]
        rw [if_pos (Classical.not_not.mp h4)]
        refine congrArg (fun t => some (Value.int (nI t))) ?_
        omega
set_option maxRecDepth 100000 in
theorem rf_thickAt {d : Nat} {w : pm_H} {F : List Value} (hM : w[146]? = some (0, 12, F)) (hF : MF F) {f : Nat → Int32} {m : Nat} (hs : w[156]? = some (1, 0, ar 130 f)) (hm : f 0 = nI m) (m8 : m ≤ 8) (p : Int32) : wp (d + 1) 195 0 (lv_args 0 [.ref 146, .int p]) [] w (fun r w1 => r = some (.int (nI (ctg f p 0 m))) ∧ w = w1) := by
  show wp _ 195 0 [(0, .ref 146), (1, .int p)] [] w _
  refine wp_g 4 (pc1 := 4) (lv1 := [(3, .int 0), (2, .int 0), (0, .ref 146), (1, .int p)]) (st1 := []) (w1 := w) rfl ?_
  exact wp_mono (rf_thickAt_l hM hF hs hm m8 p m 0 0 (by omega)) (fun r w1 hq => by rw [Nat.zero_add] at hq; exact hq)
set_option maxRecDepth 100000 in
theorem rf_cellsOf_l {d : Nat} {w : pm_H} {F : List Value} (hM : w[146]? = some (0, 12, F)) (hF : MF F) {f : Nat → Int32} {m : Nat} (hs : w[156]? = some (1, 0, ar 130 f)) (hm : f 0 = nI m) (m8 : m ≤ 8) (p : Int32) : ∀ (g i : Nat) (n : Int32) (_ : i + g = m), wp (d + 1) 198 4 [(3, .int (nI i)), (2, .int n), (0, .ref 146), (1, .int p)] [] w (fun r w1 => r = some (.int (csg f p n i g)) ∧ w = w1) := by
  intro g
  induction g with
  | zero =>
    intro i n hi
    refine wp_g 2 (pc1 := 6) (lv1 := [(3, .int (nI i)), (2, .int n), (0, .ref 146), (1, .int p)]) (st1 := [.ref 146, .int (nI i)]) (w1 := w) rfl ?_
    refine wp_get (kf := 39) (ln := 3) (a := 12) (b := 20) (z := 0) (by decide +kernel) hM (mo_20 hF) ?_
    refine wp_g 1 (pc1 := 10) (lv1 := [(3, .int (nI i)), (2, .int n), (0, .ref 146), (1, .int p)]) (st1 := [.int 0, .ref 156, .int (nI i)]) (w1 := w) rfl ?_
    refine wp_ia (i := 0) (ln := 1) (a := 0) (b := 0) (z := 0) (by decide +kernel) hs (by omega) (by decide) ?_
    rw [hm]
    refine wp_icn (cnd := .ge) (o := 29) (x := i) (y := m) (ln := 3) (a := 40) (b := 0) (z := 0) (by decide +kernel) (by omega) (by omega) (fun h1 => ?_) (fun h1 => ?_)
    · have h1 : i ≥ m := h1
      refine wp_g 1 (pc1 := 41) (lv1 := [(3, .int (nI i)), (2, .int n), (0, .ref 146), (1, .int p)]) (st1 := [.int n]) (w1 := w) rfl ?_
      refine wp_rt (i := .ireturn) (r := some (.int n)) (ln := 1) (a := 0) (b := 0) (z := 0) (by decide +kernel) rfl (ret_ok (by decide +kernel)) ?_
      exact ⟨rfl, rfl⟩
    · have h1 : ¬ (i ≥ m) := h1
      exfalso
      omega
  | succ g ih =>
    intro i n hi
    refine wp_g 2 (pc1 := 6) (lv1 := [(3, .int (nI i)), (2, .int n), (0, .ref 146), (1, .int p)]) (st1 := [.ref 146, .int (nI i)]) (w1 := w) rfl ?_
    refine wp_get (kf := 39) (ln := 3) (a := 12) (b := 20) (z := 0) (by decide +kernel) hM (mo_20 hF) ?_
    refine wp_g 1 (pc1 := 10) (lv1 := [(3, .int (nI i)), (2, .int n), (0, .ref 146), (1, .int p)]) (st1 := [.int 0, .ref 156, .int (nI i)]) (w1 := w) rfl ?_
    refine wp_ia (i := 0) (ln := 1) (a := 0) (b := 0) (z := 0) (by decide +kernel) hs (by omega) (by decide) ?_
    rw [hm]
    refine wp_icn (cnd := .ge) (o := 29) (x := i) (y := m) (ln := 3) (a := 40) (b := 0) (z := 0) (by decide +kernel) (by omega) (by omega) (fun h1 => ?_) (fun h1 => ?_)
    · have h1 : i ≥ m := h1
      exfalso
      omega
    · have h1 : ¬ (i ≥ m) := h1
      refine wp_g 4 (pc1 := 18) (lv1 := [(3, .int (nI i)), (2, .int n), (0, .ref 146), (1, .int p)]) (st1 := [.int 3, .int (nI i), .ref 146, .int n]) (w1 := w) rfl ?_
      refine wp_cc [.ref 146, .int (nI i), .int 3] [.int n] (i := .invokevirtual 304) (ln := 3) (a := 194) (b := 0) (z := 0) (by decide +kernel) rfl rfl (by decide) rfl (show (3 : Nat) = pm_na 194 by decide +kernel) (Nat.le_of_ble_eq_true rfl) (show (3 : Nat) ≤ pm_n 194 by decide +kernel) (rcv_ok hM (by decide +kernel)) (rf_cellOf hM hF hs (c := i) (t := 3) (by omega) (by omega)) (fun r2 w3 hq => ?_)
      obtain ⟨rfl, rfl⟩ := hq
      show wp _ 198 21 [(3, .int (nI i)), (2, .int n), (0, .ref 146), (1, .int p)] [.int (f (12 + 4 * i + 3)), .int n] w _
      refine wp_g 1 (pc1 := 22) (lv1 := [(3, .int (nI i)), (2, .int n), (0, .ref 146), (1, .int p)]) (st1 := [.int p, .int (f (12 + 4 * i + 3)), .int n]) (w1 := w) rfl ?_
      refine wp_icm (cnd := .ne) (o := 9) (ln := 3) (a := 31) (b := 0) (z := 0) (by decide +kernel) (fun h4 => ?_) (fun h4 => ?_)
      · have h4 := of_decide_eq_true h4
        refine wp_g 4 (pc1 := 37) (lv1 := [(3, .int (nI i + 1)), (2, .int (n ||| 0)), (0, .ref 146), (1, .int p)]) (st1 := []) (w1 := w) rfl ?_
        rw [show nI i + 1 = nI (i + 1) from nx_add rfl rfl]
        refine wp_g 1 (pc1 := 4) (lv1 := [(3, .int (nI (i + 1))), (2, .int (n ||| 0)), (0, .ref 146), (1, .int p)]) (st1 := []) (w1 := w) rfl ?_
        refine wp_mono (ih (i + 1) (n ||| 0) (by omega)) (fun r w1 hq => ?_)
        obtain ⟨rfl, rfl⟩ := hq
        refine ⟨?_, rfl⟩
        rw [show csg f p n i (g + 1) = csg f p (n ||| (if f (12 + 4 * i + 3) = p then 1 <<< (nI i &&& 31) else 0)) (i + 1) g from rfl]
        rw [if_neg h4]
      · have h4 := of_decide_eq_false h4
        refine wp_g 7 (pc1 := 37) (lv1 := [(3, .int (nI i + 1)), (2, .int (n ||| (1 <<< ((nI i) &&& 31)))), (0, .ref 146), (1, .int p)]) (st1 := []) (w1 := w) rfl ?_
        rw [show nI i + 1 = nI (i + 1) from nx_add rfl rfl]
        refine wp_g 1 (pc1 := 4) (lv1 := [(3, .int (nI (i + 1))), (2, .int (n ||| (1 <<< ((nI i) &&& 31)))), (0, .ref 146), (1, .int p)]) (st1 := []) (w1 := w) rfl ?_
        refine wp_mono (ih (i + 1) (n ||| (1 <<< ((nI i) &&& 31))) (by omega)) (fun r w1 hq => ?_)
        obtain ⟨rfl, rfl⟩ := hq
        refine ⟨?_, rfl⟩
        rw [show csg f p n i (g + 1) = csg f p (n ||| (if f (12 + 4 * i + 3) = p then 1 <<< (nI i &&& 31) else 0)) (i + 1) g from rfl]
        rw [if_pos (Classical.not_not.mp h4)]
set_option maxRecDepth 100000 in
theorem rf_cellsOf {d : Nat} {w : pm_H} {F : List Value} (hM : w[146]? = some (0, 12, F)) (hF : MF F) {f : Nat → Int32} {m : Nat} (hs : w[156]? = some (1, 0, ar 130 f)) (hm : f 0 = nI m) (m8 : m ≤ 8) (p : Int32) : wp (d + 1) 198 0 (lv_args 0 [.ref 146, .int p]) [] w (fun r w1 => r = some (.int (csg f p 0 0 m)) ∧ w = w1) := by
  show wp _ 198 0 [(0, .ref 146), (1, .int p)] [] w _
  refine wp_g 4 (pc1 := 4) (lv1 := [(3, .int 0), (2, .int 0), (0, .ref 146), (1, .int p)]) (st1 := []) (w1 := w) rfl ?_
  exact rf_cellsOf_l hM hF hs hm m8 p m 0 0 (by omega)
set_option maxRecDepth 100000 in
theorem rf_isJoint {d : Nat} {w : pm_H} {F : List Value} (hM : w[146]? = some (0, 12, F)) (hF : MF F) {f : Nat → Int32} {m : Nat} (hs : w[156]? = some (1, 0, ar 130 f)) (hm : f 0 = nI m) (m8 : m ≤ 8) (c : Int32) : wp (d + 1) 192 0 (lv_args 0 [.ref 146, .int c]) [] w (fun r w1 => r = some (.int (tB (0 ≤ c.toInt ∧ c.toInt + 1 < m))) ∧ w = w1) := by
  show wp _ 192 0 [(0, .ref 146), (1, .int c)] [] w _
  refine wp_g 1 (pc1 := 1) (lv1 := [(0, .ref 146), (1, .int c)]) (st1 := [.ref 146]) (w1 := w) rfl ?_
  refine wp_cc [.ref 146] [] (i := .invokevirtual 301) (ln := 3) (a := 190) (b := 0) (z := 0) (by decide +kernel) rfl rfl (by decide) rfl (show (1 : Nat) = pm_na 190 by decide +kernel) (Nat.le_of_ble_eq_true rfl) (show (1 : Nat) ≤ pm_n 190 by decide +kernel) (rcv_ok hM (by decide +kernel)) (rf_isCloth hM hF hs hm m8) (fun r1 w2 hq => ?_)
  obtain ⟨rfl, rfl⟩ := hq
  show wp _ 192 4 [(0, .ref 146), (1, .int c)] [.int (tB (0 < m))] w _
  by_cases h3 : 0 < m
  · rw [show tB (0 < m) = 1 from if_pos h3]
    refine wp_g 1 (pc1 := 7) (lv1 := [(0, .ref 146), (1, .int c)]) (st1 := []) (w1 := w) rfl ?_
    refine wp_g 1 (pc1 := 8) (lv1 := [(0, .ref 146), (1, .int c)]) (st1 := [.int c]) (w1 := w) rfl ?_
    refine wp_ifc (cnd := .lt) (o := 19) (ln := 3) (a := 27) (b := 0) (z := 0) (by decide +kernel) (fun h4 => ?_) (fun h4 => ?_)
    · have h4 := of_decide_eq_true h4
      refine wp_g 1 (pc1 := 28) (lv1 := [(0, .ref 146), (1, .int c)]) (st1 := [.int 0]) (w1 := w) rfl ?_
      refine wp_rt (i := .ireturn) (r := some (.int 0)) (ln := 1) (a := 0) (b := 0) (z := 0) (by decide +kernel) rfl (ret_b (by decide +kernel) (Or.inl rfl)) ?_
      have jh4 := i3_ltt h4
      simp only [show ((0 : Int32)).toInt = 0 by decide] at jh4
      exact ⟨congrArg (fun v => some (Value.int v)) (tB_f (by omega)).symm, rfl⟩
    · have h4 := of_decide_eq_false h4
      refine wp_g 2 (pc1 := 13) (lv1 := [(0, .ref 146), (1, .int c)]) (st1 := [.ref 146, .int c]) (w1 := w) rfl ?_
      refine wp_get (kf := 39) (ln := 3) (a := 12) (b := 20) (z := 0) (by decide +kernel) hM (mo_20 hF) ?_
      refine wp_g 1 (pc1 := 17) (lv1 := [(0, .ref 146), (1, .int c)]) (st1 := [.int 0, .ref 156, .int c]) (w1 := w) rfl ?_
      refine wp_ia (i := 0) (ln := 1) (a := 0) (b := 0) (z := 0) (by decide +kernel) hs (by omega) (by decide) ?_
      rw [hm]
      refine wp_g 2 (pc1 := 20) (lv1 := [(0, .ref 146), (1, .int c)]) (st1 := [.int ((nI m) - 1), .int c]) (w1 := w) rfl ?_
      refine wp_top (show (nI m) - 1 = nI (m - 1) from nx_sub (rfl : nI m = nI m) (rfl : (1 : Int32) = nI 1) (by omega)) ?_
      refine wp_icm (cnd := .ge) (o := 7) (ln := 3) (a := 27) (b := 0) (z := 0) (by decide +kernel) (fun h5 => ?_) (fun h5 => ?_)
      · have h5 := of_decide_eq_true h5
        refine wp_g 1 (pc1 := 28) (lv1 := [(0, .ref 146), (1, .int c)]) (st1 := [.int 0]) (w1 := w) rfl ?_
        refine wp_rt (i := .ireturn) (r := some (.int 0)) (ln := 1) (a := 0) (b := 0) (z := 0) (by decide +kernel) rfl (ret_b (by decide +kernel) (Or.inl rfl)) ?_
        have jh4 := i3_ltf h4
        have jh5 := i3_get h5
        simp only [show ((0 : Int32)).toInt = 0 by decide, show (nI (m - 1)).toInt = ((m - 1 : Nat) : Int) from nI_toInt (by omega)] at jh4 jh5
        exact ⟨congrArg (fun v => some (Value.int v)) (tB_f (by omega)).symm, rfl⟩
      · have h5 := of_decide_eq_false h5
        refine wp_g 2 (pc1 := 28) (lv1 := [(0, .ref 146), (1, .int c)]) (st1 := [.int 1]) (w1 := w) rfl ?_
        refine wp_rt (i := .ireturn) (r := some (.int 1)) (ln := 1) (a := 0) (b := 0) (z := 0) (by decide +kernel) rfl (ret_b (by decide +kernel) (Or.inr rfl)) ?_
        have jh4 := i3_ltf h4
        have jh5 := i3_gef h5
        simp only [show ((0 : Int32)).toInt = 0 by decide, show (nI (m - 1)).toInt = ((m - 1 : Nat) : Int) from nI_toInt (by omega)] at jh4 jh5
        exact ⟨congrArg (fun v => some (Value.int v)) (tB_t (by omega)).symm, rfl⟩
  · rw [show tB (0 < m) = 0 from if_neg h3]
    refine wp_g 1 (pc1 := 27) (lv1 := [(0, .ref 146), (1, .int c)]) (st1 := []) (w1 := w) rfl ?_
    refine wp_g 1 (pc1 := 28) (lv1 := [(0, .ref 146), (1, .int c)]) (st1 := [.int 0]) (w1 := w) rfl ?_
    refine wp_rt (i := .ireturn) (r := some (.int 0)) (ln := 1) (a := 0) (b := 0) (z := 0) (by decide +kernel) rfl (ret_b (by decide +kernel) (Or.inl rfl)) ?_
    exact ⟨congrArg (fun v => some (Value.int v)) (tB_f (by omega)).symm, rfl⟩
