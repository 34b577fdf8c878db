/-! calls that look -/
theorem tb_w {P : Prop} [Decidable P] : (w32 (tb P) = 0) = ¬ P := tb0 P
section AN
variable {s M : Hp} {K : Nat → Nat → Int} {n m : Nat}
theorem an_cell (h : Cl s 17 K n m) (g : Rf (M 156) K n m) (w : WF K n m) {p q : Int} (bp : -2147483648 ≤ p ∧ p < 2147483648) (bq : -2147483648 ≤ q ∧ q < 2147483648) : ∃ r, xf_cell s p q = some r ∧ xm_cell M p q = some r := by
  obtain ⟨w8, w4, w0, w2, wl, wz, wd0, wd9, wc, wj, wq⟩ := id w
  unfold xf_cell xm_cell
  rw [cl_hasCell h w bp.1 bp.2, rm_isCell g w bp.1 bp.2, w32_eq (x := q) bq.1 bq.2, rm_in (by omega) (by omega) (by omega) (by omega) (by omega) (by omega), show w32 4 = 4 by decide]
  simp only [obs, tb0]
  by_cases hc : 0 ≤ p ∧ p < n
  · obtain ⟨c, rfl⟩ : ∃ c : Nat, p = (c : Int) := ⟨p.toNat, by omega⟩
    have hcn : c < n := by omega
    have hx := h.2.2.2.2.1 c hcn
    have hg := g.2.2.2.2.1 c hcn
    simp only [eq_true hc, not_true_eq_false, if_false]
    rw [ixt (n := 8) c rfl (by omega) (by decide), ixt (j := 55 + (c : Int)) (55 + c) (by omega) (by omega) (by decide)]
    simp only [obs]
    by_cases q0 : q = 0
    · subst q0
      rw [if_pos rfl, if_neg (by omega), if_pos (by decide), rm_cell0 g w hcn]
      exact ⟨_, rfl, by rw [show s 18 c = K 1 c from hx.1]; rfl⟩
    rw [if_neg q0]
    by_cases q1 : q = 1
    · subst q1
      rw [if_pos rfl, if_neg (by omega), if_pos (by decide), rm_cell1 g w hcn]
      exact ⟨_, rfl, by rw [show s 19 c = K 2 c from hx.2.1]; rfl⟩
    rw [if_neg q1]
    by_cases q2 : q = 2
    · subst q2
      rw [if_pos rfl, if_neg (by omega), if_pos (by decide), rm_cell2 g w hcn]
      exact ⟨_, rfl, by rw [show s 20 c = K 3 c from hx.2.2.1]; rfl⟩
    rw [if_neg q2]
    by_cases q3 : q = 3
    · subst q3
      rw [if_pos rfl, if_neg (by omega), if_pos (by decide), rm_cell3 g w hcn]
      exact ⟨_, rfl, by rw [show s 21 c = K 4 c from hx.2.2.2.1]; rfl⟩
    rw [if_neg q3]
    by_cases q4 : q = 4
    · subst q4
      rw [if_pos rfl, if_neg (by omega), if_neg (by decide)]
      exact ⟨_, rfl, by rw [show s 22 c = K 5 c from hx.2.2.2.2, hg.2.2.2.2]⟩
    rw [if_neg q4, if_pos (by omega)]
    exact ⟨_, rfl, rfl⟩
  · simp only [eq_false hc, not_false_eq_true, if_true]
    exact ⟨_, rfl, rfl⟩
theorem an_joint (h : Cl s 17 K n m) (g : Rf (M 156) K n m) (w : WF K n m) (hm : ∀ j, j + 1 < n → s 35 j = M 156 (82 + j)) {p q : Int} (bp : -2147483648 ≤ p ∧ p < 2147483648) (bq : -2147483648 ≤ q ∧ q < 2147483648) : ∃ r, xf_joint s p q = some r ∧ xm_joint M p q = some r := by
  obtain ⟨w8, w4, w0, w2, wl, wz, wd0, wd9, wc, wj, wq⟩ := id w
  unfold xf_joint xm_joint
  rw [cl_hasJoint h w bp.1 bp.2, rm_isJoint g w bp.1 bp.2, w32_eq (x := q) bq.1 bq.2, rm_in (by omega) (by omega) (by omega) (by omega) (by omega) (by omega), show w32 1 = 1 by decide]
  simp only [obs, tb0]
  by_cases hc : 0 ≤ p ∧ p + 1 < n
  · obtain ⟨c, rfl⟩ : ∃ c : Nat, p = (c : Int) := ⟨p.toNat, by omega⟩
    have hcn : c + 1 < n := by omega
    simp only [eq_true hc, not_true_eq_false, if_false]
    rw [ixt (n := 8) c rfl (by omega) (by decide), ixt (j := 44 + (c : Int)) (44 + c) (by omega) (by omega) (by decide), ixt (j := 82 + (c : Int)) (82 + c) (by omega) (by omega) (by decide)]
    simp only [obs]
    by_cases q0 : q = 0
    · subst q0
      rw [if_pos rfl, if_neg (by omega)]
      exact ⟨_, rfl, by rw [if_pos rfl, show s 23 c = K 6 c from h.2.2.2.2.2.1 c hcn, g.2.2.2.2.2.1 c hcn]⟩
    rw [if_neg q0, if_neg (c := q = 0) q0]
    by_cases q1 : q = 1
    · subst q1
      rw [if_pos rfl, if_neg (by omega)]
      exact ⟨_, rfl, by rw [hm c hcn]⟩
    rw [if_neg q1, if_pos (by omega)]
    exact ⟨_, rfl, rfl⟩
  · simp only [eq_false hc, not_false_eq_true, if_true]
    exact ⟨_, rfl, rfl⟩
theorem an_person (h : Cl s 17 K n m) (g : Rf (M 156) K n m) (w : WF K n m) {p q : Int} (bp : -2147483648 ≤ p ∧ p < 2147483648) (bq : -2147483648 ≤ q ∧ q < 2147483648) : ∃ r, xf_person s p q = some r ∧ xm_person M p q = some r := by
  obtain ⟨w8, w4, w0, w2, wl, wz, wd0, wd9, wc, wj, wq⟩ := id w
  unfold xf_person xm_person
  rw [cl_hasPerson h w bp.1 bp.2, rm_isPerson g w bp.1 bp.2, w32_eq (x := q) bq.1 bq.2, rm_in (by omega) (by omega) (by omega) (by omega) (by omega) (by omega), show w32 1 = 1 by decide, cl_cellsOf h w bp.1 bp.2, rm_cellsOf g w bp.1 bp.2]
  simp only [obs, tb0]
  by_cases hc : 0 ≤ p ∧ p < m
  · obtain ⟨c, rfl⟩ : ∃ c : Nat, p = (c : Int) := ⟨p.toNat, by omega⟩
    have hcm : c < m := by omega
    simp only [eq_true hc, not_true_eq_false, if_false]
    rw [ixt (n := 4) c rfl (by omega) (by decide), ixt (j := 51 + (c : Int)) (51 + c) (by omega) (by omega) (by decide)]
    simp only [obs]
    by_cases q0 : q = 0
    · subst q0
      rw [if_pos rfl, if_neg (by omega)]
      exact ⟨_, rfl, by rw [if_pos rfl, show s 25 c = K 8 c from h.2.2.2.2.2.2.1 c hcm, g.2.2.2.2.2.2 c hcm]⟩
    rw [if_neg q0, if_neg (c := q = 0) q0]
    by_cases q1 : q = 1
    · subst q1
      rw [if_pos rfl, if_neg (by omega)]
      exact ⟨_, rfl, rfl⟩
    rw [if_neg q1, if_pos (by omega)]
    exact ⟨_, rfl, rfl⟩
  · simp only [eq_false hc, not_false_eq_true, if_true]
    exact ⟨_, rfl, rfl⟩
theorem an_thick (h : Cl s 17 K n m) (g : Rf (M 156) K n m) (w : WF K n m) {p : Int} (bp : -2147483648 ≤ p ∧ p < 2147483648) : ∃ r, xf_thick s p = some r ∧ xm_thick M p = some r := by
  obtain ⟨w8, w4, w0, w2, wl, wz, wd0, wd9, wc, wj, wq⟩ := id w
  unfold xf_thick xm_thick
  rw [show s 17 2 = K 0 2 from h.2.2.1, rm_isCloth g w, ix10 (by decide) (by decide), w32_eq (x := p) bp.1 bp.2, w32_eq (x := K 0 2) (by omega) (by omega)]
  simp only [obs, tb0]
  rw [show M 156 10 = K 0 2 from g.2.2.1, w32_eq (x := K 0 2 - 1) (by omega) (by omega), rm_in (by omega) (by omega) (by omega) (by omega) (by omega) (by omega)]
  simp only [obs, tb0]
  by_cases hn : 0 < n
  · simp only [eq_true hn, not_true_eq_false, if_false]
    by_cases hc : 0 ≤ p ∧ p ≤ K 0 2 - 1
    · simp only [eq_true hc, not_true_eq_false, if_false]
      obtain ⟨c, rfl⟩ : ∃ c : Nat, p = (c : Int) := ⟨p.toNat, by omega⟩
      rw [if_neg (by omega), if_pos (by omega), ixt (n := 8) c rfl (by omega) (by decide), rm_thick g w (by omega) (by omega)]
      exact ⟨_, rfl, by rw [show s 24 c = ((thk (K 1) n c : Nat) : Int) from h.2.2.2.2.2.2.2 c (by omega)]; rfl⟩
    · simp only [eq_false hc, not_false_eq_true, if_true]
      by_cases q : p < 0
      · rw [if_pos q]; exact ⟨_, rfl, rfl⟩
      · rw [if_neg q, if_neg (by omega)]; exact ⟨_, rfl, rfl⟩
  · simp only [eq_false hn, not_false_eq_true, if_true]
    have := w0 (by omega)
    by_cases q : p < 0
    · rw [if_pos q]; exact ⟨_, rfl, rfl⟩
    · rw [if_neg q, if_neg (by omega)]; exact ⟨_, rfl, rfl⟩
end AN
section CA
variable {n : Nat} {w : pm_H}
theorem call_5 (hn : n < 512) (h : Inv n w) (a1 a2 a3 a4 a5 : Int32) : ob_ok 5 [a1, a2, a3, a4, a5] w (Inv (n + 1)) := by
  obtain ⟨sh, ln, s, M, ib, ds, rel⟩ := h
  obtain ⟨-, -, ⟨K, c, m, sr, pa⟩, -⟩ := id rel
  obtain ⟨r, e1, e2⟩ := an_cell sr.2.1 sr.2.2.1 sr.1 (bi a1) (bi a2)
  exact ob_na (args := [.int (Int32.ofInt a1.toInt), .int (Int32.ofInt a2.toInt)]) hn rfl (by rw [← vi, ← vi]; rfl) ib (fun P kr => xf_cell_ok (w0 := w) ib.2.2.1 ⟨ib.1, Fr_rf⟩ e1 (kr w ⟨ib.1, Fr_rf⟩)) (fun w1 h1 P kr => xm_cell_ok (w0 := w1) StM_M ⟨h1, Fr_rf⟩ e2 (kr w1 ⟨h1, Fr_rf⟩)) ds rel
theorem call_6 (hn : n < 512) (h : Inv n w) (a1 a2 a3 a4 a5 : Int32) : ob_ok 6 [a1, a2, a3, a4, a5] w (Inv (n + 1)) := by
  obtain ⟨sh, ln, s, M, ib, ds, rel⟩ := h
  obtain ⟨-, -, ⟨K, c, m, sr, pa⟩, -⟩ := id rel
  obtain ⟨r, e1, e2⟩ := an_joint sr.2.1 sr.2.2.1 sr.1 (fun j hj => (sr.2.2.2.2.2.1 j hj).1) (bi a1) (bi a2)
  exact ob_na (args := [.int (Int32.ofInt a1.toInt), .int (Int32.ofInt a2.toInt)]) hn rfl (by rw [← vi, ← vi]; rfl) ib (fun P kr => xf_joint_ok (w0 := w) ib.2.2.1 ⟨ib.1, Fr_rf⟩ e1 (kr w ⟨ib.1, Fr_rf⟩)) (fun w1 h1 P kr => xm_joint_ok (w0 := w1) StM_M ⟨h1, Fr_rf⟩ e2 (kr w1 ⟨h1, Fr_rf⟩)) ds rel
theorem call_7 (hn : n < 512) (h : Inv n w) (a1 a2 a3 a4 a5 : Int32) : ob_ok 7 [a1, a2, a3, a4, a5] w (Inv (n + 1)) := by
  obtain ⟨sh, ln, s, M, ib, ds, rel⟩ := h
  obtain ⟨-, -, ⟨K, c, m, sr, pa⟩, -⟩ := id rel
  obtain ⟨r, e1, e2⟩ := an_person sr.2.1 sr.2.2.1 sr.1 (bi a1) (bi a2)
  exact ob_na (args := [.int (Int32.ofInt a1.toInt), .int (Int32.ofInt a2.toInt)]) hn rfl (by rw [← vi, ← vi]; rfl) ib (fun P kr => xf_person_ok (w0 := w) ib.2.2.1 ⟨ib.1, Fr_rf⟩ e1 (kr w ⟨ib.1, Fr_rf⟩)) (fun w1 h1 P kr => xm_person_ok (w0 := w1) StM_M ⟨h1, Fr_rf⟩ e2 (kr w1 ⟨h1, Fr_rf⟩)) ds rel
theorem call_8 (hn : n < 512) (h : Inv n w) (a1 a2 a3 a4 a5 : Int32) : ob_ok 8 [a1, a2, a3, a4, a5] w (Inv (n + 1)) := by
  obtain ⟨sh, ln, s, M, ib, ds, rel⟩ := h
  obtain ⟨-, -, ⟨K, c, m, sr, pa⟩, -⟩ := id rel
  obtain ⟨r, e1, e2⟩ := an_thick sr.2.1 sr.2.2.1 sr.1 (bi a1)
  exact ob_na (args := [.int (Int32.ofInt a1.toInt)]) hn rfl (by rw [← vi]; rfl) ib (fun P kr => xf_thick_ok (w0 := w) ib.2.2.1 ⟨ib.1, Fr_rf⟩ e1 (kr w ⟨ib.1, Fr_rf⟩)) (fun w1 h1 P kr => xm_thick_ok (w0 := w1) StM_M ⟨h1, Fr_rf⟩ e2 (kr w1 ⟨h1, Fr_rf⟩)) ds rel
end CA
