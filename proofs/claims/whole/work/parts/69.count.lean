/-! count, log -/
section CD
variable {n : Nat} {w : pm_H}
theorem rm_creased {M : Hp} {K : Nat → Nat → Int} {n m : Nat} (h : Rf (M 156) K n m) (w : WF K n m) : (lp (fun (q : Int × Int) => xm_count_b99 M q.1 q.2) (0, 0)).bind (fun q16 => some q16.1) = some ((bts (fun c => K 6 c ≠ 0) (n - 1) : Nat) : Int) := by
  obtain ⟨h0, -, -, -, -, hc, -⟩ := id h
  obtain ⟨w8, w4, -, -, wl, wz, -, -, -, wc, -⟩ := id w
  refine Eq.trans (lpb_for (fun i => (((bts (fun c => K 6 c ≠ 0) i : Nat) : Int), (i : Int))) (n - 1) (r := (((bts (fun c => K 6 c ≠ 0) (n - 1) : Nat) : Int), ((n - 1 : Nat) : Int))) rfl (fun i hi => ?_) ?_) rfl
  · have hw := wc i (by omega)
    have hb := bts_lt (fun c => K 6 c ≠ 0) i
    have h2 : 2 ^ i ≤ 2 ^ 8 := Nat.pow_le_pow_right (by decide) (by omega)
    unfold xm_count_b99
    rw [ix0 (by decide) (by decide), ixt (j := 44 + (i : Int)) (44 + i) (by omega) (by omega) (by decide)]
    simp only [obs]
    rw [h0, hc i (by omega), w32_eq (x := (i : Int)) (by omega) (by omega), w32_eq (x := (n : Int) - 1) (by omega) (by omega), if_pos (by omega), w32_eq (x := K 6 i) (by omega) (by omega), bor_bit (by omega) hb, bor_0 (by omega)]
    show (if K 6 i = 0 then _ else _) = some (Sum.inl (((bts (fun c => K 6 c ≠ 0) i + if K 6 i ≠ 0 then 2 ^ i else 0 : Nat) : Int), ((i + 1 : Nat) : Int)))
    by_cases hp : K 6 i = 0
    · rw [if_pos hp, if_neg (fun q => q hp)]; rfl
    · rw [if_neg hp, if_pos hp]; rfl
  · unfold xm_count_b99
    rw [ix0 (by decide) (by decide)]
    simp only [obs]
    rw [h0, w32_eq (x := ((n - 1 : Nat) : Int)) (by omega) (by omega), w32_eq (x := (n : Int) - 1) (by omega) (by omega), if_neg (by omega)]
theorem call_28 (hn : n < 512) (h : Inv n w) (a1 a2 a3 a4 a5 : Int32) : ob_ok 28 [a1, a2, a3, a4, a5] w (Inv (n + 1)) := by
  obtain ⟨sh, ln, s, M, ib, ds, rel⟩ := h
  obtain ⟨tp, ru, ⟨K, c, m, sr, pa⟩, -⟩ := id rel
  have bp := bi a1
  have key : ∃ r, xf_count s a1.toInt = some r ∧ xm_count M a1.toInt = some r := by
    generalize a1.toInt = p at bp
    obtain ⟨z, x, z1, z2, -⟩ := pa
    have hcl := sr.2.1
    have hrf := sr.2.2.1
    unfold xf_count xm_count
    rw [cl_creased hcl sr.1, rm_creased hrf sr.1, cl_cellsOf hcl sr.1 (by decide) (by decide), rm_cellsOf hrf sr.1 (by decide) (by decide), ix10 (by decide) (by decide), ix11 (by decide) (by decide), show ix 130 129 = some 129 by decide +kernel, w32_eq (x := p) bp.1 bp.2]
    simp only [obs]
    by_cases q0 : p = 0
    · subst q0
      simp only [if_true]
      rw [ix0 (by decide) (by decide)]
      exact ⟨_, rfl, by rw [show s 17 0 = (c : Int) from hcl.1]; exact congrArg some hrf.1⟩
    simp only [eq_false q0, if_false]
    by_cases q1 : p = 1
    · subst q1
      simp only [if_true]
      rw [ix1 (by decide) (by decide)]
      exact ⟨_, rfl, by rw [show s 17 1 = (m : Int) from hcl.2.1]; exact congrArg some hrf.2.1⟩
    simp only [eq_false q1, if_false]
    by_cases q2 : p = 2
    · simp only [eq_true q2, if_true]
      exact ⟨_, rfl, by rw [show s 17 2 = K 0 2 from hcl.2.2.1]; exact congrArg some hrf.2.2.1⟩
    simp only [eq_false q2, if_false]
    by_cases q3 : p = 3
    · simp only [eq_true q3, if_true]
      exact ⟨_, rfl, by rw [ru.1]⟩
    simp only [eq_false q3, if_false]
    by_cases q4 : p = 4
    · simp only [eq_true q4, if_true]
      exact ⟨_, rfl, by rw [sr.2.2.2.2.2.2.2.1]⟩
    simp only [eq_false q4, if_false]
    by_cases q5 : p = 5
    · simp only [eq_true q5, if_true]
      exact ⟨_, rfl, by rw [show s 17 3 = K 0 3 from hcl.2.2.2.1]; exact congrArg some hrf.2.2.2.1⟩
    simp only [eq_false q5, if_false]
    by_cases q6 : p = 6
    · simp only [eq_true q6, if_true]
      exact ⟨_, rfl, rfl⟩
    simp only [eq_false q6, if_false]
    by_cases q7 : p = 7
    · simp only [eq_true q7, if_true]
      exact ⟨_, rfl, rfl⟩
    simp only [eq_false q7, if_false]
    by_cases q8 : p = 8
    · simp only [eq_true q8, if_true]
      exact ⟨_, rfl, by rw [sr.2.2.2.2.2.2.1.1]⟩
    simp only [eq_false q8, if_false]
    by_cases q9 : p = 9
    · simp only [eq_true q9, if_true]
      exact ⟨_, rfl, by rw [z1, z2]⟩
    simp only [eq_false q9, if_false]
    by_cases q10 : p = 10
    · simp only [eq_true q10, if_true]
      exact ⟨_, rfl, by rw [sr.2.2.2.2.2.2.2.2.2.2.1]⟩
    simp only [eq_false q10, if_false]
    by_cases q11 : p = 11
    · simp only [eq_true q11, if_true]
      exact ⟨_, rfl, by rw [tp.1]⟩
    simp only [eq_false q11, if_false]
    exact ⟨_, rfl, rfl⟩
  obtain ⟨r, e1, e2⟩ := key
  exact ob_na (args := [.int (Int32.ofInt a1.toInt)]) hn rfl (by rw [← vi]; rfl) ib (fun P kr => xf_count_ok (w0 := w) ib.2.2.1 ⟨ib.1, Fr_rf⟩ e1 (kr w ⟨ib.1, Fr_rf⟩)) (fun w1 h1 P kr => xm_count_ok (w0 := w1) StM_M ⟨h1, Fr_rf⟩ e2 (kr w1 ⟨h1, Fr_rf⟩)) ds rel
theorem call_23 (hn : n < 512) (h : Inv n w) (a1 a2 a3 a4 a5 : Int32) : ob_ok 23 [a1, a2, a3, a4, a5] w (Inv (n + 1)) := by
  obtain ⟨sh, ln, s, M, ib, ds, rel⟩ := h
  obtain ⟨tp, ru, ⟨K, c, m, sr, pa⟩, -⟩ := id rel
  have bp := bi a1
  have bq := bi a2
  have br := bi a3
  have bo := bi a4
  have key : ∃ r s1 M1, xf_log s a1.toInt a2.toInt a3.toInt a4.toInt = some (r, s1) ∧ xm_log M a1.toInt a2.toInt a3.toInt a4.toInt = some (r, M1) ∧ REL ln s1 M1 ∧ s1 15 = s 15 ∧ s1 38 = s 38 ∧ s1 40 = s 40 := by
    generalize a1.toInt = p at bp
    generalize a2.toInt = sd at bq
    generalize a3.toInt = wy at br
    generalize a4.toInt = co at bo
    have b7 := sr.2.2.2.2.2.2.1
    obtain ⟨l1, l2, l3, l4, l5⟩ := b7
    have htd : tdK (M 156) 0 2 = (c : Int) := sr.2.2.1.1
    obtain ⟨w8, w4, w0, w2, -⟩ := id sr.1
    unfold xf_log xm_log
    rw [cl_hasPerson (a := 26) sr.2.2.2.2.1 sr.2.2.2.1 (by decide) (by decide), cl_hasFold (a := 26) sr.2.2.2.2.1 sr.2.2.2.1 bp.1 bp.2 bq.1 bq.2 br.1 br.2, rm_isJoint sr.2.2.1 sr.1 bp.1 bp.2, w32_eq (x := p) bp.1 bp.2, w32_eq (x := sd) bq.1 bq.2, w32_eq (x := wy) br.1 br.2, w32_eq (x := co) bo.1 bo.2, rm_in (v := sd) (by omega) (by omega) (by omega) (by omega) (by omega) (by omega), rm_in (v := wy) (by omega) (by omega) (by omega) (by omega) (by omega) (by omega), rm_in (v := co) (by omega) (by omega) (by omega) (by omega) (by omega) (by omega), show w32 (-1) = -1 by decide, ix1 (by decide) (by decide), show ix 130 129 = some 129 by decide +kernel, htd]
    simp only [obs, tb0]
    rw [sr.2.2.1.2.1, l1, w32_eq (x := (m : Int)) (by omega) (by omega), w32_eq (x := M 156 129) (by omega) (by omega), show w32 10 = 10 by decide, show w32 9999 = 9999 by decide]
    by_cases q0 : p = -1
    · simp only [eq_true q0, if_true]
      refine ⟨0, _, _, rfl, rfl, ?_, uh_row (by decide), uh_row (by decide), uh_row (by decide)⟩
      refine REL_sheet rel (fun P _ h2 => uh_row (by omega)) (by rw [uh_row (by decide)]) (by rw [uh_row (by decide)]) (fun P h1 h2 => uh_row h2) (by rw [uh_row (by decide)]) (by rw [uh_row (by decide)]) (by rw [uh_row (by decide)]) (fun q _ => uh_ro _ _ _ _ (by omega)) (fun K1 n1 m1 sr1 => ⟨K1, ?_⟩)
      have b1 := sr1.1
      have h8 := b1.1
      rw [uh_row (p := 146) (by decide)]
      refine SheetR_mk sr1 (fun i i1 i2 => uh_row (by omega)) (fun q hq => uh_ro _ _ _ _ (by omega)) (fun i hi => ?_) ⟨by rw [uh_rc, uh_rc], by rw [uh_rc]; decide, by rw [uh_rc]; decide, fun q => by rw [uh_rc] at q; omega, fun i hi => by rw [uh_rc] at hi; omega⟩ (uh_ro _ _ _ _ (by decide)) (uh_ro _ _ _ _ (by decide))
      rw [uh_row (by decide), uh_ro _ _ _ _ (by omega)]; exact sr1.2.2.2.2.2.1 i hi
    · simp only [eq_false q0, if_false]
      by_cases hok : (0 ≤ p ∧ p + 1 < (c : Int)) ∧ (0 ≤ sd ∧ sd ≤ 1) ∧ (0 ≤ wy ∧ wy ≤ 1) ∧ (0 ≤ co ∧ co ≤ 9999) ∧ 0 < m ∧ M 156 129 < 10
      · obtain ⟨o1, o2, o3, o4, o5, o6⟩ := hok
        obtain ⟨L, hL⟩ : ∃ L : Nat, M 156 129 = (L : Int) := ⟨(M 156 129).toNat, by omega⟩
        have hm0 : (0 : Int) ≤ 0 ∧ (0 : Int) < (m : Int) := by omega
        have hfo : 0 ≤ p ∧ p + 1 < (c : Int) ∧ 0 ≤ sd ∧ sd ≤ 1 ∧ 0 ≤ wy ∧ wy ≤ 1 := by omega
        simp only [eq_true hm0, eq_true hfo, eq_true o1, eq_true o2, eq_true o3, eq_true o4, not_true_eq_false, if_false]
        simp only [eq_false (show ¬ co < 0 by omega), eq_false (show ¬ 9999 < co by omega), eq_true o6, eq_false (show ¬ (m : Int) = 0 by omega), eq_false (show ¬ M 156 129 = 10 by omega), if_false, if_true]
        rw [hL, ixt (j := (L : Int)) L rfl (by omega) (by decide), ixt (j := 89 + 4 * (L : Int)) (89 + 4 * L) (by omega) (by omega) (by decide), ixt (j := 89 + 4 * (L : Int) + 1) (89 + 4 * L + 1) (by omega) (by omega) (by decide), ixt (j := 89 + 4 * (L : Int) + 2) (89 + 4 * L + 2) (by omega) (by omega) (by decide), ixt (j := 89 + 4 * (L : Int) + 3) (89 + 4 * L + 3) (by omega) (by omega) (by decide)]
        simp only [obs]
        have x1 : uh s 36 L (4 * p + 2 * sd + wy) 16 5 = (L : Int) := by rw [uh_row (by decide), l1, hL]
        have x2 : uh (uh s 36 L (4 * p + 2 * sd + wy)) 37 L co 16 5 = (L : Int) := by rw [uh_row (by decide), x1]
        rw [x1, ixt (j := (L : Int)) L rfl (by omega) (by decide)]
        simp only [obs]
        rw [x2]
        have y1 : uh (uh (uh (uh M 156 (89 + 4 * L) p) 156 (89 + 4 * L + 1) sd) 156 (89 + 4 * L + 2) wy) 156 (89 + 4 * L + 3) co 156 129 = (L : Int) := by
          rw [uh_ro _ _ _ _ (by omega), uh_ro _ _ _ _ (by omega), uh_ro _ _ _ _ (by omega), uh_ro _ _ _ _ (by omega), hL]
        rw [y1]
        refine ⟨(L : Int) + 1, uh (uh (uh s 36 L (4 * p + 2 * sd + wy)) 37 L co) 16 5 ((L : Int) + 1), uh (uh (uh (uh (uh M 156 (89 + 4 * L) p) 156 (89 + 4 * L + 1) sd) 156 (89 + 4 * L + 2) wy) 156 (89 + 4 * L + 3) co) 156 129 ((L : Int) + 1), by rw [uh_rc, if_neg (fun k => k ⟨o1.1, o1.2, o2.1, o2.2, trivial⟩)], by rw [uh_rc], ?_, by rw [uh_row (by decide), uh_row (by decide), uh_row (by decide)], by rw [uh_row (by decide), uh_row (by decide), uh_row (by decide)], by rw [uh_row (by decide), uh_row (by decide), uh_row (by decide)]⟩
        refine REL_sheet rel (fun P _ h2 => by rw [uh_row (by omega), uh_row (by omega), uh_row (by omega)]) (by rw [uh_row (by decide), uh_row (by decide), uh_row (by decide)]) (by rw [uh_row (by decide), uh_row (by decide), uh_row (by decide)]) (fun P h1 h2 => by rw [uh_row h2, uh_row h2, uh_row h2, uh_row h2, uh_row h2]) ?_ ?_ ?_ (fun q _ => by rw [uh_ro _ _ _ _ (by omega), uh_ro _ _ _ _ (by omega), uh_ro _ _ _ _ (by omega), uh_ro _ _ _ _ (by omega), uh_ro _ _ _ _ (by omega)]) (fun K1 n1 m1 sr1 => ⟨K1, ?_⟩)
        · rw [uh_row (by decide), uh_row (by decide), uh_row (by decide), uh_row (by decide), uh_row (by decide)]
        · rw [uh_row (by decide), uh_row (by decide), uh_row (by decide), uh_row (by decide), uh_row (by decide)]
        · rw [uh_row (by decide), uh_row (by decide), uh_row (by decide), uh_row (by decide), uh_row (by decide)]
        · have h8 := sr1.1.1
          have hnn : (n1 : Int) = c := by rw [← sr1.2.2.1.1, sr.2.2.1.1]
          have hmm : (m1 : Int) = m := by rw [← sr1.2.2.1.2.1, sr.2.2.1.2.1]
          have lo : ∀ q, q < 89 + 4 * L ∨ (93 + 4 * L ≤ q ∧ q ≠ 129) → uh (uh (uh (uh (uh M 156 (89 + 4 * L) p) 156 (89 + 4 * L + 1) sd) 156 (89 + 4 * L + 2) wy) 156 (89 + 4 * L + 3) co) 156 129 ((L : Int) + 1) 156 q = M 156 q := fun q hq => by
            rw [uh_ro _ _ _ _ (by omega), uh_ro _ _ _ _ (by omega), uh_ro _ _ _ _ (by omega), uh_ro _ _ _ _ (by omega), uh_ro _ _ _ _ (by omega)]
          have e146 : uh (uh (uh (uh (uh M 156 (89 + 4 * L) p) 156 (89 + 4 * L + 1) sd) 156 (89 + 4 * L + 2) wy) 156 (89 + 4 * L + 3) co) 156 129 ((L : Int) + 1) 146 = M 146 := by
            rw [uh_row (by decide), uh_row (by decide), uh_row (by decide), uh_row (by decide), uh_row (by decide)]
          rw [e146]
          refine SheetR_mk sr1 (fun i i1 i2 => by rw [uh_row (by omega), uh_row (by omega), uh_row (by omega)]) (fun q hq => lo q (by omega)) (fun i hi => ?_) ⟨by rw [uh_rc, uh_rc], by rw [uh_rc]; omega, by rw [uh_rc]; omega, fun _ => by omega, fun i hi => ?_⟩ ?_ ?_
          · rw [uh_row (by decide), uh_row (by decide), uh_row (by decide), lo _ (by omega)]; exact sr1.2.2.2.2.2.1 i hi
          · rw [uh_rc] at hi
            show uh (uh (uh s 36 L (4 * p + 2 * sd + wy)) 37 L co) 16 5 ((L : Int) + 1) 36 i = _ ∧ uh (uh (uh s 36 L (4 * p + 2 * sd + wy)) 37 L co) 16 5 ((L : Int) + 1) 37 i = _ ∧ _
            rw [uh_row (p := 36) (a := 16) (by decide), uh_row (p := 36) (a := 37) (by decide), uh_row (p := 37) (a := 16) (by decide)]
            by_cases hiL : i = L
            · subst hiL
              have z0 : uh (uh (uh (uh (uh M 156 (89 + 4 * i) p) 156 (89 + 4 * i + 1) sd) 156 (89 + 4 * i + 2) wy) 156 (89 + 4 * i + 3) co) 156 129 ((i : Int) + 1) 156 (89 + 4 * i) = p := by
                rw [uh_ro _ _ _ _ (by omega), uh_ro _ _ _ _ (by omega), uh_ro _ _ _ _ (by omega), uh_ro _ _ _ _ (by omega), uh_rc]
              have z1 : uh (uh (uh (uh (uh M 156 (89 + 4 * i) p) 156 (89 + 4 * i + 1) sd) 156 (89 + 4 * i + 2) wy) 156 (89 + 4 * i + 3) co) 156 129 ((i : Int) + 1) 156 (89 + 4 * i + 1) = sd := by
                rw [uh_ro _ _ _ _ (by omega), uh_ro _ _ _ _ (by omega), uh_ro _ _ _ _ (by omega), uh_rc]
              have z2 : uh (uh (uh (uh (uh M 156 (89 + 4 * i) p) 156 (89 + 4 * i + 1) sd) 156 (89 + 4 * i + 2) wy) 156 (89 + 4 * i + 3) co) 156 129 ((i : Int) + 1) 156 (89 + 4 * i + 2) = wy := by
                rw [uh_ro _ _ _ _ (by omega), uh_ro _ _ _ _ (by omega), uh_rc]
              have z3 : uh (uh (uh (uh (uh M 156 (89 + 4 * i) p) 156 (89 + 4 * i + 1) sd) 156 (89 + 4 * i + 2) wy) 156 (89 + 4 * i + 3) co) 156 129 ((i : Int) + 1) 156 (89 + 4 * i + 3) = co := by
                rw [uh_ro _ _ _ _ (by omega), uh_rc]
              rw [z0, z1, z2, z3, uh_rc, uh_rc]
              omega
            · rw [uh_ro _ _ _ _ hiL, uh_ro _ _ _ _ hiL, uh_row (p := 37) (a := 36) (by decide), lo _ (by omega), lo _ (by omega), lo _ (by omega), lo _ (by omega)]
              exact sr1.2.2.2.2.2.2.1.2.2.2.2 i (by omega)
          · rw [uh_ro _ _ _ _ (by decide), uh_row (by decide), uh_row (by decide)]
          · rw [uh_ro _ _ _ _ (by decide), uh_row (by decide), uh_row (by decide)]
      · refine ⟨-2, s, M, ?_, ?_, rel, rfl, rfl, rfl⟩
        · by_cases c1 : (0 : Int) ≤ 0 ∧ (0 : Int) < (m : Int)
          · rw [if_neg (fun k => k c1)]
            by_cases c2 : 0 ≤ p ∧ p + 1 < (c : Int) ∧ 0 ≤ sd ∧ sd ≤ 1 ∧ 0 ≤ wy ∧ wy ≤ 1
            · rw [if_neg (fun k => k c2)]
              by_cases c3 : co < 0
              · rw [if_pos c3]
              · rw [if_neg c3]
                by_cases c4 : 9999 < co
                · rw [if_pos c4]
                · rw [if_neg c4, if_neg (by omega)]
            · rw [if_pos c2]
          · rw [if_pos c1]
        · by_cases c1 : 0 ≤ p ∧ p + 1 < (c : Int)
          · rw [if_neg (fun k => k c1)]
            by_cases c2 : 0 ≤ sd ∧ sd ≤ 1
            · rw [if_neg (fun k => k c2)]
              by_cases c3 : 0 ≤ wy ∧ wy ≤ 1
              · rw [if_neg (fun k => k c3)]
                by_cases c4 : 0 ≤ co ∧ co ≤ 9999
                · rw [if_neg (fun k => k c4)]
                  by_cases c5 : (m : Int) = 0
                  · rw [if_pos c5]
                  · rw [if_neg c5, if_pos (by omega)]
                · rw [if_pos c4]
              · rw [if_pos c3]
            · rw [if_pos c2]
          · rw [if_pos c1]
  obtain ⟨r, s1, M1, e1, e2, e3, e4, e5, e6⟩ := key
  exact ob_na (args := [.int (Int32.ofInt a1.toInt), .int (Int32.ofInt a2.toInt), .int (Int32.ofInt a3.toInt), .int (Int32.ofInt a4.toInt)]) hn rfl (by rw [← vi, ← vi, ← vi, ← vi]; rfl) ib (fun P kr => xf_log_ok (w0 := w) ib.2.2.1 ⟨ib.1, Fr_rf⟩ e1 (fun w1 h1 => kr w1 h1)) (fun w1 h1 P kr => xm_log_ok (w0 := w1) StM_M ⟨h1, Fr_rf⟩ e2 (fun w2 h2 => kr w2 h2)) (DS_cg ds e4 e5 e6) e3
end CD
