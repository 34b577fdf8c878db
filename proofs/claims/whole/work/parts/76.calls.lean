/-! acts: open, iron, give, undo -/
theorem hWFcr {K : Nat → Nat → Int} {n m j : Nat} (w : WF K n m) : WF (fun r i => if r = 6 ∧ i = j then 0 else K r i) n m := by
  obtain ⟨w8, w4, w0, w2, wl, wz, wd0, wd9, wc, wj, wq⟩ := w
  refine ⟨w8, w4, w0, w2, wl, wz, wd0, wd9, wc, fun i hi => ?_, wq⟩
  have := wj i hi
  show K 1 (i + 1) ≤ K 1 i + 1 ∧ K 1 i ≤ K 1 (i + 1) + 1 ∧ 0 ≤ (if 6 = 6 ∧ i = j then 0 else K 6 i) ∧ (if 6 = 6 ∧ i = j then 0 else K 6 i) ≤ 2
  by_cases h : i = j
  · rw [if_pos ⟨rfl, h⟩]; omega
  · rw [if_neg (fun q => h q.2)]; exact this
theorem hWFow {K : Nat → Nat → Int} {n m j p : Nat} (w : WF K n m) (hp : p < m) : WF (fun r i => if r = 4 ∧ i = j then (p : Int) else K r i) n m := by
  obtain ⟨w8, w4, w0, w2, wl, wz, wd0, wd9, wc, wj, wq⟩ := w
  refine ⟨w8, w4, w0, w2, wl, wz, wd0, wd9, fun i hi => ?_, wj, wq⟩
  have := wc i hi
  show 0 ≤ K 1 i ∧ K 1 i < K 0 2 ∧ (K 3 i = 0 ∨ K 3 i = 1) ∧ -1 ≤ (if 4 = 4 ∧ i = j then (p : Int) else K 4 i) ∧ (if 4 = 4 ∧ i = j then (p : Int) else K 4 i) < m ∧ 0 ≤ K 5 i ∧ K 5 i ≤ 99
  by_cases h : i = j
  · rw [if_pos ⟨rfl, h⟩]; omega
  · rw [if_neg (fun q => h q.2)]; exact this
section ACT
variable {n : Nat} {w : pm_H}
theorem call_10 (hn : n < 512) (h : Inv n w) (a1 a2 a3 a4 a5 : Int32) : ob_ok 10 [a1, a2, a3, a4, a5] w (Inv (n + 1)) := by
  obtain ⟨sh, ln, s, M, ib, ds, rel⟩ := h
  obtain ⟨K, c, m, rk⟩ := RELK_of rel
  have en := EN_of ib
  have sr := rk.2.2.1
  have W := sr.1
  obtain ⟨w8, w4, w0, w2, wl, wz, -⟩ := id W
  have key : ∃ r s2 sh2 M2, xf_open (ksF s) w.length sh s = some (r, s2, sh2) ∧ xm_open M = some (r, M2) ∧ DS sh2 ln s2 ∧ REL ln s2 M2 := by
    unfold xf_open xm_open
    rw [cl_liesOpen sr.2.1 W, rm_isCloth sr.2.2.1 W, ix0 (by decide) (by decide), ix10 (by decide) (by decide)]
    simp only [obs, tb0]
    rw [sr.2.2.1.1, sr.2.2.1.2.2.1, w32_eq (x := K 0 2) (by omega) (by omega), w32_eq (x := (c : Int)) (by omega) (by omega)]
    by_cases h1 : K 0 2 = (c : Int)
    · rw [if_neg (fun q => q h1)]
      refine ⟨-1, s, sh, M, rfl, ?_, ds, rel⟩
      by_cases h0 : 0 < c
      · rw [if_neg (fun q => q h0), if_pos h1]
      · rw [if_pos h0]
    · rw [if_pos h1, if_neg (fun q => h1 (by have := w0 (by omega); omega)), if_neg h1]
      obtain ⟨s1, sh1, M1, k1, k2, k3, k4, k5, k6, k7, k8⟩ := keepR (ks := ksF s) en ds (fun i hi => ksF_at hi) W sr.2.1 sr.2.2.1 rk.2.2.2.1
      rw [k1, k2]
      simp only [obs]
      obtain ⟨s2, o1, o2, o3⟩ := op_both (s := s1) (a := 17) (Cl_row sr.2.1 (fun i hi => k5 _ (by omega) (by omega) (by omega))) W
      obtain ⟨M2, q1, q2, q3⟩ := rm_open (s := M1) (K := K) (n := c) (m := m) (by rw [k7 156 (by decide) (by decide)]; exact sr.2.2.1) W
      rw [o1, q1]
      simp only [obs]
      obtain ⟨d1, d2⟩ := act_end en ds rk k3 k4 k5 k6 k7 k8 (fun P h1 _ => o3 P (by omega)) (FD_sd q3) (WF_op W) o2 q2
      exact ⟨_, s2, sh1, M2, rfl, by rw [k7 156 (by decide) (by decide), sr.2.2.1.2.2.1, show s 17 2 = K 0 2 from sr.2.1.2.2.1], d1, d2⟩
  obtain ⟨r, s2, sh2, M2, e1, e2, e3, e4⟩ := key
  exact ob_al (args := []) hn rfl rfl ib (fun P kr => xf_open_ok ib.2.2.1 (ksF_ok ds) rfl ib.1 e1 (fun w1 g1 h1 => kr w1 g1 h1)) (fun w1 h1 P kr => xm_open_ok (w0 := w1) StM_M ⟨h1, Fr_rf⟩ e2 (fun w2 h2 => kr w2 h2)) e3 e4
theorem call_11 (hn : n < 512) (h : Inv n w) (a1 a2 a3 a4 a5 : Int32) : ob_ok 11 [a1, a2, a3, a4, a5] w (Inv (n + 1)) := by
  obtain ⟨sh, ln, s, M, ib, ds, rel⟩ := h
  obtain ⟨K, c, m, rk⟩ := RELK_of rel
  have en := EN_of ib
  have sr := rk.2.2.1
  have W := sr.1
  obtain ⟨w8, w4, w0, w2, wl, wz, wd0, wd9, wc, wj, wq⟩ := id W
  have bp := bi a1
  have key : ∃ r s2 sh2 M2, xf_iron (ksF s) w.length sh s a1.toInt = some (r, s2, sh2) ∧ xm_iron M a1.toInt = some (r, M2) ∧ DS sh2 ln s2 ∧ REL ln s2 M2 := by
    generalize a1.toInt = p at bp
    unfold xf_iron xm_iron
    rw [cl_hasJoint sr.2.1 W bp.1 bp.2, cl_liesOpen sr.2.1 W, rm_isJoint sr.2.2.1 W bp.1 bp.2, ix0 (by decide) (by decide), ix10 (by decide) (by decide)]
    simp only [obs, tb0]
    by_cases h0 : 0 ≤ p ∧ p + 1 < (c : Int)
    · obtain ⟨j, rfl⟩ : ∃ j : Nat, p = (j : Int) := ⟨p.toNat, by omega⟩
      have hj : j + 1 < c := by omega
      have hwj := wj j hj
      have ej : s 23 j = K 6 j := sr.2.1.2.2.2.2.2.1 j hj
      have em : M 156 (44 + j) = K 6 j := sr.2.2.1.2.2.2.2.2.1 j hj
      rw [if_neg (fun q => q h0), if_neg (c := ¬ (0 ≤ (j : Int) ∧ (j : Int) + 1 < (c : Int))) (fun q => q h0), ixt (n := 8) j rfl (by omega) (by decide), ixt (j := 44 + (j : Int)) (44 + j) (by omega) (by omega) (by decide)]
      simp only [obs]
      rw [sr.2.2.1.1, sr.2.2.1.2.2.1, ej, em, w32_eq (x := K 0 2) (by omega) (by omega), w32_eq (x := (c : Int)) (by omega) (by omega), w32_eq (x := K 6 j) (by omega) (by omega)]
      by_cases h1 : K 0 2 = (c : Int)
      · rw [if_neg (fun q => q h1)]
        by_cases h2 : K 6 j = 0
        · rw [if_pos h2, if_pos h2]
          exact ⟨-1, s, sh, M, rfl, rfl, ds, rel⟩
        · rw [if_neg h2, if_neg h2, if_pos h1]
          obtain ⟨s1, sh1, M1, k1, k2, k3, k4, k5, k6, k7, k8⟩ := keepR (ks := ksF s) en ds (fun i hi => ksF_at hi) W sr.2.1 sr.2.2.1 rk.2.2.2.1
          rw [k1, k2]
          simp only [obs]
          have hc1 : Cl s1 17 K c m := Cl_row sr.2.1 (fun i hi => k5 _ (by omega) (by omega) (by omega))
          have hr1 : Rf (M1 156) K c m := by rw [k7 156 (by decide) (by decide)]; exact sr.2.2.1
          have c2 : Cl (uh s1 23 j 0) 17 (fun r i => if r = 6 ∧ i = j then 0 else K r i) c m := by
            obtain ⟨h0, h1, h2, h3, h4, h5, h6, h7⟩ := hc1
            refine ⟨h0, h1, h2, h3, h4, fun i hi => ?_, h6, h7⟩
            show uh s1 23 j 0 23 i = if 6 = 6 ∧ i = j then 0 else K 6 i
            by_cases hij : i = j
            · subst hij; rw [uh_rc, if_pos ⟨rfl, rfl⟩]
            · rw [uh_ro _ _ _ _ hij, if_neg (fun q => hij q.2)]; exact h5 i hi
          have r2 : Rf (uh M1 156 (44 + j) 0 156) (fun r i => if r = 6 ∧ i = j then 0 else K r i) c m := by
            obtain ⟨a0, a1, a2, a3, a4, a5, a6⟩ := hr1
            have lo : ∀ q, q ≠ 44 + j → uh M1 156 (44 + j) 0 156 q = M1 156 q := fun q hq => uh_ro _ _ _ _ hq
            refine ⟨by rw [lo _ (by omega)]; exact a0, by rw [lo _ (by omega)]; exact a1, by rw [lo _ (by omega)]; exact a2, by rw [lo _ (by omega)]; exact a3, fun i hi => ?_, fun i hi => ?_, fun i hi => ?_⟩
            · rw [lo _ (by omega), lo _ (by omega), lo _ (by omega), lo _ (by omega), lo _ (by omega)]; exact a4 i hi
            · show uh M1 156 (44 + j) 0 156 (44 + i) = if 6 = 6 ∧ i = j then 0 else K 6 i
              by_cases hij : i = j
              · subst hij; rw [uh_rc, if_pos ⟨rfl, rfl⟩]
              · rw [lo _ (by omega), if_neg (fun q => hij q.2)]; exact a5 i hi
            · rw [lo _ (by omega)]; exact a6 i hi
          obtain ⟨d1, d2⟩ := act_end (s2 := uh s1 23 j 0) (M2 := uh M1 156 (44 + j) 0) en ds rk k3 k4 k5 k6 k7 k8 (fun P h1 _ => uh_row (by omega)) (FD_sd ⟨fun P hP _ => uh_row hP, fun q hq => uh_ro _ _ _ _ (by omega)⟩) (hWFcr W) c2 r2
          exact ⟨_, _, sh1, _, rfl, by rw [k7 156 (by decide) (by decide), em], d1, d2⟩
      · rw [if_pos h1]
        refine ⟨-1, s, sh, M, rfl, ?_, ds, rel⟩
        by_cases h2 : K 6 j = 0
        · rw [if_pos h2]
        · rw [if_neg h2, if_neg h1]
    · rw [if_pos h0, if_pos h0]
      exact ⟨-1, s, sh, M, rfl, rfl, ds, rel⟩
  obtain ⟨r, s2, sh2, M2, e1, e2, e3, e4⟩ := key
  exact ob_al (args := [.int (Int32.ofInt a1.toInt)]) hn rfl (by rw [← vi]; rfl) ib (fun P kr => xf_iron_ok ib.2.2.1 (ksF_ok ds) rfl ib.1 e1 (fun w1 g1 h1 => kr w1 g1 h1)) (fun w1 h1 P kr => xm_iron_ok (w0 := w1) StM_M ⟨h1, Fr_rf⟩ e2 (fun w2 h2 => kr w2 h2)) e3 e4
theorem call_12 (hn : n < 512) (h : Inv n w) (a1 a2 a3 a4 a5 : Int32) : ob_ok 12 [a1, a2, a3, a4, a5] w (Inv (n + 1)) := by
  obtain ⟨sh, ln, s, M, ib, ds, rel⟩ := h
  obtain ⟨K, c, m, rk⟩ := RELK_of rel
  have en := EN_of ib
  have sr := rk.2.2.1
  have W := sr.1
  obtain ⟨w8, w4, w0, w2, wl, wz, wd0, wd9, wc, wj, wq⟩ := id W
  have bp := bi a1
  have bq := bi a2
  have key : ∃ r s2 sh2 M2, xf_give (ksF s) w.length sh s a1.toInt a2.toInt = some (r, s2, sh2) ∧ xm_give M a1.toInt a2.toInt = some (r, M2) ∧ DS sh2 ln s2 ∧ REL ln s2 M2 := by
    generalize a1.toInt = p at bp
    generalize a2.toInt = q at bq
    unfold xf_give xm_give
    rw [cl_hasCell sr.2.1 W bp.1 bp.2, cl_hasPerson sr.2.1 W bq.1 bq.2, rm_isCell sr.2.2.1 W bp.1 bp.2, rm_isPerson sr.2.2.1 W bq.1 bq.2, w32_eq (x := q) bq.1 bq.2]
    simp only [obs, tb0]
    by_cases h0 : 0 ≤ p ∧ p < (c : Int)
    · obtain ⟨j, rfl⟩ : ∃ j : Nat, p = (j : Int) := ⟨p.toNat, by omega⟩
      have hj : j < c := by omega
      have hwc := wc j hj
      have ej : s 21 j = K 4 j := (sr.2.1.2.2.2.2.1 j hj).2.2.2.1
      rw [if_neg (fun q => q h0), if_neg (c := ¬ (0 ≤ (j : Int) ∧ (j : Int) < (c : Int))) (fun q => q h0)]
      by_cases h1 : 0 ≤ q ∧ q < (m : Int)
      · obtain ⟨b, rfl⟩ : ∃ j : Nat, q = (j : Int) := ⟨q.toNat, by omega⟩
        have hb : b < m := by omega
        rw [if_neg (fun q => q h1), if_neg (c := ¬ (0 ≤ (b : Int) ∧ (b : Int) < (m : Int))) (fun q => q h1), ixt (n := 8) j rfl (by omega) (by decide), rm_cell3 sr.2.2.1 W hj, ixt (j := 12 + 4 * (j : Int) + 3) (12 + 4 * j + 3) (by omega) (by omega) (by decide)]
        simp only [obs]
        rw [ej, w32_eq (x := K 4 j) (by omega) (by omega), show w32 (-1) = -1 by decide]
        by_cases h2 : K 4 j = -1
        · rw [if_pos h2, if_pos (by omega)]
          exact ⟨-1, s, sh, M, rfl, rfl, ds, rel⟩
        · rw [if_neg h2, if_neg (c := K 4 j < 0) (by omega)]
          by_cases h3 : K 4 j = (b : Int)
          · rw [if_pos h3, if_pos h3]
            exact ⟨-1, s, sh, M, rfl, rfl, ds, rel⟩
          · rw [if_neg h3, if_neg h3]
            obtain ⟨s1, sh1, M1, k1, k2, k3, k4, k5, k6, k7, k8⟩ := keepR (ks := ksF s) en ds (fun i hi => ksF_at hi) W sr.2.1 sr.2.2.1 rk.2.2.2.1
            have hc1 : Cl s1 17 K c m := Cl_row sr.2.1 (fun i hi => k5 _ (by omega) (by omega) (by omega))
            have hr1 : Rf (M1 156) K c m := by rw [k7 156 (by decide) (by decide)]; exact sr.2.2.1
            rw [k1, k2]
            simp only [obs]
            rw [rm_cell3 hr1 W hj]
            simp only [obs]
            have c2 : Cl (uh s1 21 j (b : Int)) 17 (fun r i => if r = 4 ∧ i = j then (b : Int) else K r i) c m := by
              obtain ⟨h0, h1, h2, h3, h4, h5, h6, h7⟩ := hc1
              refine ⟨h0, h1, h2, h3, fun i hi => ?_, h5, h6, h7⟩
              obtain ⟨g1, g2, g3, g4, g5⟩ := h4 i hi
              refine ⟨g1, g2, g3, ?_, g5⟩
              show uh s1 21 j (b : Int) 21 i = if 4 = 4 ∧ i = j then (b : Int) else K 4 i
              by_cases hij : i = j
              · subst hij; rw [uh_rc, if_pos ⟨rfl, rfl⟩]
              · rw [uh_ro _ _ _ _ hij, if_neg (fun q => hij q.2)]; exact g4
            have r2 : Rf (uh M1 156 (12 + 4 * j + 3) (b : Int) 156) (fun r i => if r = 4 ∧ i = j then (b : Int) else K r i) c m := by
              obtain ⟨a0, a1, a2, a3, a4, a5, a6⟩ := hr1
              have lo : ∀ q, q ≠ 12 + 4 * j + 3 → uh M1 156 (12 + 4 * j + 3) (b : Int) 156 q = M1 156 q := fun q hq => uh_ro _ _ _ _ hq
              refine ⟨by rw [lo _ (by omega)]; exact a0, by rw [lo _ (by omega)]; exact a1, by rw [lo _ (by omega)]; exact a2, by rw [lo _ (by omega)]; exact a3, fun i hi => ?_, fun i hi => ?_, fun i hi => ?_⟩
              · obtain ⟨g1, g2, g3, g4, g5⟩ := a4 i hi
                rw [lo (12 + 4 * i) (by omega), lo (12 + 4 * i + 1) (by omega), lo (12 + 4 * i + 2) (by omega), lo (55 + i) (by omega)]
                refine ⟨g1, g2, g3, ?_, g5⟩
                show uh M1 156 (12 + 4 * j + 3) (b : Int) 156 (12 + 4 * i + 3) = if 4 = 4 ∧ i = j then (b : Int) else K 4 i
                by_cases hij : i = j
                · subst hij; rw [uh_rc, if_pos ⟨rfl, rfl⟩]
                · rw [lo _ (by omega), if_neg (fun q => hij q.2)]; exact g4
              · rw [lo _ (by omega)]; exact a5 i hi
              · rw [lo _ (by omega)]; exact a6 i hi
            obtain ⟨d1, d2⟩ := act_end (s2 := uh s1 21 j (b : Int)) (M2 := uh M1 156 (12 + 4 * j + 3) (b : Int)) en ds rk k3 k4 k5 k6 k7 k8 (fun P h1 _ => uh_row (by omega)) (FD_sd ⟨fun P hP _ => uh_row hP, fun q hq => uh_ro _ _ _ _ (by omega)⟩) (hWFow W hb) c2 r2
            exact ⟨_, _, sh1, _, rfl, rfl, d1, d2⟩
      · rw [if_pos h1, if_pos h1]
        exact ⟨-1, s, sh, M, rfl, rfl, ds, rel⟩
    · rw [if_pos h0, if_pos h0]
      exact ⟨-1, s, sh, M, rfl, rfl, ds, rel⟩
  obtain ⟨r, s2, sh2, M2, e1, e2, e3, e4⟩ := key
  exact ob_al (args := [.int (Int32.ofInt a1.toInt), .int (Int32.ofInt a2.toInt)]) hn rfl (by rw [← vi, ← vi]; rfl) ib (fun P kr => xf_give_ok ib.2.2.1 (ksF_ok ds) rfl ib.1 e1 (fun w1 g1 h1 => kr w1 g1 h1)) (fun w1 h1 P kr => xm_give_ok (w0 := w1) StM_M ⟨h1, Fr_rf⟩ e2 (fun w2 h2 => kr w2 h2)) e3 e4
end ACT
