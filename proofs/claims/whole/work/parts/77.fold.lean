/-! undo, fold -/
section UF
variable {n : Nat} {w : pm_H}
theorem e19 : ∀ x : Nat, x < 20 → iRem (((x : Int) + 20) - 1) 20 = (((x + 19) % 20 : Nat) : Int) := by decide +kernel
theorem rm_undo {M : Hp} {z : Nat} (hz : M 146 26 = ((z + 1 : Nat) : Int)) (h20 : z < 20) : ∃ M1, xm_undo M = some ((z : Int), M1) ∧ (∀ P, P ≠ 146 → P ≠ 156 → M1 P = M P) ∧ (∀ q, q ≠ 26 → M1 146 q = M 146 q) ∧ M1 146 26 = (z : Int) ∧ M1 156 = wsd M z := by
  unfold xm_undo
  rw [hz, w32_eq (x := ((z + 1 : Nat) : Int)) (by omega) (by omega), if_neg (by omega)]
  simp only [obs]
  rw [show ((z + 1 : Nat) : Int) - 1 = (z : Int) by omega]
  obtain ⟨M1, e1, e2, e3, e4⟩ := cp_loop (B := fun (q : Int × Hp) => xm_undo_b21 q.2 q.1) 159 156 45 (fun i => 45 * z + i) (fun i => 10 + i) (uh M 146 26 (z : Int)) (fun i j _ _ h => by omega) (fun h => absurd h (by decide)) (fun i M' hi h1 _ => by
    show xm_undo_b21 M' (i : Int) = _
    unfold xm_undo_b21
    rw [h1 146 (by decide), uh_rc, w32_eq (x := (i : Int)) (by omega) (by omega), if_pos (by rw [show w32 45 = 45 by decide]; omega), ixt (45 * z + i) (by omega) (by omega) (by decide), ixt (10 + i) (by omega) (by omega) (by decide)]
    rfl) (fun M' h1 _ => by
    show xm_undo_b21 M' ((45 : Nat) : Int) = _
    unfold xm_undo_b21
    rw [if_neg (by decide)])
  rw [e1]
  simp only [obs]
  refine ⟨M1, ?_, fun P h1 h2 => ?_, fun q hq => ?_, ?_, ?_⟩
  · rw [e2 146 (by decide), uh_rc]
  · rw [e2 P h2, uh_row h1]
  · rw [e2 146 (by decide), uh_ro _ _ _ _ hq]
  · rw [e2 146 (by decide), uh_rc]
  · funext q
    unfold wsd
    by_cases h : 10 ≤ q ∧ q < 55
    · have := e3 (q - 10) (by omega)
      rw [show 10 + (q - 10) = q by omega] at this
      rw [if_pos h, this, uh_row (by decide)]
    · rw [if_neg h, e4 q (fun j hj => by omega), uh_row (by decide)]
theorem call_13 (hn : n < 512) (h : Inv n w) (a1 a2 a3 a4 a5 : Int32) : ob_ok 13 [a1, a2, a3, a4, a5] w (Inv (n + 1)) := by
  obtain ⟨sh, ln, s, M, ib, ds, rel⟩ := h
  obtain ⟨K, c, m, rk⟩ := RELK_of rel
  obtain ⟨tp, ru, sr, pa, im, bo, le⟩ := id rk
  obtain ⟨z, x, p1, p2, p3, p4, p5, p6, p7⟩ := pa
  have key : ∃ r s2 M2, xf_undo (ksF s) s = some (r, s2) ∧ xm_undo M = some (r, M2) ∧ DS sh ln s2 ∧ REL ln s2 M2 := by
    by_cases hz : z = 0
    · refine ⟨-1, s, M, ?_, ?_, ds, rel⟩
      · unfold xf_undo
        rw [p1, hz]
        exact if_pos (by decide)
      · unfold xm_undo
        rw [p2, hz]
        exact if_pos (by decide)
    · obtain ⟨y, rfl⟩ : ∃ y, z = y + 1 := ⟨z - 1, by omega⟩
      obtain ⟨M2, m1, m2, m3, m4, m5⟩ := rm_undo p2 (by omega)
      obtain ⟨q1, q2, K2, q3, q4, q5⟩ := p6 0 (by omega)
      rw [show y + 1 - 1 - 0 = y by omega] at q5
      rw [show x + 19 - 0 = x + 19 by omega] at q1 q2 q4
      have hx : (x + 19) % 20 < 20 := Nat.mod_lt _ (by decide)
      obtain ⟨s1, c1, c2, c3⟩ := cl_copy (s := s) (a0 := 17) (a1 := (s 40 ((x + 19) % 20)).toNat) (by omega)
      have ecl : xf_undo (ksF s) s = some ((y : Int), uh (uh s1 39 1 (((x + 19) % 20 : Nat) : Int)) 39 2 (y : Int)) := by
        unfold xf_undo xp_bringBack
        rw [p1, w32_eq (x := ((y + 1 : Nat) : Int)) (by omega) (by omega), if_neg (by omega), if_pos (by omega), p4, e19 x p5, ixt ((x + 19) % 20) rfl hx (by decide)]
        simp only [obs]
        rw [ksF_at hx]
        unfold rsA
        rw [if_pos rfl]
        simp only [obs]
        rw [if_neg q1, c1]
        simp only [obs]
        rw [uh_rc, uh_ro s1 39 1 _ (q := 2) (by decide), c2 39 (by decide), p1, show ((y + 1 : Nat) : Int) - 1 = (y : Int) by omega]
      refine ⟨_, _, M2, ecl, m1, ?_, ?_⟩
      · refine DS_cg ds ?_ ?_ ?_ <;> rw [uh_row (by decide), uh_row (by decide)] <;> exact c2 _ (by omega)
      · have fr : ∀ P, ¬ (17 ≤ P ∧ P ≤ 25) → P ≠ 39 → uh (uh s1 39 1 (((x + 19) % 20 : Nat) : Int)) 39 2 (y : Int) P = s P := fun P h1 h2 => by rw [uh_row h2, uh_row h2]; exact c2 P (by omega)
        have m156 : ∀ q, q < 10 ∨ 55 ≤ q → M2 156 q = M 156 q := fun q hq => by
          rw [m5]
          unfold wsd
          rw [if_neg (by omega)]
        refine REL_act (K2 := K2) ds tp ru sr im bo le (fun P h1 h2 h3 h4 h5 => fr P h2 h3) (fun P r k l d h1 h2 h3 => ?_) (fun P h1 h2 h3 => m2 P (by unfold VM at h1; omega) h2) (fun q h1 h2 => m3 q h1) m156 q3 ?_ (by rw [m5]; exact q5) ?_
        · have := dyn_175 (EN_of ib) h1 h2
          exact fr P (by omega) (by omega)
        · have := Cl_cp (s := s) (s1 := s1) (a0 := 17) q4 q3 c3
          exact Cl_row this (fun i hi => by rw [uh_row (by omega), uh_row (by omega)])
        · refine ⟨y, (x + 19) % 20, uh_rc _ _ _ _, m4, by omega, ?_, hx, fun t ht => ?_, ?_⟩
          · rw [uh_ro _ _ _ _ (by decide), uh_rc]
          · rw [fr 40 (by decide) (by decide), show ((x + 19) % 20 + 19 - t) % 20 = (x + 19 - (t + 1)) % 20 by omega]
            obtain ⟨g1, g2, K3, g3, g4, g5⟩ := p6 (t + 1) (by omega)
            refine ⟨g1, g2, K3, g3, Cl_row g4 (fun i hi => fr _ (by omega) (by omega)), ?_⟩
            rw [wsd_cg (M := M) (M1 := M2) (fun i _ => by rw [m2 159 (by decide) (by decide)]) m156]
            rw [show y - 1 - t = y + 1 - 1 - (t + 1) by omega]
            exact g5
          · rw [fr 40 (by decide) (by decide)]; exact p7
  obtain ⟨r, s2, M2, e1, e2, e3, e4⟩ := key
  exact ob_na (args := []) hn rfl rfl ib (fun P kr => xf_undo_ok (w0 := w) ib.2.2.1 (ksF_ok ds) ⟨ib.1, Fr_rf⟩ e1 (fun w1 h1 => kr w1 h1)) (fun w1 h1 P kr => xm_undo_ok (w0 := w1) StM_M ⟨h1, Fr_rf⟩ e2 (fun w2 h2 => kr w2 h2)) e3 e4
theorem call_9 (hn : n < 512) (h : Inv n w) (a1 a2 a3 a4 a5 : Int32) : ob_ok 9 [a1, a2, a3, a4, a5] w (Inv (n + 1)) := by
  obtain ⟨sh, ln, s, M, ib, ds, rel⟩ := h
  obtain ⟨K, c, m, rk⟩ := RELK_of rel
  obtain ⟨tp, ru, sr, pa, im, bo, le⟩ := id rk
  have en := EN_of ib
  have bb := bi a1
  have bp := bi a2
  have bq := bi a3
  have br := bi a4
  have key : ∃ r s2 sh2 M2, xf_fold ln (rsF s) (ksF s) w.length sh s a1.toInt a2.toInt a3.toInt a4.toInt = some (r, s2, sh2) ∧ xm_fold M a1.toInt a2.toInt a3.toInt a4.toInt = some (r, M2) ∧ DS sh2 ln s2 ∧ REL ln s2 M2 := by
    generalize a1.toInt = b at bb
    generalize a2.toInt = p at bp
    generalize a3.toInt = sd at bq
    generalize a4.toInt = wy at br
    have W := sr.1
    obtain ⟨w8, w4, w0, w2, wl, wz, wd0, wd9, wc, wj, wq⟩ := id W
    unfold xf_fold xm_fold xm_isFold
    rw [cl_hasPerson sr.2.1 W bb.1 bb.2, cl_hasFold sr.2.1 W bp.1 bp.2 bq.1 bq.2 br.1 br.2, rm_isPerson sr.2.2.1 W bb.1 bb.2, rm_isLine sr.2.2.1 W bp.1 bp.2, w32_eq (x := sd) bq.1 bq.2, w32_eq (x := wy) br.1 br.2, rm_in (v := sd) (by omega) (by omega) (by omega) (by omega) (by omega) (by omega), rm_in (v := wy) (by omega) (by omega) (by omega) (by omega) (by omega) (by omega)]
    simp only [obs, tb0]
    by_cases c1 : 0 ≤ b ∧ b < (m : Int)
    · simp only [eq_true c1, not_true_eq_false, if_false]
      by_cases c2 : 0 ≤ p ∧ p + 1 < K 0 2 ∧ 0 ≤ sd ∧ sd ≤ 1 ∧ 0 ≤ wy ∧ wy ≤ 1
      · have d1 : 0 ≤ p ∧ p + 1 < K 0 2 := ⟨c2.1, c2.2.1⟩
        have d2 : 0 ≤ sd ∧ sd ≤ 1 := ⟨c2.2.2.1, c2.2.2.2.1⟩
        have d3 : 0 ≤ wy ∧ wy ≤ 1 := ⟨c2.2.2.2.2.1, c2.2.2.2.2.2⟩
        rw [if_neg (c := ¬ (0 ≤ p ∧ p + 1 < K 0 2 ∧ 0 ≤ sd ∧ sd ≤ 1 ∧ 0 ≤ wy ∧ wy ≤ 1)) (fun k => k c2), if_neg (c := ¬ (0 ≤ p ∧ p + 1 < K 0 2)) (fun k => k d1), if_neg (c := ¬ (0 ≤ sd ∧ sd ≤ 1)) (fun k => k d2), if_neg (c := ¬ (0 ≤ wy ∧ wy ≤ 1)) (fun k => k d3)]
        simp only [obs]
        rw [if_neg (c := w32 1 = 0) (by decide)]
        obtain ⟨bn, rfl⟩ : ∃ x : Nat, b = (x : Int) := ⟨b.toNat, by omega⟩
        obtain ⟨pn, rfl⟩ : ∃ x : Nat, p = (x : Int) := ⟨p.toNat, by omega⟩
        obtain ⟨sn, rfl⟩ : ∃ x : Nat, sd = (x : Int) := ⟨sd.toNat, by omega⟩
        obtain ⟨wn, rfl⟩ : ∃ x : Nat, wy = (x : Int) := ⟨wy.toNat, by omega⟩
        have hbm : bn < m := by omega
        have hwb := wq bn hbm
        obtain ⟨u, ro, u1, u2, u3⟩ := rule_of (rs := rsF s) ru (fun i hi => rsF_at hi) sr.2.2.2.2.2.2.2.2.1 sr.2.2.2.2.2.2.2.2.2.1
        have eu : xf_ruleInForce ln (rsF s) s = some u := by
          unfold xf_ruleInForce
          rw [sr.2.2.2.2.2.2.2.1, u1 s rfl rfl]
          rfl
        have hcode : 4 * (pn : Int) + 2 * (sn : Int) + (wn : Int) = ((4 * pn + 2 * sn + wn : Nat) : Int) := by omega
        have g1 : (4 * pn + 2 * sn + wn) / 4 = pn := by omega
        have g2 : (4 * pn + 2 * sn + wn) / 2 % 2 = sn := by omega
        have g3 : (4 * pn + 2 * sn + wn) % 2 = wn := by omega
        have hq := cl_quote (rs := rsF s) (f := 4 * pn + 2 * sn + wn) sr.2.1 W (by unfold awayM; omega) u2 hbm (by omega)
        rw [g1, g2, g3] at hq
        rw [eu, hcode]
        simp only [obs]
        by_cases hc : canF (K 1) (K 3) (K 6) c pn wn
        · obtain ⟨s1, q1, q2, q3⟩ := hq.2 hc
          obtain ⟨M1, p1, p2, -⟩ := rm_prices sr.2.2.1 W (u3 M rfl rfl rfl rfl) hbm (p := pn) (sd := sn) (wy := wn) (by omega) (by omega) (by omega)
          have ht0 := tot_bd (ro := ro) (b := bn) (p := pn) (sd := sn) (wy := wn) W
          have rk1 : RELK ln s1 M1 K c m := RELK_cg rk (sameC_q q2) (sameM_p p2)
          have ds1 : DS sh ln s1 := DS_cg ds (q2 15 (by decide) (by decide) (by decide)) (q2 38 (by decide) (by decide) (by decide)) (q2 40 (by decide) (by decide) (by decide))
          have sr1 := rk1.2.2.1
          rw [q1, (rm_can sr.2.2.1 W (by omega) (by omega)).1 hc]
          simp only [obs]
          rw [if_neg (c := w32 1 = 0) (by decide), p1, ixt (n := 4) bn rfl (by omega) (by decide), ixt (j := 51 + (bn : Int)) (51 + bn) (by omega) (by omega) (by decide)]
          simp only [obs]
          rw [show s1 25 bn = K 8 bn from sr1.2.1.2.2.2.2.2.2.1 bn hbm, sr1.2.2.1.2.2.2.2.2.2 bn hbm, w32_eq (x := K 8 bn) (by omega) (by omega), w32_eq (x := tot ro K c bn pn sn wn) (by omega) (by omega), show w32 (-2) = -2 by decide, if_neg (c := tot ro K c bn pn sn wn = -2) (by omega)]
          by_cases ht : tot ro K c bn pn sn wn ≤ K 8 bn
          · rw [if_neg (by omega), if_neg (by omega)]
            obtain ⟨s3, sh3, M3, k1, k2, k3, k4, k5, k6, k7, k8⟩ := keepR (ks := ksF s) en ds1 (fun i hi => by rw [ksF_at hi, q2 40 (by decide) (by decide) (by decide)]) W sr1.2.1 sr1.2.2.1 rk1.2.2.2.1
            rw [k1, k2]
            simp only [obs]
            obtain ⟨s4, o1, o2, o3⟩ := cl_settle (s := s3) (a := 17) (ro := ro) (b := bn) (f := 4 * pn + 2 * sn + wn) (Cl_row sr1.2.1 (fun i hi => k5 _ (by omega) (by omega) (by omega))) W (by unfold away2; omega) hbm (by omega) (by rw [g1]; exact d1.2) (fun i hi => by rw [g1, g2, g3, k5 51 (by decide) (by decide) (by decide)]; exact q3 i hi) (by rw [g1, g2, g3]; exact ht)
            obtain ⟨M4, r1, r2, r3⟩ := (rm_isFolded (s := M3) (ro := ro) (b := bn) (f := 4 * pn + 2 * sn + wn) (by rw [k7 156 (by decide) (by decide)]; exact sr1.2.2.1) W (u3 M3 (by rw [k8 21 (by decide), p2.2 21 (by decide)]) (by rw [k7 148 (by decide) (by decide), p2.1 148 (by decide) (by decide) (by decide) (by decide)]) (by rw [k7 150 (by decide) (by decide), p2.1 150 (by decide) (by decide) (by decide) (by decide)]) (by rw [k7 151 (by decide) (by decide), p2.1 151 (by decide) (by decide) (by decide) (by decide)])) hbm (by omega) (by rw [g1]; exact d1.2)).2 (by rw [g1, g2, g3]; exact ⟨hc, ht⟩)
            rw [o1, r1]
            simp only [obs]
            obtain ⟨e1, e2⟩ := act_end en ds1 rk1 k3 k4 k5 k6 k7 k8 (fun P h1 h2 => o3 P (by omega) (by omega)) r3 (WF_fd W hbm (by rw [g1]; exact d1.2) (by omega) (by rw [g1, g2, g3]; exact ht)) o2 r2
            exact ⟨_, s4, sh3, M4, rfl, rfl, e1, e2⟩
          · rw [if_pos (by omega), if_pos (by omega)]
            exact ⟨-1, s1, sh, M1, rfl, rfl, ds1, RELK_to rk1⟩
        · rw [hq.1 hc, (rm_can sr.2.2.1 W (by omega) (by omega)).2 hc]
          simp only [obs]
          rw [if_pos trivial, if_pos (by decide)]
          exact ⟨-1, s, sh, M, rfl, rfl, ds, rel⟩
      · rw [if_pos (c := ¬ (0 ≤ p ∧ p + 1 < K 0 2 ∧ 0 ≤ sd ∧ sd ≤ 1 ∧ 0 ≤ wy ∧ wy ≤ 1)) c2]
        refine ⟨-1, s, sh, M, rfl, ?_, ds, rel⟩
        by_cases d1 : 0 ≤ p ∧ p + 1 < K 0 2
        · rw [if_neg (c := ¬ (0 ≤ p ∧ p + 1 < K 0 2)) (fun k => k d1)]
          by_cases d2 : 0 ≤ sd ∧ sd ≤ 1
          · rw [if_neg (c := ¬ (0 ≤ sd ∧ sd ≤ 1)) (fun k => k d2), if_pos (c := ¬ (0 ≤ wy ∧ wy ≤ 1)) (by omega)]
            rfl
          · rw [if_pos (c := ¬ (0 ≤ sd ∧ sd ≤ 1)) d2]
            rfl
        · rw [if_pos (c := ¬ (0 ≤ p ∧ p + 1 < K 0 2)) d1]
          rfl
    · simp only [eq_false c1, not_false_eq_true, if_true, obs]
      exact ⟨-1, s, sh, M, rfl, by rw [if_pos (by decide)], ds, rel⟩
  obtain ⟨r, s2, sh2, M2, e1, e2, e3, e4⟩ := key
  exact ob_al (args := [.int (Int32.ofInt a1.toInt), .int (Int32.ofInt a2.toInt), .int (Int32.ofInt a3.toInt), .int (Int32.ofInt a4.toInt)]) hn rfl (by rw [← vi, ← vi, ← vi, ← vi]; rfl) ib (fun P kr => xf_fold_ok ib.2.2.1 (rsF_ok ds) (ksF_ok ds) rfl ib.1 e1 (fun w1 g1 h1 => kr w1 g1 h1)) (fun w1 h1 P kr => xm_fold_ok (w0 := w1) StM_M ⟨h1, Fr_rf⟩ e2 (fun w2 h2 => kr w2 h2)) e3 e4
end UF
