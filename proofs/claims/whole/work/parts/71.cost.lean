/-! cost, dearest -/
theorem rule_of {ln : Nat → Nat} {s M : Hp} {rs : Nat → Int} (ru : RulesR ln s M) (hrs : ∀ i, i < 6 → rs i = s 15 i) {fo : Int} (h1 : -1 ≤ fo) (h2 : fo < s 0 4) : ∃ u ro, (∀ s1 : Hp, s1 0 4 = s 0 4 → s1 15 = s 15 → xf_ruleOf ln rs s1 fo = some u) ∧ CR ln s u ro ∧ ∀ M1 : Hp, M1 146 21 = fo → M1 148 = M 148 → M1 150 = M 150 → M1 151 = M 151 → RR M1 ro := by
  obtain ⟨r1, r2, r3, r4⟩ := ru
  by_cases hf : fo < 0
  · refine ⟨-1, none, fun s1 e1 e2 => ?_, (by decide : (-1 : Int) < 0), fun M1 m1 _ _ _ => ?_⟩
    · unfold xf_ruleOf
      rw [w32_eq (x := fo) (by omega) (by omega), if_pos hf]
    · show M1 146 21 = -1
      omega
  · obtain ⟨t, ht⟩ : ∃ t : Nat, fo = (t : Int) := ⟨fo.toNat, by omega⟩
    obtain ⟨R, c1, c2, c3, c4, c5⟩ := r4 t (by omega)
    refine ⟨s 15 t, some R, fun s1 e1 e2 => ?_, c1, fun M1 m1 m2 m3 m4 => ⟨t, by omega, by omega, RM_row m2 m3 m4 c2, c3, c4, c5⟩⟩
    unfold xf_ruleOf
    rw [e1, w32_eq (x := fo) (by omega) (by omega), w32_eq (x := s 0 4) (by omega) (by omega), if_neg hf, if_pos h2, ht, ixt t rfl (by omega) (by decide)]
    simp only [obs]
    rw [e2, hrs t (by omega)]
    unfold rsA
    rw [if_pos rfl]
    rfl
def rsF (s : Hp) : Nat → Int := fun i => if i < 6 then s 15 i else -1
theorem rsF_at {s : Hp} {i : Nat} (h : i < 6) : rsF s i = s 15 i := if_pos h
theorem rsF_ok {sh : Shp} {ln : Nat → Nat} {s : Hp} (ds : DS sh ln s) : ∀ i, okR ln sh (rsF s i) := fun i => by
  unfold rsF
  split
  · exact ds.1 i (by assumption)
  · exact okR_n (by decide)
theorem sameC_q {s s1 : Hp} (h : ∀ p, p ≠ 51 → p ≠ 52 → p ≠ 53 → s1 p = s p) : SameC s s1 := ⟨fun P hP => h P (by unfold VC at hP; omega) (by unfold VC at hP; omega) (by unfold VC at hP; omega), by rw [h 130 (by decide) (by decide) (by decide)], by rw [h 130 (by decide) (by decide) (by decide)]⟩
theorem sameM_p {M M1 : Hp} (h : PK M M1) : SameM M M1 := ⟨fun P hP => h.1 P (by unfold VM at hP; omega) (by unfold VM at hP; omega) (by unfold VM at hP; omega) (by unfold VM at hP; omega), h.2 1 (by decide), h.2 2 (by decide), h.2 21 (by decide), h.2 22 (by decide), h.2 26 (by decide)⟩
theorem sameC_rf {s : Hp} : SameC s s := ⟨fun _ _ => rfl, rfl, rfl⟩
section CO
variable {n : Nat} {w : pm_H}
theorem call_14 (hn : n < 512) (h : Inv n w) (a1 a2 a3 a4 a5 : Int32) : ob_ok 14 [a1, a2, a3, a4, a5] w (Inv (n + 1)) := by
  obtain ⟨sh, ln, s, M, ib, ds, rel⟩ := h
  obtain ⟨tp, ru, ⟨K, c, m, sr, pa⟩, -⟩ := id rel
  have bb := bi a1
  have bp := bi a2
  have bq := bi a3
  have br := bi a4
  have key : ∃ r s1 M1, xf_cost ln (rsF s) s a1.toInt a2.toInt a3.toInt a4.toInt = some (r, s1) ∧ xm_cost M a1.toInt a2.toInt a3.toInt a4.toInt = some (r, M1) ∧ SameC s s1 ∧ SameM M M1 := by
    generalize a1.toInt = b at bb
    generalize a2.toInt = p at bp
    generalize a3.toInt = sd at bq
    generalize a4.toInt = wy at br
    have W := sr.1
    obtain ⟨w8, w4, w0, w2, wl, wz, -⟩ := id W
    unfold xf_cost xm_cost xm_isFold
    rw [cl_hasPerson sr.2.1 W bb.1 bb.2, cl_hasFold sr.2.1 W bp.1 bp.2 bq.1 bq.2 br.1 br.2, rm_isPerson sr.2.2.1 W bb.1 bb.2, rm_isLine sr.2.2.1 W bp.1 bp.2, w32_eq (x := sd) bq.1 bq.2, w32_eq (x := wy) br.1 br.2, rm_in (v := sd) (by omega) (by omega) (by omega) (by omega) (by omega) (by omega), rm_in (v := wy) (by omega) (by omega) (by omega) (by omega) (by omega) (by omega)]
    simp only [obs, tb0]
    by_cases c1 : 0 ≤ b ∧ b < (m : Int)
    · simp only [eq_true c1, not_true_eq_false, if_false]
      by_cases c2 : 0 ≤ p ∧ p + 1 < K 0 2 ∧ 0 ≤ sd ∧ sd ≤ 1 ∧ 0 ≤ wy ∧ wy ≤ 1
      · have d1 : 0 ≤ p ∧ p + 1 < K 0 2 := ⟨c2.1, c2.2.1⟩
        have d2 : 0 ≤ sd ∧ sd ≤ 1 := ⟨c2.2.2.1, c2.2.2.2.1⟩
        have d3 : 0 ≤ wy ∧ wy ≤ 1 := ⟨c2.2.2.2.2.1, c2.2.2.2.2.2⟩
        rw [if_neg (c := ¬ (0 ≤ p ∧ p + 1 < K 0 2 ∧ 0 ≤ sd ∧ sd ≤ 1 ∧ 0 ≤ wy ∧ wy ≤ 1)) (fun k => k c2), if_neg (c := ¬ (0 ≤ p ∧ p + 1 < K 0 2)) (fun k => k d1), if_neg (c := ¬ (0 ≤ sd ∧ sd ≤ 1)) (fun k => k d2), if_neg (c := ¬ (0 ≤ wy ∧ wy ≤ 1)) (fun k => k d3)]
        simp only [obs]
        rw [if_neg (c := w32 1 = 0) (by decide)]
        obtain ⟨bn, rfl⟩ : ∃ x : Nat, b = (x : Int) := ⟨b.toNat, by omega⟩
        obtain ⟨pn, rfl⟩ : ∃ x : Nat, p = (x : Int) := ⟨p.toNat, by omega⟩
        obtain ⟨sn, rfl⟩ : ∃ x : Nat, sd = (x : Int) := ⟨sd.toNat, by omega⟩
        obtain ⟨wn, rfl⟩ : ∃ x : Nat, wy = (x : Int) := ⟨wy.toNat, by omega⟩
        obtain ⟨u, ro, u1, u2, u3⟩ := rule_of (rs := rsF s) ru (fun i hi => rsF_at hi) sr.2.2.2.2.2.2.2.2.1 sr.2.2.2.2.2.2.2.2.2.1
        have eu : xf_ruleInForce ln (rsF s) s = some u := by
          unfold xf_ruleInForce
          rw [sr.2.2.2.2.2.2.2.1, u1 s rfl rfl]
          rfl
        have hcode : 4 * (pn : Int) + 2 * (sn : Int) + (wn : Int) = ((4 * pn + 2 * sn + wn : Nat) : Int) := by omega
        have g1 : (4 * pn + 2 * sn + wn) / 4 = pn := by omega
        have g2 : (4 * pn + 2 * sn + wn) / 2 % 2 = sn := by omega
        have g3 : (4 * pn + 2 * sn + wn) % 2 = wn := by omega
        have hq := cl_quote (rs := rsF s) (f := 4 * pn + 2 * sn + wn) sr.2.1 W (by unfold awayM; omega) u2 (show bn < m by omega) (by omega)
        rw [g1, g2, g3] at hq
        rw [eu, hcode]
        simp only [obs]
        by_cases hc : canF (K 1) (K 3) (K 6) c pn wn
        · obtain ⟨s1, q1, q2, -⟩ := hq.2 hc
          obtain ⟨M1, p1, p2, -⟩ := rm_prices sr.2.2.1 W (u3 M rfl rfl rfl rfl) (show bn < m by omega) (p := pn) (sd := sn) (wy := wn) (by omega) (by omega) (by omega)
          rw [q1, (rm_can sr.2.2.1 W (by omega) (by omega)).1 hc]
          simp only [obs]
          rw [if_neg (by decide), p1]
          exact ⟨_, s1, M1, rfl, rfl, sameC_q q2, sameM_p p2⟩
        · rw [hq.1 hc, (rm_can sr.2.2.1 W (by omega) (by omega)).2 hc]
          simp only [obs]
          rw [if_pos (by decide)]
          exact ⟨_, s, M, rfl, rfl, sameC_rf, sameM_p PK_rf⟩
      · rw [if_pos (c := ¬ (0 ≤ p ∧ p + 1 < K 0 2 ∧ 0 ≤ sd ∧ sd ≤ 1 ∧ 0 ≤ wy ∧ wy ≤ 1)) c2]
        refine ⟨-1, s, M, rfl, ?_, sameC_rf, sameM_p PK_rf⟩
        by_cases d1 : 0 ≤ p ∧ p + 1 < K 0 2
        · rw [if_neg (c := ¬ (0 ≤ p ∧ p + 1 < K 0 2)) (fun k => k d1)]
          by_cases d2 : 0 ≤ sd ∧ sd ≤ 1
          · rw [if_neg (c := ¬ (0 ≤ sd ∧ sd ≤ 1)) (fun k => k d2), if_pos (c := ¬ (0 ≤ wy ∧ wy ≤ 1)) (by omega)]
            rfl
          · rw [if_pos (c := ¬ (0 ≤ sd ∧ sd ≤ 1)) d2]
            rfl
        · rw [if_pos (c := ¬ (0 ≤ p ∧ p + 1 < K 0 2)) d1]
          rfl
    · simp only [eq_false c1, not_false_eq_true, if_true, obs]
      exact ⟨-1, s, M, rfl, by rw [if_pos (by decide)], sameC_rf, sameM_p PK_rf⟩
  obtain ⟨r, s1, M1, e1, e2, e3, e4⟩ := key
  exact ob_na (args := [.int (Int32.ofInt a1.toInt), .int (Int32.ofInt a2.toInt), .int (Int32.ofInt a3.toInt), .int (Int32.ofInt a4.toInt)]) hn rfl (by rw [← vi, ← vi, ← vi, ← vi]; rfl) ib (fun P kr => xf_cost_ok (w0 := w) ib.2.2.1 (rsF_ok ds) ⟨ib.1, Fr_rf⟩ e1 (fun w1 h1 => kr w1 h1)) (fun w1 h1 P kr => xm_cost_ok (w0 := w1) StM_M ⟨h1, Fr_rf⟩ e2 (fun w2 h2 => kr w2 h2)) (DS_cg ds (e3.1 15 (by unfold VC; omega)) (e3.1 38 (by unfold VC; omega)) (e3.1 40 (by unfold VC; omega))) (REL_cg rel e3 e4)
end CO
