/-! dearest -/
noncomputable def bsF (ro : Option (List Cls)) (K : Nat → Nat → Int) (n b : Nat) : Nat → Int × Int
  | 0 => (-2, -2)
  | f + 1 => @ite _ (canF (K 1) (K 3) (K 6) n (f / 4) (f % 2) ∧ (bsF ro K n b f).1 < tot ro K n b (f / 4) (f / 2 % 2) (f % 2)) (Classical.propDecidable _) (tot ro K n b (f / 4) (f / 2 % 2) (f % 2), (f : Int)) (bsF ro K n b f)
theorem bsF_bd {ro : Option (List Cls)} {K : Nat → Nat → Int} {n m b : Nat} (w : WF K n m) : ∀ f, -2 ≤ (bsF ro K n b f).1 ∧ (bsF ro K n b f).1 ≤ 7992 := by
  intro f
  induction f with
  | zero => exact ⟨(by decide : (-2 : Int) ≤ -2), (by decide : (-2 : Int) ≤ 7992)⟩
  | succ f ih =>
    have ht := tot_bd (ro := ro) (b := b) (p := f / 4) (sd := f / 2 % 2) (wy := f % 2) w
    unfold bsF
    split
    · exact ⟨by omega, ht.2⟩
    · exact ih
section DE
variable {n : Nat} {w : pm_H}
theorem call_22 (hn : n < 512) (h : Inv n w) (a1 a2 a3 a4 a5 : Int32) : ob_ok 22 [a1, a2, a3, a4, a5] w (Inv (n + 1)) := by
  obtain ⟨sh, ln, s, M, ib, ds, rel⟩ := h
  obtain ⟨tp, ru, ⟨K, c, m, sr, pa⟩, -⟩ := id rel
  have bb := bi a1
  have bp := bi a2
  have key : ∃ r s1 M1, xf_dearest ln (rsF s) s a1.toInt a2.toInt = some (r, s1) ∧ xm_dearest M a1.toInt a2.toInt = some (r, M1) ∧ SameC s s1 ∧ SameM M M1 := by
    generalize a1.toInt = b at bb
    generalize a2.toInt = p at bp
    have W := sr.1
    obtain ⟨w8, w4, w0, w2, wl, wz, -⟩ := id W
    unfold xf_dearest xm_dearest
    rw [cl_hasPerson sr.2.1 W bb.1 bb.2, rm_isPerson sr.2.2.1 W bb.1 bb.2, w32_eq (x := p) bp.1 bp.2, rm_in (v := p) (by omega) (by omega) (by omega) (by omega) (by omega) (by omega)]
    simp only [obs, tb0]
    by_cases c1 : 0 ≤ b ∧ b < (m : Int)
    · simp only [eq_true c1, not_true_eq_false, if_false]
      have h1 : w32 1 = 1 := by decide
      rw [h1]
      by_cases c2 : 0 ≤ p ∧ p ≤ 1
      · rw [if_neg (c := p < 0) (by omega), if_neg (c := 1 < p) (by omega), if_neg (c := ¬ (0 ≤ p ∧ p ≤ 1)) (fun k => k c2)]
        obtain ⟨bn, rfl⟩ : ∃ x : Nat, b = (x : Int) := ⟨b.toNat, by omega⟩
        obtain ⟨u, ro, u1, u2, u3⟩ := rule_of (rs := rsF s) ru (fun i hi => rsF_at hi) sr.2.2.2.2.2.2.2.2.1 sr.2.2.2.2.2.2.2.2.2.1
        rw [cl_foldCount sr.2.1 W]
        simp only [obs]
        obtain ⟨L, hL, hLw⟩ : ∃ L : Nat, (if 0 < 4 * (K 0 2 - 1) then 4 * (K 0 2 - 1) else 0) = (L : Int) ∧ (L = 0 ∧ K 0 2 < 2 ∨ (L : Int) = 4 * (K 0 2 - 1)) := by
          by_cases hk : 0 < 4 * (K 0 2 - 1)
          · rw [if_pos hk]; exact ⟨(4 * (K 0 2 - 1)).toNat, by omega, by omega⟩
          · rw [if_neg hk]; exact ⟨0, rfl, Or.inl ⟨rfl, by omega⟩⟩
        rw [hL]
        obtain ⟨r, e1, e2⟩ : ∃ r, lp (fun (q : Int × Int × Int × Hp) => xf_dearest_b44 ln (rsF s) q.2.2.2 (bn : Int) p q.1 q.2.1 (L : Int) q.2.2.1) ((-2), (-2), 0, s) = some r ∧ (fun r => r.1 = (bsF ro K c bn L).1 ∧ r.2.1 = (bsF ro K c bn L).2 ∧ ∀ P, P ≠ 51 → P ≠ 52 → P ≠ 53 → r.2.2.2 P = s P) r := by
          refine lp_forR (fun i (q : Int × Int × Int × Hp) => q.1 = (bsF ro K c bn i).1 ∧ q.2.1 = (bsF ro K c bn i).2 ∧ q.2.2.1 = (i : Int) ∧ ∀ P, P ≠ 51 → P ≠ 52 → P ≠ 53 → q.2.2.2 P = s P) L _ ?_ ?_ ⟨rfl, rfl, rfl, fun _ _ _ _ => rfl⟩
          · rintro i ⟨x4, x5, x7, s1⟩ hi ⟨j1, j2, j3, j4⟩
            have j4 : ∀ P, P ≠ 51 → P ≠ 52 → P ≠ 53 → s1 P = s P := j4
            have j1 : x4 = _ := j1
            have j2 : x5 = _ := j2
            have j3 : x7 = _ := j3
            have hb := bsF_bd (ro := ro) (b := bn) W i
            have hcl : Cl s1 17 K c m := Cl_row sr.2.1 (fun i hi => j4 _ (by omega) (by omega) (by omega))
            have hcr : CR ln s1 u ro := CR_row u2 (fun p hp => j4 p (by omega) (by omega) (by omega))
            have eu : xf_ruleInForce ln (rsF s) s1 = some u := by
              unfold xf_ruleInForce
              rw [j4 16 (by decide) (by decide) (by decide), sr.2.2.2.2.2.2.2.1, u1 s1 (by rw [j4 0 (by decide) (by decide) (by decide)]) (j4 15 (by decide) (by decide) (by decide))]
              rfl
            have hq := cl_quote (rs := rsF s) (f := i) hcl W (by unfold awayM; omega) hcr (show bn < m by omega) (by omega)
            have ht := tot_bd (ro := ro) (b := bn) (p := i / 4) (sd := i / 2 % 2) (wy := i % 2) W
            show ∃ q1, xf_dearest_b44 ln (rsF s) s1 (bn : Int) p x4 x5 (L : Int) x7 = some (Sum.inl q1) ∧ _
            unfold xf_dearest_b44
            rw [j3, w32_eq (x := (i : Int)) (by omega) (by omega), w32_eq (x := (L : Int)) (by omega) (by omega), if_pos (by omega), eu]
            simp only [obs]
            by_cases hc : canF (K 1) (K 3) (K 6) c (i / 4) (i % 2)
            · obtain ⟨s2, q1, q2, -⟩ := hq.2 hc
              rw [q1]
              simp only [obs]
              have q3 : ∀ P, P ≠ 51 → P ≠ 52 → P ≠ 53 → s2 P = s P := fun P k1 k2 k3 => (q2 P k1 k2 k3).trans (j4 P k1 k2 k3)
              rw [w32_eq (x := x4) (by omega) (by omega), w32_eq (by omega) (by omega), j1]
              by_cases hl : (bsF ro K c bn i).1 < tot ro K c bn (i / 4) (i / 2 % 2) (i % 2)
              · rw [if_pos hl]
                have eb : bsF ro K c bn (i + 1) = (tot ro K c bn (i / 4) (i / 2 % 2) (i % 2), (i : Int)) := by
                  rw [bsF, if_pos ⟨hc, hl⟩]
                exact ⟨_, rfl, by rw [eb], by rw [eb], show (i : Int) + 1 = ((i + 1 : Nat) : Int) by omega, q3⟩
              · rw [if_neg hl]
                have eb : bsF ro K c bn (i + 1) = bsF ro K c bn i := by
                  rw [bsF, if_neg (fun k => hl k.2)]
                exact ⟨_, rfl, by rw [eb], by rw [eb]; exact j2, show (i : Int) + 1 = ((i + 1 : Nat) : Int) by omega, q3⟩
            · rw [hq.1 hc]
              simp only [obs]
              rw [w32_eq (x := x4) (by omega) (by omega), if_neg (by rw [show w32 (-2) = -2 by decide]; omega)]
              have eb : bsF ro K c bn (i + 1) = bsF ro K c bn i := by
                rw [bsF, if_neg (fun k => hc k.1)]
              exact ⟨_, rfl, by rw [eb]; exact j1, by rw [eb]; exact j2, show (i : Int) + 1 = ((i + 1 : Nat) : Int) by omega, j4⟩
          · rintro ⟨x4, x5, x7, s1⟩ ⟨j1, j2, j3, j4⟩
            have j3 : x7 = _ := j3
            show ∃ q1, xf_dearest_b44 ln (rsF s) s1 (bn : Int) p x4 x5 (L : Int) x7 = some (Sum.inr q1) ∧ _
            unfold xf_dearest_b44
            rw [j3, if_neg (by omega)]
            exact ⟨_, rfl, j1, j2, j4⟩
        obtain ⟨t, f1, f2⟩ : ∃ r, lp (fun (q : Int × Int × Int × Hp) => xm_dearest_b30 q.2.2.2 (bn : Int) p q.1 q.2.1 q.2.2.1) ((-2), (-2), 0, M) = some r ∧ (fun r => r.2.1 = (bsF ro K c bn L).1 ∧ r.1 = (bsF ro K c bn L).2 ∧ PK M r.2.2.2) r := by
          refine lp_forR (fun i (q : Int × Int × Int × Hp) => q.2.1 = (bsF ro K c bn i).1 ∧ q.1 = (bsF ro K c bn i).2 ∧ q.2.2.1 = (i : Int) ∧ PK M q.2.2.2) L _ ?_ ?_ ⟨rfl, rfl, rfl, PK_rf⟩
          · rintro i ⟨x5, x4, x7, M1⟩ hi ⟨j1, j2, j3, j4⟩
            have j4 : PK M M1 := j4
            have j1 : x4 = _ := j1
            have j2 : x5 = _ := j2
            have j3 : x7 = _ := j3
            have hb := bsF_bd (ro := ro) (b := bn) W i
            have hrf : Rf (M1 156) K c m := by
              rw [j4.1 156 (by decide) (by decide) (by decide) (by decide)]; exact sr.2.2.1
            have hw10 : M1 156 10 = K 0 2 := hrf.2.2.1
            have hrr : RR M1 ro := RR_pk j4 (u3 M rfl rfl rfl rfl)
            have ht := tot_bd (ro := ro) (b := bn) (p := i / 4) (sd := i / 2 % 2) (wy := i % 2) W
            obtain ⟨M2, p1, p2, -⟩ := rm_prices hrf W hrr (show bn < m by omega) (p := i / 4) (sd := i / 2 % 2) (wy := i % 2) (by omega) (by omega) (by omega)
            show ∃ q1, xm_dearest_b30 M1 (bn : Int) p x5 x4 x7 = some (Sum.inl q1) ∧ _
            unfold xm_dearest_b30 xm_placeOf xm_wayOf xm_sideOf
            rw [j3, ix10 (by decide) (by decide)]
            simp only [obs]
            rw [hw10, w32_eq (x := (i : Int)) (by omega) (by omega), w32_eq (x := 4 * (K 0 2 - 1)) (by omega) (by omega), if_pos (by omega), cd_dp i (by omega), cd_dw i (by omega), cd_ds i (by omega)]
            by_cases hc : canF (K 1) (K 3) (K 6) c (i / 4) (i % 2)
            · rw [(rm_can hrf W (by omega) (by omega)).1 hc]
              simp only [obs]
              rw [if_neg (by decide), p1]
              simp only [obs]
              rw [w32_eq (x := x4) (by omega) (by omega), w32_eq (by omega) (by omega), j1]
              by_cases hl : (bsF ro K c bn i).1 < tot ro K c bn (i / 4) (i / 2 % 2) (i % 2)
              · rw [if_pos hl]
                have eb : bsF ro K c bn (i + 1) = (tot ro K c bn (i / 4) (i / 2 % 2) (i % 2), (i : Int)) := by
                  rw [bsF, if_pos ⟨hc, hl⟩]
                exact ⟨_, rfl, by rw [eb], by rw [eb], show (i : Int) + 1 = ((i + 1 : Nat) : Int) by omega, PK_tr j4 p2⟩
              · rw [if_neg hl]
                have eb : bsF ro K c bn (i + 1) = bsF ro K c bn i := by
                  rw [bsF, if_neg (fun k => hl k.2)]
                exact ⟨_, rfl, by rw [eb], by rw [eb]; exact j2, show (i : Int) + 1 = ((i + 1 : Nat) : Int) by omega, PK_tr j4 p2⟩
            · rw [(rm_can hrf W (by omega) (by omega)).2 hc]
              simp only [obs]
              rw [if_pos (by decide)]
              have eb : bsF ro K c bn (i + 1) = bsF ro K c bn i := by
                rw [bsF, if_neg (fun k => hc k.1)]
              exact ⟨_, rfl, by rw [eb]; exact j1, by rw [eb]; exact j2, show (i : Int) + 1 = ((i + 1 : Nat) : Int) by omega, j4⟩
          · rintro ⟨x5, x4, x7, M1⟩ ⟨j1, j2, j3, j4⟩
            have j4 : PK M M1 := j4
            have j3 : x7 = _ := j3
            have hrf : Rf (M1 156) K c m := by
              rw [j4.1 156 (by decide) (by decide) (by decide) (by decide)]; exact sr.2.2.1
            have hw10 : M1 156 10 = K 0 2 := hrf.2.2.1
            show ∃ q1, xm_dearest_b30 M1 (bn : Int) p x5 x4 x7 = some (Sum.inr q1) ∧ _
            unfold xm_dearest_b30
            rw [j3, ix10 (by decide) (by decide)]
            simp only [obs]
            rw [hw10, w32_eq (x := (L : Int)) (by omega) (by omega), w32_eq (x := 4 * (K 0 2 - 1)) (by omega) (by omega), if_neg (by omega)]
            exact ⟨_, rfl, j1, j2, j4⟩
        obtain ⟨r1, r2, r3, r4⟩ := r
        obtain ⟨t1, t2, t3, t4⟩ := t
        obtain ⟨g1, g2, g3⟩ := e2
        obtain ⟨k1, k2, k3⟩ := f2
        have g1 : r1 = _ := g1
        have g2 : r2 = _ := g2
        have k1 : t2 = _ := k1
        have k2 : t1 = _ := k2
        rw [e1, f1]
        simp only [obs]
        by_cases hp : p = 0
        · rw [if_pos hp, if_pos hp, g1, k1]
          exact ⟨_, r4, t4, rfl, rfl, sameC_q g3, sameM_p k3⟩
        · rw [if_neg hp, if_neg hp, g2, k2]
          exact ⟨_, r4, t4, rfl, rfl, sameC_q g3, sameM_p k3⟩
      · refine ⟨-1, s, M, ?_, ?_, sameC_rf, sameM_p PK_rf⟩
        · by_cases h0 : p < 0
          · rw [if_pos h0]
          · rw [if_neg h0, if_pos (c := 1 < p) (by omega)]
        · rw [if_pos c2]
    · simp only [eq_false c1, not_false_eq_true, if_true, obs]
      exact ⟨-1, s, M, rfl, rfl, sameC_rf, sameM_p PK_rf⟩
  obtain ⟨r, s1, M1, e1, e2, e3, e4⟩ := key
  exact ob_na (args := [.int (Int32.ofInt a1.toInt), .int (Int32.ofInt a2.toInt)]) hn rfl (by rw [← vi, ← vi]; rfl) ib (fun P kr => xf_dearest_ok (w0 := w) ib.2.2.1 (rsF_ok ds) ⟨ib.1, Fr_rf⟩ e1 (fun w1 h1 => kr w1 h1)) (fun w1 h1 P kr => xm_dearest_ok (w0 := w1) StM_M ⟨h1, Fr_rf⟩ e2 (fun w2 h2 => kr w2 h2)) (DS_cg ds (e3.1 15 (by unfold VC; omega)) (e3.1 38 (by unfold VC; omega)) (e3.1 40 (by unfold VC; omega))) (REL_cg rel e3 e4)
end DE
