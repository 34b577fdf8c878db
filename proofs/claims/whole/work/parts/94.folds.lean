/-! folds: both sides -/
section AM
variable {u : Hp} {n m : Nat} {K : Pic} {mk : Nat → Int}
theorem rm_asMarked (hR : Rf (u 156) K n m) (w : WF K n m) (hm : ∀ j, j + 1 < n → u 156 (82 + j) = mk j ∧ 0 ≤ mk j ∧ mk j ≤ 2) {f : Nat} (hf : f < 64) (hp : ((f / 4 : Nat) : Int) + 1 < K 0 2) : (¬ mkOK n mk K f → xm_foldsAsMarked u (f : Int) = some (0, u)) ∧ (mkOK n mk K f → ∃ u1, xm_foldsAsMarked u (f : Int) = some (1, u1) ∧ Rf (u1 156) (trK K n (f / 4) (f / 2 % 2) (f % 2)) n m ∧ SD u u1) := by
  obtain ⟨h0, -⟩ := id hR
  obtain ⟨w8, -, -, -, wl, wz, -, -, wc, wj, -⟩ := id w
  have ep : xm_placeOf (f : Int) = some ((f / 4 : Nat) : Int) := congrArg some (cd_dp f hf)
  have es : xm_sideOf (f : Int) = some ((f / 2 % 2 : Nat) : Int) := congrArg some (cd_ds f hf)
  have ew : xm_wayOf (f : Int) = some ((f % 2 : Nat) : Int) := congrArg some (cd_dw f hf)
  have key : xm_foldsAsMarked u (f : Int) = if ∀ j, j < n - 1 → (knd (K 1) (K 3) j (f / 4) (f % 2) = 0 ∨ knd (K 1) (K 3) j (f / 4) (f % 2) = mk j) then (xm_turnsOver u ((f / 4 : Nat) : Int) ((f / 2 % 2 : Nat) : Int) ((f % 2 : Nat) : Int)).bind (fun o19 => some (1, o19)) else some (0, u) := by
    unfold xm_foldsAsMarked
    rw [ep]
    simp only [obs]
    refine Eq.trans (lpb_all (fun i => (i : Int)) (n - 1) (fun j => knd (K 1) (K 3) j (f / 4) (f % 2) = 0 ∨ knd (K 1) (K 3) j (f / 4) (f % 2) = mk j) (r := .inl ((n - 1 : Nat) : Int)) (v := .inr (0, u)) rfl (fun i hi => ?_) ?_) ?_
    · have hmi := hm i (by omega)
      have hk := knd_3 (K 1) (K 3) i (f / 4) (f % 2)
      show xm_foldsAsMarked_b7 u (f : Int) ((f / 4 : Nat) : Int) (i : Int) = _
      unfold xm_foldsAsMarked_b7
      rw [ix0 (by decide) (by decide), ew, ixt (n := 130) (82 + i) (by omega) (by omega) (by decide)]
      simp only [obs]
      rw [rm_kindBy hR w (show i + 1 < n by omega) (by omega) (by omega)]
      simp only [obs]
      rw [h0, w32_eq (x := (i : Int)) (by omega) (by omega), w32_eq (x := (n : Int) - 1) (by omega) (by omega), if_pos (by omega)]
      generalize knd (K 1) (K 3) i (f / 4) (f % 2) = kd at hk
      rw [hmi.1, w32_eq (x := kd) (by omega) (by omega), w32_eq (x := mk i) (by omega) (by omega)]
      by_cases q1 : kd = 0
      · rw [if_pos q1, if_pos (Or.inl q1)]; rfl
      · rw [if_neg q1]
        by_cases q2 : kd = mk i
        · rw [if_pos q2, if_pos (Or.inr q2)]; rfl
        · rw [if_neg q2, if_neg (by omega)]
    · show xm_foldsAsMarked_b7 u (f : Int) ((f / 4 : Nat) : Int) ((n - 1 : Nat) : Int) = _
      unfold xm_foldsAsMarked_b7
      rw [ix0 (by decide) (by decide)]
      simp only [obs]
      rw [h0, w32_eq (x := ((n - 1 : Nat) : Int)) (by omega) (by omega), w32_eq (x := (n : Int) - 1) (by omega) (by omega), if_neg (by omega)]
    · rw [es, ew]
      rfl
  refine ⟨fun hq => ?_, fun hq => ?_⟩
  · rw [key]
    exact if_neg hq
  · rw [key]
    obtain ⟨s3, g1, g2, g3⟩ := rm_turn hR w (p := f / 4) (sd := f / 2 % 2) (wy := f % 2) hp (by omega) (by omega)
    refine ⟨s3, ?_, g2, g3⟩
    refine Eq.trans (if_pos hq) ?_
    rw [g1]
    rfl
theorem rm_areMarked (hR : Rf (u 156) K n m) (w : WF K n m) (hm : ∀ j, j + 1 < n → u 156 (82 + j) = mk j ∧ 0 ≤ mk j ∧ mk j ≤ 2) : xm_areMarked u = some (if glM n mk K = true then 1 else 0) := by
  obtain ⟨h0, -, -, -, -, hj, -⟩ := id hR
  obtain ⟨w8, -, -, -, wl, wz, -, -, wc, wj, -⟩ := id w
  have key : xm_areMarked u = if ∀ j, j < n - 1 → K 6 j = mk j then some 1 else some 0 := by
    unfold xm_areMarked
    refine Eq.trans (lpb_all (fun i => (i : Int)) (n - 1) (fun j => K 6 j = mk j) (r := .inl ((n - 1 : Nat) : Int)) (v := .inr 0) rfl (fun i hi => ?_) ?_) rfl
    · have hwj := wj i (by omega)
      have hmi := hm i (by omega)
      show xm_areMarked_b2 u (i : Int) = _
      unfold xm_areMarked_b2
      rw [ix0 (by decide) (by decide), ixt (n := 130) (44 + i) (by omega) (by omega) (by decide), ixt (n := 130) (82 + i) (by omega) (by omega) (by decide)]
      simp only [obs]
      rw [h0, w32_eq (x := (i : Int)) (by omega) (by omega), w32_eq (x := (n : Int) - 1) (by omega) (by omega), if_pos (by omega), hj i (by omega), hmi.1, w32_eq (x := K 6 i) (by omega) (by omega), w32_eq (x := mk i) (by omega) (by omega)]
      by_cases q1 : K 6 i = mk i
      · rw [if_pos q1, if_pos q1]; rfl
      · rw [if_neg q1, if_neg q1]
    · show xm_areMarked_b2 u ((n - 1 : Nat) : Int) = _
      unfold xm_areMarked_b2
      rw [ix0 (by decide) (by decide)]
      simp only [obs]
      rw [h0, w32_eq (x := ((n - 1 : Nat) : Int)) (by omega) (by omega), w32_eq (x := (n : Int) - 1) (by omega) (by omega), if_neg (by omega)]
  rw [key]
  unfold glM
  by_cases hq : ∀ j, j < n - 1 → K 6 j = mk j
  · rw [if_pos hq, if_pos (bP_1 hq)]
  · rw [if_neg hq, if_neg (by rw [bP_0 hq]; decide)]
end AM
section HM
variable {n m : Nat} {mk : Nat → Int} {M : Hp}
theorem HS_marks (hm : ∀ j, j + 1 < n → M 156 (82 + j) = mk j ∧ 0 ≤ mk j ∧ mk j ≤ 2) : HS n m (-1) (stpM n mk) M := by
  intro u K f fx hR w hf
  have w8 := w.1
  have wl := w.2.2.2.2.1
  have es : stepM (-1) u (f : Int) = xm_foldsAsMarked u (f : Int) := by
    unfold stepM
    rw [if_pos (by decide)]
  have ha := rm_asMarked (mk := mk) hR w (fun j hj => by rw [fx.2.2 _ (by omega)]; exact hm j hj) (f := f) (by omega) hf
  rw [es]
  by_cases hk : mkOK n mk K f
  · rw [stpM_y hk]
    refine ⟨fun q => (by cases q), fun K1 hK => ?_⟩
    cases hK
    obtain ⟨u1, e1, e2, e3⟩ := ha.2 hk
    exact ⟨u1, e1, e2, WF_tr w hf (by omega), FD_sd e3⟩
  · rw [stpM_n hk]
    exact ⟨fun _ => ⟨u, ha.1 hk, FD_rf⟩, fun K1 hK => (by cases hK)⟩
theorem HG_marks (hm : ∀ j, j + 1 < n → M 156 (82 + j) = mk j ∧ 0 ≤ mk j ∧ mk j ≤ 2) : HG n m (-1) 0 (glM n mk) M := by
  intro u K fx hR w
  unfold xm_isGoal
  rw [if_pos (by decide), rm_areMarked (mk := mk) hR w (fun j hj => by rw [fx.2.2 _ (by omega)]; exact hm j hj)]
  simp only [obs]
  by_cases hg : glM n mk K = true
  · rw [if_pos hg, if_pos (by decide)]
  · rw [if_neg hg, if_pos (by decide)]
end HM
theorem back_same2 {M A u v : Hp} (a2 : ∀ P, P ≠ 160 → P ≠ 156 → P ≠ 157 → A P = M P) (a4 : ∀ q, q < 10 ∨ 55 ≤ q → A 156 q = M 156 q) (a3 : ∀ i, i < 45 → A 160 i = M 156 (10 + i)) (hu : FY A u) (v2 : ∀ P, P ≠ 156 → v P = u P) (v3 : ∀ i, i < 45 → v 156 (10 + i) = u 160 i) (v4 : ∀ q, q < 10 ∨ 55 ≤ q → v 156 q = u 156 q) : SameM M v := by
  have v146 : ∀ q, q ≠ 18 → q ≠ 30 → v 146 q = M 146 q := fun q h1 h2 => by rw [v2 146 (by decide), hu.2.1 q h1 h2, a2 146 (by decide) (by decide) (by decide)]
  refine ⟨fun P hP => ?_, v146 1 (by decide) (by decide), v146 2 (by decide) (by decide), v146 21 (by decide) (by decide), v146 22 (by decide) (by decide), v146 26 (by decide) (by decide)⟩
  by_cases h6 : P = 156
  · subst h6
    funext q
    by_cases hq : 10 ≤ q ∧ q < 55
    · have := v3 (q - 10) (by omega)
      rw [show 10 + (q - 10) = q by omega] at this
      rw [this, hu.1 160 (by decide) (by decide) (by decide) (by decide) (by decide) (by decide) (by decide) (by decide), a3 _ (by omega), show 10 + (q - 10) = q by omega]
    · rw [v4 q (by omega), hu.2.2 q (by omega), a4 q (by omega)]
  · unfold VM at hP
    rw [v2 P h6, hu.1 P (by omega) (by omega) (by omega) h6 (by omega) (by omega) (by omega) (by omega), a2 P (by omega) (by omega) (by omega)]
def op0 (K : Pic) (n : Nat) : Pic := fun r i => if r = 6 then 0 else opK K n r i
theorem WF_op0 {K : Pic} {n m : Nat} (w : WF K n m) : WF (op0 K n) n m := by
  obtain ⟨w8, w4, w0, w2, wl, wz, wd0, wd9, wc, wj, wq⟩ := WF_op w
  refine ⟨w8, w4, w0, w2, wl, wz, wd0, wd9, wc, fun j hj => ?_, wq⟩
  obtain ⟨a1, a2, -, -⟩ := wj j hj
  exact ⟨a1, a2, (by decide : (0 : Int) ≤ 0), (by decide : (0 : Int) ≤ 2)⟩
section FO1
variable {n : Nat} {w : pm_H}
theorem call_16 (hn : n < 512) (h : Inv n w) (a1 a2 a3 a4 a5 : Int32) : ob_ok 16 [a1, a2, a3, a4, a5] w (Inv (n + 1)) := by
  obtain ⟨sh, ln, s, M, ib, ds, rel⟩ := h
  obtain ⟨tp, ru, ⟨K, c, m, sr, pa⟩, im, bo, le⟩ := id rel
  have bp := bi a1
  have key : ∃ r s1 M1, xf_folds s a1.toInt = some (r, s1) ∧ xm_folds M a1.toInt = some (r, M1) ∧ SameC s s1 ∧ SameM M M1 := by
    generalize a1.toInt = p at bp
    have W := sr.1
    obtain ⟨w8, w4, w0, w2, wl, wz, -⟩ := id W
    have smr : SameM M M := ⟨fun _ _ => rfl, rfl, rfl, rfl, rfl, rfl⟩
    unfold xf_folds xm_folds
    rw [rm_isCloth sr.2.2.1 W, w32_eq (x := p) bp.1 bp.2, rm_in (v := p) (by omega) (by omega) (by omega) (by omega) (by omega) (by omega), show s 17 0 = (c : Int) from sr.2.1.1, w32_eq (x := (c : Int)) (by omega) (by omega), show w32 6 = 6 by decide, show w32 (-1) = -1 by decide]
    simp only [obs, tb0]
    by_cases c1 : (-1 ≤ p ∧ p ≤ 6) ∧ 0 < c
    · obtain ⟨d3, d4⟩ := c1
      have h2 := (w2 d4).1
      rw [if_neg (c := p < -1) (by omega), if_neg (c := 6 < p) (by omega), if_neg (c := (c : Int) = 0) (by omega), if_neg (c := ¬ 0 < c) (fun k => k d4), if_neg (c := ¬ (-1 ≤ p ∧ p ≤ 6)) (fun k => k d3)]
      generalize hmk : (fun j => M 156 (82 + j)) = mk
      have hmkM : ∀ j, j + 1 < c → M 156 (82 + j) = mk j ∧ 0 ≤ mk j ∧ mk j ≤ 2 := fun j hj => by
        have := (sr.2.2.2.2.2.1 j hj).2
        rw [← hmk]
        exact ⟨rfl, this⟩
      have hmkS : ∀ j, j + 1 < c → s 35 j = mk j ∧ 0 ≤ mk j ∧ mk j ≤ 2 := fun j hj => by
        have := sr.2.2.2.2.2.1 j hj
        rw [← hmk]
        exact this
      obtain ⟨s1, e1, e2, e3⟩ := df_seek (mk := mk) h2 w8 le hmkS
      obtain ⟨r, e4, e5⟩ := cl_answer e3 (by decide) (p := p) d3.1 (by omega)
      rw [e1]
      simp only [obs]
      rw [e4]
      simp only [obs]
      obtain ⟨A, k1, k2, k3⟩ := rm_keeps (M := M)
      rw [k1]
      simp only [obs]
      have hRA : Rf (A 156) K c m := by rw [k2 156 (by decide)]; exact sr.2.2.1
      obtain ⟨B, o1, o2, o3⟩ := rm_open hRA W
      rw [o1]
      simp only [obs]
      -- creases are taken away
      obtain ⟨q, l1, l2, l3, l4⟩ := lp_forR (B := fun (q : Int × Hp) => xm_folds_b34 q.2 p q.1) (fun i (q : Int × Hp) => q.1 = (i : Int) ∧ (∀ P, P ≠ 156 → q.2 P = B P) ∧ (∀ j, j < i → q.2 156 (44 + j) = 0) ∧ ∀ j, j < 44 ∨ 51 ≤ j → q.2 156 j = B 156 j) 7 (fun q : Int × Hp => (∀ P, P ≠ 156 → q.2 P = B P) ∧ (∀ j, j < 7 → q.2 156 (44 + j) = 0) ∧ ∀ j, j < 44 ∨ 51 ≤ j → q.2 156 j = B 156 j) (by
        rintro i ⟨x, t⟩ hi ⟨j1, j2, j3, j4⟩
        replace j1 : x = (i : Int) := j1
        replace j2 : ∀ P, P ≠ 156 → t P = B P := j2
        replace j3 : ∀ j, j < i → t 156 (44 + j) = 0 := j3
        replace j4 : ∀ j, j < 44 ∨ 51 ≤ j → t 156 j = B 156 j := j4
        subst j1
        show ∃ q1, xm_folds_b34 t p (i : Int) = some (Sum.inl q1) ∧ _
        unfold xm_folds_b34
        rw [w32_eq (x := (i : Int)) (by omega) (by omega), if_pos (by rw [show w32 7 = 7 by decide]; omega), ixt (n := 130) (44 + i) (by omega) (by omega) (by decide)]
        simp only [obs]
        refine ⟨_, rfl, by show (i : Int) + 1 = _; omega, fun P hP => ?_, fun j hj => ?_, fun j hj => ?_⟩
        · show uh t 156 (44 + i) 0 P = _
          rw [uh_row hP]; exact j2 P hP
        · show uh t 156 (44 + i) 0 156 (44 + j) = _
          by_cases hji : j = i
          · subst hji; rw [uh_rc]
          · rw [uh_ro _ _ _ _ (by omega)]; exact j3 j (by omega)
        · show uh t 156 (44 + i) 0 156 j = _
          rw [uh_ro _ _ _ _ (by omega)]; exact j4 j hj) (by
        rintro ⟨x, t⟩ ⟨j1, j2, j3, j4⟩
        replace j1 : x = ((7 : Nat) : Int) := j1
        subst j1
        refine ⟨_, ?_, j2, j3, j4⟩
        show xm_folds_b34 t p ((7 : Nat) : Int) = _
        unfold xm_folds_b34
        rw [if_neg (by decide)]) (s := (0, B)) ⟨rfl, fun _ _ => rfl, fun j hj => by omega, fun _ _ => rfl⟩
      obtain ⟨x, C⟩ := q
      replace l2 : ∀ P, P ≠ 156 → C P = B P := l2
      replace l3 : ∀ j, j < 7 → C 156 (44 + j) = 0 := l3
      replace l4 : ∀ j, j < 44 ∨ 51 ≤ j → C 156 j = B 156 j := l4
      rw [l1]
      simp only [obs]
      have hRC : Rf (C 156) (op0 K c) c m := by
        obtain ⟨b0, b1, b2, b3, b4, b5, b6⟩ := o2
        refine ⟨by rw [l4 0 (by omega)]; exact b0, by rw [l4 1 (by omega)]; exact b1, by rw [l4 10 (by omega)]; exact b2, by rw [l4 11 (by omega)]; exact b3, fun i hi => ?_, fun j hj => l3 j (by omega), fun i hi => ?_⟩
        · rw [l4 _ (by omega), l4 _ (by omega), l4 _ (by omega), l4 _ (by omega), l4 _ (by omega)]; exact b4 i hi
        · rw [l4 _ (by omega)]; exact b6 i hi
      have Cfar : ∀ q, q < 10 ∨ 55 ≤ q → C 156 q = M 156 q := fun q hq => by rw [l4 q (by omega), o3.2 q hq, k2 156 (by decide)]
      have hmC : ∀ j, j + 1 < c → uh C 146 30 (-1) 156 (82 + j) = mk j ∧ 0 ≤ mk j ∧ mk j ≤ 2 := fun j hj => by rw [uh_row (by decide), Cfar _ (by omega)]; exact hmkM j hj
      obtain ⟨D, f1, f2, f3⟩ := fr_few (x2 := -1) (x3 := 0) (stp := stpM c mk) (gl := glM c mk) (u := C) (n := c) (m := m) d4 (HS_marks hmC) (HG_marks hmC) (most := 7) (by decide) (K := op0 K c) (WF_op0 W) hRC
      replace f1 : xm_findsFewest C 7 (-1) 0 = some D := f1
      rw [f1]
      simp only [obs]
      obtain ⟨v, v1, v2, v3, v4⟩ := rm_laysBack (M := D)
      rw [v1]
      simp only [obs]
      have eS : (fun d => srch (stpM c mk) (glM c mk) d (op0 K c)) = fun d => srch (stp0 c mk) (glM c mk) d (flK c) := by
        funext d
        rw [eqf_s (n := c) (mk := mk) d (flK c) (op0 K c) ⟨rfl, fun i hi => ⟨rfl, rfl⟩, fun j hj => rfl⟩]
        exact srch_0 d4 d (flK c) (WFF_fl h2 w8)
      rw [eS] at f3
      obtain ⟨r2, g1, g2⟩ := rm_answer (S := fun d => srch (stp0 c mk) (glM c mk) d (flK c)) (most := 7) (u := v) (by rw [v2 146 (by decide), v2 161 (by decide)]; exact f3) (by decide) (p := p) d3.1 (by omega)
      rw [g1]
      simp only [obs]
      have : r = r2 := ansF_u e5 g2
      subst this
      refine ⟨r, s1, v, rfl, rfl, FQ_sc e2, back_same2 (A := C) (fun P p1 p2 p3 => ?_) Cfar (fun i hi => ?_) f2 v2 v3 v4⟩
      · rw [l2 P p2, o3.1 P p2 p3, k2 P p1]
      · rw [l2 160 (by decide), o3.1 160 (by decide) (by decide)]; exact k3 i hi
    · refine ⟨-3, s, M, ?_, ?_, sameC_rf, smr⟩
      · by_cases h5 : p < -1
        · rw [if_pos h5]
        rw [if_neg h5]
        by_cases h6 : 6 < p
        · rw [if_pos h6]
        rw [if_neg h6, if_pos (by omega)]
      · by_cases h1 : 0 < c
        · rw [if_neg (c := ¬ 0 < c) (fun k => k h1), if_pos (c := ¬ (-1 ≤ p ∧ p ≤ 6)) (fun h4 => c1 ⟨h4, h1⟩)]
        · rw [if_pos (c := ¬ 0 < c) h1]
  obtain ⟨r, s1, M1, e1, e2, e3, e4⟩ := key
  exact ob_na (args := [.int (Int32.ofInt a1.toInt)]) hn rfl (by rw [← vi]; rfl) ib (fun P kr => xf_folds_ok (w0 := w) ib.2.2.1 ⟨ib.1, Fr_rf⟩ e1 (fun w1 h1 => kr w1 h1)) (fun w1 h1 P kr => xm_folds_ok (w0 := w1) StM_M ⟨h1, Fr_rf⟩ e2 (fun w2 h2 => kr w2 h2)) (DS_cg ds (e3.1 15 (by unfold VC; omega)) (e3.1 38 (by unfold VC; omega)) (e3.1 40 (by unfold VC; omega))) (REL_cg rel e3 e4)
end FO1
