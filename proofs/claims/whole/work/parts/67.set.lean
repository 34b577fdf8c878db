/-! calls that set one thing -/
theorem Rf_cg {f f1 : Nat → Int} {K : Nat → Nat → Int} {n m : Nat} (h : Rf f K n m) (hn : n ≤ 8) (hm : m ≤ 4) (hf : ∀ q, q < 63 → f1 q = f q) : Rf f1 K n m := by
  obtain ⟨h0, h1, h2, h3, h4, h5, h6⟩ := h
  refine ⟨(hf 0 (by decide)).trans h0, (hf 1 (by decide)).trans h1, (hf 10 (by decide)).trans h2, (hf 11 (by decide)).trans h3, fun c hc => ?_, fun j hj => ?_, fun p hp => ?_⟩
  · rw [hf _ (by omega), hf _ (by omega), hf _ (by omega), hf _ (by omega), hf _ (by omega)]; exact h4 c hc
  · rw [hf _ (by omega)]; exact h5 j hj
  · rw [hf _ (by omega)]; exact h6 p hp
theorem PastR_cg {s M s1 M1 : Hp} {n m : Nat} (h : PastR s M n m) (hn : n ≤ 8) (hm : m ≤ 4) (r39 : s1 39 = s 39) (r40 : s1 40 = s 40) (big : ∀ P, 175 ≤ P → s1 P = s P) (m26 : M1 146 26 = M 146 26) (e159 : M1 159 = M 159) (e156 : ∀ q, q < 10 ∨ (55 ≤ q ∧ q < 63) → M1 156 q = M 156 q) : PastR s1 M1 n m := by
  obtain ⟨z, x, p1, p2, p3, p4, p5, p6, p7⟩ := h
  refine ⟨z, x, by rw [r39]; exact p1, by rw [m26]; exact p2, p3, by rw [r39]; exact p4, p5, fun t ht => ?_, by rw [r40]; exact p7⟩
  obtain ⟨q1, q2, K2, q3, q4, q5⟩ := p6 t ht
  rw [r40]
  refine ⟨q1, q2, K2, q3, Cl_row q4 (fun i hi => big _ (by omega)), Rf_cg q5 hn hm (fun q hq => ?_)⟩
  unfold wsd
  by_cases hr : 10 ≤ q ∧ q < 55
  · rw [if_pos hr, if_pos hr, e159]
  · rw [if_neg hr, if_neg hr, e156 q (by omega)]
theorem ImgR_cg {rc : Int} {s M s1 M1 : Hp} (h : ImgR rc s M) (r38 : s1 38 = s 38) (big : ∀ P, 175 ≤ P → s1 P = s P) (e171 : M1 171 = M 171) (e172 : M1 172 = M 172) (e173 : M1 173 = M 173) (e174 : M1 174 = M 174) : ImgR rc s1 M1 := by
  refine ⟨fun k hk => ?_, by rw [r38]; exact h.2⟩
  rw [e174, r38]
  rcases h.1 k hk with q | ⟨q1, q2, q3, K2, n2, m2', q4⟩
  · exact Or.inl q
  · refine Or.inr ⟨q1, q2, q3, K2, n2, m2', ?_⟩
    rw [e171, e172, e173]
    exact SheetR_cg q4 (fun i hi => big _ (by omega)) rfl
theorem RulesR_cg {ln : Nat → Nat} {s M s1 M1 : Hp} (h : RulesR ln s M) (r4 : s1 0 4 = s 0 4) (r15 : s1 15 = s 15) (big : ∀ P, 175 ≤ P → s1 P = s P) (m2 : M1 146 2 = M 146 2) (e148 : M1 148 = M 148) (e150 : M1 150 = M 150) (e151 : M1 151 = M 151) : RulesR ln s1 M1 := by
  unfold RulesR at h ⊢
  rw [r4, r15, m2]
  refine ⟨h.1, h.2.1, h.2.2.1, fun x hx => ?_⟩
  obtain ⟨R, c1, c2, c3⟩ := h.2.2.2 x hx
  exact ⟨R, CR_row c1 big, RM_row e148 e150 e151 c2, c3⟩
/-- only what lies in the sheet has changed -/
theorem REL_sheet {ln : Nat → Nat} {s M s1 M1 : Hp} (h : REL ln s M) (hs : ∀ P, VC P → ¬ (16 ≤ P ∧ P ≤ 37) → s1 P = s P) (hb1 : s1 130 1 = s 130 1) (hb2 : s1 130 2 = s 130 2) (hm : ∀ P, VM P → P ≠ 156 → M1 P = M P) (m1 : M1 146 1 = M 146 1) (m2 : M1 146 2 = M 146 2) (m26 : M1 146 26 = M 146 26) (e156 : ∀ q, q < 10 ∨ (55 ≤ q ∧ q < 63) → M1 156 q = M 156 q) (hsh : ∀ K n m, SheetR (s 0 4) s 16 (M 156) (M 146 21) (M 146 22) K n m → ∃ K1, SheetR (s 0 4) s1 16 (M1 156) (M1 146 21) (M1 146 22) K1 n m) : REL ln s1 M1 := by
  obtain ⟨t, ru, ⟨K, n, m, sh, pa⟩, im, bo, le⟩ := h
  have r0 : s1 0 = s 0 := hs 0 (by unfold VC; omega) (by omega)
  have big : ∀ P, 175 ≤ P → s1 P = s P := fun P hP => hs P (by unfold VC; omega) (by omega)
  obtain ⟨K1, sh1⟩ := hsh K n m sh
  refine ⟨?_, ?_, ⟨K1, n, m, by rw [r0]; exact sh1, ?_⟩, ?_, ?_, ?_⟩
  · unfold TapeR at t ⊢
    rw [hs 1 (by unfold VC; omega) (by omega), hs 2 (by unfold VC; omega) (by omega), m1, hm 147 (by unfold VM; omega) (by decide)]; exact t
  · exact RulesR_cg ru (by rw [r0]) (hs 15 (by unfold VC; omega) (by omega)) big m2 (hm 148 (by unfold VM; omega) (by decide)) (hm 150 (by unfold VM; omega) (by decide)) (hm 151 (by unfold VM; omega) (by decide))
  · exact PastR_cg pa sh.1.1 sh.1.2.1 (hs 39 (by unfold VC; omega) (by omega)) (hs 40 (by unfold VC; omega) (by omega)) big m26 (hm 159 (by unfold VM; omega) (by decide)) e156
  · rw [r0]
    exact ImgR_cg im (hs 38 (by unfold VC; omega) (by omega)) big (hm 171 (by unfold VM; omega) (by decide)) (hm 172 (by unfold VM; omega) (by decide)) (hm 173 (by unfold VM; omega) (by decide)) (hm 174 (by unfold VM; omega) (by decide))
  · unfold BookR at bo ⊢
    rw [hb1, hb2, hs 131 (by unfold VC; omega) (by omega)]; exact bo
  · unfold LevR at le ⊢
    rw [hs 55 (by unfold VC; omega) (by omega)]; exact le
section CB
variable {n : Nat} {w : pm_H}
theorem call_4 (hn : n < 512) (h : Inv n w) (a1 a2 a3 a4 a5 : Int32) : ob_ok 4 [a1, a2, a3, a4, a5] w (Inv (n + 1)) := by
  obtain ⟨sh, ln, s, M, ib, ds, rel⟩ := h
  obtain ⟨-, ru, ⟨K, c, m, sr, pa⟩, -⟩ := id rel
  have bp := bi a1
  have key : ∃ r s1 M1, xf_force s a1.toInt = some (r, s1) ∧ xm_force M a1.toInt = some (r, M1) ∧ REL ln s1 M1 ∧ s1 15 = s 15 ∧ s1 38 = s 38 ∧ s1 40 = s 40 := by
    generalize a1.toInt = p at bp
    have hrc : M 146 2 = s 0 4 := ru.1.symm
    have hr0 := ru.2.1
    have hr6 := ru.2.2.1
    have er : xm_isRule M p = some (tb (0 ≤ p ∧ p < s 0 4)) := by
      unfold xm_isRule
      rw [hrc, w32_eq (x := p) bp.1 bp.2, w32_eq (x := s 0 4) (by omega) (by omega)]
      by_cases q : p < 0
      · rw [if_pos q, tb_f (by omega)]
      · rw [if_neg q]
        by_cases q2 : p < s 0 4
        · rw [if_pos q2, tb_t (by omega)]
        · rw [if_neg q2, tb_f (by omega)]
    unfold xf_force xm_force
    rw [er, w32_eq (x := p) bp.1 bp.2, w32_eq (x := s 0 4) (by omega) (by omega), show w32 (-1) = -1 by decide]
    simp only [obs, tb0]
    have hfo : s 16 6 = M 146 21 := sr.2.2.2.2.2.2.2.1
    by_cases hv : -1 ≤ p ∧ p < s 0 4
    · have hrel : REL ln (uh s 16 6 p) (uh M 146 21 p) := by
        refine REL_sheet rel (fun P _ h2 => uh_row (by omega)) (by rw [uh_row (by decide)]) (by rw [uh_row (by decide)]) (fun P h1 _ => uh_row (by unfold VM at h1; omega)) (uh_ro _ _ _ _ (by decide)) (uh_ro _ _ _ _ (by decide)) (uh_ro _ _ _ _ (by decide)) (fun q _ => by rw [uh_row (by decide)]) (fun K1 n1 m1 sr1 => ⟨K1, ?_⟩)
        obtain ⟨b1, b2, b3, b4, b5, b6, b7, b8, b9, b10, b11⟩ := sr1
        refine ⟨b1, Cl_row b2 (fun i hi => uh_row (by omega)), by rw [uh_row (by decide)]; exact b3, by rw [uh_row (by decide)]; exact b4, ?_, ?_, ?_, ?_⟩
        · rw [uh_row (p := 156) (by decide)]; exact Cl_row b5 (fun i hi => uh_row (by omega))
        · rw [uh_row (p := 156) (by decide), uh_row (p := 16 + 19) (by decide)]; exact b6
        · rw [uh_row (p := 156) (by decide), uh_row (p := 16 + 20) (by decide), uh_row (p := 16 + 21) (by decide), uh_ro _ _ _ _ (by decide)]; exact b7
        · rw [uh_rc, uh_rc, uh_ro _ _ _ _ (by decide), uh_ro _ _ _ _ (by decide)]
          exact ⟨rfl, hv.1, hv.2, b11⟩
      rw [if_neg (c := p < -1) (by omega), if_pos (c := p < s 0 4) hv.2]
      refine ⟨s 16 6, uh s 16 6 p, uh M 146 21 p, rfl, ?_, hrel, uh_row (by decide), uh_row (by decide), uh_row (by decide)⟩
      by_cases q1 : p = -1
      · rw [if_pos q1, hfo]
      · rw [if_neg q1, if_neg (fun k => k ⟨by omega, hv.2⟩), hfo]
    · refine ⟨-2, s, M, ?_, ?_, rel, rfl, rfl, rfl⟩
      · by_cases q : p < -1
        · rw [if_pos q]
        · rw [if_neg q, if_neg (by omega)]
      · rw [if_neg (by omega), if_pos (by omega)]
  obtain ⟨r, s1, M1, e1, e2, e3, e4, e5, e6⟩ := key
  exact ob_na (args := [.int (Int32.ofInt a1.toInt)]) hn rfl (by rw [← vi]; rfl) ib (fun P kr => xf_force_ok (w0 := w) ib.2.2.1 ⟨ib.1, Fr_rf⟩ e1 (fun w1 h1 => kr w1 h1)) (fun w1 h1 P kr => xm_force_ok (w0 := w1) StM_M ⟨h1, Fr_rf⟩ e2 (fun w2 h2 => kr w2 h2)) (DS_cg ds e4 e5 e6) e3
end CB
