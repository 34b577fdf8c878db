/-! seed, mark, end, count -/
/-- the same cloth as far as it is looked at -/
def KE (K K1 : Nat → Nat → Int) (n m : Nat) : Prop := K1 0 2 = K 0 2 ∧ K1 0 3 = K 0 3 ∧ (∀ c, c < n → K1 1 c = K 1 c ∧ K1 2 c = K 2 c ∧ K1 3 c = K 3 c ∧ K1 4 c = K 4 c ∧ K1 5 c = K 5 c) ∧ (∀ j, j + 1 < n → K1 6 j = K 6 j) ∧ ∀ p, p < m → K1 8 p = K 8 p
theorem Cl_ke {s : Hp} {a : Nat} {K K1 : Nat → Nat → Int} {n m : Nat} (h : Cl s a K n m) (e : KE K K1 n m) : Cl s a K1 n m := by
  obtain ⟨h0, h1, h2, h3, h4, h5, h6, h7⟩ := h
  obtain ⟨e2, e3, e4, e5, e6⟩ := e
  refine ⟨h0, h1, h2.trans e2.symm, h3.trans e3.symm, fun c hc => ?_, fun j hj => (h5 j hj).trans (e5 j hj).symm, fun p hp => (h6 p hp).trans (e6 p hp).symm, fun p hp => ?_⟩
  · obtain ⟨a1, a2, a3, a4, a5⟩ := e4 c hc
    rw [a1, a2, a3, a4, a5]; exact h4 c hc
  · rw [h7 p (by rw [← e2]; exact hp), thk_cg (fun c hc => ((e4 c hc).1).symm)]
theorem Rf_ke {f : Nat → Int} {K K1 : Nat → Nat → Int} {n m : Nat} (h : Rf f K n m) (e : KE K K1 n m) : Rf f K1 n m := by
  obtain ⟨h0, h1, h2, h3, h4, h5, h6⟩ := h
  obtain ⟨e2, e3, e4, e5, e6⟩ := e
  refine ⟨h0, h1, h2.trans e2.symm, h3.trans e3.symm, fun c hc => ?_, fun j hj => (h5 j hj).trans (e5 j hj).symm, fun p hp => (h6 p hp).trans (e6 p hp).symm⟩
  obtain ⟨a1, a2, a3, a4, a5⟩ := e4 c hc
  rw [a1, a2, a3, a4, a5]; exact h4 c hc
theorem WF_ke {K K1 : Nat → Nat → Int} {n m : Nat} (h : WF K n m) (e : KE K K1 n m) : WF K1 n m := by
  obtain ⟨w8, w4, w0, w2, wl, wz, wd0, wd9, wc, wj, wq⟩ := h
  obtain ⟨e2, e3, e4, e5, e6⟩ := e
  refine ⟨w8, w4, by rw [e2]; exact w0, by rw [e2]; exact w2, by rw [e2]; exact wl, by rw [e2]; exact wz, by rw [e3]; exact wd0, by rw [e3]; exact wd9, fun c hc => ?_, fun j hj => ?_, fun p hp => ?_⟩
  · obtain ⟨a1, a2, a3, a4, a5⟩ := e4 c hc
    rw [a1, a3, a4, a5, e2]; exact wc c hc
  · rw [e5 j hj, (e4 j (by omega)).1, (e4 (j + 1) hj).1]; exact wj j hj
  · rw [e6 p hp]; exact wq p hp
theorem tdK_ke {f f1 : Nat → Int} {n m : Nat} (hn : n ≤ 8) (hm : m ≤ 4) (hf : ∀ q, q < 82 → f1 q = f q) : KE (tdK f) (tdK f1) n m :=
  ⟨hf 0 (by decide), rfl, fun c hc => ⟨rfl, rfl, rfl, hf (63 + c) (by omega), hf (55 + c) (by omega)⟩, fun j hj => hf (71 + j) (by omega), fun p hp => hf (78 + p) (by omega)⟩
theorem SheetR_mk {rc : Int} {s s1 : Hp} {a : Nat} {f f1 : Nat → Int} {fo xx : Int} {K : Nat → Nat → Int} {n m : Nat} (h : SheetR rc s a f fo xx K n m) (hs : ∀ i, 1 ≤ i → i ≤ 18 → s1 (a + i) = s (a + i)) (hf : ∀ q, q < 82 → f1 q = f q) (hmk : ∀ j, j + 1 < n → s1 (a + 19) j = f1 (82 + j) ∧ 0 ≤ f1 (82 + j) ∧ f1 (82 + j) ≤ 2) (hlg : s1 a 5 = f1 129 ∧ 0 ≤ f1 129 ∧ f1 129 ≤ 10 ∧ (0 < f1 129 → 0 < m) ∧ ∀ i : Nat, (i : Int) < f1 129 → s1 (a + 20) i = 4 * f1 (89 + 4 * i) + 2 * f1 (89 + 4 * i + 1) + f1 (89 + 4 * i + 2) ∧ s1 (a + 21) i = f1 (89 + 4 * i + 3) ∧ 0 ≤ f1 (89 + 4 * i) ∧ f1 (89 + 4 * i) + 1 < n ∧ 0 ≤ f1 (89 + 4 * i + 1) ∧ f1 (89 + 4 * i + 1) ≤ 1 ∧ 0 ≤ f1 (89 + 4 * i + 2) ∧ f1 (89 + 4 * i + 2) ≤ 1 ∧ 0 ≤ f1 (89 + 4 * i + 3) ∧ f1 (89 + 4 * i + 3) ≤ 9999) (h6 : s1 a 6 = s a 6) (h7 : s1 a 7 = s a 7) : SheetR rc s1 a f1 fo xx K n m := by
  obtain ⟨b1, b2, b3, b4, b5, b6, b7, b8⟩ := h
  have ke := tdK_ke b1.1 b1.2.1 hf
  refine ⟨b1, Cl_row b2 (fun i hi => ?_), Rf_cg b3 b1.1 b1.2.1 (fun q hq => hf q (by omega)), WF_ke b4 ke, Cl_ke (Cl_row b5 (fun i hi => ?_)) ke, hmk, hlg, by rw [h6, h7]; exact b8⟩
  · rw [Nat.add_assoc]; exact hs (1 + i) (by omega) (by omega)
  · rw [Nat.add_assoc]; exact hs (10 + i) (by omega) (by omega)
section CC
variable {n : Nat} {w : pm_H}
theorem call_26 (hn : n < 512) (h : Inv n w) (a1 a2 a3 a4 a5 : Int32) : ob_ok 26 [a1, a2, a3, a4, a5] w (Inv (n + 1)) := by
  obtain ⟨sh, ln, s, M, ib, ds, rel⟩ := h
  obtain ⟨-, ru, ⟨K, c, m, sr, pa⟩, -⟩ := id rel
  have bp := bi a1
  have key : ∃ r s1 M1, xf_seed s a1.toInt = some (r, s1) ∧ xm_seed M a1.toInt = some (r, M1) ∧ REL ln s1 M1 ∧ s1 15 = s 15 ∧ s1 38 = s 38 ∧ s1 40 = s 40 := by
    generalize a1.toInt = p at bp
    unfold xf_seed xm_seed
    rw [w32_eq (x := p) bp.1 bp.2]
    simp only [obs]
    have hx : s 16 7 = M 146 22 := sr.2.2.2.2.2.2.2.2.2.2.1
    by_cases q : p < 0
    · simp only [eq_true q, if_true]
      exact ⟨-1, s, M, rfl, rfl, rel, rfl, rfl, rfl⟩
    · simp only [eq_false q, if_false]
      refine ⟨s 16 7, uh s 16 7 p, uh M 146 22 p, rfl, by rw [hx], ?_, uh_row (by decide), uh_row (by decide), uh_row (by decide)⟩
      refine REL_sheet rel (fun P _ h2 => uh_row (by omega)) (by rw [uh_row (by decide)]) (by rw [uh_row (by decide)]) (fun P h1 _ => uh_row (by unfold VM at h1; omega)) (uh_ro _ _ _ _ (by decide)) (uh_ro _ _ _ _ (by decide)) (uh_ro _ _ _ _ (by decide)) (fun q _ => by rw [uh_row (by decide)]) (fun K1 n1 m1 sr1 => ⟨K1, ?_⟩)
      obtain ⟨b1, b2, b3, b4, b5, b6, b7, b8, b9, b10, b11⟩ := sr1
      refine ⟨b1, Cl_row b2 (fun i hi => uh_row (by omega)), by rw [uh_row (by decide)]; exact b3, by rw [uh_row (by decide)]; exact b4, ?_, ?_, ?_, ?_⟩
      · rw [uh_row (p := 156) (by decide)]; exact Cl_row b5 (fun i hi => uh_row (by omega))
      · rw [uh_row (p := 156) (by decide), uh_row (p := 16 + 19) (by decide)]; exact b6
      · rw [uh_row (p := 156) (by decide), uh_row (p := 16 + 20) (by decide), uh_row (p := 16 + 21) (by decide), uh_ro _ _ _ _ (by decide)]; exact b7
      · rw [uh_rc, uh_rc, uh_ro _ _ _ _ (by decide), uh_ro _ _ _ _ (by decide)]
        exact ⟨b8, b9, b10, rfl, by omega, bp.2⟩
  obtain ⟨r, s1, M1, e1, e2, e3, e4, e5, e6⟩ := key
  exact ob_na (args := [.int (Int32.ofInt a1.toInt)]) hn rfl (by rw [← vi]; rfl) ib (fun P kr => xf_seed_ok (w0 := w) ib.2.2.1 ⟨ib.1, Fr_rf⟩ e1 (fun w1 h1 => kr w1 h1)) (fun w1 h1 P kr => xm_seed_ok (w0 := w1) StM_M ⟨h1, Fr_rf⟩ e2 (fun w2 h2 => kr w2 h2)) (DS_cg ds e4 e5 e6) e3
theorem call_15 (hn : n < 512) (h : Inv n w) (a1 a2 a3 a4 a5 : Int32) : ob_ok 15 [a1, a2, a3, a4, a5] w (Inv (n + 1)) := by
  obtain ⟨sh, ln, s, M, ib, ds, rel⟩ := h
  obtain ⟨-, ru, ⟨K, c, m, sr, pa⟩, -⟩ := id rel
  have bp := bi a1
  have bq := bi a2
  have key : ∃ r s1 M1, xf_mark s a1.toInt a2.toInt = some (r, s1) ∧ xm_mark M a1.toInt a2.toInt = some (r, M1) ∧ REL ln s1 M1 ∧ s1 15 = s 15 ∧ s1 38 = s 38 ∧ s1 40 = s 40 := by
    generalize a1.toInt = p at bp
    generalize a2.toInt = q at bq
    have w8 := sr.1.1
    unfold xf_mark xm_mark
    rw [cl_hasJoint sr.2.1 sr.1 bp.1 bp.2, rm_isJoint sr.2.2.1 sr.1 bp.1 bp.2, w32_eq (x := q) bq.1 bq.2, rm_in (by omega) (by omega) (by omega) (by omega) (by omega) (by omega), show w32 2 = 2 by decide]
    simp only [obs, tb0]
    by_cases hc : 0 ≤ p ∧ p + 1 < c
    · simp only [eq_true hc, not_true_eq_false, if_false]
      obtain ⟨j, rfl⟩ : ∃ j : Nat, p = (j : Int) := ⟨p.toNat, by omega⟩
      have hj : j + 1 < c := by omega
      rw [ixt (n := 8) j rfl (by omega) (by decide), ixt (j := 82 + (j : Int)) (82 + j) (by omega) (by omega) (by decide)]
      simp only [obs]
      by_cases hq : 0 ≤ q ∧ q ≤ 2
      · rw [if_neg (by omega), if_neg (by omega), if_neg (fun k => k hq)]
        refine ⟨s 35 j, uh s 35 j q, uh M 156 (82 + j) q, rfl, by rw [(sr.2.2.2.2.2.1 j hj).1], ?_, uh_row (by decide), uh_row (by decide), uh_row (by decide)⟩
        refine REL_sheet rel (fun P _ h2 => uh_row (by omega)) (by rw [uh_row (by decide)]) (by rw [uh_row (by decide)]) (fun P h1 h2 => uh_row h2) (by rw [uh_row (by decide)]) (by rw [uh_row (by decide)]) (by rw [uh_row (by decide)]) (fun q _ => uh_ro _ _ _ _ (by omega)) (fun K1 n1 m1 sr1 => ⟨K1, ?_⟩)
        have b1 := sr1.1
        refine SheetR_mk sr1 (fun i i1 i2 => uh_row (by omega)) (fun q hq => uh_ro _ _ _ _ (by omega)) (fun i hi => ?_) ?_ (by rw [uh_row (by decide)]) (by rw [uh_row (by decide)])
        · show uh s 35 j q 35 i = uh M 156 (82 + j) q 156 (82 + i) ∧ 0 ≤ uh M 156 (82 + j) q 156 (82 + i) ∧ uh M 156 (82 + j) q 156 (82 + i) ≤ 2
          by_cases hij : i = j
          · subst hij; rw [uh_rc, uh_rc]; exact ⟨rfl, hq⟩
          · rw [uh_ro _ _ _ _ hij, uh_ro _ _ _ _ (by omega)]; exact sr1.2.2.2.2.2.1 i hi
        · have b7 := sr1.2.2.2.2.2.2.1
          have lo : ∀ q1, 89 ≤ q1 → uh M 156 (82 + j) q 156 q1 = M 156 q1 := fun q1 h1 => uh_ro _ _ _ _ (by have := b1.1; omega)
          rw [uh_row (p := 16) (by decide), uh_row (p := 16 + 20) (by decide), uh_row (p := 16 + 21) (by decide), lo 129 (by decide)]
          refine ⟨b7.1, b7.2.1, b7.2.2.1, b7.2.2.2.1, fun i hi => ?_⟩
          rw [lo _ (by omega), lo _ (by omega), lo _ (by omega), lo _ (by omega)]
          exact b7.2.2.2.2 i hi
      · refine ⟨-1, s, M, ?_, ?_, rel, rfl, rfl, rfl⟩
        · by_cases q0 : q < 0
          · rw [if_pos q0]
          · rw [if_neg q0, if_pos (by omega)]
        · rw [if_pos hq]
    · simp only [eq_false hc, not_false_eq_true, if_true]
      exact ⟨-1, s, M, rfl, rfl, rel, rfl, rfl, rfl⟩
  obtain ⟨r, s1, M1, e1, e2, e3, e4, e5, e6⟩ := key
  exact ob_na (args := [.int (Int32.ofInt a1.toInt), .int (Int32.ofInt a2.toInt)]) hn rfl (by rw [← vi, ← vi]; rfl) ib (fun P kr => xf_mark_ok (w0 := w) ib.2.2.1 ⟨ib.1, Fr_rf⟩ e1 (fun w1 h1 => kr w1 h1)) (fun w1 h1 P kr => xm_mark_ok (w0 := w1) StM_M ⟨h1, Fr_rf⟩ e2 (fun w2 h2 => kr w2 h2)) (DS_cg ds e4 e5 e6) e3
theorem REL_tape {ln : Nat → Nat} {s M s1 M1 : Hp} (h : REL ln s M) (hs : ∀ P, VC P → P ≠ 1 → P ≠ 2 → s1 P = s P) (hb : s1 130 = s 130) (hm : ∀ P, VM P → P ≠ 147 → M1 P = M P) (hm6 : ∀ q, q ≠ 1 → M1 146 q = M 146 q) (ht : TapeR s1 M1) : REL ln s1 M1 := by
  obtain ⟨t, ru, ⟨K, n, m, sh, pa⟩, im, bo, le⟩ := h
  have r0 : s1 0 = s 0 := hs 0 (by unfold VC; omega) (by omega) (by omega)
  have big : ∀ P, 175 ≤ P → s1 P = s P := fun P hP => hs P (by unfold VC; omega) (by omega) (by omega)
  have e156 : M1 156 = M 156 := hm 156 (by unfold VM; omega) (by decide)
  refine ⟨ht, ?_, ⟨K, n, m, ?_, ?_⟩, ?_, ?_, ?_⟩
  · exact RulesR_cg ru (by rw [r0]) (hs 15 (by unfold VC; omega) (by omega) (by omega)) big (hm6 2 (by decide)) (hm 148 (by unfold VM; omega) (by decide)) (hm 150 (by unfold VM; omega) (by decide)) (hm 151 (by unfold VM; omega) (by decide))
  · rw [hm6 21 (by decide), hm6 22 (by decide), r0]
    exact SheetR_cg sh (fun i hi => hs _ (by unfold VC; omega) (by omega) (by omega)) e156
  · exact PastR_cg pa sh.1.1 sh.1.2.1 (hs 39 (by unfold VC; omega) (by omega) (by omega)) (hs 40 (by unfold VC; omega) (by omega) (by omega)) big (hm6 26 (by decide)) (hm 159 (by unfold VM; omega) (by decide)) (fun q _ => by rw [e156])
  · rw [r0]
    exact ImgR_cg im (hs 38 (by unfold VC; omega) (by omega) (by omega)) big (hm 171 (by unfold VM; omega) (by decide)) (hm 172 (by unfold VM; omega) (by decide)) (hm 173 (by unfold VM; omega) (by decide)) (hm 174 (by unfold VM; omega) (by decide))
  · unfold BookR at bo ⊢
    rw [hb, hs 131 (by unfold VC; omega) (by omega) (by omega)]; exact bo
  · unfold LevR at le ⊢
    rw [hs 55 (by unfold VC; omega) (by omega) (by omega)]; exact le
theorem call_1 (hn : n < 512) (h : Inv n w) (a1 a2 a3 a4 a5 : Int32) : ob_ok 1 [a1, a2, a3, a4, a5] w (Inv (n + 1)) := by
  obtain ⟨sh, ln, s, M, ib, ds, rel⟩ := h
  obtain ⟨tp, -⟩ := id rel
  have bp := bi a1
  have key : ∃ r s1 M1, xf_end s a1.toInt = some (r, s1) ∧ xm_end M a1.toInt = some (r, M1) ∧ REL ln s1 M1 ∧ s1 15 = s 15 ∧ s1 38 = s 38 ∧ s1 40 = s 40 := by
    generalize a1.toInt = p at bp
    obtain ⟨t1, t2, t3, t4⟩ := tp
    unfold xf_end xm_end
    rw [← t1, w32_eq (x := p) bp.1 bp.2, w32_eq (x := s 1 1) (by omega) (by omega)]
    simp only [obs]
    by_cases q : p < 0
    · simp only [eq_true q, if_true]
      exact ⟨-1, s, M, rfl, rfl, rel, rfl, rfl, rfl⟩
    · simp only [eq_false q, if_false]
      by_cases q2 : s 1 1 < p
      · simp only [eq_true q2, if_true]
        exact ⟨-1, s, M, rfl, rfl, rel, rfl, rfl, rfl⟩
      · simp only [eq_false q2, if_false]
        refine ⟨p, uh s 1 1 p, uh M 146 1 p, rfl, rfl, ?_, uh_row (by decide), uh_row (by decide), uh_row (by decide)⟩
        refine REL_tape rel (fun P _ h2 _ => uh_row h2) (uh_row (by decide)) (fun P h1 _ => uh_row (by unfold VM at h1; omega)) (fun q hq => uh_ro _ _ _ _ hq) ⟨by rw [uh_rc, uh_rc], by rw [uh_rc]; omega, by rw [uh_rc]; omega, fun i hi => ?_⟩
        rw [uh_rc] at hi
        rw [uh_row (p := 2) (by decide), uh_row (p := 147) (by decide)]
        exact t4 i (by omega)
  obtain ⟨r, s1, M1, e1, e2, e3, e4, e5, e6⟩ := key
  exact ob_na (args := [.int (Int32.ofInt a1.toInt)]) hn rfl (by rw [← vi]; rfl) ib (fun P kr => xf_end_ok (w0 := w) ib.2.2.1 ⟨ib.1, Fr_rf⟩ e1 (fun w1 h1 => kr w1 h1)) (fun w1 h1 P kr => xm_end_ok (w0 := w1) StM_M ⟨h1, Fr_rf⟩ e2 (fun w2 h2 => kr w2 h2)) (DS_cg ds e4 e5 e6) e3
end CC
