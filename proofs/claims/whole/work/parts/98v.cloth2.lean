/-! cloth, both sides -/
section CI
variable {s M : Hp}
theorem td_WF {f : Nat → Int} {c m : Nat} (h2 : 2 ≤ c) (h8 : c ≤ 8) (h4 : m ≤ 4) (f0 : f 0 = (c : Int)) (hf : ∀ q, q < 8 → -1 ≤ f (63 + q) ∧ f (63 + q) < (m : Int) ∧ 0 ≤ f (55 + q) ∧ f (55 + q) ≤ 99) (hj : ∀ q, q < 7 → 0 ≤ f (71 + q) ∧ f (71 + q) ≤ 2) (hp : ∀ p, p < m → 0 ≤ f (78 + p) ∧ f (78 + p) ≤ 999) : WF (tdK f) c m := by
  have e02 : tdK f 0 2 = (c : Int) := f0
  have e03 : tdK f 0 3 = 0 := rfl
  refine ⟨h8, h4, fun h => by omega, fun _ => ⟨h2, by rw [e02]; omega⟩, by rw [e02]; omega, by rw [e02]; omega, by rw [e03]; decide, by rw [e03]; decide, fun i hi => ?_, fun j hj1 => ?_, fun p hp1 => ?_⟩
  · have e1 : tdK f 1 i = (i : Int) := rfl
    have e3 : tdK f 3 i = 1 := rfl
    have e4 : tdK f 4 i = f (63 + i) := rfl
    have e5 : tdK f 5 i = f (55 + i) := rfl
    have := hf i (by omega)
    rw [e1, e02, e3, e4, e5]
    omega
  · have e1 : ∀ i, tdK f 1 i = (i : Int) := fun _ => rfl
    have e6 : tdK f 6 j = f (71 + j) := rfl
    have := hj j (by omega)
    rw [e1, e1, e6]
    omega
  · have e8 : tdK f 8 p = f (78 + p) := rfl
    have := hp p hp1
    rw [e8]
    omega
theorem CD_Cl {c m : Nat} {f : Nat → Int} (h : CD s M c m) (hf : ∀ q, q < 82 → f q = M 152 q) : Cl s 4 (tdK f) c m ∧ WF (tdK f) c m ∧ f 0 = (c : Int) ∧ f 1 = (m : Int) := by
  obtain ⟨k2, k8, k4, d0, d1, d2, d3, d4, d5, d6, d7, d8, d9⟩ := h
  have f0 : f 0 = (c : Int) := (hf 0 (by decide)).trans d4
  refine ⟨⟨d0, d1, d2.trans f0.symm, d3, fun i hi => ?_, fun j hj => ?_, fun p hp => ?_, fun p hp => ?_⟩, td_WF k2 k8 k4 f0 (fun q hq => ?_) (fun q hq => ?_) (fun p hp => ?_), f0, (hf 1 (by decide)).trans d5⟩
  · obtain ⟨a1, a2, a3, a4⟩ := d6 i (by omega)
    obtain ⟨b1, b2, b3, b4, b5, b6⟩ := d7 i (by omega)
    exact ⟨a1, a2, a3, b1.trans (hf (63 + i) (by omega)).symm, b4.trans (hf (55 + i) (by omega)).symm⟩
  · exact (d8 j (by omega)).1.trans (hf (71 + j) (by omega)).symm
  · exact (d9 p hp).1.trans (hf (78 + p) (by omega)).symm
  · have hpc : (p : Int) < (c : Int) := by
      have e : tdK f 0 2 = (c : Int) := f0
      rw [e] at hp; exact hp
    have e1 : tdK f 1 = fun (i : Nat) => (i : Int) := rfl
    rw [e1, thk_id, if_pos (by omega)]
    have := (d6 p (by omega)).2.2.2
    rw [if_pos (by omega)] at this
    exact this
  · obtain ⟨b1, b2, b3, b4, b5, b6⟩ := d7 q hq
    rw [hf _ (by omega), hf _ (by omega), ← b1, ← b4]
    exact ⟨b2, b3, b5, b6⟩
  · obtain ⟨b1, b2, b3⟩ := d8 q hq
    rw [hf _ (by omega), ← b1]; exact ⟨b2, b3⟩
  · obtain ⟨b1, b2, b3⟩ := d9 p hp
    rw [hf _ (by omega), ← b1]; exact ⟨b2, b3⟩
theorem k_cloth {ln : Nat → Nat} (rel : REL ln s M) : ∃ r s1 M1, xf_cloth s = some (r, s1) ∧ xm_cloth M = some (r, M1) ∧ REL ln s1 M1 ∧ s1 15 = s 15 ∧ s1 38 = s 38 ∧ s1 40 = s 40 := by
  obtain ⟨⟨t1, t2, t3, t4⟩, ru, ⟨K0, n0, m0, sr, pa⟩, im, bo, le⟩ := id rel
  obtain ⟨n, hn⟩ : ∃ n : Nat, s 1 1 = (n : Int) := ⟨(s 1 1).toNat, by omega⟩
  have hb : TB (s 2) n := ⟨by omega, fun i hi => by have := t4 i (by omega); exact ⟨this.1, this.2.1⟩⟩
  -- the class begins to read
  have tc0 : TC (s 2) n (uh (uh s 1 2 0) 1 3 0) := TC_u (TC_u ⟨hn, rfl⟩ (by decide)) (by decide)
  have cb := ct_blanks (i := 0) hb tc0 (by rw [uh_ro _ _ _ _ (by decide), uh_rc]; rfl) (Nat.zero_le _)
  have est : xt_startReading s = some (uh (uh (uh s 1 2 0) 1 3 0) 1 2 ((skp (isB (s 2)) n 0 : Nat) : Int)) := by
    unfold xt_startReading
    simp only [obs]
    rw [cb]
    rfl
  -- the reference begins to read
  obtain ⟨Mz, z1, z2, z3⟩ := rm_zero82 (M := uh M 146 11 6)
  have zr : ∀ P, P ≠ 152 → P ≠ 146 → Mz P = M P := fun P h1 h2 => by rw [z2 P h1, uh_row h2]
  have z146 : Mz 146 = uh M 146 11 6 146 := z2 146 (by decide)
  generalize hs0 : uh (uh (uh s 1 2 0) 1 3 0) 1 2 ((skp (isB (s 2)) n 0 : Nat) : Int) = s0 at est
  generalize hM0 : uh (uh (uh (uh (uh Mz 149 6 0) 146 14 0) 146 8 0) 146 9 0) 146 12 0 = M0
  have s0r : ∀ P, P ≠ 1 → s0 P = s P := fun P hP => by rw [← hs0, uh_row hP, uh_row hP, uh_row hP]
  have M0r : ∀ P, P ≠ 146 → P ≠ 149 → P ≠ 152 → M0 P = M P := fun P h1 h2 h3 => by rw [← hM0, uh_row h1, uh_row h1, uh_row h1, uh_row h1, uh_row h2, zr P h3 h1]
  have M0q : ∀ q, q ≠ 8 → q ≠ 9 → q ≠ 11 → q ≠ 12 → q ≠ 14 → M0 146 q = M 146 q := fun q a b c d e => by
    rw [← hM0, uh_ro _ _ _ _ d, uh_ro _ _ _ _ b, uh_ro _ _ _ _ a, uh_ro _ _ _ _ e, uh_row (by decide), z146, uh_ro _ _ _ _ c]
  have M011 : M0 146 11 = 6 := by rw [← hM0, uh_ro _ _ _ _ (by decide), uh_ro _ _ _ _ (by decide), uh_ro _ _ _ _ (by decide), uh_ro _ _ _ _ (by decide), uh_row (by decide), z146, uh_rc]
  have M014 : M0 146 14 = ((0 : Nat) : Int) := by rw [← hM0, uh_ro _ _ _ _ (by decide), uh_ro _ _ _ _ (by decide), uh_ro _ _ _ _ (by decide), uh_rc]; rfl
  have M08 : M0 146 8 = ((0 : Nat) : Int) := by rw [← hM0, uh_ro _ _ _ _ (by decide), uh_ro _ _ _ _ (by decide), uh_rc]; rfl
  have M09 : M0 146 9 = 0 := by rw [← hM0, uh_ro _ _ _ _ (by decide), uh_rc]
  have M0z : ∀ q, q < 82 → M0 152 q = 0 := fun q hq => by rw [← hM0, uh_row (by decide), uh_row (by decide), uh_row (by decide), uh_row (by decide), uh_row (by decide)]; exact z3 q hq
  have rp0 : RP (s 2) n s0 M0 := by
    refine ⟨by rw [← hs0]; exact TC_u tc0 (by decide), ⟨by rw [M0q 1 (by decide) (by decide) (by decide) (by decide) (by decide), ← t1]; exact hn, fun i hi => by rw [M0r 147 (by decide) (by decide) (by decide)]; exact (t4 i (by omega)).2.2⟩, ?_, M09, 0, M08, Nat.zero_le _, by rw [← hs0, uh_rc]⟩
    rw [← hs0, uh_ro _ _ _ _ (by decide), uh_rc]
  obtain ⟨f, s1, b, M1, e1, e2, ⟨ge, gm, g11⟩, tc1, tm1, m91, hr⟩ := rd_both (T := s 2) (n := n) (K := 40) (C := xc_readClause) (W := fun a B => GE s0 a ∧ GM M0 B ∧ B 146 11 = 6) (J := fun k a B => B 146 14 = (k : Int) ∧ ((k = 0 ∧ ∀ q, q < 82 → B 152 q = 0) ∨ (0 < k ∧ ∃ c m, CD a B c m))) hb (by decide) (by
      rintro k a B hk rp ⟨w1, w2, w3⟩ ⟨j1, j2⟩
      obtain ⟨a1, b, B1, x1, x2, x3, x4, x5⟩ := cc_clause hb hk rp w3 j1 j2
      refine ⟨a1, b, B1, x1, x2, ⟨GE_tr w1 x3, GM_tr w2 x4, (x4.2 11 (by decide) (by decide) (by decide) (by decide)).trans w3⟩, ?_⟩
      rcases x5 with ⟨y1, y2, y3, y4, y5⟩ | y
      · exact Or.inl ⟨y1, y2, ⟨y3, Or.inr ⟨by omega, y4⟩⟩, y5⟩
      · exact Or.inr y) (by
      rintro a B q v hq ⟨w1, w2, w3⟩
      exact ⟨GE_u w1, w2, w3⟩) (by
      rintro a B q v hq ⟨w1, w2, w3⟩
      exact ⟨w1, GM_u w2 (by omega), by rw [uh_ro _ _ _ _ (by omega)]; exact w3⟩) (by
      rintro k a B v ⟨j1, j2⟩
      refine ⟨j1, ?_⟩
      rcases j2 with j2 | ⟨j2, c, m, j3⟩
      · exact Or.inl j2
      · exact Or.inr ⟨j2, c, m, CD_fr j3 (fun P h1 _ => uh_row (by omega)) rfl⟩) (by
      rintro k a B v ⟨j1, j2⟩
      refine ⟨by rw [uh_ro _ _ _ _ (by decide)]; exact j1, ?_⟩
      rcases j2 with ⟨j2, j3⟩ | ⟨j2, c, m, j3⟩
      · exact Or.inl ⟨j2, fun q hq => by rw [uh_row (by decide)]; exact j3 q hq⟩
      · exact Or.inr ⟨j2, c, m, CD_fr j3 (fun _ _ _ => rfl) (uh_row (by decide))⟩) 40 0 s0 M0 rfl (by decide) rp0 ⟨GE_rf, GM_rf, M011⟩ ⟨M014, Or.inl ⟨rfl, M0z⟩⟩
  have ecl : xc_read s = some (f, s1) := by
    unfold xc_read
    rw [est]
    exact e1
  have eM : xm_readsAll Mz = some (b, uh M1 146 1 0) := by
    unfold xm_readsAll
    have e11 : Mz 146 11 = 6 := by rw [z146, uh_rc]
    rw [e11, ixt (n := 7) (j := 6) 6 rfl (by decide) (by decide)]
    simp only [obs]
    rw [hM0]
    exact e2
  have s1r : ∀ P, P ≠ 1 → ¬ (4 ≤ P ∧ P ≤ 12) → s1 P = s P := fun P h1 h2 => (ge P h1 h2).trans (s0r P h1)
  have M1r : ∀ P, P ≠ 146 → P ≠ 149 → P ≠ 152 → M1 P = M P := fun P h1 h2 h3 => (gm.1 P h1 h3).trans (M0r P h1 h2 h3)
  have M1q : ∀ q, q = 2 ∨ q = 21 ∨ q = 22 ∨ q = 26 → M1 146 q = M 146 q := fun q hq => (gm.2 q (by omega) (by omega) (by omega) (by omega)).trans (M0q q (by omega) (by omega) (by omega) (by omega) (by omega))
  unfold xf_cloth xm_cloth
  simp only [obs]
  rw [ecl, z1]
  simp only [obs]
  rw [eM]
  simp only [obs]
  rcases hr with ⟨rfl, rfl, k1, hk1, hk2, -, hcd⟩ | ⟨rfl, f0, f1⟩
  · obtain ⟨c, m, hd⟩ : ∃ c m, CD s1 M1 c m := by
      rcases hcd with q | q
      · omega
      · exact q.2
    rw [if_pos (c := w32 0 = 0) (by decide), if_neg (c := w32 1 = 0) (by decide)]
    -- the class lays it
    obtain ⟨s2, a1, a2, a3, a4, a5, a6, a7⟩ := cl_begin (s := uh s1 1 1 0)
    rw [a1]
    simp only [obs]
    unfold xp_forget
    simp only [obs]
    -- the reference lays it
    obtain ⟨Ma, b1, b2, b3⟩ := rm_said130 (M := uh M1 146 1 0)
    rw [b1]
    simp only [obs]
    have fa : ∀ q, q < 82 → Ma 156 q = M1 152 q := fun q hq => by rw [b3 q (by omega), if_pos hq, uh_row (by decide)]
    obtain ⟨cl0, wf0, f0, f1⟩ := CD_Cl hd fa
    obtain ⟨Mb, c1, c2, c3, c4⟩ := rm_begins f0 f1 wf0
    rw [c1]
    simp only [obs]
    rw [ix0 (by decide) (by decide)]
    simp only [obs]
    have eb : ∀ q, q < 10 ∨ 55 ≤ q → Mb 156 q = Ma 156 q := c4
    have etd : tdK (Mb 156) = tdK (Ma 156) := tdK_cg eb
    have h17 : s2 17 0 = (c : Int) := by rw [a3 0 (by decide) 0 (by decide), uh_row (by decide)]; exact hd.2.2.2.1
    have hMb : Mb 156 0 = (c : Int) := (eb 0 (by decide)).trans f0
    have s2r : ∀ P, P ≠ 1 → ¬ (4 ≤ P ∧ P ≤ 12) → ¬ (16 ≤ P ∧ P ≤ 35) → s2 P = s P := fun P h1 h2 h3 => by rw [a2 P h3, uh_row h1, s1r P h1 h2]
    have Mbr : ∀ P, P ≠ 146 → P ≠ 149 → P ≠ 152 → P ≠ 156 → P ≠ 157 → Mb P = M P := fun P h1 h2 h3 h4 h5 => by rw [c3 P h4 h5, b2 P h4, uh_row h1, M1r P h1 h2 h3]
    have Mbq : ∀ q, q = 2 ∨ q = 21 ∨ q = 22 → Mb 146 q = M 146 q := fun q hq => by rw [c3 146 (by decide) (by decide), b2 146 (by decide), uh_ro _ _ _ _ (by omega), M1q q (by omega)]
    have Mb1 : Mb 146 1 = 0 := by rw [c3 146 (by decide) (by decide), b2 146 (by decide), uh_rc]
    have big : ∀ P, 40 ≤ P → uh s2 39 2 0 P = s P := fun P hP => by rw [uh_row (by omega), s2r P (by omega) (by omega) (by omega)]
    refine ⟨_, _, _, rfl, by rw [uh_row (by decide), uh_row (by decide), h17, hMb], ⟨?_, ?_, ⟨tdK (Ma 156), c, m, ?_, ?_⟩, ?_, ?_, ?_⟩, ?_, ?_, ?_⟩
    · have e11 : uh s2 39 2 0 1 1 = 0 := by rw [uh_row (by decide), a2 1 (by omega), uh_rc]
      refine ⟨by rw [e11, uh_ro _ _ _ _ (by decide), Mb1], by rw [e11]; decide, by rw [e11]; decide, fun i hi => ?_⟩
      rw [e11] at hi
      omega
    · exact RulesR_cg ru (by rw [uh_row (by decide), s2r 0 (by decide) (by omega) (by omega)]) (by rw [uh_row (by decide), s2r 15 (by decide) (by omega) (by omega)]) (fun P hP => big P (by omega)) (by rw [uh_ro _ _ _ _ (by decide)]; exact Mbq 2 (by omega)) (by rw [uh_row (by decide)]; exact Mbr 148 (by decide) (by decide) (by decide) (by decide) (by decide)) (by rw [uh_row (by decide)]; exact Mbr 150 (by decide) (by decide) (by decide) (by decide) (by decide)) (by rw [uh_row (by decide)]; exact Mbr 151 (by decide) (by decide) (by decide) (by decide) (by decide))
    · obtain ⟨-, -, -, -, -, -, -, q6, q7, q8, q9, q10, q11⟩ := sr
      have clx : ∀ a, a = 17 ∨ a = 26 → Cl (uh s2 39 2 0) a (tdK (Ma 156)) c m := fun a ha => by
        refine Cl_row (s := s2) (Cl_cp (s := uh s1 1 1 0) (a1 := 4) (Cl_row cl0 (fun i hi => uh_row (by omega))) wf0 ?_) (fun i hi => uh_row (by omega))
        rcases ha with rfl | rfl
        · exact a3
        · exact a4
      rw [uh_row (s := Mb) (p := 156) (by decide)]
      refine ⟨wf0, clx 17 (Or.inl rfl), c2, by rw [etd]; exact wf0, by rw [etd]; exact clx 26 (Or.inr rfl), fun j hj => ?_, ⟨?_, ?_, ?_, ?_, ?_⟩, ?_, ?_, ?_, ?_, ?_, ?_⟩
      · have z : Mb 156 (82 + j) = 0 := by rw [eb _ (by omega), b3 _ (by have := wf0.1; omega), if_neg (by omega)]
        rw [z, uh_row (by decide)]
        exact ⟨a7 j (by have := wf0.1; omega), by decide, by decide⟩
      all_goals have z129 : Mb 156 129 = 0 := by rw [eb _ (by omega), b3 _ (by decide), if_neg (by decide)]
      · rw [z129, uh_row (by decide)]; exact a5
      · rw [z129]; decide
      · rw [z129]; decide
      · rw [z129]; intro h; omega
      · rw [z129]; intro i hi; omega
      · rw [uh_row (by decide), uh_ro _ _ _ _ (by decide), a6 6 (by decide), uh_row (by decide), s1r 16 (by decide) (by omega), Mbq 21 (by omega)]; exact q6
      · rw [uh_ro _ _ _ _ (by decide), Mbq 21 (by omega)]; exact q7
      · rw [uh_ro _ _ _ _ (by decide), Mbq 21 (by omega), uh_row (by decide), s2r 0 (by decide) (by omega) (by omega)]; exact q8
      · rw [uh_row (by decide), uh_ro _ _ _ _ (by decide), a6 7 (by decide), uh_row (by decide), s1r 16 (by decide) (by omega), Mbq 22 (by omega)]; exact q9
      · rw [uh_ro _ _ _ _ (by decide), Mbq 22 (by omega)]; exact q10
      · rw [uh_ro _ _ _ _ (by decide), Mbq 22 (by omega)]; exact q11
    · obtain ⟨z, x, p1, p2, p3, p4, p5, p6, p7⟩ := pa
      refine ⟨0, x, uh_rc _ _ _ _, uh_rc _ _ _ _, by decide, ?_, p5, fun t ht => by omega, ?_⟩
      · rw [uh_ro _ _ _ _ (by decide), s2r 39 (by decide) (by omega) (by omega)]; exact p4
      · rw [big 40 (by decide)]; exact p7
    · have e0 : uh s2 39 2 0 0 4 = s 0 4 := by rw [uh_row (by decide), s2r 0 (by decide) (by omega) (by omega)]
      rw [e0]
      exact ImgR_cg im (by rw [uh_row (by decide), s2r 38 (by decide) (by omega) (by omega)]) (fun P hP => big P (by omega)) (by rw [uh_row (by decide)]; exact Mbr 171 (by decide) (by decide) (by decide) (by decide) (by decide)) (by rw [uh_row (by decide)]; exact Mbr 172 (by decide) (by decide) (by decide) (by decide) (by decide)) (by rw [uh_row (by decide)]; exact Mbr 173 (by decide) (by decide) (by decide) (by decide) (by decide)) (by rw [uh_row (by decide)]; exact Mbr 174 (by decide) (by decide) (by decide) (by decide) (by decide))
    · unfold BookR at bo ⊢
      rw [big 130 (by decide), big 131 (by decide)]; exact bo
    · unfold LevR at le ⊢
      rw [big 55 (by decide)]; exact le
    · rw [uh_row (by decide), s2r 15 (by decide) (by omega) (by omega)]
    · rw [uh_row (by decide), s2r 38 (by decide) (by omega) (by omega)]
    · exact big 40 (by decide)
  · rw [if_neg (c := w32 f = 0) (by rw [w32_eq (by omega) (by omega)]; omega), if_pos (c := w32 0 = 0) (by decide)]
    refine ⟨_, _, _, rfl, by rw [uh_ro _ _ _ _ (by decide), m91], ?_, ?_, ?_, ?_⟩
    · refine REL_txt rel (fun P p1 p2 p3 => ?_) ?_ (fun P p1 p2 => ?_) ?_ ?_ ?_ ?_ ?_
      · rw [uh_row p2]; exact s1r P p2 (by unfold VC at p1; omega)
      · rw [uh_row (by decide)]; exact s1r 130 (by decide) (by omega)
      · rw [uh_row (by unfold VM at p1; omega)]; exact M1r P (by unfold VM at p1; omega) (by unfold VM at p1; omega) (by unfold VM at p1; omega)
      · rw [uh_ro _ _ _ _ (by decide)]; exact M1q 2 (by omega)
      · rw [uh_ro _ _ _ _ (by decide)]; exact M1q 21 (by omega)
      · rw [uh_ro _ _ _ _ (by decide)]; exact M1q 22 (by omega)
      · rw [uh_ro _ _ _ _ (by decide)]; exact M1q 26 (by omega)
      · refine ⟨by rw [uh_rc, uh_rc], by rw [uh_rc]; decide, by rw [uh_rc]; decide, fun i hi => ?_⟩
        rw [uh_rc] at hi
        omega
    · rw [uh_row (by decide)]; exact s1r 15 (by decide) (by omega)
    · rw [uh_row (by decide)]; exact s1r 38 (by decide) (by omega)
    · rw [uh_row (by decide)]; exact s1r 40 (by decide) (by omega)
end CI
