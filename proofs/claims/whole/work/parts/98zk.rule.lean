/-! rule, both sides -/
section RU
variable {T : Nat → Int} {n t : Nat} {s M : Hp}
/-- behind k clauses, wherever the two stand -/
def JW (t : Nat) (k : Nat) (s M : Hp) : Prop := ∃ (R : List Cls) (z : Nat), R.length = k ∧ KC (encC R) z s ∧ KM t (sgC R) z M ∧ t < 6 ∧ z ≤ 60 ∧ (sgC R).length ≤ (encC R).length ∧ 3 * (encC R).length ≤ 16 * z ∧ RI (M 150) t 0 0 R ∧ M 151 t = (k : Int) ∧ M 146 14 = (k : Int) ∧ wfC R
theorem JR_w {k : Nat} (h : JR T n t k s M) : JW t k s M := by
  obtain ⟨R, z, h1, ⟨-, h2, h3, h4, h5, -, h7⟩, h8, h9, h10, h11, h12⟩ := h
  exact ⟨R, z, h1, h2, h3, h4, h5, h7, h8, h9, h10, h11, h12⟩
theorem JW_r {k : Nat} (rp : RP T n s M) (h : JW t k s M) : JR T n t k s M := by
  obtain ⟨R, z, h1, h2, h3, h4, h5, h6, h7, h8, h9, h10, h11⟩ := h
  exact ⟨R, z, h1, ⟨rp, h2, h3, h4, h5, by omega, h6⟩, h7, h8, h9, h10, h11⟩
theorem SheetR_rc {rc rc1 : Int} {a : Nat} {f : Nat → Int} {fo xx : Int} {K : Nat → Nat → Int} {n m : Nat} (h : SheetR rc s a f fo xx K n m) (hr : rc ≤ rc1) : SheetR rc1 s a f fo xx K n m := by
  obtain ⟨b1, b2, b3, b4, b5, b6, b7, b8, b9, b10, b11⟩ := h
  exact ⟨b1, b2, b3, b4, b5, b6, b7, b8, b9, by omega, b11⟩
/-- the text and the rules alone have changed -/
theorem REL_ru {sh : Shp} {ln ln2 : Nat → Nat} {s2 M2 : Hp} {L : Nat} (en : EN sh L) (ds : DS sh ln s) (rel : REL ln s M) (f1 : ∀ P, 16 ≤ P → P < 175 → s2 P = s P) (f2 : ∀ P, 175 ≤ P → P < L → s2 P = s P) (r04 : s 0 4 ≤ s2 0 4) (g1 : ∀ P, P = 156 ∨ P = 159 ∨ (171 ≤ P ∧ P ≤ 174) → M2 P = M P) (g2 : ∀ q, q = 21 ∨ q = 22 ∨ q = 26 → M2 146 q = M 146 q) (tp2 : TapeR s2 M2) (ru2 : RulesR ln2 s2 M2) : REL ln2 s2 M2 := by
  obtain ⟨-, -, ⟨K, c, m, sr, pa⟩, im, bo, le⟩ := rel
  have hltS : ∀ a, okS 2 sh a → ∀ i, i ≤ 21 → 175 ≤ a → s2 (a + i) = s (a + i) := fun a ha i hi h175 => by
    obtain ⟨k, l, d, e⟩ := okS_role ha hi
    exact f2 _ (by omega) (en.2.2.2 _ _ e)
  refine ⟨tp2, ru2, ⟨K, c, m, ?_, ?_⟩, ⟨fun k hk => ?_, by rw [f1 38 (by decide) (by decide)]; exact im.2⟩, ?_, ?_⟩
  · rw [g2 21 (by omega), g2 22 (by omega)]
    exact SheetR_rc (SheetR_cg sr (fun i hi => f1 _ (by omega) (by omega)) (g1 156 (by omega))) r04
  · obtain ⟨z, x, p1, p2, p3, p4, p5, p6, p7⟩ := pa
    refine ⟨z, x, by rw [f1 39 (by decide) (by decide)]; exact p1, by rw [g2 26 (by omega)]; exact p2, p3, by rw [f1 39 (by decide) (by decide)]; exact p4, p5, fun t ht => ?_, by rw [f1 40 (by decide) (by decide)]; exact p7⟩
    obtain ⟨q1, q2, K2, q3, q4, q5⟩ := p6 t ht
    rw [f1 40 (by decide) (by decide)]
    refine ⟨q1, q2, K2, q3, Cl_row q4 (fun i hi => ?_), ?_⟩
    · obtain ⟨k', l', d', e, -⟩ := okC_at (ds.2.1 _ (Nat.mod_lt _ (by decide)) q1) (P := (s 40 ((x + 19 - t) % 20)).toNat + i) (by omega) (by omega)
      exact f2 _ (by omega) (en.2.2.2 _ _ e)
    · have e : wsd M2 (z - 1 - t) = wsd M (z - 1 - t) := by unfold wsd; rw [g1 159 (by omega), g1 156 (by omega)]
      rw [e]; exact q5
  · rw [g1 174 (by omega), f1 38 (by decide) (by decide)]
    rcases im.1 k hk with q | ⟨q1, q2, q3, K2, n2, m2', q4⟩
    · exact Or.inl q
    · refine Or.inr ⟨q1, q2, q3, K2, n2, m2', ?_⟩
      rw [g1 171 (by omega), g1 172 (by omega), g1 173 (by omega)]
      exact SheetR_rc (SheetR_cg q4 (fun i hi => hltS _ (ds.2.2 k hk q2) i hi q3) rfl) r04
  · unfold BookR at bo ⊢
    rw [f1 130 (by decide) (by decide), f1 131 (by decide) (by decide)]; exact bo
  · unfold LevR at le ⊢
    rw [f1 55 (by decide) (by decide)]; exact le
theorem CR_ln {ln ln2 : Nat → Nat} {s2 : Hp} {u : Int} {R : List Cls} (h : CR ln s u (some R)) (hl : ln2 u.toNat = ln u.toNat) (hs : s2 (u.toNat + 1) = s (u.toNat + 1)) : CR ln2 s2 u (some R) := by
  obtain ⟨h1, h2, h3, h4, h5, h6⟩ := h
  exact ⟨h1, hl.trans h2, h3, by rw [hs]; exact h4, h5, h6⟩
theorem fit_n {x : Int} {z : Nat} (h : x = (z : Int)) (hz : z ≤ 400) : fitN x = z := by
  unfold fitN
  rw [h, w32_eq (x := (z : Int)) (by omega) (by omega), if_neg (by omega), if_neg (by omega)]
  omega
theorem k_rule {sh : Shp} {ln : Nat → Nat} {L : Nat} (en : EN sh L) (ds : DS sh ln s) (rel : REL ln s M) : ∃ r s2 sh2 M2 ln2, xf_rule L sh s = some (r, s2, sh2) ∧ xm_rule M = some (r, M2) ∧ DS sh2 ln2 s2 ∧ REL ln2 s2 M2 := by
  obtain ⟨⟨t1, t2, t3, t4⟩, ru, -⟩ := id rel
  obtain ⟨ru1, ru2, ru3, ru4⟩ := id ru
  have hL := en.2.2.1
  obtain ⟨n, hn⟩ : ∃ n : Nat, s 1 1 = (n : Int) := ⟨(s 1 1).toNat, by omega⟩
  obtain ⟨t, ht⟩ : ∃ t : Nat, s 0 4 = (t : Int) := ⟨(s 0 4).toNat, by omega⟩
  have hb : TB (s 2) n := ⟨by omega, fun i hi => by have := t4 i (by omega); exact ⟨this.1, this.2.1⟩⟩
  have hm2 : M 146 2 = (t : Int) := by omega
  unfold xf_rule xm_rule
  rw [ht, hm2, w32_eq (x := (t : Int)) (by omega) (by omega), show w32 6 = 6 by decide]
  by_cases h6 : t = 6
  · rw [if_neg (by omega), if_pos (by omega)]
    exact ⟨-1, s, sh, M, ln, rfl, rfl, ds, rel⟩
  · rw [if_pos (by omega), if_neg (by omega)]
    simp only [obs]
    rw [uh_rc, ixt (n := 6) (j := (t : Int)) t rfl (by omega) (by decide)]
    simp only [obs]
    -- the class begins to read
    have tc0 : TC (s 2) n (uh (uh (uh (uh s 13 1 0) 13 2 0) 1 2 0) 1 3 0) := TC_u (TC_u ⟨by rw [uh_row (by decide), uh_row (by decide)]; exact hn, by rw [uh_row (by decide), uh_row (by decide)]⟩ (by decide)) (by decide)
    have cb := ct_blanks (i := 0) hb tc0 (by rw [uh_ro _ _ _ _ (by decide), uh_rc]; rfl) (Nat.zero_le _)
    have est : xt_startReading (uh (uh s 13 1 0) 13 2 0) = some (uh (uh (uh (uh (uh s 13 1 0) 13 2 0) 1 2 0) 1 3 0) 1 2 ((skp (isB (s 2)) n 0 : Nat) : Int)) := by
      unfold xt_startReading
      simp only [obs]
      rw [cb]
      rfl
    generalize hs0 : uh (uh (uh (uh (uh s 13 1 0) 13 2 0) 1 2 0) 1 3 0) 1 2 ((skp (isB (s 2)) n 0 : Nat) : Int) = s0 at est
    -- the reference begins to read
    generalize hM0 : uh (uh (uh (uh (uh (uh (uh M 146 11 (t : Int)) 151 t 0) 149 t 0) 146 14 0) 146 8 0) 146 9 0) 146 12 0 = M0
    have s0r : ∀ P, P ≠ 1 → P ≠ 13 → s0 P = s P := fun P h1 h2 => by rw [← hs0, uh_row h1, uh_row h1, uh_row h1, uh_row h2, uh_row h2]
    have M0r : ∀ P, P ≠ 146 → P ≠ 149 → P ≠ 151 → M0 P = M P := fun P h1 h2 h3 => by rw [← hM0, uh_row h1, uh_row h1, uh_row h1, uh_row h1, uh_row h2, uh_row h3, uh_row h1]
    have M0q : ∀ q, q ≠ 8 → q ≠ 9 → q ≠ 11 → q ≠ 12 → q ≠ 14 → M0 146 q = M 146 q := fun q a b c d e => by
      rw [← hM0, uh_ro _ _ _ _ d, uh_ro _ _ _ _ b, uh_ro _ _ _ _ a, uh_ro _ _ _ _ e, uh_row (by decide), uh_row (by decide), uh_ro _ _ _ _ c]
    have M011 : M0 146 11 = (t : Int) := by rw [← hM0, uh_ro _ _ _ _ (by decide), uh_ro _ _ _ _ (by decide), uh_ro _ _ _ _ (by decide), uh_ro _ _ _ _ (by decide), uh_row (by decide), uh_row (by decide), uh_rc]
    have M014 : M0 146 14 = ((0 : Nat) : Int) := by rw [← hM0, uh_ro _ _ _ _ (by decide), uh_ro _ _ _ _ (by decide), uh_ro _ _ _ _ (by decide), uh_rc]; rfl
    have M08 : M0 146 8 = ((0 : Nat) : Int) := by rw [← hM0, uh_ro _ _ _ _ (by decide), uh_ro _ _ _ _ (by decide), uh_rc]; rfl
    have M09 : M0 146 9 = 0 := by rw [← hM0, uh_ro _ _ _ _ (by decide), uh_rc]
    have M012 : M0 146 12 = ((0 : Nat) : Int) := by rw [← hM0, uh_rc]; rfl
    have M0149 : M0 149 t = ((0 : Nat) : Int) := by rw [← hM0, uh_row (by decide), uh_row (by decide), uh_row (by decide), uh_row (by decide), uh_rc]; rfl
    have M0151 : M0 151 t = ((0 : Nat) : Int) := by rw [← hM0, uh_row (by decide), uh_row (by decide), uh_row (by decide), uh_row (by decide), uh_row (by decide), uh_rc]; rfl
    have M0151q : ∀ q, q ≠ t → M0 151 q = M 151 q := fun q hq => by rw [← hM0, uh_row (by decide), uh_row (by decide), uh_row (by decide), uh_row (by decide), uh_row (by decide), uh_ro _ _ _ _ hq, uh_row (by decide)]
    have rp0 : RP (s 2) n s0 M0 := by
      refine ⟨by rw [← hs0]; exact TC_u tc0 (by decide), ⟨by rw [M0q 1 (by decide) (by decide) (by decide) (by decide) (by decide), ← t1]; exact hn, fun i hi => by rw [M0r 147 (by decide) (by decide) (by decide)]; exact (t4 i (by omega)).2.2⟩, ?_, M09, 0, M08, Nat.zero_le _, by rw [← hs0, uh_rc]⟩
      rw [← hs0, uh_ro _ _ _ _ (by decide), uh_rc]
    have jw0 : JW t 0 s0 M0 := by
      refine ⟨[], 0, rfl, ⟨?_, trivial, ?_⟩, ⟨M011, M0149, trivial, M012⟩, by omega, by decide, by decide, by decide, trivial, M0151, M014, trivial⟩
      · rw [← hs0, uh_row (by decide), uh_row (by decide), uh_row (by decide), uh_ro _ _ _ _ (by decide), uh_rc]; rfl
      · rw [← hs0, uh_row (by decide), uh_row (by decide), uh_row (by decide), uh_rc]; rfl
    obtain ⟨f, s1, b, M1, e1, e2, ⟨he, hr⟩, tc1, tm1, m91, hres⟩ := rd_both (T := s 2) (n := n) (K := 12) (C := xr_readClause) (W := fun a B => HE s0 a ∧ HR t M0 B) (J := fun k a B => JW t k a B) hb (by decide) (by
        rintro k a B hk rp ⟨w1, w2⟩ jw
        obtain ⟨a1, b, B1, x1, x2, x3, x4, x5⟩ := rr_clause hb hk rp (JW_r rp jw)
        refine ⟨a1, b, B1, x1, x2, ⟨HE_tr w1 x3, HR_tr w2 x4⟩, ?_⟩
        rcases x5 with ⟨y1, y2, y3, y4⟩ | y
        · exact Or.inl ⟨y1, y2, JR_w y3, y4⟩
        · exact Or.inr y) (by
        rintro a B q v hq ⟨w1, w2⟩
        exact ⟨HE_tr w1 HE_1, w2⟩) (by
        rintro a B q v hq ⟨w1, w2⟩
        exact ⟨w1, HR_tr w2 (HR_1 (by omega))⟩) (by
        rintro k a B v ⟨R, z, h1, h2, h3⟩
        exact ⟨R, z, h1, KC_1 h2, h3⟩) (by
        rintro k a B v ⟨R, z, h1, h2, h3, h4, h5, h6, h7, h8, h9, h10, h11⟩
        exact ⟨R, z, h1, h2, KM_8 h3 (by decide), h4, h5, h6, h7, by rw [uh_row (by decide)]; exact h8, by rw [uh_row (by decide)]; exact h9, by rw [uh_ro _ _ _ _ (by decide)]; exact h10, h11⟩) 12 0 s0 M0 rfl (by decide) rp0 ⟨HE_rf, HR_rf⟩ jw0
    have ecl : xr_read s = some (f, s1) := by
      unfold xr_read
      simp only [obs]
      rw [est]
      exact e1
    have eM : xm_readsAll (uh (uh M 146 11 (t : Int)) 151 t 0) = some (b, uh M1 146 1 0) := by
      unfold xm_readsAll
      rw [uh_row (p := 146) (by decide), uh_rc, ixt (n := 7) (j := (t : Int)) t rfl (by omega) (by decide)]
      simp only [obs]
      rw [hM0]
      exact e2
    have s1r : ∀ P, P ≠ 1 → P ≠ 13 → P ≠ 14 → s1 P = s P := fun P h1 h2 h3 => (he P h1 h2 h3).trans (s0r P h1 h2)
    have M1r : ∀ P, P = 156 ∨ P = 159 ∨ (171 ≤ P ∧ P ≤ 174) → M1 P = M P := fun P hP => (hr.1 P (by omega) (by omega) (by omega) (by omega) (by omega) (by omega)).trans (M0r P (by omega) (by omega) (by omega))
    have M1q : ∀ q, q = 2 ∨ q = 21 ∨ q = 22 ∨ q = 26 → M1 146 q = M 146 q := fun q hq => (hr.2.1 q (by omega) (by omega) (by omega) (by omega) (by omega) (by omega) (by omega)).trans (M0q q (by omega) (by omega) (by omega) (by omega) (by omega))
    have rmo : ∀ (x : Nat) (R : List Cls) (M' : Hp), (∀ P, P = 148 ∨ P = 150 ∨ P = 151 → M' P = M1 P) → x < t → RM M x 0 0 R → R.length ≤ 12 → lenC R ≤ 400 → RM M' x 0 0 R := by
      intro x R M' h' hx hR h12 h400
      refine RM_seg R 0 0 hR (fun j j1 j2 => ?_) (fun j j1 j2 => ?_) ?_
      · rw [h' 150 (by omega), hr.2.2.2.1 j (by omega), M0r 150 (by decide) (by decide) (by decide)]
      · rw [h' 148 (by omega), hr.2.2.1 j (by omega), M0r 148 (by decide) (by decide) (by decide)]
      · rw [h' 151 (by omega), hr.2.2.2.2 x (by omega), M0151q x (by omega)]
    rw [ecl, eM]
    simp only [obs]
    rcases hres with ⟨rfl, rfl, k1, hk1, hk2, R, z, j1, j2, j3, j4, j5, j6, j7, j8, j9, j10, j11⟩ | ⟨rfl, f0, f1⟩
    · rw [if_pos (c := w32 0 = 0) (by decide), if_neg (c := w32 1 = 0) (by decide)]
      have hE : (encC R).length ≤ 400 := by omega
      have e04 : uh s1 1 1 0 0 4 = (t : Int) := by rw [uh_row (by decide), s1r 0 (by decide) (by decide) (by decide)]; exact ht
      unfold xr_made
      simp only [obs]
      rw [e04, ixt (n := 6) (j := (t : Int)) t rfl (by omega) (by decide)]
      simp only [obs]
      have md : ∀ P, P < L → mdS (uh s1 1 1 0) L P = uh s1 1 1 0 P := fun P hP => funext fun q => if_pos hP
      have md1 : mdS (uh s1 1 1 0) L (L + 1) = s1 14 := by
        funext q
        show (if L + 1 < L then _ else if L + 1 = L + 1 then uh s1 1 1 0 14 q else 0) = _
        rw [if_neg (by omega), if_pos rfl, uh_row (by decide)]
      have m104 : uh (mdS (uh s1 1 1 0) L) 15 t ((L : Nat) : Int) 0 4 = (t : Int) := by rw [uh_row (by decide), md 0 (by omega)]; exact e04
      have mm2 : uh M1 146 1 0 146 2 = (t : Int) := by rw [uh_ro _ _ _ _ (by decide), M1q 2 (by omega)]; exact hm2
      rw [m104, mm2, uh_rc, uh_rc]
      have hfit : fitN (uh s1 1 1 0 13 1) = (encC R).length := fit_n (by rw [uh_row (by decide)]; exact j2.1) hE
      have hsub : Sub sh (shAp sh L (shTU (fitN (uh s1 1 1 0 13 1)))) := fun a q h => by
        show (if a < L then sh a else _) = _
        rw [if_pos (en.2.2.2 a q h)]
        exact h
      have hok : okU (fun _ => fitN (uh s1 1 1 0 13 1)) (shAp sh L (shTU (fitN (uh s1 1 1 0 13 1)))) L := okM_new (o := ((L : Int), mdS (uh s1 1 1 0) L, shAp sh L (shTU (fitN (uh s1 1 1 0 13 1))))) rfl
      have z2 : ∀ P, 16 ≤ P → P < L → uh (uh (mdS (uh s1 1 1 0) L) 15 t ((L : Nat) : Int)) 0 4 ((t : Int) + 1) P = s P := fun P h1 h2 => by rw [uh_row (by omega), uh_row (by omega), md P h2, uh_row (by omega), s1r P (by omega) (by omega) (by omega)]
      have z15 : ∀ i, i ≠ t → uh (uh (mdS (uh s1 1 1 0) L) 15 t ((L : Nat) : Int)) 0 4 ((t : Int) + 1) 15 i = s 15 i := fun i hi => by rw [uh_row (by decide), uh_ro _ _ _ _ hi, md 15 (by omega), uh_row (by decide), s1r 15 (by decide) (by decide) (by decide)]
      have z15t : uh (uh (mdS (uh s1 1 1 0) L) 15 t ((L : Nat) : Int)) 0 4 ((t : Int) + 1) 15 t = ((L : Nat) : Int) := by rw [uh_row (by decide), uh_rc]
      have z04 : uh (uh (mdS (uh s1 1 1 0) L) 15 t ((L : Nat) : Int)) 0 4 ((t : Int) + 1) 0 4 = (t : Int) + 1 := uh_rc _ _ _ _
      have zL : uh (uh (mdS (uh s1 1 1 0) L) 15 t ((L : Nat) : Int)) 0 4 ((t : Int) + 1) (L + 1) = s1 14 := by rw [uh_row (by omega), uh_row (by omega), md1]
      have hlt : ∀ i, i < 6 → ¬ s 15 i < 0 → (s 15 i).toNat + 1 < L := fun i hi h0 => en.2.2.2 _ _ (ds.1 i hi h0).2
      refine ⟨_, _, _, _, fun a => if a = L then (encC R).length else ln a, rfl, rfl, ⟨fun i hi => ?_, fun i hi h0 => ?_, fun i hi h0 => ?_⟩, ?_⟩
      · by_cases hit : i = t
        · subst hit
          rw [z15t]
          intro _
          rw [show ((L : Nat) : Int).toNat = L by omega]
          refine ⟨hok.1, ?_⟩
          rw [hok.2, hfit]
          show _ = some (1, 1, 0, [(if L = L then (encC R).length else ln L, 0)])
          rw [if_pos rfl]
        · rw [z15 i hit]
          intro h0
          have := hlt i hi h0
          obtain ⟨x1, x2⟩ := okR_sub hsub (ds.1 i hi) h0
          refine ⟨x1, ?_⟩
          rw [x2]
          show _ = some (1, 1, 0, [(if (s 15 i).toNat = L then (encC R).length else ln (s 15 i).toNat, 0)])
          rw [if_neg (by omega)]
      · rw [z2 40 (by decide) (by omega)] at h0 ⊢; exact okC_sub hsub (ds.2.1 i hi h0)
      · rw [z2 38 (by decide) (by omega)] at h0 ⊢; exact okS_sub hsub (ds.2.2 i hi h0)
      · refine REL_ru en ds rel (fun P h1 h2 => z2 P h1 (by omega)) (fun P h1 h2 => z2 P (by omega) h2) (by rw [z04]; omega) (fun P hP => by rw [uh_row (by omega), uh_row (by omega)]; exact M1r P hP) (fun q hq => by rw [uh_ro _ _ _ _ (by omega), uh_ro _ _ _ _ (by omega)]; exact M1q q (by omega)) ?_ ?_
        · have e11 : uh (uh (mdS (uh s1 1 1 0) L) 15 t ((L : Nat) : Int)) 0 4 ((t : Int) + 1) 1 1 = 0 := by rw [uh_row (by decide), uh_row (by decide), md 1 (by omega), uh_rc]
          refine ⟨by rw [e11, uh_ro _ _ _ _ (by decide), uh_rc], by rw [e11]; decide, by rw [e11]; decide, fun i hi => ?_⟩
          rw [e11] at hi
          omega
        · refine ⟨by rw [z04, uh_rc], by rw [z04]; omega, by rw [z04]; omega, fun x hx => ?_⟩
          rw [z04] at hx
          by_cases hxt : x = t
          · subst hxt
            refine ⟨R, ?_, ?_, by omega, ?_, j11⟩
            · rw [z15t]
              refine ⟨by omega, ?_, hE, ?_, j11, by omega⟩
              · show (if ((L : Nat) : Int).toNat = L then (encC R).length else _) = _
                rw [if_pos (by omega)]
              · rw [show ((L : Nat) : Int).toNat + 1 = L + 1 by omega, zL]
                exact j2.2.1
            · refine RM_of R 0 0 ?_ ?_ ?_
              · rw [uh_row (by decide), uh_row (by decide)]; exact j8
              · rw [uh_row (by decide), uh_row (by decide)]; exact j3.2.2.1
              · rw [uh_row (by decide), uh_row (by decide), j9, Nat.zero_add, j1]
            · rw [lenC_sg]; omega
          · obtain ⟨R', c1, c2, c3, c4, c5⟩ := ru4 x (by omega)
            have hx6 : x < 6 := by omega
            have := hlt x hx6 c1.1
            refine ⟨R', ?_, rmo x R' _ (fun P hP => by rw [uh_row (by omega), uh_row (by omega)]) (by omega) c2 c3 c4, c3, c4, c5⟩
            rw [z15 x hxt]
            refine CR_ln c1 ?_ (z2 _ ?_ (by omega))
            · show (if (s 15 x).toNat = L then (encC R).length else ln (s 15 x).toNat) = _
              rw [if_neg (by omega)]
            · have := c1.2.2.2.2.2; omega
    · rw [if_neg (c := w32 f = 0) (by rw [w32_eq (by omega) (by omega)]; omega), if_pos (c := w32 0 = 0) (by decide)]
      refine ⟨_, _, _, _, ln, rfl, by rw [uh_ro _ _ _ _ (by decide), m91], DS_cg ds ?_ ?_ ?_, REL_ru en ds rel (fun P h1 h2 => ?_) (fun P h1 h2 => ?_) ?_ (fun P hP => ?_) (fun q hq => ?_) ?_ ?_⟩
      · rw [uh_row (by decide)]; exact s1r 15 (by decide) (by decide) (by decide)
      · rw [uh_row (by decide)]; exact s1r 38 (by decide) (by decide) (by decide)
      · rw [uh_row (by decide)]; exact s1r 40 (by decide) (by decide) (by decide)
      · rw [uh_row (by omega)]; exact s1r P (by omega) (by omega) (by omega)
      · rw [uh_row (by omega)]; exact s1r P (by omega) (by omega) (by omega)
      · rw [uh_row (by decide), s1r 0 (by decide) (by decide) (by decide)]; exact Int.le_refl _
      · rw [uh_row (by omega)]; exact M1r P hP
      · rw [uh_ro _ _ _ _ (by omega)]; exact M1q q (by omega)
      · refine ⟨by rw [uh_rc, uh_rc], by rw [uh_rc]; decide, by rw [uh_rc]; decide, fun i hi => ?_⟩
        rw [uh_rc] at hi
        omega
      · refine ⟨?_, ?_, ?_, fun x hx => ?_⟩
        · rw [uh_row (by decide), s1r 0 (by decide) (by decide) (by decide), uh_ro _ _ _ _ (by decide), M1q 2 (by omega)]; exact ru1
        · rw [uh_row (by decide), s1r 0 (by decide) (by decide) (by decide)]; exact ru2
        · rw [uh_row (by decide), s1r 0 (by decide) (by decide) (by decide)]; exact ru3
        · rw [uh_row (by decide), s1r 0 (by decide) (by decide) (by decide)] at hx
          obtain ⟨R', c1, c2, c3, c4, c5⟩ := ru4 x hx
          refine ⟨R', ?_, rmo x R' _ (fun P hP => by rw [uh_row (by omega)]) (by omega) c2 c3 c4, c3, c4, c5⟩
          rw [uh_row (p := 15) (by decide), s1r 15 (by decide) (by decide) (by decide)]
          refine CR_ln c1 rfl ?_
          have := c1.2.2.2.2.2
          rw [uh_row (by omega), s1r _ (by omega) (by omega) (by omega)]
end RU
