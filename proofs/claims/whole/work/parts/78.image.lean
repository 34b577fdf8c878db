/-! images -/
theorem cs_copy {s : Hp} {a0 a1 : Nat} (hd : a0 + 21 < a1 ∨ a1 + 21 < a0) : ∃ s1, xs_copyFrom s a0 a1 = some s1 ∧ (∀ P, ¬ (a0 ≤ P ∧ P ≤ a0 + 21) → s1 P = s P) ∧ (∀ i, i ≤ 8 → ∀ q, q < rowLen i → s1 (a0 + 1 + i) q = s (a1 + 1 + i) q) ∧ (∀ i, i ≤ 8 → ∀ q, q < rowLen i → s1 (a0 + 10 + i) q = s (a1 + 10 + i) q) ∧ (∀ q, q < 8 → s1 (a0 + 19) q = s (a1 + 19) q) ∧ (∀ q, q < 10 → s1 (a0 + 20) q = s (a1 + 20) q ∧ s1 (a0 + 21) q = s (a1 + 21) q) ∧ s1 a0 5 = s a1 5 ∧ s1 a0 6 = s a1 6 ∧ s1 a0 7 = s a1 7 := by
  unfold xs_copyFrom
  obtain ⟨o1, c1, c2, c3⟩ := cl_copy (s := s) (a0 := a0 + 1) (a1 := a1 + 1) (by omega)
  rw [c1]
  simp only [obs]
  obtain ⟨o5, d1, d2, d3⟩ := cl_copy (s := o1) (a0 := a0 + 10) (a1 := a1 + 10) (by omega)
  rw [d1]
  simp only [obs]
  rw [if_pos (show ¬ a1 + 19 = a0 + 19 by omega), if_pos (show ¬ a1 + 20 = a0 + 20 by omega), if_pos (show ¬ a1 + 21 = a0 + 21 by omega)]
  generalize hT : uc (uc (uc o5 (a1 + 19) (a0 + 19) 8) (a1 + 20) (a0 + 20) 10) (a1 + 21) (a0 + 21) 10 = T
  have t0 : ∀ P, P ≠ a0 + 19 → P ≠ a0 + 20 → P ≠ a0 + 21 → T P = o5 P := fun P h1 h2 h3 => by rw [← hT, uc_row h3, uc_row h2, uc_row h1]
  have t1 : ∀ q, q < 8 → T (a0 + 19) q = o5 (a1 + 19) q := fun q hq => by rw [← hT, uc_row (by omega), uc_row (by omega), uc_at, if_pos ⟨rfl, hq⟩]
  have t2 : ∀ q, q < 10 → T (a0 + 20) q = o5 (a1 + 20) q := fun q hq => by rw [← hT, uc_row (by omega), uc_at, if_pos ⟨rfl, hq⟩, uc_row (by omega)]
  have t3 : ∀ q, q < 10 → T (a0 + 21) q = o5 (a1 + 21) q := fun q hq => by rw [← hT, uc_at, if_pos ⟨rfl, hq⟩, uc_row (by omega), uc_row (by omega)]
  have ro : ∀ P, ¬ (a0 + 1 ≤ P ∧ P ≤ a0 + 18) → o5 P = s P := fun P hP => by rw [d2 P (by omega), c2 P (by omega)]
  have n1 : a1 ≠ a0 := by omega
  have ta : T a1 = s a1 := by rw [t0 a1 (by omega) (by omega) (by omega), ro a1 (by omega)]
  simp only [uh_row (p := a1) (a := a0) n1, ta]
  refine ⟨_, rfl, fun P hP => ?_, fun i hi q hq => ?_, fun i hi q hq => ?_, fun q hq => ?_, fun q hq => ⟨?_, ?_⟩, ?_, ?_, ?_⟩
  · rw [uh_row (by omega), uh_row (by omega), uh_row (by omega), t0 P (by omega) (by omega) (by omega), ro P (by omega)]
  · rw [uh_row (by omega), uh_row (by omega), uh_row (by omega), t0 _ (by omega) (by omega) (by omega), d2 _ (by omega), c3 i hi q hq]
  · rw [uh_row (by omega), uh_row (by omega), uh_row (by omega), t0 _ (by omega) (by omega) (by omega), d3 i hi q hq, c2 _ (by omega)]
  · rw [uh_row (by omega), uh_row (by omega), uh_row (by omega), t1 q hq, ro _ (by omega)]
  · rw [uh_row (by omega), uh_row (by omega), uh_row (by omega), t2 q hq, ro _ (by omega)]
  · rw [uh_row (by omega), uh_row (by omega), uh_row (by omega), t3 q hq, ro _ (by omega)]
  · rw [uh_ro _ _ _ _ (by decide), uh_ro _ _ _ _ (by decide), uh_rc]
  · rw [uh_ro _ _ _ _ (by decide), uh_rc]
  · rw [uh_rc]
theorem SheetR_cp {rc : Int} {s s1 : Hp} {a0 a1 : Nat} {f : Nat → Int} {fo xx : Int} {K : Nat → Nat → Int} {n m : Nat} (h : SheetR rc s a1 f fo xx K n m) (c1 : ∀ i, i ≤ 8 → ∀ q, q < rowLen i → s1 (a0 + 1 + i) q = s (a1 + 1 + i) q) (c2 : ∀ i, i ≤ 8 → ∀ q, q < rowLen i → s1 (a0 + 10 + i) q = s (a1 + 10 + i) q) (c3 : ∀ q, q < 8 → s1 (a0 + 19) q = s (a1 + 19) q) (c4 : ∀ q, q < 10 → s1 (a0 + 20) q = s (a1 + 20) q ∧ s1 (a0 + 21) q = s (a1 + 21) q) (c5 : s1 a0 5 = s a1 5) (c6 : s1 a0 6 = s a1 6) (c7 : s1 a0 7 = s a1 7) : SheetR rc s1 a0 f fo xx K n m := by
  obtain ⟨b1, b2, b3, b4, b5, b6, b7, b8⟩ := h
  have w8 := b1.1
  refine ⟨b1, Cl_cp b2 b1 c1, b3, b4, Cl_cp b5 b4 c2, fun j hj => ?_, ?_, ?_⟩
  · rw [c3 j (by omega)]; exact b6 j hj
  · obtain ⟨l1, l2, l3, l4, l5⟩ := b7
    refine ⟨by rw [c5]; exact l1, l2, l3, l4, fun i hi => ?_⟩
    rw [(c4 i (by omega)).1, (c4 i (by omega)).2]
    exact l5 i hi
  · rw [c6, c7]; exact b8
/-- the numbers that count -/
def KEn (K K1 : Nat → Nat → Int) : Prop := ∀ r i, i < 8 → K1 r i = K r i
theorem WF_ken {K K1 : Nat → Nat → Int} {n m : Nat} (w : WF K n m) (e : KEn K K1) : WF K1 n m := by
  obtain ⟨w8, w4, w0, w2, wl, wz, wd0, wd9, wc, wj, wq⟩ := w
  unfold WF
  rw [e 0 2 (by decide), e 0 3 (by decide)]
  refine ⟨w8, w4, w0, w2, wl, wz, wd0, wd9, fun c hc => ?_, fun j hj => ?_, fun p hp => ?_⟩
  · rw [e 1 c (by omega), e 3 c (by omega), e 4 c (by omega), e 5 c (by omega)]; exact wc c hc
  · rw [e 1 j (by omega), e 1 (j + 1) (by omega), e 6 j (by omega)]; exact wj j hj
  · rw [e 8 p (by omega)]; exact wq p hp
theorem Cl_ken {s : Hp} {a : Nat} {K K1 : Nat → Nat → Int} {n m : Nat} (h : Cl s a K n m) (w : WF K n m) (e : KEn K K1) : Cl s a K1 n m := by
  obtain ⟨h0, h1, h2, h3, h4, h5, h6, h7⟩ := h
  have w8 := w.1
  have w4 := w.2.1
  unfold Cl
  rw [e 0 2 (by decide), e 0 3 (by decide)]
  refine ⟨h0, h1, h2, h3, fun c hc => ?_, fun j hj => ?_, fun p hp => ?_, fun p hp => ?_⟩
  · rw [e 1 c (by omega), e 2 c (by omega), e 3 c (by omega), e 4 c (by omega), e 5 c (by omega)]; exact h4 c hc
  · rw [e 6 j (by omega)]; exact h5 j hj
  · rw [e 8 p (by omega)]; exact h6 p hp
  · rw [h7 p hp, thk_cg (fun c hc => (e 1 c (by omega)).symm)]
theorem SheetR_ff {rc : Int} {s : Hp} {a : Nat} {f f1 : Nat → Int} {fo xx : Int} {K : Nat → Nat → Int} {n m : Nat} (h : SheetR rc s a f fo xx K n m) (hf : ∀ q, q < 130 → f1 q = f q) : SheetR rc s a f1 fo xx K n m := by
  obtain ⟨b1, b2, b3, b4, b5, b6, b7, b8⟩ := h
  have w8 := b1.1
  have w4 := b1.2.1
  have e : KEn (tdK f) (tdK f1) := fun r i hi => by
    unfold tdK
    rw [hf 0 (by omega), hf (63 + i) (by omega), hf (55 + i) (by omega), hf (71 + i) (by omega), hf (78 + i) (by omega)]
  refine ⟨b1, b2, ?_, WF_ken b4 e, Cl_ken b5 b4 e, fun j hj => ?_, ?_, b8⟩
  · obtain ⟨a0, a1, a2, a3, a4, a5, a6⟩ := b3
    refine ⟨by rw [hf 0 (by decide)]; exact a0, by rw [hf 1 (by decide)]; exact a1, by rw [hf 10 (by decide)]; exact a2, by rw [hf 11 (by decide)]; exact a3, fun c hc => ?_, fun j hj => ?_, fun p hp => ?_⟩
    · rw [hf _ (by omega), hf _ (by omega), hf _ (by omega), hf _ (by omega), hf _ (by omega)]; exact a4 c hc
    · rw [hf _ (by omega)]; exact a5 j hj
    · rw [hf _ (by omega)]; exact a6 p hp
  · rw [hf _ (by omega)]; exact b6 j hj
  · rw [hf 129 (by decide)]
    obtain ⟨l1, l2, l3, l4, l5⟩ := b7
    refine ⟨l1, l2, l3, l4, fun i hi => ?_⟩
    rw [hf (89 + 4 * i) (by omega), hf (89 + 4 * i + 1) (by omega), hf (89 + 4 * i + 2) (by omega), hf (89 + 4 * i + 3) (by omega)]
    exact l5 i hi
theorem okS_at {a : Nat} {sh : Shp} (h : okS 2 sh a) {P : Nat} (h1 : a < P) (h2 : P ≤ a + 21) : ∃ k l d, sh P = some (2, k, l, d) ∧ ¬ (k = 0 ∧ l = 7) := by
  obtain ⟨i, rfl⟩ : ∃ i, P = a + i := ⟨P - a, by omega⟩
  obtain ⟨h0, hc1, hc2, h3, h4, h5⟩ := h
  have cc : ∀ b, okC 2 sh b → b ≤ a + i → a + i ≤ b + 8 → ∃ k l d, sh (a + i) = some (2, k, l, d) ∧ ¬ (k = 0 ∧ l = 7) := fun b hb g1 g2 => by
    obtain ⟨j, hj⟩ : ∃ j, a + i = b + j := ⟨a + i - b, by omega⟩
    rw [hj]
    by_cases j0 : j = 0
    · subst j0; exact ⟨_, _, _, hb.1, by decide⟩
    · by_cases j8 : j = 8
      · subst j8; exact ⟨_, _, _, hb.2.2, by decide⟩
      · exact ⟨_, _, _, hb.2.1 j (by omega) (by omega), by decide⟩
  by_cases c1 : i ≤ 9
  · exact cc _ hc1 (by omega) (by omega)
  by_cases c2 : i ≤ 18
  · exact cc _ hc2 (by omega) (by omega)
  by_cases c3 : i = 19
  · subst c3; exact ⟨_, _, _, h3, by decide⟩
  by_cases c4 : i = 20
  · subst c4; exact ⟨_, _, _, h4, by decide⟩
  have c5 : i = 21 := by omega
  subst c5; exact ⟨_, _, _, h5, by decide⟩
theorem okS_ap {a b : Nat} {sh : Shp} (h : okS 2 sh a) (g : okS 2 sh b) (hab : a ≠ b) {i : Nat} (hi : i ≤ 21) : ¬ (a ≤ b + i ∧ b + i ≤ a + 21) := by
  rintro ⟨h1, h2⟩
  by_cases hc : a < b
  · obtain ⟨k, l, d, e, f⟩ := okS_at h (P := b) hc (by omega)
    rw [g.1] at e
    cases e
    exact f ⟨rfl, rfl⟩
  · obtain ⟨k, l, d, e, f⟩ := okS_at g (P := a) (by omega) (by omega)
    rw [h.1] at e
    cases e
    exact f ⟨rfl, rfl⟩
theorem okS_r2 {a r : Nat} {sh : Shp} (h : okS 2 sh a) {P : Nat} {k l : Nat} {d : List (Nat × Nat)} (g : sh P = some (r, k, l, d)) (hr : r ≠ 2) : ¬ (a ≤ P ∧ P ≤ a + 21) := by
  rintro ⟨h1, h2⟩
  obtain ⟨k, l, d, e⟩ := okS_role h (i := P - a) (by omega)
  rw [show a + (P - a) = P by omega, g] at e
  exact hr (Prod.mk.inj (Option.some.inj e)).1
def gsF (s : Hp) : Nat → Int := fun i => if i < 4 then s 38 i else -1
theorem gsF_at {s : Hp} {i : Nat} (h : i < 4) : gsF s i = s 38 i := if_pos h
theorem gsF_ok {sh : Shp} {ln : Nat → Nat} {s : Hp} (ds : DS sh ln s) : ∀ i, ¬ gsF s i < 0 → okS 2 sh (gsF s i).toNat := fun i => by
  unfold gsF
  split
  · exact ds.2.2 i (by assumption)
  · exact fun k => absurd (by decide) k
theorem rm_image {M : Hp} {k : Nat} (hk : k < 4) : ∃ M1, xm_image M (k : Int) = some (M 156 11, M1) ∧ (∀ P, P ≠ 171 → P ≠ 172 → P ≠ 173 → P ≠ 174 → M1 P = M P) ∧ M1 174 k = 1 ∧ M1 172 k = M 146 21 ∧ M1 173 k = M 146 22 ∧ (∀ q, q < 130 → M1 171 (130 * k + q) = M 156 q) ∧ (∀ i, i ≠ k → M1 174 i = M 174 i ∧ M1 172 i = M 172 i ∧ M1 173 i = M 173 i) ∧ ∀ i, i < 4 → i ≠ k → ∀ q, q < 130 → M1 171 (130 * i + q) = M 171 (130 * i + q) := by
  unfold xm_image
  rw [w32_eq (x := (k : Int)) (by omega) (by omega), rm_in (by omega) (by omega) (by omega) (by omega) (by omega) (by omega), ixt (n := 4) k rfl hk (by decide), ix11 (by decide) (by decide)]
  simp only [obs, tb0]
  rw [if_neg (by omega)]
  generalize hS : uh (uh (uh M 174 k (nz 1)) 172 k (uh M 174 k (nz 1) 146 21)) 173 k (uh (uh M 174 k (nz 1)) 172 k (uh M 174 k (nz 1) 146 21) 146 22) = S
  have s0 : ∀ P, P ≠ 172 → P ≠ 173 → P ≠ 174 → S P = M P := fun P h1 h2 h3 => by rw [← hS, uh_row h2, uh_row h1, uh_row h3]
  obtain ⟨M1, e1, e2, e3, e4⟩ := cp_loop (B := fun (q : Int × Hp) => xm_image_b43 q.2 (k : Int) q.1) 156 171 130 (fun i => i) (fun i => 130 * k + i) S (fun i j _ _ h => by omega) (fun h => absurd h (by decide)) (fun i M' hi h1 _ => by
    show xm_image_b43 M' (k : Int) (i : Int) = _
    unfold xm_image_b43
    rw [w32_eq (x := (i : Int)) (by omega) (by omega), if_pos (by rw [show w32 130 = 130 by decide]; omega), ixt i rfl (by omega) (by decide), ixt (130 * k + i) (by omega) (by omega) (by decide)]
    rfl) (fun M' h1 _ => by
    show xm_image_b43 M' (k : Int) ((130 : Nat) : Int) = _
    unfold xm_image_b43
    rw [if_neg (by decide)])
  rw [e1]
  simp only [obs]
  have d174 : ∀ i, M1 174 i = uh M 174 k (nz 1) 174 i := fun i => by rw [e2 174 (by decide), ← hS, uh_row (by decide), uh_row (by decide)]
  have d172 : ∀ i, M1 172 i = uh (uh M 174 k (nz 1)) 172 k (uh M 174 k (nz 1) 146 21) 172 i := fun i => by rw [e2 172 (by decide), ← hS, uh_row (by decide)]
  have d173 : ∀ i, M1 173 i = S 173 i := fun i => by rw [e2 173 (by decide)]
  refine ⟨M1, ?_, fun P h1 h2 h3 h4 => ?_, ?_, ?_, ?_, fun q hq => ?_, fun i hi => ⟨?_, ?_, ?_⟩, fun i hi hik q hq => ?_⟩
  · rw [e2 156 (by decide), s0 156 (by decide) (by decide) (by decide)]
  · rw [e2 P h1, s0 P h2 h3 h4]
  · rw [d174, uh_rc]; decide
  · rw [d172, uh_rc, uh_row (by decide)]
  · rw [d173, ← hS, uh_rc, uh_row (by decide), uh_row (by decide)]
  · rw [e3 q hq, s0 156 (by decide) (by decide) (by decide)]
  · rw [d174, uh_ro _ _ _ _ hi]
  · rw [d172, uh_ro _ _ _ _ hi, uh_row (by decide)]
  · rw [d173, ← hS, uh_ro _ _ _ _ hi, uh_row (by decide), uh_row (by decide)]
  · rw [e4 _ (fun j hj => by omega), s0 171 (by decide) (by decide) (by decide)]
theorem rm_back {M : Hp} {k : Nat} (hk : k < 4) (hm : M 174 k = 1) : ∃ M1, xm_back M (k : Int) = some (M 171 (130 * k + 11), M1) ∧ (∀ P, P ≠ 146 → P ≠ 156 → M1 P = M P) ∧ (∀ q, q ≠ 21 → q ≠ 22 → q ≠ 26 → M1 146 q = M 146 q) ∧ M1 146 21 = M 172 k ∧ M1 146 22 = M 173 k ∧ M1 146 26 = 0 ∧ ∀ q, q < 130 → M1 156 q = M 171 (130 * k + q) := by
  unfold xm_back
  rw [w32_eq (x := (k : Int)) (by omega) (by omega), rm_in (by omega) (by omega) (by omega) (by omega) (by omega) (by omega), ixt (n := 4) k rfl hk (by decide), ix11 (by decide) (by decide)]
  simp only [obs, tb0]
  rw [if_neg (by omega), hm, if_neg (by decide)]
  generalize hS : uh (uh (uh M 146 21 (M 172 k)) 146 22 (uh M 146 21 (M 172 k) 173 k)) 146 26 0 = S
  have s0 : ∀ P, P ≠ 146 → S P = M P := fun P h1 => by rw [← hS, uh_row h1, uh_row h1, uh_row h1]
  obtain ⟨M1, e1, e2, e3, e4⟩ := cp_loop (B := fun (q : Int × Hp) => xm_back_b50 q.2 (k : Int) q.1) 171 156 130 (fun i => 130 * k + i) (fun i => i) S (fun i j _ _ h => h) (fun h => absurd h (by decide)) (fun i M' hi h1 _ => by
    show xm_back_b50 M' (k : Int) (i : Int) = _
    unfold xm_back_b50
    rw [w32_eq (x := (i : Int)) (by omega) (by omega), if_pos (by rw [show w32 130 = 130 by decide]; omega), ixt i rfl (by omega) (by decide), ixt (130 * k + i) (by omega) (by omega) (by decide)]
    rfl) (fun M' h1 _ => by
    show xm_back_b50 M' (k : Int) ((130 : Nat) : Int) = _
    unfold xm_back_b50
    rw [if_neg (by decide)])
  rw [e1]
  simp only [obs]
  refine ⟨M1, ?_, fun P h1 h2 => ?_, fun q h1 h2 h3 => ?_, ?_, ?_, ?_, fun q hq => ?_⟩
  · rw [e3 11 (by decide), s0 171 (by decide)]
  · rw [e2 P h2, s0 P h1]
  · rw [e2 146 (by decide), ← hS, uh_ro _ _ _ _ h3, uh_ro _ _ _ _ h2, uh_ro _ _ _ _ h1]
  · rw [e2 146 (by decide), ← hS, uh_ro _ _ _ _ (by decide), uh_ro _ _ _ _ (by decide), uh_rc]
  · rw [e2 146 (by decide), ← hS, uh_ro _ _ _ _ (by decide), uh_rc, uh_row (by decide)]
  · rw [e2 146 (by decide), ← hS, uh_rc]
  · rw [e3 q hq, s0 171 (by decide)]
section IM
variable {n : Nat} {w : pm_H}
theorem call_30 (hn : n < 512) (h : Inv n w) (a1 a2 a3 a4 a5 : Int32) : ob_ok 30 [a1, a2, a3, a4, a5] w (Inv (n + 1)) := by
  obtain ⟨sh, ln, s, M, ib, ds, rel⟩ := h
  obtain ⟨K, c, m, rk⟩ := RELK_of rel
  obtain ⟨tp, ru, sr, pa, im, bo, le⟩ := id rk
  have en := EN_of ib
  have bp := bi a1
  have key : ∃ r s2 M2, xf_back (gsF s) s a1.toInt = some (r, s2) ∧ xm_back M a1.toInt = some (r, M2) ∧ DS sh ln s2 ∧ REL ln s2 M2 := by
    generalize a1.toInt = p at bp
    by_cases hp : 0 ≤ p ∧ p ≤ 3
    · obtain ⟨k, rfl⟩ : ∃ k : Nat, p = (k : Int) := ⟨p.toNat, by omega⟩
      have hk : k < 4 := by omega
      have ecl : xf_back (gsF s) s (k : Int) = if s 38 k < 0 then some (-1, s) else (xs_copyFrom s 16 (s 38 k).toNat).bind fun o8 => (xp_forget o8).bind fun o12 => some (o12 17 3, o12) := by
        unfold xf_back
        rw [w32_eq (x := (k : Int)) (by omega) (by omega), if_neg (by omega), if_pos (by rw [show w32 4 = 4 by decide]; omega), ixt (n := 4) k rfl hk (by decide)]
        simp only [obs]
        rw [gsF_at hk]
        unfold rsA
        rw [if_pos rfl]
        simp only [obs]
      rcases im.1 k hk with ⟨q1, q2⟩ | ⟨q1, q2, q3, K2, n2, m2, q4⟩
      · refine ⟨-1, s, M, by rw [ecl, if_pos q2], ?_, ds, rel⟩
        unfold xm_back
        rw [w32_eq (x := (k : Int)) (by omega) (by omega), rm_in (by omega) (by omega) (by omega) (by omega) (by omega) (by omega), ixt (n := 4) k rfl hk (by decide)]
        simp only [obs, tb0]
        rw [if_neg (by omega), q1, if_pos (by decide)]
      · obtain ⟨s1, c1, c2, c3, c4, c5, c6, c7, c8, c9⟩ := cs_copy (s := s) (a0 := 16) (a1 := (s 38 k).toNat) (by omega)
        obtain ⟨M2, m1, m2', m3, m4, m5, m6, m7⟩ := rm_back hk q1
        have sr2 : SheetR (s 0 4) s1 16 (fun i => M 171 (130 * k + i)) (M 172 k) (M 173 k) K2 n2 m2 := SheetR_cp q4 c3 c4 c5 c6 c7 c8 c9
        have fr : ∀ P, ¬ (16 ≤ P ∧ P ≤ 37) → P ≠ 39 → uh s1 39 2 0 P = s P := fun P h1 h2 => by rw [uh_row h2]; exact c2 P (by omega)
        have r0 : uh s1 39 2 0 0 = s 0 := fr 0 (by decide) (by decide)
        refine ⟨_, _, M2, by rw [ecl, if_neg q2, c1]; simp only [obs]; rfl, ?_, DS_cg ds (fr 15 (by decide) (by decide)) (fr 38 (by decide) (by decide)) (fr 40 (by decide) (by decide)), ?_⟩
        · rw [m1]
          have e1 : M 171 (130 * k + 11) = K2 0 3 := sr2.2.2.1.2.2.2.1
          have e2 : s1 17 3 = K2 0 3 := sr2.2.1.2.2.2.1
          show some (M 171 (130 * k + 11), M2) = some (uh s1 39 2 0 17 3, M2)
          rw [uh_row (by decide), e1, e2]
        · obtain ⟨z, x, p1, p2, p3, p4, p5, p6, p7⟩ := pa
          refine ⟨?_, ?_, ⟨K2, n2, m2, ?_, 0, x, uh_rc _ _ _ _, m6, by decide, ?_, p5, fun t ht => by omega, ?_⟩, ?_, ?_, ?_⟩
          · unfold TapeR at tp ⊢
            rw [fr 1 (by decide) (by decide), fr 2 (by decide) (by decide), m3 1 (by decide) (by decide) (by decide), m2' 147 (by decide) (by decide)]
            exact tp
          · unfold RulesR at ru ⊢
            rw [r0, fr 15 (by decide) (by decide), m3 2 (by decide) (by decide) (by decide)]
            refine ⟨ru.1, ru.2.1, ru.2.2.1, fun x hx => ?_⟩
            obtain ⟨R, g1, g2, g3⟩ := ru.2.2.2 x hx
            exact ⟨R, CR_row g1 (fun P hP => fr P (by omega) (by omega)), RM_row (m2' 148 (by decide) (by decide)) (m2' 150 (by decide) (by decide)) (m2' 151 (by decide) (by decide)) g2, g3⟩
          · rw [r0, m4, m5]
            exact SheetR_ff (SheetR_cg sr2 (fun i hi => uh_row (by omega)) rfl) (fun q hq => m7 q hq)
          · rw [uh_ro _ _ _ _ (by decide), c2 39 (by decide)]; exact p4
          · rw [fr 40 (by decide) (by decide)]; exact p7
          · refine ⟨fun k hk => ?_, by rw [fr 38 (by decide) (by decide)]; exact im.2⟩
            rw [m2' 174 (by decide) (by decide), fr 38 (by decide) (by decide), r0]
            rcases im.1 k hk with q | ⟨q1, q2, q3, K2, n2, m2, q4⟩
            · exact Or.inl q
            · refine Or.inr ⟨q1, q2, q3, K2, n2, m2, ?_⟩
              rw [m2' 171 (by decide) (by decide), m2' 172 (by decide) (by decide), m2' 173 (by decide) (by decide)]
              exact SheetR_cg q4 (fun i hi => fr _ (by omega) (by omega)) rfl
          · unfold BookR at bo ⊢
            rw [fr 130 (by decide) (by decide), fr 131 (by decide) (by decide)]
            exact bo
          · unfold LevR at le ⊢
            rw [fr 55 (by decide) (by decide)]
            exact le
    · refine ⟨-1, s, M, ?_, ?_, ds, rel⟩
      · unfold xf_back
        rw [w32_eq (x := p) bp.1 bp.2, show w32 4 = 4 by decide]
        by_cases h0 : p < 0
        · rw [if_pos h0]
        · rw [if_neg h0, if_neg (by omega)]
      · unfold xm_back
        rw [w32_eq (x := p) bp.1 bp.2, rm_in (by omega) (by omega) (by omega) (by omega) (by omega) (by omega)]
        simp only [obs, tb0]
        rw [if_pos hp]
  obtain ⟨r, s2, M2, e1, e2, e3, e4⟩ := key
  exact ob_na (args := [.int (Int32.ofInt a1.toInt)]) hn rfl (by rw [← vi]; rfl) ib (fun P kr => xf_back_ok (w0 := w) ib.2.2.1 (gsF_ok ds) ⟨ib.1, Fr_rf⟩ e1 (fun w1 h1 => kr w1 h1)) (fun w1 h1 P kr => xm_back_ok (w0 := w1) StM_M ⟨h1, Fr_rf⟩ e2 (fun w2 h2 => kr w2 h2)) e3 e4
theorem call_29 (hn : n < 512) (h : Inv n w) (a1 a2 a3 a4 a5 : Int32) : ob_ok 29 [a1, a2, a3, a4, a5] w (Inv (n + 1)) := by
  obtain ⟨sh, ln, s, M, ib, ds, rel⟩ := h
  obtain ⟨K, c, m, rk⟩ := RELK_of rel
  obtain ⟨tp, ru, sr, pa, im, bo, le⟩ := id rk
  have en := EN_of ib
  have hL := en.2.2.1
  have bp := bi a1
  have key : ∃ r s2 sh2 M2, xf_image (gsF s) w.length sh s a1.toInt = some (r, s2, sh2) ∧ xm_image M a1.toInt = some (r, M2) ∧ DS sh2 ln s2 ∧ REL ln s2 M2 := by
    generalize a1.toInt = p at bp
    generalize w.length = L at en hL
    by_cases hp : 0 ≤ p ∧ p ≤ 3
    · obtain ⟨k, rfl⟩ : ∃ k : Nat, p = (k : Int) := ⟨p.toNat, by omega⟩
      have hk : k < 4 := by omega
      obtain ⟨M2, m1, m2, m3, m4, m5, m6, m7, m8⟩ := rm_image (M := M) hk
      have hy175 : ∀ i, i < 4 → ¬ s 38 i < 0 → 175 ≤ (s 38 i).toNat := fun i hi h => dyn_175 en (ds.2.2 i hi h).1 (by decide)
      have hltS : ∀ a, okS 2 sh a → ∀ i, i ≤ 21 → a + i < L := fun a ha i hi => by
        obtain ⟨k, l, d, e⟩ := okS_role ha hi
        exact en.2.2.2 _ _ e
      have ecl : ∃ s2 sh2 y, xf_image (gsF s) L sh s (k : Int) = some (s2 17 3, s2, sh2) ∧ 175 ≤ y ∧ s2 38 k = ((y : Nat) : Int) ∧ (∀ i, i ≠ k → s2 38 i = s 38 i) ∧ (∀ P, P ≠ 38 → ¬ (y ≤ P ∧ P ≤ y + 21) → P < L → s2 P = s P) ∧ SheetR (s 0 4) s2 y (M 156) (M 146 21) (M 146 22) K c m ∧ Sub sh sh2 ∧ okS 2 sh2 y ∧ ((sh2 = sh ∧ s 38 k = (y : Int)) ∨ (y = L ∧ s 38 k < 0)) := by
        unfold xf_image
        rw [w32_eq (x := (k : Int)) (by omega) (by omega), if_neg (by omega), if_pos (by rw [show w32 4 = 4 by decide]; omega), ixt (n := 4) k rfl hk (by decide)]
        simp only [obs]
        rw [gsF_at hk]
        unfold rsA
        rw [if_pos rfl]
        simp only [obs]
        by_cases h0 : s 38 k < 0
        · rw [if_pos h0]
          have z0 : ∀ P, P < L → zs s L P = s P := fun P hP => funext fun q => if_pos hP
          obtain ⟨s1, c1, c2, c3, c4, c5, c6, c7, c8, c9⟩ := cs_copy (s := uh (zs s L) 38 k ((L : Nat) : Int)) (a0 := L) (a1 := 16) (by omega)
          rw [c1]
          simp only [obs]
          refine ⟨s1, _, L, rfl, hL, ?_, fun i hi => ?_, fun P h1 h2 h3 => ?_, SheetR_cp (SheetR_cg sr (fun i hi => by rw [uh_row (by omega), z0 _ (by omega)]) rfl) c3 c4 c5 c6 c7 c8 c9, ?_, okS_new, Or.inr ⟨rfl, h0⟩⟩
          · rw [c2 38 (by omega), uh_rc]
          · rw [c2 38 (by omega), uh_ro _ _ _ _ hi, z0 38 (by omega)]
          · rw [c2 P h2, uh_row h1, z0 P h3]
          · intro a q h
            show (if a < L then sh a else _) = _
            rw [if_pos (en.2.2.2 a q h)]
            exact h
        · rw [if_neg h0]
          have h5 := hy175 k hk h0
          obtain ⟨s1, c1, c2, c3, c4, c5, c6, c7, c8, c9⟩ := cs_copy (s := s) (a0 := (s 38 k).toNat) (a1 := 16) (by omega)
          rw [c1]
          simp only [obs]
          refine ⟨s1, sh, (s 38 k).toNat, rfl, h5, ?_, fun i hi => ?_, fun P h1 h2 h3 => c2 P h2, SheetR_cp sr c3 c4 c5 c6 c7 c8 c9, fun a q h => h, ds.2.2 k hk h0, Or.inl ⟨rfl, by omega⟩⟩
          · rw [c2 38 (by omega)]; omega
          · rw [c2 38 (by omega)]
      obtain ⟨s2, sh2, y, c1, c2, c3, c4, c5, c6, c7, c8, c9⟩ := ecl
      have fr : ∀ P, P < 175 → P ≠ 38 → s2 P = s P := fun P h1 h2 => c5 P h2 (by omega) (by omega)
      have fd : ∀ P r k l d, sh P = some (r, k, l, d) → r ≠ 0 → r ≠ 2 → s2 P = s P := fun P r k l d h1 h2 h3 => by
        have := dyn_175 en h1 h2
        exact c5 P (by omega) (okS_r2 c8 (c7 _ _ h1) h3) (en.2.2.2 _ _ h1)
      have hdis : ∀ i, i < 4 → i ≠ k → ¬ s 38 i < 0 → (s 38 i).toNat ≠ y := fun i hi hik h0 => by
        rcases c9 with ⟨-, e2⟩ | ⟨e2, -⟩
        · have := im.2 i k hi hk hik h0
          omega
        · have := hltS _ (ds.2.2 i hi h0) 0 (by decide)
          omega
      have r0 : s2 0 = s 0 := fr 0 (by decide) (by decide)
      refine ⟨_, s2, sh2, M2, c1, ?_, ⟨fun i hi => ?_, fun i hi h0 => ?_, fun i hi h0 => ?_⟩, ?_⟩
      · rw [m1, fr 17 (by decide) (by decide), show s 17 3 = K 0 3 from sr.2.1.2.2.2.1, sr.2.2.1.2.2.2.1]
      · rw [fr 15 (by decide) (by decide)]; exact okR_sub c7 (ds.1 i hi)
      · rw [fr 40 (by decide) (by decide)] at h0 ⊢; exact okC_sub c7 (ds.2.1 i hi h0)
      · by_cases hik : i = k
        · subst hik; rw [c3]; exact c8
        · rw [c4 i hik] at h0 ⊢; exact okS_sub c7 (ds.2.2 i hi h0)
      · have e146 : M2 146 = M 146 := m2 146 (by decide) (by decide) (by decide) (by decide)
        refine ⟨?_, ?_, ⟨K, c, m, ?_, ?_⟩, ⟨fun i hi => ?_, fun i j hi hj hij h0 => ?_⟩, ?_, ?_⟩
        · unfold TapeR at tp ⊢
          rw [fr 1 (by decide) (by decide), fr 2 (by decide) (by decide), e146, m2 147 (by decide) (by decide) (by decide) (by decide)]
          exact tp
        · unfold RulesR at ru ⊢
          rw [r0, fr 15 (by decide) (by decide), e146]
          refine ⟨ru.1, ru.2.1, ru.2.2.1, fun x hx => ?_⟩
          obtain ⟨R, g1, g2, g3⟩ := ru.2.2.2 x hx
          exact ⟨R, CR_u g1 (fd _ _ _ _ _ (ds.1 x (by omega) g1.1).2 (by decide) (by decide)), RM_row (m2 148 (by decide) (by decide) (by decide) (by decide)) (m2 150 (by decide) (by decide) (by decide) (by decide)) (m2 151 (by decide) (by decide) (by decide) (by decide)) g2, g3⟩
        · rw [e146, r0]
          exact SheetR_cg sr (fun i hi => fr _ (by omega) (by omega)) (m2 156 (by decide) (by decide) (by decide) (by decide))
        · obtain ⟨z, x, p1, p2, p3, p4, p5, p6, p7⟩ := pa
          refine ⟨z, x, by rw [fr 39 (by decide) (by decide)]; exact p1, by rw [e146]; exact p2, p3, by rw [fr 39 (by decide) (by decide)]; exact p4, p5, fun t ht => ?_, by rw [fr 40 (by decide) (by decide)]; exact p7⟩
          obtain ⟨q1, q2, K2, q3, q4, q5⟩ := p6 t ht
          rw [fr 40 (by decide) (by decide)]
          refine ⟨q1, q2, K2, q3, Cl_row q4 (fun i hi => ?_), ?_⟩
          · obtain ⟨k', l', d', e, -⟩ := okC_at (ds.2.1 _ (Nat.mod_lt _ (by decide)) q1) (P := (s 40 ((x + 19 - t) % 20)).toNat + i) (by omega) (by omega)
            exact fd _ _ _ _ _ e (by decide) (by decide)
          · rw [wsd_cg (M := M) (M1 := M2) (fun i _ => by rw [m2 159 (by decide) (by decide) (by decide) (by decide)]) (fun q _ => by rw [m2 156 (by decide) (by decide) (by decide) (by decide)])]
            exact q5
        · rw [r0]
          by_cases hik : i = k
          · subst hik
            refine Or.inr ⟨m3, by rw [c3]; omega, by rw [c3]; omega, K, c, m, ?_⟩
            rw [c3, m4, m5]
            exact SheetR_ff c6 (fun q hq => m6 q hq)
          · rw [(m7 i hik).1, (m7 i hik).2.1, (m7 i hik).2.2, c4 i hik]
            rcases im.1 i hi with q | ⟨q1, q2, q3, K2, n2, m2', q4⟩
            · exact Or.inl q
            · refine Or.inr ⟨q1, q2, q3, K2, n2, m2', SheetR_ff (SheetR_cg q4 (fun j hj => ?_) rfl) (fun q hq => m8 i hi hik q hq)⟩
              exact c5 _ (by omega) (okS_ap c8 (okS_sub c7 (ds.2.2 i hi q2)) (fun e => hdis i hi hik q2 e.symm) hj) (hltS _ (ds.2.2 i hi q2) j hj)
        · by_cases hik : i = k
          · subst hik
            have hji : j ≠ i := fun e => hij e.symm
            rw [c3, c4 j hji]
            by_cases hj0 : s 38 j < 0
            · omega
            · have := hdis j hj hji hj0
              omega
          · by_cases hjk : j = k
            · subst hjk
              rw [c4 i hik] at h0 ⊢
              rw [c3]
              have := hdis i hi hik h0
              omega
            · rw [c4 i hik] at h0 ⊢
              rw [c4 j hjk]
              exact im.2 i j hi hj hij h0
        · unfold BookR at bo ⊢
          rw [fr 130 (by decide) (by decide), fr 131 (by decide) (by decide)]
          exact bo
        · unfold LevR at le ⊢
          rw [fr 55 (by decide) (by decide)]
          exact le
    · refine ⟨-1, s, sh, M, ?_, ?_, ds, rel⟩
      · unfold xf_image
        rw [w32_eq (x := p) bp.1 bp.2, show w32 4 = 4 by decide]
        by_cases h0 : p < 0
        · rw [if_pos h0]
        · rw [if_neg h0, if_neg (by omega)]
      · unfold xm_image
        rw [w32_eq (x := p) bp.1 bp.2, rm_in (by omega) (by omega) (by omega) (by omega) (by omega) (by omega)]
        simp only [obs, tb0]
        rw [if_pos hp]
  obtain ⟨r, s2, sh2, M2, e1, e2, e3, e4⟩ := key
  exact ob_al (args := [.int (Int32.ofInt a1.toInt)]) hn rfl (by rw [← vi]; rfl) ib (fun P kr => xf_image_ok ib.2.2.1 (gsF_ok ds) rfl ib.1 e1 (fun w1 g1 h1 => kr w1 g1 h1)) (fun w1 h1 P kr => xm_image_ok (w0 := w1) StM_M ⟨h1, Fr_rf⟩ e2 (fun w2 h2 => kr w2 h2)) e3 e4
end IM
