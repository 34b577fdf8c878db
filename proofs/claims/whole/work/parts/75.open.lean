/-! it lies open -/
def RELK (ln : Nat → Nat) (s M : Hp) (K : Nat → Nat → Int) (n m : Nat) : Prop := TapeR s M ∧ RulesR ln s M ∧ SheetR (s 0 4) s 16 (M 156) (M 146 21) (M 146 22) K n m ∧ PastR s M n m ∧ ImgR (s 0 4) s M ∧ BookR s ∧ LevR s
theorem RELK_to {ln : Nat → Nat} {s M : Hp} {K : Nat → Nat → Int} {n m : Nat} (h : RELK ln s M K n m) : REL ln s M := ⟨h.1, h.2.1, ⟨K, n, m, h.2.2.1, h.2.2.2.1⟩, h.2.2.2.2⟩
theorem RELK_of {ln : Nat → Nat} {s M : Hp} (h : REL ln s M) : ∃ K n m, RELK ln s M K n m := by
  obtain ⟨a, b, ⟨K, n, m, c, d⟩, e⟩ := h
  exact ⟨K, n, m, a, b, c, d, e⟩
theorem RELK_cg {ln : Nat → Nat} {s M s1 M1 : Hp} {K : Nat → Nat → Int} {n m : Nat} (h : RELK ln s M K n m) (hs : SameC s s1) (hm : SameM M M1) : RELK ln s1 M1 K n m := by
  obtain ⟨t, ru, sh, pa, im, bo, le⟩ := h
  obtain ⟨s1c, sb1, sb2⟩ := hs
  obtain ⟨m1c, m1, m2, m21, m22, m26⟩ := hm
  have r0 : s1 0 = s 0 := s1c 0 (by unfold VC; omega)
  have r1 : s1 1 = s 1 := s1c 1 (by unfold VC; omega)
  have r2 : s1 2 = s 2 := s1c 2 (by unfold VC; omega)
  have r15 : s1 15 = s 15 := s1c 15 (by unfold VC; omega)
  have r38 : s1 38 = s 38 := s1c 38 (by unfold VC; omega)
  have r39 : s1 39 = s 39 := s1c 39 (by unfold VC; omega)
  have r40 : s1 40 = s 40 := s1c 40 (by unfold VC; omega)
  have e147 : M1 147 = M 147 := m1c 147 (by unfold VM; omega)
  have e156 : M1 156 = M 156 := m1c 156 (by unfold VM; omega)
  have e159 : M1 159 = M 159 := m1c 159 (by unfold VM; omega)
  have e171 : M1 171 = M 171 := m1c 171 (by unfold VM; omega)
  have e172 : M1 172 = M 172 := m1c 172 (by unfold VM; omega)
  have e173 : M1 173 = M 173 := m1c 173 (by unfold VM; omega)
  have e174 : M1 174 = M 174 := m1c 174 (by unfold VM; omega)
  have big : ∀ P, 175 ≤ P → s1 P = s P := fun P hP => s1c P (by unfold VC; omega)
  refine ⟨?_, ?_, ?_, ?_, ?_, ?_, ?_⟩
  · unfold TapeR at t ⊢
    rw [r1, r2, m1, e147]; exact t
  · unfold RulesR at ru ⊢
    rw [r0, r15, m2]
    refine ⟨ru.1, ru.2.1, ru.2.2.1, fun x hx => ?_⟩
    obtain ⟨R, c1, c2, c3⟩ := ru.2.2.2 x hx
    exact ⟨R, CR_row c1 big, RM_cg c2 m1c, c3⟩
  · rw [m21, m22, r0]
    exact SheetR_cg sh (fun i hi => s1c _ (by unfold VC; omega)) e156
  · obtain ⟨z, x, p1, p2, p3, p4, p5, p6, p7⟩ := pa
    refine ⟨z, x, by rw [r39]; exact p1, by rw [m26]; exact p2, p3, by rw [r39]; exact p4, p5, fun t ht => ?_, by rw [r40]; exact p7⟩
    obtain ⟨q1, q2, K2, q3, q4, q5⟩ := p6 t ht
    rw [r40]
    refine ⟨q1, q2, K2, q3, Cl_row q4 (fun i hi => big _ (by omega)), ?_⟩
    have e : wsd M1 (z - 1 - t) = wsd M (z - 1 - t) := by unfold wsd; rw [e159, e156]
    rw [e]; exact q5
  · refine ⟨fun k hk => ?_, by rw [r38]; exact im.2⟩
    rw [e174, r38, r0]
    rcases im.1 k hk with q | ⟨q1, q2, q3, K2, n2, m2', q4⟩
    · exact Or.inl q
    · refine Or.inr ⟨q1, q2, q3, K2, n2, m2', ?_⟩
      rw [e171, e172, e173]
      exact SheetR_cg q4 (fun i hi => big _ (by omega)) rfl
  · unfold BookR at bo ⊢
    rw [sb1, sb2, s1c 131 (by unfold VC; omega)]
    exact bo
  · unfold LevR at le ⊢
    rw [s1c 55 (by unfold VC; omega)]
    exact le

/-- behind an act that was kept -/
theorem act_end {sh sh1 : Shp} {ln : Nat → Nat} {s M s1 M1 s2 M2 : Hp} {L n m : Nat} {K K2 : Nat → Nat → Int} (en : EN sh L) (ds : DS sh ln s) (rel : RELK ln s M K n m) (d1 : DS sh1 ln s1) (pa : PastR s1 M1 n m) (fr0 : ∀ P, P < 175 → P ≠ 39 → P ≠ 40 → s1 P = s P) (fr1 : ∀ P r k l d, sh P = some (r, k, l, d) → r ≠ 0 → r ≠ 3 → s1 P = s P) (k2 : ∀ P, P ≠ 146 → P ≠ 159 → M1 P = M P) (k3 : ∀ q, q ≠ 26 → M1 146 q = M 146 q) (h2 : ∀ P, ¬ (17 ≤ P ∧ P ≤ 25) → ¬ (42 ≤ P ∧ P ≤ 53) → s2 P = s1 P) (hM : FD M1 M2) (W2 : WF K2 n m) (c2 : Cl s2 17 K2 n m) (r2 : Rf (M2 156) K2 n m) : DS sh1 ln s2 ∧ REL ln s2 M2 := by
  obtain ⟨tp, ru, sr, -, im, bo, le⟩ := rel
  refine ⟨DS_cg d1 (h2 15 (by decide) (by decide)) (h2 38 (by decide) (by decide)) (h2 40 (by decide) (by decide)), ?_⟩
  refine REL_act ds tp ru sr im bo le (fun P p1 p2 p3 p4 p5 => ?_) (fun P r k l d p1 p2 p3 => ?_) (fun P p1 p2 p3 => ?_) (fun q p1 p2 => ?_) (fun q p1 => ?_) W2 c2 r2 (PastR_c2 pa (h2 39 (by decide) (by decide)) (h2 40 (by decide) (by decide)) (fun P hP => h2 P (by omega) (by omega)) (hM.2.1 26 (by decide)) (hM.1 159 (by decide) (by decide) (by decide) (by decide) (by decide) (by decide)) hM.2.2)
  · rw [h2 P p2 p5, fr0 P p1 p3 p4]
  · have := dyn_175 en p1 p2
    rw [h2 P (by omega) (by omega)]; exact fr1 P r k l d p1 p2 p3
  · have p0 : P ≠ 146 ∧ P ≠ 154 ∧ P ≠ 155 ∧ P ≠ 157 ∧ P ≠ 158 := by unfold VM at p1; omega
    rw [hM.1 P p0.1 p0.2.1 p0.2.2.1 p2 p0.2.2.2.1 p0.2.2.2.2, k2 P p0.1 p3]
  · rw [hM.2.1 q p2, k3 q p1]
  · rw [hM.2.2 q p1, k2 156 (by decide) (by decide)]
def opK (K : Nat → Nat → Int) (n : Nat) : Nat → Nat → Int := fun r i => if r = 0 then (if i = 2 then (n : Int) else K 0 i) else if r = 1 then (i : Int) else if r = 2 then 0 else if r = 3 then 1 else K r i
theorem WF_op {K : Nat → Nat → Int} {n m : Nat} (w : WF K n m) : WF (opK K n) n m := by
  obtain ⟨w8, w4, w0, w2, wl, wz, wd0, wd9, wc, wj, wq⟩ := w
  refine ⟨w8, w4, fun h => ⟨(w0 h).1, ?_⟩, fun h => ⟨(w2 h).1, ?_⟩, ?_, ?_, wd0, wd9, fun c hc => ?_, fun j hj => ?_, wq⟩
  · show ((n : Nat) : Int) = 0
    omega
  · show (1 : Int) ≤ (n : Int)
    have := (w2 h).1
    omega
  · show ((n : Nat) : Int) ≤ n
    omega
  · show (0 : Int) ≤ (n : Int)
    omega
  · have := wc c hc
    show (0 : Int) ≤ (c : Int) ∧ (c : Int) < (n : Int) ∧ ((1 : Int) = 0 ∨ (1 : Int) = 1) ∧ -1 ≤ K 4 c ∧ K 4 c < m ∧ 0 ≤ K 5 c ∧ K 5 c ≤ 99
    omega
  · have := wj j hj
    show ((j + 1 : Nat) : Int) ≤ (j : Int) + 1 ∧ (j : Int) ≤ ((j + 1 : Nat) : Int) + 1 ∧ 0 ≤ K 6 j ∧ K 6 j ≤ 2
    omega
theorem thk_id (p : Nat) : ∀ n : Nat, thk (fun c => (c : Int)) n (p : Int) = if p < n then 1 else 0
  | 0 => rfl
  | n + 1 => by
    show thk (fun c => (c : Int)) n (p : Int) + (if (n : Int) = (p : Int) then 1 else 0) = _
    rw [thk_id p n]
    by_cases h : n = p
    · rw [if_neg (by omega), if_pos (by omega), if_pos (by omega)]
    · rw [if_neg (c := (n : Int) = (p : Int)) (by omega)]
      by_cases h2 : p < n
      · rw [if_pos h2, if_pos (by omega)]
      · rw [if_neg h2, if_neg (by omega)]
theorem cl_layOpen {s : Hp} {a n : Nat} (hn : s a 0 = (n : Int)) (h8 : n ≤ 8) : ∃ s1, xl_layOpen s a = some s1 ∧ (∀ P, P ≠ a → P ≠ a + 1 → P ≠ a + 2 → P ≠ a + 3 → P ≠ a + 7 → s1 P = s P) ∧ (∀ q, q ≠ 2 → s1 a q = s a q) ∧ s1 a 2 = (n : Int) ∧ ∀ c, c < 8 → s1 (a + 1) c = (c : Int) ∧ s1 (a + 2) c = 0 ∧ s1 (a + 3) c = 1 ∧ s1 (a + 7) c = if c < n then 1 else 0 := by
  unfold xl_layOpen
  simp only [obs]
  rw [hn]
  obtain ⟨r, e1, e2⟩ : ∃ r, lp (fun (q : Int × Hp) => xl_layOpen_b10 q.2 a q.1) (0, uh s a 2 (n : Int)) = some r ∧ (fun (r : Int × Hp) => (∀ P, P ≠ a + 1 → P ≠ a + 2 → P ≠ a + 3 → P ≠ a + 7 → r.2 P = uh s a 2 (n : Int) P) ∧ ∀ c, c < 8 → r.2 (a + 1) c = (c : Int) ∧ r.2 (a + 2) c = 0 ∧ r.2 (a + 3) c = 1 ∧ r.2 (a + 7) c = if c < n then 1 else 0) r := by
    refine lp_forR (fun j (q : Int × Hp) => q.1 = (j : Int) ∧ (∀ P, P ≠ a + 1 → P ≠ a + 2 → P ≠ a + 3 → P ≠ a + 7 → q.2 P = uh s a 2 (n : Int) P) ∧ ∀ c, c < j → q.2 (a + 1) c = (c : Int) ∧ q.2 (a + 2) c = 0 ∧ q.2 (a + 3) c = 1 ∧ q.2 (a + 7) c = if c < n then 1 else 0) 8 _ ?_ ?_ ⟨rfl, fun _ _ _ _ _ => rfl, fun c hc => by omega⟩
    · rintro j ⟨x, t⟩ hj ⟨j1, j2, j3⟩
      replace j1 : x = (j : Int) := j1
      replace j2 : ∀ P, P ≠ a + 1 → P ≠ a + 2 → P ≠ a + 3 → P ≠ a + 7 → t P = uh s a 2 (n : Int) P := j2
      replace j3 : ∀ c, c < j → t (a + 1) c = (c : Int) ∧ t (a + 2) c = 0 ∧ t (a + 3) c = 1 ∧ t (a + 7) c = if c < n then 1 else 0 := j3
      subst j1
      have fin : ∀ v : Int, v = (if j < n then 1 else 0) → ∃ s1, (some (.inl ((j : Int) + 1, uh (uh (uh (uh t (a + 1) j (j : Int)) (a + 2) j 0) (a + 3) j 1) (a + 7) j v)) : Option ((Int × Hp) ⊕ (Int × Hp))) = some (.inl s1) ∧ s1.1 = ((j + 1 : Nat) : Int) ∧ (∀ P, P ≠ a + 1 → P ≠ a + 2 → P ≠ a + 3 → P ≠ a + 7 → s1.2 P = uh s a 2 (n : Int) P) ∧ ∀ c, c < j + 1 → s1.2 (a + 1) c = (c : Int) ∧ s1.2 (a + 2) c = 0 ∧ s1.2 (a + 3) c = 1 ∧ s1.2 (a + 7) c = if c < n then 1 else 0 := by
        intro v hv
        refine ⟨_, rfl, by show (j : Int) + 1 = _; omega, fun P h1 h2 h3 h7 => ?_, fun c hc => ?_⟩
        · show uh (uh (uh (uh t (a + 1) j (j : Int)) (a + 2) j 0) (a + 3) j 1) (a + 7) j v P = _
          rw [uh_row h7, uh_row h3, uh_row h2, uh_row h1]; exact j2 P h1 h2 h3 h7
        · show uh (uh (uh (uh t (a + 1) j (j : Int)) (a + 2) j 0) (a + 3) j 1) (a + 7) j v (a + 1) c = _ ∧ uh (uh (uh (uh t (a + 1) j (j : Int)) (a + 2) j 0) (a + 3) j 1) (a + 7) j v (a + 2) c = _ ∧ uh (uh (uh (uh t (a + 1) j (j : Int)) (a + 2) j 0) (a + 3) j 1) (a + 7) j v (a + 3) c = _ ∧ uh (uh (uh (uh t (a + 1) j (j : Int)) (a + 2) j 0) (a + 3) j 1) (a + 7) j v (a + 7) c = _
          rw [uh_row (p := a + 1) (a := a + 7) (by omega), uh_row (p := a + 1) (a := a + 3) (by omega), uh_row (p := a + 1) (a := a + 2) (by omega), uh_row (p := a + 2) (a := a + 7) (by omega), uh_row (p := a + 2) (a := a + 3) (by omega), uh_row (p := a + 3) (a := a + 7) (by omega)]
          by_cases hcj : c = j
          · subst hcj
            rw [uh_rc, uh_rc, uh_rc, uh_rc]
            exact ⟨rfl, rfl, rfl, hv⟩
          · rw [uh_ro _ _ _ _ hcj, uh_ro _ _ _ _ hcj, uh_ro _ _ _ _ hcj, uh_ro _ _ _ _ hcj, uh_row (p := a + 2) (a := a + 1) (by omega), uh_row (p := a + 3) (a := a + 2) (by omega), uh_row (p := a + 3) (a := a + 1) (by omega), uh_row (p := a + 7) (a := a + 3) (by omega), uh_row (p := a + 7) (a := a + 2) (by omega), uh_row (p := a + 7) (a := a + 1) (by omega)]
            exact j3 c (by omega)
      have ea : uh (uh (uh t (a + 1) j (j : Int)) (a + 2) j 0) (a + 3) j 1 a 0 = (n : Int) := by
        rw [uh_row (by omega), uh_row (by omega), uh_row (by omega), j2 a (by omega) (by omega) (by omega) (by omega), uh_ro _ _ _ _ (by decide)]; exact hn
      show ∃ q1, xl_layOpen_b10 t a (j : Int) = some (Sum.inl q1) ∧ _
      unfold xl_layOpen_b10
      rw [w32_eq (x := (j : Int)) (by omega) (by omega), if_pos (by rw [show w32 8 = 8 by decide]; omega), ixt j rfl hj (by decide)]
      simp only [obs]
      rw [ea, w32_eq (x := (n : Int)) (by omega) (by omega)]
      by_cases hjn : j < n
      · rw [if_pos (by omega)]
        exact fin 1 (by rw [if_pos hjn])
      · rw [if_neg (by omega)]
        exact fin 0 (by rw [if_neg hjn])
    · rintro ⟨x, t⟩ ⟨j1, j2, j3⟩
      replace j1 : x = ((8 : Nat) : Int) := j1
      subst j1
      refine ⟨_, ?_, j2, j3⟩
      show xl_layOpen_b10 t a ((8 : Nat) : Int) = _
      unfold xl_layOpen_b10
      rw [if_neg (by decide)]
  obtain ⟨r1, t⟩ := r
  obtain ⟨g1, g2⟩ := e2
  replace g1 : ∀ P, P ≠ a + 1 → P ≠ a + 2 → P ≠ a + 3 → P ≠ a + 7 → t P = uh s a 2 (n : Int) P := g1
  rw [e1]
  simp only [obs]
  refine ⟨_, rfl, fun P h0 h1 h2 h3 h7 => ?_, fun q hq => ?_, ?_, g2⟩
  · show t P = _
    rw [g1 P h1 h2 h3 h7, uh_row h0]
  · show t a q = _
    rw [g1 a (by omega) (by omega) (by omega) (by omega), uh_ro _ _ _ _ hq]
  · show t a 2 = _
    rw [g1 a (by omega) (by omega) (by omega) (by omega), uh_rc]
theorem Cl_op {s s1 : Hp} {a : Nat} {K : Nat → Nat → Int} {n m : Nat} (h : Cl s a K n m) (w : WF K n m) (f1 : ∀ P, P ≠ a → P ≠ a + 1 → P ≠ a + 2 → P ≠ a + 3 → P ≠ a + 7 → s1 P = s P) (f2 : ∀ q, q ≠ 2 → s1 a q = s a q) (f3 : s1 a 2 = (n : Int)) (f4 : ∀ c, c < 8 → s1 (a + 1) c = (c : Int) ∧ s1 (a + 2) c = 0 ∧ s1 (a + 3) c = 1 ∧ s1 (a + 7) c = if c < n then 1 else 0) : Cl s1 a (opK K n) n m := by
  obtain ⟨h0, h1, h2, h3, h4, h5, h6, h7⟩ := h
  have w8 := w.1
  refine ⟨by rw [f2 0 (by decide)]; exact h0, by rw [f2 1 (by decide)]; exact h1, f3, by rw [f2 3 (by decide)]; exact h3, fun c hc => ?_, fun j hj => ?_, fun p hp => ?_, fun p hp => ?_⟩
  · obtain ⟨g1, g2, g3, -⟩ := f4 c (by omega)
    obtain ⟨-, -, -, k4, k5⟩ := h4 c hc
    refine ⟨g1, g2, g3, ?_, ?_⟩
    · rw [f1 (a + 4) (by omega) (by omega) (by omega) (by omega) (by omega)]; exact k4
    · rw [f1 (a + 5) (by omega) (by omega) (by omega) (by omega) (by omega)]; exact k5
  · rw [f1 (a + 6) (by omega) (by omega) (by omega) (by omega) (by omega)]; exact h5 j hj
  · rw [f1 (a + 8) (by omega) (by omega) (by omega) (by omega) (by omega)]; exact h6 p hp
  · have hp : (p : Int) < (n : Int) := hp
    rw [(f4 p (by omega)).2.2.2, if_pos (by omega)]
    show (1 : Int) = ((thk (fun c => (c : Int)) n (p : Int) : Nat) : Int)
    rw [thk_id, if_pos (by omega)]
    rfl
theorem rm_liesOpen {s : Hp} {n : Nat} (hn : s 156 0 = (n : Int)) (h8 : n ≤ 8) : ∃ s1, xm_liesOpen s = some s1 ∧ (∀ P, P ≠ 156 → s1 P = s P) ∧ s1 156 10 = (n : Int) ∧ (∀ c, c < n → s1 156 (12 + 4 * c) = (c : Int) ∧ s1 156 (12 + 4 * c + 1) = 0 ∧ s1 156 (12 + 4 * c + 2) = 1) ∧ ∀ q, q ≠ 10 → (∀ c, c < n → q ≠ 12 + 4 * c ∧ q ≠ 12 + 4 * c + 1 ∧ q ≠ 12 + 4 * c + 2) → s1 156 q = s 156 q := by
  unfold xm_liesOpen
  rw [ix0 (by decide) (by decide), ix10 (by decide) (by decide)]
  simp only [obs]
  rw [hn]
  obtain ⟨r, e1, e2⟩ : ∃ r, lp (fun (q : Int × Hp) => xm_liesOpen_b15 q.2 q.1) (0, uh s 156 10 (n : Int)) = some r ∧ (fun (r : Int × Hp) => (∀ P, P ≠ 156 → r.2 P = s P) ∧ r.2 156 10 = (n : Int) ∧ (∀ c, c < n → r.2 156 (12 + 4 * c) = (c : Int) ∧ r.2 156 (12 + 4 * c + 1) = 0 ∧ r.2 156 (12 + 4 * c + 2) = 1) ∧ ∀ q, q ≠ 10 → (∀ c, c < n → q ≠ 12 + 4 * c ∧ q ≠ 12 + 4 * c + 1 ∧ q ≠ 12 + 4 * c + 2) → r.2 156 q = s 156 q) r := by
    refine lp_forR (fun j (r : Int × Hp) => r.1 = (j : Int) ∧ (∀ P, P ≠ 156 → r.2 P = s P) ∧ r.2 156 10 = (n : Int) ∧ (∀ c, c < j → r.2 156 (12 + 4 * c) = (c : Int) ∧ r.2 156 (12 + 4 * c + 1) = 0 ∧ r.2 156 (12 + 4 * c + 2) = 1) ∧ ∀ q, q ≠ 10 → (∀ c, c < n → q ≠ 12 + 4 * c ∧ q ≠ 12 + 4 * c + 1 ∧ q ≠ 12 + 4 * c + 2) → r.2 156 q = s 156 q) n _ ?_ ?_ ⟨rfl, fun P hP => uh_row hP, uh_rc s 156 10 _, fun c hc => by omega, fun q hq _ => uh_ro s 156 10 _ hq⟩
    · rintro j ⟨x, t⟩ hj ⟨j1, j2, j3, j4, j5⟩
      replace j1 : x = (j : Int) := j1
      replace j2 : ∀ P, P ≠ 156 → t P = s P := j2
      replace j3 : t 156 10 = (n : Int) := j3
      replace j4 : ∀ c, c < j → t 156 (12 + 4 * c) = (c : Int) ∧ t 156 (12 + 4 * c + 1) = 0 ∧ t 156 (12 + 4 * c + 2) = 1 := j4
      replace j5 : ∀ q, q ≠ 10 → (∀ c, c < n → q ≠ 12 + 4 * c ∧ q ≠ 12 + 4 * c + 1 ∧ q ≠ 12 + 4 * c + 2) → t 156 q = s 156 q := j5
      subst j1
      show ∃ q1, xm_liesOpen_b15 t (j : Int) = some (Sum.inl q1) ∧ _
      unfold xm_liesOpen_b15
      rw [ix0 (by decide) (by decide), ixt (j := 12 + 4 * (j : Int)) (12 + 4 * j) (by omega) (by omega) (by decide), ixt (j := 12 + 4 * (j : Int) + 1) (12 + 4 * j + 1) (by omega) (by omega) (by decide), ixt (j := 12 + 4 * (j : Int) + 2) (12 + 4 * j + 2) (by omega) (by omega) (by decide)]
      simp only [obs]
      rw [j5 0 (by decide) (fun c hc => by omega), hn, w32_eq (x := (j : Int)) (by omega) (by omega), w32_eq (x := (n : Int)) (by omega) (by omega), if_pos (by omega)]
      refine ⟨_, rfl, by show (j : Int) + 1 = _; omega, fun P hP => ?_, ?_, fun c hc => ?_, fun q hq hc => ?_⟩
      · show uh (uh (uh t 156 (12 + 4 * j) (j : Int)) 156 (12 + 4 * j + 1) 0) 156 (12 + 4 * j + 2) 1 P = _
        rw [uh_row hP, uh_row hP, uh_row hP]; exact j2 P hP
      · show uh (uh (uh t 156 (12 + 4 * j) (j : Int)) 156 (12 + 4 * j + 1) 0) 156 (12 + 4 * j + 2) 1 156 10 = _
        rw [uh_ro _ _ _ _ (by omega), uh_ro _ _ _ _ (by omega), uh_ro _ _ _ _ (by omega)]; exact j3
      · show uh (uh (uh t 156 (12 + 4 * j) (j : Int)) 156 (12 + 4 * j + 1) 0) 156 (12 + 4 * j + 2) 1 156 _ = _ ∧ uh (uh (uh t 156 (12 + 4 * j) (j : Int)) 156 (12 + 4 * j + 1) 0) 156 (12 + 4 * j + 2) 1 156 _ = _ ∧ uh (uh (uh t 156 (12 + 4 * j) (j : Int)) 156 (12 + 4 * j + 1) 0) 156 (12 + 4 * j + 2) 1 156 _ = _
        by_cases hcj : c = j
        · subst hcj
          refine ⟨?_, ?_, ?_⟩
          · rw [uh_ro _ _ _ _ (by omega), uh_ro _ _ _ _ (by omega), uh_rc]
          · rw [uh_ro _ _ _ _ (by omega), uh_rc]
          · rw [uh_rc]
        · obtain ⟨k1, k2, k3⟩ := j4 c (by omega)
          refine ⟨?_, ?_, ?_⟩
          · rw [uh_ro _ _ _ _ (by omega), uh_ro _ _ _ _ (by omega), uh_ro _ _ _ _ (by omega)]; exact k1
          · rw [uh_ro _ _ _ _ (by omega), uh_ro _ _ _ _ (by omega), uh_ro _ _ _ _ (by omega)]; exact k2
          · rw [uh_ro _ _ _ _ (by omega), uh_ro _ _ _ _ (by omega), uh_ro _ _ _ _ (by omega)]; exact k3
      · show uh (uh (uh t 156 (12 + 4 * j) (j : Int)) 156 (12 + 4 * j + 1) 0) 156 (12 + 4 * j + 2) 1 156 q = _
        obtain ⟨k1, k2, k3⟩ := hc j hj
        rw [uh_ro _ _ _ _ k3, uh_ro _ _ _ _ k2, uh_ro _ _ _ _ k1]; exact j5 q hq hc
    · rintro ⟨x, t⟩ ⟨j1, j2, j3, j4, j5⟩
      replace j1 : x = (n : Int) := j1
      replace j5 : ∀ q, q ≠ 10 → (∀ c, c < n → q ≠ 12 + 4 * c ∧ q ≠ 12 + 4 * c + 1 ∧ q ≠ 12 + 4 * c + 2) → t 156 q = s 156 q := j5
      subst j1
      refine ⟨((n : Int), t), ?_, j2, j3, j4, j5⟩
      show xm_liesOpen_b15 t (n : Int) = _
      unfold xm_liesOpen_b15
      rw [ix0 (by decide) (by decide)]
      simp only [obs]
      rw [j5 0 (by decide) (fun c hc => by omega), hn, if_neg (by omega)]
  obtain ⟨r1, t⟩ := r
  rw [e1]
  simp only [obs]
  exact ⟨t, rfl, e2⟩
theorem Rf_op {s s1 : Hp} {K : Nat → Nat → Int} {n m : Nat} (h : Rf (s 156) K n m) (w : WF K n m) (g2 : s1 156 10 = (n : Int)) (g3 : ∀ c, c < n → s1 156 (12 + 4 * c) = (c : Int) ∧ s1 156 (12 + 4 * c + 1) = 0 ∧ s1 156 (12 + 4 * c + 2) = 1) (g4 : ∀ q, q ≠ 10 → (∀ c, c < n → q ≠ 12 + 4 * c ∧ q ≠ 12 + 4 * c + 1 ∧ q ≠ 12 + 4 * c + 2) → s1 156 q = s 156 q) : Rf (s1 156) (opK K n) n m := by
  obtain ⟨a0, a1, a2, a3, a4, a5, a6⟩ := h
  have w8 := w.1
  refine ⟨by rw [g4 0 (by decide) (fun c hc => by omega)]; exact a0, by rw [g4 1 (by decide) (fun c hc => by omega)]; exact a1, g2, by rw [g4 11 (by decide) (fun c hc => by omega)]; exact a3, fun c hc => ?_, fun j hj => ?_, fun p hp => ?_⟩
  · obtain ⟨k1, k2, k3⟩ := g3 c hc
    obtain ⟨-, -, -, k4, k5⟩ := a4 c hc
    refine ⟨k1, k2, k3, ?_, ?_⟩
    · rw [g4 _ (by omega) (fun c hc => by omega)]; exact k4
    · rw [g4 _ (by omega) (fun c hc => by omega)]; exact k5
  · rw [g4 _ (by omega) (fun c hc => by omega)]; exact a5 j hj
  · rw [g4 _ (by omega) (fun c hc => by omega)]; exact a6 p hp
theorem op_both {s : Hp} {a : Nat} {K : Nat → Nat → Int} {n m : Nat} (h : Cl s a K n m) (w : WF K n m) : ∃ s1, xl_layOpen s a = some s1 ∧ Cl s1 a (opK K n) n m ∧ ∀ P, ¬ (a ≤ P ∧ P ≤ a + 8) → s1 P = s P := by
  obtain ⟨s1, e, f1, f2, f3, f4⟩ := cl_layOpen h.1 w.1
  exact ⟨s1, e, Cl_op h w f1 f2 f3 f4, fun P hP => f1 P (by omega) (by omega) (by omega) (by omega) (by omega)⟩
theorem rm_open {s : Hp} {K : Nat → Nat → Int} {n m : Nat} (h : Rf (s 156) K n m) (w : WF K n m) : ∃ s1, xm_liesOpen s = some s1 ∧ Rf (s1 156) (opK K n) n m ∧ SD s s1 := by
  have w8 := w.1
  obtain ⟨s1, e, f1, f2, f3, f4⟩ := rm_liesOpen h.1 w.1
  exact ⟨s1, e, Rf_op h w f2 f3 f4, fun P hP _ => f1 P hP, fun q hq => f4 q (by omega) (fun c hc => by omega)⟩
