/-! acts: what is kept ahead of them -/
def ksF (s : Hp) : Nat → Int := fun i => if i < 20 then s 40 i else -1
theorem ksF_at {s : Hp} {i : Nat} (h : i < 20) : ksF s i = s 40 i := if_pos h
theorem ksF_ok {sh : Shp} {ln : Nat → Nat} {s : Hp} (ds : DS sh ln s) : ∀ i, ¬ ksF s i < 0 → okC 3 sh (ksF s i).toNat := fun i => by
  unfold ksF
  split
  · exact ds.2.1 i (by assumption)
  · exact fun k => absurd (by decide) k
theorem okC_at {r a : Nat} {sh : Shp} (h : okC r sh a) {P : Nat} (h1 : a ≤ P) (h2 : P ≤ a + 8) : ∃ k l d, sh P = some (r, k, l, d) ∧ (P ≠ a → k = 1) := by
  obtain ⟨i, rfl⟩ : ∃ i, P = a + i := ⟨P - a, by omega⟩
  by_cases h0 : i = 0
  · subst h0; exact ⟨_, _, _, h.1, fun k => absurd rfl k⟩
  · by_cases h8 : i = 8
    · subst h8; exact ⟨_, _, _, h.2.2, fun _ => rfl⟩
    · exact ⟨_, _, _, h.2.1 i (by omega) (by omega), fun _ => rfl⟩
theorem okC_ap {a b : Nat} {sh : Shp} (h : okC 3 sh a) (g : okC 3 sh b) (hab : a ≠ b) {i : Nat} (hi : i ≤ 8) : ¬ (a ≤ b + i ∧ b + i ≤ a + 8) := by
  rintro ⟨h1, h2⟩
  by_cases hc : a ≤ b
  · obtain ⟨k, l, d, e, f⟩ := okC_at h (P := b) hc (by omega)
    rw [g.1] at e
    have := f (by omega)
    subst this
    cases e
  · obtain ⟨k, l, d, e, f⟩ := okC_at g (P := a) (by omega) (by omega)
    rw [h.1] at e
    have := f (by omega)
    subst this
    cases e
theorem okC_role {a r : Nat} {sh : Shp} (h : okC 3 sh a) {P : Nat} {k l : Nat} {d : List (Nat × Nat)} (g : sh P = some (r, k, l, d)) (hr : r ≠ 3) : ¬ (a ≤ P ∧ P ≤ a + 8) := by
  rintro ⟨h1, h2⟩
  obtain ⟨k, l, d, e, -⟩ := okC_at h h1 h2
  rw [g] at e
  exact hr (Prod.mk.inj (Option.some.inj e)).1
theorem okS_role {a : Nat} {sh : Shp} (h : okS 2 sh a) {i : Nat} (hi : i ≤ 21) : ∃ k l d, sh (a + i) = some (2, k, l, d) := by
  obtain ⟨h0, h1, h2, h3, h4, h5⟩ := h
  by_cases c0 : i = 0
  · subst c0; exact ⟨_, _, _, h0⟩
  by_cases c1 : i ≤ 9
  · obtain ⟨k, l, d, e, -⟩ := okC_at h1 (P := a + i) (by omega) (by omega)
    exact ⟨k, l, d, e⟩
  by_cases c2 : i ≤ 18
  · obtain ⟨k, l, d, e, -⟩ := okC_at h2 (P := a + i) (by omega) (by omega)
    exact ⟨k, l, d, e⟩
  by_cases c3 : i = 19
  · subst c3; exact ⟨_, _, _, h3⟩
  by_cases c4 : i = 20
  · subst c4; exact ⟨_, _, _, h4⟩
  have c5 : i = 21 := by omega
  subst c5; exact ⟨_, _, _, h5⟩

/-- the surroundings of a call that makes objects -/
def EN (sh : Shp) (L : Nat) : Prop := St sh ∧ (∀ a, 146 ≤ a → a < 175 → sh a = none) ∧ 175 ≤ L ∧ ∀ a q, sh a = some q → a < L
theorem EN_of {k : Nat} {sh : Shp} {s M : Hp} {w : pm_H} (ib : IB k sh s M w) : EN sh w.length := by
  obtain ⟨a1, a2, a3, a4, -, -⟩ := ib
  exact ⟨a3, a4, RH_lt a2 sm_174, fun a q hq => RH_lt a1 hq⟩
theorem shX_0 : ∀ a, a < 146 → (shX a).map (fun q => q.1) = some 0 := by decide +kernel
theorem dyn_175 {sh : Shp} {L : Nat} (en : EN sh L) {a r k l : Nat} {d : List (Nat × Nat)} (h : sh a = some (r, k, l, d)) (hr : r ≠ 0) : 175 ≤ a := by
  by_cases h1 : a < 146
  · have h2 := shX_0 a h1
    cases hx : shX a with
    | none => rw [hx] at h2; cases h2
    | some q =>
      rw [hx] at h2
      have h3 := en.1 a q hx
      rw [h] at h3
      cases h3
      exact absurd (Option.some.inj h2) hr
  · by_cases h2 : a < 175
    · rw [en.2.1 a (by omega) h2] at h; cases h
    · omega
theorem wsd_cg {M M1 : Hp} {t : Nat} (m159 : ∀ i, i < 45 → M1 159 (45 * t + i) = M 159 (45 * t + i)) (m156 : ∀ q, q < 10 ∨ 55 ≤ q → M1 156 q = M 156 q) : wsd M1 t = wsd M t := by
  funext i
  unfold wsd
  by_cases h : 10 ≤ i ∧ i < 55
  · rw [if_pos h, if_pos h, m159 _ (by omega)]
  · rw [if_neg h, if_neg h, m156 i (by omega)]
theorem PastR_c2 {s s1 M M1 : Hp} {n m : Nat} (h : PastR s M n m) (h39 : s1 39 = s 39) (h40 : s1 40 = s 40) (hb : ∀ P, 175 ≤ P → s1 P = s P) (m26 : M1 146 26 = M 146 26) (m159 : M1 159 = M 159) (m156 : ∀ q, q < 10 ∨ 55 ≤ q → M1 156 q = M 156 q) : PastR s1 M1 n m := by
  obtain ⟨z, x, p1, p2, p3, p4, p5, p6, p7⟩ := h
  refine ⟨z, x, by rw [h39]; exact p1, by rw [m26]; exact p2, p3, by rw [h39]; exact p4, p5, fun t ht => ?_, by rw [h40]; exact p7⟩
  obtain ⟨q1, q2, K2, q3, q4, q5⟩ := p6 t ht
  rw [h40]
  refine ⟨q1, q2, K2, q3, Cl_row q4 (fun i hi => hb _ (by omega)), ?_⟩
  rw [wsd_cg (fun i _ => by rw [m159]) m156]
  exact q5
theorem keepR {sh : Shp} {ln : Nat → Nat} {ks : Nat → Int} {s M : Hp} {L n m : Nat} {K : Nat → Nat → Int} (en : EN sh L) (ds : DS sh ln s) (hks : ∀ i, i < 20 → ks i = s 40 i) (W : WF K n m) (hc : Cl s 17 K n m) (hr : Rf (M 156) K n m) (pa : PastR s M n m) : ∃ s1 sh1 M1, xp_keep ks L sh s 17 = some (s1, sh1) ∧ xm_keepsAct M = some M1 ∧ DS sh1 ln s1 ∧ PastR s1 M1 n m ∧ (∀ P, P < 175 → P ≠ 39 → P ≠ 40 → s1 P = s P) ∧ (∀ P r k l d, sh P = some (r, k, l, d) → r ≠ 0 → r ≠ 3 → s1 P = s P) ∧ (∀ P, P ≠ 146 → P ≠ 159 → M1 P = M P) ∧ ∀ q, q ≠ 26 → M1 146 q = M 146 q := by
  obtain ⟨z, x, p1, p2, p3, p4, p5, p6, p7⟩ := pa
  obtain ⟨M1, k1, k2, k3, k4⟩ := rm_keepsAct p2 p3
  have hL := en.2.2.1
  have hy175 : ¬ s 40 x < 0 → 175 ≤ (s 40 x).toNat := fun h => dyn_175 en (ds.2.1 x p5 h).1 (by decide)
  obtain ⟨s1, sh1, y, c1, c2, c3, c4, c5, c6, c7, c8, c9⟩ := cl_keep (ks := ks) (L := L) (sh := sh) hc W hks p4 p5 p1 p3 hy175 hL
  have hsub : Sub sh sh1 := by
    rcases c9 with ⟨e, -⟩ | ⟨e, -⟩
    · rw [e]; exact fun a q h => h
    · rw [e]
      intro a q h
      show (if a < L then sh a else _) = _
      rw [if_pos (en.2.2.2 a q h)]
      exact h
  have hoky : okC 3 sh1 y := by
    rcases c9 with ⟨e, e2⟩ | ⟨e, e2, -⟩
    · have := ds.2.1 x p5 (by rw [e2]; omega)
      rw [e2] at this
      rw [e]; exact this
    · rw [e, e2]; exact okC_new
  have hlt : ∀ a, okC 3 sh a → ∀ i, i ≤ 8 → a + i < L := fun a ha i hi => by
    obtain ⟨k, l, d, e, -⟩ := okC_at ha (P := a + i) (by omega) (by omega)
    exact en.2.2.2 _ _ e
  have hrole : ∀ P r k l d, sh P = some (r, k, l, d) → r ≠ 3 → ¬ (y ≤ P ∧ P ≤ y + 8) := fun P r k l d h1 h2 => okC_role hoky (hsub _ _ h1) h2
  have fr0 : ∀ P, P < 175 → P ≠ 39 → P ≠ 40 → s1 P = s P := fun P h1 h2 h3 => c8 P h2 h3 (by omega) (by omega)
  have fr1 : ∀ P r k l d, sh P = some (r, k, l, d) → r ≠ 0 → r ≠ 3 → s1 P = s P := fun P r k l d h1 h2 h3 => by
    have := dyn_175 en h1 h2
    exact c8 P (by omega) (by omega) (hrole P r k l d h1 h3) (en.2.2.2 _ _ h1)
  have hdis : ∀ i, i < 20 → i ≠ x → ¬ s 40 i < 0 → (s 40 i).toNat ≠ y := fun i hi hix h0 => by
    rcases c9 with ⟨-, e2⟩ | ⟨-, e2, -⟩
    · have := p7 i x hi p5 hix h0
      omega
    · have := hlt _ (ds.2.1 i hi h0) 0 (by decide)
      omega
  refine ⟨s1, sh1, M1, c1, k1, ⟨fun i hi => ?_, fun i hi h0 => ?_, fun i hi h0 => ?_⟩, ?_, fr0, fr1, k2, k3⟩
  · rw [fr0 15 (by decide) (by decide) (by decide)]
    exact okR_sub hsub (ds.1 i hi)
  · by_cases hix : i = x
    · subst hix; rw [c4]; exact hoky
    · rw [c5 i hix] at h0 ⊢
      exact okC_sub hsub (ds.2.1 i hi h0)
  · rw [fr0 38 (by decide) (by decide) (by decide)] at h0 ⊢
    exact okS_sub hsub (ds.2.2 i hi h0)
  · have e156 : M1 156 = M 156 := k2 156 (by decide) (by decide)
    refine ⟨min (z + 1) 20, (x + 1) % 20, c3, ?_, by omega, c2, Nat.mod_lt _ (by decide), fun t ht => ?_, fun i j hi hj hij h0 => ?_⟩
    · rcases k4 with ⟨h1, h2, -⟩ | ⟨h1, h2, -⟩
      · rw [h2, show min (z + 1) 20 = z + 1 by omega]
      · rw [h2, show min (z + 1) 20 = 20 by omega]; rfl
    · by_cases ht0 : t = 0
      · subst ht0
        rw [show ((x + 1) % 20 + 19 - 0) % 20 = x by omega, c4]
        refine ⟨by omega, by omega, K, W, c7, ?_⟩
        have e : wsd M1 (min (z + 1) 20 - 1 - 0) = M 156 := by
          funext i
          unfold wsd
          by_cases h : 10 ≤ i ∧ i < 55
          · rw [if_pos h]
            rcases k4 with ⟨h1, -, h3, -⟩ | ⟨h1, -, h3, -⟩
            · rw [show min (z + 1) 20 - 1 - 0 = z by omega, h3 _ (by omega), show 10 + (i - 10) = i by omega]
            · rw [show min (z + 1) 20 - 1 - 0 = 19 by omega, h3 _ (by omega), show 10 + (i - 10) = i by omega]
          · rw [if_neg h, e156]
        rw [e]; exact hr
      · obtain ⟨u, rfl⟩ : ∃ u, t = u + 1 := ⟨t - 1, by omega⟩
        have hu : u < z := by omega
        obtain ⟨q1, q2, K2, q3, q4, q5⟩ := p6 u hu
        rw [show ((x + 1) % 20 + 19 - (u + 1)) % 20 = (x + 19 - u) % 20 by omega]
        have hix : (x + 19 - u) % 20 ≠ x := by omega
        rw [c5 _ hix]
        have hi20 : (x + 19 - u) % 20 < 20 := Nat.mod_lt _ (by decide)
        generalize (x + 19 - u) % 20 = i at q1 q2 q4 hix hi20
        have hok := ds.2.1 i hi20 q1
        refine ⟨q1, q2, K2, q3, Cl_row q4 (fun j hj => c8 _ (by omega) (by omega) ?_ (hlt _ hok j hj)), ?_⟩
        · exact okC_ap hoky (okC_sub hsub hok) (fun e => hdis i hi20 hix q1 e.symm) hj
        · have e : wsd M1 (min (z + 1) 20 - 1 - (u + 1)) = wsd M (z - 1 - u) := by
            funext i
            unfold wsd
            by_cases h : 10 ≤ i ∧ i < 55
            · rw [if_pos h, if_pos h]
              rcases k4 with ⟨h1, -, -, h3⟩ | ⟨h1, -, -, h3⟩
              · rw [show min (z + 1) 20 - 1 - (u + 1) = z - 1 - u by omega, h3 _ (by omega)]
              · rw [h3 _ (by omega)]
                congr 1
                omega
            · rw [if_neg h, if_neg h, e156]
          rw [e]; exact q5
    · by_cases hix : i = x
      · subst hix
        have hji : j ≠ i := fun e => hij e.symm
        rw [c4, c5 j hji]
        by_cases hj0 : s 40 j < 0
        · omega
        · have := hdis j hj hji hj0
          omega
      · by_cases hjx : j = x
        · subst hjx
          rw [c5 i hix] at h0 ⊢
          rw [c4]
          have := hdis i hi hix h0
          omega
        · rw [c5 i hix] at h0 ⊢
          rw [c5 j hjx]
          exact p7 i j hi hj hij h0
theorem tdK_cg {f f2 : Nat → Int} (h : ∀ q, q < 10 ∨ 55 ≤ q → f2 q = f q) : tdK f2 = tdK f := by
  funext r i
  unfold tdK
  rw [h 0 (by omega), h (63 + i) (by omega), h (55 + i) (by omega), h (71 + i) (by omega), h (78 + i) (by omega)]
theorem SheetR_f {rc : Int} {s s2 : Hp} {a : Nat} {f f2 : Nat → Int} {fo xx : Int} {K K2 : Nat → Nat → Int} {n m : Nat} (h : SheetR rc s a f fo xx K n m) (hs : ∀ i, i = 0 ∨ (10 ≤ i ∧ i ≤ 21) → s2 (a + i) = s (a + i)) (hf : ∀ q, q < 10 ∨ 55 ≤ q → f2 q = f q) (W2 : WF K2 n m) (c2 : Cl s2 (a + 1) K2 n m) (r2 : Rf f2 K2 n m) : SheetR rc s2 a f2 fo xx K2 n m := by
  obtain ⟨b1, b2, b3, b4, b5, b6, b7, b8⟩ := h
  have e0 : s2 a = s a := hs 0 (by decide)
  refine ⟨W2, c2, r2, by rw [tdK_cg hf]; exact b4, ?_, ?_, ?_, ?_⟩
  · rw [tdK_cg hf]
    exact Cl_row b5 (fun i hi => by rw [Nat.add_assoc]; exact hs (10 + i) (by omega))
  · intro j hj
    rw [hs 19 (by decide), hf (82 + j) (by omega)]; exact b6 j hj
  · rw [hs 20 (by decide), hs 21 (by decide), e0, hf 129 (by decide)]
    refine ⟨b7.1, b7.2.1, b7.2.2.1, b7.2.2.2.1, fun i hi => ?_⟩
    rw [hf (89 + 4 * i) (by omega), hf (89 + 4 * i + 1) (by omega), hf (89 + 4 * i + 2) (by omega), hf (89 + 4 * i + 3) (by omega)]
    exact b7.2.2.2.2 i hi
  · rw [e0]; exact b8
theorem CR_u {ln : Nat → Nat} {s s1 : Hp} {u : Int} {R : List Cls} (h : CR ln s u (some R)) (hs : s1 (u.toNat + 1) = s (u.toNat + 1)) : CR ln s1 u (some R) := by
  obtain ⟨h1, h2, h3, h4, h5, h6⟩ := h
  exact ⟨h1, h2, h3, by rw [hs]; exact h4, h5, h6⟩
/-- behind an act -/
theorem REL_act {sh : Shp} {ln : Nat → Nat} {s M s2 M2 : Hp} {K K2 : Nat → Nat → Int} {n m : Nat} (ds : DS sh ln s) (tp : TapeR s M) (ru : RulesR ln s M) (sr : SheetR (s 0 4) s 16 (M 156) (M 146 21) (M 146 22) K n m) (im : ImgR (s 0 4) s M) (bo : BookR s) (le : LevR s)
  (f1 : ∀ P, P < 175 → ¬ (17 ≤ P ∧ P ≤ 25) → P ≠ 39 → P ≠ 40 → ¬ (42 ≤ P ∧ P ≤ 53) → s2 P = s P)
  (f2 : ∀ P r k l d, sh P = some (r, k, l, d) → r ≠ 0 → r ≠ 3 → s2 P = s P)
  (g1 : ∀ P, VM P → P ≠ 156 → P ≠ 159 → M2 P = M P) (g2 : ∀ q, q ≠ 26 → q ≠ 18 → M2 146 q = M 146 q) (g3 : ∀ q, q < 10 ∨ 55 ≤ q → M2 156 q = M 156 q)
  (W2 : WF K2 n m) (c2 : Cl s2 17 K2 n m) (r2 : Rf (M2 156) K2 n m) (pa : PastR s2 M2 n m) : REL ln s2 M2 := by
  have r0 : s2 0 = s 0 := f1 0 (by decide) (by decide) (by decide) (by decide) (by decide)
  have r15 : s2 15 = s 15 := f1 15 (by decide) (by decide) (by decide) (by decide) (by decide)
  have r38 : s2 38 = s 38 := f1 38 (by decide) (by decide) (by decide) (by decide) (by decide)
  refine ⟨?_, ?_, ⟨K2, n, m, ?_, pa⟩, ?_, ?_, ?_⟩
  · unfold TapeR at tp ⊢
    rw [f1 1 (by decide) (by decide) (by decide) (by decide) (by decide), f1 2 (by decide) (by decide) (by decide) (by decide) (by decide), g2 1 (by decide) (by decide), g1 147 (by unfold VM; omega) (by decide) (by decide)]
    exact tp
  · unfold RulesR at ru ⊢
    rw [r0, r15, g2 2 (by decide) (by decide)]
    refine ⟨ru.1, ru.2.1, ru.2.2.1, fun x hx => ?_⟩
    obtain ⟨R, c1, c2, c3⟩ := ru.2.2.2 x hx
    refine ⟨R, CR_u c1 (f2 _ _ _ _ _ (ds.1 x (by omega) c1.1).2 (by decide) (by decide)), RM_row (g1 148 (by unfold VM; omega) (by decide) (by decide)) (g1 150 (by unfold VM; omega) (by decide) (by decide)) (g1 151 (by unfold VM; omega) (by decide) (by decide)) c2, c3⟩
  · rw [g2 21 (by decide) (by decide), g2 22 (by decide) (by decide), r0]
    exact SheetR_f sr (fun i hi => f1 _ (by omega) (by omega) (by omega) (by omega) (by omega)) g3 W2 c2 r2
  · refine ⟨fun k hk => ?_, by rw [r38]; exact im.2⟩
    rw [g1 174 (by unfold VM; omega) (by decide) (by decide), r38, r0]
    rcases im.1 k hk with q | ⟨q1, q2, q3, K2, n2, m2', q4⟩
    · exact Or.inl q
    · refine Or.inr ⟨q1, q2, q3, K2, n2, m2', ?_⟩
      rw [g1 171 (by unfold VM; omega) (by decide) (by decide), g1 172 (by unfold VM; omega) (by decide) (by decide), g1 173 (by unfold VM; omega) (by decide) (by decide)]
      refine SheetR_cg q4 (fun i hi => ?_) rfl
      obtain ⟨k', l', d', e⟩ := okS_role (ds.2.2 k hk q2) hi
      exact f2 _ _ _ _ _ e (by decide) (by decide)
  · unfold BookR at bo ⊢
    rw [f1 130 (by decide) (by decide) (by decide) (by decide) (by decide), f1 131 (by decide) (by decide) (by decide) (by decide) (by decide)]
    exact bo
  · unfold LevR at le ⊢
    rw [f1 55 (by decide) (by decide) (by decide) (by decide) (by decide)]
    exact le
/-- a loop that copies numbers -/
theorem cp_loop {B : Int × Hp → Option ((Int × Hp) ⊕ (Int × Hp))} (S D N : Nat) (σ δ : Nat → Nat) (M : Hp) (hj : ∀ i j, i < N → j < N → δ i = δ j → i = j) (hno : S = D → ∀ i j, i < N → j < N → σ i ≠ δ j) (h : ∀ (i : Nat) (M' : Hp), i < N → (∀ P, P ≠ D → M' P = M P) → (∀ q, (∀ j, j < N → q ≠ δ j) → M' D q = M D q) → B ((i : Int), M') = some (.inl ((i : Int) + 1, uh M' D (δ i) (M' S (σ i))))) (e : ∀ M' : Hp, (∀ P, P ≠ D → M' P = M P) → (∀ q, (∀ j, j < N → q ≠ δ j) → M' D q = M D q) → B ((N : Int), M') = some (.inr ((N : Int), M'))) : ∃ M1, lp B (0, M) = some ((N : Int), M1) ∧ (∀ P, P ≠ D → M1 P = M P) ∧ (∀ i, i < N → M1 D (δ i) = M S (σ i)) ∧ ∀ q, (∀ j, j < N → q ≠ δ j) → M1 D q = M D q := by
  obtain ⟨r, e1, e2⟩ : ∃ r, lp B (0, M) = some r ∧ (fun (r : Int × Hp) => r.1 = (N : Int) ∧ (∀ P, P ≠ D → r.2 P = M P) ∧ (∀ i, i < N → r.2 D (δ i) = M S (σ i)) ∧ ∀ q, (∀ j, j < N → q ≠ δ j) → r.2 D q = M D q) r := by
    refine lp_forR (fun j (q : Int × Hp) => q.1 = (j : Int) ∧ (∀ P, P ≠ D → q.2 P = M P) ∧ (∀ i, i < j → q.2 D (δ i) = M S (σ i)) ∧ ∀ k, (∀ j, j < N → k ≠ δ j) → q.2 D k = M D k) N _ ?_ ?_ ⟨rfl, fun _ _ => rfl, fun i hi => by omega, fun _ _ => rfl⟩
    · rintro j ⟨x, M1⟩ hjN ⟨j1, j2, j3, j4⟩
      replace j1 : x = (j : Int) := j1
      replace j2 : ∀ P, P ≠ D → M1 P = M P := j2
      replace j3 : ∀ i, i < j → M1 D (δ i) = M S (σ i) := j3
      replace j4 : ∀ k, (∀ j, j < N → k ≠ δ j) → M1 D k = M D k := j4
      subst j1
      refine ⟨_, h j M1 hjN j2 j4, show (j : Int) + 1 = ((j + 1 : Nat) : Int) by omega, fun P hP => ?_, fun i hi => ?_, fun k hk => ?_⟩
      · show uh M1 D (δ j) _ P = _
        rw [uh_row hP]; exact j2 P hP
      · show uh M1 D (δ j) _ D _ = _
        by_cases hij : i = j
        · subst hij
          rw [uh_rc]
          by_cases hSD : S = D
          · rw [hSD, j4 _ (fun k hk => hno hSD i k hjN hk)]
          · rw [j2 S hSD]
        · rw [uh_ro _ _ _ _ (fun q => hij (hj i j (by omega) hjN q))]
          exact j3 i (by omega)
      · show uh M1 D (δ j) _ D _ = _
        rw [uh_ro _ _ _ _ (hk j hjN)]
        exact j4 k hk
    · rintro ⟨x, M1⟩ ⟨j1, j2, j3, j4⟩
      replace j1 : x = (N : Int) := j1
      subst j1
      exact ⟨_, e M1 j2 j4, rfl, j2, j3, j4⟩
  obtain ⟨r1, r2⟩ := r
  obtain ⟨g1, g2, g3, g4⟩ := e2
  replace g1 : r1 = (N : Int) := g1
  subst g1
  exact ⟨r2, e1, g2, g3, g4⟩
