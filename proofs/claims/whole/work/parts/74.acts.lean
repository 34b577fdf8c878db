/-! acts: what is kept ahead of them -/
def ksF (s : Hp) : Nat → Int := fun i => if i < 20 then s 40 i else -1
theorem ksF_at {s : Hp} {i : Nat} (h : i < 20) : ksF s i = s 40 i := if_pos h
theorem ksF_ok {sh : Shp} {ln : Nat → Nat} {s : Hp} (ds : DS sh ln s) : ∀ i, ¬ ksF s i < 0 → okC 3 sh (ksF s i).toNat := fun i => by
  unfold ksF
  split
  · exact ds.2.1 i (by assumption)
  · exact fun k => absurd (by decide) k
theorem okC_at {r a : Nat} {sh : Shp} (h : okC r sh a) {P : Nat} (h1 : a ≤ P) (h2 : P ≤ a + 8) : ∃ k l d, sh P = some (r, k, l, d) ∧ (P ≠ a → k = 1) := by
  obtain ⟨i, rfl⟩ : ∃ i, P = a + i := ⟨P - a, by omega⟩
  by_cases h0 : i = 0
  · subst h0; exact ⟨_, _, _, h.1, fun k => absurd rfl k⟩
  · by_cases h8 : i = 8
    · subst h8; exact ⟨_, _, _, h.2.2, fun _ => rfl⟩
    · exact ⟨_, _, _, h.2.1 i (by omega) (by omega), fun _ => rfl⟩
theorem okC_ap {a b : Nat} {sh : Shp} (h : okC 3 sh a) (g : okC 3 sh b) (hab : a ≠ b) {i : Nat} (hi : i ≤ 8) : ¬ (a ≤ b + i ∧ b + i ≤ a + 8) := by
  rintro ⟨h1, h2⟩
  by_cases hc : a ≤ b
  · obtain ⟨k, l, d, e, f⟩ := okC_at h (P := b) hc (by omega)
    rw [g.1] at e
    have := f (by omega)
    subst this
    cases e
  · obtain ⟨k, l, d, e, f⟩ := okC_at g (P := a) (by omega) (by omega)
    rw [h.1] at e
    have := f (by omega)
    subst this
    cases e
theorem okC_role {a r : Nat} {sh : Shp} (h : okC 3 sh a) {P : Nat} {k l : Nat} {d : List (Nat × Nat)} (g : sh P = some (r, k, l, d)) (hr : r ≠ 3) : ¬ (a ≤ P ∧ P ≤ a + 8) := by
  rintro ⟨h1, h2⟩
  obtain ⟨k, l, d, e, -⟩ := okC_at h h1 h2
  rw [g] at e
  exact hr (Prod.mk.inj (Option.some.inj e)).1
theorem okS_role {a : Nat} {sh : Shp} (h : okS 2 sh a) {i : Nat} (hi : i ≤ 21) : ∃ k l d, sh (a + i) = some (2, k, l, d) := by
  obtain ⟨h0, h1, h2, h3, h4, h5⟩ := h
  by_cases c0 : i = 0
  · subst c0; exact ⟨_, _, _, h0⟩
  by_cases c1 : i ≤ 9
  · obtain ⟨k, l, d, e, -⟩ := okC_at h1 (P := a + i) (by omega) (by omega)
    exact ⟨k, l, d, e⟩
  by_cases c2 : i ≤ 18
  · obtain ⟨k, l, d, e, -⟩ := okC_at h2 (P := a + i) (by omega) (by omega)
    exact ⟨k, l, d, e⟩
  by_cases c3 : i = 19
  · subst c3; exact ⟨_, _, _, h3⟩
  by_cases c4 : i = 20
  · subst c4; exact ⟨_, _, _, h4⟩
  have c5 : i = 21 := by omega
  subst c5; exact ⟨_, _, _, h5⟩
/-- rows that a kept act may not touch stay; then all that was made stays -/
theorem REL_keep {sh : Shp} {ln : Nat → Nat} {s M : Hp} {L : Nat} (ds : DS sh ln s) (rel : REL ln s M) (hL : 175 ≤ L) (hlt : ∀ a q, sh a = some q → a < L) : ∃ s1 sh1 M1, xp_keep (ksF s) L sh s 17 = some (s1, sh1) ∧ xm_keepsAct M = some M1 ∧ DS sh1 ln s1 ∧ REL ln s1 M1 ∧ (∀ P, P < 175 → P ≠ 39 → P ≠ 40 → s1 P = s P) ∧ (∀ P, P ≠ 146 → P ≠ 159 → M1 P = M P) ∧ ∀ q, q ≠ 26 → M1 146 q = M 146 q := by
  obtain ⟨tp, ru, ⟨K, n, m, sr, pa⟩, im, bo, le⟩ := rel
  obtain ⟨z, x, p1, p2, p3, p4, p5, p6, p7⟩ := pa
  have W := sr.1
  obtain ⟨w8, w4, -⟩ := id W
  obtain ⟨M1, k1, k2, k3, k4⟩ := rm_keepsAct p2 p3
  have hy0 : ¬ s 40 x < 0 → okC 3 sh (s 40 x).toNat := ds.2.1 x p5
  have hst : ∀ P, P < 175 → True := fun _ _ => trivial
  have hy175 : ¬ s 40 x < 0 → 175 ≤ (s 40 x).toNat := by
    sorry
  obtain ⟨s1, sh1, y, c1, c2, c3, c4, c5, c6, c7, c8, c9⟩ := cl_keep (ks := ksF s) (L := L) (sh := sh) sr.2.1 W (fun i hi => ksF_at hi) p4 p5 p1 p3 hy175 hL
  refine ⟨s1, sh1, M1, c1, k1, ?_, ?_, fun P h1 h2 h3 => c8 P h2 h3 (by omega) (by omega), k2, k3⟩
  · sorry
  · sorry
