/-! the other clauses of a cloth's text, both sides -/
section CP
variable {T : Nat → Int} {n : Nat} {s M : Hp}
theorem FMr_tr {M M1 M2 : Hp} (h : FMr M M1) (g : FMr M1 M2) : FMr M M2 := ⟨fun P hP => by rw [g.1 P hP]; exact h.1 P hP, fun q q1 q2 q3 => by rw [g.2 q q1 q2 q3]; exact h.2 q q1 q2 q3⟩
theorem RP_152 {k : Nat} {v : Int} (h : RP T n s M) : RP T n s (uh M 152 k v) := by
  obtain ⟨tc, tm, s3, m9, i, hi, hin, hs2⟩ := h
  exact ⟨tc, ⟨by rw [uh_row (by decide)]; exact tm.1, fun j hj => by rw [uh_row (by decide)]; exact tm.2 j hj⟩, s3, by rw [uh_row (by decide)]; exact m9, i, by rw [uh_row (by decide)]; exact hi, hin, hs2⟩
theorem RP_c {P k : Nat} {v : Int} (h : RP T n s M) (h1 : P ≠ 1) (h2 : P ≠ 2) : RP T n (uh s P k v) M := by
  obtain ⟨tc, tm, s3, m9, i, hi, hin, hs2⟩ := h
  exact ⟨⟨by rw [uh_row (Ne.symm h1)]; exact tc.1, by rw [uh_row (Ne.symm h2)]; exact tc.2⟩, tm, by rw [uh_row (Ne.symm h1)]; exact s3, m9, i, hi, hin, by rw [uh_row (Ne.symm h1)]; exact hs2⟩
theorem CD_fr {s1 M1 : Hp} {c m : Nat} (h : CD s M c m) (fe : ∀ P, 4 ≤ P → P ≤ 12 → s1 P = s P) (fm : M1 152 = M 152) : CD s1 M1 c m := by
  unfold CD at h ⊢
  rw [fm, fe 4 (by decide) (by decide), fe 5 (by decide) (by decide), fe 6 (by decide) (by decide), fe 7 (by decide) (by decide), fe 8 (by decide) (by decide), fe 9 (by decide) (by decide), fe 10 (by decide) (by decide), fe 11 (by decide) (by decide), fe 12 (by decide) (by decide)]
  exact h
theorem cc_person {c m : Nat} (hb : TB T n) (h : RP T n s M) (hd : CD s M c m) (hm : m < 4) : ∃ (s1 : Hp) (b : Int) (M1 : Hp), xc_readPerson s = some s1 ∧ ((xm_cellHere M (78 + (M 152 1)) 0 999).bind fun o8 => if w32 o8.1 = 0 then some (0, o8.2) else (some (uh o8.2 152 1 ((o8.2 152 1) + 1))).bind fun s13 => some (1, s13)) = some (b, M1) ∧ GE s s1 ∧ GM M M1 ∧ M1 146 14 = M 146 14 ∧ ((b = 1 ∧ RP T n s1 M1 ∧ CD s1 M1 c (m + 1)) ∨ (b = 0 ∧ RF T n s1 M1)) := by
  obtain ⟨v, s1, b, M1, e1, e2, fe, fm, hr⟩ := nm_both (lo := 0) (hi := 999) hb h (by decide) (by decide) (by decide) (by decide)
  have hd1 := CD_fr hd (fun P h1 _ => fe P (by omega)) (fm.1 152 (by decide))
  have hm1 : M 152 1 = (m : Int) := hd.2.2.2.2.2.2.2.2.1
  unfold xc_readPerson xm_cellHere
  rw [e1, e2]
  simp only [obs]
  rcases hr with ⟨rfl, rp, hv, v0, v9⟩ | ⟨rfl, rf⟩
  · obtain ⟨k2, k8, k4, d0, d1, d2, d3, d4, d5, d6, d7, d8, d9⟩ := hd1
    have rp3 := rp.2.2.1
    rw [cf_ok rp3, if_neg (c := w32 1 = 0) (by decide), hm1, ixt (n := 82) (j := 78 + (m : Int)) (78 + m) (by omega) (by omega) (by decide)]
    simp only [obs]
    rw [if_pos (by decide), if_neg (c := w32 1 = 0) (by decide), d1, w32_eq (x := (m : Int)) (by omega) (by omega), if_pos (by rw [show w32 4 = 4 by decide]; omega), ixt (n := 4) (j := (m : Int)) m rfl hm (by decide), hv]
    simp only [obs]
    have x1 : uh s1 12 m v 4 1 = (m : Int) := by rw [uh_row (by decide)]; exact d1
    have x2 : uh M1 152 (78 + m) v 152 1 = (m : Int) := by rw [uh_ro _ _ _ _ (by omega)]; exact d5
    rw [x1, x2]
    refine ⟨_, _, _, rfl, rfl, fun P h1 h2 => ?_, ⟨fun P h1 h2 => ?_, fun q q1 q2 q3 q4 => ?_⟩, ?_, Or.inl ⟨rfl, RP_152 (RP_152 (RP_c (RP_c rp (by decide) (by decide)) (by decide) (by decide))), k2, k8, by omega, ?_, ?_, ?_, ?_, ?_, ?_, fun q hq => ?_, fun q hq => ?_, fun q hq => ?_, fun p hp => ?_⟩⟩
    · rw [uh_row (by omega), uh_row (by omega)]; exact fe P h1
    · rw [uh_row h2, uh_row h2]; exact fm.1 P h1
    · rw [uh_row (by decide), uh_row (by decide)]; exact fm.2 q q1 q2 q3
    · rw [uh_row (by decide), uh_row (by decide)]; exact fm.2 14 (by decide) (by decide) (by decide)
    · rw [uh_ro _ _ _ _ (by decide), uh_row (by decide)]; exact d0
    · rw [uh_rc]; omega
    · rw [uh_ro _ _ _ _ (by decide), uh_row (by decide)]; exact d2
    · rw [uh_ro _ _ _ _ (by decide), uh_row (by decide)]; exact d3
    · rw [uh_ro _ _ _ _ (by decide), uh_ro _ _ _ _ (by omega)]; exact d4
    · rw [uh_rc]; omega
    · rw [uh_row (by decide), uh_row (by decide), uh_row (by decide), uh_row (by decide), uh_row (by decide), uh_row (by decide), uh_row (by decide), uh_row (by decide)]
      exact d6 q hq
    · obtain ⟨y1, y2, y3, y4, y5, y6⟩ := d7 q hq
      rw [uh_row (p := 8) (by decide), uh_row (p := 8) (by decide), uh_row (p := 9) (by decide), uh_row (p := 9) (by decide), uh_ro (q := 63 + q) _ _ _ _ (by omega), uh_ro (q := 63 + q) _ _ _ _ (by omega), uh_ro (q := 55 + q) _ _ _ _ (by omega), uh_ro (q := 55 + q) _ _ _ _ (by omega)]
      exact ⟨y1, y2, by omega, y4, y5, y6⟩
    · rw [uh_row (p := 10) (by decide), uh_row (p := 10) (by decide), uh_ro (q := 71 + q) _ _ _ _ (by omega), uh_ro (q := 71 + q) _ _ _ _ (by omega)]
      exact d8 q hq
    · rw [uh_row (p := 12) (by decide), uh_ro (q := 78 + p) _ _ _ _ (by omega)]
      by_cases hp1 : p = m
      · subst hp1
        rw [uh_rc, uh_rc]
        exact ⟨rfl, v0, v9⟩
      · rw [uh_ro (q := p) _ _ _ _ hp1, uh_ro (q := 78 + p) _ _ _ _ (by omega)]
        exact d9 p (by omega)
  · obtain ⟨tc, tm, f1, f2, f3, hp⟩ := id rf
    rw [cf_no f2 f3, if_pos (c := w32 0 = 0) (by decide)]
    simp only [obs]
    rw [if_neg (c := w32 1 = 0) (by decide), if_pos (c := w32 0 = 0) (by decide)]
    exact ⟨s1, 0, M1, rfl, rfl, fun P h1 _ => fe P h1, ⟨fun P h1 _ => fm.1 P h1, fun q q1 q2 q3 _ => fm.2 q q1 q2 q3⟩, fm.2 14 (by decide) (by decide) (by decide), Or.inr ⟨rfl, rf⟩⟩
/-- two numbers, the second to its place -/
theorem cc_two {base : Nat} {hi1 lo2 hi2 : Int} (hb : TB T n) (h : RP T n s M) (a1 : -1000 ≤ hi1) (a2 : (base : Int) + hi1 < 82) (a3 : hi1 ≤ 8) (b1 : -1000 ≤ lo2) (b2 : lo2 ≤ 100000) (c1 : -1000 ≤ hi2) (c2 : hi2 ≤ 100000) : ∃ v s1 r, xt_takeNumber s 0 hi1 = some (v, s1) ∧ FE s s1 ∧ ((xm_numberHere M 0 hi1).bind fun o5 => if w32 o5.1 = 0 then some (0, o5.2) else (xm_cellHere o5.2 ((base : Int) + (o5.2 146 10)) lo2 hi2).bind fun o10 => if w32 o10.1 = 0 ∨ w32 o10.1 = 1 then some (o10.1, o10.2) else none) = some r ∧ ((r.1 = 0 ∧ RF T n s1 r.2 ∧ FMr M r.2) ∨ (s1 1 3 = 0 ∧ ∃ (x : Nat) (y : Int) (s2 : Hp), v = (x : Int) ∧ (x : Int) ≤ hi1 ∧ xt_takeNumber s1 lo2 hi2 = some (y, s2) ∧ FE s s2 ∧ ((r.1 = 0 ∧ RF T n s2 r.2 ∧ FMr M r.2) ∨ (r.1 = 1 ∧ lo2 ≤ y ∧ y ≤ hi2 ∧ ∃ M2, r.2 = uh M2 152 (base + x) y ∧ RP T n s2 M2 ∧ FMr M M2)))) := by
  obtain ⟨v, s1, b, M1, e1, e2, fe, fm, hr⟩ := nm_both (lo := 0) (hi := hi1) hb h (by decide) (by decide) a1 (by omega)
  rw [e1, e2]
  simp only [obs]
  rcases hr with ⟨rfl, rp, hv, v0, v9⟩ | ⟨rfl, rf⟩
  · obtain ⟨x, rfl⟩ : ∃ x : Nat, v = (x : Int) := ⟨v.toNat, by omega⟩
    obtain ⟨y, s2, b', M2, g1, g2, ge, gm, hr2⟩ := nm_both (lo := lo2) (hi := hi2) hb rp b1 b2 c1 c2
    rw [if_neg (by decide)]
    unfold xm_cellHere
    rw [g2, hv, ixt (n := 82) (j := (base : Int) + (x : Int)) (base + x) (by omega) (by omega) (by decide)]
    simp only [obs]
    have fe2 : FE s s2 := fun P hP => by rw [ge P hP]; exact fe P hP
    rcases hr2 with ⟨rfl, rp2, hv2, y0, y9⟩ | ⟨rfl, rf2⟩
    · rw [if_neg (by decide)]
      simp only [obs]
      rw [if_pos (Or.inr (by decide)), hv2]
      exact ⟨_, s1, _, rfl, fe, rfl, Or.inr ⟨rp.2.2.1, x, y, s2, rfl, v9, g1, fe2, Or.inr ⟨rfl, y0, y9, M2, rfl, rp2, FMr_tr fm gm⟩⟩⟩
    · rw [if_pos (by decide)]
      simp only [obs]
      rw [if_pos (Or.inl (by decide))]
      exact ⟨_, s1, _, rfl, fe, rfl, Or.inr ⟨rp.2.2.1, x, y, s2, rfl, v9, g1, fe2, Or.inl ⟨rfl, rf2, FMr_tr fm gm⟩⟩⟩
  · rw [if_pos (by decide)]
    exact ⟨_, s1, _, rfl, fe, rfl, Or.inl ⟨rfl, rf, fm⟩⟩
end CP
