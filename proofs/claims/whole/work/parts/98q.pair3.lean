/-! owner, crease, worth: laid by wip/whole/gen98q.py -/
section CQ
variable {T : Nat → Int} {n : Nat} {s M : Hp}
theorem CD_owner {c m x : Nat} {y : Int} (h : CD s M c m) (hx : x < 8) (y0 : 0 ≤ y) (y1 : y < (m : Int)) : CD (uh s 8 x y) (uh M 152 (63 + x) y) c m := by
  obtain ⟨k2, k8, k4, d0, d1, d2, d3, d4, d5, d6, d7, d8, d9⟩ := h
  refine ⟨k2, k8, k4, by rw [uh_row (by decide)]; exact d0, by rw [uh_row (by decide)]; exact d1, by rw [uh_row (by decide)]; exact d2, by rw [uh_row (by decide)]; exact d3, by rw [uh_ro _ _ _ _ (by omega)]; exact d4, by rw [uh_ro _ _ _ _ (by omega)]; exact d5, fun q hq => ?_, fun q hq => ?_, fun q hq => ?_, fun p hp => ?_⟩
  · rw [uh_row (p := 5) (by decide), uh_row (p := 6) (by decide), uh_row (p := 7) (by decide), uh_row (p := 11) (by decide)]; exact d6 q hq
  · obtain ⟨y1, y2, y3, y4, y5, y6⟩ := d7 q hq
    rw [uh_row (p := 9) (by decide), uh_ro (q := 55 + q) _ _ _ _ (by omega)]
    by_cases hqx : q = x
    · subst hqx; rw [uh_rc, uh_rc]; exact ⟨rfl, by omega, by omega, y4, y5, y6⟩
    · rw [uh_ro (q := q) _ _ _ _ hqx, uh_ro (q := 63 + q) _ _ _ _ (by omega)]; exact ⟨y1, y2, y3, y4, y5, y6⟩
  · rw [uh_row (p := 10) (by decide), uh_ro (q := 71 + q) _ _ _ _ (by omega)]; exact d8 q hq
  · rw [uh_row (p := 12) (by decide), uh_ro (q := 78 + p) _ _ _ _ (by omega)]; exact d9 p hp
theorem CD_worth {c m x : Nat} {y : Int} (h : CD s M c m) (hx : x < 8) (y0 : 0 ≤ y) (y1 : y ≤ 99) : CD (uh s 9 x y) (uh M 152 (55 + x) y) c m := by
  obtain ⟨k2, k8, k4, d0, d1, d2, d3, d4, d5, d6, d7, d8, d9⟩ := h
  refine ⟨k2, k8, k4, by rw [uh_row (by decide)]; exact d0, by rw [uh_row (by decide)]; exact d1, by rw [uh_row (by decide)]; exact d2, by rw [uh_row (by decide)]; exact d3, by rw [uh_ro _ _ _ _ (by omega)]; exact d4, by rw [uh_ro _ _ _ _ (by omega)]; exact d5, fun q hq => ?_, fun q hq => ?_, fun q hq => ?_, fun p hp => ?_⟩
  · rw [uh_row (p := 5) (by decide), uh_row (p := 6) (by decide), uh_row (p := 7) (by decide), uh_row (p := 11) (by decide)]; exact d6 q hq
  · obtain ⟨y1, y2, y3, y4, y5, y6⟩ := d7 q hq
    rw [uh_row (p := 8) (by decide), uh_ro (q := 63 + q) _ _ _ _ (by omega)]
    by_cases hqx : q = x
    · subst hqx; rw [uh_rc, uh_rc]; exact ⟨y1, y2, y3, rfl, by omega, by omega⟩
    · rw [uh_ro (q := q) _ _ _ _ hqx, uh_ro (q := 55 + q) _ _ _ _ (by omega)]; exact ⟨y1, y2, y3, y4, y5, y6⟩
  · rw [uh_row (p := 10) (by decide), uh_ro (q := 71 + q) _ _ _ _ (by omega)]; exact d8 q hq
  · rw [uh_row (p := 12) (by decide), uh_ro (q := 78 + p) _ _ _ _ (by omega)]; exact d9 p hp
theorem CD_crease {c m x : Nat} {y : Int} (h : CD s M c m) (hx : x < 7) (y0 : 0 ≤ y) (y1 : y ≤ 2) : CD (uh s 10 x y) (uh M 152 (71 + x) y) c m := by
  obtain ⟨k2, k8, k4, d0, d1, d2, d3, d4, d5, d6, d7, d8, d9⟩ := h
  refine ⟨k2, k8, k4, by rw [uh_row (by decide)]; exact d0, by rw [uh_row (by decide)]; exact d1, by rw [uh_row (by decide)]; exact d2, by rw [uh_row (by decide)]; exact d3, by rw [uh_ro _ _ _ _ (by omega)]; exact d4, by rw [uh_ro _ _ _ _ (by omega)]; exact d5, fun q hq => ?_, fun q hq => ?_, fun q hq => ?_, fun p hp => ?_⟩
  · rw [uh_row (p := 5) (by decide), uh_row (p := 6) (by decide), uh_row (p := 7) (by decide), uh_row (p := 11) (by decide)]; exact d6 q hq
  · rw [uh_row (p := 8) (by decide), uh_row (p := 9) (by decide), uh_ro (q := 63 + q) _ _ _ _ (by omega), uh_ro (q := 55 + q) _ _ _ _ (by omega)]; exact d7 q hq
  · by_cases hqx : q = x
    · subst hqx; rw [uh_rc, uh_rc]; exact ⟨rfl, by omega, by omega⟩
    · rw [uh_ro (q := q) _ _ _ _ hqx, uh_ro (q := 71 + q) _ _ _ _ (by omega)]; exact d8 q hq
  · rw [uh_row (p := 12) (by decide), uh_ro (q := 78 + p) _ _ _ _ (by omega)]; exact d9 p hp
theorem cc_owner {c m : Nat} (hb : TB T n) (h : RP T n s M) (hd : CD s M c m) : ∃ (s1 : Hp) (b : Int) (M1 : Hp), xc_readPair s 2 = some s1 ∧ ((xm_numberHere M 0 ((c : Int) - 1)).bind fun o5 => if w32 o5.1 = 0 then some (0, o5.2) else (xm_cellHere o5.2 (((63 : Nat) : Int) + (o5.2 146 10)) 0 ((m : Int) - 1)).bind fun o10 => if w32 o10.1 = 0 ∨ w32 o10.1 = 1 then some (o10.1, o10.2) else none) = some (b, M1) ∧ GE s s1 ∧ GM M M1 ∧ M1 146 14 = M 146 14 ∧ ((b = 1 ∧ RP T n s1 M1 ∧ CD s1 M1 c m) ∨ (b = 0 ∧ RF T n s1 M1)) := by
  obtain ⟨k2, k8, k4, d0, d1, -⟩ := id hd
  obtain ⟨v, s1, ⟨b, M1⟩, e1, fe, e2, hr⟩ := cc_two (base := 63) (hi1 := (c : Int) - 1) (lo2 := 0) (hi2 := ((m : Int) - 1)) hb h (by omega) (by omega) (by omega) (by omega) (by omega) (by omega) (by omega)
  rw [e2]
  unfold xc_readPair
  rw [if_neg (by decide)]
  unfold xc_readPair_j10
  rw [if_pos (by decide), d0]
  unfold xc_readPair_j38
  rw [e1]
  simp only [obs]
  have s41 : s1 4 1 = (m : Int) := by rw [fe 4 (by decide)]; exact d1
  rcases hr with ⟨r1, rf, fm⟩ | ⟨s13, x, y, s2, rfl, xb, g1, fe2, hr2⟩
  · replace r1 : b = 0 := r1
    replace rf : RF T n s1 M1 := rf
    replace fm : FMr M M1 := fm
    subst r1
    obtain ⟨tc, tm, f1, f2, f3, hp⟩ := id rf
    rw [cf_no f2 f3]
    simp only [obs]
    rw [if_neg (by decide)]
    exact ⟨s1, 0, M1, rfl, rfl, fun P h1 _ => fe P h1, ⟨fun P h1 _ => fm.1 P h1, fun q q1 q2 q3 _ => fm.2 q q1 q2 q3⟩, fm.2 14 (by decide) (by decide) (by decide), Or.inr ⟨rfl, rf⟩⟩
  · rw [cf_ok s13]
    simp only [obs]
    rw [if_pos (c := w32 0 = 0) (by decide)]
    rw [if_pos (by decide), if_pos trivial, s41, g1]
    simp only [obs]
    unfold xc_readPair_j92
    rcases hr2 with ⟨r1, rf, fm⟩ | ⟨r1, y0, y1, M2, r2, rp2, fm⟩
    · replace r1 : b = 0 := r1
      replace rf : RF T n s2 M1 := rf
      replace fm : FMr M M1 := fm
      subst r1
      obtain ⟨tc, tm, f1, f2, f3, hp⟩ := id rf
      rw [cf_no f2 f3]
      simp only [obs]
      rw [if_neg (by decide)]
      exact ⟨s2, 0, M1, rfl, rfl, fun P h1 _ => fe2 P h1, ⟨fun P h1 _ => fm.1 P h1, fun q q1 q2 q3 _ => fm.2 q q1 q2 q3⟩, fm.2 14 (by decide) (by decide) (by decide), Or.inr ⟨rfl, rf⟩⟩
    · replace r1 : b = 1 := r1
      replace r2 : M1 = uh M2 152 (63 + x) y := r2
      subst r1
      subst r2
      have hd2 : CD s2 M2 c m := CD_fr hd (fun P h1 _ => fe2 P (by omega)) (fm.1 152 (by decide))
      rw [cf_ok rp2.2.2.1]
      simp only [obs]
      rw [if_pos (c := w32 0 = 0) (by decide)]
      unfold xl_hasCell
      rw [hd2.2.2.2.1, w32_eq (x := (x : Int)) (by omega) (by omega), w32_eq (x := (c : Int)) (by omega) (by omega), if_neg (c := (x : Int) < 0) (by omega), if_pos (c := (x : Int) < (c : Int)) (by omega)]
      simp only [obs]
      rw [if_neg (c := w32 1 = 0) (by decide)]
      rw [if_pos (by decide), if_pos trivial, ixt x rfl (by omega) (by decide)]
      simp only [obs]
      refine ⟨_, 1, _, rfl, rfl, fun P h1 h2 => ?_, ⟨fun P h1 h2 => ?_, fun q q1 q2 q3 _ => ?_⟩, ?_, Or.inl ⟨rfl, RP_152 (RP_c rp2 (by decide) (by decide)), CD_owner hd2 (by omega) (by omega) (by omega)⟩⟩
      · rw [uh_row (by omega)]; exact fe2 P h1
      · rw [uh_row h2]; exact fm.1 P h1
      · rw [uh_row (by decide)]; exact fm.2 q q1 q2 q3
      · rw [uh_row (by decide)]; exact fm.2 14 (by decide) (by decide) (by decide)
theorem cc_crease {c m : Nat} (hb : TB T n) (h : RP T n s M) (hd : CD s M c m) : ∃ (s1 : Hp) (b : Int) (M1 : Hp), xc_readPair s 3 = some s1 ∧ ((xm_numberHere M 0 ((c : Int) - 2)).bind fun o5 => if w32 o5.1 = 0 then some (0, o5.2) else (xm_cellHere o5.2 (((71 : Nat) : Int) + (o5.2 146 10)) 1 2).bind fun o10 => if w32 o10.1 = 0 ∨ w32 o10.1 = 1 then some (o10.1, o10.2) else none) = some (b, M1) ∧ GE s s1 ∧ GM M M1 ∧ M1 146 14 = M 146 14 ∧ ((b = 1 ∧ RP T n s1 M1 ∧ CD s1 M1 c m) ∨ (b = 0 ∧ RF T n s1 M1)) := by
  obtain ⟨k2, k8, k4, d0, d1, -⟩ := id hd
  obtain ⟨v, s1, ⟨b, M1⟩, e1, fe, e2, hr⟩ := cc_two (base := 71) (hi1 := (c : Int) - 2) (lo2 := 1) (hi2 := 2) hb h (by omega) (by omega) (by omega) (by omega) (by omega) (by omega) (by omega)
  rw [e2]
  unfold xc_readPair
  rw [if_pos rfl]
  unfold xc_readPair_j10
  rw [if_neg (by decide), d0]
  unfold xc_readPair_j38
  rw [e1]
  simp only [obs]
  have s41 : s1 4 1 = (m : Int) := by rw [fe 4 (by decide)]; exact d1
  rcases hr with ⟨r1, rf, fm⟩ | ⟨s13, x, y, s2, rfl, xb, g1, fe2, hr2⟩
  · replace r1 : b = 0 := r1
    replace rf : RF T n s1 M1 := rf
    replace fm : FMr M M1 := fm
    subst r1
    obtain ⟨tc, tm, f1, f2, f3, hp⟩ := id rf
    rw [cf_no f2 f3]
    simp only [obs]
    rw [if_neg (by decide)]
    exact ⟨s1, 0, M1, rfl, rfl, fun P h1 _ => fe P h1, ⟨fun P h1 _ => fm.1 P h1, fun q q1 q2 q3 _ => fm.2 q q1 q2 q3⟩, fm.2 14 (by decide) (by decide) (by decide), Or.inr ⟨rfl, rf⟩⟩
  · rw [cf_ok s13]
    simp only [obs]
    rw [if_pos (c := w32 0 = 0) (by decide)]
    rw [if_neg (by decide), g1]
    simp only [obs]
    unfold xc_readPair_j92
    rcases hr2 with ⟨r1, rf, fm⟩ | ⟨r1, y0, y1, M2, r2, rp2, fm⟩
    · replace r1 : b = 0 := r1
      replace rf : RF T n s2 M1 := rf
      replace fm : FMr M M1 := fm
      subst r1
      obtain ⟨tc, tm, f1, f2, f3, hp⟩ := id rf
      rw [cf_no f2 f3]
      simp only [obs]
      rw [if_neg (by decide)]
      exact ⟨s2, 0, M1, rfl, rfl, fun P h1 _ => fe2 P h1, ⟨fun P h1 _ => fm.1 P h1, fun q q1 q2 q3 _ => fm.2 q q1 q2 q3⟩, fm.2 14 (by decide) (by decide) (by decide), Or.inr ⟨rfl, rf⟩⟩
    · replace r1 : b = 1 := r1
      replace r2 : M1 = uh M2 152 (71 + x) y := r2
      subst r1
      subst r2
      have hd2 : CD s2 M2 c m := CD_fr hd (fun P h1 _ => fe2 P (by omega)) (fm.1 152 (by decide))
      rw [cf_ok rp2.2.2.1]
      simp only [obs]
      rw [if_pos (c := w32 0 = 0) (by decide)]
      unfold xl_hasCell
      rw [hd2.2.2.2.1, w32_eq (x := (x : Int)) (by omega) (by omega), w32_eq (x := (c : Int)) (by omega) (by omega), if_neg (c := (x : Int) < 0) (by omega), if_pos (c := (x : Int) < (c : Int)) (by omega)]
      simp only [obs]
      rw [if_neg (c := w32 1 = 0) (by decide)]
      rw [if_neg (by decide), ixt x rfl (by omega) (by decide)]
      simp only [obs]
      refine ⟨_, 1, _, rfl, rfl, fun P h1 h2 => ?_, ⟨fun P h1 h2 => ?_, fun q q1 q2 q3 _ => ?_⟩, ?_, Or.inl ⟨rfl, RP_152 (RP_c rp2 (by decide) (by decide)), CD_crease hd2 (by omega) (by omega) (by omega)⟩⟩
      · rw [uh_row (by omega)]; exact fe2 P h1
      · rw [uh_row h2]; exact fm.1 P h1
      · rw [uh_row (by decide)]; exact fm.2 q q1 q2 q3
      · rw [uh_row (by decide)]; exact fm.2 14 (by decide) (by decide) (by decide)
theorem cc_worth {c m : Nat} (hb : TB T n) (h : RP T n s M) (hd : CD s M c m) : ∃ (s1 : Hp) (b : Int) (M1 : Hp), xc_readPair s 4 = some s1 ∧ ((xm_numberHere M 0 ((c : Int) - 1)).bind fun o5 => if w32 o5.1 = 0 then some (0, o5.2) else (xm_cellHere o5.2 (((55 : Nat) : Int) + (o5.2 146 10)) 0 99).bind fun o10 => if w32 o10.1 = 0 ∨ w32 o10.1 = 1 then some (o10.1, o10.2) else none) = some (b, M1) ∧ GE s s1 ∧ GM M M1 ∧ M1 146 14 = M 146 14 ∧ ((b = 1 ∧ RP T n s1 M1 ∧ CD s1 M1 c m) ∨ (b = 0 ∧ RF T n s1 M1)) := by
  obtain ⟨k2, k8, k4, d0, d1, -⟩ := id hd
  obtain ⟨v, s1, ⟨b, M1⟩, e1, fe, e2, hr⟩ := cc_two (base := 55) (hi1 := (c : Int) - 1) (lo2 := 0) (hi2 := 99) hb h (by omega) (by omega) (by omega) (by omega) (by omega) (by omega) (by omega)
  rw [e2]
  unfold xc_readPair
  rw [if_neg (by decide)]
  unfold xc_readPair_j10
  rw [if_pos (by decide), d0]
  unfold xc_readPair_j38
  rw [e1]
  simp only [obs]
  have s41 : s1 4 1 = (m : Int) := by rw [fe 4 (by decide)]; exact d1
  rcases hr with ⟨r1, rf, fm⟩ | ⟨s13, x, y, s2, rfl, xb, g1, fe2, hr2⟩
  · replace r1 : b = 0 := r1
    replace rf : RF T n s1 M1 := rf
    replace fm : FMr M M1 := fm
    subst r1
    obtain ⟨tc, tm, f1, f2, f3, hp⟩ := id rf
    rw [cf_no f2 f3]
    simp only [obs]
    rw [if_neg (by decide)]
    exact ⟨s1, 0, M1, rfl, rfl, fun P h1 _ => fe P h1, ⟨fun P h1 _ => fm.1 P h1, fun q q1 q2 q3 _ => fm.2 q q1 q2 q3⟩, fm.2 14 (by decide) (by decide) (by decide), Or.inr ⟨rfl, rf⟩⟩
  · rw [cf_ok s13]
    simp only [obs]
    rw [if_pos (c := w32 0 = 0) (by decide)]
    rw [if_pos (by decide), if_neg (by decide), g1]
    simp only [obs]
    unfold xc_readPair_j92
    rcases hr2 with ⟨r1, rf, fm⟩ | ⟨r1, y0, y1, M2, r2, rp2, fm⟩
    · replace r1 : b = 0 := r1
      replace rf : RF T n s2 M1 := rf
      replace fm : FMr M M1 := fm
      subst r1
      obtain ⟨tc, tm, f1, f2, f3, hp⟩ := id rf
      rw [cf_no f2 f3]
      simp only [obs]
      rw [if_neg (by decide)]
      exact ⟨s2, 0, M1, rfl, rfl, fun P h1 _ => fe2 P h1, ⟨fun P h1 _ => fm.1 P h1, fun q q1 q2 q3 _ => fm.2 q q1 q2 q3⟩, fm.2 14 (by decide) (by decide) (by decide), Or.inr ⟨rfl, rf⟩⟩
    · replace r1 : b = 1 := r1
      replace r2 : M1 = uh M2 152 (55 + x) y := r2
      subst r1
      subst r2
      have hd2 : CD s2 M2 c m := CD_fr hd (fun P h1 _ => fe2 P (by omega)) (fm.1 152 (by decide))
      rw [cf_ok rp2.2.2.1]
      simp only [obs]
      rw [if_pos (c := w32 0 = 0) (by decide)]
      unfold xl_hasCell
      rw [hd2.2.2.2.1, w32_eq (x := (x : Int)) (by omega) (by omega), w32_eq (x := (c : Int)) (by omega) (by omega), if_neg (c := (x : Int) < 0) (by omega), if_pos (c := (x : Int) < (c : Int)) (by omega)]
      simp only [obs]
      rw [if_neg (c := w32 1 = 0) (by decide)]
      rw [if_pos (by decide), if_neg (by decide), ixt x rfl (by omega) (by decide)]
      simp only [obs]
      refine ⟨_, 1, _, rfl, rfl, fun P h1 h2 => ?_, ⟨fun P h1 h2 => ?_, fun q q1 q2 q3 _ => ?_⟩, ?_, Or.inl ⟨rfl, RP_152 (RP_c rp2 (by decide) (by decide)), CD_worth hd2 (by omega) (by omega) (by omega)⟩⟩
      · rw [uh_row (by omega)]; exact fe2 P h1
      · rw [uh_row h2]; exact fm.1 P h1
      · rw [uh_row (by decide)]; exact fm.2 q q1 q2 q3
      · rw [uh_row (by decide)]; exact fm.2 14 (by decide) (by decide) (by decide)
end CQ
