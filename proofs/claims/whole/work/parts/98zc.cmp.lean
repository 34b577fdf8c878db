/-! comparisons, both sides -/
def cmpE (T : Nat → Int) (n p : Nat) : Option (Nat × Nat) := if p < n then (if T p = 61 then some (12, p + 1) else if T p = 60 then (if p + 1 < n ∧ T (p + 1) = 61 then some (11, p + 2) else some (10, p + 1)) else if T p = 62 then (if p + 1 < n ∧ T (p + 1) = 61 then some (13, p + 2) else some (14, p + 1)) else none) else none
theorem cmpE_b {T : Nat → Int} {n p op e : Nat} (h : cmpE T n p = some (op, e)) : 10 ≤ op ∧ op ≤ 14 ∧ e ≤ n ∧ p < e := by
  unfold cmpE at h
  split at h
  · split at h
    · have := Option.some.inj h
      have h1 := congrArg Prod.fst this
      have h2 := congrArg Prod.snd this
      simp only at h1 h2
      omega
    · split at h
      · split at h
        · rename_i hq
          have := Option.some.inj h
          have h1 := congrArg Prod.fst this
          have h2 := congrArg Prod.snd this
          simp only at h1 h2
          have := hq.1
          omega
        · have := Option.some.inj h
          have h1 := congrArg Prod.fst this
          have h2 := congrArg Prod.snd this
          simp only at h1 h2
          omega
      · split at h
        · split at h
          · rename_i hq
            have := Option.some.inj h
            have h1 := congrArg Prod.fst this
            have h2 := congrArg Prod.snd this
            simp only at h1 h2
            have := hq.1
            omega
          · have := Option.some.inj h
            have h1 := congrArg Prod.fst this
            have h2 := congrArg Prod.snd this
            simp only at h1 h2
            omega
        · cases h
  · cases h
section CP
variable {T : Nat → Int} {n t k : Nat} {E F : List Tok} {s M : Hp}
theorem ct_cmp {p : Nat} (hb : TB T n) (h : TC T n s) (hp : s 1 2 = (p : Int)) (hpn : p ≤ n) : xt_takeComparison s = some (match cmpE T n p with | some q => ((q.1 : Int), uh s 1 2 ((skp (isB T) n q.2 : Nat) : Int)) | none => (-1, s)) := by
  have hb1 := hb.1
  have j104 : ∀ (c x : Int) (e : Nat), e ≤ n → xt_takeComparison_j104 (uh s 1 2 (e : Int)) c x = (if w32 c = w32 61 then some (12, uh s 1 2 ((skp (isB T) n e : Nat) : Int)) else if w32 c = w32 60 then if w32 x = 0 then some (10, uh s 1 2 ((skp (isB T) n e : Nat) : Int)) else some (11, uh s 1 2 ((skp (isB T) n e : Nat) : Int)) else if w32 x = 0 then some (14, uh s 1 2 ((skp (isB T) n e : Nat) : Int)) else some (13, uh s 1 2 ((skp (isB T) n e : Nat) : Int))) := by
    intro c x e he
    unfold xt_takeComparison_j104
    rw [ct_blanks hb (TC_u (q := 2) (v := (e : Int)) h (by decide)) (uh_rc _ _ _ _) he, uh_uh]
    rfl
  unfold xt_takeComparison
  rw [hp, h.1, w32_eq (x := (p : Int)) (by omega) (by omega), w32_eq (x := (n : Int)) (by omega) (by omega)]
  by_cases hq : p < n
  · have tbp := hb.2 p hq
    rw [if_pos (by omega), ixt (n := 400) (j := (p : Int)) p rfl (by omega) (by decide)]
    simp only [obs]
    rw [h.2, w32_eq (x := T p) (by omega) (by omega), show w32 60 = 60 by decide, show w32 61 = 61 by decide, show w32 62 = 62 by decide]
    have j43 : xt_takeComparison_j43 s (T p) = if T p = 61 then xt_takeComparison_j104 (uh s 1 2 ((p + 1 : Nat) : Int)) (T p) 0 else if p + 1 < n ∧ T (p + 1) = 61 then xt_takeComparison_j104 (uh s 1 2 ((p + 2 : Nat) : Int)) (T p) 1 else xt_takeComparison_j104 (uh s 1 2 ((p + 1 : Nat) : Int)) (T p) 0 := by
      have j89a : ∀ N : Hp, xt_takeComparison_j89 N (T p) 0 = xt_takeComparison_j104 N (T p) 0 := fun N => by
        unfold xt_takeComparison_j89
        rw [if_pos (by decide)]
      have j89b : xt_takeComparison_j89 (uh s 1 2 ((p + 1 : Nat) : Int)) (T p) 1 = xt_takeComparison_j104 (uh s 1 2 ((p + 2 : Nat) : Int)) (T p) 1 := by
        unfold xt_takeComparison_j89
        rw [if_neg (by decide)]
        simp only [obs]
        rw [uh_rc, uh_uh, show ((p + 1 : Nat) : Int) + 1 = ((p + 2 : Nat) : Int) by omega]
      unfold xt_takeComparison_j43
      simp only [obs]
      rw [hp, show (p : Int) + 1 = ((p + 1 : Nat) : Int) by omega, uh_rc, j89a, j89b, uh_ro _ _ _ _ (by decide), h.1, w32_eq (x := T p) (by omega) (by omega), show w32 61 = 61 by decide, w32_eq (x := ((p + 1 : Nat) : Int)) (by omega) (by omega), w32_eq (x := (n : Int)) (by omega) (by omega)]
      by_cases c61 : T p = 61
      · rw [if_pos c61, if_pos c61]
      · rw [if_neg c61, if_neg c61]
        by_cases hq1 : p + 1 < n
        · have tb1 := hb.2 (p + 1) hq1
          rw [if_pos (by omega), ixt (n := 400) (j := ((p + 1 : Nat) : Int)) (p + 1) rfl (by omega) (by decide)]
          simp only [obs]
          rw [uh_row (p := 2) (by decide), h.2, w32_eq (x := T (p + 1)) (by omega) (by omega)]
          by_cases c2 : T (p + 1) = 61
          · rw [if_pos c2, if_pos ⟨hq1, c2⟩]
          · rw [if_neg c2, if_neg (fun x => c2 x.2)]
        · rw [if_neg (by omega), if_neg (fun x => hq1 x.1)]
    unfold cmpE
    rw [j43, if_pos hq, j104 _ _ (p + 1) (by omega), w32_eq (x := T p) (by omega) (by omega), show w32 60 = 60 by decide, show w32 61 = 61 by decide]
    by_cases c61 : T p = 61
    · rw [if_neg (c := T p = 60) (by omega)]
      simp only [if_pos c61]
      rfl
    · simp only [if_neg c61]
      by_cases c60 : T p = 60
      · simp only [if_pos c60]
        by_cases hh : p + 1 < n ∧ T (p + 1) = 61
        · rw [if_pos hh, if_pos hh, j104 _ _ (p + 2) (by omega), if_neg (by rw [w32_eq (x := T p) (by omega) (by omega), show w32 61 = 61 by decide]; exact c61), if_pos (by rw [c60]), if_neg (by decide)]
          rfl
        · rw [if_neg hh, if_neg hh, if_pos (by decide)]
          rfl
      · simp only [if_neg c60]
        by_cases c62 : T p = 62
        · simp only [if_pos c62]
          by_cases hh : p + 1 < n ∧ T (p + 1) = 61
          · rw [if_pos hh, if_pos hh, j104 _ _ (p + 2) (by omega), if_neg (by rw [w32_eq (x := T p) (by omega) (by omega), show w32 61 = 61 by decide]; exact c61), if_neg (by rw [w32_eq (x := T p) (by omega) (by omega), show w32 60 = 60 by decide]; exact c60), if_neg (by decide)]
            rfl
          · rw [if_neg hh, if_neg hh, if_pos (by decide)]
            rfl
        · simp only [if_neg c62]
  · rw [if_neg (by omega)]
    unfold cmpE
    rw [if_neg hq]
/-- the reference behind a first sum -/
noncomputable def cmpR (M : Hp) : Option (Int × Hp) := (xm_see M).bind fun o6 => if w32 o6.1 = w32 60 then xm_compare_j44 o6.2 o6.1 (o6.2 146 8) else if w32 o6.1 = w32 61 then xm_compare_j44 o6.2 o6.1 (o6.2 146 8) else if w32 o6.1 = w32 62 then xm_compare_j44 o6.2 o6.1 (o6.2 146 8) else (xm_fails o6.2 0 (o6.2 146 8)).bind fun o13 => if w32 o13.1 = 0 ∨ w32 o13.1 = 1 then some (o13.1, o13.2) else none
theorem rm_cmp {p : Nat} (hb : TB T n) (h : RP T n s M) (hp : s 1 2 = (p : Int)) (hpn : p ≤ n) : cmpR M = match cmpE T n p with | some q => ((xm_makes (uh M 146 8 ((q.2 : Nat) : Int)) (p : Int)).bind fun o1 => if w32 o1.1 = 0 then some (0, o1.2) else xm_compare_j152 o1.2 ((rop q.1 : Nat) - 6 : Int)) | none => some (0, uh (uh M 146 8 (p : Int)) 146 9 (1 + 8 * (p : Int) + 0)) := by
  have hb1 := hb.1
  obtain ⟨p', p1, p2, p3, p4, p5⟩ := RP_see hb h
  have hpp : p' = p := by omega
  subst hpp
  have e8 : uh M 146 8 (p' : Int) 146 8 = (p' : Int) := uh_rc _ _ _ _
  have tmp := p5.2.1
  unfold cmpR
  rw [p4]
  simp only [obs]
  rw [e8]
  by_cases hq : p' < n
  · have tbp := hb.2 p' hq
    rw [if_pos hq, w32_eq (x := T p') (by omega) (by omega), show w32 60 = 60 by decide, show w32 61 = 61 by decide, show w32 62 = 62 by decide]
    have j44 : T p' ≤ 100 → xm_compare_j44 (uh M 146 8 (p' : Int)) (T p') (p' : Int) = if T p' = 61 then xm_compare_j105 (uh M 146 8 ((p' + 1 : Nat) : Int)) (T p') (p' : Int) 0 else if p' + 1 < n ∧ T (p' + 1) = 61 then xm_compare_j105 (uh M 146 8 ((p' + 2 : Nat) : Int)) (T p') (p' : Int) 1 else xm_compare_j105 (uh M 146 8 ((p' + 1 : Nat) : Int)) (T p') (p' : Int) 0 := by
      intro hT
      have j90a : ∀ N : Hp, xm_compare_j90 N (T p') (p' : Int) 0 = xm_compare_j105 N (T p') (p' : Int) 0 := fun N => by
        unfold xm_compare_j90
        rw [if_pos (by decide)]
      have j90b : xm_compare_j90 (uh M 146 8 ((p' + 1 : Nat) : Int)) (T p') (p' : Int) 1 = xm_compare_j105 (uh M 146 8 ((p' + 2 : Nat) : Int)) (T p') (p' : Int) 1 := by
        unfold xm_compare_j90
        rw [if_neg (by decide)]
        simp only [obs]
        rw [uh_rc, uh_uh, show ((p' + 1 : Nat) : Int) + 1 = ((p' + 2 : Nat) : Int) by omega]
      unfold xm_compare_j44
      simp only [obs]
      rw [e8, uh_uh, show (p' : Int) + 1 = ((p' + 1 : Nat) : Int) by omega, uh_rc, j90a, j90b, uh_ro _ _ _ _ (by decide), h.2.1.1, w32_eq (x := T p') (by omega) (by omega), show w32 61 = 61 by decide, w32_eq (x := ((p' + 1 : Nat) : Int)) (by omega) (by omega), w32_eq (x := (n : Int)) (by omega) (by omega)]
      by_cases c61 : T p' = 61
      · rw [if_pos c61, if_pos c61]
      · rw [if_neg c61, if_neg c61]
        by_cases hq1 : p' + 1 < n
        · have tb1 := hb.2 (p' + 1) hq1
          rw [if_pos (by omega), ixt (n := 400) (j := ((p' + 1 : Nat) : Int)) (p' + 1) rfl (by omega) (by decide)]
          simp only [obs]
          rw [uh_row (p := 147) (by decide), h.2.1.2 _ hq1, w32_w8 tb1.1 tb1.2]
          by_cases c2 : T (p' + 1) = 61
          · rw [if_pos (c := (if T (p' + 1) < 128 then T (p' + 1) else T (p' + 1) - 256) = 61) (by rw [if_pos (by omega)]; exact c2), if_pos ⟨hq1, c2⟩]
          · rw [if_neg (c := (if T (p' + 1) < 128 then T (p' + 1) else T (p' + 1) - 256) = 61) (by split <;> omega), if_neg (fun x => c2 x.2)]
        · rw [if_neg (by omega), if_neg (fun x => hq1 x.1)]
    have j105 : ∀ (e : Nat) (x k0 : Int), (∀ N : Hp, (if T p' = 60 then if w32 x = 0 then xm_compare_j152 N 0 else xm_compare_j152 N 1 else if T p' = 61 then xm_compare_j152 N 2 else if w32 x = 0 then xm_compare_j152 N 4 else xm_compare_j152 N 3) = xm_compare_j152 N k0) → xm_compare_j105 (uh M 146 8 (e : Int)) (T p') (p' : Int) x = (xm_makes (uh M 146 8 (e : Int)) (p' : Int)).bind fun o1 => if w32 o1.1 = 0 then some (0, o1.2) else xm_compare_j152 o1.2 k0 := by
      intro e x k0 hk
      unfold xm_compare_j105
      rw [w32_eq (x := T p') (by omega) (by omega), show w32 60 = 60 by decide, show w32 61 = 61 by decide]
      cases xm_makes (uh M 146 8 (e : Int)) (p' : Int) with
      | none => rfl
      | some o =>
        simp only [obs]
        rw [hk o.2]
    unfold cmpE
    rw [if_pos hq]
    by_cases c61 : T p' = 61
    · rw [if_neg (c := T p' = 60) (by omega), if_pos c61, j44 (by omega), if_pos c61]
      simp only [if_pos c61]
      exact j105 (p' + 1) 0 2 (fun N => by rw [if_neg (by omega), if_pos c61])
    · simp only [if_neg c61]
      by_cases c60 : T p' = 60
      · simp only [if_pos c60]
        rw [j44 (by omega), if_neg c61]
        by_cases hh : p' + 1 < n ∧ T (p' + 1) = 61
        · rw [if_pos hh, if_pos hh]
          exact j105 (p' + 2) 1 1 (fun N => by rw [if_pos c60, if_neg (by decide)])
        · rw [if_neg hh, if_neg hh]
          exact j105 (p' + 1) 0 0 (fun N => by rw [if_pos c60, if_pos (by decide)])
      · simp only [if_neg c60]
        by_cases c62 : T p' = 62
        · simp only [if_pos c62]
          rw [j44 (by omega), if_neg c61]
          by_cases hh : p' + 1 < n ∧ T (p' + 1) = 61
          · rw [if_pos hh, if_pos hh]
            exact j105 (p' + 2) 1 3 (fun N => by rw [if_neg c60, if_neg c61, if_neg (by decide)])
          · rw [if_neg hh, if_neg hh]
            exact j105 (p' + 1) 0 4 (fun N => by rw [if_neg c60, if_neg c61, if_pos (by decide)])
        · simp only [if_neg c62]
          rw [rm_fails p5.2.2.2.1]
          simp only [obs]
          rw [if_pos (Or.inl (by decide))]
  · rw [if_neg hq, if_neg (by decide), if_neg (by decide), if_neg (by decide), rm_fails p5.2.2.2.1]
    unfold cmpE
    rw [if_neg hq]
    simp only [obs]
    rw [if_pos (Or.inl (by decide))]
theorem CX_cmp (hb : TB T n) (h : CF T n s) : ∃ v s1, xr_takeComparison s = some (v, s1) ∧ CX T n s s1 := by
  obtain ⟨h1, h2, h3, ⟨i, hi, hin⟩, h5, h6⟩ := id h
  unfold xr_takeComparison xt_where
  simp only [obs]
  rw [ct_cmp hb h1 hi hin]
  simp only [obs]
  cases hc : cmpE T n i with
  | none =>
    simp only
    rw [if_pos trivial]
    unfold xt_failHere
    rw [xf_same h2 h3]
    exact ⟨_, _, rfl, CX_rf h⟩
  | some q =>
    obtain ⟨op, e⟩ := q
    obtain ⟨b1, b2, b3, b4⟩ := cmpE_b hc
    simp only
    rw [if_neg (by rw [w32_eq (x := (op : Int)) (by omega) (by omega), show w32 (-1) = -1 by decide]; omega)]
    have hx := CX_2 (v := skp (isB T) n e) h (skp_le b3)
    obtain ⟨s2, d1, d2⟩ := CX_count (c := s 1 2) hx.1
    rw [d1]
    exact ⟨_, _, rfl, CX_tr hx d2⟩
end CP
