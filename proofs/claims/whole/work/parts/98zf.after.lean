/-! a test of the reference: what is done behind a fact -/
noncomputable def tendR (m : Hp) : Option (Int × Hp) := (xm_isInside m).bind fun o15 => if w32 o15 = 0 then (xm_settles m 1).bind fun o20 => some (1, o20) else (xm_see m).bind fun o24 => (xm_fails o24.2 0 (o24.2 146 8)).bind fun o28 => if w32 o28.1 = 0 ∨ w32 o28.1 = 1 then some (o28.1, o28.2) else none
noncomputable def elT (r : (Int × Hp) ⊕ (Int × Hp)) : Option (Int × Hp) := r.elim (fun q13 => tendR q13.2) (fun r => some r)
noncomputable def tstL (q : Int × Hp) : Option (Int × Hp) := (lp (fun (q : Int × Hp) => xm_tested_b12 q.2 q.1) q).bind elT
noncomputable def tst (M : Hp) : Option (Int × Hp) := tstL (1, M)
noncomputable def lres (r : (Int × Hp) ⊕ ((Int × Hp) ⊕ (Int × Hp))) : Option (Int × Hp) := r.elim tstL elT
noncomputable def b12c (o7 : Hp) : Option ((Int × Hp) ⊕ ((Int × Hp) ⊕ (Int × Hp))) := (xm_isWord o7 6385252).bind fun o11 => if w32 o11.1 = 0 then (xm_isWord o11.2 28530).bind fun o16 => if w32 o16.1 = 0 then xm_tested_b12_j54 o16.2 0 else xm_tested_b12_j54 o16.2 1 else xm_tested_b12_j54 o11.2 1
noncomputable def aftC (o7 : Hp) : Option (Int × Hp) := (b12c o7).bind lres
noncomputable def aft (M : Hp) : Option (Int × Hp) := (xm_closes M).bind aftC
theorem tstL_un (x : Int) (M : Hp) : tstL (x, M) = (xm_tested_b12 M x).bind lres := by
  unfold tstL
  rw [lp_un]
  cases xm_tested_b12 M x with
  | none => rfl
  | some r =>
    cases r with
    | inl q => rfl
    | inr q => rfl
theorem tst_0 {M M1 : Hp} (h : xm_fact M = some (0, M1)) : tst M = some (0, M1) := by
  unfold tst
  rw [tstL_un]
  unfold xm_tested_b12
  rw [if_neg (by decide), h]
  simp only [obs]
  rw [if_pos (by decide)]
  rfl
theorem tst_1 {M M1 : Hp} (h : xm_fact M = some (1, M1)) : tst M = aft M1 := by
  unfold tst
  rw [tstL_un]
  unfold xm_tested_b12
  rw [if_neg (by decide), h]
  simp only [obs]
  rw [if_neg (by decide)]
  unfold aft
  cases xm_closes M1 with
  | none => rfl
  | some o => rfl
theorem tst_cg {M M1 : Hp} (h : xm_fact M = xm_fact M1) : tst M = tst M1 := by
  unfold tst
  rw [tstL_un, tstL_un]
  unfold xm_tested_b12
  rw [h, if_neg (by decide), if_neg (by decide)]
section AF
variable {T : Nat → Int} {n t k d : Nat} {E F : List Tok} {s M : Hp} {st : List Int}
/-- a not that waits is settled -/
theorem aft_not (h : KS (11 :: st) d M) (km : KM t F k M) (hl : st.length < 400) (hF : F.length < 400) (ht : t < 6) (hd : 0 < d) : ∃ M1, aft M = aft M1 ∧ KS st (d - 1) M1 ∧ KM t (F ++ [(2, 0)]) k M1 ∧ HT t M M1 ∧ (∀ q, q ≠ 13 → q ≠ 16 → M1 146 q = M 146 q) ∧ ∀ P, P ≠ 146 → P ≠ 148 → P ≠ 149 → M1 P = M P := by
  obtain ⟨M1, a1, a2, a3, a4, a5, a6⟩ := st_pop (op := 2) (x := 3) (st := st) h km hl hF ht (by decide) (by decide) (by decide) (fun _ => hd)
  refine ⟨M1, ?_, a2, a3, a4, a5, a6⟩
  unfold aft xm_closes
  rw [a1]
/-- nothing is closed here -/
theorem cl_stop {p : Nat} (hb : TB T n) (h : KS st d M) (hl : st.length < 400) (hs : st = [] ∨ ∃ c r, st = c :: r ∧ 0 ≤ c ∧ c ≤ 100 ∧ str c < 3) (hsee : xm_see M = some (if p < n then T p else -1, uh M 146 8 (p : Int))) (hc : p < n → T p = 93 → ¬ (91 : Int) ∈ st) : xm_closes M = some (uh M 146 8 (p : Int)) := by
  have key : xm_closes_b5 M = some (.inr (uh M 146 8 (p : Int))) := by
    unfold xm_closes_b5
    rw [hsee]
    simp only [obs]
    by_cases hq : w32 (if p < n then T p else -1) = w32 93
    · rw [if_pos hq]
      have h93 : p < n ∧ T p = 93 := by
        by_cases hp : p < n
        · have tbp := hb.2 p hp
          rw [if_pos hp, w32_eq (x := T p) (by omega) (by omega), show w32 93 = 93 by decide] at hq
          exact ⟨hp, hq⟩
        · rw [if_neg hp] at hq
          exact absurd hq (by decide)
      rw [in_no (KS_8 h) hl (hc h93.1 h93.2)]
      simp only [obs]
      rw [if_pos (by decide)]
    · rw [if_neg hq]
  unfold xm_closes
  rw [st_stop h hl (by decide) hs]
  simp only [obs]
  rw [lp_en (B := fun (q : Hp) => xm_closes_b5 q) (s := M) key]
  rfl
theorem pnd_in {a o : Bool} {op : Nat} (h : op ∈ pnd a o) : op = 15 ∨ op = 16 := by
  unfold pnd at h
  rcases List.mem_append.mp h with h | h
  · split at h
    · left; exact List.mem_singleton.mp h
    · exact absurd h List.not_mem_nil
  · split at h
    · right; exact List.mem_singleton.mp h
    · exact absurd h List.not_mem_nil
theorem pnd_len (a o : Bool) : (pnd a o).length ≤ 2 := by
  cases a <;> cases o <;> decide
theorem pnd_top {a o : Bool} {base : List Int} (hb : base = [] ∨ ∃ r, base = 91 :: r) : rpl (pnd a o) ++ base = [] ∨ ∃ c r, rpl (pnd a o) ++ base = c :: r ∧ 0 ≤ c ∧ c ≤ 100 ∧ str c < 3 := by
  cases a with
  | true => exact Or.inr ⟨12, _, rfl, by decide, by decide, by decide⟩
  | false =>
    cases o with
    | true => exact Or.inr ⟨13, _, rfl, by decide, by decide, by decide⟩
    | false =>
      rcases hb with rfl | ⟨r, rfl⟩
      · exact Or.inl rfl
      · exact Or.inr ⟨91, r, rfl, by decide, by decide, by decide⟩
theorem rpl_len (p : List Nat) : (rpl p).length = p.length := List.length_map ..
/-- a ']' closes its '[' -/
theorem aft_close {p : Nat} {a o : Bool} (hb : TB T n) (h : KS (rpl (pnd a o) ++ (91 :: st)) (d + 1) M) (km : KM t F k M) (hl : st.length < 390) (hF : F.length < 390) (ht : t < 6) (hp : p < n) (hc : T p = 93) (hsee : xm_see M = some (if p < n then T p else -1, uh M 146 8 (p : Int))) : ∃ M1, aft M = aft M1 ∧ KS st d M1 ∧ KM t (F ++ tkl (pnd a o)) k M1 ∧ HT t M M1 ∧ M1 146 8 = ((p + 1 : Nat) : Int) ∧ (∀ q, q ≠ 8 → q ≠ 13 → q ≠ 16 → M1 146 q = M 146 q) ∧ ∀ P, P ≠ 146 → P ≠ 148 → P ≠ 149 → M1 P = M P := by
  have hpl := pnd_len a o
  have hlen : (rpl (pnd a o) ++ (91 :: st)).length = (pnd a o).length + (st.length + 1) := by rw [List.length_append, rpl_len, List.length_cons]
  obtain ⟨Ma, a1, a2, a3, a4, a5, a6⟩ := st_run (t := t) (k := k) (d := d + 1) (st := 91 :: st) (x := 1) ht (by decide) (pnd a o) F (uh M 146 8 (p : Int)) (fun op hop => ⟨pnd_in hop, by rcases pnd_in hop with rfl | rfl <;> decide⟩) (KS_8 h) (KM_8 km (by decide)) (by rw [List.length_cons]; omega) (by omega) (Or.inr ⟨91, st, rfl, by decide, by decide, by decide⟩)
  obtain ⟨k1, k2, k3, k4⟩ := a2
  have hcl : ((91 : Int) :: st).length = st.length + 1 := rfl
  have e16 : Ma 146 16 - 1 = (st.length : Int) := by rw [k1, hcl]; omega
  have e13 : Ma 146 13 - 1 = (d : Int) := by rw [k3]; omega
  have e8 : Ma 146 8 = (p : Int) := by rw [a5 8 (by decide) (by decide), uh_rc]
  have x13 : uh Ma 146 16 (st.length : Int) 146 13 - 1 = (d : Int) := by rw [uh_ro _ _ _ _ (by decide)]; exact e13
  have x8 : uh (uh Ma 146 16 (st.length : Int)) 146 13 (d : Int) 146 8 + 1 = ((p + 1 : Nat) : Int) := by rw [uh_ro _ _ _ _ (by decide), uh_ro _ _ _ _ (by decide), e8]; omega
  have key : xm_closes_b5 M = (xm_settles (uh (uh (uh Ma 146 16 (st.length : Int)) 146 13 (d : Int)) 146 8 ((p + 1 : Nat) : Int)) 3).bind fun o27 => some (.inl o27) := by
    unfold xm_closes_b5
    rw [hsee, if_pos hp]
    simp only [obs]
    rw [if_pos (by rw [hc]), in_yes (KS_8 h) (by omega) (List.mem_append_right _ (List.mem_cons_self ..))]
    simp only [obs]
    rw [if_neg (by decide), a1]
    simp only [obs]
    rw [e16, x13, x8]
  refine ⟨uh (uh (uh Ma 146 16 (st.length : Int)) 146 13 (d : Int)) 146 8 ((p + 1 : Nat) : Int), ?_, ?_, ?_, ?_, uh_rc _ _ _ _, fun q q1 q2 q3 => ?_, fun P p1 p2 p3 => ?_⟩
  · unfold aft xm_closes
    rw [st_stop h (by omega) (by decide) (pnd_top (Or.inr ⟨st, rfl⟩))]
    simp only [obs]
    rw [lp_un]
    show (((xm_closes_b5 M).bind _).bind _).bind _ = _
    rw [key]
    cases xm_settles (uh (uh (uh Ma 146 16 (st.length : Int)) 146 13 (d : Int)) 146 8 ((p + 1 : Nat) : Int)) 3 with
    | none => rfl
    | some o => rfl
  · refine ⟨?_, ?_, ?_, fun c hc => k4 c (List.mem_cons_of_mem _ hc)⟩
    · rw [uh_ro _ _ _ _ (by decide), uh_ro _ _ _ _ (by decide), uh_rc]
    · rw [uh_row (by decide), uh_row (by decide), uh_row (by decide)]; exact k2.2
    · rw [uh_ro _ _ _ _ (by decide), uh_rc]
  · exact KM_8 (KM_8 (KM_8 a3 (by decide)) (by decide)) (by decide)
  · exact HT_tr (HT_1 (q := 8) (v := (p : Int)) (by omega)) (HT_tr a4 (HT_tr (HT_1 (by omega)) (HT_tr (HT_1 (by omega)) (HT_1 (by omega)))))
  · rw [uh_ro _ _ _ _ q1, uh_ro _ _ _ _ q2, uh_ro _ _ _ _ q3, a5 q q2 q3, uh_ro _ _ _ _ q1]
  · rw [uh_row p1, uh_row p1, uh_row p1, a6 P p1 p2 p3, uh_row p1]
/-- and comes next -/
theorem aft_and {p e : Nat} {a o : Bool} {base : List Int} (hb : TB T n) (h : KS (rpl (pnd a o) ++ base) d M) (km : KM t F k M) (hbs : base = [] ∨ ∃ r, base = 91 :: r) (hl : base.length < 390) (hF : F.length < 390) (ht : t < 6) (hT : p < n → T p ≠ 93) (hsee : xm_see M = some (if p < n then T p else -1, uh M 146 8 (p : Int))) (hw : xm_isWord (uh M 146 8 (p : Int)) 6385252 = some (1, uh M 146 8 (p : Int))) (hpass : xm_passWord (uh M 146 8 (p : Int)) = some (uh (uh M 146 8 (p : Int)) 146 8 (e : Int))) : ∃ M1, aft M = tst M1 ∧ KS (rpl (pnd true o) ++ base) d M1 ∧ KM t (F ++ tkl (pnd a false)) k M1 ∧ HT t M M1 ∧ M1 146 8 = (e : Int) ∧ (∀ q, q ≠ 8 → q ≠ 13 → q ≠ 16 → M1 146 q = M 146 q) ∧ ∀ P, P ≠ 146 → P ≠ 148 → P ≠ 149 → P ≠ 153 → M1 P = M P := by
  have hpl := pnd_len a o
  have hlen : (rpl (pnd a o) ++ base).length = (pnd a o).length + base.length := by rw [List.length_append, rpl_len]
  have hcl := cl_stop (p := p) hb h (by omega) (pnd_top hbs) hsee (fun h1 h2 => absurd h2 (hT h1))
  rw [uh_uh] at hpass
  have hrest : rpl (pnd a o) ++ base = rpl (pnd a false) ++ (rpl (pnd false o) ++ base) := by
    cases a <;> cases o <;> rfl
  have hr8 : KS (rpl (pnd a false) ++ (rpl (pnd false o) ++ base)) d (uh M 146 8 (e : Int)) := by rw [← hrest]; exact KS_8 h
  have hl3 : (rpl (pnd false o) ++ base).length = (pnd false o).length + base.length := by rw [List.length_append, rpl_len]
  have hpl2 := pnd_len a false
  have hpl3 := pnd_len false o
  obtain ⟨Ma, a1, a2, a3, a4, a5, a6⟩ := st_run (t := t) (k := k) (d := d) (st := rpl (pnd false o) ++ base) (x := 2) ht (by decide) (pnd a false) F (uh M 146 8 (e : Int)) (fun op hop => by
    cases a with
    | true =>
      have : op = 15 := List.mem_singleton.mp hop
      subst this
      exact ⟨Or.inl rfl, by decide⟩
    | false => exact absurd hop List.not_mem_nil) hr8 (KM_8 km (by decide)) (by omega) (by omega) (by
    cases o with
    | true => exact Or.inr ⟨13, base, rfl, by decide, by decide, by decide⟩
    | false =>
      rcases hbs with rfl | ⟨r, rfl⟩
      · exact Or.inl rfl
      · exact Or.inr ⟨91, r, rfl, by decide, by decide, by decide⟩)
  have e16 : Ma 146 16 = ((rpl (pnd false o) ++ base).length : Int) := a2.1
  have x16 : ∀ i c, uh Ma 153 i c 146 16 = ((rpl (pnd false o) ++ base).length : Int) := fun i c => by rw [uh_row (by decide)]; exact e16
  have j76 : xm_tested_b12_j76 (uh M 146 8 (p : Int)) 1 12 = some (.inl (1, uh (uh Ma 153 (rpl (pnd false o) ++ base).length 12) 146 16 (((rpl (pnd false o) ++ base).length : Int) + 1))) := by
    unfold xm_tested_b12_j76
    rw [hpass, rm_str (c := 12) (by decide) (by decide), show str 12 = 2 by decide]
    simp only [obs]
    rw [a1]
    simp only [obs]
    rw [e16, ixt (n := 400) (j := ((rpl (pnd false o) ++ base).length : Int)) (rpl (pnd false o) ++ base).length rfl (by omega) (by decide)]
    simp only [obs]
    rw [x16]
  refine ⟨uh (uh Ma 153 (rpl (pnd false o) ++ base).length 12) 146 16 (((rpl (pnd false o) ++ base).length : Int) + 1), ?_, KS_push (c := 12) a2 (by decide), KM_8 (KM_row a3 (fun q _ => by rw [uh_row (by decide)]) (uh_row (by decide)) (uh_row (by decide))) (by decide), ?_, ?_, fun q q1 q2 q3 => ?_, fun P p1 p2 p3 p4 => ?_⟩
  · unfold aft
    rw [hcl]
    show (b12c (uh M 146 8 (p : Int))).bind lres = _
    have hb12 : b12c (uh M 146 8 (p : Int)) = some (.inl (1, uh (uh Ma 153 (rpl (pnd false o) ++ base).length 12) 146 16 (((rpl (pnd false o) ++ base).length : Int) + 1))) := by
      unfold b12c
      rw [hw]
      simp only [obs]
      rw [if_neg (by decide)]
      unfold xm_tested_b12_j54
      rw [if_neg (by decide), hw]
      simp only [obs]
      rw [if_neg (by decide)]
      exact j76
    rw [hb12]
    rfl
  · exact HT_tr (HT_1 (q := 8) (v := (e : Int)) (by omega)) (HT_tr a4 (HT_tr HT_153 (HT_1 (by omega))))
  · rw [uh_ro _ _ _ _ (by decide), uh_row (by decide), a5 8 (by decide) (by decide), uh_rc]
  · rw [uh_ro _ _ _ _ q3, uh_row (by decide), a5 q q2 q3, uh_ro _ _ _ _ q1]
  · rw [uh_row p1, uh_row p4, a6 P p1 p2 p3, uh_row p1]
/-- or comes next -/
theorem aft_or {p e : Nat} {a o : Bool} {base : List Int} (hb : TB T n) (h : KS (rpl (pnd a o) ++ base) d M) (km : KM t F k M) (hbs : base = [] ∨ ∃ r, base = 91 :: r) (hl : base.length < 390) (hF : F.length < 390) (ht : t < 6) (hT : p < n → T p ≠ 93) (hsee : xm_see M = some (if p < n then T p else -1, uh M 146 8 (p : Int))) (hn : xm_isWord (uh M 146 8 (p : Int)) 6385252 = some (0, uh M 146 8 (p : Int))) (hw : xm_isWord (uh M 146 8 (p : Int)) 28530 = some (1, uh M 146 8 (p : Int))) (hpass : xm_passWord (uh M 146 8 (p : Int)) = some (uh (uh M 146 8 (p : Int)) 146 8 (e : Int))) : ∃ M1, aft M = tst M1 ∧ KS (rpl (pnd false true) ++ base) d M1 ∧ KM t (F ++ tkl (pnd a o)) k M1 ∧ HT t M M1 ∧ M1 146 8 = (e : Int) ∧ (∀ q, q ≠ 8 → q ≠ 13 → q ≠ 16 → M1 146 q = M 146 q) ∧ ∀ P, P ≠ 146 → P ≠ 148 → P ≠ 149 → P ≠ 153 → M1 P = M P := by
  have hpl := pnd_len a o
  have hlen : (rpl (pnd a o) ++ base).length = (pnd a o).length + base.length := by rw [List.length_append, rpl_len]
  have hcl := cl_stop (p := p) hb h (by omega) (pnd_top hbs) hsee (fun h1 h2 => absurd h2 (hT h1))
  rw [uh_uh] at hpass
  obtain ⟨Ma, a1, a2, a3, a4, a5, a6⟩ := st_run (t := t) (k := k) (d := d) (st := base) (x := 1) ht (by decide) (pnd a o) F (uh M 146 8 (e : Int)) (fun op hop => ⟨pnd_in hop, by rcases pnd_in hop with rfl | rfl <;> decide⟩) (KS_8 h) (KM_8 km (by decide)) (by omega) (by omega) (by
      rcases hbs with rfl | ⟨r, rfl⟩
      · exact Or.inl rfl
      · exact Or.inr ⟨91, r, rfl, by decide, by decide, by decide⟩)
  have e16 : Ma 146 16 = (base.length : Int) := a2.1
  have x16 : ∀ i c, uh Ma 153 i c 146 16 = (base.length : Int) := fun i c => by rw [uh_row (by decide)]; exact e16
  have j76 : xm_tested_b12_j76 (uh M 146 8 (p : Int)) 1 13 = some (.inl (1, uh (uh Ma 153 base.length 13) 146 16 ((base.length : Int) + 1))) := by
    unfold xm_tested_b12_j76
    rw [hpass, rm_str (c := 13) (by decide) (by decide), show str 13 = 1 by decide]
    simp only [obs]
    rw [a1]
    simp only [obs]
    rw [e16, ixt (n := 400) (j := (base.length : Int)) base.length rfl (by omega) (by decide)]
    simp only [obs]
    rw [x16]
  refine ⟨uh (uh Ma 153 base.length 13) 146 16 ((base.length : Int) + 1), ?_, KS_push (c := 13) a2 (by decide), KM_8 (KM_row a3 (fun q _ => by rw [uh_row (by decide)]) (uh_row (by decide)) (uh_row (by decide))) (by decide), ?_, ?_, fun q q1 q2 q3 => ?_, fun P p1 p2 p3 p4 => ?_⟩
  · unfold aft
    rw [hcl]
    show (b12c (uh M 146 8 (p : Int))).bind lres = _
    have hb12 : b12c (uh M 146 8 (p : Int)) = some (.inl (1, uh (uh Ma 153 base.length 13) 146 16 ((base.length : Int) + 1))) := by
      unfold b12c
      rw [hn]
      simp only [obs]
      rw [if_pos (by decide), hw]
      simp only [obs]
      rw [if_neg (by decide)]
      unfold xm_tested_b12_j54
      rw [if_neg (by decide), hn]
      simp only [obs]
      rw [if_pos (by decide)]
      exact j76
    rw [hb12]
    rfl
  · exact HT_tr (HT_1 (q := 8) (v := (e : Int)) (by omega)) (HT_tr a4 (HT_tr HT_153 (HT_1 (by omega))))
  · rw [uh_ro _ _ _ _ (by decide), uh_row (by decide), a5 8 (by decide) (by decide), uh_rc]
  · rw [uh_ro _ _ _ _ q3, uh_row (by decide), a5 q q2 q3, uh_ro _ _ _ _ q1]
  · rw [uh_row p1, uh_row p4, a6 P p1 p2 p3, uh_row p1]
/-- neither comes: the test is at its end -/
theorem aft_end {p : Nat} {a o : Bool} {base : List Int} (hb : TB T n) (h : KS (rpl (pnd a o) ++ base) d M) (hbs : base = [] ∨ ∃ r, base = 91 :: r) (hl : base.length < 390) (hT : p < n → T p = 93 → base = []) (hsee : xm_see M = some (if p < n then T p else -1, uh M 146 8 (p : Int))) (hn : xm_isWord (uh M 146 8 (p : Int)) 6385252 = some (0, uh M 146 8 (p : Int))) (hw : xm_isWord (uh M 146 8 (p : Int)) 28530 = some (0, uh M 146 8 (p : Int))) : aft M = tendR (uh M 146 8 (p : Int)) := by
  have hpl := pnd_len a o
  have hlen : (rpl (pnd a o) ++ base).length = (pnd a o).length + base.length := by rw [List.length_append, rpl_len]
  have hcl := cl_stop (p := p) hb h (by omega) (pnd_top hbs) hsee (fun h1 h2 hm => by
    have := hT h1 h2
    subst this
    rw [List.append_nil] at hm
    cases a <;> cases o <;> revert hm <;> decide)
  unfold aft
  rw [hcl]
  show (b12c (uh M 146 8 (p : Int))).bind lres = _
  have hb12 : b12c (uh M 146 8 (p : Int)) = some (.inl (0, uh M 146 8 (p : Int))) := by
    unfold b12c
    rw [hn]
    simp only [obs]
    rw [if_pos (by decide), hw]
    simp only [obs]
    rw [if_pos (by decide)]
    unfold xm_tested_b12_j54
    rw [if_pos (by decide)]
  rw [hb12]
  show tstL (0, _) = _
  rw [tstL_un]
  unfold xm_tested_b12
  rw [if_pos (by decide)]
  rfl
end AF
