/-! tests, both sides -/
section TE
variable {T : Nat → Int} {n t : Nat} {C1 C2 : Hp → Int → Option Hp}
noncomputable def lpt (C1 C2 : Hp → Int → Option Hp) (x2 : Int) (q : Int × Int × Int × Hp) : Option Hp := (lp (fun (q : Int × Int × Int × Hp) => xr_readTest_b8 C1 C2 q.2.2.2 x2 q.1 q.2.1 q.2.2.1) q).bind fun q1 => q1.elim (fun q5 => some q5.2.2.2) (fun r => some r)
theorem lpt_un (x2 x3 x4 x5 : Int) (s : Hp) : lpt C1 C2 x2 (x3, x4, x5, s) = (xr_readTest_b8 C1 C2 s x2 x3 x4 x5).bind (lpcr (lpt C1 C2 x2)) := by
  unfold lpt
  rw [lp_un]
  show ((xr_readTest_b8 C1 C2 s x2 x3 x4 x5).bind _).bind _ = _
  cases xr_readTest_b8 C1 C2 s x2 x3 x4 x5 with
  | none => rfl
  | some r =>
    cases r with
    | inl q => rfl
    | inr q => rfl
theorem CX_tw {s : Hp} {ti : Nat} {w : List Nat} (hb : TB T n) (h : CF T n s) (hsp : spls ti 0 [w]) : ∃ b s1, xt_takesWord s ti = some (b, s1) ∧ CX T n s s1 := by
  obtain ⟨h1, h2, h3, ⟨i, hi, hin⟩, h5, h6⟩ := id h
  have cw := ct_word (ws := [w]) hb h1 hi hin hsp (by show 1 < 100; decide)
  have ew : wix T i (skp (isL T) n i) 0 [w] = if wEq T i (skp (isL T) n i) w then 0 else -1 := rfl
  unfold xt_takesWord
  by_cases hq : wEq T i (skp (isL T) n i) w
  · rw [cw, ew, if_pos hq]
    simp only [obs]
    rw [if_neg (c := w32 0 = w32 (-1)) (by decide), if_neg (c := (0 : Int) = -1) (by decide)]
    exact ⟨_, _, rfl, CX_2 h (skp_le (skp_le hin))⟩
  · rw [cw, ew, if_neg hq]
    simp only [obs]
    rw [if_pos trivial, if_pos trivial]
    exact ⟨_, _, rfl, CX_rf h⟩
theorem CX_lpt {s : Hp} {x2 x3 x4 x5 : Int} (h : CF T n s) : lpt C1 C2 x2 (x3, x4, x5, s) = some s := by
  rw [lpt_un]
  unfold xr_readTest_b8
  rw [cf_no h.2.1 h.2.2.1]
  simp only [obs]
  rw [if_neg (c := w32 1 = 0) (by decide), ite_sm]
  rfl
theorem CX_t65 {s : Hp} {x2 x4 x5 : Int} (hb : TB T n) (h : CF T n s) : ∃ s1, (xr_readTest_b8_j65 C1 C2 s x2 x4 x5).bind (lpcr (lpt C1 C2 x2)) = some s1 ∧ CX T n s s1 := by
  obtain ⟨b, s1, a1, a2⟩ := CX_tw hb h spl_or
  unfold xr_readTest_b8_j65
  rw [a1]
  simp only [obs]
  split
  · exact ⟨s1, rfl, a2⟩
  · exact ⟨s1, CX_lpt a2.1, a2⟩
theorem CX_t39 {s : Hp} {x2 x3 x5 : Int} (hb : TB T n) (h : CF T n s) : ∃ s1, (xr_readTest_b8_j39 C1 C2 s x2 x3 x5).bind (lpcr (lpt C1 C2 x2)) = some s1 ∧ CX T n s s1 := by
  obtain ⟨b, s1, a1, a2⟩ := CX_tw hb h spl_and
  unfold xr_readTest_b8_j39
  rw [a1]
  simp only [obs]
  split
  · split
    · obtain ⟨s2, b1, b2⟩ := CX_t65 (C1 := C1) (C2 := C2) (x2 := x2) (x4 := b) (x5 := x5) hb a2.1
      exact ⟨s2, b1, CX_tr a2 b2⟩
    · obtain ⟨s3, d1, d2⟩ := CX_add (c := 16) a2.1
      rw [d1]
      simp only [obs]
      obtain ⟨s2, b1, b2⟩ := CX_t65 (C1 := C1) (C2 := C2) (x2 := x2) (x4 := b) (x5 := x5) hb d2.1
      exact ⟨s2, b1, CX_tr a2 (CX_tr d2 b2)⟩
  · exact ⟨s1, CX_lpt a2.1, a2⟩
/-- truths that lie below -/
def tP (a o : Bool) (b : List Bool) : List Bool := (if a then [true] else []) ++ ((if o then [true] else []) ++ b)
theorem tP_len (a o : Bool) (b : List Bool) : (tP a o b).length ≤ b.length + 2 := by
  cases a <;> cases o <;> (show _ ≤ _; simp [tP])
theorem ty_b {op : Nat} {b : List Bool} (h : op = 15 ∨ op = 16) : ty1 (op, 0) (true :: true :: b) = some (true :: b) := by
  rcases h with rfl | rfl <;> rfl
theorem tyE1 (a o : Bool) (b : List Bool) : tyT (tkl (pnd a false)) (true :: tP a o b) = some (true :: tP false o b) := by
  cases a with
  | true =>
    show (ty1 (15, 0) (true :: true :: tP false o b)).bind (tyT []) = _
    rw [ty_b (Or.inl rfl)]; rfl
  | false => rfl
theorem tyE2 (a o : Bool) (b : List Bool) : tyT (tkl (pnd a o)) (true :: tP a o b) = some (true :: b) := by
  cases a with
  | true =>
    cases o with
    | true =>
      show (ty1 (15, 0) (true :: true :: true :: b)).bind (tyT [(16, 0)]) = _
      rw [ty_b (Or.inl rfl)]
      show (ty1 (16, 0) (true :: true :: b)).bind (tyT []) = _
      rw [ty_b (Or.inr rfl)]; rfl
    | false =>
      show (ty1 (15, 0) (true :: true :: b)).bind (tyT []) = _
      rw [ty_b (Or.inl rfl)]; rfl
  | false =>
    cases o with
    | true =>
      show (ty1 (16, 0) (true :: true :: b)).bind (tyT []) = _
      rw [ty_b (Or.inr rfl)]; rfl
    | false => rfl
def noW (T : Nat → Int) (n p : Nat) (w : List Nat) : Prop := ¬ wEq T p (skp (isL T) n p) w
def bI (a : Bool) : Int := if a then 1 else 0
theorem tkl_len (p : List Nat) : (tkl p).length = p.length := List.length_map ..
/-- a sign of the class that waits is written -/
theorem KC_if {k op : Nat} {E : List Tok} {s : Hp} (a : Bool) (h : KC E k s) (hE : E.length < 400) : ∃ s1, (∀ {β : Type} (f : Hp → Option β), (if w32 (bI a) = 0 then f s else (xr_addStep s (op : Int)).bind f) = f s1) ∧ KC (E ++ (if a then [(op, 0)] else [])) k s1 ∧ (∀ P, P ≠ 13 → P ≠ 14 → s1 P = s P) := by
  cases a with
  | true =>
    obtain ⟨s1, a1, a2, a3⟩ := KC_add (op := op) (v := 0) (c := (op : Int)) h hE (by decide) (by omega)
    refine ⟨s1, fun f => ?_, a2, a3⟩
    show (if w32 1 = 0 then f s else _) = _
    rw [if_neg (by decide), a1]
    rfl
  | false =>
    refine ⟨s, fun f => ?_, ?_, fun _ _ _ => rfl⟩
    · show (if w32 0 = 0 then f s else _) = _
      rw [if_pos (by decide)]
    · show KC (E ++ []) k s
      rw [List.append_nil]; exact h
/-- the loop over facts -/
theorem tl_both {d : Nat} {base : List Int} (hb : TB T n) (hd : d ≤ 10) (hF : FactB T n t C2 d) (hbl : base.length ≤ 3 * d) (hbs : base = [] ∨ ∃ r, base = 91 :: r) : ∀ (g k : Nat) (E F : List Tok) (s M : Hp) (a o : Bool) (x5 : Nat), g = 60 - k → KR T n t k E F s M → KS (rpl (pnd a o) ++ base) d M → x5 ≤ k → ∃ s1, lpt C1 C2 (d : Int) (bI o, bI a, (x5 : Int), s) = some s1 ∧ HE s s1 ∧ ((∃ M1, tst M = some (0, M1) ∧ HT t M M1 ∧ KF T n s1 M1) ∨ (∃ M1 te k1 p, ∃ a1 o1 : Bool, tst M = aft M1 ∧ HT t M M1 ∧ KR T n t k1 (E ++ te ++ tkl (pnd a1 o1)) (F ++ te) s1 M1 ∧ KS (rpl (pnd a1 o1) ++ base) d M1 ∧ s1 1 2 = ((p : Nat) : Int) ∧ noAO T n p ∧ k + 3 ≤ k1 ∧ 3 * (te.length + (pnd a1 o1).length) + 9 + 3 * d ≤ 16 * (k1 - k) + 3 * (pnd a o).length ∧ ∀ b : List Bool, b.length ≤ 2 * d → tyT (te ++ tkl (pnd a1 o1)) (tP a o b) = some (true :: b))) := by
  intro g
  induction g using Nat.strongRecOn with
  | ind g ih =>
    intro k E F s M a o x5 hg kr ks hx
    have hb1 := hb.1
    have hpl := pnd_len a o
    obtain ⟨rp0, kc0, km0, ht, hk0, hpo0, hf0⟩ := id kr
    obtain ⟨s1, c1, c2, c3⟩ := hF k E F s M (rpl (pnd a o) ++ base) kr ks (by rw [List.length_append, rpl_len]; omega)
    have hbody : lpt C1 C2 (d : Int) (bI o, bI a, (x5 : Int), s) = (if w32 (bI a) = 0 then xr_readTest_b8_j39 C1 C2 s1 (d : Int) (bI o) (x5 : Int) else (xr_addStep s1 15).bind fun o12 => xr_readTest_b8_j39 C1 C2 o12 (d : Int) (bI o) (x5 : Int)).bind (lpcr (lpt C1 C2 (d : Int))) := by
      rw [lpt_un]
      unfold xr_readTest_b8
      rw [w32_eq (x := (x5 : Int)) (by omega) (by omega), show w32 60 = 60 by decide, if_neg (by omega), cf_ok rp0.2.2.1]
      simp only [obs]
      rw [if_pos (by decide), c1]
      rfl
    rw [hbody]
    rcases c3 with ⟨M1, d1, d2, d3⟩ | ⟨M1, te, k1, d1, d2, d3, d4, d5, d6, d7⟩
    · have hrest : ∃ s2, (if w32 (bI a) = 0 then xr_readTest_b8_j39 C1 C2 s1 (d : Int) (bI o) (x5 : Int) else (xr_addStep s1 15).bind fun o12 => xr_readTest_b8_j39 C1 C2 o12 (d : Int) (bI o) (x5 : Int)).bind (lpcr (lpt C1 C2 (d : Int))) = some s2 ∧ CX T n s1 s2 := by
        split
        · exact CX_t39 hb (KF_c d3)
        · obtain ⟨s3, f1, f2⟩ := CX_add (c := 15) (KF_c d3)
          rw [f1]
          simp only [obs]
          obtain ⟨s2, f3, f4⟩ := CX_t39 (C1 := C1) (C2 := C2) (x2 := (d : Int)) (x3 := bI o) (x5 := (x5 : Int)) hb f2.1
          exact ⟨s2, f3, CX_tr f2 f4⟩
      obtain ⟨s2, f1, f2⟩ := hrest
      rw [f1]
      exact ⟨s2, rfl, HE_tr c2 f2.2.2, Or.inl ⟨M1, d1, d2, KF_x d3 f2⟩⟩
    · obtain ⟨rp1, kc1, km1, -, hk1, hpo1, hf1⟩ := id d3
      have hEl : (E ++ te).length = E.length + te.length := List.length_append
      have hFl : (F ++ te).length = F.length + te.length := List.length_append
      -- an and that waits is written
      obtain ⟨s2, f1, f2, f3⟩ := KC_if (op := 15) a kc1 (by omega)
      have f1' := f1 (fun o12 => xr_readTest_b8_j39 C1 C2 o12 (d : Int) (bI o) (x5 : Int))
      have f1'' : (if w32 (bI a) = 0 then xr_readTest_b8_j39 C1 C2 s1 (d : Int) (bI o) (x5 : Int) else (xr_addStep s1 15).bind fun o12 => xr_readTest_b8_j39 C1 C2 o12 (d : Int) (bI o) (x5 : Int)) = xr_readTest_b8_j39 C1 C2 s2 (d : Int) (bI o) (x5 : Int) := f1'
      rw [f1'']
      have rp2 : RP T n s2 M1 := RP_rows rp1 (f3 1 (by decide) (by decide)) (f3 2 (by decide) (by decide)) (fun _ _ => rfl) rfl
      have hta : (if a then [((15 : Nat), (0 : Nat))] else []) = tkl (pnd a false) := by cases a <;> rfl
      rw [hta] at f2
      have hla : (pnd a o).length = (pnd a false).length + (pnd false o).length := by cases a <;> cases o <;> rfl
      have hla2 := pnd_len a false
      obtain ⟨p, p1, p2, p3, p5, p4, w1, w2, wn, wy⟩ := tw_both (ti := 5) (w := vAnd) (code := 6385252) hb rp2 spl_and (by decide) (by decide) (by decide +kernel)
      have e8 : uh M1 146 8 (p : Int) 146 8 = (p : Int) := uh_rc _ _ _ _
      unfold xr_readTest_b8_j39
      by_cases hw : wEq T p (skp (isL T) n p) vAnd
      · obtain ⟨e, e1, e2, e97, e3, e4⟩ := wy hw
        rw [tb_t hw] at w2
        rw [e3]
        simp only [obs]
        rw [if_neg (c := w32 1 = 0) (by decide)]
        obtain ⟨M2, g1, g2, g3, g4, g5, g6, g7⟩ := aft_and (p := p) (e := e) hb d4 km1 hbs (by omega) (by omega) ht (fun _ q => by omega) p4 w2 (e4 _ p5.2.1 e8)
        have kr2 : KR T n t k1 (E ++ te ++ tkl (pnd a false)) (F ++ te ++ tkl (pnd a false)) (uh s2 1 2 ((skp (isB T) n e : Nat) : Int)) M2 := by
          refine ⟨⟨TC_u rp2.1 (by decide), ⟨by rw [g6 1 (by decide) (by decide) (by decide)]; exact rp2.2.1.1, fun j hj => by rw [g7 147 (by decide) (by decide) (by decide) (by decide)]; exact rp2.2.1.2 j hj⟩, by rw [uh_ro _ _ _ _ (by decide)]; exact rp2.2.2.1, by rw [g6 9 (by decide) (by decide) (by decide)]; exact rp2.2.2.2.1, e, g5, e1, uh_rc _ _ _ _⟩, KC_1 f2, g3, ht, hk1, ?_, ?_⟩
          · rw [List.length_append, hEl, tkl_len]; omega
          · rw [List.length_append, List.length_append (as := E ++ te), hEl, hFl]; omega
        obtain ⟨s3, i1, i2, i3⟩ := ih (60 - k1) (by omega) k1 _ _ _ _ true o (x5 + 1) rfl kr2 g2 (by omega)
        have i1' : lpt C1 C2 (d : Int) (bI o, 1, (x5 : Int) + 1, uh s2 1 2 ((skp (isB T) n e : Nat) : Int)) = some s3 := by
          rw [show (x5 : Int) + 1 = ((x5 + 1 : Nat) : Int) by omega]; exact i1
        refine ⟨s3, i1', HE_tr c2 (HE_tr (fun P _ x y => f3 P x y) (HE_tr HE_1 i2)), ?_⟩
        rcases i3 with ⟨M3, j1, j2, j3⟩ | ⟨M3, tf, k2, q, a1, o1, j1, j2, j3, j4, j5, j6, j7, j8, j9⟩
        · exact Or.inl ⟨M3, d1.trans (g1.trans j1), HT_tr d2 (HT_tr g4 j2), j3⟩
        · refine Or.inr ⟨M3, te ++ (tkl (pnd a false) ++ tf), k2, q, a1, o1, d1.trans (g1.trans j1), HT_tr d2 (HT_tr g4 j2), ?_, j4, j5, j6, by omega, ?_, fun b hb2 => ?_⟩
          · have q1 : E ++ (te ++ (tkl (pnd a false) ++ tf)) = E ++ te ++ tkl (pnd a false) ++ tf := by rw [List.append_assoc, List.append_assoc]
            have q2 : F ++ (te ++ (tkl (pnd a false) ++ tf)) = F ++ te ++ tkl (pnd a false) ++ tf := by rw [List.append_assoc, List.append_assoc]
            rw [q1, q2]; exact j3
          · rw [List.length_append, List.length_append, tkl_len]
            have : (pnd true o).length = 1 + (pnd false o).length := by cases o <;> rfl
            omega
          · have t1 := d7 (tP a o b) (by have := tP_len a o b; omega)
            rw [List.append_assoc, List.append_assoc, tyT_app t1, tyT_app (tyE1 a o b)]
            exact j9 b hb2
      · rw [wn hw]
        rw [tb_f hw] at w2
        replace hw : noW T n p vAnd := hw
        clear wn wy
        simp only [obs]
        rw [if_pos (c := w32 0 = 0) (by decide)]
        -- an or that waits is written
        obtain ⟨s4, f4, f5, f6⟩ := KC_if (op := 16) o f2 (by rw [List.length_append, tkl_len]; omega)
        have f4' := f4 (fun o7 => xr_readTest_b8_j65 C1 C2 o7 (d : Int) 0 (x5 : Int))
        have f4'' : (if w32 (bI o) = 0 then xr_readTest_b8_j65 C1 C2 s2 (d : Int) 0 (x5 : Int) else (xr_addStep s2 16).bind fun o7 => xr_readTest_b8_j65 C1 C2 o7 (d : Int) 0 (x5 : Int)) = xr_readTest_b8_j65 C1 C2 s4 (d : Int) 0 (x5 : Int) := f4'
        rw [f4'']
        have htb : E ++ te ++ tkl (pnd a false) ++ (if o then [((16 : Nat), (0 : Nat))] else []) = E ++ te ++ tkl (pnd a o) := by
          rw [List.append_assoc (E ++ te)]
          congr 1
          cases a <;> cases o <;> rfl
        rw [htb] at f5
        have rp4 : RP T n s4 M1 := RP_rows rp2 (f6 1 (by decide) (by decide)) (f6 2 (by decide) (by decide)) (fun _ _ => rfl) rfl
        obtain ⟨p', p1', p2', p3', p5', p4', w1', w2', wn', wy'⟩ := tw_both (ti := 6) (w := vOr) (code := 28530) hb rp4 spl_or (by decide) (by decide) (by decide +kernel)
        have hpp : p' = p := by
          have : s4 1 2 = s2 1 2 := by rw [f6 1 (by decide) (by decide)]
          omega
        subst hpp
        have he4 : HE s s4 := HE_tr c2 (HE_tr (fun P _ x y => f3 P x y) (fun P _ x y => f6 P x y))
        unfold xr_readTest_b8_j65
        by_cases hw2 : wEq T p' (skp (isL T) n p') vOr
        · obtain ⟨e, e1, e2, e97, e3, e4⟩ := wy' hw2
          rw [tb_t hw2] at w2'
          rw [e3]
          simp only [obs]
          rw [if_neg (c := w32 1 = 0) (by decide)]
          obtain ⟨M2, g1, g2, g3, g4, g5, g6, g7⟩ := aft_or (p := p') (e := e) hb d4 km1 hbs (by omega) (by omega) ht (fun _ q => by omega) p4 w2 w2' (e4 _ p5'.2.1 e8)
          have kr2 : KR T n t k1 (E ++ te ++ tkl (pnd a o)) (F ++ te ++ tkl (pnd a o)) (uh s4 1 2 ((skp (isB T) n e : Nat) : Int)) M2 := by
            refine ⟨⟨TC_u rp4.1 (by decide), ⟨by rw [g6 1 (by decide) (by decide) (by decide)]; exact rp4.2.1.1, fun j hj => by rw [g7 147 (by decide) (by decide) (by decide) (by decide)]; exact rp4.2.1.2 j hj⟩, by rw [uh_ro _ _ _ _ (by decide)]; exact rp4.2.2.1, by rw [g6 9 (by decide) (by decide) (by decide)]; exact rp4.2.2.2.1, e, g5, e1, uh_rc _ _ _ _⟩, KC_1 f5, g3, ht, hk1, ?_, ?_⟩
            · rw [List.length_append, hEl, tkl_len]; omega
            · rw [List.length_append, List.length_append (as := E ++ te), hEl, hFl]; omega
          obtain ⟨s3, i1, i2, i3⟩ := ih (60 - k1) (by omega) k1 _ _ _ _ false true (x5 + 1) rfl kr2 g2 (by omega)
          have i1' : lpt C1 C2 (d : Int) (1, 0, (x5 : Int) + 1, uh s4 1 2 ((skp (isB T) n e : Nat) : Int)) = some s3 := by
            rw [show (x5 : Int) + 1 = ((x5 + 1 : Nat) : Int) by omega]; exact i1
          refine ⟨s3, i1', HE_tr he4 (HE_tr HE_1 i2), ?_⟩
          rcases i3 with ⟨M3, j1, j2, j3⟩ | ⟨M3, tf, k2, q, a1, o1, j1, j2, j3, j4, j5, j6, j7, j8, j9⟩
          · exact Or.inl ⟨M3, d1.trans (g1.trans j1), HT_tr d2 (HT_tr g4 j2), j3⟩
          · refine Or.inr ⟨M3, te ++ (tkl (pnd a o) ++ tf), k2, q, a1, o1, d1.trans (g1.trans j1), HT_tr d2 (HT_tr g4 j2), ?_, j4, j5, j6, by omega, ?_, fun b hb2 => ?_⟩
            · have q1 : E ++ (te ++ (tkl (pnd a o) ++ tf)) = E ++ te ++ tkl (pnd a o) ++ tf := by rw [List.append_assoc, List.append_assoc]
              have q2 : F ++ (te ++ (tkl (pnd a o) ++ tf)) = F ++ te ++ tkl (pnd a o) ++ tf := by rw [List.append_assoc, List.append_assoc]
              rw [q1, q2]; exact j3
            · rw [List.length_append, List.length_append, tkl_len]
              have : (pnd false true).length = 1 := rfl
              omega
            · have t1 := d7 (tP a o b) (by have := tP_len a o b; omega)
              rw [List.append_assoc, List.append_assoc, tyT_app t1, tyT_app (tyE2 a o b)]
              exact j9 b hb2
        · rw [wn' hw2]
          replace hw2 : noW T n p' vOr := hw2
          clear wn' wy'
          simp only [obs]
          rw [if_pos (c := w32 0 = 0) (by decide)]
          refine ⟨s4, rfl, he4, Or.inr ⟨M1, te, k1, p', a, o, d1, d2, ⟨rp4, f5, km1, ht, hk1, ?_, ?_⟩, d4, p2', ⟨hw, hw2⟩, d5, by omega, fun b hb2 => ?_⟩⟩
          · rw [List.length_append, hEl, tkl_len]; omega
          · rw [List.length_append (as := E ++ te), hEl, hFl]; omega
          · have t1 := d7 (tP a o b) (by have := tP_len a o b; omega)
            rw [tyT_app t1]
            exact tyE2 a o b
theorem test_step {d : Nat} (hb : TB T n) (hd : d ≤ 10) (hF : FactB T n t C2 d) : TestB T n t (fun s p => xr_readTest_b C1 C2 s p) d := by
  intro k E F s M base kr ks hbl hbs
  obtain ⟨s1, a1, a2, a3⟩ := tl_both (C1 := C1) hb hd hF hbl hbs (60 - k) k E F s M false false 0 rfl kr ks (Nat.zero_le _)
  exact ⟨s1, a1, a2, a3⟩
/-- facts and tests at every depth -/
theorem rc_both (hb : TB T n) : ∀ (g d : Nat), d ≤ 10 → (2 * (10 - d) + 1 ≤ g → FactB T n t (RC51 g).2 d) ∧ (2 * (10 - d) + 2 ≤ g → TestB T n t (RC51 g).1 d) := by
  intro g
  induction g with
  | zero =>
    intro d hd
    exact ⟨fun h => by omega, fun h => by omega⟩
  | succ g ih =>
    intro d hd
    refine ⟨fun h => ?_, fun h => ?_⟩
    · exact fact_step hb hd (fun h1 => (ih (d + 1) (by omega)).2 (by omega)) (fun h1 => (ih (d + 1) (by omega)).1 (by omega))
    · exact test_step hb hd ((ih d hd).1 (by omega))
end TE
