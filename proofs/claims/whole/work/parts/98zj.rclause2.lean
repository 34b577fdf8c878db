/-! the clause of a rule, whole, both sides -/
section RD
variable {T : Nat → Int} {n t : Nat} {s M : Hp}
theorem tested_tst (M : Hp) : xm_tested M = tst (uh (uh M 146 16 0) 146 13 0) := rfl
theorem encC_1 (R : List Cls) (sm : List Tok) : encC (R ++ [(sm, none)]) = encC R ++ sm ++ [(3, 0)] := by
  rw [encC_app, List.append_assoc]; rfl
theorem encC_2 (R : List Cls) (sm te : List Tok) : encC (R ++ [(sm, some te)]) = encC R ++ sm ++ te ++ [(4, 0)] := by
  rw [encC_app, List.append_assoc, List.append_assoc]; rfl
theorem sgC_1 (R : List Cls) (sm : List Tok) : sgC (R ++ [(sm, none)]) = sgC R ++ sm := by
  rw [sgC_app]
  show sgC R ++ (sm ++ []) = _
  rw [List.append_nil]
theorem sgC_2 (R : List Cls) (sm te : List Tok) : sgC (R ++ [(sm, some te)]) = sgC R ++ sm ++ te := by
  rw [sgC_app]
  show sgC R ++ (sm ++ (te ++ [])) = _
  rw [List.append_nil, List.append_assoc]
theorem rr_clause {k : Nat} (hb : TB T n) (hk : k ≤ 12) (rp : RP T n s M) (jr : JR T n t k s M) : ∃ (s1 : Hp) (b : Int) (M1 : Hp), xr_readClause s (k : Int) = some s1 ∧ xm_clauseHere M = some (b, M1) ∧ HE s s1 ∧ HR t M M1 ∧ ((b = 1 ∧ RP T n s1 M1 ∧ JR T n t (k + 1) s1 M1 ∧ k < 12) ∨ (b = 0 ∧ RF T n s1 M1)) := by
  have hb1 := hb.1
  obtain ⟨R, z, hR, kr, hp, hI, h151, h14, hw⟩ := jr
  obtain ⟨-, kc, km, ht6, hz, hpo, hf⟩ := id kr
  obtain ⟨p, p1, p2, p3, p5, p4, w1, w2, wn, wy⟩ := tw_both (ti := 1) (w := vPrice) (code := 482955846501) hb rp spl_price (by decide) (by decide) (by decide +kernel)
  unfold xr_readClause xm_clauseHere xt_where
  rw [p4]
  simp only [obs]
  have e8 : uh M 146 8 (p : Int) 146 8 = (p : Int) := uh_rc _ _ _ _
  have m9p := p5.2.2.2.1
  have m11 : uh M 146 8 (p : Int) 146 11 = (t : Int) := by rw [uh_ro _ _ _ _ (by decide)]; exact km.1
  have m14 : uh M 146 8 (p : Int) 146 14 = (k : Int) := by rw [uh_ro _ _ _ _ (by decide)]; exact h14
  rw [m11, if_neg (by rw [w32_eq (x := (t : Int)) (by omega) (by omega), show w32 6 = 6 by decide]; omega), e8, p2]
  unfold xm_clauseHere_j24
  rw [if_pos (c := w32 0 = 0) (by decide), w2]
  simp only [obs, tb0]
  have hr0 : HR t M (uh M 146 8 (p : Int)) := HR_1 (by omega)
  by_cases hq : wEq T p (skp (isL T) n p) vPrice
  · obtain ⟨e, e1, e2, e97, e3, e4⟩ := wy hq
    rw [if_neg (fun q => q hq), e3, if_pos (c := w32 0 = 0) (by decide)]
    simp only [obs]
    rw [if_neg (c := w32 1 = 0) (by decide), w32_eq (x := (k : Int)) (by omega) (by omega), show w32 12 = 12 by decide, m14]
    unfold xm_clauseHere_j71
    rw [w32_eq (x := (k : Int)) (by omega) (by omega), show w32 12 = 12 by decide]
    have tcS : TC T n (uh s 1 2 ((skp (isB T) n e : Nat) : Int)) := TC_u rp.1 (by decide)
    by_cases hk12 : k = 12
    · rw [if_neg (by omega), if_pos (by omega), rm_fails m9p, ct_fail (by rw [uh_ro _ _ _ _ (by decide)]; exact rp.2.2.1)]
      simp only [obs]
      rw [if_pos (Or.inl (by decide))]
      exact ⟨_, 0, _, rfl, rfl, HE_tr HE_1 HE_1, HR_tr hr0 (HR_1 (by omega)), Or.inr ⟨rfl, RF_mk tcS p5.2.1 hb1 (uh_rc _ _ _ _) (skp_le e1) p1 (by decide) (by decide)⟩⟩
    · have hk1 : k < 12 := by omega
      clear wn wy hq w1
      rw [if_pos (by omega), if_neg (by omega), m14]
      simp only [obs]
      rw [if_pos (c := w32 0 = 0) (by decide)]
      -- what the reference sets ahead of the sum
      have tmQ : TM T n (uh (uh M 146 8 (p : Int)) 146 14 ((k : Int) + 1)) := TM_u p5.2.1 (by decide)
      have q8 : uh (uh M 146 8 (p : Int)) 146 14 ((k : Int) + 1) 146 8 = (p : Int) := by rw [uh_ro _ _ _ _ (by decide)]; exact e8
      have pass := e4 _ tmQ q8
      have kr1 : KR T n t z (encC R) (sgC R) (uh s 1 2 ((skp (isB T) n e : Nat) : Int)) (uh (uh (uh M 146 8 (p : Int)) 146 14 ((k : Int) + 1)) 146 8 (e : Int)) := KR_go (p := skp (isB T) n e) ⟨RP_rows p5 rfl rfl (fun q hq => uh_ro _ _ _ _ (by omega)) (uh_row (by decide)), kc, KM_8 (KM_8 km (by decide)) (by decide), ht6, hz, hpo, hf⟩ e1 rfl
      have hr1 : HR t M (uh (uh (uh M 146 8 (p : Int)) 146 14 ((k : Int) + 1)) 146 8 (e : Int)) := HR_tr hr0 (HR_tr (HR_1 (by omega)) (HR_1 (by omega)))
      have q151 : uh (uh (uh M 146 8 (p : Int)) 146 14 ((k : Int) + 1)) 146 8 (e : Int) 151 t = (k : Int) := by rw [uh_row (by decide), uh_row (by decide), uh_row (by decide)]; exact h151
      have q150 : uh (uh (uh M 146 8 (p : Int)) 146 14 ((k : Int) + 1)) 146 8 (e : Int) 150 = M 150 := by rw [uh_row (by decide), uh_row (by decide), uh_row (by decide)]
      have q14 : uh (uh (uh M 146 8 (p : Int)) 146 14 ((k : Int) + 1)) 146 8 (e : Int) 146 14 = ((k + 1 : Nat) : Int) := by rw [uh_ro _ _ _ _ (by decide), uh_rc]; omega
      generalize uh (uh (uh M 146 8 (p : Int)) 146 14 ((k : Int) + 1)) 146 8 (e : Int) = Q1 at pass kr1 hr1 q151 q150 q14
      unfold xm_isPriceHere
      rw [pass]
      simp only [obs]
      rw [kr1.2.2.1.1, ixt (n := 6) (j := (t : Int)) t rfl (by omega) (by decide)]
      simp only [obs]
      rw [ixt (n := 7) (j := (t : Int)) t rfl (by omega) (by decide), q151, show 48 * (t : Int) + 4 * (k : Int) = ((48 * t + 4 * k : Nat) : Int) by omega]
      simp only [obs]
      rw [ixt (n := 288) (j := ((48 * t + 4 * k : Nat) : Int)) (48 * t + 4 * k) rfl (by omega) (by decide), kr1.2.2.1.2.1]
      simp only [obs]
      have kr2 := KR_150 (q := 48 * t + 4 * k) (v := ((sgC R).length : Int)) kr1
      obtain ⟨s3, b3, M3, a1, a2, a3, a4, a5⟩ := su_both hb kr2
      rw [a1, a2]
      simp only [obs]
      have hr3 : HR t M M3 := HR_tr hr1 (HR_tr (HR_150 (q := 48 * t + 4 * k) (v := ((sgC R).length : Int)) (by omega)) (HR_t (HT_u a4)))
      have he3 : HE s s3 := HE_tr HE_1 a3
      rcases a5 with ⟨rfl, sm, z1, kr3, hz1, hl1, ty1'⟩ | ⟨rfl, kf⟩
      · rw [if_neg (c := w32 1 = 0) (by decide)]
        have hE3 : (encC R ++ sm).length = (encC R).length + sm.length := List.length_append
        have hF3 : (sgC R ++ sm).length = (sgC R).length + sm.length := List.length_append
        have hlc : lenC R = (sgC R).length := lenC_sg R
        rw [kr3.2.2.1.1, ixt (n := 7) (j := (t : Int)) t rfl (by omega) (by decide)]
        simp only [obs]
        rw [ixt (n := 288) (j := ((48 * t + 4 * k : Nat) : Int) + 1) (48 * t + 4 * k + 1) (by omega) (by omega) (by decide)]
        simp only [obs]
        rw [ixt (n := 288) (j := ((48 * t + 4 * k : Nat) : Int) + 2) (48 * t + 4 * k + 2) (by omega) (by omega) (by decide), kr3.2.2.1.2.1]
        simp only [obs]
        have m3150 : M3 150 = uh Q1 150 (48 * t + 4 * k) ((sgC R).length : Int) 150 := a4.1 150 (by decide) (by decide) (by decide)
        have m3151 : M3 151 t = (k : Int) := by rw [a4.1 151 (by decide) (by decide) (by decide), uh_row (by decide)]; exact q151
        have m314 : M3 146 14 = ((k + 1 : Nat) : Int) := by rw [a4.2.1 14 (by decide) (by decide) (by decide) (by decide), uh_row (by decide)]; exact q14
        have krG := KR_150 (q := 48 * t + 4 * k + 2) (v := -1) (KR_150 (q := 48 * t + 4 * k + 1) (v := ((sgC R ++ sm).length : Int)) kr3)
        have hrG : HR t M (uh (uh M3 150 (48 * t + 4 * k + 1) ((sgC R ++ sm).length : Int)) 150 (48 * t + 4 * k + 2) (-1)) := HR_tr hr3 (HR_tr (HR_150 (by omega)) (HR_150 (by omega)))
        have g1 : uh (uh M3 150 (48 * t + 4 * k + 1) ((sgC R ++ sm).length : Int)) 150 (48 * t + 4 * k + 2) (-1) 150 (48 * t + 4 * k) = ((lenC R : Nat) : Int) := by rw [uh_ro _ _ _ _ (by omega), uh_ro _ _ _ _ (by omega), m3150, uh_rc, hlc]
        have g2 : uh (uh M3 150 (48 * t + 4 * k + 1) ((sgC R ++ sm).length : Int)) 150 (48 * t + 4 * k + 2) (-1) 150 (48 * t + 4 * k + 1) = ((lenC R + sm.length : Nat) : Int) := by rw [uh_ro _ _ _ _ (by omega), uh_rc, hF3, hlc]
        have g3 : uh (uh M3 150 (48 * t + 4 * k + 1) ((sgC R ++ sm).length : Int)) 150 (48 * t + 4 * k + 2) (-1) 150 (48 * t + 4 * k + 2) = -1 := uh_rc _ _ _ _
        have gI : RI (uh (uh M3 150 (48 * t + 4 * k + 1) ((sgC R ++ sm).length : Int)) 150 (48 * t + 4 * k + 2) (-1) 150) t 0 0 R := RI_cg R 0 0 hI (fun j _ hj => by rw [uh_ro _ _ _ _ (by omega), uh_ro _ _ _ _ (by omega), m3150, uh_ro _ _ _ _ (by omega), q150])
        have g151 : uh (uh M3 150 (48 * t + 4 * k + 1) ((sgC R ++ sm).length : Int)) 150 (48 * t + 4 * k + 2) (-1) 151 t = (k : Int) := by rw [uh_row (by decide), uh_row (by decide)]; exact m3151
        have g14 : uh (uh M3 150 (48 * t + 4 * k + 1) ((sgC R ++ sm).length : Int)) 150 (48 * t + 4 * k + 2) (-1) 146 14 = ((k + 1 : Nat) : Int) := by rw [uh_row (by decide), uh_row (by decide)]; exact m314
        generalize uh (uh M3 150 (48 * t + 4 * k + 1) ((sgC R ++ sm).length : Int)) 150 (48 * t + 4 * k + 2) (-1) = G at krG hrG g1 g2 g3 gI g151 g14
        have hsm : tyT sm [] = some [false] := ty1' [] (by decide)
        obtain ⟨rpG, kcG, kmG, -, hzG, hpoG, hfG⟩ := id krG
        obtain ⟨p', p1', p2', p3', p5', p4', w1', w2', wn', wy'⟩ := tw_both (ti := 3) (w := vIf) (code := 26982) hb rpG spl_if (by decide) (by decide) (by decide +kernel)
        unfold xm_takesWord
        rw [w1']
        simp only [obs, tb0]
        by_cases hq2 : wEq T p' (skp (isL T) n p') vIf
        · obtain ⟨e', e1', e2', e97', e3', e4'⟩ := wy' hq2
          rw [if_neg (fun q => q hq2), e3', e4' _ p5'.2.1 (uh_rc _ _ _ _), uh_uh]
          clear wn' wy' hq2 w1' w2'
          simp only [obs]
          rw [if_neg (c := w32 1 = 0) (by decide), if_neg (c := w32 1 = 0) (by decide)]
          have krH := KR_go (p := skp (isB T) n e') (e := e') krG e1' rfl
          rw [krH.2.2.1.1, ixt (n := 7) (j := (t : Int)) t rfl (by omega) (by decide)]
          simp only [obs]
          rw [krH.2.2.1.2.1, tested_tst]
          have krI := KR_150 (q := 48 * t + 4 * k + 2) (v := ((sgC R ++ sm).length : Int)) krH
          -- an empty row of opened signs
          have krJ : KR T n t z1 (encC R ++ sm) (sgC R ++ sm) (uh s3 1 2 ((skp (isB T) n e' : Nat) : Int)) (uh (uh (uh (uh G 146 8 (e' : Int)) 150 (48 * t + 4 * k + 2) ((sgC R ++ sm).length : Int)) 146 16 0) 146 13 0) := KR_rows krI (fun q a b => by rw [uh_ro _ _ _ _ a, uh_ro _ _ _ _ b]) (fun P a b => by rw [uh_row a, uh_row a])
          have ksJ : KS [] 0 (uh (uh (uh (uh G 146 8 (e' : Int)) 150 (48 * t + 4 * k + 2) ((sgC R ++ sm).length : Int)) 146 16 0) 146 13 0) := ⟨by rw [uh_ro _ _ _ _ (by decide), uh_rc]; rfl, trivial, by rw [uh_rc]; rfl, fun c hc => absurd hc List.not_mem_nil⟩
          have hrJ : HR t M (uh (uh (uh (uh G 146 8 (e' : Int)) 150 (48 * t + 4 * k + 2) ((sgC R ++ sm).length : Int)) 146 16 0) 146 13 0) := HR_tr hrG (HR_tr (HR_1 (by omega)) (HR_tr (HR_150 (by omega)) (HR_tr (HR_1 (by omega)) (HR_1 (by omega)))))
          have j1 : uh (uh (uh (uh G 146 8 (e' : Int)) 150 (48 * t + 4 * k + 2) ((sgC R ++ sm).length : Int)) 146 16 0) 146 13 0 150 (48 * t + 4 * k) = ((lenC R : Nat) : Int) := by rw [uh_row (by decide), uh_row (by decide), uh_ro _ _ _ _ (by omega), uh_row (by decide)]; exact g1
          have j2 : uh (uh (uh (uh G 146 8 (e' : Int)) 150 (48 * t + 4 * k + 2) ((sgC R ++ sm).length : Int)) 146 16 0) 146 13 0 150 (48 * t + 4 * k + 1) = ((lenC R + sm.length : Nat) : Int) := by rw [uh_row (by decide), uh_row (by decide), uh_ro _ _ _ _ (by omega), uh_row (by decide)]; exact g2
          have j3 : uh (uh (uh (uh G 146 8 (e' : Int)) 150 (48 * t + 4 * k + 2) ((sgC R ++ sm).length : Int)) 146 16 0) 146 13 0 150 (48 * t + 4 * k + 2) = ((lenC R + sm.length : Nat) : Int) := by rw [uh_row (by decide), uh_row (by decide), uh_rc, hF3, hlc]
          have jI : RI (uh (uh (uh (uh G 146 8 (e' : Int)) 150 (48 * t + 4 * k + 2) ((sgC R ++ sm).length : Int)) 146 16 0) 146 13 0 150) t 0 0 R := RI_cg R 0 0 gI (fun j _ hj => by rw [uh_row (by decide), uh_row (by decide), uh_ro _ _ _ _ (by omega), uh_row (by decide)])
          have j151 : uh (uh (uh (uh G 146 8 (e' : Int)) 150 (48 * t + 4 * k + 2) ((sgC R ++ sm).length : Int)) 146 16 0) 146 13 0 151 t = (k : Int) := by rw [uh_row (by decide), uh_row (by decide), uh_row (by decide), uh_row (by decide)]; exact g151
          have j14 : uh (uh (uh (uh G 146 8 (e' : Int)) 150 (48 * t + 4 * k + 2) ((sgC R ++ sm).length : Int)) 146 16 0) 146 13 0 146 14 = ((k + 1 : Nat) : Int) := by rw [uh_ro _ _ _ _ (by decide), uh_ro _ _ _ _ (by decide), uh_row (by decide), uh_ro _ _ _ _ (by decide)]; exact g14
          generalize uh (uh (uh (uh G 146 8 (e' : Int)) 150 (48 * t + 4 * k + 2) ((sgC R ++ sm).length : Int)) 146 16 0) 146 13 0 = J at krJ ksJ hrJ j1 j2 j3 jI j151 j14
          obtain ⟨s5, c1, c2, c3⟩ := (rc_both (t := t) hb 40 0 (by decide)).2 (by decide) z1 _ _ _ _ [] krJ ksJ (by decide) (Or.inl rfl)
          have c1' : xr_readTest (uh s3 1 2 ((skp (isB T) n e' : Nat) : Int)) 0 = some s5 := c1
          rw [c1']
          simp only [obs]
          have he5 : HE s s5 := HE_tr he3 (HE_tr HE_1 c2)
          rcases c3 with ⟨M5, d1, d2, d3⟩ | ⟨M5, te, k5, q, a, o, d1, d2, d3, d4, d5, d6, d7, d8, d9⟩
          · rw [d1]
            simp only [obs]
            rw [if_pos (c := w32 0 = 0) (by decide)]
            obtain ⟨s6, f1, f2⟩ := CX_add (c := 4) (KF_c d3)
            rw [f1]
            simp only [obs]
            rw [if_pos (Or.inl (by decide))]
            exact ⟨s6, 0, M5, rfl, rfl, HE_tr he5 f2.2.2, HR_tr hrJ (HR_t d2), Or.inr ⟨rfl, (KF_x d3 f2).1⟩⟩
          · obtain ⟨rp5, kc5, km5, -, hz5, hpo5, hf5⟩ := id d3
            have hlp := pnd_len a o
            have htk := tkl_len (pnd a o)
            have hE5 : (encC R ++ sm ++ te ++ tkl (pnd a o)).length = (encC R).length + sm.length + te.length + (pnd a o).length := by rw [List.length_append, List.length_append, List.length_append, htk]
            have hF5 : (sgC R ++ sm ++ te).length = (sgC R).length + sm.length + te.length := by rw [List.length_append, List.length_append]
            obtain ⟨r, r1, r2, r3, r4, r5⟩ := RP_see hb rp5
            have hrq : q = r := by omega
            subst hrq
            have iA := rt_wordAt (i := q) (code := 6385252) (w := vAnd) hb r5.2.1 (uh_rc _ _ _ _) r1 r3 (by decide) (by decide) (by decide) (by decide +kernel)
            have iO := rt_wordAt (i := q) (code := 28530) (w := vOr) hb r5.2.1 (uh_rc _ _ _ _) r1 r3 (by decide) (by decide) (by decide) (by decide +kernel)
            rw [tb_f d6.1] at iA
            rw [tb_f d6.2] at iO
            have hend := aft_end (p := q) (base := []) hb d4 (Or.inl rfl) (by decide) (fun _ _ => rfl) r4 iA iO
            obtain ⟨M6, f1, f2, f3, f4, f5, f6⟩ := st_run (t := t) (k := k5) (d := 0) (st := []) (x := 1) ht6 (by decide) (pnd a o) (sgC R ++ sm ++ te) (uh M5 146 8 (q : Int)) (fun op hop => ⟨pnd_in hop, by rcases pnd_in hop with rfl | rfl <;> decide⟩) (KS_8 d4) (KM_8 km5 (by decide)) (by show (pnd a o).length + 0 < 400; omega) (by omega) (Or.inl rfl)
            have hno : ¬ (91 : Int) ∈ rpl (pnd a o) ++ [] := by
              cases a <;> cases o <;> decide
            have ht2 : tendR (uh M5 146 8 (q : Int)) = some (1, M6) := by
              unfold tendR
              rw [in_no (KS_8 d4) (by rw [List.length_append, rpl_len]; show (pnd a o).length + 0 < 400; omega) hno]
              simp only [obs]
              rw [if_pos (by decide), f1]
              rfl
            rw [d1, hend, ht2]
            simp only [obs]
            rw [if_neg (c := w32 1 = 0) (by decide)]
            obtain ⟨s6, i1, i2, i3⟩ := KC_add (op := 4) (v := 0) (c := 4) kc5 (by omega) (by decide) rfl
            rw [i1]
            simp only [obs]
            have htt : ∀ x, some (te ++ tkl (pnd a o)) = some x → tyT x [] = some [true] := fun x hx => by
              have := Option.some.inj hx
              rw [← this]
              exact d9 [] (by decide)
            have e5 : encC (R ++ [(sm, some (te ++ tkl (pnd a o)))]) = encC R ++ sm ++ te ++ tkl (pnd a o) ++ [(4, 0)] := by rw [encC_2, ← List.append_assoc (encC R ++ sm)]
            have e6 : sgC (R ++ [(sm, some (te ++ tkl (pnd a o)))]) = sgC R ++ sm ++ te ++ tkl (pnd a o) := by rw [sgC_2, ← List.append_assoc (sgC R ++ sm)]
            have e5l : (encC R ++ sm ++ te ++ tkl (pnd a o) ++ [((4 : Nat), (0 : Nat))]).length = (encC R ++ sm ++ te ++ tkl (pnd a o)).length + 1 := List.length_append
            have e6l : (sgC R ++ sm ++ te ++ tkl (pnd a o)).length = (sgC R ++ sm ++ te).length + (pnd a o).length := by rw [List.length_append, htk]
            have krK : KR T n t k5 (encC (R ++ [(sm, some (te ++ tkl (pnd a o)))])) (sgC (R ++ [(sm, some (te ++ tkl (pnd a o)))])) s6 M6 := by
              rw [e5, e6]
              refine ⟨RP_rows r5 (i3 1 (by decide) (by decide)) (i3 2 (by decide) (by decide)) (fun x hx => f5 x (by omega) (by omega)) (f6 147 (by decide) (by decide) (by decide)), i2, f3, ht6, hz5, ?_, ?_⟩
              · rw [e5l, hE5]; omega
              · rw [e5l, e6l, hE5, hF5]; omega
            have x150 : M6 150 = J 150 := by rw [f6 150 (by decide) (by decide) (by decide), uh_row (by decide)]; exact d2.1 150 (by decide) (by decide) (by decide) (by decide)
            have x151 : M6 151 = J 151 := by rw [f6 151 (by decide) (by decide) (by decide), uh_row (by decide)]; exact d2.1 151 (by decide) (by decide) (by decide) (by decide)
            have x14 : M6 146 14 = J 146 14 := by rw [f5 14 (by decide) (by decide), uh_ro _ _ _ _ (by decide)]; exact d2.2.1 14 (by decide) (by decide) (by decide) (by decide) (by decide) (by decide)
            obtain ⟨M7, y1, y2, y3, y4⟩ := rc_end (sm := sm) (te := some (te ++ tkl (pnd a o))) hR hk1 krK (by rw [e5, e5l, hE5]; omega) (by rw [x150]; exact jI) hw hsm htt (by rw [x150]; exact j1) (by rw [x150]; exact j2) (by rw [x150]; exact j3) (by rw [x151]; exact j151) (by rw [x14]; exact j14)
            rw [y1]
            simp only [obs]
            rw [if_pos (Or.inr (by decide))]
            exact ⟨s6, 1, M7, rfl, rfl, HE_tr he5 (fun P _ x y => i3 P x y), HR_tr hrJ (HR_tr (HR_t d2) (HR_tr (HR_1 (q := 8) (v := (q : Int)) (by omega)) (HR_tr (HR_t f4) y2))), Or.inl ⟨rfl, y3, y4, hk1⟩⟩
        · rw [if_pos hq2, wn' hq2]
          clear wn' wy' hq2 w1' w2'
          simp only [obs]
          rw [if_pos (c := w32 0 = 0) (by decide), if_pos (c := w32 0 = 0) (by decide)]
          obtain ⟨s6, i1, i2, i3⟩ := KC_add (op := 3) (v := 0) (c := 3) kcG (by omega) (by decide) rfl
          rw [i1]
          simp only [obs]
          have e5l : (encC R ++ sm ++ [((3 : Nat), (0 : Nat))]).length = (encC R ++ sm).length + 1 := List.length_append
          have krK : KR T n t z1 (encC (R ++ [(sm, none)])) (sgC (R ++ [(sm, none)])) s6 (uh G 146 8 (p' : Int)) := by
            rw [encC_1, sgC_1]
            refine ⟨RP_rows p5' (i3 1 (by decide) (by decide)) (i3 2 (by decide) (by decide)) (fun _ _ => rfl) rfl, i2, KM_8 kmG (by decide), ht6, hzG, ?_, ?_⟩
            · rw [e5l, hE3]; omega
            · rw [e5l]; omega
          obtain ⟨M7, y1, y2, y3, y4⟩ := rc_end (sm := sm) (te := none) hR hk1 krK (by rw [encC_1, e5l, hE3]; omega) (by rw [uh_row (by decide)]; exact gI) hw hsm (fun x hx => by cases hx) (by rw [uh_row (by decide)]; exact g1) (by rw [uh_row (by decide)]; exact g2) (by rw [uh_row (by decide)]; exact g3) (by rw [uh_row (by decide)]; exact g151) (by rw [uh_ro _ _ _ _ (by decide)]; exact g14)
          rw [y1]
          simp only [obs]
          rw [if_pos (Or.inr (by decide))]
          exact ⟨s6, 1, M7, rfl, rfl, HE_tr he3 (fun P _ x y => i3 P x y), HR_tr hrG (HR_tr (HR_1 (q := 8) (v := (p' : Int)) (by omega)) y2), Or.inl ⟨rfl, y3, y4, hk1⟩⟩
      · rw [if_pos (c := w32 0 = 0) (by decide)]
        -- a sum with a fault: the class goes on
        obtain ⟨b4, s4, c1, c2⟩ := CX_tw hb (KF_c kf) spl_if
        rw [c1]
        simp only [obs]
        rw [if_pos (Or.inl (by decide))]
        have hrest : ∃ s6, (if w32 b4 = 0 then (xr_addStep s4 3).bind fun o20 => some o20 else (xr_readTest s4 0).bind fun o24 => (xr_addStep o24 4).bind fun o28 => some o28) = some s6 ∧ CX T n s4 s6 := by
          split
          · obtain ⟨s6, f1, f2⟩ := CX_add (c := 3) c2.1
            rw [f1]
            exact ⟨s6, rfl, f2⟩
          · have hrt : xr_readTest s4 0 = some s4 := by
              show xr_readTest_b (RC51 39).1 (RC51 39).2 s4 0 = some s4
              exact CX_lpt c2.1
            rw [hrt]
            simp only [obs]
            obtain ⟨s6, f1, f2⟩ := CX_add (c := 4) c2.1
            rw [f1]
            exact ⟨s6, rfl, f2⟩
        obtain ⟨s6, f1, f2⟩ := hrest
        rw [f1]
        exact ⟨s6, 0, M3, rfl, rfl, HE_tr he3 (HE_tr c2.2.2 f2.2.2), hr3, Or.inr ⟨rfl, (KF_x kf (CX_tr c2 f2)).1⟩⟩
  · rw [if_pos hq, wn hq, rm_fails m9p]
    simp only [obs]
    rw [if_pos (c := w32 0 = 0) (by decide), if_pos (Or.inl (by decide))]
    unfold xt_failHere
    rw [ct_fail rp.2.2.1, p2]
    exact ⟨_, 0, _, rfl, rfl, HE_1, HR_tr hr0 (HR_1 (by omega)), Or.inr ⟨rfl, RF_mk rp.1 p5.2.1 hb1 p2 p1 p1 (by decide) (by decide)⟩⟩
end RD
