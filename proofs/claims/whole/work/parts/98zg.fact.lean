/-! facts, both sides: what a fact and a test owe -/
section FA
variable {T : Nat → Int} {n t : Nat}
def vNotW : List Nat := vNot
/-- what reading a fact at depth d does on both sides -/
def FactB (T : Nat → Int) (n t : Nat) (C : Hp → Int → Option Hp) (d : Nat) : Prop := ∀ (k : Nat) (E F : List Tok) (s M : Hp) (st : List Int), KR T n t k E F s M → KS st d M → st.length ≤ 3 * d + 2 → ∃ s1, C s (d : Int) = some s1 ∧ HE s s1 ∧ ((∃ M1, tst M = some (0, M1) ∧ HT t M M1 ∧ KF T n s1 M1) ∨ (∃ M1 te k1, tst M = aft M1 ∧ HT t M M1 ∧ KR T n t k1 (E ++ te) (F ++ te) s1 M1 ∧ KS st d M1 ∧ k + 3 ≤ k1 ∧ 3 * te.length + 9 + 3 * d ≤ 16 * (k1 - k) ∧ ∀ b : List Bool, b.length ≤ 2 * d + 2 → tyT te b = some (true :: b)))
/-- no word of the two stands here -/
def noAO (T : Nat → Int) (n p : Nat) : Prop := ¬ wEq T p (skp (isL T) n p) vAnd ∧ ¬ wEq T p (skp (isL T) n p) vOr
/-- what reading a test at depth d does on both sides -/
def TestB (T : Nat → Int) (n t : Nat) (C : Hp → Int → Option Hp) (d : Nat) : Prop := ∀ (k : Nat) (E F : List Tok) (s M : Hp) (base : List Int), KR T n t k E F s M → KS base d M → base.length ≤ 3 * d → (base = [] ∨ ∃ r, base = 91 :: r) → ∃ s1, C s (d : Int) = some s1 ∧ HE s s1 ∧ ((∃ M1, tst M = some (0, M1) ∧ HT t M M1 ∧ KF T n s1 M1) ∨ (∃ M1 te k1 p, ∃ a o : Bool, tst M = aft M1 ∧ HT t M M1 ∧ KR T n t k1 (E ++ te ++ tkl (pnd a o)) (F ++ te) s1 M1 ∧ KS (rpl (pnd a o) ++ base) d M1 ∧ s1 1 2 = ((p : Nat) : Int) ∧ noAO T n p ∧ k + 3 ≤ k1 ∧ 3 * (te.length + (pnd a o).length) + 9 + 3 * d ≤ 16 * (k1 - k) ∧ ∀ b : List Bool, b.length ≤ 2 * d → tyT (te ++ tkl (pnd a o)) b = some (true :: b)))
theorem xm_fact_go {M M1 : Hp} (h : xm_fact_b2 M 1 = some (.inl (1, M1))) : xm_fact M = xm_fact M1 := by
  unfold xm_fact
  rw [lp_in (B := fun (q : Int × Hp) => xm_fact_b2 q.2 q.1) (s := (1, M)) h]
theorem xm_fact_leaf {M M1 : Hp} (h : xm_fact_b2 M 1 = some (.inl (0, M1))) : xm_fact M = (xm_compare M1).bind fun o7 => if w32 o7.1 = 0 ∨ w32 o7.1 = 1 then some (o7.1, o7.2) else none := by
  unfold xm_fact
  have h2 : xm_fact_b2 M1 0 = some (.inr (.inl (0, M1))) := by
    unfold xm_fact_b2
    rw [if_pos (by decide)]
  rw [lp_in (B := fun (q : Int × Hp) => xm_fact_b2 q.2 q.1) (s := (1, M)) h, lp_en (B := fun (q : Int × Hp) => xm_fact_b2 q.2 q.1) (s := (0, M1)) h2]
  rfl
theorem xm_fact_bad {M M1 : Hp} (h : xm_fact_b2 M 1 = some (.inr (.inr (0, M1)))) : xm_fact M = some (0, M1) := by
  unfold xm_fact
  rw [lp_en (B := fun (q : Int × Hp) => xm_fact_b2 q.2 q.1) (s := (1, M)) h]
  rfl
theorem KR_rows {k : Nat} {E F : List Tok} {s M M1 : Hp} (h : KR T n t k E F s M) (f : ∀ q, q ≠ 13 → q ≠ 16 → M1 146 q = M 146 q) (g : ∀ P, P ≠ 146 → P ≠ 153 → M1 P = M P) : KR T n t k E F s M1 := ⟨RP_rows h.1 rfl rfl (fun q hq => f q (by omega) (by omega)) (g 147 (by decide) (by decide)), h.2.1, KM_row h.2.2.1 (fun q hq => f q (by omega) (by omega)) (g 148 (by decide) (by decide)) (g 149 (by decide) (by decide)), h.2.2.2⟩
theorem ty_n {b : List Bool} : ty1 (2, 0) (true :: b) = some (true :: b) := rfl
theorem HTo {M M1 : Hp} (f : ∀ q, q ≠ 13 → q ≠ 16 → M1 146 q = M 146 q) (g : ∀ P, P ≠ 146 → P ≠ 153 → M1 P = M P) : HT t M M1 := ⟨fun P a _ _ e => g P a e, fun q _ _ _ _ e f' => f q e f', fun i _ => by rw [g 148 (by decide) (by decide)]⟩
/-- a fact, by what is read inside it -/
theorem fact_step {C1 C2 : Hp → Int → Option Hp} {d : Nat} (hb : TB T n) (hd : d ≤ 10) (h1 : d < 10 → TestB T n t C1 (d + 1)) (h2 : d < 10 → FactB T n t C2 (d + 1)) : FactB T n t (fun s p => xr_readFact_b C1 C2 s p) d := by
  intro k E F s M st kr ks hst
  have hb1 := hb.1
  obtain ⟨rp, kc, km, ht, hk, hpo, hf⟩ := id kr
  obtain ⟨p, p1, p2, p3, p5, p4, w1, w2, wn, wy⟩ := tw_both (ti := 4) (w := vNot) (code := 7237492) hb rp spl_not (by decide) (by decide) (by decide +kernel)
  have e8 : uh M 146 8 (p : Int) 146 8 = (p : Int) := uh_rc _ _ _ _
  have m9p := p5.2.2.2.1
  have kr8 := KR_see kr p5
  have ks8 := KS_8 (v := (p : Int)) ks
  show ∃ s1, xr_readFact_b C1 C2 s (d : Int) = some s1 ∧ _
  have fb0 : xm_fact_b2 M 1 = (if w32 (tb (wEq T p (skp (isL T) n p) vNot)) = 0 then if w32 (if p < n then T p else -1) = w32 91 then (xm_opens (uh M 146 8 (p : Int)) 91).bind fun o12 => if w32 o12.1 = 0 then some (.inr (.inr (0, o12.2))) else (some (uh o12.2 146 8 ((o12.2 146 8) + 1))).bind fun s17 => some (.inl (1, s17)) else some (.inl (0, uh M 146 8 (p : Int))) else (xm_opens (uh M 146 8 (p : Int)) 11).bind fun o21 => if w32 o21.1 = 0 then some (.inr (.inr (0, o21.2))) else (xm_passWord o21.2).bind fun o26 => some (.inl (1, o26))) := by
    unfold xm_fact_b2
    rw [if_neg (by decide), p4]
    simp only [obs]
    rw [w2]
    rfl
  simp only [tb0] at fb0
  unfold xr_readFact_b xt_where
  simp only [obs]
  rw [p2]
  by_cases hw : wEq T p (skp (isL T) n p) vNot
  · obtain ⟨e, e1, e2, e97, e3, e4⟩ := wy hw
    rw [if_neg (fun q => q hw)] at fb0
    rw [e3]
    simp only [obs]
    rw [if_neg (c := w32 1 = 0) (by decide), if_neg (c := w32 1 = 0) (by decide)]
    unfold xr_readFact_j44
    rw [w32_eq (x := (d : Int)) (by omega) (by omega), show w32 10 = 10 by decide]
    by_cases hd10 : d < 10
    · rw [if_pos (by omega)]
      unfold xr_readFact_j59
      rw [if_neg (c := w32 1 = 0) (by decide), show (d : Int) + 1 = ((d + 1 : Nat) : Int) by omega]
      obtain ⟨Ma, a1, a2, a3, a4⟩ := op_ok (c := 11) ks8 hd10 (by omega) (by decide)
      rw [a1] at fb0
      simp only [obs] at fb0
      rw [if_neg (by decide)] at fb0
      have tma : TM T n Ma := ⟨by rw [a4 1 (by decide) (by decide)]; exact p5.2.1.1, fun j hj => by rw [a3 147 (by decide) (by decide)]; exact p5.2.1.2 j hj⟩
      rw [e4 Ma tma (by rw [a4 8 (by decide) (by decide)]; exact e8)] at fb0
      simp only [obs] at fb0
      have krb : KR T n t k E F (uh s 1 2 ((skp (isB T) n e : Nat) : Int)) (uh Ma 146 8 (e : Int)) := KR_go (KR_rows kr8 a4 a3) e1 rfl
      obtain ⟨s1, b1, b2, b3⟩ := h2 hd10 k E F _ _ (11 :: st) krb (KS_8 a2) (by rw [List.length_cons]; omega)
      rw [b1]
      simp only [obs]
      have htt : tst M = tst (uh Ma 146 8 (e : Int)) := tst_cg (xm_fact_go fb0)
      have hta : HT t M (uh Ma 146 8 (e : Int)) := HT_tr (HT_1 (q := 8) (v := (p : Int)) (by omega)) (HT_tr (HTo a4 a3) (HT_1 (by omega)))
      rw [htt]
      rcases b3 with ⟨M1, c1, c2, c3⟩ | ⟨M1, te, k1, c1, c2, c3, c4, c5, c6, c7⟩
      · obtain ⟨s2, d1, d2⟩ := CX_add (c := 2) (KF_c c3)
        rw [d1]
        exact ⟨s2, rfl, HE_tr HE_1 (HE_tr b2 d2.2.2), Or.inl ⟨M1, c1, HT_tr hta c2, KF_x c3 d2⟩⟩
      · obtain ⟨rp1, kc1, km1, ht1, hk1, hpo1, hf1⟩ := id c3
        obtain ⟨M2, f1, f2, f3, f4, f5, f6⟩ := aft_not c4 km1 (by omega) (by omega) ht (by omega)
        obtain ⟨s2, d1, d2, d3⟩ := KC_add (op := 2) (v := 0) (c := 2) kc1 (by omega) (by decide) rfl
        rw [d1]
        refine ⟨s2, rfl, HE_tr HE_1 (HE_tr b2 (fun P _ x y => d3 P x y)), Or.inr ⟨M2, te ++ [(2, 0)], k1, c1.trans f1, HT_tr hta (HT_tr c2 f4), ⟨RP_rows rp1 (d3 1 (by decide) (by decide)) (d3 2 (by decide) (by decide)) (fun q hq => f5 q (by omega) (by omega)) (f6 147 (by decide) (by decide) (by decide)), ?_, ?_, ht, hk1, ?_, ?_⟩, f2, c5, ?_, fun b hb2 => ?_⟩⟩
        · rw [← List.append_assoc]; exact d2
        · rw [← List.append_assoc]; exact f3
        · rw [List.length_append, List.length_append]
          show 3 * (E.length + (te.length + 1)) ≤ _
          omega
        · rw [← List.append_assoc, ← List.append_assoc, List.length_append, List.length_append (as := E ++ te)]
          omega
        · rw [List.length_append]
          show 3 * (te.length + 1) + 9 + 3 * d ≤ _
          omega
        · rw [tyT_app (c7 b (by omega))]
          show (ty1 (2, 0) (true :: b)).bind (tyT []) = _
          rw [ty_n]; rfl
    · rw [if_neg (by omega)]
      have hd2 : d = 10 := by omega
      rw [op_no (c := 11) ks8 hd2 m9p e8] at fb0
      simp only [obs] at fb0
      rw [if_pos (by decide)] at fb0
      rw [ct_fail (by rw [uh_ro _ _ _ _ (by decide)]; exact rp.2.2.1)]
      have tcs : TC T n (uh s 1 2 ((skp (isB T) n e : Nat) : Int)) := TC_u rp.1 (by decide)
      exact ⟨_, rfl, HE_tr HE_1 HE_1, Or.inl ⟨_, tst_0 (xm_fact_bad fb0), HT_tr (HT_1 (q := 8) (v := (p : Int)) (by omega)) (HT_1 (by omega)), RF_mk tcs p5.2.1 hb1 (uh_rc _ _ _ _) (skp_le e1) p1 (by decide) (by decide), by rw [uh_row (by decide), uh_row (by decide), kc.1]; omega, by rw [uh_row (by decide), uh_row (by decide), kc.1]; omega⟩⟩
  · rw [if_pos hw] at fb0
    rw [wn hw]
    simp only [obs]
    rw [if_pos (c := w32 0 = 0) (by decide), ct_sign hb rp.1 p2 p1 (by decide) (by decide)]
    simp only [obs]
    by_cases hs : p < n ∧ T p = 91
    · rw [if_pos hs]
      have hsn : w32 (if p < n then T p else -1) = w32 91 := by rw [if_pos hs.1, hs.2]
      rw [if_pos hsn] at fb0
      simp only [obs]
      rw [if_neg (c := w32 1 = 0) (by decide), ite_sm]
      unfold xr_readFact_j44
      rw [w32_eq (x := (d : Int)) (by omega) (by omega), show w32 10 = 10 by decide]
      by_cases hd10 : d < 10
      · rw [if_pos (by omega)]
        unfold xr_readFact_j59
        rw [if_pos (c := w32 0 = 0) (by decide), if_neg (c := w32 1 = 0) (by decide), show (d : Int) + 1 = ((d + 1 : Nat) : Int) by omega]
        obtain ⟨Ma, a1, a2, a3, a4⟩ := op_ok (c := 91) ks8 hd10 (by omega) (by decide)
        rw [a1] at fb0
        simp only [obs] at fb0
        rw [if_neg (by decide), a4 8 (by decide) (by decide), e8, show (p : Int) + 1 = ((p + 1 : Nat) : Int) by omega] at fb0
        have krb : KR T n t k E F (uh s 1 2 ((skp (isB T) n (p + 1) : Nat) : Int)) (uh Ma 146 8 ((p + 1 : Nat) : Int)) := KR_go (KR_rows kr8 a4 a3) (by omega) rfl
        obtain ⟨s1, b1, b2, b3⟩ := h1 hd10 k E F _ _ (91 :: st) krb (KS_8 a2) (by rw [List.length_cons]; omega) (Or.inr ⟨st, rfl⟩)
        rw [b1]
        simp only [obs]
        have htt : tst M = tst (uh Ma 146 8 ((p + 1 : Nat) : Int)) := tst_cg (xm_fact_go fb0)
        have hta : HT t M (uh Ma 146 8 ((p + 1 : Nat) : Int)) := HT_tr (HT_1 (q := 8) (v := (p : Int)) (by omega)) (HT_tr (HTo a4 a3) (HT_1 (by omega)))
        rw [htt]
        rcases b3 with ⟨M1, c1, c2, c3⟩ | ⟨M1, te, k1, p', a, o, c1, c2, c3, c4, c5, c6, c7, c8, c9⟩
        · obtain ⟨tc1, tm1, -, -, -, i1, i2, i3⟩ := id c3.1
          obtain ⟨s2, d1, d2⟩ := cn_fault (c := 93) hb tc1 i2 i3 (by decide) (by decide) c3.1.2.2.2.1 c3.1.2.2.2.2.1
          rw [d1]
          have hx : CX T n s1 s2 := by
            rcases d2 with rfl | ⟨v, hv, rfl⟩
            · exact CX_rf (KF_c c3)
            · exact CX_2 (KF_c c3) hv
          exact ⟨s2, rfl, HE_tr HE_1 (HE_tr b2 hx.2.2), Or.inl ⟨M1, c1, HT_tr hta c2, KF_x c3 hx⟩⟩
        · obtain ⟨rp1, kc1, km1, ht1, hk1, hpo1, hf1⟩ := id c3
          obtain ⟨q, q1, q2, q3, q4, q5⟩ := RP_see hb rp1
          have hqp : p' = q := by omega
          subst hqp
          unfold xt_needSign
          rw [ct_sign hb rp1.1 c5 q1 (by decide) (by decide)]
          have hlp := pnd_len a o
          have htk : (tkl (pnd a o)).length = (pnd a o).length := List.length_map ..
          have hEl : (E ++ te ++ tkl (pnd a o)).length = E.length + te.length + (pnd a o).length := by rw [List.length_append, List.length_append, htk]
          have hFl : (F ++ te).length = F.length + te.length := List.length_append
          by_cases h93 : p' < n ∧ T p' = 93
          · rw [if_pos h93]
            simp only [obs]
            rw [if_neg (c := w32 1 = 0) (by decide)]
            obtain ⟨M2, f1, f2, f3, f4, f5, f6, f7⟩ := aft_close (st := st) (d := d) hb c4 km1 (by omega) (by omega) ht h93.1 h93.2 q4
            refine ⟨_, rfl, HE_tr HE_1 (HE_tr b2 HE_1), Or.inr ⟨M2, te ++ tkl (pnd a o), k1, c1.trans f1, HT_tr hta (HT_tr c2 f4), ⟨⟨TC_u rp1.1 (by decide), ⟨by rw [f6 1 (by decide) (by decide) (by decide)]; exact rp1.2.1.1, fun j hj => by rw [f7 147 (by decide) (by decide) (by decide)]; exact rp1.2.1.2 j hj⟩, by rw [uh_ro _ _ _ _ (by decide)]; exact rp1.2.2.1, by rw [f6 9 (by decide) (by decide) (by decide)]; exact rp1.2.2.2.1, p' + 1, f5, by omega, uh_rc _ _ _ _⟩, ?_, ?_, ht, hk1, ?_, ?_⟩, f2, c7, ?_, fun b hb2 => c9 b (by omega)⟩⟩
            · rw [← List.append_assoc]; exact KC_1 kc1
            · rw [← List.append_assoc]; exact f3
            · rw [← List.append_assoc]; exact hpo1
            · rw [← List.append_assoc, ← List.append_assoc, List.length_append, List.length_append (as := E ++ te)]
              rw [List.length_append, List.length_append (as := E)]
              omega
            · rw [List.length_append, htk]
              omega
          · rw [if_neg h93]
            simp only [obs]
            rw [if_pos (c := w32 0 = 0) (by decide)]
            unfold xt_failHere
            rw [ct_fail rp1.2.2.1, c5]
            have tm8 := q5.2.1
            have iA := rt_wordAt (i := p') (code := 6385252) (w := vAnd) hb tm8 (uh_rc _ _ _ _) q1 q3 (by decide) (by decide) (by decide) (by decide +kernel)
            have iO := rt_wordAt (i := p') (code := 28530) (w := vOr) hb tm8 (uh_rc _ _ _ _) q1 q3 (by decide) (by decide) (by decide) (by decide +kernel)
            rw [tb_f c6.1] at iA
            rw [tb_f c6.2] at iO
            have hend := aft_end (p := p') (base := 91 :: st) hb c4 (Or.inr ⟨st, rfl⟩) (by rw [List.length_cons]; omega) (fun x y => absurd ⟨x, y⟩ h93) q4 iA iO
            have hmem : (91 : Int) ∈ rpl (pnd a o) ++ 91 :: st := List.mem_append_right _ (List.mem_cons_self ..)
            have hlen : (rpl (pnd a o) ++ 91 :: st).length < 400 := by
              rw [List.length_append, rpl_len, List.length_cons]; omega
            obtain ⟨r, r1, r2, r3, r4, r5⟩ := RP_see hb q5
            have hrp : r = p' := by omega
            subst hrp
            rw [uh_uh] at r4
            have ht2 : tendR (uh M1 146 8 (r : Int)) = some (0, uh (uh M1 146 8 (r : Int)) 146 9 (1 + 8 * (r : Int) + 0)) := by
              unfold tendR
              rw [in_yes (KS_8 c4) hlen hmem]
              simp only [obs]
              rw [if_neg (by decide), r4]
              simp only [obs]
              rw [uh_rc, rm_fails q5.2.2.2.1]
              simp only [obs]
              rw [if_pos (Or.inl (by decide))]
            refine ⟨_, rfl, HE_tr HE_1 (HE_tr b2 HE_1), Or.inl ⟨_, c1.trans (hend.trans ht2), HT_tr hta (HT_tr c2 (HT_tr (HT_1 (q := 8) (v := (r : Int)) (by omega)) (HT_1 (by omega)))), RF_mk rp1.1 tm8 hb1 c5 q1 q1 (by decide) (by decide), ?_, ?_⟩⟩
            · rw [uh_row (by decide), kc1.1]; omega
            · rw [uh_row (by decide), kc1.1]; omega
      · rw [if_neg (by omega)]
        have hd2 : d = 10 := by omega
        rw [op_no (c := 91) ks8 hd2 m9p e8] at fb0
        simp only [obs] at fb0
        rw [if_pos (by decide)] at fb0
        rw [ct_fail (by rw [uh_ro _ _ _ _ (by decide)]; exact rp.2.2.1)]
        have tcs : TC T n (uh s 1 2 ((skp (isB T) n (p + 1) : Nat) : Int)) := TC_u rp.1 (by decide)
        exact ⟨_, rfl, HE_tr HE_1 HE_1, Or.inl ⟨_, tst_0 (xm_fact_bad fb0), HT_tr (HT_1 (q := 8) (v := (p : Int)) (by omega)) (HT_1 (by omega)), RF_mk tcs p5.2.1 hb1 (uh_rc _ _ _ _) (skp_le (by omega)) p1 (by decide) (by decide), by rw [uh_row (by decide), uh_row (by decide), kc.1]; omega, by rw [uh_row (by decide), uh_row (by decide), kc.1]; omega⟩⟩
    · rw [if_neg hs]
      have hsn : ¬ w32 (if p < n then T p else -1) = w32 91 := by
        by_cases hp : p < n
        · have tbp := hb.2 p hp
          rw [if_pos hp, w32_eq (x := T p) (by omega) (by omega), show w32 91 = 91 by decide]
          exact fun q => hs ⟨hp, q⟩
        · rw [if_neg hp]; decide
      rw [if_neg hsn] at fb0
      simp only [obs]
      rw [if_pos (c := w32 0 = 0) (by decide)]
      unfold xr_readFact_j59
      rw [if_pos (c := w32 0 = 0) (by decide)]
      obtain ⟨s1, b, M1, a1, a2, a3, a4, a5⟩ := lf_both hb kr8
      have hle : ∃ s1', leafC s = some s1' := ⟨s1, a1⟩
      have hfa : xm_fact M = some (b, M1) := by
        rw [xm_fact_leaf fb0, a2]
        simp only [obs]
        exact bl_01 (by rcases a5 with a5 | a5
                        · exact Or.inr a5.1
                        · exact Or.inl a5.1)
      refine ⟨s1, a1, a3, ?_⟩
      rcases a5 with ⟨rfl, te, k1, kr1, hk1, hl1, hty⟩ | ⟨rfl, kf⟩
      · refine Or.inr ⟨M1, te, k1, tst_1 hfa, HT_tr (HT_1 (q := 8) (v := (p : Int)) (by omega)) (HT_u a4), kr1, KS_u ks8 a4, hk1, by omega, fun b hb2 => hty b (by omega)⟩
      · exact Or.inl ⟨M1, tst_0 hfa, HT_tr (HT_1 (q := 8) (v := (p : Int)) (by omega)) (HT_u a4), kf⟩
end FA
