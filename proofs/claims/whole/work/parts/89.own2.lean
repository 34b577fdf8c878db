/-! own: both sides -/
def FQ (s t : Hp) : Prop := ∀ P, ¬ (42 ≤ P ∧ P ≤ 54) → ¬ (56 ≤ P ∧ P ≤ 129) → t P = s P
theorem FQ_sc {s t : Hp} (h : FQ s t) : SameC s t := ⟨fun P hP => h P (by unfold VC at hP; omega) (by unfold VC at hP; omega), by rw [h 130 (by decide) (by decide)], by rw [h 130 (by decide) (by decide)]⟩
theorem cl_keepRow {s : Hp} {p : Int} : ∃ s1, xg_keepRow s p = some s1 ∧ (∀ P, P ≠ 54 → P ≠ 57 → s1 P = s P) ∧ s1 54 3 = p ∧ ∀ i, i < 8 → s1 57 i = s 56 i := by
  unfold xg_keepRow
  simp only [obs]
  rw [if_pos (by decide)]
  refine ⟨_, rfl, fun P h1 h2 => ?_, ?_, fun i hi => ?_⟩
  · rw [uc_row h2, uh_row h1]
  · rw [uc_row (by decide), uh_rc]
  · rw [uc_at, if_pos ⟨rfl, hi⟩, uh_row (by decide)]
section OW
variable {n m b wn : Nat} {ln : Nat → Nat} {rs : Nat → Int} {ur : Int} {ro : Option (List Cls)}
theorem so_loop {s : Hp} {K : Pic} {a3 : Nat} (hb : b < m) (hwn : wn < 256) (h0 : 0 < n) (w : WF K n m) (hl : LevR s) (hcr : CR ln s ur ro) : ∀ (j d : Nat) (t : Hp), d + j = 4 → 1 ≤ d → FQ s t → Cl t 58 K n m → t 54 3 = -1 → (∀ e, e < d → srch (stpO ro n b) (glO n b wn) e K = none) → ∃ r, lp (fun (q : Int × Hp) => xg_seekOwned_b37 ln rs q.2 ur a3 (b : Int) (wn : Int) q.1) ((d : Int), t) = some r ∧ FQ s r.2 ∧ FO (fun d => srch (stpO ro n b) (glO n b wn) d K) 3 (r.2 54 3) (r.2 57) := by
  intro j
  induction j with
  | zero =>
    intro d t hd h1 fq hc h54 hno
    refine ⟨((d : Int), t), lp_en ?_, fq, Or.inr ⟨fun e he => hno e (by omega), h54⟩⟩
    show xg_seekOwned_b37 ln rs t ur a3 (b : Int) (wn : Int) (d : Int) = _
    unfold xg_seekOwned_b37
    rw [w32_eq (x := (d : Int)) (by omega) (by omega), show w32 3 = 3 by decide, if_pos (by omega)]
  | succ j ih =>
    intro d t hd h1 fq hc h54 hno
    obtain ⟨r, rfl⟩ : ∃ r, d = r + 1 := ⟨d - 1, by omega⟩
    obtain ⟨s1, e1, e2, e3⟩ := co_main (rs := rs) (wn := wn) hb hwn h0 r 6 0 (by omega) (by omega) K t hc w (fun i hi => by rw [fq 55 (by decide) (by decide)]; exact hl i hi) (CR_row hcr (fun P hP => fq P (by omega) (by omega)))
    have fq1 : FQ s s1 := fun P p1 p2 => by rw [e2.1 P (by omega) (by omega) (by omega)]; exact fq P p1 p2
    have h541 : s1 54 3 = -1 := by rw [e2.1 54 (by decide) (by decide) (by decide)]; exact h54
    have e1 : xg_ownsBy ln rs t ur (b : Int) (wn : Int) 0 ((r + 1 : Nat) : Int) = some (if (srch (stpO ro n b) (glO n b wn) (r + 1) K).isSome = true then 1 else 0, s1) := e1
    cases hsr : srch (stpO ro n b) (glO n b wn) (r + 1) K with
    | none =>
      rw [hsr] at e1
      have e1 : xg_ownsBy ln rs t ur (b : Int) (wn : Int) 0 ((r + 1 : Nat) : Int) = some (0, s1) := e1
      obtain ⟨q, q1, q2, q3⟩ := ih (r + 1 + 1) s1 (by omega) (by omega) fq1 (Cl_row hc (fun i hi => e2.1 _ (by omega) (by omega) (by omega))) h541 (fun e he => by
        by_cases hed : e = r + 1
        · rw [hed]; exact hsr
        · exact hno e (by omega))
      refine ⟨q, ?_, q2, q3⟩
      rw [lp_in (B := fun (q : Int × Hp) => xg_seekOwned_b37 ln rs q.2 ur a3 (b : Int) (wn : Int) q.1) (s := (((r + 1 : Nat) : Int), t)) (s1 := (((r + 1 + 1 : Nat) : Int), s1))]
      · exact q1
      · show xg_seekOwned_b37 ln rs t ur a3 (b : Int) (wn : Int) ((r + 1 : Nat) : Int) = _
        unfold xg_seekOwned_b37
        rw [w32_eq (x := ((r + 1 : Nat) : Int)) (by omega) (by omega), show w32 3 = 3 by decide, if_neg (by omega), h54, if_pos rfl, e1]
        simp only [obs]
        rw [if_pos (by decide), show ((r + 1 + 1 : Nat) : Int) = ((r + 1 : Nat) : Int) + 1 by omega]
    | some row =>
      rw [hsr] at e1
      have e1 : xg_ownsBy ln rs t ur (b : Int) (wn : Int) 0 ((r + 1 : Nat) : Int) = some (1, s1) := e1
      obtain ⟨v, v1, v2, v3, v4⟩ := cl_keepRow (s := s1) (p := ((r + 1 : Nat) : Int))
      refine ⟨(((r + 1 : Nat) : Int) + 1, v), ?_, fun P p1 p2 => ?_, Or.inl ⟨r + 1, row, by omega, hsr, hno, v3, fun i hi => ?_⟩⟩
      · rw [lp_in (B := fun (q : Int × Hp) => xg_seekOwned_b37 ln rs q.2 ur a3 (b : Int) (wn : Int) q.1) (s := (((r + 1 : Nat) : Int), t)) (s1 := (((r + 1 : Nat) : Int) + 1, v))]
        · refine lp_en ?_
          show xg_seekOwned_b37 ln rs v ur a3 (b : Int) (wn : Int) (((r + 1 : Nat) : Int) + 1) = _
          unfold xg_seekOwned_b37
          rw [v3, w32_eq (x := ((r + 1 : Nat) : Int)) (by omega) (by omega), show w32 (-1) = -1 by decide, if_neg (c := ((r + 1 : Nat) : Int) = -1) (by omega)]
          split <;> rfl
        · show xg_seekOwned_b37 ln rs t ur a3 (b : Int) (wn : Int) ((r + 1 : Nat) : Int) = _
          unfold xg_seekOwned_b37
          rw [w32_eq (x := ((r + 1 : Nat) : Int)) (by omega) (by omega), show w32 3 = 3 by decide, if_neg (by omega), h54, if_pos rfl, e1]
          simp only [obs]
          rw [if_neg (by decide), v1]
          rfl
      · show v P = _
        rw [v2 P (by omega) (by omega)]; exact fq1 P p1 p2
      · show v 57 i = _
        rw [v4 i (by omega)]
        have := e3 row hsr i hi
        rw [Nat.zero_add] at this
        exact this
theorem so_seek {s : Hp} {K : Pic} (hb : b < m) (hwn : wn < 256) (h0 : 0 < n) (w : WF K n m) (hc : Cl s 17 K n m) (hl : LevR s) (hcr : CR ln s ur ro) : ∃ s1, xg_seekOwned ln rs s ur 17 (b : Int) (wn : Int) = some s1 ∧ FQ s s1 ∧ FO (fun d => srch (stpO ro n b) (glO n b wn) d K) 3 (s1 54 3) (s1 57) := by
  have w8 := w.1
  have w4 := w.2.1
  unfold xg_seekOwned
  simp only [obs]
  rw [ix0 (by decide) (by decide)]
  simp only [obs]
  rw [show lvA (uh s 54 3 (-1) 55 0) 0 = some 58 by unfold lvA; rw [uh_row (by decide), hl 0 (by decide), if_pos ⟨rfl, by decide⟩]]
  simp only [obs]
  obtain ⟨o9, c1, c2, c3⟩ := cl_copy (s := uh s 54 3 (-1)) (a0 := 58) (a1 := 17) (by omega)
  rw [c1]
  simp only [obs]
  have f9 : FQ s o9 := fun P p1 p2 => by rw [c2 P (by omega), uh_row (by omega)]
  have hc9 : Cl o9 17 K n m := Cl_row hc (fun i hi => f9 _ (by omega) (by omega))
  have hc58 : Cl o9 58 K n m := Cl_cp (s := uh s 54 3 (-1)) (a1 := 17) (Cl_row hc (fun i hi => uh_row (by omega))) w c3
  have h549 : o9 54 3 = -1 := by rw [c2 54 (by omega), uh_rc]
  have hcs : csN K n b < 256 := bts_8 w8
  have hlt : wn &&& (255 ^^^ csN K n b) < 256 := Nat.lt_of_le_of_lt Nat.and_le_left hwn
  rw [cl_cellsOf hc9 w (by omega) (by omega)]
  simp only [obs]
  have hbn : bAnd (wn : Int) (bXor ((bts (fun c => K 4 c = (b : Int)) n : Nat) : Int) (-1)) = ((wn &&& (255 ^^^ csN K n b) : Nat) : Int) := bNot hwn hcs
  rw [hbn, w32_eq (by omega) (by omega)]
  have es : srch (stpO ro n b) (glO n b wn) 0 K = if glO n b wn K = true then some [] else none := rfl
  by_cases hz : wn &&& (255 ^^^ csN K n b) = 0
  · have hg : glO n b wn K = true := decide_eq_true hz
    rw [if_pos (by omega)]
    obtain ⟨v, v1, v2, v3, v4⟩ := cl_keepRow (s := o9) (p := 0)
    rw [v1]
    simp only [obs]
    have e : lp (fun (q : Int × Hp) => xg_seekOwned_b37 ln rs q.2 ur 17 (b : Int) (wn : Int) q.1) (1, v) = some (1, v) := by
      refine lp_en ?_
      show xg_seekOwned_b37 ln rs v ur 17 (b : Int) (wn : Int) 1 = _
      unfold xg_seekOwned_b37
      rw [if_neg (by decide), v3, if_neg (by decide)]
    rw [e]
    refine ⟨v, rfl, fun P p1 p2 => by rw [v2 P (by omega) (by omega)]; exact f9 P p1 p2, Or.inl ⟨0, [], by omega, by show srch (stpO ro n b) (glO n b wn) 0 K = _; rw [es, if_pos hg], fun e he => by omega, v3, fun i hi => by omega⟩⟩
  · have hg : glO n b wn K = false := decide_eq_false hz
    rw [if_neg (by omega)]
    obtain ⟨r, r1, r2, r3⟩ := so_loop (rs := rs) (wn := wn) (a3 := 17) hb hwn h0 w hl hcr 3 1 o9 (by omega) (by omega) f9 hc58 h549 (fun e he => by
      have : e = 0 := by omega
      subst this
      rw [es, hg]
      rfl)
    have r1 : lp (fun (q : Int × Hp) => xg_seekOwned_b37 ln rs q.2 ur 17 (b : Int) (wn : Int) q.1) (1, o9) = some r := r1
    rw [r1]
    exact ⟨r.2, rfl, r2, r3⟩
theorem HS_own {M : Hp} (hb : b < m) (h0 : 0 < n) (hm : m ≤ 4) (hrr : ∀ u, FX M u → RR u ro) : HS n m (b : Int) (stpO ro n b) M := by
  intro u K f fx hR w hf
  have w8 := w.1
  have wl := w.2.2.2.2.1
  have hi := rm_isFolded (s := u) (ro := ro) (b := b) (f := f) hR w (hrr u fx) hb (by omega) hf
  have es : stepM (b : Int) u (f : Int) = xm_isFolded u (b : Int) (f : Int) := by
    unfold stepM
    rw [w32_eq (x := (b : Int)) (by omega) (by omega), if_neg (by omega)]
  rw [es]
  by_cases hc : canF (K 1) (K 3) (K 6) n (f / 4) (f % 2) ∧ tot ro K n b (f / 4) (f / 2 % 2) (f % 2) ≤ K 8 b
  · rw [stpO_y hc]
    refine ⟨fun q => (by cases q), fun K1 hK => ?_⟩
    cases hK
    obtain ⟨u1, e1, e2, e3⟩ := hi.2 hc
    exact ⟨u1, e1, e2, WF_fd w hb hf (Nat.mod_lt _ (by decide)) hc.2, e3⟩
  · rw [stpO_n hc]
    obtain ⟨u1, e1, e2⟩ := hi.1 hc
    exact ⟨fun _ => ⟨u1, e1, FD_pk e2⟩, fun K1 hK => (by cases hK)⟩
theorem HG_own {M : Hp} (hb : b < m) (hm : m ≤ 4) (hwn : wn < 256) : HG n m (b : Int) (wn : Int) (glO n b wn) M := by
  intro u K fx hR w
  have w8 := w.1
  have hcs : csN K n b < 256 := bts_8 w8
  have hlt : wn &&& (255 ^^^ csN K n b) < 256 := Nat.lt_of_le_of_lt Nat.and_le_left hwn
  have hbn : bAnd (wn : Int) (bXor ((bts (fun c => K 4 c = (b : Int)) n : Nat) : Int) (-1)) = ((wn &&& (255 ^^^ csN K n b) : Nat) : Int) := bNot hwn hcs
  unfold xm_isGoal
  rw [w32_eq (x := (b : Int)) (by omega) (by omega), if_neg (by omega), rm_cellsOf hR w (by omega) (by omega)]
  simp only [obs]
  rw [hbn, w32_eq (by omega) (by omega)]
  unfold glO
  by_cases hz : wn &&& (255 ^^^ csN K n b) = 0
  · rw [if_pos (by omega), decide_eq_true hz]; rfl
  · rw [if_neg (by omega), decide_eq_false hz]; rfl
end OW
/-- what was said is laid back behind a search -/
theorem back_same {M A u v : Hp} (a2 : ∀ P, P ≠ 160 → A P = M P) (a3 : ∀ i, i < 45 → A 160 i = M 156 (10 + i)) (hu : FY A u) (v2 : ∀ P, P ≠ 156 → v P = u P) (v3 : ∀ i, i < 45 → v 156 (10 + i) = u 160 i) (v4 : ∀ q, q < 10 ∨ 55 ≤ q → v 156 q = u 156 q) : SameM M v := by
  have v146 : ∀ q, q ≠ 18 → q ≠ 30 → v 146 q = M 146 q := fun q h1 h2 => by rw [v2 146 (by decide), hu.2.1 q h1 h2, a2 146 (by decide)]
  refine ⟨fun P hP => ?_, v146 1 (by decide) (by decide), v146 2 (by decide) (by decide), v146 21 (by decide) (by decide), v146 22 (by decide) (by decide), v146 26 (by decide) (by decide)⟩
  by_cases h6 : P = 156
  · subst h6
    funext q
    by_cases hq : 10 ≤ q ∧ q < 55
    · have := v3 (q - 10) (by omega)
      rw [show 10 + (q - 10) = q by omega] at this
      rw [this, hu.1 160 (by decide) (by decide) (by decide) (by decide) (by decide) (by decide) (by decide) (by decide), a3 _ (by omega), show 10 + (q - 10) = q by omega]
    · rw [v4 q (by omega), hu.2.2 q (by omega), a2 156 (by decide)]
  · unfold VM at hP
    rw [v2 P h6, hu.1 P (by omega) (by omega) (by omega) h6 (by omega) (by omega) (by omega) (by omega), a2 P (by omega)]
section OWC
variable {n : Nat} {w : pm_H}
theorem call_20 (hn : n < 512) (h : Inv n w) (a1 a2 a3 a4 a5 : Int32) : ob_ok 20 [a1, a2, a3, a4, a5] w (Inv (n + 1)) := by
  obtain ⟨sh, ln, s, M, ib, ds, rel⟩ := h
  obtain ⟨tp, ru, ⟨K, c, m, sr, pa⟩, im, bo, le⟩ := id rel
  have bp := bi a1
  have bq := bi a2
  have br := bi a3
  have key : ∃ r s1 M1, xf_own ln (rsF s) s a1.toInt a2.toInt a3.toInt = some (r, s1) ∧ xm_own M a1.toInt a2.toInt a3.toInt = some (r, M1) ∧ SameC s s1 ∧ SameM M M1 := by
    generalize a1.toInt = p at bp
    generalize a2.toInt = q at bq
    generalize a3.toInt = o at br
    have W := sr.1
    obtain ⟨w8, w4, w0, w2, wl, wz, -⟩ := id W
    have smr : SameM M M := ⟨fun _ _ => rfl, rfl, rfl, rfl, rfl, rfl⟩
    have hsh : ∀ x : Nat, x ≤ 8 → bShl 1 (x : Int) = ((2 ^ x : Nat) : Int) ∧ 2 ^ x ≤ 256 := by
      intro x hx
      have h2 : 2 ^ x ≤ 2 ^ 8 := Nat.pow_le_pow_right (by decide) hx
      refine ⟨?_, h2⟩
      have := bShl_n (x := 1) (k := x) (by omega) (by omega)
      rw [Nat.one_mul] at this
      exact this
    obtain ⟨hs1, hs2⟩ := hsh c w8
    generalize 2 ^ c = T at hs1 hs2
    unfold xf_own xm_own
    rw [cl_hasPerson sr.2.1 W bp.1 bp.2, rm_isPerson sr.2.2.1 W bp.1 bp.2, w32_eq (x := q) bq.1 bq.2, w32_eq (x := o) br.1 br.2, rm_in (v := o) (by omega) (by omega) (by omega) (by omega) (by omega) (by omega), show s 17 0 = (c : Int) from sr.2.1.1, ix0 (by decide) (by decide), show w32 1 = 1 by decide, show w32 (-1) = -1 by decide, show w32 3 = 3 by decide]
    simp only [obs, tb0]
    rw [sr.2.2.1.1, hs1, w32_eq (x := ((T : Nat) : Int)) (by omega) (by omega)]
    by_cases c1 : 0 ≤ p ∧ p < (m : Int)
    · rw [if_neg (c := ¬ (0 ≤ p ∧ p < (m : Int))) (fun k => k c1), if_neg (c := ¬ (0 ≤ p ∧ p < (m : Int))) (fun k => k c1)]
      by_cases c2 : q < 1
      · rw [if_pos c2, if_pos c2]
        exact ⟨-3, s, M, rfl, rfl, sameC_rf, smr⟩
      rw [if_neg c2, if_neg c2]
      by_cases c3 : q < ((T : Nat) : Int)
      · rw [if_pos c3, if_pos c3]
        by_cases c4 : -1 ≤ o ∧ o ≤ 2
        · rw [if_neg (c := o < -1) (by omega), if_pos (c := o < 3) (by omega), if_neg (c := ¬ (-1 ≤ o ∧ o ≤ 2)) (fun k => k c4)]
          obtain ⟨b, rfl⟩ : ∃ x : Nat, p = (x : Int) := ⟨p.toNat, by omega⟩
          obtain ⟨wn, rfl⟩ : ∃ x : Nat, q = (x : Int) := ⟨q.toNat, by omega⟩
          have hb : b < m := by omega
          have hwn : wn < 256 := by omega
          have h0 : 0 < c := by
            cases Nat.eq_zero_or_pos c with
            | inl h => have := (w0 h).1; omega
            | inr h => exact h
          obtain ⟨u, ro, u1, u2, u3⟩ := rule_of (rs := rsF s) ru (fun i hi => rsF_at hi) sr.2.2.2.2.2.2.2.2.1 sr.2.2.2.2.2.2.2.2.2.1
          have eu : xf_ruleInForce ln (rsF s) s = some u := by
            unfold xf_ruleInForce
            rw [sr.2.2.2.2.2.2.2.1, u1 s rfl rfl]
            rfl
          obtain ⟨s1, e1, e2, e3⟩ := so_seek (rs := rsF s) (b := b) (wn := wn) hb hwn h0 W sr.2.1 le u2
          obtain ⟨r, e4, e5⟩ := cl_answer e3 (by decide) (p := o) c4.1 (by omega)
          rw [eu]
          simp only [obs]
          rw [e1]
          simp only [obs]
          rw [e4]
          simp only [obs]
          obtain ⟨A, k1, k2, k3⟩ := rm_keeps (M := M)
          rw [k1]
          simp only [obs]
          obtain ⟨B, f1, f2, f3⟩ := fr_few (x2 := (b : Int)) (x3 := (wn : Int)) (stp := stpO ro c b) (gl := glO c b wn) (u := A) (n := c) (m := m) h0 (HS_own hb h0 w4 (fun v hv => u3 v (by rw [hv.2.1 21 (by decide), uh_ro _ _ _ _ (by decide), k2 146 (by decide)]) (by rw [hv.1 148 (by decide) (by decide) (by decide) (by decide) (by decide) (by decide) (by decide) (by decide), uh_row (by decide), k2 148 (by decide)]) (by rw [hv.1 150 (by decide) (by decide) (by decide) (by decide) (by decide) (by decide) (by decide) (by decide), uh_row (by decide), k2 150 (by decide)]) (by rw [hv.1 151 (by decide) (by decide) (by decide) (by decide) (by decide) (by decide) (by decide) (by decide), uh_row (by decide), k2 151 (by decide)]))) (HG_own hb w4 hwn) (most := 3) (by decide) (K := K) W (by rw [k2 156 (by decide)]; exact sr.2.2.1)
          have f1 : xm_findsFewest A 3 (b : Int) (wn : Int) = some B := f1
          rw [f1]
          simp only [obs]
          obtain ⟨v, v1, v2, v3, v4⟩ := rm_laysBack (M := B)
          rw [v1]
          simp only [obs]
          obtain ⟨r2, g1, g2⟩ := rm_answer (S := fun d => srch (stpO ro c b) (glO c b wn) d K) (most := 3) (u := v) (by rw [v2 146 (by decide), v2 161 (by decide)]; exact f3) (by decide) (p := o) c4.1 (by omega)
          rw [g1]
          simp only [obs]
          have : r = r2 := ansF_u e5 g2
          subst this
          exact ⟨r, s1, v, rfl, rfl, FQ_sc e2, back_same k2 k3 f2 v2 v3 v4⟩
        · rw [if_pos (c := ¬ (-1 ≤ o ∧ o ≤ 2)) c4]
          refine ⟨-3, s, M, ?_, rfl, sameC_rf, smr⟩
          by_cases h5 : o < -1
          · rw [if_pos h5]
          · rw [if_neg h5, if_neg (by omega)]
      · rw [if_neg c3, if_neg c3]
        exact ⟨-3, s, M, rfl, rfl, sameC_rf, smr⟩
    · rw [if_pos (c := ¬ (0 ≤ p ∧ p < (m : Int))) c1, if_pos (c := ¬ (0 ≤ p ∧ p < (m : Int))) c1]
      exact ⟨-3, s, M, rfl, rfl, sameC_rf, smr⟩
  obtain ⟨r, s1, M1, e1, e2, e3, e4⟩ := key
  exact ob_na (args := [.int (Int32.ofInt a1.toInt), .int (Int32.ofInt a2.toInt), .int (Int32.ofInt a3.toInt)]) hn rfl (by rw [← vi, ← vi, ← vi]; rfl) ib (fun P kr => xf_own_ok (w0 := w) ib.2.2.1 (rsF_ok ds) ⟨ib.1, Fr_rf⟩ e1 (fun w1 h1 => kr w1 h1)) (fun w1 h1 P kr => xm_own_ok (w0 := w1) StM_M ⟨h1, Fr_rf⟩ e2 (fun w2 h2 => kr w2 h2)) (DS_cg ds (e3.1 15 (by unfold VC; omega)) (e3.1 38 (by unfold VC; omega)) (e3.1 40 (by unfold VC; omega))) (REL_cg rel e3 e4)
end OWC
