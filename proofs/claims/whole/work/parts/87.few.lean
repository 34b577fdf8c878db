/-! the fewest folds, by the reference -/
def FO (S : Nat → Option (List Nat)) (most : Nat) (len : Int) (best : Nat → Int) : Prop := (∃ d row, d ≤ most ∧ S d = some row ∧ (∀ e, e < d → S e = none) ∧ len = ((d : Nat) : Int) ∧ ∀ i, i < d → best i = ((row.getD i 0 : Nat) : Int)) ∨ ((∀ d, d ≤ most → S d = none) ∧ len = -1)
def FY (M u : Hp) : Prop := (∀ P, P ≠ 146 → P ≠ 154 → P ≠ 155 → P ≠ 156 → P ≠ 157 → P ≠ 158 → P ≠ 161 → P ≠ 162 → u P = M P) ∧ (∀ q, q ≠ 18 → q ≠ 30 → u 146 q = M 146 q) ∧ ∀ q, q < 10 ∨ 55 ≤ q → u 156 q = M 156 q
section FR
variable {n m : Nat} {x2 x3 : Int} {stp : Pic → Nat → Option Pic} {gl : Pic → Bool} {M : Hp}
theorem FX_156 {u v : Hp} (h : FX M u) (g1 : ∀ P, P ≠ 156 → v P = u P) (g2 : ∀ q, q < 10 ∨ 55 ≤ q → v 156 q = u 156 q) : FX M v := ⟨fun P h1 h2 h3 h4 h5 h6 h7 h8 => (g1 P h4).trans (h.1 P h1 h2 h3 h4 h5 h6 h7 h8), fun q h1 => by rw [g1 146 (by decide)]; exact h.2.1 q h1, fun q hq => (g2 q hq).trans (h.2.2 q hq)⟩
theorem fr_row (h0 : 0 < n) (hs : HS n m x2 stp M) (hg : HG n m x2 x3 gl M) {many : Nat} (h8 : many ≤ 8) {u : Hp} {K : Pic} (fx : FX M u) (w : WF K n m) (hR : Rf (u 156) K n m) : ∃ u', xm_findsRow u (many : Int) x2 x3 = some (if (srch stp gl many K).isSome = true then 1 else 0, u') ∧ FX M u' ∧ (∀ i, i < 45 → u' 162 i = u 156 (10 + i)) ∧ ∀ row, srch stp gl many K = some row → ∀ i, i < many → u' 161 i = ((row.getD i 0 : Nat) : Int) := by
  unfold xm_findsRow
  rw [ix0 (by decide) (by decide)]
  simp only [obs]
  obtain ⟨z, z1, z2, z3, -⟩ := rm_keepsPlace (u := uh u 161 0 (-1)) (k := 0) (by decide) (y := 0) rfl
  rw [z1]
  simp only [obs]
  have z3 : ∀ i, i < 45 → z 162 i = u 156 (10 + i) := fun i hi => by
    have := z3 i hi
    rw [uh_row (by decide), show 45 * 0 + i = i by omega] at this
    exact this
  have z156 : z 156 = u 156 := by rw [z2 156 (by decide), uh_row (by decide)]
  have fz : FX M z := by
    have g := FX_161 (i := 0) (v := -1) fx
    exact ⟨fun P h1 h2 h3 h4 h5 h6 h7 h8 => by rw [z2 P h8]; exact g.1 P h1 h2 h3 h4 h5 h6 h7 h8, fun q h1 => by rw [z2 146 (by decide)]; exact g.2.1 q h1, fun q hq => by rw [z2 156 (by decide)]; exact g.2.2 q hq⟩
  rw [w32_eq (x := (many : Int)) (by omega) (by omega)]
  cases many with
  | zero =>
    rw [if_pos (show ((0 : Nat) : Int) = 0 from rfl), hg z K fz (by rw [z156]; exact hR) w]
    simp only [obs]
    have es : srch stp gl 0 K = if gl K = true then some [] else none := rfl
    rw [es]
    by_cases hgl : gl K = true
    · rw [if_pos hgl, if_pos hgl, if_pos (by decide)]
      exact ⟨z, rfl, fz, z3, fun row _ i hi => by omega⟩
    · rw [if_neg hgl, if_neg hgl, if_pos (by decide)]
      exact ⟨z, rfl, fz, z3, fun row _ i hi => by omega⟩
  | succ r =>
    rw [if_neg (by omega)]
    have er : rsd z 0 = u 156 := by
      funext i
      unfold rsd
      by_cases h : 10 ≤ i ∧ i < 55
      · rw [if_pos h, show 45 * 0 + (i - 10) = i - 10 by omega, z3 _ (by omega), show 10 + (i - 10) = i by omega]
      · rw [if_neg h, z156]
    obtain ⟨i1, i2⟩ := bt_main h0 hs hg h8 r 0 (by omega) (LCk K) 0 K z (by omega) fz w (by rw [er]; exact hR) (by rw [z2 161 (by decide), uh_rc]; rfl)
    rw [srch_s]
    cases hsr : frm (ggS stp gl r K) 0 (LCk K) with
    | some row =>
      obtain ⟨u', e1, e2, e3, e4, e5⟩ := i1 row hsr
      have e1 : lp (fun (q : Int × Hp) => xm_findsRow_b26 q.2 ((r + 1 : Nat) : Int) x2 x3 q.1) (0, z) = some (.inr (1, u')) := e1
      rw [e1]
      refine ⟨u', rfl, e2, fun i hi => by rw [e4 i (by omega)]; exact z3 i hi, fun row2 h2 i hi => ?_⟩
      cases h2
      have := e5 i (by omega)
      rw [Nat.zero_add] at this
      exact this
    | none =>
      obtain ⟨u', e1, e2, e3, e4⟩ := i2 hsr
      have e1 : lp (fun (q : Int × Hp) => xm_findsRow_b26 q.2 ((r + 1 : Nat) : Int) x2 x3 q.1) (0, z) = lp (fun (q : Int × Hp) => xm_findsRow_b26 q.2 ((r + 1 : Nat) : Int) x2 x3 q.1) (-1, u') := e1
      have e6 : lp (fun (q : Int × Hp) => xm_findsRow_b26 q.2 ((r + 1 : Nat) : Int) x2 x3 q.1) (-1, u') = some (.inl (-1, u')) := by
        refine lp_en ?_
        show xm_findsRow_b26 u' ((r + 1 : Nat) : Int) x2 x3 (-1) = _
        rw [b26_e, if_pos (by decide)]
      rw [e1, e6]
      exact ⟨u', rfl, e2, fun i hi => by rw [e4 i (by omega)]; exact z3 i hi, fun row2 h2 => (by cases h2)⟩
theorem fr_loop (h0 : 0 < n) (hs : HS n m x2 stp M) (hg : HG n m x2 x3 gl M) (hM : M 146 30 = -1) {most : Nat} (h7 : most ≤ 7) {K : Pic} (w : WF K n m) : ∀ (j d : Nat) (u : Hp), d + j = most + 1 → FX M u → Rf (u 156) K n m → (∀ e, e < d → srch stp gl e K = none) → ∃ r, lp (fun (q : Int × Hp) => xm_findsFewest_b8 q.2 (most : Int) x2 x3 q.1) ((d : Int), u) = some r ∧ FY M r.2 ∧ FO (fun d => srch stp gl d K) most (r.2 146 30) (r.2 161) := by
  intro j
  induction j with
  | zero =>
    intro d u hd fx hR hno
    refine ⟨((d : Int), u), lp_en ?_, ⟨fx.1, fun q h1 _ => fx.2.1 q h1, fx.2.2⟩, Or.inr ⟨fun e he => hno e (by omega), by show u 146 30 = -1; rw [fx.2.1 30 (by decide)]; exact hM⟩⟩
    show xm_findsFewest_b8 u (most : Int) x2 x3 (d : Int) = _
    unfold xm_findsFewest_b8
    rw [w32_eq (x := (most : Int)) (by omega) (by omega), w32_eq (x := (d : Int)) (by omega) (by omega), if_pos (by omega)]
  | succ j ih =>
    intro d u hd fx hR hno
    obtain ⟨u', e1, e2, e3, e4⟩ := fr_row h0 hs hg (many := d) (by omega) fx w hR
    have h30 : u 146 30 = -1 := by rw [fx.2.1 30 (by decide)]; exact hM
    have hl : ∀ v : Hp, (∀ P, P ≠ 146 → v P = u' P) → ∃ v1, xm_laysPlace v 0 = some v1 ∧ (∀ P, P ≠ 156 → v1 P = v P) ∧ v1 156 = u 156 := fun v hv => by
      obtain ⟨v1, a1, a2, a3⟩ := rm_laysPlace (u := v) (k := 0) (by decide)
      refine ⟨v1, a1, a2, ?_⟩
      rw [a3]
      funext i
      unfold rsd
      by_cases h : 10 ≤ i ∧ i < 55
      · rw [if_pos h, show 45 * 0 + (i - 10) = i - 10 by omega, hv 162 (by decide), e3 _ (by omega), show 10 + (i - 10) = i by omega]
      · rw [if_neg h, hv 156 (by decide), e2.2.2 i (by omega), fx.2.2 i (by omega)]
    have hb : ∀ k : Int × Hp → Option ((Int × Hp) ⊕ (Int × Hp)), True := fun _ => trivial
    cases hsr : srch stp gl d K with
    | none =>
      rw [hsr] at e1
      have e1 : xm_findsRow u (d : Int) x2 x3 = some (0, u') := e1
      obtain ⟨v1, a1, a2, a3⟩ := hl u' (fun _ _ => rfl)
      have fv : FX M v1 := FX_156 e2 a2 (fun q hq => by rw [a3, fx.2.2 q hq, e2.2.2 q hq])
      obtain ⟨r, r1, r2, r3⟩ := ih (d + 1) v1 (by omega) fv (by rw [a3]; exact hR) (fun e he => by
        by_cases hed : e = d
        · subst hed; exact hsr
        · exact hno e (by omega))
      refine ⟨r, ?_, r2, r3⟩
      rw [lp_in (s1 := (((d + 1 : Nat) : Int), v1))]
      · exact r1
      · show xm_findsFewest_b8 u (most : Int) x2 x3 (d : Int) = _
        unfold xm_findsFewest_b8
        rw [w32_eq (x := (most : Int)) (by omega) (by omega), w32_eq (x := (d : Int)) (by omega) (by omega), if_neg (by omega), h30, if_pos (by decide), e1]
        simp only [obs]
        rw [if_pos (by decide), a1]
        simp only [obs]
        rw [show ((d + 1 : Nat) : Int) = (d : Int) + 1 by omega]
    | some row =>
      rw [hsr] at e1
      have e1 : xm_findsRow u (d : Int) x2 x3 = some (1, u') := e1
      obtain ⟨v1, a1, a2, a3⟩ := hl (uh u' 146 30 (d : Int)) (fun P hP => uh_row hP)
      have v30 : v1 146 30 = (d : Int) := by rw [a2 146 (by decide), uh_rc]
      refine ⟨((d : Int) + 1, v1), ?_, ⟨fun P p1 p2 p3 p4 p5 p6 p7 p8 => ?_, fun q p1 p2 => ?_, fun q hq => ?_⟩, Or.inl ⟨d, row, by omega, hsr, hno, v30, fun i hi => ?_⟩⟩
      · rw [lp_in (s1 := ((d : Int) + 1, v1))]
        · refine lp_en ?_
          show xm_findsFewest_b8 v1 (most : Int) x2 x3 ((d : Int) + 1) = _
          unfold xm_findsFewest_b8
          rw [v30, w32_eq (x := (d : Int)) (by omega) (by omega), if_neg (c := (d : Int) < 0) (by omega)]
          split <;> rfl
        · show xm_findsFewest_b8 u (most : Int) x2 x3 (d : Int) = _
          unfold xm_findsFewest_b8
          rw [w32_eq (x := (most : Int)) (by omega) (by omega), w32_eq (x := (d : Int)) (by omega) (by omega), if_neg (by omega), h30, if_pos (by decide), e1]
          simp only [obs]
          rw [if_neg (by decide), a1]
          rfl
      · show v1 P = _
        rw [a2 P p4, uh_row p1]; exact e2.1 P p1 p2 p3 p4 p5 p6 p7 p8
      · show v1 146 q = _
        rw [a2 146 (by decide), uh_ro _ _ _ _ p2]; exact e2.2.1 q p1
      · show v1 156 q = _
        rw [a3]; exact fx.2.2 q hq
      · show v1 161 i = _
        rw [a2 161 (by decide), uh_row (by decide)]; exact e4 row hsr i hi
theorem fr_few (h0 : 0 < n) {u : Hp} (hs : HS n m x2 stp (uh u 146 30 (-1))) (hg : HG n m x2 x3 gl (uh u 146 30 (-1))) {most : Nat} (h7 : most ≤ 7) {K : Pic} (w : WF K n m) (hR : Rf (u 156) K n m) : ∃ u', xm_findsFewest u (most : Int) x2 x3 = some u' ∧ FY u u' ∧ FO (fun d => srch stp gl d K) most (u' 146 30) (u' 161) := by
  unfold xm_findsFewest
  simp only [obs]
  obtain ⟨r, r1, r2, r3⟩ := fr_loop h0 hs hg (uh_rc _ _ _ _) h7 w (most + 1) 0 (uh u 146 30 (-1)) (by omega) FX_rf (by rw [uh_row (by decide)]; exact hR) (fun e he => by omega)
  have r1 : lp (fun (q : Int × Hp) => xm_findsFewest_b8 q.2 (most : Int) x2 x3 q.1) (0, uh u 146 30 (-1)) = some r := r1
  rw [r1]
  refine ⟨r.2, rfl, ⟨fun P p1 p2 p3 p4 p5 p6 p7 p8 => ?_, fun q p1 p2 => ?_, fun q hq => ?_⟩, r3⟩
  · rw [r2.1 P p1 p2 p3 p4 p5 p6 p7 p8, uh_row p1]
  · rw [r2.2.1 q p1 p2, uh_ro _ _ _ _ p2]
  · rw [r2.2.2 q hq, uh_row (by decide)]
end FR
/-- an answer out of a row that was found -/
def ansF (S : Nat → Option (List Nat)) (most : Nat) (p r : Int) : Prop := (∃ d row, d ≤ most ∧ S d = some row ∧ (∀ e, e < d → S e = none) ∧ r = if p = -1 then ((d : Nat) : Int) else if p < ((d : Nat) : Int) then ((row.getD p.toNat 0 : Nat) : Int) else -2) ∨ ((∀ d, d ≤ most → S d = none) ∧ r = -2)
theorem ansF_u {S : Nat → Option (List Nat)} {most : Nat} {p r r2 : Int} (h : ansF S most p r) (g : ansF S most p r2) : r = r2 := by
  rcases h with ⟨d, row, h1, h2, h3, h4⟩ | ⟨h1, h2⟩
  · rcases g with ⟨d2, row2, g1, g2, g3, g4⟩ | ⟨g1, g2⟩
    · have : d = d2 := by
        by_cases hl : d < d2
        · have := g3 d hl
          rw [h2] at this
          cases this
        · by_cases hl2 : d2 < d
          · have := h3 d2 hl2
            rw [g2] at this
            cases this
          · omega
      subst this
      rw [h2] at g2
      cases g2
      rw [h4, g4]
    · have := g1 d h1
      rw [h2] at this
      cases this
  · rcases g with ⟨d2, row2, g1, g2, g3, g4⟩ | ⟨g1, g2⟩
    · have := h1 d2 g1
      rw [g2] at this
      cases this
    · rw [h2, g2]
theorem rm_answer {S : Nat → Option (List Nat)} {most : Nat} {u : Hp} (h : FO S most (u 146 30) (u 161)) (h7 : most ≤ 7) {p : Int} (p1 : -1 ≤ p) (p2 : p ≤ 7) : ∃ r, xm_answerOfRow u p = some r ∧ ansF S most p r := by
  unfold xm_answerOfRow
  rcases h with ⟨d, row, h1, h2, h3, h4, h5⟩ | ⟨h1, h2⟩
  · rw [h4, w32_eq (x := ((d : Nat) : Int)) (by omega) (by omega), w32_eq (x := p) (by omega) (by omega), show w32 (-1) = -1 by decide, if_neg (by omega)]
    by_cases hp : p = -1
    · rw [if_pos hp]
      exact ⟨_, rfl, Or.inl ⟨d, row, h1, h2, h3, by rw [if_pos hp]⟩⟩
    · rw [if_neg hp]
      by_cases hp2 : p < ((d : Nat) : Int)
      · rw [if_pos hp2, ixt (n := 9) p.toNat (by omega) (by omega) (by decide)]
        simp only [obs]
        exact ⟨_, rfl, Or.inl ⟨d, row, h1, h2, h3, by rw [if_neg hp, if_pos hp2, h5 _ (by omega)]⟩⟩
      · rw [if_neg hp2]
        exact ⟨_, rfl, Or.inl ⟨d, row, h1, h2, h3, by rw [if_neg hp, if_neg hp2]⟩⟩
  · rw [h2, if_pos (by decide)]
    exact ⟨_, rfl, Or.inr ⟨h1, rfl⟩⟩
theorem cl_answer {S : Nat → Option (List Nat)} {most : Nat} {s : Hp} (h : FO S most (s 54 3) (s 57)) (h7 : most ≤ 7) {p : Int} (p1 : -1 ≤ p) (p2 : p ≤ 7) : ∃ r, xg_answer s p = some r ∧ ansF S most p r := by
  unfold xg_answer
  rcases h with ⟨d, row, h1, h2, h3, h4, h5⟩ | ⟨h1, h2⟩
  · rw [h4, w32_eq (x := ((d : Nat) : Int)) (by omega) (by omega), w32_eq (x := p) (by omega) (by omega), show w32 (-1) = -1 by decide, show w32 8 = 8 by decide, if_neg (c := ((d : Nat) : Int) = -1) (by omega)]
    by_cases hp : p = -1
    · rw [if_pos hp]
      exact ⟨_, rfl, Or.inl ⟨d, row, h1, h2, h3, by rw [if_pos hp]⟩⟩
    · rw [if_neg hp, if_neg (by omega)]
      by_cases hp2 : p < ((d : Nat) : Int)
      · rw [if_pos hp2, if_pos (by omega), ixt (n := 8) p.toNat (by omega) (by omega) (by decide)]
        simp only [obs]
        exact ⟨_, rfl, Or.inl ⟨d, row, h1, h2, h3, by rw [if_neg hp, if_pos hp2, h5 _ (by omega)]⟩⟩
      · rw [if_neg hp2]
        exact ⟨_, rfl, Or.inl ⟨d, row, h1, h2, h3, by rw [if_neg hp, if_neg hp2]⟩⟩
  · rw [h2, if_pos rfl]
    exact ⟨_, rfl, Or.inr ⟨h1, rfl⟩⟩
