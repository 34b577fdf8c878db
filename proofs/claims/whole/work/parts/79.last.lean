/-! who folds last -/
def fT (w : Nat) : Int := [(-1 : Int), -1, 0, -1, 0, 1, 2, -1, 0].getD w (-1)
def winT (w : Nat) : Int := [(0 : Int), 0, 4, 4, 20, 52, 116, 116, 372].getD w 0
def gT (w : Nat) : Int := if fT w < 0 then -2 else fT w
def iT (w : Nat) : Nat → Int
  | 0 => -2
  | i + 1 => if gT (max (w - 1 - i) (i + 1)) < 0 then ((w - 2 - i : Nat) : Int) else iT w i
theorem iT_end : ∀ w, w < 8 → iT (w + 1) w = gT (w + 1) := by decide +kernel
theorem wn_in : ∀ w : Nat, w < 8 → itg (fun (q : Int × Int) => xf_winningPlace_b24 0 (winT w) q.1 ((w : Int) + 1) q.2) 10 ((-1), (w : Int) + 1 - 2) = some (fT (w + 1), -1) := by decide +kernel
theorem wn_st : ∀ w : Nat, w < 8 → (if w32 (fT (w + 1)) = w32 (-1) then (winT w, fT (w + 1), (w : Int) + 1 + 1) else (bOr (winT w) (bShl 1 ((w : Int) + 1)), fT (w + 1), (w : Int) + 1 + 1)) = (winT (w + 1), fT (w + 1), (((w + 1 : Nat) : Int)) + 1) := by decide +kernel
theorem cl_winning {W : Nat} (h8 : W ≤ 8) : xf_winningPlace (W : Int) = some (fT W) := by
  unfold xf_winningPlace
  refine Eq.trans (lpb_for (fun i => (winT i, fT i, (i : Int) + 1)) W (r := (winT W, fT W, (W : Int) + 1)) rfl (fun i hi => ?_) ?_) rfl
  · show xf_winningPlace_b6 (W : Int) (winT i) (fT i) ((i : Int) + 1) = _
    unfold xf_winningPlace_b6
    have e : lp (fun (q : Int × Int) => xf_winningPlace_b24 (W : Int) (winT i) q.1 ((i : Int) + 1) q.2) ((-1), (i : Int) + 1 - 2) = some (fT (i + 1), -1) := lp_iff.mpr ⟨10, wn_in i (by omega)⟩
    rw [w32_eq (x := (W : Int)) (by omega) (by omega), w32_eq (x := (i : Int) + 1) (by omega) (by omega), if_neg (by omega), if_neg (by rw [show w32 8 = 8 by decide]; omega), e]
    simp only [obs]
    have := wn_st i (by omega)
    split at this
    · rename_i h1
      rw [if_pos h1, this]
    · rename_i h1
      rw [if_neg h1, this]
  · show xf_winningPlace_b6 (W : Int) (winT W) (fT W) ((W : Int) + 1) = _
    unfold xf_winningPlace_b6
    rw [w32_eq (x := (W : Int)) (by omega) (by omega), w32_eq (x := (W : Int) + 1) (by omega) (by omega), if_pos (by omega)]
theorem iT_bd : ∀ w, w < 9 → ∀ i, i < 9 → -2 ≤ iT w i ∧ iT w i ≤ 8 := by decide +kernel
theorem gT_bd : ∀ w, w < 9 → -2 ≤ gT w ∧ gT w ≤ 8 := by decide +kernel
theorem rm_lastIn {M : Hp} {v : Nat} {x1 : Int} (h8 : v < 8) (h0 : ∀ q, 1 ≤ q → q < v + 1 → M 168 q = gT q) (h1 : M 168 (v + 1) = -2) : ∃ M1, lp (fun (q : Int × Hp) => xm_last_b44 q.2 x1 ((v + 1 : Nat) : Int) q.1) (((v + 1 : Nat) : Int) - 2, M) = some M1 ∧ (∀ P, P ≠ 168 → M1.2 P = M P) ∧ (∀ q, q ≠ v + 1 → M1.2 168 q = M 168 q) ∧ M1.2 168 (v + 1) = gT (v + 1) := by
  refine lp_forR (fun i (r : Int × Hp) => r.1 = (v : Int) - 1 - (i : Int) ∧ (∀ P, P ≠ 168 → r.2 P = M P) ∧ (∀ q, q ≠ v + 1 → r.2 168 q = M 168 q) ∧ r.2 168 (v + 1) = iT (v + 1) i) v _ ?_ ?_ ⟨by show ((v + 1 : Nat) : Int) - 2 = (v : Int) - 1 - ((0 : Nat) : Int); omega, fun _ _ => rfl, fun _ _ => rfl, h1⟩
  · rintro i ⟨x, t⟩ hi ⟨j1, j2, j3, j4⟩
    replace j1 : x = (v : Int) - 1 - (i : Int) := j1
    replace j2 : ∀ P, P ≠ 168 → t P = M P := j2
    replace j3 : ∀ q, q ≠ v + 1 → t 168 q = M 168 q := j3
    replace j4 : t 168 (v + 1) = iT (v + 1) i := j4
    have em : max (v + 1 - 1 - i) (i + 1) < v + 1 := by omega
    have e74 : ∀ k1 : Int, k1 = ((max (v + 1 - 1 - i) (i + 1) : Nat) : Int) → ∃ s1, xm_last_b44_j74 t x1 ((v + 1 : Nat) : Int) x k1 = some (.inl s1) ∧ s1.1 = (v : Int) - 1 - ((i + 1 : Nat) : Int) ∧ (∀ P, P ≠ 168 → s1.2 P = M P) ∧ (∀ q, q ≠ v + 1 → s1.2 168 q = M 168 q) ∧ s1.2 168 (v + 1) = iT (v + 1) (i + 1) := by
      intro k1 hk
      have hg := gT_bd (max (v + 1 - 1 - i) (i + 1)) (by omega)
      unfold xm_last_b44_j74
      rw [ixt (max (v + 1 - 1 - i) (i + 1)) hk (by omega) (by decide)]
      simp only [obs]
      rw [j3 _ (by omega), h0 _ (by omega) em, w32_eq (x := gT (max (v + 1 - 1 - i) (i + 1))) (by omega) (by omega)]
      have ei : iT (v + 1) (i + 1) = if gT (max (v + 1 - 1 - i) (i + 1)) < 0 then ((v + 1 - 2 - i : Nat) : Int) else iT (v + 1) i := rfl
      by_cases hl : gT (max (v + 1 - 1 - i) (i + 1)) < 0
      · rw [if_pos hl, ixt (j := ((v + 1 : Nat) : Int)) (v + 1) rfl (by omega) (by decide)]
        simp only [obs]
        refine ⟨_, rfl, by show x + -1 = _; omega, fun P hP => ?_, fun q hq => ?_, ?_⟩
        · show uh t 168 (v + 1) x P = _
          rw [uh_row hP]; exact j2 P hP
        · show uh t 168 (v + 1) x 168 q = _
          rw [uh_ro _ _ _ _ hq]; exact j3 q hq
        · show uh t 168 (v + 1) x 168 (v + 1) = _
          rw [uh_rc, ei, if_pos hl]; omega
      · rw [if_neg hl]
        refine ⟨_, rfl, by show x + -1 = _; omega, j2, j3, ?_⟩
        show t 168 (v + 1) = _
        rw [ei, if_neg hl]; exact j4
    show ∃ s1, xm_last_b44 t x1 ((v + 1 : Nat) : Int) x = some (.inl s1) ∧ _
    unfold xm_last_b44
    rw [w32_eq (x := x) (by omega) (by omega), if_neg (by omega), w32_eq (by omega) (by omega), w32_eq (x := x + 1) (by omega) (by omega)]
    by_cases hc : ((v + 1 : Nat) : Int) - x - 1 < x + 1
    · rw [if_pos hc]
      exact e74 _ (by omega)
    · rw [if_neg hc]
      exact e74 _ (by omega)
  · rintro ⟨x, t⟩ ⟨j1, j2, j3, j4⟩
    replace j1 : x = (v : Int) - 1 - (v : Int) := j1
    replace j4 : t 168 (v + 1) = iT (v + 1) v := j4
    refine ⟨(x, t), ?_, j2, j3, by show t 168 (v + 1) = _; rw [j4]; exact iT_end v h8⟩
    show xm_last_b44 t x1 ((v + 1 : Nat) : Int) x = _
    unfold xm_last_b44
    rw [w32_eq (x := x) (by omega) (by omega), if_pos (by omega)]
theorem rm_lastOut {M : Hp} {W : Nat} {x1 : Int} (hw : M 156 10 = (W : Int)) (h8 : W ≤ 8) : ∃ r, lp (fun (q : Int × Hp) => xm_last_b21 q.2 x1 q.1) (1, M) = some r ∧ (∀ P, P ≠ 168 → r.2 P = M P) ∧ ∀ q, 1 ≤ q → q ≤ W → r.2 168 q = gT q := by
  refine lp_forR (fun i (r : Int × Hp) => r.1 = (i : Int) + 1 ∧ (∀ P, P ≠ 168 → r.2 P = M P) ∧ ∀ q, 1 ≤ q → q ≤ i → r.2 168 q = gT q) W _ ?_ ?_ ⟨rfl, fun _ _ => rfl, fun q h1 h2 => by omega⟩
  · rintro i ⟨x, t⟩ hi ⟨j1, j2, j3⟩
    replace j1 : x = (i : Int) + 1 := j1
    replace j2 : ∀ P, P ≠ 168 → t P = M P := j2
    replace j3 : ∀ q, 1 ≤ q → q ≤ i → t 168 q = gT q := j3
    have j1 : x = ((i + 1 : Nat) : Int) := by omega
    subst j1
    show ∃ s1, xm_last_b21 t x1 ((i + 1 : Nat) : Int) = some (.inl s1) ∧ _
    unfold xm_last_b21
    rw [ix10 (by decide) (by decide), ixt (j := ((i + 1 : Nat) : Int)) (i + 1) rfl (by omega) (by decide)]
    simp only [obs]
    rw [j2 156 (by decide), hw, w32_eq (x := (W : Int)) (by omega) (by omega), w32_eq (x := ((i + 1 : Nat) : Int)) (by omega) (by omega), if_neg (by omega)]
    obtain ⟨r, e1, e2, e3, e4⟩ := rm_lastIn (M := uh t 168 (i + 1) (-2)) (v := i) (x1 := x1) (by omega) (fun q h1 h2 => by rw [uh_ro _ _ _ _ (by omega)]; exact j3 q h1 (by omega)) (uh_rc _ _ _ _)
    rw [e1]
    simp only [obs]
    refine ⟨_, rfl, by show ((i + 1 : Nat) : Int) + 1 = _; omega, fun P hP => ?_, fun q h1 h2 => ?_⟩
    · show r.2 P = _
      rw [e2 P hP, uh_row hP]; exact j2 P hP
    · show r.2 168 q = _
      by_cases hq : q = i + 1
      · subst hq; exact e4
      · rw [e3 q hq, uh_ro _ _ _ _ hq]; exact j3 q h1 (by omega)
  · rintro ⟨x, t⟩ ⟨j1, j2, j3⟩
    replace j1 : x = (W : Int) + 1 := j1
    replace j2 : ∀ P, P ≠ 168 → t P = M P := j2
    refine ⟨(x, t), ?_, j2, j3⟩
    show xm_last_b21 t x1 x = _
    unfold xm_last_b21
    rw [ix10 (by decide) (by decide)]
    simp only [obs]
    rw [j2 156 (by decide), hw, w32_eq (x := (W : Int)) (by omega) (by omega), w32_eq (x := x) (by omega) (by omega), if_pos (by omega)]
theorem fT_bd : ∀ w, w < 9 → -1 ≤ fT w ∧ fT w ≤ 8 := by decide +kernel
section LA
variable {n : Nat} {w : pm_H}
theorem call_21 (hn : n < 512) (h : Inv n w) (a1 a2 a3 a4 a5 : Int32) : ob_ok 21 [a1, a2, a3, a4, a5] w (Inv (n + 1)) := by
  obtain ⟨sh, ln, s, M, ib, ds, rel⟩ := h
  obtain ⟨tp, ru, ⟨K, c, m, sr, pa⟩, -⟩ := id rel
  have bp := bi a1
  have key : ∃ r M1, xf_last s a1.toInt = some r ∧ xm_last M a1.toInt = some (r, M1) ∧ SameM M M1 := by
    generalize a1.toInt = p at bp
    have W := sr.1
    obtain ⟨w8, w4, w0, w2, wl, wz, -⟩ := id W
    have smr : SameM M M := ⟨fun _ _ => rfl, rfl, rfl, rfl, rfl, rfl⟩
    unfold xf_last xm_last
    rw [rm_isCloth sr.2.2.1 W, w32_eq (x := p) bp.1 bp.2, rm_in (v := p) (by omega) (by omega) (by omega) (by omega) (by omega) (by omega), show s 17 0 = (c : Int) from sr.2.1.1, show s 17 2 = K 0 2 from sr.2.1.2.2.1, w32_eq (x := (c : Int)) (by omega) (by omega), show w32 1 = 1 by decide, show w32 (-1) = -1 by decide]
    simp only [obs, tb0]
    by_cases c2 : 0 ≤ p ∧ p ≤ 1
    · rw [if_neg (c := p < 0) (by omega), if_neg (c := 1 < p) (by omega), if_neg (c := ¬ (0 ≤ p ∧ p ≤ 1)) (fun k => k c2)]
      by_cases c0 : 0 < c
      · rw [if_neg (c := (c : Int) = 0) (by omega), if_neg (c := ¬ 0 < c) (fun k => k c0)]
        obtain ⟨Wd, hW⟩ : ∃ x : Nat, K 0 2 = (x : Int) := ⟨(K 0 2).toNat, by omega⟩
        have hW1 := (w2 c0).2
        have hb := fT_bd Wd (by omega)
        obtain ⟨r, e1, e2, e3⟩ := rm_lastOut (M := M) (W := Wd) (x1 := p) (by rw [sr.2.2.1.2.2.1, hW]) (by omega)
        rw [hW, cl_winning (by omega), e1, ix10 (by decide) (by decide)]
        simp only [obs]
        rw [e2 156 (by decide), sr.2.2.1.2.2.1, hW, ixt (j := (Wd : Int)) Wd rfl (by omega) (by decide)]
        simp only [obs]
        rw [e3 Wd (by omega) (Nat.le_refl _), w32_eq (x := fT Wd) (by omega) (by omega), w32_eq (x := gT Wd) (by have := gT_bd Wd (by omega); omega) (by have := gT_bd Wd (by omega); omega)]
        have sm : SameM M r.2 := ⟨fun P hP => e2 P (by unfold VM at hP; omega), by rw [e2 146 (by decide)], by rw [e2 146 (by decide)], by rw [e2 146 (by decide)], by rw [e2 146 (by decide)], by rw [e2 146 (by decide)]⟩
        unfold gT
        by_cases hf : fT Wd < 0
        · have hf1 : fT Wd = -1 := by omega
          simp only [eq_true hf, if_true, eq_true hf1]
          by_cases h1 : p = 1
          · rw [if_pos h1, if_pos h1]; exact ⟨-2, r.2, rfl, rfl, sm⟩
          · rw [if_neg h1, if_neg h1, if_pos (by decide)]; exact ⟨0, r.2, rfl, rfl, sm⟩
        · have hf1 : ¬ fT Wd = -1 := by omega
          simp only [eq_false hf, if_false, eq_false hf1]
          by_cases h1 : p = 1
          · rw [if_pos h1, if_pos h1]; exact ⟨_, r.2, rfl, rfl, sm⟩
          · rw [if_neg h1, if_neg h1]; exact ⟨1, r.2, rfl, rfl, sm⟩
      · rw [if_pos (c := (c : Int) = 0) (by omega), if_pos (c := ¬ 0 < c) c0]
        exact ⟨-1, M, rfl, rfl, smr⟩
    · refine ⟨-1, M, ?_, ?_, smr⟩
      · by_cases h0 : p < 0
        · rw [if_pos h0]
        · rw [if_neg h0, if_pos (by omega)]
      · rw [if_pos (c := ¬ (0 ≤ p ∧ p ≤ 1)) c2]
        split <;> rfl
  obtain ⟨r, M1, e1, e2, e4⟩ := key
  exact ob_na (args := [.int (Int32.ofInt a1.toInt)]) hn rfl (by rw [← vi]; rfl) ib (fun P kr => xf_last_ok (w0 := w) ib.2.2.1 ⟨ib.1, Fr_rf⟩ e1 (kr w ⟨ib.1, Fr_rf⟩)) (fun w1 h1 P kr => xm_last_ok (w0 := w1) StM_M ⟨h1, Fr_rf⟩ e2 (fun w2 h2 => kr w2 h2)) ds (REL_cg rel sameC_rf e4)
end LA
