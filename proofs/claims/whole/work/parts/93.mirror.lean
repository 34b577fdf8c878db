/-! a cloth turned over as a whole: side 0 is enough -/
def MIR (n : Nat) (K K' : Pic) : Prop := K' 0 2 = K 0 2 ∧ (∀ c, c < n → K' 1 c = K 0 2 - 1 - K 1 c ∧ K' 3 c = 1 - K 3 c) ∧ ∀ j, j + 1 < n → K' 6 j = K 6 j
theorem MIR_sy {n : Nat} {K K' : Pic} (h : MIR n K K') : MIR n K' K := ⟨h.1.symm, fun c hc => by have := h.2.1 c hc; have h0 := h.1; omega, fun j hj => (h.2.2 j hj).symm⟩
section MI
variable {n : Nat} {mk : Nat → Int} {K K' : Pic}
theorem mir_knd (h : MIR n K K') (w : WFF K n 0) {j p p' wy wy' : Nat} (hj : j + 1 < n) (hp : (p : Int) + (p' : Int) + 2 = K 0 2) (hw : wy + wy' = 1) : knd (K' 1) (K' 3) j p' wy' = knd (K 1) (K 3) j p wy := by
  obtain ⟨e0, e1, -⟩ := h
  obtain ⟨-, -, -, -, -, -, -, -, wc, -⟩ := w
  have a1 := e1 j (by omega)
  have a2 := e1 (j + 1) hj
  have b1 := wc j (by omega)
  unfold knd
  by_cases q1 : (K 1 j ≤ (p : Int) ↔ K 1 (j + 1) ≤ (p : Int))
  · rw [if_pos q1, if_pos (by omega)]
  · rw [if_neg q1, if_neg (by omega)]
    by_cases q2 : (wy = 0 ↔ K 3 j = 1)
    · rw [if_pos q2, if_pos (by omega)]
    · rw [if_neg q2, if_neg (by omega)]
theorem mir_ok (h : MIR n K K') (w : WFF K n 0) {f f' : Nat} (hp : ((f / 4 : Nat) : Int) + ((f' / 4 : Nat) : Int) + 2 = K 0 2) (hw : f % 2 + f' % 2 = 1) (hk : mkOK n mk K f) : mkOK n mk K' f' := fun j hj => by
  rw [mir_knd h w (by omega) hp hw]
  exact hk j hj
theorem mir_tr (h : MIR n K K') (w : WFF K n 0) {p p' sd sd' wy wy' : Nat} (hp : (p : Int) + (p' : Int) + 2 = K 0 2) (hs : sd + sd' = 1) (hw : wy + wy' = 1) : MIR n (trK K n p sd wy) (trK K' n p' sd' wy') := by
  obtain ⟨e0, e1, e2⟩ := id h
  refine ⟨?_, fun c hc => ?_, fun j hj => ?_⟩
  · show nWd (K' 0 2) p' = nWd (K 0 2) p
    unfold nWd
    rw [e0]
    split <;> split <;> omega
  · have a := e1 c hc
    show nPl K' p' sd' c = nWd (K 0 2) p - 1 - nPl K p sd c ∧ nUp K' p' sd' c = 1 - nUp K p sd c
    have hmv : mvB (K' 1) c p' sd' = true ↔ mvB (K 1) c p sd = true := by
      rw [mvB_t, mvB_t]
      omega
    unfold nPl nUp nWd shf
    rw [e0]
    by_cases hm : mvB (K 1) c p sd = true
    · rw [if_pos hm, if_pos hm, if_pos (hmv.mpr hm), if_pos (hmv.mpr hm)]
      refine ⟨?_, by omega⟩
      split <;> split <;> split <;> first | omega | (split <;> omega)
    · rw [if_neg hm, if_neg hm, if_neg (fun q => hm (hmv.mp q)), if_neg (fun q => hm (hmv.mp q))]
      refine ⟨?_, by omega⟩
      split <;> split <;> split <;> first | omega | (split <;> omega)
  · show nCr K' p' wy' j = nCr K p wy j
    unfold nCr
    rw [mir_knd h w hj hp hw, e2 j hj]
/-- the same line from both sides -/
theorem mir_sd (w : WFF K n 0) {p wy : Nat} : MIR n (trK K n p 0 wy) (trK K n p 1 wy) := by
  refine ⟨rfl, fun c hc => ?_, fun j hj => rfl⟩
  show nPl K p 1 c = nWd (K 0 2) p - 1 - nPl K p 0 c ∧ nUp K p 1 c = 1 - nUp K p 0 c
  have hmv : mvB (K 1) c p 1 = true ↔ ¬ mvB (K 1) c p 0 = true := by
    rw [mvB_t, mvB_t]
    omega
  unfold nPl nUp nWd shf
  by_cases hm : mvB (K 1) c p 0 = true
  · rw [if_pos hm, if_pos hm, if_neg (fun q => (hmv.mp q) hm), if_neg (fun q => (hmv.mp q) hm)]
    refine ⟨?_, by omega⟩
    rw [if_neg (by decide), if_pos rfl]
    split <;> split <;> omega
  · rw [if_neg hm, if_neg hm, if_pos (hmv.mpr hm), if_pos (hmv.mpr hm)]
    refine ⟨?_, by omega⟩
    rw [if_neg (by decide), if_pos rfl]
    split <;> split <;> omega
end MI
theorem frm_ex {g : Nat → Option (List Nat)} : ∀ {L : Nat}, frm g 0 L ≠ none ↔ ∃ f, f < L ∧ g f ≠ none
  | 0 => ⟨fun h => absurd rfl h, fun ⟨f, h, _⟩ => by omega⟩
  | L + 1 => by
    have ih := frm_ex (g := g) (L := L)
    constructor
    · intro h
      cases hf : frm g 0 L with
      | some r =>
        obtain ⟨f, h1, h2⟩ := ih.mp (by rw [hf]; exact fun q => (by cases q))
        exact ⟨f, by omega, h2⟩
      | none =>
        rw [frm_new hf] at h
        exact ⟨L, by omega, h⟩
    · rintro ⟨f, h1, h2⟩
      cases hf : frm g 0 L with
      | some r => rw [frm_keep hf]; exact fun q => (by cases q)
      | none =>
        rw [frm_new hf]
        by_cases hfl : f = L
        · subst hfl; exact h2
        · exact absurd hf (ih.mpr ⟨f, by omega, h2⟩)
theorem frm_eq {g g' : Nat → Option (List Nat)} : ∀ {L : Nat}, (∀ f, f < L → g' f = g f ∨ (g' f = none ∧ (g f ≠ none → ∃ e, e < f ∧ g' e ≠ none))) → frm g 0 L = frm g' 0 L
  | 0, _ => rfl
  | L + 1, h => by
    have ih := frm_eq (g := g) (g' := g') (L := L) (fun f hf => h f (by omega))
    cases hf : frm g' 0 L with
    | some r =>
      rw [hf] at ih
      rw [frm_keep ih, frm_keep hf]
    | none =>
      rw [hf] at ih
      rw [frm_new ih, frm_new hf]
      rcases h L (by omega) with e | ⟨e1, e2⟩
      · exact e.symm
      · rw [e1]
        cases hg : g L with
        | none => rfl
        | some r =>
          obtain ⟨e, h1, h2⟩ := e2 (by rw [hg]; exact fun q => (by cases q))
          exact absurd hf (frm_ex.mpr ⟨e, h1, h2⟩)
theorem frm_cg {g g' : Nat → Option (List Nat)} {L : Nat} (h : ∀ f, f < L → g' f = g f) : frm g 0 L = frm g' 0 L := frm_eq (fun f hf => Or.inl (h f hf))
theorem gg_ne {stp : Pic → Nat → Option Pic} {gl : Pic → Bool} {r f : Nat} {K : Pic} (h : ggS stp gl r K f ≠ none) : ∃ K1, stp K f = some K1 ∧ srch stp gl r K1 ≠ none := by
  cases hs : stp K f with
  | none => exact absurd (gg_n hs) h
  | some K1 =>
    refine ⟨K1, rfl, fun q => h ?_⟩
    rw [gg_k hs, q]
    rfl
theorem gg_ne2 {stp : Pic → Nat → Option Pic} {gl : Pic → Bool} {r f : Nat} {K K1 : Pic} (h1 : stp K f = some K1) (h2 : srch stp gl r K1 ≠ none) : ggS stp gl r K f ≠ none := by
  rw [gg_k h1]
  cases hs : srch stp gl r K1 with
  | none => exact absurd hs h2
  | some q => exact fun k => (by cases k)
theorem stpM_e {n f : Nat} {mk : Nat → Int} {K K1 : Pic} (h : stpM n mk K f = some K1) : mkOK n mk K f ∧ K1 = trK K n (f / 4) (f / 2 % 2) (f % 2) := by
  unfold stpM at h
  split at h
  · rename_i hc
    cases h
    exact ⟨bP_t.mp hc, rfl⟩
  · cases h
section M2
variable {n : Nat} {mk : Nat → Int}
theorem mir_s (h0 : 0 < n) : ∀ (r : Nat) (K K' : Pic), WFF K n 0 → WFF K' n 0 → MIR n K K' → srch (stpM n mk) (glM n mk) r K ≠ none → srch (stpM n mk) (glM n mk) r K' ≠ none := by
  intro r
  induction r with
  | zero =>
    intro K K' w w' h hs
    have e : glM n mk K' = glM n mk K := by
      unfold glM
      have : (∀ j, j < n - 1 → K' 6 j = mk j) = (∀ j, j < n - 1 → K 6 j = mk j) := propext ⟨fun q j hj => by rw [← h.2.2 j (by omega)]; exact q j hj, fun q j hj => by rw [h.2.2 j (by omega)]; exact q j hj⟩
      rw [this]
    show (if glM n mk K' = true then some [] else none) ≠ none
    rw [e]
    exact hs
  | succ r ih =>
    intro K K' w w' h hs
    rw [srch_s] at hs ⊢
    obtain ⟨f, hf, hg⟩ := frm_ex.mp hs
    obtain ⟨K1, k1, k2⟩ := gg_ne hg
    obtain ⟨k3, rfl⟩ := stpM_e k1
    have hL := LF_lt (f := f) w h0
    have hfp := hL.1.mp hf
    obtain ⟨W, hW⟩ : ∃ W : Nat, K 0 2 = (W : Int) := ⟨(K 0 2).toNat, by have := w.2.2.2.2.2.1; omega⟩
    have hq4 : (4 * (W - 2 - f / 4) + 2 * (1 - f / 2 % 2) + (1 - f % 2)) / 4 = W - 2 - f / 4 := by omega
    have hq2 : (4 * (W - 2 - f / 4) + 2 * (1 - f / 2 % 2) + (1 - f % 2)) / 2 % 2 = 1 - f / 2 % 2 := by omega
    have hq1 : (4 * (W - 2 - f / 4) + 2 * (1 - f / 2 % 2) + (1 - f % 2)) % 2 = 1 - f % 2 := by omega
    have hL' := LF_lt (f := 4 * (W - 2 - f / 4) + 2 * (1 - f / 2 % 2) + (1 - f % 2)) w' h0
    refine frm_ex.mpr ⟨4 * (W - 2 - f / 4) + 2 * (1 - f / 2 % 2) + (1 - f % 2), hL'.1.mpr (by rw [hq4, h.1]; omega), ?_⟩
    have hok : mkOK n mk K' (4 * (W - 2 - f / 4) + 2 * (1 - f / 2 % 2) + (1 - f % 2)) := mir_ok h w (f := f) (by rw [hq4]; omega) (by rw [hq1]; omega) k3
    refine gg_ne2 (stpM_y hok) ?_
    rw [hq4, hq2, hq1]
    refine ih _ _ (WFF_tr w hfp (by omega)) (WFF_tr w' (by rw [h.1]; omega) (by omega)) (mir_tr h w (by omega) (by omega) (by omega)) k2
theorem srch_0 (h0 : 0 < n) : ∀ (r : Nat) (K : Pic), WFF K n 0 → srch (stpM n mk) (glM n mk) r K = srch (stp0 n mk) (glM n mk) r K := by
  intro r
  induction r with
  | zero => intro K w; rfl
  | succ r ih =>
    intro K w
    rw [srch_s, srch_s]
    refine frm_eq (fun f hf => ?_)
    have hL := LF_lt (f := f) w h0
    have hfp := hL.1.mp hf
    by_cases hsd : f / 2 % 2 = 0
    · refine Or.inl ?_
      have e : stp0 n mk K f = stpM n mk K f := if_pos hsd
      cases hst : stpM n mk K f with
      | none => rw [gg_n hst, gg_n (by rw [e]; exact hst)]
      | some K1 =>
        rw [gg_k hst, gg_k (by rw [e]; exact hst)]
        obtain ⟨-, rfl⟩ := stpM_e hst
        rw [ih _ (WFF_tr w hfp (by omega))]
    · have e : stp0 n mk K f = none := if_neg hsd
      refine Or.inr ⟨gg_n e, fun hg => ?_⟩
      obtain ⟨K1, k1, k2⟩ := gg_ne hg
      obtain ⟨k3, rfl⟩ := stpM_e k1
      have e4 : (f - 2) / 4 = f / 4 := by omega
      have e2 : (f - 2) / 2 % 2 = 0 := by omega
      have e1 : (f - 2) % 2 = f % 2 := by omega
      have hok : mkOK n mk K (f - 2) := fun j hj => by rw [e4, e1]; exact k3 j hj
      refine ⟨f - 2, by omega, ?_⟩
      have hst : stp0 n mk K (f - 2) = some (trK K n (f / 4) 0 (f % 2)) := by
        unfold stp0
        rw [if_pos e2, stpM_y hok, e4, e2, e1]
      refine gg_ne2 hst ?_
      rw [← ih _ (WFF_tr w hfp (by decide))]
      rw [show f / 2 % 2 = 1 by omega] at k2
      exact mir_s h0 r _ _ (WFF_tr w hfp (by decide)) (WFF_tr w hfp (by decide)) (MIR_sy (mir_sd w)) k2
/-- only these numbers are looked at -/
def EQF (n : Nat) (K K' : Pic) : Prop := K' 0 2 = K 0 2 ∧ (∀ c, c < n → K' 1 c = K 1 c ∧ K' 3 c = K 3 c) ∧ ∀ j, j + 1 < n → K' 6 j = K 6 j
theorem eqf_knd {K K' : Pic} (h : EQF n K K') {j p wy : Nat} (hj : j + 1 < n) : knd (K' 1) (K' 3) j p wy = knd (K 1) (K 3) j p wy := by
  unfold knd
  rw [(h.2.1 j (by omega)).1, (h.2.1 j (by omega)).2, (h.2.1 (j + 1) hj).1]
theorem eqf_tr {K K' : Pic} (h : EQF n K K') {p sd wy : Nat} : EQF n (trK K n p sd wy) (trK K' n p sd wy) := by
  refine ⟨?_, fun c hc => ⟨?_, ?_⟩, fun j hj => ?_⟩
  · show nWd (K' 0 2) p = nWd (K 0 2) p
    rw [h.1]
  · show nPl K' p sd c = nPl K p sd c
    unfold nPl mvB
    rw [h.1, (h.2.1 c hc).1]
  · show nUp K' p sd c = nUp K p sd c
    unfold nUp mvB
    rw [(h.2.1 c hc).1, (h.2.1 c hc).2]
  · show nCr K' p wy j = nCr K p wy j
    unfold nCr
    rw [eqf_knd h hj, h.2.2 j hj]
theorem eqf_s : ∀ (r : Nat) (K K' : Pic), EQF n K K' → srch (stpM n mk) (glM n mk) r K' = srch (stpM n mk) (glM n mk) r K := by
  intro r
  induction r with
  | zero =>
    intro K K' h
    have e : glM n mk K' = glM n mk K := by
      unfold glM
      have : (∀ j, j < n - 1 → K' 6 j = mk j) = (∀ j, j < n - 1 → K 6 j = mk j) := propext ⟨fun q j hj => by rw [← h.2.2 j (by omega)]; exact q j hj, fun q j hj => by rw [h.2.2 j (by omega)]; exact q j hj⟩
      rw [this]
    show (if glM n mk K' = true then some [] else none) = (if glM n mk K = true then some [] else none)
    rw [e]
  | succ r ih =>
    intro K K' h
    have eL : LCk K' = LCk K := by
      unfold LCk
      rw [h.1]
    rw [srch_s, srch_s, eL]
    refine frm_cg (fun f _ => ?_)
    have eo : mkOK n mk K' f = mkOK n mk K f := by
      unfold mkOK
      refine propext ⟨fun q j hj => ?_, fun q j hj => ?_⟩
      · have := q j hj
        rw [eqf_knd h (by omega)] at this
        exact this
      · rw [eqf_knd h (by omega)]
        exact q j hj
    by_cases hok : mkOK n mk K f
    · rw [gg_k (stpM_y hok), gg_k (stpM_y (K := K') (by rw [eo]; exact hok)), ih _ _ (eqf_tr h)]
    · rw [gg_n (stpM_n hok), gg_n (stpM_n (K := K') (by rw [eo]; exact hok))]
end M2
