/-! the search by marks, as a whole: the class -/
theorem stpM_y {n f : Nat} {mk : Nat → Int} {K : Pic} (h : mkOK n mk K f) : stpM n mk K f = some (trK K n (f / 4) (f / 2 % 2) (f % 2)) := if_pos (bP_1 h)
theorem stpM_n {n f : Nat} {mk : Nat → Int} {K : Pic} (h : ¬ mkOK n mk K f) : stpM n mk K f = none := if_neg (by rw [bP_0 h]; decide)
theorem GF_rf {d : Nat} {s : Hp} : GF d s s := ⟨fun _ _ _ _ _ => rfl, fun _ _ => rfl⟩
theorem GF_tr {d : Nat} {s t u : Hp} (h : GF d s t) (g : GF d t u) : GF d s u := ⟨fun P h1 h2 h3 h4 => (g.1 P h1 h2 h3 h4).trans (h.1 P h1 h2 h3 h4), fun i hi => (g.2 i hi).trans (h.2 i hi)⟩
theorem GF_up {d : Nat} {s t : Hp} (h : GF (d + 1) s t) : GF d s t := ⟨fun P h1 h2 h3 h4 => h.1 P h1 h2 h3 (by omega), fun i hi => h.2 i (by omega)⟩
theorem ClF_tr {s s1 : Hp} {a0 a1 n f : Nat} {K : Pic} (w : WFF K n 0) (hp : ((f / 4 : Nat) : Int) + 1 < K 0 2) (l3 : s1 a0 0 = (n : Int)) (l4 : s1 a0 2 = nWd (K 0 2) (f / 4)) (l6 : ∀ c, c < n → s1 (a0 + 1) c = nPl K (f / 4) (f / 2 % 2) c ∧ s1 (a0 + 2) c = nLy K n (f / 4) (f / 2 % 2) (f % 2) c ∧ s1 (a0 + 3) c = nUp K (f / 4) (f / 2 % 2) c) (l7 : ∀ j, j + 1 < n → s1 (a0 + 6) j = nCr K (f / 4) (f % 2) j) (l8 : ∀ q, q < 8 → s1 (a0 + 7) q = ((thk (nPl K (f / 4) (f / 2 % 2)) n q : Nat) : Int)) : ClF s1 a0 (trK K n (f / 4) (f / 2 % 2) (f % 2)) n 0 := by
  have w8 := w.1
  have wl := w.2.2.2.2.1
  refine ⟨l3, trivial, l4, trivial, fun c hc => ⟨(l6 c hc).1, (l6 c hc).2.1, (l6 c hc).2.2, trivial⟩, l7, trivial, fun q hq => ?_⟩
  replace hq : (q : Int) < nWd (K 0 2) (f / 4) := hq
  have : nWd (K 0 2) (f / 4) ≤ 8 := by
    unfold nWd
    split <;> omega
  exact l8 q (by omega)
theorem LF_lt {n : Nat} {K : Pic} {f : Nat} (w : WFF K n 0) (h0 : 0 < n) : (f < LCk K ↔ ((f / 4 : Nat) : Int) + 1 < K 0 2) ∧ LCk K ≤ 28 := by
  obtain ⟨w8, w4, w0, w2, wl, wz, -⟩ := w
  have := (w2 h0).2
  unfold LCk
  omega
section DF
variable {n : Nat} {mk : Nat → Int}
/-- the codes below f are through -/
def OUTL (n : Nat) (mk : Nat → Int) (K : Pic) (N b f : Nat) (s t : Hp) : Prop :=
  (∃ d row, d ≤ N ∧ (s 54 3 = -1 ∨ ((b + 1 + d : Nat) : Int) < s 54 3) ∧ frm (ggS (stp0 n mk) (glM n mk) d K) 0 f = some row ∧ (∀ e, e < d → frm (ggS (stp0 n mk) (glM n mk) e K) 0 f = none) ∧ t 54 3 = ((b + 1 + d : Nat) : Int) ∧ (∀ i, i < b → t 57 i = s 56 i) ∧ ∀ i, i < d + 1 → t 57 (b + i) = ((row.getD i 0 : Nat) : Int)) ∨
  ((∀ d, d ≤ N → (s 54 3 = -1 ∨ ((b + 1 + d : Nat) : Int) < s 54 3) → frm (ggS (stp0 n mk) (glM n mk) d K) 0 f = none) ∧ t 54 3 = s 54 3 ∧ ∀ i, i < 8 → t 57 i = s 57 i)
/-- a code that leads nowhere -/
theorem OUTL_no {K : Pic} {N b f : Nat} {s t : Hp} (h : OUTL n mk K N b f s t) (hg : stp0 n mk K f = none) : OUTL n mk K N b (f + 1) s t := by
  have e : ∀ d, frm (ggS (stp0 n mk) (glM n mk) d K) 0 (f + 1) = frm (ggS (stp0 n mk) (glM n mk) d K) 0 f := fun d => by
    cases hf : frm (ggS (stp0 n mk) (glM n mk) d K) 0 f with
    | some r => exact frm_keep hf
    | none => rw [frm_new hf]; exact gg_n hg
  unfold OUTL
  simp only [e]
  exact h
/-- a code that leads on to K1 -/
theorem OUTL_go {K K1 : Pic} {N b f : Nat} {s t u v : Hp} (h : OUTL n mk K N b f s t) (hg : stp0 n mk K f = some K1) (hs : ∀ i, i < b → t 56 i = s 56 i) (h54 : u 54 3 = t 54 3) (h57 : u 57 = t 57) (u56 : ∀ i, i < b → u 56 i = s 56 i) (u56b : u 56 b = (f : Int)) (hN : b + 1 + N ≤ 7) (o : OUT (fun d => srch (stp0 n mk) (glM n mk) d K1) N (b + 1) u v) : OUTL n mk K N b (f + 1) s v := by
  have gk : ∀ d, ggS (stp0 n mk) (glM n mk) d K f = (srch (stp0 n mk) (glM n mk) d K1).map fun q => f :: q := fun d => gg_k hg
  rcases o with ⟨d1, row1, a1, a2, a3, a4, a5, a6, a7⟩ | ⟨a1, a2, a3⟩
  · replace a3 : srch (stp0 n mk) (glM n mk) d1 K1 = some row1 := a3
    replace a4 : ∀ e, e < d1 → srch (stp0 n mk) (glM n mk) e K1 = none := a4
    rw [h54] at a2
    have pre : (s 54 3 = -1 ∨ ((b + 1 + d1 : Nat) : Int) < s 54 3) ∧ ∀ e, e ≤ d1 → frm (ggS (stp0 n mk) (glM n mk) e K) 0 f = none := by
      rcases h with ⟨d, row, b1, b2, b3, b4, b5, b6, b7⟩ | ⟨b1, b2, b3⟩
      · rw [b5] at a2
        refine ⟨by omega, fun e he => b4 e (by omega)⟩
      · rw [b2] at a2
        exact ⟨a2, fun e he => b1 e (by omega) (by omega)⟩
    refine Or.inl ⟨d1, f :: row1, a1, pre.1, ?_, fun e he => ?_, a5, fun i hi => ?_, fun i hi => ?_⟩
    · rw [frm_new (pre.2 d1 (Nat.le_refl _)), gk, a3]
      rfl
    · rw [frm_new (pre.2 e (by omega)), gk, a4 e he]
      rfl
    · rw [a6 i (by omega), u56 i hi]
    · by_cases hi0 : i = 0
      · subst hi0
        rw [Nat.add_zero, a6 b (by omega)]
        exact u56b
      · obtain ⟨i', rfl⟩ : ∃ i', i = i' + 1 := ⟨i - 1, by omega⟩
        rw [show b + (i' + 1) = b + 1 + i' by omega, a7 i' (by omega)]
        rfl
  · replace a1 : ∀ d, d ≤ N → (u 54 3 = -1 ∨ ((b + 1 + d : Nat) : Int) < u 54 3) → srch (stp0 n mk) (glM n mk) d K1 = none := a1
    rw [h54] at a1 a2
    rw [h57] at a3
    rcases h with ⟨d, row, b1, b2, b3, b4, b5, b6, b7⟩ | ⟨b1, b2, b3⟩
    · rw [b5] at a1 a2
      refine Or.inl ⟨d, row, b1, b2, frm_keep b3, fun e he => ?_, a2, fun i hi => ?_, fun i hi => ?_⟩
      · rw [frm_new (b4 e he), gk, a1 e (by omega) (Or.inr (by omega))]
        rfl
      · rw [a3 i (by omega)]; exact b6 i hi
      · rw [a3 (b + i) (by omega)]; exact b7 i hi
    · rw [b2] at a1 a2
      refine Or.inr ⟨fun d hd hc => ?_, a2, fun i hi => by rw [a3 i hi]; exact b3 i hi⟩
      rw [frm_new (b1 d hd hc), gk, a1 d hd hc]
      rfl
theorem df_main (h0 : 0 < n) : ∀ (N fuel b : Nat), b + N = 7 → N < fuel → ∀ (K : Pic) (s : Hp), ClF s (58 + 9 * b) K n 0 → WFF K n 0 → LevR s → (∀ j, j + 1 < n → s 35 j = mk j ∧ 0 ≤ mk j ∧ mk j ≤ 2) → -1 ≤ s 54 3 → s 54 3 ≤ 8 → ∃ s1, RC31 fuel s (b : Int) = some s1 ∧ GF b s s1 ∧ OUT (fun d => srch (stp0 n mk) (glM n mk) d K) N b s s1 := by
  intro N
  induction N with
  | zero =>
    intro fuel b hb hfu K s h w hl hm g1 g2
    obtain ⟨fu, rfl⟩ : ∃ fu, fuel = fu + 1 := ⟨fuel - 1, by omega⟩
    show ∃ s1, xg_seekMarksFrom_b (RC31 fu) s (b : Int) = some s1 ∧ _
    have es : srch (stp0 n mk) (glM n mk) 0 K = if glM n mk K = true then some [] else none := rfl
    by_cases hcut : s 54 3 = -1 ∨ (b : Int) < s 54 3
    · have e26 : xg_seekMarksFrom_b (RC31 fu) s (b : Int) = xg_seekMarksFrom_j26 (RC31 fu) s (b : Int) := by
        unfold xg_seekMarksFrom_b
        rw [w32_eq (x := (b : Int)) (by omega) (by omega), show w32 8 = 8 by decide, if_pos (by omega), w32_eq (x := s 54 3) (by omega) (by omega), show w32 (-1) = -1 by decide]
        by_cases hc1 : s 54 3 = -1
        · rw [if_pos hc1]
        · rw [if_neg hc1, if_pos (by omega)]
      rw [e26]
      unfold xg_seekMarksFrom_j26
      rw [ixt (n := 8) (j := (b : Int)) b rfl (by omega) (by decide)]
      simp only [obs]
      rw [show lvA (s 55 b) b = some (58 + 9 * b) by unfold lvA; rw [hl b (by omega), if_pos ⟨rfl, by omega⟩]]
      simp only [obs]
      rw [cf_hasMarks h w hm]
      simp only [obs]
      by_cases hg : glM n mk K = true
      · rw [if_pos hg, if_neg (by decide)]
        obtain ⟨v, v1, v2, v3, v4⟩ := cl_keepRow (s := s) (p := (b : Int))
        rw [v1]
        refine ⟨v, rfl, ⟨fun P p1 p2 p3 p4 => v2 P p1 p3, fun i hi => by rw [v2 56 (by decide) (by decide)]⟩, Or.inl ⟨0, [], by omega, by rw [Nat.add_zero]; exact hcut, by show srch (stp0 n mk) (glM n mk) 0 K = _; rw [es, if_pos hg], fun e he => by omega, v3, fun i hi => v4 i (by omega), fun i hi => by omega⟩⟩
      · rw [if_neg hg, if_pos (by decide), w32_eq (x := (b : Int) + 1) (by omega) (by omega), show w32 8 = 8 by decide, if_neg (by omega)]
        refine ⟨s, rfl, GF_rf, Or.inr ⟨fun d hd _ => ?_, rfl, fun _ _ => rfl⟩⟩
        have : d = 0 := by omega
        subst this
        show srch (stp0 n mk) (glM n mk) 0 K = none
        rw [es, if_neg hg]
    · refine ⟨s, ?_, GF_rf, Or.inr ⟨fun d hd hc => by omega, rfl, fun _ _ => rfl⟩⟩
      unfold xg_seekMarksFrom_b
      rw [w32_eq (x := (b : Int)) (by omega) (by omega), show w32 8 = 8 by decide, if_pos (by omega), w32_eq (x := s 54 3) (by omega) (by omega), show w32 (-1) = -1 by decide, if_neg (by omega), if_neg (by omega)]
  | succ N ih =>
    intro fuel b hb hfu K s h w hl hm g1 g2
    obtain ⟨fu, rfl⟩ : ∃ fu, fuel = fu + 1 := ⟨fuel - 1, by omega⟩
    show ∃ s1, xg_seekMarksFrom_b (RC31 fu) s (b : Int) = some s1 ∧ _
    have es : srch (stp0 n mk) (glM n mk) 0 K = if glM n mk K = true then some [] else none := rfl
    by_cases hcut : s 54 3 = -1 ∨ (b : Int) < s 54 3
    · have e26 : xg_seekMarksFrom_b (RC31 fu) s (b : Int) = xg_seekMarksFrom_j26 (RC31 fu) s (b : Int) := by
        unfold xg_seekMarksFrom_b
        rw [w32_eq (x := (b : Int)) (by omega) (by omega), show w32 8 = 8 by decide, if_pos (by omega), w32_eq (x := s 54 3) (by omega) (by omega), show w32 (-1) = -1 by decide]
        by_cases hc1 : s 54 3 = -1
        · rw [if_pos hc1]
        · rw [if_neg hc1, if_pos (by omega)]
      rw [e26]
      unfold xg_seekMarksFrom_j26
      rw [ixt (n := 8) (j := (b : Int)) b rfl (by omega) (by decide)]
      simp only [obs]
      rw [show lvA (s 55 b) b = some (58 + 9 * b) by unfold lvA; rw [hl b (by omega), if_pos ⟨rfl, by omega⟩]]
      simp only [obs]
      rw [cf_hasMarks h w hm]
      simp only [obs]
      by_cases hg : glM n mk K = true
      · rw [if_pos hg, if_neg (by decide)]
        obtain ⟨v, v1, v2, v3, v4⟩ := cl_keepRow (s := s) (p := (b : Int))
        rw [v1]
        refine ⟨v, rfl, ⟨fun P p1 p2 p3 p4 => v2 P p1 p3, fun i hi => by rw [v2 56 (by decide) (by decide)]⟩, Or.inl ⟨0, [], by omega, by rw [Nat.add_zero]; exact hcut, by show srch (stp0 n mk) (glM n mk) 0 K = _; rw [es, if_pos hg], fun e he => by omega, v3, fun i hi => v4 i (by omega), fun i hi => by omega⟩⟩
      · have hs0 : srch (stp0 n mk) (glM n mk) 0 K = none := by rw [es, if_neg hg]
        rw [if_neg hg, if_pos (by decide), w32_eq (x := (b : Int) + 1) (by omega) (by omega), show w32 8 = 8 by decide, if_pos (by omega), cf_foldCount h w]
        simp only [obs]
        have hLC := LF_lt (f := 0) w h0
        have wz := w.2.2.2.2.2.1
        have wl := w.2.2.2.2.1
        have hlc : (if 0 < 4 * (K 0 2 - 1) then 4 * (K 0 2 - 1) else 0) = ((LCk K : Nat) : Int) := by
          unfold LCk
          split <;> omega
        rw [hlc]
        obtain ⟨r, r1, r2, r3⟩ := lp_forR (B := fun (q : Int × Hp) => xg_seekMarksFrom_b68 (RC31 fu) q.2 (b : Int) (58 + 9 * b) ((LCk K : Nat) : Int) q.1) (fun f (q : Int × Hp) => q.1 = (f : Int) ∧ GF b s q.2 ∧ OUTL n mk K N b f s q.2) (LCk K) (fun q : Int × Hp => GF b s q.2 ∧ OUTL n mk K N b (LCk K) s q.2) (by
          rintro f ⟨x, t⟩ hf ⟨j1, j2, j3⟩
          replace j1 : x = (f : Int) := j1
          replace j2 : GF b s t := j2
          replace j3 : OUTL n mk K N b f s t := j3
          subst j1
          have hL := LF_lt (f := f) w h0
          have hfp : ((f / 4 : Nat) : Int) + 1 < K 0 2 := hL.1.mp hf
          have ht : ClF t (58 + 9 * b) K n 0 := ClF_row h (fun i hi => j2.1 _ (by omega) (by omega) (by omega) (by omega))
          have hmt : ∀ j, j + 1 < n → t 35 j = mk j ∧ 0 ≤ mk j ∧ mk j ≤ 2 := fun j hj => by rw [j2.1 35 (by decide) (by decide) (by decide) (by omega)]; exact hm j hj
          have t54 : -1 ≤ t 54 3 ∧ t 54 3 ≤ 8 := by
            rcases j3 with ⟨d, row, b1, b2, b3, b4, b5, b6, b7⟩ | ⟨b1, b2, b3⟩
            · rw [b5]; omega
            · rw [b2]; omega
          show ∃ q1, xg_seekMarksFrom_b68 (RC31 fu) t (b : Int) (58 + 9 * b) ((LCk K : Nat) : Int) (f : Int) = some (Sum.inl q1) ∧ _
          unfold xg_seekMarksFrom_b68
          rw [w32_eq (x := (f : Int)) (by omega) (by omega), w32_eq (x := ((LCk K : Nat) : Int)) (by omega) (by omega), if_pos (by omega), cd_s f (by omega), w32_eq (x := ((2 * (f / 2 % 2) : Nat) : Int)) (by omega) (by omega)]
          by_cases hsd : f / 2 % 2 = 0
          · rw [if_pos (by omega), cf_keepsTo ht w hmt (by omega)]
            simp only [obs]
            by_cases hok : mkOK n mk K f
            · have hst : stp0 n mk K f = some (trK K n (f / 4) (f / 2 % 2) (f % 2)) := by
                unfold stp0
                rw [if_pos hsd]
                exact stpM_y hok
              rw [if_pos (bP_1 hok), if_neg (by decide), ixt (n := 8) (j := (b : Int)) b rfl (by omega) (by decide), ixt (n := 8) (j := (b : Int) + 1) (b + 1) (by omega) (by omega) (by decide)]
              simp only [obs]
              rw [show lvA (uh t 56 b (f : Int) 55 (b + 1)) (b + 1) = some (58 + 9 * (b + 1)) by unfold lvA; rw [uh_row (by decide), j2.1 55 (by decide) (by decide) (by decide) (by omega), hl (b + 1) (by omega), if_pos ⟨rfl, by omega⟩]]
              simp only [obs]
              obtain ⟨o, l1, l2, l3, l4, l5, l6, l7, l8⟩ := cf_lie (s := uh t 56 b (f : Int)) (a0 := 58 + 9 * (b + 1)) (a1 := 58 + 9 * b) (m := 0) (ClF_row ht (fun i hi => uh_row (by omega))) w (by omega) (f := f) (by omega) hfp
              rw [l1]
              simp only [obs]
              have o56 : o 56 = uh t 56 b (f : Int) 56 := l2 56 (by omega)
              have o54 : o 54 = t 54 := by rw [l2 54 (by omega), uh_row (by decide)]
              have o57 : o 57 = t 57 := by rw [l2 57 (by omega), uh_row (by decide)]
              have gfo : GF b t o := ⟨fun P p1 p2 p3 p4 => by rw [l2 P (by omega), uh_row p2], fun i hi => by rw [o56, uh_ro _ _ _ _ (by omega)]⟩
              have o55 : o 55 = s 55 := by rw [l2 55 (by omega), uh_row (by decide), j2.1 55 (by decide) (by decide) (by decide) (by omega)]
              obtain ⟨v, v1, v2, v3⟩ := ih fu (b + 1) (by omega) (by omega) (trK K n (f / 4) (f / 2 % 2) (f % 2)) o (ClF_tr (s := o) (a1 := 0) w hfp l3 l4 l6 l7 l8) (WFF_tr w hfp (by omega)) (fun i hi => by rw [o55]; exact hl i hi) (fun j hj => by rw [l2 35 (by omega), uh_row (by decide)]; exact hmt j hj) (by rw [o54]; exact t54.1) (by rw [o54]; exact t54.2)
              rw [show (b : Int) + 1 = ((b + 1 : Nat) : Int) by omega, v1]
              refine ⟨_, rfl, by show (f : Int) + 1 = _; omega, GF_tr j2 (GF_tr gfo (GF_up v2)), ?_⟩
              exact OUTL_go j3 hst j2.2 (by rw [o54]) o57 (fun i hi => by rw [o56, uh_ro _ _ _ _ (by omega)]; exact j2.2 i hi) (by rw [o56, uh_rc]) (by omega) v3
            · have hst : stp0 n mk K f = none := by
                unfold stp0
                rw [if_pos hsd]
                exact stpM_n hok
              rw [if_neg (c := bP (mkOK n mk K f) = true) (by rw [bP_0 hok]; decide), if_pos (c := w32 0 = 0) (by decide)]
              exact ⟨_, rfl, by show (f : Int) + 1 = _; omega, j2, OUTL_no j3 hst⟩
          · have hst : stp0 n mk K f = none := by
              unfold stp0
              rw [if_neg hsd]
            rw [if_neg (by omega)]
            exact ⟨_, rfl, by show (f : Int) + 1 = _; omega, j2, OUTL_no j3 hst⟩) (by
          rintro ⟨x, t⟩ ⟨j1, j2, j3⟩
          replace j1 : x = ((LCk K : Nat) : Int) := j1
          subst j1
          refine ⟨(((LCk K : Nat) : Int), t), ?_, j2, j3⟩
          show xg_seekMarksFrom_b68 (RC31 fu) t (b : Int) (58 + 9 * b) ((LCk K : Nat) : Int) ((LCk K : Nat) : Int) = _
          unfold xg_seekMarksFrom_b68
          rw [if_neg (by omega)]) (s := (0, s)) ⟨rfl, GF_rf, Or.inr ⟨fun d _ _ => rfl, rfl, fun _ _ => rfl⟩⟩
        rw [r1]
        refine ⟨r.2, rfl, r2, ?_⟩
        rcases r3 with ⟨d, row, b1, b2, b3, b4, b5, b6, b7⟩ | ⟨b1, b2, b3⟩
        · refine Or.inl ⟨d + 1, row, by omega, by rw [show b + (d + 1) = b + 1 + d by omega]; exact b2, b3, fun e he => ?_, by rw [show b + (d + 1) = b + 1 + d by omega]; exact b5, b6, b7⟩
          cases e with
          | zero => exact hs0
          | succ e => exact b4 e (by omega)
        · refine Or.inr ⟨fun d hd hc => ?_, b2, b3⟩
          cases d with
          | zero => exact hs0
          | succ d => exact b1 d (by omega) (by rw [show b + 1 + d = b + (d + 1) by omega]; exact hc)
    · refine ⟨s, ?_, GF_rf, Or.inr ⟨fun d hd hc => by omega, rfl, fun _ _ => rfl⟩⟩
      unfold xg_seekMarksFrom_b
      rw [w32_eq (x := (b : Int)) (by omega) (by omega), show w32 8 = 8 by decide, if_pos (by omega), w32_eq (x := s 54 3) (by omega) (by omega), show w32 (-1) = -1 by decide, if_neg (by omega), if_neg (by omega)]
theorem df_seek {s : Hp} (h2 : 2 ≤ n) (h8 : n ≤ 8) (hl : LevR s) (hm : ∀ j, j + 1 < n → s 35 j = mk j ∧ 0 ≤ mk j ∧ mk j ≤ 2) : ∃ s1, xg_seekMarks s (n : Int) = some s1 ∧ FQ s s1 ∧ FO (fun d => srch (stp0 n mk) (glM n mk) d (flK n)) 7 (s1 54 3) (s1 57) := by
  unfold xg_seekMarks
  simp only [obs]
  rw [ix0 (by decide) (by decide)]
  simp only [obs]
  rw [show lvA (uh s 54 3 (-1) 55 0) 0 = some 58 by unfold lvA; rw [uh_row (by decide), hl 0 (by decide), if_pos ⟨rfl, by decide⟩]]
  simp only [obs]
  obtain ⟨o, c1, c2, c3, c4, c5, c6, c7⟩ := cl_beginFlat (s := uh s 54 3 (-1)) (a := 58) (n := n) h8
  rw [c1]
  simp only [obs]
  have hcl : ClF o 58 (flK n) n 0 := by
    refine ⟨c3, trivial, c5, trivial, fun c hc => ?_, fun j hj => ?_, trivial, fun p hp => ?_⟩
    · obtain ⟨k1, k2, k3, -⟩ := c7 c (by omega)
      exact ⟨k1, k2, k3, trivial⟩
    · exact (c7 j (by omega)).2.2.2.2.2.1
    · replace hp : (p : Int) < (n : Int) := hp
      rw [(c7 p (by omega)).2.2.2.2.2.2, if_pos (by omega)]
      show (1 : Int) = ((thk (fun c => (c : Int)) n (p : Int) : Nat) : Int)
      rw [thk_id, if_pos (by omega)]
      rfl
  obtain ⟨v, v1, v2, v3⟩ := df_main (n := n) (mk := mk) (by omega) 7 12 0 (by omega) (by omega) (flK n) o hcl (WFF_fl h2 h8) (fun i hi => by rw [c2 55 (by omega), uh_row (by decide)]; exact hl i hi) (fun j hj => by rw [c2 35 (by omega), uh_row (by decide)]; exact hm j hj) (by rw [c2 54 (by omega), uh_rc]; decide) (by rw [c2 54 (by omega), uh_rc]; decide)
  have v1 : xg_seekMarksFrom o 0 = some v := v1
  rw [v1]
  refine ⟨v, rfl, fun P p1 p2 => ?_, ?_⟩
  · rw [v2.1 P (by omega) (by omega) (by omega) (by omega), c2 P (by omega), uh_row (by omega)]
  · have h54 : o 54 3 = -1 := by rw [c2 54 (by omega), uh_rc]
    rcases v3 with ⟨d, row, b1, b2, b3, b4, b5, b6, b7⟩ | ⟨b1, b2, b3⟩
    · exact Or.inl ⟨d, row, b1, b3, b4, by rw [b5, Nat.zero_add], fun i hi => by have := b7 i hi; rw [Nat.zero_add] at this; exact this⟩
    · exact Or.inr ⟨fun d hd => b1 d hd (Or.inl h54), by rw [b2]; exact h54⟩
end DF
