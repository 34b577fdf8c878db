/-! rows of folds, tried one behind the other: the reference -/
abbrev Pic : Type := Nat → Nat → Int
def frm (g : Nat → Option (List Nat)) : Nat → Nat → Option (List Nat)
  | _, 0 => none
  | f, j + 1 => match g f with
    | some r => some r
    | none => frm g (f + 1) j
theorem frm_s {g : Nat → Option (List Nat)} {f j : Nat} {r : List Nat} (h : g f = some r) : frm g f (j + 1) = some r := by
  show (match g f with | some r => some r | none => frm g (f + 1) j) = some r
  rw [h]
theorem frm_n {g : Nat → Option (List Nat)} {f j : Nat} (h : g f = none) : frm g f (j + 1) = frm g (f + 1) j := by
  show (match g f with | some r => some r | none => frm g (f + 1) j) = _
  rw [h]
/-- how many folds there are to try -/
def LCk (K : Pic) : Nat := (4 * (K 0 2 - 1)).toNat
def srch (stp : Pic → Nat → Option Pic) (gl : Pic → Bool) : Nat → Pic → Option (List Nat)
  | 0, K => if gl K = true then some [] else none
  | r + 1, K => frm (fun f => (stp K f).bind fun K1 => (srch stp gl r K1).map fun q => f :: q) 0 (LCk K)
def ggS (stp : Pic → Nat → Option Pic) (gl : Pic → Bool) (r : Nat) (K : Pic) : Nat → Option (List Nat) := fun f => (stp K f).bind fun K1 => (srch stp gl r K1).map fun q => f :: q
theorem srch_s (stp : Pic → Nat → Option Pic) (gl : Pic → Bool) (r : Nat) (K : Pic) : srch stp gl (r + 1) K = frm (ggS stp gl r K) 0 (LCk K) := rfl
theorem gg_n {stp : Pic → Nat → Option Pic} {gl : Pic → Bool} {r f : Nat} {K : Pic} (h : stp K f = none) : ggS stp gl r K f = none := by
  unfold ggS
  rw [h]
  rfl
theorem gg_k {stp : Pic → Nat → Option Pic} {gl : Pic → Bool} {r f : Nat} {K K1 : Pic} (h : stp K f = some K1) : ggS stp gl r K f = (srch stp gl r K1).map fun q => f :: q := by
  unfold ggS
  rw [h]
  rfl
/-- what a search may change -/
def FX (M u : Hp) : Prop := (∀ P, P ≠ 146 → P ≠ 154 → P ≠ 155 → P ≠ 156 → P ≠ 157 → P ≠ 158 → P ≠ 161 → P ≠ 162 → u P = M P) ∧ (∀ q, q ≠ 18 → u 146 q = M 146 q) ∧ ∀ q, q < 10 ∨ 55 ≤ q → u 156 q = M 156 q
theorem FX_rf {M : Hp} : FX M M := ⟨fun _ _ _ _ _ _ _ _ _ => rfl, fun _ _ => rfl, fun _ _ => rfl⟩
theorem FX_fd {M u v : Hp} (h : FX M u) (g : FD u v) : FX M v := ⟨fun P h1 h2 h3 h4 h5 h6 h7 h8 => (g.1 P h1 h2 h3 h4 h5 h6).trans (h.1 P h1 h2 h3 h4 h5 h6 h7 h8), fun q h1 => (g.2.1 q h1).trans (h.2.1 q h1), fun q hq => (g.2.2 q hq).trans (h.2.2 q hq)⟩
theorem FX_161 {M u : Hp} {i : Nat} {v : Int} (h : FX M u) : FX M (uh u 161 i v) := ⟨fun P h1 h2 h3 h4 h5 h6 h7 h8 => by rw [uh_row h7]; exact h.1 P h1 h2 h3 h4 h5 h6 h7 h8, fun q h1 => by rw [uh_row (by decide)]; exact h.2.1 q h1, fun q hq => by rw [uh_row (by decide)]; exact h.2.2 q hq⟩
def rsd (u : Hp) (k : Nat) : Nat → Int := fun i => if 10 ≤ i ∧ i < 55 then u 162 (45 * k + (i - 10)) else u 156 i
theorem rsd_cg {u v : Hp} {k : Nat} (h1 : ∀ i, i < 45 → v 162 (45 * k + i) = u 162 (45 * k + i)) (h2 : ∀ q, q < 10 ∨ 55 ≤ q → v 156 q = u 156 q) : rsd v k = rsd u k := by
  funext i
  unfold rsd
  by_cases h : 10 ≤ i ∧ i < 55
  · rw [if_pos h, if_pos h, h1 _ (by omega)]
  · rw [if_neg h, if_neg h, h2 i (by omega)]
theorem rm_laysPlace {u : Hp} {k : Nat} (hk : k ≤ 8) : ∃ u1, xm_laysPlace u (k : Int) = some u1 ∧ (∀ P, P ≠ 156 → u1 P = u P) ∧ u1 156 = rsd u k := by
  unfold xm_laysPlace
  obtain ⟨M1, e1, e2, e3, e4⟩ := cp_loop (B := fun (q : Int × Hp) => xm_laysPlace_b2 q.2 (k : Int) q.1) 162 156 45 (fun i => 45 * k + i) (fun i => 10 + i) u (fun i j _ _ h => by omega) (fun h => absurd h (by decide)) (fun i M' hi h1 _ => by
    show xm_laysPlace_b2 M' (k : Int) (i : Int) = _
    unfold xm_laysPlace_b2
    rw [w32_eq (x := (i : Int)) (by omega) (by omega), if_pos (by rw [show w32 45 = 45 by decide]; omega), ixt (n := 405) (45 * k + i) (by omega) (by omega) (by decide), ixt (n := 130) (10 + i) (by omega) (by omega) (by decide)]
    rfl) (fun M' h1 _ => by
    show xm_laysPlace_b2 M' (k : Int) ((45 : Nat) : Int) = _
    unfold xm_laysPlace_b2
    rw [if_neg (by decide)])
  rw [e1]
  simp only [obs]
  refine ⟨M1, rfl, e2, ?_⟩
  funext q
  unfold rsd
  by_cases h : 10 ≤ q ∧ q < 55
  · have := e3 (q - 10) (by omega)
    rw [show 10 + (q - 10) = q by omega] at this
    rw [if_pos h, this]
  · rw [if_neg h, e4 q (fun j hj => by omega)]
theorem rm_keepsPlace {u : Hp} {k : Nat} (hk : k ≤ 8) {y : Int} (hy : y = (k : Int)) : ∃ u1, xm_keepsPlace u y = some u1 ∧ (∀ P, P ≠ 162 → u1 P = u P) ∧ (∀ i, i < 45 → u1 162 (45 * k + i) = u 156 (10 + i)) ∧ ∀ q, q < 45 * k → u1 162 q = u 162 q := by
  subst hy
  unfold xm_keepsPlace
  obtain ⟨M1, e1, e2, e3, e4⟩ := cp_loop (B := fun (q : Int × Hp) => xm_keepsPlace_b2 q.2 (k : Int) q.1) 156 162 45 (fun i => 10 + i) (fun i => 45 * k + i) u (fun i j _ _ h => by omega) (fun h => absurd h (by decide)) (fun i M' hi h1 _ => by
    show xm_keepsPlace_b2 M' (k : Int) (i : Int) = _
    unfold xm_keepsPlace_b2
    rw [w32_eq (x := (i : Int)) (by omega) (by omega), if_pos (by rw [show w32 45 = 45 by decide]; omega), ixt (n := 405) (45 * k + i) (by omega) (by omega) (by decide), ixt (n := 130) (10 + i) (by omega) (by omega) (by decide)]
    rfl) (fun M' h1 _ => by
    show xm_keepsPlace_b2 M' (k : Int) ((45 : Nat) : Int) = _
    unfold xm_keepsPlace_b2
    rw [if_neg (by decide)])
  rw [e1]
  simp only [obs]
  exact ⟨M1, rfl, e2, e3, fun q hq => e4 q (fun j hj => by omega)⟩
/-- one fold tried -/
noncomputable def stepM (x2 : Int) (u : Hp) (c : Int) : Option (Int × Hp) := if w32 x2 < 0 then xm_foldsAsMarked u c else xm_isFolded u x2 c
def HS (n m : Nat) (x2 : Int) (stp : Pic → Nat → Option Pic) (M : Hp) : Prop := ∀ (u : Hp) (K : Pic) (f : Nat), FX M u → Rf (u 156) K n m → WF K n m → ((f / 4 : Nat) : Int) + 1 < K 0 2 → (stp K f = none → ∃ u1, stepM x2 u (f : Int) = some (0, u1) ∧ FD u u1) ∧ ∀ K1, stp K f = some K1 → ∃ u1, stepM x2 u (f : Int) = some (1, u1) ∧ Rf (u1 156) K1 n m ∧ WF K1 n m ∧ FD u u1
def HG (n m : Nat) (x2 x3 : Int) (gl : Pic → Bool) (M : Hp) : Prop := ∀ (u : Hp) (K : Pic), FX M u → Rf (u 156) K n m → WF K n m → xm_isGoal u x2 x3 = some (if gl K = true then 1 else 0)
section BT
variable {n m : Nat} {x2 x3 : Int} {stp : Pic → Nat → Option Pic} {gl : Pic → Bool} {M : Hp}
theorem b26_e {u : Hp} {x1 x4 : Int} : xm_findsRow_b26 u x1 x2 x3 x4 = if w32 x4 < 0 then some (.inr (.inl (x4, u))) else (xm_laysPlace u x4).bind fun o2 => (ix 9 x4).bind fun i6 => (xm_placeOf (uh o2 161 i6 ((o2 161 i6) + 1) 161 i6)).bind fun o12 => (ix 130 10).bind fun i16 => if w32 o12 < w32 ((uh o2 161 i6 ((o2 161 i6) + 1) 156 i16) - 1) then (stepM x2 (uh o2 161 i6 ((o2 161 i6) + 1)) (uh o2 161 i6 ((o2 161 i6) + 1) 161 i6)).bind fun o => if w32 o.1 = 0 then some (.inl (x4, o.2)) else xm_findsRow_b26_j109 o.2 x1 x2 x3 x4 else some (.inl (x4 + (-1), uh o2 161 i6 ((o2 161 i6) + 1))) := by
  unfold xm_findsRow_b26 stepM
  by_cases h : w32 x2 < 0
  · simp only [obs, eq_true h, if_true]
  · simp only [obs, eq_false h, if_false]
theorem LC_lt {K : Pic} {f : Nat} (w : WF K n m) (h0 : 0 < n) : (f < LCk K ↔ ((f / 4 : Nat) : Int) + 1 < K 0 2) ∧ LCk K ≤ 28 := by
  obtain ⟨w8, w4, w0, w2, wl, wz, -⟩ := w
  have := (w2 h0).2
  unfold LCk
  omega
theorem rsd_2 {u v : Hp} {k : Nat} (h1 : v 162 = u 162) (fu : FX M u) (fv : FX M v) : rsd v k = rsd u k := rsd_cg (fun i _ => by rw [h1]) (fun q hq => by rw [fv.2.2 q hq, fu.2.2 q hq])
theorem bt_lay {u : Hp} {K : Pic} {k f : Nat} (hk : k ≤ 8) (fx : FX M u) (w : WF K n m) (hR : Rf (rsd u k) K n m) (hu : u 161 k = (f : Int) - 1) (hf : f ≤ 28) : ∃ v, FX M v ∧ v 161 k = (f : Int) ∧ (∀ i, i ≠ k → v 161 i = u 161 i) ∧ v 162 = u 162 ∧ Rf (v 156) K n m ∧ ∀ x1 : Int, xm_findsRow_b26 u x1 x2 x3 (k : Int) = if ((f / 4 : Nat) : Int) + 1 < K 0 2 then (stepM x2 v (f : Int)).bind fun o => if w32 o.1 = 0 then some (.inl ((k : Int), o.2)) else xm_findsRow_b26_j109 o.2 x1 x2 x3 (k : Int) else some (.inl ((k : Int) + (-1), v)) := by
  obtain ⟨u1, a1, a2, a3⟩ := rm_laysPlace (u := u) (k := k) hk
  have hw0 := w.2.2.2.2.1
  have w8 := w.1
  have hwz := w.2.2.2.2.2.1
  refine ⟨uh u1 161 k (f : Int), FX_161 ⟨fun P h1 h2 h3 h4 h5 h6 h7 h8 => ?_, fun q h1 => ?_, fun q hq => ?_⟩, uh_rc _ _ _ _, fun i hi => ?_, ?_, ?_, fun x1 => ?_⟩
  · rw [a2 P h4]; exact fx.1 P h1 h2 h3 h4 h5 h6 h7 h8
  · rw [a2 146 (by decide)]; exact fx.2.1 q h1
  · rw [a3]; unfold rsd; rw [if_neg (by omega)]; exact fx.2.2 q hq
  · rw [uh_ro _ _ _ _ hi, a2 161 (by decide)]
  · rw [uh_row (by decide), a2 162 (by decide)]
  · rw [uh_row (by decide), a3]; exact hR
  · have hw : uh u1 161 k (f : Int) 156 10 = K 0 2 := by rw [uh_row (by decide), a3]; exact hR.2.2.1
    have hp : xm_placeOf (f : Int) = some ((f / 4 : Nat) : Int) := congrArg some (cd_dp f (by omega))
    rw [b26_e, w32_eq (x := (k : Int)) (by omega) (by omega), if_neg (by omega), a1, ixt (n := 9) (j := (k : Int)) k rfl (by omega) (by decide), ix10 (by decide) (by decide)]
    simp only [obs]
    rw [a2 161 (by decide), hu, show (f : Int) - 1 + 1 = (f : Int) by omega, uh_rc, hp]
    simp only [obs]
    rw [hw, w32_eq (x := ((f / 4 : Nat) : Int)) (by omega) (by omega), w32_eq (x := K 0 2 - 1) (by omega) (by omega)]
    by_cases hc : ((f / 4 : Nat) : Int) + 1 < K 0 2
    · rw [if_pos hc, if_pos (by omega)]
    · rw [if_neg hc, if_neg (by omega)]
theorem bt_main (h0 : 0 < n) (hs : HS n m x2 stp M) (hg : HG n m x2 x3 gl M) {many : Nat} (h8 : many ≤ 8) : ∀ (r k : Nat), k + r + 1 = many → ∀ (j f : Nat) (K : Pic) (u : Hp), f + j = LCk K → FX M u → WF K n m → Rf (rsd u k) K n m → u 161 k = (f : Int) - 1 →
    (∀ row, frm (ggS stp gl r K) f j = some row → ∃ u', lp (fun (q : Int × Hp) => xm_findsRow_b26 q.2 (many : Int) x2 x3 q.1) ((k : Int), u) = some (.inr (1, u')) ∧ FX M u' ∧ (∀ i, i < k → u' 161 i = u 161 i) ∧ (∀ q, q < 45 * (k + 1) → u' 162 q = u 162 q) ∧ ∀ i, i ≤ r → u' 161 (k + i) = ((row.getD i 0 : Nat) : Int)) ∧
    (frm (ggS stp gl r K) f j = none → ∃ u', lp (fun (q : Int × Hp) => xm_findsRow_b26 q.2 (many : Int) x2 x3 q.1) ((k : Int), u) = lp (fun (q : Int × Hp) => xm_findsRow_b26 q.2 (many : Int) x2 x3 q.1) ((k : Int) - 1, u') ∧ FX M u' ∧ (∀ i, i < k → u' 161 i = u 161 i) ∧ ∀ q, q < 45 * (k + 1) → u' 162 q = u 162 q) := by
  intro r
  induction r with
  | zero =>
    intro k hk j
    induction j with
    | zero =>
      intro f K u hf fx w hR hu
      have hL := LC_lt (f := f) w h0
      obtain ⟨v, v1, v2, v3, v4, v5, v6⟩ := bt_lay (x2 := x2) (x3 := x3) (by omega) fx w hR hu (by omega)
      refine ⟨fun row hrow => (by cases hrow), fun _ => ⟨v, lp_in ?_, v1, fun i hi => v3 i (by omega), fun q hq => by rw [v4]⟩⟩
      show xm_findsRow_b26 u (many : Int) x2 x3 (k : Int) = _
      rw [v6, if_neg (by omega)]
      rfl
    | succ j ih =>
      intro f K u hf fx w hR hu
      have hL := LC_lt (f := f) w h0
      obtain ⟨v, v1, v2, v3, v4, v5, v6⟩ := bt_lay (x2 := x2) (x3 := x3) (by omega) fx w hR hu (by omega)
      obtain ⟨s1, s2⟩ := hs v K f v1 v5 w (by omega)
      have go : ∀ v2 : Hp, FD v v2 → xm_findsRow_b26 u (many : Int) x2 x3 (k : Int) = some (.inl ((k : Int), v2)) → ggS stp gl 0 K f = none → (∀ row, frm (ggS stp gl 0 K) f (j + 1) = some row → ∃ u', lp (fun (q : Int × Hp) => xm_findsRow_b26 q.2 (many : Int) x2 x3 q.1) ((k : Int), u) = some (.inr (1, u')) ∧ FX M u' ∧ (∀ i, i < k → u' 161 i = u 161 i) ∧ (∀ q, q < 45 * (k + 1) → u' 162 q = u 162 q) ∧ ∀ i, i ≤ 0 → u' 161 (k + i) = ((row.getD i 0 : Nat) : Int)) ∧ (frm (ggS stp gl 0 K) f (j + 1) = none → ∃ u', lp (fun (q : Int × Hp) => xm_findsRow_b26 q.2 (many : Int) x2 x3 q.1) ((k : Int), u) = lp (fun (q : Int × Hp) => xm_findsRow_b26 q.2 (many : Int) x2 x3 q.1) ((k : Int) - 1, u') ∧ FX M u' ∧ (∀ i, i < k → u' 161 i = u 161 i) ∧ ∀ q, q < 45 * (k + 1) → u' 162 q = u 162 q) := by
        intro y hy hb hgn
        have y162 : y 162 = u 162 := by rw [hy.1 162 (by decide) (by decide) (by decide) (by decide) (by decide) (by decide), v4]
        have y161 : y 161 = v 161 := hy.1 161 (by decide) (by decide) (by decide) (by decide) (by decide) (by decide)
        have fy : FX M y := FX_fd v1 hy
        have hin : lp (fun (q : Int × Hp) => xm_findsRow_b26 q.2 (many : Int) x2 x3 q.1) ((k : Int), u) = lp (fun (q : Int × Hp) => xm_findsRow_b26 q.2 (many : Int) x2 x3 q.1) ((k : Int), y) := lp_in hb
        obtain ⟨i1, i2⟩ := ih (f + 1) K y (by omega) fy w (by rw [rsd_2 y162 fx fy]; exact hR) (by rw [y161, v2]; omega)
        rw [frm_n hgn, hin]
        refine ⟨fun row hrow => ?_, fun hno => ?_⟩
        · obtain ⟨u', e1, e2, e3, e4, e5⟩ := i1 row hrow
          exact ⟨u', e1, e2, fun i hi => by rw [e3 i hi, y161, v3 i (by omega)], fun q hq => by rw [e4 q hq, y162], e5⟩
        · obtain ⟨u', e1, e2, e3, e4⟩ := i2 hno
          exact ⟨u', e1, e2, fun i hi => by rw [e3 i hi, y161, v3 i (by omega)], fun q hq => by rw [e4 q hq, y162]⟩
      cases hst : stp K f with
      | none =>
        obtain ⟨y, y1, y2⟩ := s1 hst
        refine go y y2 ?_ (gg_n hst)
        rw [v6, if_pos (by omega), y1]
        simp only [obs]
        rw [if_pos (by decide)]
      | some K1 =>
        obtain ⟨y, y1, y2, y3, y4⟩ := s2 K1 hst
        have fy : FX M y := FX_fd v1 y4
        have hb : xm_findsRow_b26 u (many : Int) x2 x3 (k : Int) = if gl K1 = true then some (.inr (.inr (1, y))) else some (.inl ((k : Int), y)) := by
          rw [v6, if_pos (by omega), y1]
          simp only [obs]
          rw [if_neg (by decide)]
          unfold xm_findsRow_b26_j109
          rw [w32_eq (x := (k : Int) + 1) (by omega) (by omega), w32_eq (x := (many : Int)) (by omega) (by omega), if_pos (by omega), hg y K1 fy y2 y3]
          simp only [obs]
          by_cases hgl : gl K1 = true
          · rw [if_pos hgl, if_pos hgl, if_neg (by decide)]
          · rw [if_neg hgl, if_neg hgl, if_pos (by decide)]
        by_cases hgl : gl K1 = true
        · have e0 : ggS stp gl 0 K f = some [f] := by
            rw [gg_k hst]
            show ((if gl K1 = true then some [] else none).map fun q => f :: q) = some [f]
            rw [if_pos hgl]
            rfl
          rw [frm_s e0]
          refine ⟨fun row hrow => ?_, fun hno => (by cases hno)⟩
          cases hrow
          refine ⟨y, lp_en ?_, fy, fun i hi => ?_, fun q hq => ?_, fun i hi => ?_⟩
          · show xm_findsRow_b26 u (many : Int) x2 x3 (k : Int) = _
            rw [hb, if_pos hgl]
          · rw [y4.1 161 (by decide) (by decide) (by decide) (by decide) (by decide) (by decide), v3 i (by omega)]
          · rw [y4.1 162 (by decide) (by decide) (by decide) (by decide) (by decide) (by decide), v4]
          · have : i = 0 := by omega
            subst this
            rw [y4.1 161 (by decide) (by decide) (by decide) (by decide) (by decide) (by decide)]
            exact v2
        · refine go y y4 (by rw [hb, if_neg hgl]) ?_
          rw [gg_k hst]
          show ((if gl K1 = true then some [] else none).map fun q => f :: q) = none
          rw [if_neg hgl]
          rfl
  | succ r ihr =>
    intro k hk j
    induction j with
    | zero =>
      intro f K u hf fx w hR hu
      have hL := LC_lt (f := f) w h0
      obtain ⟨v, v1, v2, v3, v4, v5, v6⟩ := bt_lay (x2 := x2) (x3 := x3) (by omega) fx w hR hu (by omega)
      refine ⟨fun row hrow => (by cases hrow), fun _ => ⟨v, lp_in ?_, v1, fun i hi => v3 i (by omega), fun q hq => by rw [v4]⟩⟩
      show xm_findsRow_b26 u (many : Int) x2 x3 (k : Int) = _
      rw [v6, if_neg (by omega)]
      rfl
    | succ j ih =>
      intro f K u hf fx w hR hu
      have hL := LC_lt (f := f) w h0
      obtain ⟨v, v1, v2, v3, v4, v5, v6⟩ := bt_lay (x2 := x2) (x3 := x3) (by omega) fx w hR hu (by omega)
      obtain ⟨s1, s2⟩ := hs v K f v1 v5 w (by omega)
      have go : ∀ y : Hp, FX M y → (∀ i, i < k → y 161 i = u 161 i) → y 161 k = (f : Int) → (∀ q, q < 45 * (k + 1) → y 162 q = u 162 q) → lp (fun (q : Int × Hp) => xm_findsRow_b26 q.2 (many : Int) x2 x3 q.1) ((k : Int), u) = lp (fun (q : Int × Hp) => xm_findsRow_b26 q.2 (many : Int) x2 x3 q.1) ((k : Int), y) → ggS stp gl (r + 1) K f = none → (∀ row, frm (ggS stp gl (r + 1) K) f (j + 1) = some row → ∃ u', lp (fun (q : Int × Hp) => xm_findsRow_b26 q.2 (many : Int) x2 x3 q.1) ((k : Int), u) = some (.inr (1, u')) ∧ FX M u' ∧ (∀ i, i < k → u' 161 i = u 161 i) ∧ (∀ q, q < 45 * (k + 1) → u' 162 q = u 162 q) ∧ ∀ i, i ≤ r + 1 → u' 161 (k + i) = ((row.getD i 0 : Nat) : Int)) ∧ (frm (ggS stp gl (r + 1) K) f (j + 1) = none → ∃ u', lp (fun (q : Int × Hp) => xm_findsRow_b26 q.2 (many : Int) x2 x3 q.1) ((k : Int), u) = lp (fun (q : Int × Hp) => xm_findsRow_b26 q.2 (many : Int) x2 x3 q.1) ((k : Int) - 1, u') ∧ FX M u' ∧ (∀ i, i < k → u' 161 i = u 161 i) ∧ ∀ q, q < 45 * (k + 1) → u' 162 q = u 162 q) := by
        intro y fy y1 y2 y3 hin hgn
        have er : rsd y k = rsd u k := rsd_cg (fun i hi => y3 _ (by omega)) (fun q hq => by rw [fy.2.2 q hq, fx.2.2 q hq])
        obtain ⟨i1, i2⟩ := ih (f + 1) K y (by omega) fy w (by rw [er]; exact hR) (by rw [y2]; omega)
        rw [frm_n hgn, hin]
        refine ⟨fun row hrow => ?_, fun hno => ?_⟩
        · obtain ⟨u', e1, e2, e3, e4, e5⟩ := i1 row hrow
          exact ⟨u', e1, e2, fun i hi => by rw [e3 i hi, y1 i hi], fun q hq => by rw [e4 q hq, y3 q hq], e5⟩
        · obtain ⟨u', e1, e2, e3, e4⟩ := i2 hno
          exact ⟨u', e1, e2, fun i hi => by rw [e3 i hi, y1 i hi], fun q hq => by rw [e4 q hq, y3 q hq]⟩
      cases hst : stp K f with
      | none =>
        obtain ⟨y, y1, y2⟩ := s1 hst
        have y161 : y 161 = v 161 := y2.1 161 (by decide) (by decide) (by decide) (by decide) (by decide) (by decide)
        have y162 : y 162 = v 162 := y2.1 162 (by decide) (by decide) (by decide) (by decide) (by decide) (by decide)
        refine go y (FX_fd v1 y2) (fun i hi => by rw [y161, v3 i (by omega)]) (by rw [y161]; exact v2) (fun q _ => by rw [y162, v4]) (lp_in ?_) (gg_n hst)
        show xm_findsRow_b26 u (many : Int) x2 x3 (k : Int) = _
        rw [v6, if_pos (by omega), y1]
        simp only [obs]
        rw [if_pos (by decide)]
      | some K1 =>
        obtain ⟨y, y1, y2, y3, y4⟩ := s2 K1 hst
        have fy : FX M y := FX_fd v1 y4
        have y161 : y 161 = v 161 := y4.1 161 (by decide) (by decide) (by decide) (by decide) (by decide) (by decide)
        have y162 : y 162 = v 162 := y4.1 162 (by decide) (by decide) (by decide) (by decide) (by decide) (by decide)
        obtain ⟨z, z1, z2, z3, z4⟩ := rm_keepsPlace (u := uh y 161 (k + 1) (-1)) (k := k + 1) (by omega) (y := (k : Int) + 1) (by omega)
        have hb : xm_findsRow_b26 u (many : Int) x2 x3 (k : Int) = some (.inl ((k : Int) + 1, z)) := by
          rw [v6, if_pos (by omega), y1]
          simp only [obs]
          rw [if_neg (by decide)]
          unfold xm_findsRow_b26_j109
          rw [w32_eq (x := (k : Int) + 1) (by omega) (by omega), w32_eq (x := (many : Int)) (by omega) (by omega), if_neg (by omega), ixt (n := 9) (j := (k : Int) + 1) (k + 1) (by omega) (by omega) (by decide)]
          simp only [obs]
          rw [z1]
          rfl
        have fz : FX M z := by
          have g := FX_161 (i := k + 1) (v := -1) fy
          exact ⟨fun P h1 h2 h3 h4 h5 h6 h7 h8 => by rw [z2 P h8]; exact g.1 P h1 h2 h3 h4 h5 h6 h7 h8, fun q h1 => by rw [z2 146 (by decide)]; exact g.2.1 q h1, fun q hq => by rw [z2 156 (by decide)]; exact g.2.2 q hq⟩
        have er : rsd z (k + 1) = y 156 := by
          funext i
          unfold rsd
          by_cases h : 10 ≤ i ∧ i < 55
          · rw [if_pos h, z3 _ (by omega), uh_row (by decide), show 10 + (i - 10) = i by omega]
          · rw [if_neg h, z2 156 (by decide), uh_row (by decide)]
        have z161 : ∀ i, i ≠ k + 1 → z 161 i = v 161 i := fun i hi => by rw [z2 161 (by decide), uh_ro _ _ _ _ hi, y161]
        have z162 : ∀ q, q < 45 * (k + 1) → z 162 q = u 162 q := fun q hq => by rw [z4 q hq, uh_row (by decide), y162, v4]
        have hin : lp (fun (q : Int × Hp) => xm_findsRow_b26 q.2 (many : Int) x2 x3 q.1) ((k : Int), u) = lp (fun (q : Int × Hp) => xm_findsRow_b26 q.2 (many : Int) x2 x3 q.1) (((k + 1 : Nat) : Int), z) := by
          rw [show ((k + 1 : Nat) : Int) = (k : Int) + 1 by omega]
          exact lp_in hb
        obtain ⟨i1, i2⟩ := ihr (k + 1) (by omega) (LCk K1) 0 K1 z (by omega) fz y3 (by rw [er]; exact y2) (by rw [z2 161 (by decide), uh_rc]; rfl)
        cases hsr : frm (ggS stp gl r K1) 0 (LCk K1) with
        | some row1 =>
          obtain ⟨u', e1, e2, e3, e4, e5⟩ := i1 row1 hsr
          have e0 : ggS stp gl (r + 1) K f = some (f :: row1) := by
            rw [gg_k hst, srch_s, hsr]
            rfl
          rw [frm_s e0]
          refine ⟨fun row hrow => ?_, fun hno => (by cases hno)⟩
          cases hrow
          refine ⟨u', by rw [hin]; exact e1, e2, fun i hi => ?_, fun q hq => ?_, fun i hi => ?_⟩
          · rw [e3 i (by omega), z161 i (by omega), v3 i (by omega)]
          · rw [e4 q (by omega), z162 q hq]
          · by_cases hi0 : i = 0
            · subst hi0
              rw [Nat.add_zero, e3 k (by omega), z161 k (by omega)]
              exact v2
            · obtain ⟨i', rfl⟩ : ∃ i', i = i' + 1 := ⟨i - 1, by omega⟩
              rw [show k + (i' + 1) = k + 1 + i' by omega, e5 i' (by omega)]
              rfl
        | none =>
          obtain ⟨u', e1, e2, e3, e4⟩ := i2 hsr
          rw [show ((k + 1 : Nat) : Int) - 1 = (k : Int) by omega] at e1
          refine go u' e2 (fun i hi => ?_) ?_ (fun q hq => ?_) (hin.trans e1) ?_
          · rw [e3 i (by omega), z161 i (by omega), v3 i (by omega)]
          · rw [e3 k (by omega), z161 k (by omega)]; exact v2
          · rw [e4 q (by omega), z162 q hq]
          · rw [gg_k hst, srch_s, hsr]
            rfl
end BT
