/-! own: the class -/
noncomputable def stpO (ro : Option (List Cls)) (n b : Nat) (K : Pic) (f : Nat) : Option Pic := if bP (canF (K 1) (K 3) (K 6) n (f / 4) (f % 2) ∧ tot ro K n b (f / 4) (f / 2 % 2) (f % 2) ≤ K 8 b) = true then some (fdK ro K n b (f / 4) (f / 2 % 2) (f % 2)) else none
def csN (K : Pic) (n b : Nat) : Nat := bts (fun c => K 4 c = (b : Int)) n
def glO (n b wn : Nat) (K : Pic) : Bool := decide (wn &&& (255 ^^^ csN K n b) = 0)
theorem t255 : ∀ c, c < 8 → Nat.testBit 255 c = true := by decide
theorem t32 : ∀ c, c < 8 → Nat.testBit 4294967295 c = true := by decide
theorem nx8 {x y : Nat} (hx : x < 256) : x &&& (y ^^^ 4294967295) = x &&& (255 ^^^ y) := by
  apply Nat.eq_of_testBit_eq
  intro c
  simp only [Nat.testBit_and, Nat.testBit_xor]
  by_cases h : c < 8
  · rw [t255 c h, t32 c h]
    cases x.testBit c <;> cases y.testBit c <;> rfl
  · rw [Nat.testBit_lt_two_pow (x := x) (i := c) (Nat.lt_of_lt_of_le hx (show 2 ^ 8 ≤ 2 ^ c from Nat.pow_le_pow_right (by decide) (by omega)))]
    simp
theorem bNot {x y : Nat} (hx : x < 256) (hy : y < 256) : bAnd (x : Int) (bXor (y : Int) (-1)) = ((x &&& (255 ^^^ y) : Nat) : Int) := by
  have hlt : x &&& (255 ^^^ y) < 256 := Nat.lt_of_le_of_lt Nat.and_le_left hx
  refine bv_i ?_ (by omega)
  rw [Int32.toBitVec_and, BitVec.toNat_and, bv_n (by omega)]
  unfold bXor
  rw [Int32.ofInt_toInt, Int32.toBitVec_xor, BitVec.toNat_xor, bv_n (by omega), show (Int32.ofInt (-1)).toBitVec.toNat = 4294967295 by decide +kernel]
  exact nx8 hx
theorem bts_8 {P : Nat → Prop} [DecidablePred P] {n : Nat} (h : n ≤ 8) : bts P n < 256 := Nat.lt_of_lt_of_le (bts_lt P n) (Nat.pow_le_pow_right (n := 2) (by decide) h)
theorem stpO_y {ro : Option (List Cls)} {n b f : Nat} {K : Pic} (h : canF (K 1) (K 3) (K 6) n (f / 4) (f % 2) ∧ tot ro K n b (f / 4) (f / 2 % 2) (f % 2) ≤ K 8 b) : stpO ro n b K f = some (fdK ro K n b (f / 4) (f / 2 % 2) (f % 2)) := if_pos (bP_1 h)
theorem stpO_n {ro : Option (List Cls)} {n b f : Nat} {K : Pic} (h : ¬ (canF (K 1) (K 3) (K 6) n (f / 4) (f % 2) ∧ tot ro K n b (f / 4) (f / 2 % 2) (f % 2) ≤ K 8 b)) : stpO ro n b K f = none := if_neg (by rw [bP_0 h]; decide)
/-- what is theirs behind a fold -/
theorem gl_fd {ro : Option (List Cls)} {n b wn p sd wy : Nat} {K : Pic} (h8 : n ≤ 8) : glO n b wn (fdK ro K n b p sd wy) = decide ((wn &&& (255 ^^^ csN K n b)) &&& (255 ^^^ bts (fun c => mvB (K 1) c p sd = true) n) = 0) := by
  unfold glO
  have e : wn &&& (255 ^^^ csN (fdK ro K n b p sd wy) n b) = (wn &&& (255 ^^^ csN K n b)) &&& (255 ^^^ bts (fun c => mvB (K 1) c p sd = true) n) := by
    apply Nat.eq_of_testBit_eq
    intro c
    unfold csN
    simp only [Nat.testBit_and, Nat.testBit_xor, bts_bit]
    have e4 : fdK ro K n b p sd wy 4 c = if mvB (K 1) c p sd = true then (b : Int) else K 4 c := rfl
    rw [e4]
    by_cases h1 : c < n
    · have h5 := t255 c (by omega)
      by_cases h2 : mvB (K 1) c p sd = true
      · rw [if_pos h2]
        simp [h1, h2, h5]
      · rw [if_neg h2]
        by_cases h3 : K 4 c = (b : Int)
        · simp [h1, h2, h3, h5]
        · simp [h1, h2, h3, h5]
    · simp [h1]
  rw [e]
/-- what ownsBy may change -/
def OF (d : Nat) (s t : Hp) : Prop := (∀ P, ¬ (42 ≤ P ∧ P ≤ 53) → P ≠ 56 → ¬ (58 + 9 * (d + 1) ≤ P ∧ P ≤ 129) → t P = s P) ∧ ∀ i, i < d → t 56 i = s 56 i
theorem OF_rf {d : Nat} {s : Hp} : OF d s s := ⟨fun _ _ _ _ => rfl, fun _ _ => rfl⟩
theorem OF_tr {d : Nat} {s t u : Hp} (h : OF d s t) (g : OF d t u) : OF d s u := ⟨fun P h1 h2 h3 => (g.1 P h1 h2 h3).trans (h.1 P h1 h2 h3), fun i hi => (g.2 i hi).trans (h.2 i hi)⟩
theorem OF_q {d : Nat} {s t : Hp} (h : ∀ P, P ≠ 51 → P ≠ 52 → P ≠ 53 → t P = s P) : OF d s t := ⟨fun P h1 _ _ => h P (by omega) (by omega) (by omega), fun i _ => by rw [h 56 (by decide) (by decide) (by decide)]⟩
theorem OF_up {d : Nat} {s t : Hp} (h : OF (d + 1) s t) : OF d s t := ⟨fun P h1 h2 h3 => h.1 P h1 h2 (by omega), fun i hi => h.2 i (by omega)⟩
section CO1
variable {n m b wn : Nat} {ln : Nat → Nat} {rs : Nat → Int} {ur : Int} {ro : Option (List Cls)}
theorem co_j83 {t : Hp} {K : Pic} {d f r : Nat} {x8 x9 : Int} {F34 : Hp → Int → Int → Int → Int → Int → Option (Int × Hp)} (w : WF K n m) (h : Cl t (58 + 9 * d) K n m) (hl : LevR t) (hcr : CR ln t ur ro) (hb : b < m) (hf : ((f / 4 : Nat) : Int) + 1 < K 0 2) (hd : d + r ≤ 2)
    (hrec : ∀ (r' : Nat) (K1 : Pic) (s1 : Hp), r = r' + 1 → Cl s1 (58 + 9 * (d + 1)) K1 n m → WF K1 n m → LevR s1 → CR ln s1 ur ro → ∃ s2, F34 s1 ur (b : Int) (wn : Int) ((d : Int) + 1) (((r + 1 : Nat) : Int) - 1) = some (if (srch (stpO ro n b) (glO n b wn) r K1).isSome = true then 1 else 0, s2) ∧ OF (d + 1) s1 s2 ∧ ∀ row, srch (stpO ro n b) (glO n b wn) r K1 = some row → ∀ i, i < r → s2 56 (d + 1 + i) = ((row.getD i 0 : Nat) : Int)) :
    (stpO ro n b K f = none → ∃ t1, xg_ownsBy_b52_j83 F34 ln rs t ur (b : Int) (wn : Int) (d : Int) ((r + 1 : Nat) : Int) (58 + 9 * d) x8 x9 (f : Int) = some (.inl ((f : Int) + 1, t1)) ∧ OF d t t1) ∧
    (∀ K1, stpO ro n b K f = some K1 → r = 0 → ∃ t1, xg_ownsBy_b52_j83 F34 ln rs t ur (b : Int) (wn : Int) (d : Int) ((r + 1 : Nat) : Int) (58 + 9 * d) x8 x9 (f : Int) = some (.inr (.inr (1, t1))) ∧ OF d t t1 ∧ t1 56 d = (f : Int)) ∧
    (∀ K1, stpO ro n b K f = some K1 → 0 < r → ∃ t1, xg_ownsBy_b52_j83 F34 ln rs t ur (b : Int) (wn : Int) (d : Int) ((r + 1 : Nat) : Int) (58 + 9 * d) x8 x9 (f : Int) = (if (srch (stpO ro n b) (glO n b wn) r K1).isSome = true then some (.inr (.inr (1, t1))) else some (.inl ((f : Int) + 1, t1))) ∧ OF d t t1 ∧ t1 56 d = (f : Int) ∧ ∀ row, srch (stpO ro n b) (glO n b wn) r K1 = some row → ∀ i, i < r → t1 56 (d + 1 + i) = ((row.getD i 0 : Nat) : Int)) := by
  obtain ⟨w8, w4, w0, w2, wl, wz, wd0, wd9, wc, wj, wq⟩ := id w
  have hf64 : f < 64 := by omega
  have hwb := wq b hb
  have ht0 := tot_bd (ro := ro) (b := b) (p := f / 4) (sd := f / 2 % 2) (wy := f % 2) w
  have hq := cl_quote (rs := rs) (f := f) (b := b) h w (by unfold awayM; omega) hcr hb hf64
  by_cases hc : canF (K 1) (K 3) (K 6) n (f / 4) (f % 2)
  · obtain ⟨s1, q1, q2, q3⟩ := hq.2 hc
    have e8 : s1 (58 + 9 * d + 8) b = K 8 b := by rw [q2 _ (by omega) (by omega) (by omega)]; exact h.2.2.2.2.2.2.1 b hb
    have base : xg_ownsBy_b52_j83 F34 ln rs t ur (b : Int) (wn : Int) (d : Int) ((r + 1 : Nat) : Int) (58 + 9 * d) x8 x9 (f : Int) = if K 8 b < tot ro K n b (f / 4) (f / 2 % 2) (f % 2) then some (.inl ((f : Int) + 1, s1)) else if ((r + 1 : Nat) : Int) = 1 then some (.inr (.inr (1, uh s1 56 d (f : Int)))) else (ix 8 ((d : Int) + 1)).bind fun i16 => (lvA (uh s1 56 d (f : Int) 55 i16) i16).bind fun b18 => (xl_copyFrom (uh s1 56 d (f : Int)) b18 (58 + 9 * d)).bind fun o20 => (lvA (o20 55 i16) i16).bind fun b24 => (xk_settle o20 b24 (b : Int) (f : Int)).bind fun o26 => (F34 o26 ur (b : Int) (wn : Int) ((d : Int) + 1) (((r + 1 : Nat) : Int) - 1)).bind fun o30 => if w32 o30.1 = 0 then some (.inl ((f : Int) + 1, o30.2)) else some (.inr (.inr (1, o30.2))) := by
      unfold xg_ownsBy_b52_j83
      rw [q1, ixt (n := 4) (j := (b : Int)) b rfl (by omega) (by decide), ixt (n := 8) (j := (d : Int)) d rfl (by omega) (by decide)]
      simp only [obs]
      rw [e8, w32_eq (x := tot ro K n b (f / 4) (f / 2 % 2) (f % 2)) (by omega) (by omega), w32_eq (x := K 8 b) (by omega) (by omega), w32_eq (x := ((r + 1 : Nat) : Int)) (by omega) (by omega), show w32 (-2) = -2 by decide, show w32 1 = 1 by decide, if_neg (c := tot ro K n b (f / 4) (f / 2 % 2) (f % 2) = -2) (by omega)]
    by_cases ht : tot ro K n b (f / 4) (f / 2 % 2) (f % 2) ≤ K 8 b
    · rw [base, if_neg (by omega)]
      rw [stpO_y ⟨hc, ht⟩]
      have ofu : OF d t (uh s1 56 d (f : Int)) := ⟨fun P h1 h2 h3 => by rw [uh_row h2]; exact q2 P (by omega) (by omega) (by omega), fun i hi => by rw [uh_ro _ _ _ _ (by omega), q2 56 (by decide) (by decide) (by decide)]⟩
      refine ⟨fun q => (by cases q), fun K1 hK1 hr => ?_, fun K1 hK1 hr => ?_⟩
      · rw [if_pos (by omega)]
        exact ⟨_, rfl, ofu, uh_rc _ _ _ _⟩
      · cases hK1
        rw [if_neg (by omega), ixt (n := 8) (j := (d : Int) + 1) (d + 1) (by omega) (by omega) (by decide)]
        simp only [obs]
        have l55 : ∀ s2 : Hp, s2 55 = t 55 → lvA (s2 55 (d + 1)) (d + 1) = some (58 + 9 * (d + 1)) := fun s2 hs2 => by
          unfold lvA
          rw [hs2, hl (d + 1) (by omega), if_pos ⟨rfl, by omega⟩]
        rw [l55 (uh s1 56 d (f : Int)) (by rw [uh_row (by decide), q2 55 (by decide) (by decide) (by decide)])]
        simp only [obs]
        obtain ⟨o20, c1, c2, c3⟩ := cl_copy (s := uh s1 56 d (f : Int)) (a0 := 58 + 9 * (d + 1)) (a1 := 58 + 9 * d) (by omega)
        rw [c1]
        simp only [obs]
        rw [l55 o20 (by rw [c2 55 (by omega), uh_row (by decide), q2 55 (by decide) (by decide) (by decide)])]
        simp only [obs]
        have hcu : Cl (uh s1 56 d (f : Int)) (58 + 9 * d) K n m := Cl_row h (fun i hi => by rw [uh_row (by omega)]; exact q2 _ (by omega) (by omega) (by omega))
        obtain ⟨o26, g1, g2, g3⟩ := cl_settle (s := o20) (a := 58 + 9 * (d + 1)) (ro := ro) (b := b) (f := f) (Cl_cp hcu w c3) w (by unfold away2; omega) hb hf64 hf (fun c hc => by rw [c2 51 (by omega), uh_row (by decide)]; exact q3 c hc) ht
        rw [g1]
        simp only [obs]
        have fr26 : ∀ P, ¬ (42 ≤ P ∧ P ≤ 53) → P ≠ 56 → ¬ (58 + 9 * (d + 1) ≤ P ∧ P ≤ 58 + 9 * (d + 1) + 8) → o26 P = t P := fun P h1 h2 h3 => by rw [g3 P h3 (by omega), c2 P h3, uh_row h2, q2 P (by omega) (by omega) (by omega)]
        have e56 : o26 56 = uh s1 56 d (f : Int) 56 := by rw [g3 56 (by omega) (by omega), c2 56 (by omega)]
        obtain ⟨r', hr'⟩ : ∃ r', r = r' + 1 := ⟨r - 1, by omega⟩
        obtain ⟨s2, k1, k2, k3⟩ := hrec r' _ o26 hr' g2 (WF_fd w hb hf (Nat.mod_lt _ (by decide)) ht) (fun i hi => by rw [fr26 55 (by omega) (by decide) (by omega)]; exact hl i hi) (CR_row hcr (fun P hP => fr26 P (by omega) (by omega) (by omega)))
        rw [k1]
        simp only [obs]
        have of26 : OF d t o26 := ⟨fun P h1 h2 h3 => fr26 P h1 h2 (by omega), fun i hi => by rw [e56, uh_ro _ _ _ _ (by omega), q2 56 (by decide) (by decide) (by decide)]⟩
        refine ⟨s2, ?_, OF_tr of26 (OF_up k2), by rw [k2.2 d (by omega), e56, uh_rc], k3⟩
        by_cases hsm : (srch (stpO ro n b) (glO n b wn) r (fdK ro K n b (f / 4) (f / 2 % 2) (f % 2))).isSome = true
        · rw [if_pos hsm, if_neg (by decide), if_pos hsm]
        · rw [if_neg hsm, if_pos (by decide), if_neg hsm]
    · rw [base, if_pos (by omega), stpO_n (fun q => ht q.2)]
      exact ⟨fun _ => ⟨s1, rfl, OF_q q2⟩, fun K1 q => (by cases q), fun K1 q => (by cases q)⟩
  · rw [stpO_n (fun q => hc q.1)]
    refine ⟨fun _ => ⟨t, ?_, OF_rf⟩, fun K1 q => (by cases q), fun K1 q => (by cases q)⟩
    unfold xg_ownsBy_b52_j83
    rw [hq.1 hc]
    simp only [obs]
    rw [if_pos trivial]
theorem co_loop {F34 : Hp → Int → Int → Int → Int → Int → Option (Int × Hp)} {r d : Nat} {K : Pic} {s : Hp} (hb : b < m) (hwn : wn < 256) (h0 : 0 < n) (hd : d + r ≤ 2) (w : WF K n m) (h : Cl s (58 + 9 * d) K n m) (hl : LevR s) (hcr : CR ln s ur ro)
    (hrec : ∀ (r' : Nat) (K1 : Pic) (s1 : Hp), r = r' + 1 → Cl s1 (58 + 9 * (d + 1)) K1 n m → WF K1 n m → LevR s1 → CR ln s1 ur ro → ∃ s2, F34 s1 ur (b : Int) (wn : Int) ((d : Int) + 1) (((r + 1 : Nat) : Int) - 1) = some (if (srch (stpO ro n b) (glO n b wn) r K1).isSome = true then 1 else 0, s2) ∧ OF (d + 1) s1 s2 ∧ ∀ row, srch (stpO ro n b) (glO n b wn) r K1 = some row → ∀ i, i < r → s2 56 (d + 1 + i) = ((row.getD i 0 : Nat) : Int)) :
    ∀ (j f : Nat) (t : Hp), f + j = LCk K → OF d s t →
    (∀ row, frm (ggS (stpO ro n b) (glO n b wn) r K) f j = some row → ∃ t', lp (fun (q : Int × Hp) => xg_ownsBy_b52 F34 ln rs q.2 ur (b : Int) (wn : Int) (d : Int) ((r + 1 : Nat) : Int) (58 + 9 * d) ((wn &&& (255 ^^^ csN K n b) : Nat) : Int) ((LCk K : Nat) : Int) q.1) ((f : Int), t) = some (.inr (1, t')) ∧ OF d s t' ∧ ∀ i, i < r + 1 → t' 56 (d + i) = ((row.getD i 0 : Nat) : Int)) ∧
    (frm (ggS (stpO ro n b) (glO n b wn) r K) f j = none → ∃ t' z, lp (fun (q : Int × Hp) => xg_ownsBy_b52 F34 ln rs q.2 ur (b : Int) (wn : Int) (d : Int) ((r + 1 : Nat) : Int) (58 + 9 * d) ((wn &&& (255 ^^^ csN K n b) : Nat) : Int) ((LCk K : Nat) : Int) q.1) ((f : Int), t) = some (.inl (z, t')) ∧ OF d s t') := by
  intro j
  induction j with
  | zero =>
    intro f t hf ft
    have hL := LC_lt (f := f) w h0
    refine ⟨fun row hrow => (by cases hrow), fun _ => ⟨t, (f : Int), lp_en ?_, ft⟩⟩
    · show xg_ownsBy_b52 F34 ln rs t ur (b : Int) (wn : Int) (d : Int) ((r + 1 : Nat) : Int) (58 + 9 * d) _ ((LCk K : Nat) : Int) (f : Int) = _
      unfold xg_ownsBy_b52
      rw [w32_eq (x := (f : Int)) (by omega) (by omega), w32_eq (x := ((LCk K : Nat) : Int)) (by omega) (by omega), if_neg (by omega)]
  | succ j ih =>
    intro f t hf ft
    have hL := LC_lt (f := f) w h0
    have w8 := w.1
    have hfp : ((f / 4 : Nat) : Int) + 1 < K 0 2 := hL.1.mp (by omega)
    have ht : Cl t (58 + 9 * d) K n m := Cl_row h (fun i hi => ft.1 _ (by omega) (by omega) (by omega))
    have hlt : LevR t := fun i hi => by rw [ft.1 55 (by omega) (by decide) (by omega)]; exact hl i hi
    have hct : CR ln t ur ro := CR_row hcr (fun P hP => ft.1 P (by omega) (by omega) (by omega))
    obtain ⟨j1, j2, j3⟩ := co_j83 (rs := rs) (wn := wn) (x8 := ((wn &&& (255 ^^^ csN K n b) : Nat) : Int)) (x9 := ((LCk K : Nat) : Int)) (F34 := F34) w ht hlt hct hb hfp hd hrec
    have go : ∀ t1 : Hp, OF d t t1 → xg_ownsBy_b52 F34 ln rs t ur (b : Int) (wn : Int) (d : Int) ((r + 1 : Nat) : Int) (58 + 9 * d) ((wn &&& (255 ^^^ csN K n b) : Nat) : Int) ((LCk K : Nat) : Int) (f : Int) = some (.inl ((f : Int) + 1, t1)) → ggS (stpO ro n b) (glO n b wn) r K f = none → (∀ row, frm (ggS (stpO ro n b) (glO n b wn) r K) f (j + 1) = some row → ∃ t', lp (fun (q : Int × Hp) => xg_ownsBy_b52 F34 ln rs q.2 ur (b : Int) (wn : Int) (d : Int) ((r + 1 : Nat) : Int) (58 + 9 * d) ((wn &&& (255 ^^^ csN K n b) : Nat) : Int) ((LCk K : Nat) : Int) q.1) ((f : Int), t) = some (.inr (1, t')) ∧ OF d s t' ∧ ∀ i, i < r + 1 → t' 56 (d + i) = ((row.getD i 0 : Nat) : Int)) ∧ (frm (ggS (stpO ro n b) (glO n b wn) r K) f (j + 1) = none → ∃ t' z, lp (fun (q : Int × Hp) => xg_ownsBy_b52 F34 ln rs q.2 ur (b : Int) (wn : Int) (d : Int) ((r + 1 : Nat) : Int) (58 + 9 * d) ((wn &&& (255 ^^^ csN K n b) : Nat) : Int) ((LCk K : Nat) : Int) q.1) ((f : Int), t) = some (.inl (z, t')) ∧ OF d s t') := by
      intro t1 f1 hb1 hgn
      rw [frm_n hgn, lp_in (B := fun (q : Int × Hp) => xg_ownsBy_b52 F34 ln rs q.2 ur (b : Int) (wn : Int) (d : Int) ((r + 1 : Nat) : Int) (58 + 9 * d) ((wn &&& (255 ^^^ csN K n b) : Nat) : Int) ((LCk K : Nat) : Int) q.1) (s := ((f : Int), t)) (s1 := ((f : Int) + 1, t1)) hb1, show (f : Int) + 1 = ((f + 1 : Nat) : Int) by omega]
      exact ih (f + 1) t1 (by omega) (OF_tr ft f1)
    have hpre : xg_ownsBy_b52 F34 ln rs t ur (b : Int) (wn : Int) (d : Int) ((r + 1 : Nat) : Int) (58 + 9 * d) ((wn &&& (255 ^^^ csN K n b) : Nat) : Int) ((LCk K : Nat) : Int) (f : Int) = if r = 0 ∧ glO n b wn (fdK ro K n b (f / 4) (f / 2 % 2) (f % 2)) = false then some (.inl ((f : Int) + 1, t)) else xg_ownsBy_b52_j83 F34 ln rs t ur (b : Int) (wn : Int) (d : Int) ((r + 1 : Nat) : Int) (58 + 9 * d) ((wn &&& (255 ^^^ csN K n b) : Nat) : Int) ((LCk K : Nat) : Int) (f : Int) := by
      unfold xg_ownsBy_b52
      rw [w32_eq (x := (f : Int)) (by omega) (by omega), w32_eq (x := ((LCk K : Nat) : Int)) (by omega) (by omega), if_pos (by omega), w32_eq (x := ((r + 1 : Nat) : Int)) (by omega) (by omega), show w32 1 = 1 by decide]
      by_cases hr : r = 0
      · have hm1 : wn &&& (255 ^^^ csN K n b) < 256 := Nat.lt_of_le_of_lt Nat.and_le_left hwn
        have hm2 : bts (fun c => mvB (K 1) c (f / 4) (f / 2 % 2) = true) n < 256 := bts_8 w8
        have hm3 : (wn &&& (255 ^^^ csN K n b)) &&& (255 ^^^ bts (fun c => mvB (K 1) c (f / 4) (f / 2 % 2) = true) n) < 256 := Nat.lt_of_le_of_lt Nat.and_le_left hm1
        rw [if_pos (by omega), cl_movedCells ht w (by omega)]
        simp only [obs]
        rw [bNot hm1 hm2, w32_eq (by omega) (by omega), gl_fd w8]
        by_cases hz : (wn &&& (255 ^^^ csN K n b)) &&& (255 ^^^ bts (fun c => mvB (K 1) c (f / 4) (f / 2 % 2) = true) n) = 0
        · rw [if_pos (by omega), if_neg (by rw [decide_eq_true hz]; exact fun q => (by cases q.2))]
        · rw [if_neg (by omega), if_pos ⟨hr, decide_eq_false hz⟩]
      · rw [if_neg (by omega), if_neg (fun q => hr q.1)]
    cases hst : stpO ro n b K f with
    | none =>
      obtain ⟨t1, e1, e2⟩ := j1 hst
      by_cases hp : r = 0 ∧ glO n b wn (fdK ro K n b (f / 4) (f / 2 % 2) (f % 2)) = false
      · exact go t OF_rf (by rw [hpre, if_pos hp]) (gg_n hst)
      · exact go t1 e2 (by rw [hpre, if_neg hp]; exact e1) (gg_n hst)
    | some K1 =>
      have hK1 : K1 = fdK ro K n b (f / 4) (f / 2 % 2) (f % 2) := by
        unfold stpO at hst
        split at hst
        · cases hst; rfl
        · cases hst
      by_cases hr : r = 0
      · subst hr
        obtain ⟨t1, e1, e2, e3⟩ := j2 K1 hst rfl
        by_cases hgl : glO n b wn K1 = true
        · have e0 : ggS (stpO ro n b) (glO n b wn) 0 K f = some [f] := by
            rw [gg_k hst]
            show ((if glO n b wn K1 = true then some [] else none).map fun q => f :: q) = some [f]
            rw [if_pos hgl]
            rfl
          rw [frm_s e0]
          refine ⟨fun row hrow => ?_, fun q => (by cases q)⟩
          cases hrow
          refine ⟨t1, lp_en ?_, OF_tr ft e2, fun i hi => ?_⟩
          · show xg_ownsBy_b52 F34 ln rs t ur (b : Int) (wn : Int) (d : Int) ((0 + 1 : Nat) : Int) (58 + 9 * d) _ ((LCk K : Nat) : Int) (f : Int) = _
            rw [hpre, if_neg (by rw [← hK1, hgl]; exact fun q => (by cases q.2))]
            exact e1
          · have : i = 0 := by omega
            subst this
            exact e3
        · refine go t OF_rf (by rw [hpre, if_pos ⟨rfl, by rw [← hK1]; exact Bool.eq_false_iff.mpr hgl⟩]) ?_
          rw [gg_k hst]
          show ((if glO n b wn K1 = true then some [] else none).map fun q => f :: q) = none
          rw [if_neg hgl]
          rfl
      · obtain ⟨t1, e1, e2, e3, e4⟩ := j3 K1 hst (by omega)
        have hb2 := hpre
        rw [if_neg (fun q => hr q.1), e1] at hb2
        cases hsr : srch (stpO ro n b) (glO n b wn) r K1 with
        | some row1 =>
          rw [hsr] at hb2
          have e0 : ggS (stpO ro n b) (glO n b wn) r K f = some (f :: row1) := by
            rw [gg_k hst, hsr]
            rfl
          rw [frm_s e0]
          refine ⟨fun row hrow => ?_, fun q => (by cases q)⟩
          cases hrow
          refine ⟨t1, lp_en hb2, OF_tr ft e2, fun i hi => ?_⟩
          by_cases hi0 : i = 0
          · subst hi0; exact e3
          · obtain ⟨i', rfl⟩ : ∃ i', i = i' + 1 := ⟨i - 1, by omega⟩
            rw [show d + (i' + 1) = d + 1 + i' by omega, e4 row1 hsr i' (by omega)]
            rfl
        | none =>
          rw [hsr] at hb2
          refine go t1 e2 hb2 ?_
          rw [gg_k hst, hsr]
          rfl
theorem co_body {fu r d : Nat} {K : Pic} {s : Hp} (hb : b < m) (hwn : wn < 256) (h0 : 0 < n) (hd : d + r ≤ 2) (w : WF K n m) (h : Cl s (58 + 9 * d) K n m) (hl : LevR s) (hcr : CR ln s ur ro)
    (hrec : ∀ (r' : Nat) (K1 : Pic) (s1 : Hp), r = r' + 1 → Cl s1 (58 + 9 * (d + 1)) K1 n m → WF K1 n m → LevR s1 → CR ln s1 ur ro → ∃ s2, RC34 ln rs fu s1 ur (b : Int) (wn : Int) ((d : Int) + 1) (((r + 1 : Nat) : Int) - 1) = some (if (srch (stpO ro n b) (glO n b wn) r K1).isSome = true then 1 else 0, s2) ∧ OF (d + 1) s1 s2 ∧ ∀ row, srch (stpO ro n b) (glO n b wn) r K1 = some row → ∀ i, i < r → s2 56 (d + 1 + i) = ((row.getD i 0 : Nat) : Int)) : ∃ s1, RC34 ln rs (fu + 1) s ur (b : Int) (wn : Int) (d : Int) ((r + 1 : Nat) : Int) = some (if (srch (stpO ro n b) (glO n b wn) (r + 1) K).isSome = true then 1 else 0, s1) ∧ OF d s s1 ∧ ∀ row, srch (stpO ro n b) (glO n b wn) (r + 1) K = some row → ∀ i, i < r + 1 → s1 56 (d + i) = ((row.getD i 0 : Nat) : Int) := by
  have w8 := w.1
  have wl := w.2.2.2.2.1
  have wz := w.2.2.2.2.2.1
  have w4 := w.2.1
  obtain ⟨l1, l2⟩ := co_loop (rs := rs) (F34 := RC34 ln rs fu) hb hwn h0 hd w h hl hcr hrec (LCk K) 0 s (by omega) OF_rf
  show ∃ s1, xg_ownsBy_b (RC34 ln rs fu) ln rs s ur (b : Int) (wn : Int) (d : Int) ((r + 1 : Nat) : Int) = _ ∧ _
  unfold xg_ownsBy_b
  have hlc : (if 0 < 4 * (K 0 2 - 1) then 4 * (K 0 2 - 1) else 0) = ((LCk K : Nat) : Int) := by
    unfold LCk
    split <;> omega
  rw [w32_eq (x := (d : Int) + 1) (by omega) (by omega), show w32 8 = 8 by decide, if_pos (by omega), w32_eq (x := ((r + 1 : Nat) : Int)) (by omega) (by omega), show w32 1 = 1 by decide, if_neg (by omega), ixt (n := 8) (j := (d : Int)) d rfl (by omega) (by decide)]
  simp only [obs]
  rw [show lvA (s 55 d) d = some (58 + 9 * d) by unfold lvA; rw [hl d (by omega), if_pos ⟨rfl, by omega⟩]]
  simp only [obs]
  rw [cl_cellsOf h w (by omega) (by omega), cl_foldCount h w]
  simp only [obs]
  rw [hlc, bNot hwn (bts_8 w8), srch_s]
  cases hsr : frm (ggS (stpO ro n b) (glO n b wn) r K) 0 (LCk K) with
  | some row =>
    obtain ⟨t', e1, e2, e3⟩ := l1 row hsr
    have e1 : lp (fun (q : Int × Hp) => xg_ownsBy_b52 (RC34 ln rs fu) ln rs q.2 ur (b : Int) (wn : Int) (d : Int) ((r + 1 : Nat) : Int) (58 + 9 * d) ((wn &&& (255 ^^^ csN K n b) : Nat) : Int) ((LCk K : Nat) : Int) q.1) (0, s) = some (.inr (1, t')) := e1
    unfold csN at e1
    rw [e1]
    refine ⟨t', rfl, e2, fun row2 h2 => ?_⟩
    cases h2
    exact e3
  | none =>
    obtain ⟨t', z, e1, e2⟩ := l2 hsr
    have e1 : lp (fun (q : Int × Hp) => xg_ownsBy_b52 (RC34 ln rs fu) ln rs q.2 ur (b : Int) (wn : Int) (d : Int) ((r + 1 : Nat) : Int) (58 + 9 * d) ((wn &&& (255 ^^^ csN K n b) : Nat) : Int) ((LCk K : Nat) : Int) q.1) (0, s) = some (.inl (z, t')) := e1
    unfold csN at e1
    rw [e1]
    exact ⟨t', rfl, e2, fun row2 h2 => (by cases h2)⟩
theorem co_main (hb : b < m) (hwn : wn < 256) (h0 : 0 < n) : ∀ (r fuel d : Nat), r < fuel → d + r ≤ 2 → ∀ (K : Pic) (s : Hp), Cl s (58 + 9 * d) K n m → WF K n m → LevR s → CR ln s ur ro → ∃ s1, RC34 ln rs fuel s ur (b : Int) (wn : Int) (d : Int) ((r + 1 : Nat) : Int) = some (if (srch (stpO ro n b) (glO n b wn) (r + 1) K).isSome = true then 1 else 0, s1) ∧ OF d s s1 ∧ ∀ row, srch (stpO ro n b) (glO n b wn) (r + 1) K = some row → ∀ i, i < r + 1 → s1 56 (d + i) = ((row.getD i 0 : Nat) : Int) := by
  intro r
  induction r with
  | zero =>
    intro fuel d hfu hd K s h w hl hcr
    obtain ⟨fu, rfl⟩ : ∃ fu, fuel = fu + 1 := ⟨fuel - 1, by omega⟩
    exact co_body hb hwn h0 hd w h hl hcr (fun r' K1 s1 hr => by omega)
  | succ r ih =>
    intro fuel d hfu hd K s h w hl hcr
    obtain ⟨fu, rfl⟩ : ∃ fu, fuel = fu + 1 := ⟨fuel - 1, by omega⟩
    refine co_body hb hwn h0 hd w h hl hcr (fun r' K1 s1 hr k1 k2 k3 k4 => ?_)
    have := ih fu (d + 1) (by omega) (by omega) K1 s1 k1 k2 k3 k4
    rw [show ((r + 1 + 1 : Nat) : Int) - 1 = ((r + 1 : Nat) : Int) by omega, show (d : Int) + 1 = ((d + 1 : Nat) : Int) by omega]
    exact this
end CO1
