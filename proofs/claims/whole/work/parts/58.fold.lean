/-! a fold: bought, turned -/
/-- of what is said only these may change: 10 to 54 -/
def SD (s s1 : Hp) : Prop := (∀ P, P ≠ 156 → P ≠ 157 → s1 P = s P) ∧ ∀ q, q < 10 ∨ 55 ≤ q → s1 156 q = s 156 q
theorem SD_rf {s : Hp} : SD s s := ⟨fun _ _ _ => rfl, fun _ _ => rfl⟩
theorem SD_tr {s s1 s2 : Hp} (h : SD s s1) (g : SD s1 s2) : SD s s2 := ⟨fun p h1 h2 => (g.1 p h1 h2).trans (h.1 p h1 h2), fun q hq => (g.2 q hq).trans (h.2 q hq)⟩
section TF
variable {s : Hp} {K : Nat → Nat → Int} {n m : Nat}
theorem rm_turn (h : Rf (s 156) K n m) (w : WF K n m) {p sd wy : Nat} (hp : (p : Int) + 1 < K 0 2) (hsd : sd < 2) (hwy : wy < 2) : ∃ s1, xm_turnsOver s (p : Int) (sd : Int) (wy : Int) = some s1 ∧ Rf (s1 156) (trK K n p sd wy) n m ∧ SD s s1 := by
  obtain ⟨h0, h1, h2, h3, hcc, hj, hpu⟩ := id h
  obtain ⟨w8, w4, w0, w2, wl, wz, wd0, wd9, wc, wj, wq⟩ := id w
  obtain ⟨W, hW⟩ : ∃ W : Nat, K 0 2 = (W : Int) := ⟨(K 0 2).toNat, by omega⟩
  have ej : ∀ x5 : Int, x5 = - shf (K 0 2) p sd → xm_turnsOver_j121 (t2H (t1H s K n W) K p wy (n - 1)) (p : Int) (sd : Int) (wy : Int) (W : Int) x5 = some (uh (t3H (t2H (t1H s K n W) K p wy (n - 1)) K n p sd wy n) 156 10 (nWd (K 0 2) p)) := by
    intro x5 hx5
    unfold xm_turnsOver_j121
    rw [rm_turn3 (s0 := s) (m := m) h (fun q hq => by rw [t2H_lo (Or.inl hq), t1H_row (by decide)]) w hW (fun q hq => by rw [t2H_row (by decide), t1H_at hq]) (by omega) hsd hwy hx5, ix10 (by decide) (by decide)]
    simp only [obs]
    rw [w32_eq (x := (W : Int) - p - 1) (by omega) (by omega), w32_eq (x := (p : Int) + 1) (by omega) (by omega), hW]
    unfold nWd
    by_cases q : (W : Int) - p - 1 < p + 1
    · rw [if_pos q, if_pos q]
    · rw [if_neg q, if_neg q]
  have key : xm_turnsOver s (p : Int) (sd : Int) (wy : Int) = some (uh (t3H (t2H (t1H s K n W) K p wy (n - 1)) K n p sd wy n) 156 10 (nWd (K 0 2) p)) := by
    unfold xm_turnsOver
    rw [ix10 (by decide) (by decide)]
    simp only [obs]
    rw [h2.trans hW, rm_turn1 h w hW]
    simp only [obs]
    rw [rm_turn2 (s := t1H s K n W) h (t1H_row (by decide)) w (by omega) hwy]
    simp only [obs]
    rw [w32_eq (x := (sd : Int)) (by omega) (by omega), show w32 1 = 1 by decide, w32_eq (x := 2 * (p : Int) + 2 - W) (by omega) (by omega)]
    by_cases q : (sd : Int) = 1
    · rw [if_pos q]
      exact ej _ (by unfold shf; rw [if_neg (by omega)]; omega)
    · rw [if_neg q]
      by_cases q2 : 2 * (p : Int) + 2 - W < 0
      · rw [if_pos q2]
        exact ej _ (by unfold shf; rw [if_pos (by omega), if_pos (by omega)]; omega)
      · rw [if_neg q2]
        exact ej _ (by unfold shf; rw [if_pos (by omega), if_neg (by omega)]; rfl)
  refine ⟨_, key, ?_, ?_⟩
  · have lo : ∀ q, q < 12 ∨ 44 ≤ q → q ≠ 10 → uh (t3H (t2H (t1H s K n W) K p wy (n - 1)) K n p sd wy n) 156 10 (nWd (K 0 2) p) 156 q = t2H (t1H s K n W) K p wy (n - 1) 156 q := fun q hq hq2 => by
      rw [uh_ro _ _ _ _ hq2, t3H_lo (by omega)]
    have lo2 : ∀ q, q < 12 ∨ 51 ≤ q → q ≠ 10 → uh (t3H (t2H (t1H s K n W) K p wy (n - 1)) K n p sd wy n) 156 10 (nWd (K 0 2) p) 156 q = s 156 q := fun q hq hq2 => by
      rw [lo q (by omega) hq2, t2H_lo (by omega), t1H_row (by decide)]
    refine ⟨by rw [lo2 0 (by decide) (by decide)]; exact h0, by rw [lo2 1 (by decide) (by decide)]; exact h1, uh_rc _ _ _ _, by rw [lo2 11 (by decide) (by decide)]; exact h3, fun c hc => ?_, fun j hjj => ?_, fun q hq => ?_⟩
    · refine ⟨?_, ?_, ?_, ?_, ?_⟩
      · rw [uh_ro _ _ _ _ (by omega)]; exact t3H_at (k := 0) hc (by decide)
      · rw [uh_ro _ _ _ _ (by omega)]; exact t3H_at (k := 1) hc (by decide)
      · rw [uh_ro _ _ _ _ (by omega)]; exact t3H_at (k := 2) hc (by decide)
      · rw [uh_ro _ _ _ _ (by omega), t3H_ow, t2H_lo (by omega), t1H_row (by decide)]; exact (hcc c hc).2.2.2.1
      · rw [lo2 (55 + c) (by omega) (by omega)]; exact (hcc c hc).2.2.2.2
    · rw [lo (44 + j) (by omega) (by omega), t2H_at (by omega)]; rfl
    · rw [lo2 (51 + q) (by omega) (by omega)]; exact hpu q hq
  · refine ⟨fun P hP hP2 => ?_, fun q hq => ?_⟩
    · rw [uh_row hP, t3H_row hP, t2H_row hP, t1H_row hP2]
    · rw [uh_ro _ _ _ _ (by omega), t3H_lo (by omega), t2H_lo (by omega), t1H_row (by decide)]
end TF
def cap9 (x : Int) : Int := if 9999 < x then 9999 else x
/-- purses as cells are sold one behind the other -/
def puR (K : Nat → Nat → Int) (b : Nat) (g : Nat → Int) (p sd : Nat) : Nat → Nat → Int
  | 0, q => K 8 q
  | i + 1, q => if mvB (K 1) i p sd = true ∧ K 4 i = (q : Int) ∧ q ≠ b then cap9 (puR K b g p sd i q + g i) else puR K b g p sd i q
theorem puR_bd {K : Nat → Nat → Int} {n m b : Nat} {g : Nat → Int} {p sd : Nat} (w : WF K n m) (hg : ∀ c, c < n → 0 ≤ g c ∧ g c ≤ 999) {q : Nat} (hq : q < m) : ∀ i, i ≤ n → 0 ≤ puR K b g p sd i q ∧ puR K b g p sd i q ≤ 9999
  | 0, _ => by
    obtain ⟨w8, w4, w0, w2, wl, wz, wd0, wd9, wc, wj, wq⟩ := id w
    exact wq q hq
  | i + 1, hi => by
    have ih := puR_bd (b := b) (p := p) (sd := sd) w hg hq i (by omega)
    have h1 := hg i (by omega)
    show 0 ≤ (if mvB (K 1) i p sd = true ∧ K 4 i = (q : Int) ∧ q ≠ b then cap9 (puR K b g p sd i q + g i) else puR K b g p sd i q) ∧ (if mvB (K 1) i p sd = true ∧ K 4 i = (q : Int) ∧ q ≠ b then cap9 (puR K b g p sd i q + g i) else puR K b g p sd i q) ≤ 9999
    split
    · unfold cap9
      split <;> omega
    · exact ih
def buK (K : Nat → Nat → Int) (n b : Nat) (g : Nat → Int) (p sd : Nat) : Nat → Nat → Int := fun r i =>
  if r = 4 then (if mvB (K 1) i p sd = true then (b : Int) else K 4 i) else if r = 8 then (if i = b then K 8 b - sumN g n else puR K b g p sd n i) else K r i
theorem WF_bu {K : Nat → Nat → Int} {n m b : Nat} {g : Nat → Int} {p sd : Nat} (w : WF K n m) (hb : b < m) (hg : ∀ c, c < n → 0 ≤ g c ∧ g c ≤ 999) (ht : sumN g n ≤ K 8 b) : WF (buK K n b g p sd) n m := by
  obtain ⟨w8, w4, w0, w2, wl, wz, wd0, wd9, wc, wj, wq⟩ := id w
  have hs := sumN_bd (B := 999) hg
  refine ⟨w8, w4, w0, w2, wl, wz, wd0, wd9, fun c hc => ?_, wj, fun q hq => ?_⟩
  · have hw := wc c hc
    refine ⟨hw.1, hw.2.1, hw.2.2.1, ?_⟩
    show -1 ≤ (if mvB (K 1) c p sd = true then (b : Int) else K 4 c) ∧ (if mvB (K 1) c p sd = true then (b : Int) else K 4 c) < (m : Int) ∧ 0 ≤ K 5 c ∧ K 5 c ≤ 99
    split <;> omega
  · have hw := wq b hb
    show 0 ≤ (if q = b then K 8 b - sumN g n else puR K b g p sd n q) ∧ (if q = b then K 8 b - sumN g n else puR K b g p sd n q) ≤ 9999
    split
    · omega
    · exact puR_bd w hg hq n (Nat.le_refl n)
section BU
variable {s : Hp} {K : Nat → Nat → Int} {n m b : Nat}
theorem rm_buys (h : Rf (s 156) K n m) (w : WF K n m) (hb : b < m) {g : Nat → Int} (hg : ∀ c, c < n → 0 ≤ g c ∧ g c ≤ 999) (hpr : ∀ c, c < n → s 158 c = g c) {p sd : Nat} (hp : p < 100) (hsd : sd < 2) : ∃ s1, xm_buys s (b : Int) (p : Int) (sd : Int) (sumN g n) = some s1 ∧ Rf (s1 156) (buK K n b g p sd) n m ∧ SD s s1 := by
  obtain ⟨h0, h1, h2, h3, hcc, hj, hpu⟩ := id h
  obtain ⟨w8, w4, w0, w2, wl, wz, wd0, wd9, wc, wj, wq⟩ := id w
  unfold xm_buys
  rw [ixt (j := 51 + (b : Int)) (51 + b) (by omega) (by omega) (by decide)]
  simp only [obs]
  rw [hpu b hb]
  obtain ⟨r, e1, e2⟩ : ∃ r, lp (fun (q : Int × Hp) => xm_buys_b17 q.2 (b : Int) (p : Int) (sd : Int) q.1) (0, uh s 156 (51 + b) (K 8 b - sumN g n)) = some r ∧ (fun (r : Int × Hp) => (∀ q, q < m → r.2 156 (51 + q) = if q = b then K 8 b - sumN g n else puR K b g p sd n q) ∧ (∀ c, c < n → r.2 156 (12 + 4 * c + 3) = if mvB (K 1) c p sd = true then (b : Int) else K 4 c) ∧ (∀ q, ¬ (51 ≤ q ∧ q < 55) → ¬ (12 ≤ q ∧ q < 44 ∧ (q - 12) % 4 = 3) → r.2 156 q = s 156 q) ∧ ∀ P, P ≠ 156 → r.2 P = s P) r := by
    refine lp_forR (fun i (q : Int × Hp) => q.1 = (i : Int) ∧ (∀ j, j < m → q.2 156 (51 + j) = if j = b then K 8 b - sumN g n else puR K b g p sd i j) ∧ (∀ c, c < n → q.2 156 (12 + 4 * c + 3) = if c < i ∧ mvB (K 1) c p sd = true then (b : Int) else K 4 c) ∧ (∀ j, ¬ (51 ≤ j ∧ j < 55) → ¬ (12 ≤ j ∧ j < 44 ∧ (j - 12) % 4 = 3) → q.2 156 j = s 156 j) ∧ ∀ P, P ≠ 156 → q.2 P = s P) n _ ?_ ?_ ⟨rfl, fun j hj => ?_, fun c hc => ?_, fun j hj1 hj2 => ?_, fun P hP => uh_row hP⟩
    · rintro i ⟨c, s1⟩ hi ⟨j1, j2, j3, j4, j5⟩
      simp only at j1 j2 j3 j4 j5
      subst j1
      have hw := wc i hi
      have hgi := hg i hi
      have ei : s1 156 (12 + 4 * i) = K 1 i := by rw [j4 _ (by omega) (by omega)]; exact (hcc i hi).1
      have eo : s1 156 (12 + 4 * i + 3) = K 4 i := by rw [j3 i hi, if_neg (by omega)]
      have eco : xm_cellOf s1 (i : Int) 3 = some (K 4 i) := by
        rw [← eo]; exact xm_cellOf_at (s := s1) (k := 3) (by omega) (by decide)
      have ejj : ∀ s2 : Hp, xm_buys_b17_j108 s2 (b : Int) (p : Int) (sd : Int) (i : Int) = some (.inl (((i + 1 : Nat) : Int), uh s2 156 (12 + 4 * i + 3) (b : Int))) := fun s2 => by
        unfold xm_buys_b17_j108
        rw [ixt (j := 12 + 4 * (i : Int) + 3) (12 + 4 * i + 3) (by omega) (by omega) (by decide)]
        rfl
      show ∃ q, xm_buys_b17 s1 (b : Int) (p : Int) (sd : Int) (i : Int) = some (.inl q) ∧ _
      unfold xm_buys_b17
      rw [ix0 (by decide) (by decide), rm_isMoved_at (s := s1) (c := i) (by omega) ei (by omega) (by omega) hp hsd, eco]
      simp only [obs]
      rw [j4 0 (by omega) (by omega), h0, w32_eq (x := (i : Int)) (by omega) (by omega), w32_eq (x := (n : Int)) (by omega) (by omega), if_pos (by omega)]
      by_cases hm : (sd = 0 ∧ (p : Int) < K 1 i) ∨ (sd ≠ 0 ∧ K 1 i ≤ (p : Int))
      · have hmB := mvB_t.mpr hm
        rw [if_pos hm, if_neg (by decide), ejj, w32_eq (x := K 4 i) (by omega) (by omega), w32_eq (x := (b : Int)) (by omega) (by omega)]
        -- without a payment
        have free : (∀ q, q < m → ¬ (K 4 i = (q : Int) ∧ q ≠ b)) → ∃ q, (some (.inl (((i + 1 : Nat) : Int), uh s1 156 (12 + 4 * i + 3) (b : Int))) : Option ((Int × Hp) ⊕ (Int × Hp))) = some (.inl q) ∧ q.1 = ((i + 1 : Nat) : Int) ∧ (∀ j, j < m → q.2 156 (51 + j) = if j = b then K 8 b - sumN g n else puR K b g p sd (i + 1) j) ∧ (∀ c, c < n → q.2 156 (12 + 4 * c + 3) = if c < i + 1 ∧ mvB (K 1) c p sd = true then (b : Int) else K 4 c) ∧ (∀ j, ¬ (51 ≤ j ∧ j < 55) → ¬ (12 ≤ j ∧ j < 44 ∧ (j - 12) % 4 = 3) → q.2 156 j = s 156 j) ∧ ∀ P, P ≠ 156 → q.2 P = s P := by
          intro hno
          refine ⟨_, rfl, rfl, fun j hj => ?_, fun c hc => ?_, fun j hj1 hj2 => ?_, fun P hP => (uh_row hP).trans (j5 P hP)⟩
          · show uh s1 156 (12 + 4 * i + 3) (b : Int) 156 (51 + j) = _
            rw [uh_ro _ _ _ _ (by omega), j2 j hj]
            have e : puR K b g p sd (i + 1) j = puR K b g p sd i j := if_neg (fun q => hno j hj q.2)
            rw [e]
          · show uh s1 156 (12 + 4 * i + 3) (b : Int) 156 (12 + 4 * c + 3) = _
            by_cases hci : c = i
            · subst hci
              rw [uh_rc, if_pos ⟨by omega, hmB⟩]
            · rw [uh_ro _ _ _ _ (by omega), j3 c hc]
              by_cases hc2 : c < i ∧ mvB (K 1) c p sd = true
              · rw [if_pos hc2, if_pos ⟨by omega, hc2.2⟩]
              · rw [if_neg hc2, if_neg (fun q => hc2 ⟨by omega, q.2⟩)]
          · show uh s1 156 (12 + 4 * i + 3) (b : Int) 156 j = _
            rw [uh_ro _ _ _ _ (by omega)]; exact j4 j hj1 hj2
        by_cases ho : K 4 i < 0
        · rw [if_pos ho]
          exact free (fun q hq e => by omega)
        · rw [if_neg ho]
          by_cases ho2 : K 4 i = (b : Int)
          · rw [if_pos ho2]
            exact free (fun q hq e => by omega)
          · obtain ⟨o, hoo⟩ : ∃ o : Nat, K 4 i = (o : Int) := ⟨(K 4 i).toNat, by omega⟩
            rw [if_neg ho2, hoo, ixt (j := 51 + (o : Int)) (51 + o) (by omega) (by omega) (by decide), ixt (n := 8) i rfl (by omega) (by decide)]
            simp only [obs]
            have epu : s1 156 (51 + o) = puR K b g p sd i o := by rw [j2 o (by omega), if_neg (by omega)]
            have egi : s1 158 i = g i := by rw [j5 158 (by decide)]; exact hpr i hi
            have hbd := puR_bd (b := b) (p := p) (sd := sd) w hg (show o < m by omega) i (by omega)
            rw [epu, egi, show w32 9999 = 9999 by decide, w32_eq (x := puR K b g p sd i o + g i) (by omega) (by omega)]
            have fin : ∀ v : Int, v = cap9 (puR K b g p sd i o + g i) → ∃ q, (some (.inl (((i + 1 : Nat) : Int), uh (uh s1 156 (51 + o) v) 156 (12 + 4 * i + 3) (b : Int))) : Option ((Int × Hp) ⊕ (Int × Hp))) = some (.inl q) ∧ q.1 = ((i + 1 : Nat) : Int) ∧ (∀ j, j < m → q.2 156 (51 + j) = if j = b then K 8 b - sumN g n else puR K b g p sd (i + 1) j) ∧ (∀ c, c < n → q.2 156 (12 + 4 * c + 3) = if c < i + 1 ∧ mvB (K 1) c p sd = true then (b : Int) else K 4 c) ∧ (∀ j, ¬ (51 ≤ j ∧ j < 55) → ¬ (12 ≤ j ∧ j < 44 ∧ (j - 12) % 4 = 3) → q.2 156 j = s 156 j) ∧ ∀ P, P ≠ 156 → q.2 P = s P := by
              intro v hv
              refine ⟨_, rfl, rfl, fun j hj => ?_, fun c hc => ?_, fun j hj1 hj2 => ?_, fun P hP => ((uh_row hP).trans (uh_row hP)).trans (j5 P hP)⟩
              · show uh (uh s1 156 (51 + o) v) 156 (12 + 4 * i + 3) (b : Int) 156 (51 + j) = _
                rw [uh_ro _ _ _ _ (by omega)]
                by_cases hjo : j = o
                · subst hjo
                  have e : puR K b g p sd (i + 1) j = cap9 (puR K b g p sd i j + g i) := if_pos ⟨hmB, hoo, by omega⟩
                  rw [uh_rc, if_neg (by omega), e, hv]
                · have e : puR K b g p sd (i + 1) j = puR K b g p sd i j := if_neg (fun q => by omega)
                  rw [uh_ro _ _ _ _ (by omega), j2 j hj, e]
              · show uh (uh s1 156 (51 + o) v) 156 (12 + 4 * i + 3) (b : Int) 156 (12 + 4 * c + 3) = _
                by_cases hci : c = i
                · subst hci
                  rw [uh_rc, if_pos ⟨by omega, hmB⟩]
                · rw [uh_ro _ _ _ _ (by omega), uh_ro _ _ _ _ (by omega), j3 c hc]
                  by_cases hc2 : c < i ∧ mvB (K 1) c p sd = true
                  · rw [if_pos hc2, if_pos ⟨by omega, hc2.2⟩]
                  · rw [if_neg hc2, if_neg (fun q => hc2 ⟨by omega, q.2⟩)]
              · show uh (uh s1 156 (51 + o) v) 156 (12 + 4 * i + 3) (b : Int) 156 j = _
                rw [uh_ro _ _ _ _ (by omega), uh_ro _ _ _ _ (by omega)]; exact j4 j hj1 hj2
            by_cases hcap : 9999 < puR K b g p sd i o + g i
            · rw [if_pos hcap, ejj]
              exact fin 9999 (if_pos hcap).symm
            · rw [if_neg hcap, ejj]
              exact fin _ (if_neg hcap).symm
      · have hmB : ¬ mvB (K 1) i p sd = true := fun q => hm (mvB_t.mp q)
        rw [if_neg hm, if_pos (by decide)]
        refine ⟨_, rfl, rfl, fun j hj => ?_, fun c hc => ?_, j4, j5⟩
        · have e : puR K b g p sd (i + 1) j = puR K b g p sd i j := if_neg (fun q => hmB q.1)
          rw [e]; exact j2 j hj
        · show s1 156 (12 + 4 * c + 3) = _
          rw [j3 c hc]
          by_cases hc2 : c < i ∧ mvB (K 1) c p sd = true
          · rw [if_pos hc2, if_pos ⟨by omega, hc2.2⟩]
          · rw [if_neg hc2, if_neg (fun q => hc2 ⟨by
              by_cases hci : c = i
              · subst hci; exact absurd q.2 hmB
              · omega, q.2⟩)]
    · rintro ⟨c, s1⟩ ⟨j1, j2, j3, j4, j5⟩
      simp only at j1 j2 j3 j4 j5
      subst j1
      refine ⟨((n : Int), s1), ?_, j2, fun c hc => ?_, j4, j5⟩
      · show xm_buys_b17 s1 (b : Int) (p : Int) (sd : Int) (n : Int) = _
        unfold xm_buys_b17
        rw [ix0 (by decide) (by decide)]
        simp only [obs]
        rw [j4 0 (by omega) (by omega), h0, if_neg (by omega)]
      · show s1 156 (12 + 4 * c + 3) = _
        rw [j3 c hc]
        by_cases hc2 : mvB (K 1) c p sd = true
        · rw [if_pos ⟨hc, hc2⟩, if_pos hc2]
        · rw [if_neg (fun q => hc2 q.2), if_neg hc2]
    · show uh s 156 (51 + b) _ 156 (51 + j) = _
      by_cases hjb : j = b
      · subst hjb; rw [uh_rc, if_pos rfl]
      · rw [uh_ro _ _ _ _ (by omega), if_neg hjb]; exact hpu j hj
    · show uh s 156 (51 + b) _ 156 (12 + 4 * c + 3) = _
      rw [uh_ro _ _ _ _ (by omega), if_neg (by omega)]
      exact (hcc c hc).2.2.2.1
    · show uh s 156 (51 + b) _ 156 j = _
      rw [uh_ro _ _ _ _ (by omega)]
  rw [e1]
  simp only [obs]
  obtain ⟨g1, g2, g3, g4⟩ := e2
  refine ⟨r.2, rfl, ⟨by rw [g3 0 (by omega) (by omega)]; exact h0, by rw [g3 1 (by omega) (by omega)]; exact h1, by rw [g3 10 (by omega) (by omega)]; exact h2, by rw [g3 11 (by omega) (by omega)]; exact h3, fun c hc => ⟨?_, ?_, ?_, g2 c hc, ?_⟩, fun j hjj => ?_, g1⟩, fun P hP _ => g4 P hP, fun q hq => g3 q (by omega) (by omega)⟩
  · rw [g3 _ (by omega) (by omega)]; exact (hcc c hc).1
  · rw [g3 _ (by omega) (by omega)]; exact (hcc c hc).2.1
  · rw [g3 _ (by omega) (by omega)]; exact (hcc c hc).2.2.1
  · rw [g3 _ (by omega) (by omega)]; exact (hcc c hc).2.2.2.2
  · rw [g3 _ (by omega) (by omega)]; exact hj j hjj
end BU
