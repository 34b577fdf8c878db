/-! folded: by both sides -/
def dyK (K : Nat → Nat → Int) : Nat → Nat → Int := fun r i => if r = 0 ∧ i = 3 then (if K 0 3 < 9999 then K 0 3 + 1 else K 0 3) else K r i
def fdK (ro : Option (List Cls)) (K : Nat → Nat → Int) (n b p sd wy : Nat) : Nat → Nat → Int := dyK (trK (buK K n b (prc ro K n b p sd wy) p sd) n p sd wy)
theorem WF_dy {K : Nat → Nat → Int} {n m : Nat} (w : WF K n m) : WF (dyK K) n m := by
  obtain ⟨w8, w4, w0, w2, wl, wz, wd0, wd9, wc, wj, wq⟩ := w
  refine ⟨w8, w4, w0, w2, wl, wz, ?_, ?_, wc, wj, wq⟩
  · show 0 ≤ (if K 0 3 < 9999 then K 0 3 + 1 else K 0 3)
    split <;> omega
  · show (if K 0 3 < 9999 then K 0 3 + 1 else K 0 3) ≤ 9999
    split <;> omega
theorem WF_fd {ro : Option (List Cls)} {K : Nat → Nat → Int} {n m b p sd wy : Nat} (w : WF K n m) (hb : b < m) (hp : (p : Int) + 1 < K 0 2) (hsd : sd < 2) (ht : tot ro K n b p sd wy ≤ K 8 b) : WF (fdK ro K n b p sd wy) n m :=
  WF_dy (WF_tr (WF_bu w hb (fun c hc => prc_bd w hc) ht) hp hsd)
theorem cd_dp : ∀ f : Nat, f < 64 → iDiv (f : Int) 4 = ((f / 4 : Nat) : Int) := by decide +kernel
theorem cd_ds : ∀ f : Nat, f < 64 → iRem (iDiv (f : Int) 2) 2 = ((f / 2 % 2 : Nat) : Int) := by decide +kernel
theorem cd_dw : ∀ f : Nat, f < 64 → iRem (f : Int) 2 = ((f % 2 : Nat) : Int) := by decide +kernel
/-- a fold may change these alone -/
def FD (s s1 : Hp) : Prop := (∀ P, P ≠ 146 → P ≠ 154 → P ≠ 155 → P ≠ 156 → P ≠ 157 → P ≠ 158 → s1 P = s P) ∧ (∀ q, q ≠ 18 → s1 146 q = s 146 q) ∧ ∀ q, q < 10 ∨ 55 ≤ q → s1 156 q = s 156 q
theorem FD_rf {s : Hp} : FD s s := ⟨fun _ _ _ _ _ _ _ => rfl, fun _ _ => rfl, fun _ _ => rfl⟩
theorem FD_tr {s s1 s2 : Hp} (h : FD s s1) (g : FD s1 s2) : FD s s2 := ⟨fun p h1 h2 h3 h4 h5 h6 => (g.1 p h1 h2 h3 h4 h5 h6).trans (h.1 p h1 h2 h3 h4 h5 h6), fun q hq => (g.2.1 q hq).trans (h.2.1 q hq), fun q hq => (g.2.2 q hq).trans (h.2.2 q hq)⟩
theorem FD_pk {s s1 : Hp} (h : PK s s1) : FD s s1 := ⟨fun p h1 h2 h3 h4 h5 h6 => h.1 p h1 h2 h3 h6, h.2, fun q _ => by rw [h.1 156 (by decide) (by decide) (by decide) (by decide)]⟩
theorem FD_sd {s s1 : Hp} (h : SD s s1) : FD s s1 := ⟨fun p h1 h2 h3 h4 h5 h6 => h.1 p h4 h5, fun q _ => by rw [h.1 146 (by decide) (by decide)], h.2⟩
theorem RR_fd {s s1 : Hp} {ro : Option (List Cls)} (h : FD s s1) (hr : RR s ro) : RR s1 ro := by
  match ro, hr with
  | none, hr => show s1 146 21 = _; rw [h.2.1 21 (by decide)]; exact hr
  | some R, hr =>
    obtain ⟨T, a1, a2, a3, a4⟩ := hr
    exact ⟨T, a1, by rw [h.2.1 21 (by decide)]; exact a2, RM_row (h.1 148 (by decide) (by decide) (by decide) (by decide) (by decide) (by decide)) (h.1 150 (by decide) (by decide) (by decide) (by decide) (by decide) (by decide)) (h.1 151 (by decide) (by decide) (by decide) (by decide) (by decide) (by decide)) a3, a4⟩
section IF
variable {s : Hp} {ro : Option (List Cls)} {K : Nat → Nat → Int} {n m b : Nat}
theorem rm_isFolded (h : Rf (s 156) K n m) (w : WF K n m) (hr : RR s ro) (hb : b < m) {f : Nat} (hf : f < 64) (hp : ((f / 4 : Nat) : Int) + 1 < K 0 2) : (¬ (canF (K 1) (K 3) (K 6) n (f / 4) (f % 2) ∧ tot ro K n b (f / 4) (f / 2 % 2) (f % 2) ≤ K 8 b) → ∃ s1, xm_isFolded s (b : Int) (f : Int) = some (0, s1) ∧ PK s s1) ∧ (canF (K 1) (K 3) (K 6) n (f / 4) (f % 2) ∧ tot ro K n b (f / 4) (f / 2 % 2) (f % 2) ≤ K 8 b → ∃ s1, xm_isFolded s (b : Int) (f : Int) = some (1, s1) ∧ Rf (s1 156) (fdK ro K n b (f / 4) (f / 2 % 2) (f % 2)) n m ∧ FD s s1) := by
  obtain ⟨w8, w4, w0, w2, wl, wz, wd0, wd9, wc, wj, wq⟩ := id w
  have ep : xm_placeOf (f : Int) = some ((f / 4 : Nat) : Int) := congrArg some (cd_dp f hf)
  have es : xm_sideOf (f : Int) = some ((f / 2 % 2 : Nat) : Int) := congrArg some (cd_ds f hf)
  have ew : xm_wayOf (f : Int) = some ((f % 2 : Nat) : Int) := congrArg some (cd_dw f hf)
  have hwb := wq b hb
  have htb := tot_bd (ro := ro) (b := b) (p := f / 4) (sd := f / 2 % 2) (wy := f % 2) w
  unfold xm_isFolded
  rw [ep, es, ew]
  simp only [obs]
  by_cases hc : canF (K 1) (K 3) (K 6) n (f / 4) (f % 2)
  · rw [(rm_can h w (by omega) (by omega)).1 hc]
    simp only [obs]
    rw [if_neg (by decide)]
    obtain ⟨s1, e1, e2, e3⟩ := rm_prices h w hr hb (p := f / 4) (sd := f / 2 % 2) (wy := f % 2) (by omega) (by omega) (by omega)
    rw [e1, ixt (j := 51 + (b : Int)) (51 + b) (by omega) (by omega) (by decide)]
    simp only [obs]
    have hf1 : Rf (s1 156) K n m := by rw [e2.1 156 (by decide) (by decide) (by decide) (by decide)]; exact h
    rw [hf1.2.2.2.2.2.2 b hb, w32_eq (x := K 8 b) (by omega) (by omega), w32_eq (x := tot ro K n b (f / 4) (f / 2 % 2) (f % 2)) (by omega) (by omega)]
    by_cases ht : tot ro K n b (f / 4) (f / 2 % 2) (f % 2) ≤ K 8 b
    · refine ⟨fun q => absurd ⟨hc, ht⟩ q, fun _ => ?_⟩
      rw [if_neg (by omega)]
      obtain ⟨s2, f1, f2', f3⟩ := rm_buys hf1 w hb (fun c hc => prc_bd w hc) e3 (p := f / 4) (sd := f / 2 % 2) (by omega) (by omega)
      have f1 : xm_buys s1 (b : Int) ((f / 4 : Nat) : Int) ((f / 2 % 2 : Nat) : Int) (tot ro K n b (f / 4) (f / 2 % 2) (f % 2)) = some s2 := f1
      rw [f1]
      simp only [obs]
      obtain ⟨s3, g1, g2, g3⟩ := rm_turn f2' (WF_bu w hb (fun c hc => prc_bd w hc) ht) (p := f / 4) (sd := f / 2 % 2) (wy := f % 2) hp (by omega) (by omega)
      rw [g1, ix11 (by decide) (by decide)]
      simp only [obs]
      have hd : s3 156 11 = K 0 3 := g2.2.2.2.1
      have fin : ∀ v : Int, v = (if K 0 3 < 9999 then K 0 3 + 1 else K 0 3) → ∃ s4, (some (1, uh s3 156 11 v) : Option (Int × Hp)) = some (1, s4) ∧ Rf (s4 156) (fdK ro K n b (f / 4) (f / 2 % 2) (f % 2)) n m ∧ FD s s4 := by
        intro v hv
        refine ⟨_, rfl, ?_, FD_tr (FD_pk e2) (FD_tr (FD_sd f3) (FD_tr (FD_sd g3) (FD_sd ⟨fun P hP _ => uh_row hP, fun q hq => uh_ro _ _ _ _ (by omega)⟩)))⟩
        obtain ⟨a0, a1, a2, a3, a4, a5, a6⟩ := g2
        have lo : ∀ q, q ≠ 11 → uh s3 156 11 v 156 q = s3 156 q := fun q hq => uh_ro _ _ _ _ hq
        refine ⟨by rw [lo _ (by decide)]; exact a0, by rw [lo _ (by decide)]; exact a1, by rw [lo _ (by decide)]; exact a2, by rw [uh_rc]; exact hv, fun c hc => ?_, fun j hj => ?_, fun q hq => ?_⟩
        · rw [lo _ (by omega), lo _ (by omega), lo _ (by omega), lo _ (by omega), lo _ (by omega)]; exact a4 c hc
        · rw [lo _ (by omega)]; exact a5 j hj
        · rw [lo _ (by omega)]; exact a6 q hq
      rw [hd, w32_eq (x := K 0 3) (by omega) (by omega), show w32 9999 = 9999 by decide]
      by_cases hq : K 0 3 < 9999
      · rw [if_pos hq]
        exact fin _ (if_pos hq).symm
      · rw [if_neg hq]
        exact fin _ (by rw [if_neg hq]; omega)
    · refine ⟨fun _ => ?_, fun q => absurd q.2 ht⟩
      rw [if_pos (by omega)]
      exact ⟨s1, rfl, e2⟩
  · rw [(rm_can h w (by omega) (by omega)).2 hc]
    simp only [obs]
    rw [if_pos (by decide)]
    exact ⟨fun _ => ⟨s, rfl, PK_rf⟩, fun q => absurd q.1 hc⟩
end IF
def away2 (a : Nat) : Prop := a + 8 < 42 ∨ 53 < a
theorem mn9 {x : Int} (h1 : -2147483648 ≤ x) (h2 : x < 2147483648) : mnI 9999 x = cap9 x := by
  rw [mn_eq (by decide) (by decide) h1 h2]
  unfold cap9
  split <;> split <;> omega
section SE
variable {s : Hp} {a : Nat} {ro : Option (List Cls)} {K : Nat → Nat → Int} {n m b : Nat}
theorem cl_settle (h : Cl s a K n m) (w : WF K n m) (ha : away2 a) (hb : b < m) {f : Nat} (hf : f < 64) (hp : ((f / 4 : Nat) : Int) + 1 < K 0 2) (hpr : ∀ c, c < n → s 51 c = prc ro K n b (f / 4) (f / 2 % 2) (f % 2) c) (ht : tot ro K n b (f / 4) (f / 2 % 2) (f % 2) ≤ K 8 b) : ∃ s1, xk_settle s a (b : Int) (f : Int) = some s1 ∧ Cl s1 a (fdK ro K n b (f / 4) (f / 2 % 2) (f % 2)) n m ∧ ∀ P, ¬ (a ≤ P ∧ P ≤ a + 8) → ¬ (42 ≤ P ∧ P ≤ 50) → s1 P = s P := by
  obtain ⟨w8, w4, w0, w2, wl, wz, wd0, wd9, wc, wj, wq⟩ := id w
  unfold away2 at ha
  have hwb := wq b hb
  generalize hg : prc ro K n b (f / 4) (f / 2 % 2) (f % 2) = g at hpr
  have hgb : ∀ c, c < n → 0 ≤ g c ∧ g c ≤ 999 := fun c hc => by rw [← hg]; exact prc_bd w hc
  have hg0 : ∀ c, ¬ (mvB (K 1) c (f / 4) (f / 2 % 2) = true ∧ K 4 c ≠ (b : Int)) → g c = 0 := fun c hc => by rw [← hg]; exact if_neg hc
  have htot : tot ro K n b (f / 4) (f / 2 % 2) (f % 2) = sumN g n := by unfold tot; rw [hg]
  rw [htot] at ht
  unfold xk_settle
  obtain ⟨s0, c1, c2, c3⟩ := cl_copy (s := s) (a0 := 42) (a1 := a) (by omega)
  rw [c1]
  simp only [obs]
  have hcl0 : Cl s0 a K n m := Cl_row h (fun i hi => c2 _ (by omega))
  have hbe0 : Cl s0 42 K n m := Cl_cp h w c3
  obtain ⟨h0, h1, h2, h3, h4, h5, h6, h7⟩ := id hcl0
  -- what is sold so far
  have sb : ∀ i, i ≤ n → 0 ≤ sumN g i ∧ sumN g i ≤ 7992 := fun i hi => by
    have := sumN_bd (g := g) (B := 999) (n := i) (fun c hc => hgb c (by omega))
    omega
  obtain ⟨r, e1, e2⟩ : ∃ r, lp (fun (q : Int × Hp) => xk_settle_b11 q.2 a (b : Int) (f : Int) q.1) (0, s0) = some r ∧ (fun (r : Int × Hp) => (∀ q, q < m → r.2 (a + 8) q = if q = b then K 8 b - sumN g n else puR K b g (f / 4) (f / 2 % 2) n q) ∧ (∀ c, c < n → r.2 (a + 4) c = if mvB (K 1) c (f / 4) (f / 2 % 2) = true then (b : Int) else K 4 c) ∧ ∀ P, P ≠ a + 4 → P ≠ a + 8 → r.2 P = s0 P) r := by
    refine lp_forR (fun i (q : Int × Hp) => q.1 = (i : Int) ∧ (∀ j, j < m → q.2 (a + 8) j = if j = b then K 8 b - sumN g i else puR K b g (f / 4) (f / 2 % 2) i j) ∧ (∀ c, c < n → q.2 (a + 4) c = if c < i ∧ mvB (K 1) c (f / 4) (f / 2 % 2) = true then (b : Int) else K 4 c) ∧ ∀ P, P ≠ a + 4 → P ≠ a + 8 → q.2 P = s0 P) n _ ?_ ?_ ⟨rfl, fun j hj => ?_, fun c hc => ?_, fun P _ _ => rfl⟩
    · rintro i ⟨c, t⟩ hi ⟨j1, j2, j3, j4⟩
      simp only at j1 j2 j3 j4
      subst j1
      have hw := wc i hi
      have hgi := hgb i hi
      have hsi := sb i (by omega)
      have hsi1 := sb (i + 1) hi
      have sst : sumN g (i + 1) = sumN g i + g i := rfl
      have hbe : ∀ t1 : Hp, (∀ P, P ≠ a + 4 → P ≠ a + 8 → t1 P = s0 P) → Cl t1 42 K n m := fun t1 ht1 => Cl_row hbe0 (fun j hj => ht1 _ (by omega) (by omega))
      have hpn : ∀ (t1 : Hp) (x : Int), (∀ P, P ≠ a + 4 → P ≠ a + 8 → t1 P = s0 P) → -100 ≤ x → x ≤ 100 → xl_hasPerson t1 a x = some (tb (0 ≤ x ∧ x < m)) := fun t1 x ht1 x1 x2 => by
        unfold xl_hasPerson
        rw [ht1 a (by omega) (by omega), h1, w32_eq (x := x) (by omega) (by omega), w32_eq (x := (m : Int)) (by omega) (by omega)]
        by_cases q : x < 0
        · rw [if_pos q, tb_f (by omega)]
        · rw [if_neg q]
          by_cases q2 : x < m
          · rw [if_pos q2, tb_t (by omega)]
          · rw [if_neg q2, tb_f (by omega)]
      have eo : t (a + 4) i = K 4 i := by rw [j3 i hi, if_neg (by omega)]
      have ic : ix 8 (i : Int) = some i := ixt i rfl (by omega) (by decide)
      have egi : t 51 i = g i := by rw [j4 51 (by omega) (by omega), c2 51 (by omega)]; exact hpr i hi
      -- the last step: whose it is
      have e90 : ∀ t1 : Hp, (∀ P, P ≠ a + 4 → P ≠ a + 8 → t1 P = s0 P) → t1 (a + 4) = t (a + 4) → (∀ j, j < m → t1 (a + 8) j = if j = b then K 8 b - sumN g (i + 1) else puR K b g (f / 4) (f / 2 % 2) (i + 1) j) → ∃ q, xk_settle_b11_j90 t1 a (b : Int) (f : Int) (i : Int) = some (.inl q) ∧ q.1 = ((i + 1 : Nat) : Int) ∧ (∀ j, j < m → q.2 (a + 8) j = if j = b then K 8 b - sumN g (i + 1) else puR K b g (f / 4) (f / 2 % 2) (i + 1) j) ∧ (∀ c, c < n → q.2 (a + 4) c = if c < i + 1 ∧ mvB (K 1) c (f / 4) (f / 2 % 2) = true then (b : Int) else K 4 c) ∧ ∀ P, P ≠ a + 4 → P ≠ a + 8 → q.2 P = s0 P := by
        intro t1 k1 k2 k3
        unfold xk_settle_b11_j90
        rw [cl_moves (hbe t1 k1) w hi hf, ic]
        simp only [obs]
        by_cases hm : mvB (K 1) i (f / 4) (f / 2 % 2) = true
        · rw [if_pos hm, if_neg (by decide)]
          refine ⟨_, rfl, rfl, fun j hj => ?_, fun c hc => ?_, fun P p1 p2 => (uh_row p1).trans (k1 P p1 p2)⟩
          · show uh t1 (a + 4) i (b : Int) (a + 8) j = _
            rw [uh_row (by omega)]; exact k3 j hj
          · show uh t1 (a + 4) i (b : Int) (a + 4) c = _
            by_cases hci : c = i
            · subst hci; rw [uh_rc, if_pos ⟨by omega, hm⟩]
            · rw [uh_ro _ _ _ _ hci, k2, j3 c hc]
              by_cases hc2 : c < i ∧ mvB (K 1) c (f / 4) (f / 2 % 2) = true
              · rw [if_pos hc2, if_pos ⟨by omega, hc2.2⟩]
              · rw [if_neg hc2, if_neg (fun q => hc2 ⟨by omega, q.2⟩)]
        · rw [if_neg hm, if_pos (by decide)]
          refine ⟨_, rfl, rfl, k3, fun c hc => ?_, k1⟩
          show t1 (a + 4) c = _
          rw [k2, j3 c hc]
          by_cases hc2 : c < i ∧ mvB (K 1) c (f / 4) (f / 2 % 2) = true
          · rw [if_pos hc2, if_pos ⟨by omega, hc2.2⟩]
          · rw [if_neg hc2, if_neg (fun q => hc2 ⟨by
              by_cases hci : c = i
              · subst hci; exact absurd q.2 hm
              · omega, q.2⟩)]
      -- the buyer pays
      have e66 : ∀ t1 : Hp, (∀ P, P ≠ a + 4 → P ≠ a + 8 → t1 P = s0 P) → t1 (a + 4) = t (a + 4) → (∀ j, j < m → t1 (a + 8) j = if j = b then K 8 b - sumN g i else puR K b g (f / 4) (f / 2 % 2) (i + 1) j) → ∃ q, xk_settle_b11_j66 t1 a (b : Int) (f : Int) (i : Int) = some (.inl q) ∧ q.1 = ((i + 1 : Nat) : Int) ∧ (∀ j, j < m → q.2 (a + 8) j = if j = b then K 8 b - sumN g (i + 1) else puR K b g (f / 4) (f / 2 % 2) (i + 1) j) ∧ (∀ c, c < n → q.2 (a + 4) c = if c < i + 1 ∧ mvB (K 1) c (f / 4) (f / 2 % 2) = true then (b : Int) else K 4 c) ∧ ∀ P, P ≠ a + 4 → P ≠ a + 8 → q.2 P = s0 P := by
        intro t1 k1 k2 k3
        unfold xk_settle_b11_j66
        rw [hpn t1 (b : Int) k1 (by omega) (by omega), ic, ixt (j := (b : Int)) b rfl (by omega) (by decide)]
        simp only [obs, tb0]
        rw [if_neg (by omega), k3 b hb, if_pos rfl, show t1 51 i = g i by rw [k1 51 (by omega) (by omega), ← j4 51 (by omega) (by omega)]; exact egi]
        refine e90 _ (fun P p1 p2 => (uh_row p2).trans (k1 P p1 p2)) ((uh_row (by omega)).trans k2) (fun j hj => ?_)
        by_cases hjb : j = b
        · subst hjb; rw [uh_rc, if_pos rfl, sst]; omega
        · rw [uh_ro _ _ _ _ hjb, k3 j hj, if_neg hjb, if_neg hjb]
      show ∃ q, xk_settle_b11 t a (b : Int) (f : Int) (i : Int) = some (.inl q) ∧ _
      unfold xk_settle_b11
      rw [ic]
      simp only [obs]
      rw [j4 a (by omega) (by omega), h0, w32_eq (x := (i : Int)) (by omega) (by omega), w32_eq (x := (n : Int)) (by omega) (by omega), if_pos (by omega), eo, hpn t (K 4 i) j4 (by omega) (by omega)]
      simp only [obs, tb0]
      by_cases ho : 0 ≤ K 4 i ∧ K 4 i < (m : Int)
      · obtain ⟨o, hoo⟩ : ∃ o : Nat, K 4 i = (o : Int) := ⟨(K 4 i).toNat, by omega⟩
        have hom : o < m := by omega
        rw [if_neg (fun q => q ho), hoo, ixt (j := (o : Int)) o rfl (by omega) (by decide)]
        simp only [obs]
        rw [egi]
        have hcur := j2 o hom
        have hbd := puR_bd (b := b) (p := f / 4) (sd := f / 2 % 2) w hgb hom i (by omega)
        have hrange : -2147483648 ≤ t (a + 8) o + g i ∧ t (a + 8) o + g i < 2147483648 := by
          rw [hcur]
          split <;> omega
        rw [mn9 hrange.1 hrange.2]
        refine e66 _ (fun P p1 p2 => (uh_row p2).trans (j4 P p1 p2)) (uh_row (by omega)) (fun j hj => ?_)
        by_cases hjo : j = o
        · subst hjo
          rw [uh_rc, hcur]
          by_cases hjb : j = b
          · rw [if_pos hjb, if_pos hjb, hg0 i (fun q => q.2 (by omega))]
            unfold cap9
            rw [if_neg (by omega)]
            omega
          · rw [if_neg hjb, if_neg hjb]
            by_cases hm : mvB (K 1) i (f / 4) (f / 2 % 2) = true
            · exact (if_pos ⟨hm, hoo, hjb⟩).symm
            · have e : puR K b g (f / 4) (f / 2 % 2) (i + 1) j = puR K b g (f / 4) (f / 2 % 2) i j := if_neg (fun q => hm q.1)
              rw [e, hg0 i (fun q => hm q.1)]
              unfold cap9
              rw [if_neg (by omega)]
              omega
        · rw [uh_ro _ _ _ _ hjo, j2 j hj]
          by_cases hjb : j = b
          · rw [if_pos hjb, if_pos hjb]
          · have e : puR K b g (f / 4) (f / 2 % 2) (i + 1) j = puR K b g (f / 4) (f / 2 % 2) i j := if_neg (fun q => by omega)
            rw [if_neg hjb, if_neg hjb, e]
      · rw [if_pos ho]
        refine e66 t j4 rfl (fun j hj => ?_)
        rw [j2 j hj]
        have e : puR K b g (f / 4) (f / 2 % 2) (i + 1) j = puR K b g (f / 4) (f / 2 % 2) i j := if_neg (fun q => by omega)
        rw [e]
    · rintro ⟨c, t⟩ ⟨j1, j2, j3, j4⟩
      simp only at j1 j2 j3 j4
      subst j1
      refine ⟨((n : Int), t), ?_, j2, fun c hc => ?_, j4⟩
      · show xk_settle_b11 t a (b : Int) (f : Int) (n : Int) = _
        unfold xk_settle_b11
        rw [j4 a (by omega) (by omega), h0, if_neg (by omega)]
      · show t (a + 4) c = _
        rw [j3 c hc]
        by_cases hc2 : mvB (K 1) c (f / 4) (f / 2 % 2) = true
        · rw [if_pos ⟨hc, hc2⟩, if_pos hc2]
        · rw [if_neg (fun q => hc2 q.2), if_neg hc2]
    · show s0 (a + 8) j = _
      rw [h6 j hj]
      by_cases hjb : j = b
      · rw [if_pos hjb, hjb]; show K 8 b = K 8 b - 0; omega
      · rw [if_neg hjb]; rfl
    · show s0 (a + 4) c = _
      rw [if_neg (by omega)]; exact (h4 c hc).2.2.2.1
  rw [e1]
  simp only [obs]
  obtain ⟨x, t⟩ := r
  obtain ⟨g1, g2, g3⟩ := e2
  simp only at g1 g2 g3
  have hbe : Cl t 42 K n m := Cl_row hbe0 (fun j hj => g3 _ (by omega) (by omega))
  obtain ⟨s2, l1, l2, l3, l4, l5, l6, l7, l8⟩ := cl_lie (a0 := a) hbe w (by omega) hf hp
  rw [l1]
  simp only [obs]
  have hday : s2 a 3 = K 0 3 := by rw [l5 3 (by decide) (by decide), g3 a (by omega) (by omega)]; exact h3
  have h71 : nWd (K 0 2) (f / 4) ≤ 8 := by unfold nWd; split <;> omega
  refine ⟨_, rfl, ?_, fun P p1 p2 => ?_⟩
  · rw [hday, mn9 (by omega) (by omega)]
    have hcd : cap9 (K 0 3 + 1) = if K 0 3 < 9999 then K 0 3 + 1 else K 0 3 := by
      unfold cap9
      split <;> split <;> omega
    have lo : ∀ P, P ≠ a → uh s2 a 3 (cap9 (K 0 3 + 1)) P = s2 P := fun P hP => uh_row hP
    unfold fdK
    rw [hg]
    refine ⟨by rw [uh_ro _ _ _ _ (by decide)]; exact l3, by rw [uh_ro _ _ _ _ (by decide), l5 1 (by decide) (by decide), g3 a (by omega) (by omega)]; exact h1, by rw [uh_ro _ _ _ _ (by decide)]; exact l4, by rw [uh_rc]; exact hcd, fun c hc => ⟨?_, ?_, ?_, ?_, ?_⟩, fun j hj => ?_, fun q hq => ?_, fun q hq => ?_⟩
    · rw [lo _ (by omega)]; exact (l6 c hc).1
    · rw [lo _ (by omega)]; exact (l6 c hc).2.1
    · rw [lo _ (by omega)]; exact (l6 c hc).2.2
    · rw [lo _ (by omega), l2 _ (by omega)]; exact g2 c hc
    · rw [lo _ (by omega), l2 _ (by omega), g3 _ (by omega) (by omega)]; exact (h4 c hc).2.2.2.2
    · rw [lo _ (by omega)]; exact l7 j hj
    · rw [lo _ (by omega), l2 _ (by omega)]; exact g1 q hq
    · have hq : (q : Int) < nWd (K 0 2) (f / 4) := hq
      rw [lo _ (by omega)]; exact l8 q (by omega)
  · rw [uh_row (by omega), l2 P (by omega), g3 P (by omega) (by omega), c2 P (by omega)]
end SE
