/-! prices, by the reference -/
theorem RM_row {s s1 : Hp} {T : Nat} (e8 : s1 148 = s 148) (e0 : s1 150 = s 150) (e1 : s1 151 = s 151) : ∀ {R : List Cls} {c i : Nat}, RM s T c i R → RM s1 T c i R
  | [], c, i, hr => by show s1 151 T = _; rw [e1]; exact hr
  | (sm, none) :: r, c, i, hr => by
    obtain ⟨a1, a2, a3, a4, a5⟩ := hr
    exact ⟨by rw [e0]; exact a1, by rw [e0]; exact a2, by rw [e8]; exact a3, by rw [e0]; exact a4, RM_row e8 e0 e1 a5⟩
  | (sm, some te) :: r, c, i, hr => by
    obtain ⟨a1, a2, a3, a4, a5, a6, a7⟩ := hr
    exact ⟨by rw [e0]; exact a1, by rw [e0]; exact a2, by rw [e8]; exact a3, by rw [e0]; exact a4, by rw [e0]; exact a5, by rw [e8]; exact a6, RM_row e8 e0 e1 a7⟩
/-- the rule in force, by the reference -/
def RR (s : Hp) : Option (List Cls) → Prop
  | none => s 146 21 = -1
  | some R => ∃ T : Nat, T < 6 ∧ s 146 21 = (T : Int) ∧ RM s T 0 0 R ∧ R.length ≤ 12 ∧ lenC R ≤ 400 ∧ wfC R
/-- prices may change these alone -/
def PK (s s1 : Hp) : Prop := (∀ p, p ≠ 146 → p ≠ 154 → p ≠ 155 → p ≠ 158 → s1 p = s p) ∧ ∀ q, q ≠ 18 → s1 146 q = s 146 q
theorem PK_rf {s : Hp} : PK s s := ⟨fun _ _ _ _ _ => rfl, fun _ _ => rfl⟩
theorem PK_tr {s s1 s2 : Hp} (h : PK s s1) (g : PK s1 s2) : PK s s2 := ⟨fun p h1 h2 h3 h4 => (g.1 p h1 h2 h3 h4).trans (h.1 p h1 h2 h3 h4), fun q hq => (g.2 q hq).trans (h.2 q hq)⟩
theorem PK_sk {s s1 : Hp} (h : SK s s1) : PK s s1 := ⟨fun p h1 h2 _ _ => h.1 p h1 h2, h.2⟩
theorem PK_158 {s : Hp} {i : Nat} {v : Int} : PK s (uh s 158 i v) := ⟨fun p _ _ _ h4 => uh_row h4, fun q _ => by rw [uh_row (by decide)]⟩
theorem RR_pk {s s1 : Hp} {ro : Option (List Cls)} (h : PK s s1) (hr : RR s ro) : RR s1 ro := by
  match ro, hr with
  | none, hr => show s1 146 21 = _; rw [h.2 21 (by decide)]; exact hr
  | some R, hr =>
    obtain ⟨T, a1, a2, a3, a4⟩ := hr
    exact ⟨T, a1, by rw [h.2 21 (by decide)]; exact a2, RM_row (h.1 148 (by decide) (by decide) (by decide) (by decide)) (h.1 150 (by decide) (by decide) (by decide) (by decide)) (h.1 151 (by decide) (by decide) (by decide) (by decide)) a3, a4⟩
section PM
variable {s : Hp} {ro : Option (List Cls)} {K : Nat → Nat → Int} {n m b : Nat}
theorem rm_words (h : Rf (s 156) K n m) (w : WF K n m) (hb : b < m) {mvn wy c : Nat} (hc : c < n) (hmv : mvn ≤ 8) (hwy : wy < 2) : ∃ s1, xm_words s (c : Int) (b : Int) (mvn : Int) (wy : Int) = some s1 ∧ (∀ p, p ≠ 155 → s1 p = s p) ∧ ∀ k, k ≤ 10 → s1 155 k = wsF K b mvn wy c k := by
  obtain ⟨hn, hm, hwd, hdy, hcc, -, hpu⟩ := id h
  obtain ⟨w8, w4, -, -, wl, wz, wd0, wd9, wc, -, wq⟩ := id w
  have hw := wc c hc
  have hcx := hcc c hc
  have hwb := wq b hb
  unfold xm_words xm_cellOf
  rw [show ix 11 0 = some 0 by decide +kernel, show ix 11 1 = some 1 by decide +kernel, show ix 11 2 = some 2 by decide +kernel, show ix 11 3 = some 3 by decide +kernel, show ix 11 4 = some 4 by decide +kernel, show ix 11 5 = some 5 by decide +kernel, show ix 11 6 = some 6 by decide +kernel, show ix 11 7 = some 7 by decide +kernel, show ix 11 8 = some 8 by decide +kernel, show ix 11 9 = some 9 by decide +kernel, show ix 11 10 = some 10 by decide +kernel, ix10 (by decide) (by decide), ix11 (by decide) (by decide), ixt (j := 55 + (c : Int)) (55 + c) (by omega) (by omega) (by decide), ixt (j := 51 + (b : Int)) (51 + b) (by omega) (by omega) (by decide), ixt (j := 12 + 4 * (c : Int) + 3) (12 + 4 * c + 3) (by omega) (by omega) (by decide), ixt (j := 12 + 4 * (c : Int) + 1) (12 + 4 * c + 1) (by omega) (by omega) (by decide), ixt (j := 12 + 4 * (c : Int) + 0) (12 + 4 * c) (by omega) (by omega) (by decide)]
  simp only [obs]
  simp only [uh_row (p := 156) (a := 155) (by decide)]
  rw [hcx.1, hcx.2.1, hcx.2.2.2.1, hcx.2.2.2.2, hwd, hdy, hpu b hb, w32_eq (x := (c : Int)) (by omega) (by omega), w32_eq (x := K 5 c) (by omega) (by omega), w32_eq (x := K 4 c) (by omega) (by omega), w32_eq (x := K 1 c) (by omega) (by omega), w32_eq (x := (b : Int)) (by omega) (by omega), w32_eq (x := (mvn : Int)) (by omega) (by omega), w32_eq (x := K 0 2) (by omega) (by omega), w32_eq (x := (wy : Int)) (by omega) (by omega), w32_eq (x := K 8 b) (by omega) (by omega), w32_eq (x := K 0 3) (by omega) (by omega)]
  refine ⟨_, rfl, fun p hp => by simp only [uh_row hp], fun k hk => ?_⟩
  have h5 : k = 0 ∨ k = 1 ∨ k = 2 ∨ k = 3 ∨ k = 4 ∨ k = 5 ∨ k = 6 ∨ k = 7 ∨ k = 8 ∨ k = 9 ∨ k = 10 := by omega
  rcases h5 with rfl | rfl | rfl | rfl | rfl | rfl | rfl | rfl | rfl | rfl | rfl <;> simp [uh_at, wsF]
theorem rm_count (h : Rf (s 156) K n m) (w : WF K n m) {p sd wy : Nat} (hp : p < 100) (hs : sd < 2) {γ : Type} {k : Int × Int → Option γ} : (lp (fun (q : Int × Int) => xm_prices_b9 s (b : Int) (p : Int) (sd : Int) (wy : Int) q.1 0 q.2) (0, 0)).bind k = k (((cnt (fun c => mvB (K 1) c p sd) n : Nat) : Int), (n : Int)) := by
  obtain ⟨h0, -⟩ := id h
  have w8 := w.1
  refine lpb_for (fun i => (((cnt (fun c => mvB (K 1) c p sd) i : Nat) : Int), (i : Int))) n rfl (fun i hi => ?_) ?_
  · unfold xm_prices_b9
    rw [ix0 (by decide) (by decide), rm_isMoved h w hi hp hs]
    simp only [obs]
    rw [h0, w32_eq (x := (i : Int)) (by omega) (by omega), w32_eq (x := (n : Int)) (by omega) (by omega), if_pos (by omega)]
    show _ = some (Sum.inl (((cnt (fun c => mvB (K 1) c p sd) i + if mvB (K 1) i p sd then 1 else 0 : Nat) : Int), ((i + 1 : Nat) : Int)))
    by_cases hm : mvB (K 1) i p sd = true
    · rw [if_pos hm, if_neg (by decide), if_pos hm]; rfl
    · rw [if_neg hm, if_pos (by decide), if_neg hm]; rfl
  · unfold xm_prices_b9
    rw [ix0 (by decide) (by decide)]
    simp only [obs]
    rw [h0, if_neg (by omega)]
theorem rm_j135 {x1 x2 x3 x4 x5 sum x8 : Int} {i : Nat} (hi : i < 8) (t : Hp) : xm_prices_b50_j135 t x1 x2 x3 x4 x5 sum (i : Int) x8 = some (.inl (sum + clp x8, ((i + 1 : Nat) : Int), uh t 158 i (clp x8))) := by
  have e169 : ∀ k2 : Int, xm_prices_b50_j169 t x1 x2 x3 x4 x5 sum (i : Int) (i : Int) k2 = some (.inl (sum + lI k2, ((i + 1 : Nat) : Int), uh t 158 i (lI k2))) := fun k2 => by
    unfold xm_prices_b50_j169
    rw [ixt i rfl hi (by decide)]
    simp only [obs]
    rw [uh_rc]
    rfl
  unfold xm_prices_b50_j135 clp
  rw [e169, e169, e169, show w64 0 = 0 by decide, show w64 999 = 999 by decide, show lI 0 = 0 by decide, show lI 999 = 999 by decide]
  by_cases q1 : w64 x8 < 0
  · rw [if_pos q1, if_pos q1]
  · rw [if_neg q1, if_neg q1]
    by_cases q2 : 999 < w64 x8
    · rw [if_pos q2, if_pos q2]
    · rw [if_neg q2, if_neg q2]
      unfold lI
      rw [← w32_w64, w32_eq (x := w64 x8) (by omega) (by omega)]
theorem rm_prices (h : Rf (s 156) K n m) (w : WF K n m) (hr : RR s ro) (hb : b < m) {p sd wy : Nat} (hp : p < 100) (hs : sd < 2) (hwy : wy < 2) : ∃ s1, xm_prices s (b : Int) (p : Int) (sd : Int) (wy : Int) = some (tot ro K n b p sd wy, s1) ∧ PK s s1 ∧ ∀ c, c < n → s1 158 c = prc ro K n b p sd wy c := by
  obtain ⟨h0, -, -, -, hcc, -⟩ := id h
  obtain ⟨w8, w4, -, -, wl, wz, wd0, wd9, wc, -, wq⟩ := id w
  unfold xm_prices
  rw [rm_count h w hp hs]
  have hcn := cnt_le (fun c => mvB (K 1) c p sd) n
  generalize hN : cnt (fun c => mvB (K 1) c p sd) n = N at hcn
  obtain ⟨r, e1, e2⟩ : ∃ r, lp (fun (q : Int × Int × Hp) => xm_prices_b50 q.2.2 (b : Int) (p : Int) (sd : Int) (wy : Int) (N : Int) q.1 q.2.1) (0, 0, s) = some r ∧ (fun r => r.1 = sumN (prc ro K n b p sd wy) n ∧ PK s r.2.2 ∧ ∀ c, c < n → r.2.2 158 c = prc ro K n b p sd wy c) r := by
    refine lp_forR (fun i (q : Int × Int × Hp) => q.1 = sumN (prc ro K n b p sd wy) i ∧ q.2.1 = (i : Int) ∧ PK s q.2.2 ∧ ∀ c, c < i → q.2.2 158 c = prc ro K n b p sd wy c) n _ ?_ ?_ ⟨rfl, rfl, PK_rf, fun c hc => by omega⟩
    · rintro i ⟨sum, c, s1⟩ hi ⟨i1, i2, i3, i4⟩
      simp only at i1 i2 i3 i4
      subst i2
      have hw := wc i hi
      have fin : ∀ (s2 : Hp), PK s s2 → (∀ c, c < i → s2 158 c = prc ro K n b p sd wy c) → ∃ q, (some (.inl (sum + prc ro K n b p sd wy i, ((i + 1 : Nat) : Int), uh s2 158 i (prc ro K n b p sd wy i))) : Option ((Int × Int × Hp) ⊕ (Int × Int × Hp))) = some (.inl q) ∧ q.1 = sumN (prc ro K n b p sd wy) (i + 1) ∧ q.2.1 = ((i + 1 : Nat) : Int) ∧ PK s q.2.2 ∧ ∀ c, c < i + 1 → q.2.2 158 c = prc ro K n b p sd wy c := by
        intro s2 g1 g2
        refine ⟨_, rfl, by rw [i1]; rfl, rfl, PK_tr g1 PK_158, fun c hc => ?_⟩
        by_cases hci : c = i
        · subst hci; exact uh_rc _ _ _ _
        · show uh s2 158 i _ 158 c = _
          rw [uh_ro _ _ _ _ hci]; exact g2 c (by omega)
      have h156 : (uh s1 158 i 0) 156 = s 156 := by rw [uh_row (by decide)]; exact i3.1 156 (by decide) (by decide) (by decide) (by decide)
      have hf : Rf ((uh s1 158 i 0) 156) K n m := by rw [h156]; exact h
      have hr6 : RR (uh s1 158 i 0) ro := RR_pk (PK_tr i3 PK_158) hr
      have c6 : ∀ c, c < i → (uh s1 158 i 0) 158 c = prc ro K n b p sd wy c := fun c hc => by rw [uh_ro _ _ _ _ (by omega)]; exact i4 c hc
      show ∃ s2, xm_prices_b50 s1 (b : Int) (p : Int) (sd : Int) (wy : Int) (N : Int) sum (i : Int) = some (.inl s2) ∧ _
      unfold xm_prices_b50
      rw [ix0 (by decide) (by decide), ixt (n := 8) i rfl (by omega) (by decide)]
      simp only [obs]
      rw [show s1 156 0 = (n : Int) by rw [i3.1 156 (by decide) (by decide) (by decide) (by decide)]; exact h0, w32_eq (x := (i : Int)) (by omega) (by omega), w32_eq (x := (n : Int)) (by omega) (by omega), if_pos (by omega), rm_isMoved hf w hi hp hs, rm_cell3 hf w hi]
      simp only [obs]
      have zero : prc ro K n b p sd wy i = 0 → ∃ q, (some (.inl (sum, (i : Int) + 1, uh s1 158 i 0)) : Option ((Int × Int × Hp) ⊕ (Int × Int × Hp))) = some (.inl q) ∧ q.1 = sumN (prc ro K n b p sd wy) (i + 1) ∧ q.2.1 = ((i + 1 : Nat) : Int) ∧ PK s q.2.2 ∧ ∀ c, c < i + 1 → q.2.2 158 c = prc ro K n b p sd wy c := by
        intro hz
        have := fin s1 i3 i4
        rw [hz, Int.add_zero] at this
        exact this
      by_cases hm : mvB (K 1) i p sd = true
      · rw [if_pos hm, if_neg (by decide), w32_eq (x := K 4 i) (by omega) (by omega), w32_eq (x := (b : Int)) (by omega) (by omega)]
        by_cases ho : K 4 i = (b : Int)
        · rw [if_pos ho]
          exact zero (if_neg (fun q => q.2 ho))
        · have hpp : prc ro K n b p sd wy i = prF ro K b N wy i := by
            unfold prc
            rw [if_pos ⟨hm, ho⟩, hN]
          rw [if_neg ho, ixt (j := 55 + (i : Int)) (55 + i) (by omega) (by omega) (by decide)]
          simp only [obs]
          match ro, hr6, hpp, fin, c6 with
          | none, hr6, hpp, fin, c6 =>
            have hr6 : (uh s1 158 i 0) 146 21 = -1 := hr6
            rw [hr6, if_pos (by decide), rm_j135 (by omega), show uh s1 158 i 0 156 (55 + i) = K 5 i by rw [h156]; exact (hcc i hi).2.2.2.2, w32_eq (x := K 5 i) (by omega) (by omega)]
            have hcl : clp (K 5 i) = prc none K n b p sd wy i := by
              rw [hpp]
              unfold clp prF
              rw [w64_eq (by omega) (by omega), if_neg (by omega), if_neg (by omega)]
            rw [hcl]
            exact fin (uh s1 158 i 0) (PK_tr i3 PK_158) c6
          | some R, hr6, hpp, fin, c6 =>
            obtain ⟨T, t1, t2, t3, t4, t5, t6⟩ := hr6
            rw [t2, w32_eq (x := (T : Int)) (by omega) (by omega), if_neg (by omega)]
            obtain ⟨s7, q1, q2, q3⟩ := rm_words (mvn := N) hf w hb hi (by omega) hwy
            rw [q1]
            simp only [obs]
            rw [show s7 146 21 = (T : Int) by rw [q2 146 (by decide)]; exact t2]
            obtain ⟨s8, f1, f3⟩ := rk_rule t1 R s7 0 0 (by omega) (by omega) (RM_row (q2 148 (by decide)) (q2 150 (by decide)) (q2 151 (by decide)) t3) t6
            have f1 : xm_summedBy s7 (T : Int) = some (evC (s7 155) R, s8) := f1
            rw [f1]
            simp only [obs]
            rw [rm_j135 (by omega), evC_cg q3 t6]
            have hcl : clp (evC (wsF K b N wy i) R) = prc (some R) K n b p sd wy i := by
              rw [hpp]
              rfl
            rw [hcl]
            have hpk : PK s s8 := PK_tr (PK_tr i3 PK_158) (PK_tr ⟨fun p _ _ h3 _ => q2 p h3, fun q _ => by rw [q2 146 (by decide)]⟩ (PK_sk f3))
            exact fin s8 hpk (fun c hc => by rw [f3.1 158 (by decide) (by decide), q2 158 (by decide)]; exact c6 c hc)
      · rw [if_neg hm, if_pos (by decide)]
        exact zero (if_neg (fun q => hm q.1))
    · rintro ⟨sum, c, s1⟩ ⟨i1, i2, i3, i4⟩
      simp only at i1 i2 i3 i4
      subst i2
      refine ⟨(sum, (n : Int), s1), ?_, i1, i3, i4⟩
      show xm_prices_b50 s1 (b : Int) (p : Int) (sd : Int) (wy : Int) (N : Int) sum (n : Int) = _
      unfold xm_prices_b50
      rw [ix0 (by decide) (by decide)]
      simp only [obs]
      rw [show s1 156 0 = (n : Int) by rw [i3.1 156 (by decide) (by decide) (by decide) (by decide)]; exact h0, if_neg (by omega)]
  rw [e1]
  simp only [obs]
  rw [e2.1]
  exact ⟨r.2.2, rfl, e2.2.1, e2.2.2⟩
end PM
