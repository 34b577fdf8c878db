/-! the book of the class: all stacks -/
theorem fm_le {g : Nat → List Nat} {p : Nat} : ∀ {N : Nat}, p ≤ N → ((List.range p).flatMap g).length ≤ ((List.range N).flatMap g).length
  | 0, h => by rw [show p = 0 by omega]; exact Nat.le_refl _
  | N + 1, h => by
    by_cases hp : p = N + 1
    · rw [hp]; exact Nat.le_refl _
    · have := fm_le (g := g) (p := p) (N := N) (by omega)
      rw [List.range_succ, List.flatMap_append, List.length_append]
      omega
theorem fm_su {g : Nat → List Nat} {p : Nat} : (List.range (p + 1)).flatMap g = (List.range p).flatMap g ++ g p := by
  rw [List.range_succ, List.flatMap_append, List.flatMap_cons, List.flatMap_nil, List.append_nil]
def gSt (c k ce : Nat) (lay : List Nat) (h : Nat) : Nat → List Nat := fun p => if crsL lay ce p then [] else stkF c k (ce + 1) (insL lay p) (h + kbL lay ce p)
theorem stkF_s (c k ce : Nat) (lay : List Nat) (h : Nat) : stkF c (k + 1) ce lay h = (List.range (ce + 1)).flatMap (gSt c k ce lay h) := rfl
def NDl (lay : List Nat) (k : Nat) : Prop := ∀ i j, i < k → j < k → i ≠ j → lay.getD i 0 ≠ lay.getD j 0
theorem ND_ins {lay : List Nat} {ce p : Nat} (hlen : lay.length = ce) (h : NDl lay ce) : NDl (insL lay p) (ce + 1) := by
  intro i j hi hj hij
  by_cases h1 : i < ce
  · rw [insL_at (by omega)]
    by_cases h2 : j < ce
    · have := h i j h1 h2 hij
      rw [insL_at (by omega)]
      split <;> split <;> omega
    · have hj2 : j = lay.length := by omega
      rw [hj2, insL_end]
      split <;> omega
  · have hi2 : i = lay.length := by omega
    rw [hi2, insL_end, insL_at (by omega)]
    split <;> omega
theorem kb_le {lay : List Nat} {ce p : Nat} : kbL lay ce p = 0 ∨ kbL lay ce p = 2 ^ (ce - 1) := by
  unfold kbL
  split
  · exact Or.inl rfl
  · exact Or.inr rfl
theorem bk_add {c : Nat} (c8 : c ≤ 8) : ∀ (k fuel ce : Nat), ce + k = c → 1 ≤ ce → k < fuel → ∀ (lay : List Nat) (h : Nat) (s : Hp) (cnt : Nat), s 130 2 = (c : Int) → LY s lay ce → NDl lay ce → h < 2 ^ (ce - 1) → s 130 1 = (cnt : Int) → cnt + (stkF c k ce lay h).length ≤ 1392 → ∃ t, RC77 fuel s (ce : Int) (h : Int) = some t ∧ AP s t cnt (stkF c k ce lay h) ∧ BF s t ∧ ∀ i, i < ce → t 132 i = s 132 i := by
  intro k
  induction k with
  | zero =>
    intro fuel ce hk h1 hf lay h s cnt hc ly nd hh hn hlen
    obtain ⟨fu, rfl⟩ : ∃ fu, fuel = fu + 1 := ⟨fuel - 1, by omega⟩
    have hce : ce = c := by omega
    subst hce
    have h128 : 2 ^ (ce - 1) ≤ 2 ^ 7 := Nat.pow_le_pow_right (by decide) (by omega)
    have hl1 : (stkF ce 0 ce lay h).length = 1 := rfl
    obtain ⟨t, e1, e2, e3, e4⟩ := bk_addRow (h := h) hc c8 ly nd (by omega) hn (by omega)
    refine ⟨t, ?_, e2, e3, fun i _ => by rw [e4]⟩
    show xb_addFrom_b (RC77 fu) s (ce : Int) (h : Int) = _
    unfold xb_addFrom_b
    rw [hc, if_neg (by omega), e1]
    rfl
  | succ k ih =>
    intro fuel ce hk h1 hf lay h s cnt hc ly nd hh hn hlen
    obtain ⟨fu, rfl⟩ : ∃ fu, fuel = fu + 1 := ⟨fuel - 1, by omega⟩
    have ce8 : ce < 8 := by omega
    have hpow : 2 ^ (ce - 1) * 2 = 2 ^ ce := by rw [← Nat.pow_succ, show (ce - 1).succ = ce by omega]
    have hp64 : 2 ^ (ce - 1) ≤ 2 ^ 6 := Nat.pow_le_pow_right (by decide) (by omega)
    rw [stkF_s] at hlen ⊢
    show ∃ t, xb_addFrom_b (RC77 fu) s (ce : Int) (h : Int) = some t ∧ _
    unfold xb_addFrom_b
    rw [hc, w32_eq (x := (ce : Int)) (by omega) (by omega), w32_eq (x := (c : Int)) (by omega) (by omega), if_pos (by omega), if_pos (by rw [show w32 8 = 8 by decide]; omega)]
    obtain ⟨r, r1, r2, r3, r4⟩ := lp_forR (B := fun (q : Int × Hp) => xb_addFrom_b22 (RC77 fu) q.2 (ce : Int) (h : Int) q.1) (fun p (q : Int × Hp) => q.1 = (p : Int) ∧ AP s q.2 cnt ((List.range p).flatMap (gSt c k ce lay h)) ∧ BF s q.2 ∧ ∀ i, i < ce → q.2 132 i = s 132 i) (ce + 1) (fun q : Int × Hp => AP s q.2 cnt ((List.range (ce + 1)).flatMap (gSt c k ce lay h)) ∧ BF s q.2 ∧ ∀ i, i < ce → q.2 132 i = s 132 i) (by
      rintro p ⟨x, t⟩ hp ⟨j1, j2, j3, j4⟩
      replace j1 : x = (p : Int) := j1
      replace j2 : AP s t cnt ((List.range p).flatMap (gSt c k ce lay h)) := j2
      replace j3 : BF s t := j3
      replace j4 : ∀ i, i < ce → t 132 i = s 132 i := j4
      subst j1
      have lyt : LY t lay ce := ⟨ly.1, fun i hi => by rw [j4 i hi]; exact ly.2 i hi⟩
      have hle := fm_le (g := gSt c k ce lay h) (p := p + 1) (N := ce + 1) (by omega)
      rw [fm_su, List.length_append] at hle
      show ∃ q1, xb_addFrom_b22 (RC77 fu) t (ce : Int) (h : Int) (p : Int) = some (Sum.inl q1) ∧ _
      unfold xb_addFrom_b22
      rw [w32_eq (x := (ce : Int)) (by omega) (by omega), w32_eq (x := (p : Int)) (by omega) (by omega), if_neg (by omega), bk_crosses h1 ce8 lyt (by omega)]
      simp only [obs]
      by_cases hcr : crsL lay ce p = true
      · have eg : gSt c k ce lay h p = [] := by
          unfold gSt
          rw [if_pos hcr]
        rw [if_pos hcr, if_neg (by decide)]
        refine ⟨_, rfl, by show (p : Int) + 1 = _; omega, ?_, j3, j4⟩
        rw [fm_su, eg, List.append_nil]
        exact j2
      · have eg : gSt c k ce lay h p = stkF c k (ce + 1) (insL lay p) (h + kbL lay ce p) := by
          unfold gSt
          rw [if_neg hcr]
        rw [if_neg hcr, if_pos (by decide)]
        rw [eg] at hle
        obtain ⟨kl1, kl2⟩ := lyt.2 (ce - 1) (by omega)
        obtain ⟨t1, m1, m2, m3⟩ := bk_make ce8 lyt (p := p) (by omega)
        have hkb := kb_le (lay := lay) (ce := ce) (p := p)
        -- the rest, once the bit is known
        have e91 : ∀ k0 : Int, bOr (h : Int) k0 = ((h + kbL lay ce p : Nat) : Int) → ∃ q1, xb_addFrom_b22_j91 (RC77 fu) t (ce : Int) (h : Int) (p : Int) k0 = some (Sum.inl q1) ∧ q1.1 = ((p + 1 : Nat) : Int) ∧ AP s q1.2 cnt ((List.range (p + 1)).flatMap (gSt c k ce lay h)) ∧ BF s q1.2 ∧ ∀ i, i < ce → q1.2 132 i = s 132 i := by
          intro k0 hk0
          unfold xb_addFrom_b22_j91
          rw [m1, ixt (n := 8) (j := (ce : Int)) ce rfl ce8 (by decide), hk0]
          simp only [obs]
          have b1 : BF t (uh t1 132 ce (p : Int)) := ⟨fun P p1 p2 p3 => by rw [uh_row p3]; exact m2 P p3, fun q _ => by rw [uh_row (by decide), m2 130 (by decide)]⟩
          have a131 : uh t1 132 ce (p : Int) 131 = t 131 := by rw [uh_row (by decide), m2 131 (by decide)]
          have ly1 : LY (uh t1 132 ce (p : Int)) (insL lay p) (ce + 1) := by
            refine ⟨by rw [insL_len, ly.1], fun i hi => ?_⟩
            by_cases hic : i = ce
            · rw [hic, uh_rc]
              have := insL_end (lay := lay) (p := p)
              rw [ly.1] at this
              rw [this]
              exact ⟨rfl, by omega⟩
            · rw [uh_ro _ _ _ _ hic, m3 i (by omega)]
              refine ⟨rfl, ?_⟩
              have := (ly.2 i (by omega)).2
              rw [insL_at (by rw [ly.1]; omega)]
              split <;> omega
          have n1 : uh t1 132 ce (p : Int) 130 1 = ((cnt + ((List.range p).flatMap (gSt c k ce lay h)).length : Nat) : Int) := by rw [uh_row (by decide), m2 130 (by decide)]; exact j2.1
          obtain ⟨t2, f1, f2, f3, f4⟩ := ih fu (ce + 1) (by omega) (by omega) (by omega) (insL lay p) (h + kbL lay ce p) (uh t1 132 ce (p : Int)) (cnt + ((List.range p).flatMap (gSt c k ce lay h)).length) (by rw [uh_row (by decide), m2 130 (by decide), j3.2 2 (by decide)]; exact hc) ly1 (ND_ins ly.1 nd) (by rw [show ce + 1 - 1 = ce by omega]; omega) n1 (by omega)
          rw [show (ce : Int) + 1 = ((ce + 1 : Nat) : Int) by omega, f1]
          simp only [obs]
          obtain ⟨t3, g1, g2, g3⟩ := bk_close (u := t2) (p := p) ce8 ly.1 (fun i hi => (ly.2 i hi).2) (fun i hi => by rw [f4 i (by omega), uh_ro _ _ _ _ (by omega)]; exact m3 i hi) (by omega)
          rw [g1]
          refine ⟨_, rfl, by show (p : Int) + 1 = _; omega, ?_, ?_, fun i hi => ?_⟩
          · rw [fm_su, eg]
            refine AP_app j2 ⟨by show t3 130 1 = _; rw [g2 130 (by decide)]; exact f2.1, fun i hi => by show t3 131 _ = _; rw [g2 131 (by decide)]; exact f2.2.1 i hi, fun i hi => by show t3 131 i = _; rw [g2 131 (by decide), f2.2.2 i hi, a131]⟩
          · exact BF_tr (BF_tr j3 b1) (BF_tr f3 ⟨fun P p1 p2 p3 => g2 P p3, fun q _ => by show t3 130 q = _; rw [g2 130 (by decide)]⟩)
          · show t3 132 i = _
            rw [g3 i hi]
            exact ((ly.2 i hi).1).symm
        have e74 : ∀ x5 k0 : Int, (x5 = 0 ∨ x5 = 1) → (k0 = 0 ∨ k0 = 1) → (x5 = 1 ↔ (ce - 1) % 2 = 0) → (k0 = 1 ↔ lay.getD (ce - 1) 0 < p) → ∃ q1, xb_addFrom_b22_j74 (RC77 fu) t (ce : Int) (h : Int) (p : Int) ((ce : Int) - 1) x5 k0 = some (Sum.inl q1) ∧ q1.1 = ((p + 1 : Nat) : Int) ∧ AP s q1.2 cnt ((List.range (p + 1)).flatMap (gSt c k ce lay h)) ∧ BF s q1.2 ∧ ∀ i, i < ce → q1.2 132 i = s 132 i := by
          intro x5 k0 hx hk hx1 hk1
          unfold xb_addFrom_b22_j74
          rw [w32_eq (x := x5) (by omega) (by omega), w32_eq (x := k0) (by omega) (by omega)]
          by_cases he : x5 = k0
          · rw [if_pos he]
            refine e91 0 ?_
            have : kbL lay ce p = 0 := by
              unfold kbL
              rw [if_pos (by rw [decide_eq_decide]; omega)]
            rw [bor_0 (by omega), this]
            rfl
          · rw [if_neg he]
            refine e91 _ ?_
            have : kbL lay ce p = 2 ^ (ce - 1) := by
              unfold kbL
              rw [if_neg (by rw [decide_eq_decide]; omega)]
            rw [show (ce : Int) - 1 = ((ce - 1 : Nat) : Int) by omega, bor_bit (by omega) hh, this]
        have e56 : ∀ k0 : Int, (k0 = 0 ∨ k0 = 1) → (k0 = 1 ↔ (ce - 1) % 2 = 0) → ∃ q1, xb_addFrom_b22_j56 (RC77 fu) t (ce : Int) (h : Int) (p : Int) ((ce : Int) - 1) k0 = some (Sum.inl q1) ∧ q1.1 = ((p + 1 : Nat) : Int) ∧ AP s q1.2 cnt ((List.range (p + 1)).flatMap (gSt c k ce lay h)) ∧ BF s q1.2 ∧ ∀ i, i < ce → q1.2 132 i = s 132 i := by
          intro k0 hk hk1
          unfold xb_addFrom_b22_j56
          rw [ixt (n := 8) (j := (ce : Int) - 1) (ce - 1) (by omega) (by omega) (by decide)]
          simp only [obs]
          rw [kl1, w32_eq (x := ((lay.getD (ce - 1) 0 : Nat) : Int)) (by omega) (by omega), w32_eq (x := (p : Int)) (by omega) (by omega)]
          by_cases hl : lay.getD (ce - 1) 0 < p
          · rw [if_pos (by omega)]
            exact e74 k0 1 hk (Or.inr rfl) hk1 ⟨fun _ => hl, fun _ => rfl⟩
          · rw [if_neg (by omega)]
            exact e74 k0 0 hk (Or.inl rfl) hk1 ⟨fun q => (by cases q), fun q => absurd q hl⟩
        have ea : bAnd ((ce : Int) - 1) 1 = (((ce - 1) % 2 : Nat) : Int) := by
          rw [show (ce : Int) - 1 = ((ce - 1 : Nat) : Int) by omega, show (1 : Int) = ((1 : Nat) : Int) from rfl, bAnd_n (by omega) (by decide), Nat.and_one_is_mod]
        rw [ea, w32_eq (x := (((ce - 1) % 2 : Nat) : Int)) (by omega) (by omega)]
        by_cases hpar : (ce - 1) % 2 = 0
        · rw [if_pos (by omega)]
          exact e56 1 (Or.inr rfl) ⟨fun _ => hpar, fun _ => rfl⟩
        · rw [if_neg (by omega)]
          exact e56 0 (Or.inl rfl) ⟨fun q => (by cases q), fun q => absurd q hpar⟩) (by
      rintro ⟨x, t⟩ ⟨j1, j2, j3, j4⟩
      replace j1 : x = ((ce + 1 : Nat) : Int) := j1
      subst j1
      refine ⟨(((ce + 1 : Nat) : Int), t), ?_, j2, j3, j4⟩
      show xb_addFrom_b22 (RC77 fu) t (ce : Int) (h : Int) ((ce + 1 : Nat) : Int) = _
      unfold xb_addFrom_b22
      rw [w32_eq (x := (ce : Int)) (by omega) (by omega), w32_eq (x := ((ce + 1 : Nat) : Int)) (by omega) (by omega), if_pos (by omega)]) (s := (0, s)) ⟨rfl, AP_nil hn rfl, BF_rf, fun _ _ => rfl⟩
    rw [r1]
    exact ⟨r.2, rfl, r2, r3, r4⟩
/-- the book is made anew only for another strip -/
theorem bk_rows {s : Hp} {c : Nat} (bo : BookR s) (h2 : 2 ≤ c) (h8 : c ≤ 8) : ∃ t, xb_makeRows s (c : Int) = some t ∧ (∀ P, P ≠ 130 → P ≠ 131 → P ≠ 132 → t P = s P) ∧ t 130 2 = (c : Int) ∧ t 130 1 = ((stkL c).length : Int) ∧ ∀ i, i < (stkL c).length → t 131 i = (((stkL c).getD i 0 : Nat) : Int) := by
  obtain ⟨d, d1, d8, d2⟩ := bo
  unfold xb_makeRows
  rw [d1, w32_eq (x := (c : Int)) (by omega) (by omega), w32_eq (x := (d : Int)) (by omega) (by omega)]
  by_cases hcd : c = d
  · subst hcd
    rw [if_pos rfl]
    exact ⟨s, rfl, fun _ _ _ _ => rfl, d1, (d2 (by omega)).1, (d2 (by omega)).2⟩
  · rw [if_neg (by omega), show w32 1 = 1 by decide, if_neg (by omega), show w32 8 = 8 by decide, if_neg (by omega), ix0 (by decide) (by decide)]
    simp only [obs]
    have hlen := stk_len h2 h8
    obtain ⟨t, e1, e2, e3, -⟩ := bk_add (c := c) h8 (c - 1) 12 1 (by omega) (by omega) (by omega) [0] 0 (uh (uh (uh s 130 2 (c : Int)) 130 1 0) 132 0 0) 0 (by rw [uh_row (by decide), uh_ro _ _ _ _ (by decide), uh_rc]) ⟨rfl, fun i hi => by
      have : i = 0 := by omega
      subst this
      rw [uh_rc]
      exact ⟨rfl, by decide⟩⟩ (fun i j hi hj hij => by omega) (by decide) (by rw [uh_row (by decide), uh_rc]; rfl) (by rw [Nat.zero_add]; exact hlen)
    replace e1 : xb_addFrom (uh (uh (uh s 130 2 (c : Int)) 130 1 0) 132 0 0) 1 0 = some t := e1
    rw [e1]
    refine ⟨t, rfl, fun P p1 p2 p3 => ?_, ?_, ?_, fun i hi => ?_⟩
    · rw [e3.1 P p1 p2 p3, uh_row p3, uh_row p1, uh_row p1]
    · rw [e3.2 2 (by decide), uh_row (by decide), uh_ro _ _ _ _ (by decide), uh_rc]
    · rw [e2.1, Nat.zero_add]
      rfl
    · have := e2.2.1 i hi
      rw [Nat.zero_add] at this
      exact this
