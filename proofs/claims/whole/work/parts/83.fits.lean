/-! the rules by which all logs are so, by both sides -/
theorem rules_f {ln : Nat → Nat} {s M : Hp} {rs : Nat → Int} (ru : RulesR ln s M) (hrs : ∀ i, i < 6 → rs i = s 15 i) : ∃ (uof : Nat → Int) (rof : Nat → Option (List Cls)), ∀ r : Nat, (r : Int) ≤ s 0 4 → (∀ s1 : Hp, s1 0 4 = s 0 4 → s1 15 = s 15 → xf_ruleOf ln rs s1 ((r : Int) - 1) = some (uof r)) ∧ CR ln s (uof r) (rof r) ∧ ∀ M1 : Hp, M1 146 21 = (r : Int) - 1 → M1 148 = M 148 → M1 150 = M 150 → M1 151 = M 151 → RR M1 (rof r) := by
  have h : ∀ r : Nat, ∃ p : Int × Option (List Cls), (r : Int) ≤ s 0 4 → (∀ s1 : Hp, s1 0 4 = s 0 4 → s1 15 = s 15 → xf_ruleOf ln rs s1 ((r : Int) - 1) = some p.1) ∧ CR ln s p.1 p.2 ∧ ∀ M1 : Hp, M1 146 21 = (r : Int) - 1 → M1 148 = M 148 → M1 150 = M 150 → M1 151 = M 151 → RR M1 p.2 := by
    intro r
    by_cases hr : (r : Int) ≤ s 0 4
    · obtain ⟨u, ro, h1, h2, h3⟩ := rule_of (rs := rs) ru hrs (fo := (r : Int) - 1) (by omega) (by omega)
      exact ⟨(u, ro), fun _ => ⟨h1, h2, h3⟩⟩
    · exact ⟨(0, none), fun q => absurd q hr⟩
  obtain ⟨f, hf⟩ := Classical.axiomOfChoice h
  exact ⟨fun r => (f r).1, fun r => (f r).2, hf⟩
section FS
variable {s : Hp} {T : Nat → Nat → Int} {n m LC k : Nat} {ln : Nat → Nat} {rs : Nat → Int} {uof : Nat → Int} {rof : Nat → Option (List Cls)} {fN : Nat → Nat} {cN : Nat → Int}
theorem cf_findSo (h : Cl s 26 T n m) (w : WF T n m) (hk : s 0 4 = (k : Int)) (k6 : k ≤ 6) (hu : ∀ r : Nat, r ≤ k → (∀ s1 : Hp, s1 0 4 = s 0 4 → s1 15 = s 15 → xf_ruleOf ln rs s1 ((r : Int) - 1) = some (uof r)) ∧ CR ln s (uof r) (rof r)) (hlc : s 16 5 = (LC : Int)) (h10 : LC ≤ 10) (hm : 0 < LC → 0 < m) (hl : ∀ i, i < LC → s 36 i = ((fN i : Nat) : Int) ∧ fN i < 64 ∧ s 37 i = cN i ∧ 0 ≤ cN i ∧ cN i ≤ 9999) : ∃ s1, xf_findSo ln rs s = some (((cnt (fun r => bP (fitP (rof r) T n LC fN cN)) (k + 1) : Nat) : Int), s1) ∧ (∀ P, P ≠ 51 → P ≠ 52 → P ≠ 53 → P ≠ 144 → s1 P = s P) ∧ ∀ r, r ≤ k → s1 144 r = if bP (fitP (rof r) T n LC fN cN) = true then 1 else 0 := by
  unfold xf_findSo
  obtain ⟨r, e1, e2, e3, e4⟩ := lp_forR (B := fun (q : Int × Int × Hp) => xf_findSo_b4 ln rs q.2.2 q.1 q.2.1) (fun i (q : Int × Int × Hp) => q.1 = ((cnt (fun r => bP (fitP (rof r) T n LC fN cN)) i : Nat) : Int) ∧ q.2.1 = (i : Int) ∧ (∀ P, P ≠ 51 → P ≠ 52 → P ≠ 53 → P ≠ 144 → q.2.2 P = s P) ∧ ∀ r, r < i → q.2.2 144 r = if bP (fitP (rof r) T n LC fN cN) = true then 1 else 0) (k + 1) (fun q : Int × Int × Hp => q.1 = ((cnt (fun r => bP (fitP (rof r) T n LC fN cN)) (k + 1) : Nat) : Int) ∧ (∀ P, P ≠ 51 → P ≠ 52 → P ≠ 53 → P ≠ 144 → q.2.2 P = s P) ∧ ∀ r, r < k + 1 → q.2.2 144 r = if bP (fitP (rof r) T n LC fN cN) = true then 1 else 0) (by
    rintro i ⟨x, y, t⟩ hi ⟨j1, j2, j3, j4⟩
    replace j1 : x = _ := j1
    replace j2 : y = (i : Int) := j2
    replace j3 : ∀ P, P ≠ 51 → P ≠ 52 → P ≠ 53 → P ≠ 144 → t P = s P := j3
    replace j4 : ∀ r, r < i → t 144 r = if bP (fitP (rof r) T n LC fN cN) = true then 1 else 0 := j4
    subst j1
    subst j2
    obtain ⟨u1, u2⟩ := hu i (by omega)
    obtain ⟨t1, q1, q2⟩ := cx_log (rs := rs) (s := t) (LC := LC) (fN := fN) (cN := cN) (Cl_row h (fun j hj => j3 _ (by omega) (by omega) (by omega) (by omega))) w (CR_row u2 (fun P hP => j3 P (by omega) (by omega) (by omega) (by omega))) (by rw [j3 16 (by decide) (by decide) (by decide) (by decide)]; exact hlc) h10 hm (fun j hj => by rw [j3 36 (by decide) (by decide) (by decide) (by decide), j3 37 (by decide) (by decide) (by decide) (by decide)]; exact hl j hj)
    show ∃ q1, xf_findSo_b4 ln rs t _ (i : Int) = some (Sum.inl q1) ∧ _
    unfold xf_findSo_b4
    rw [j3 0 (by decide) (by decide) (by decide) (by decide), hk, w32_eq (x := (k : Int)) (by omega) (by omega), w32_eq (x := (i : Int)) (by omega) (by omega), if_neg (by omega), if_pos (by rw [show w32 7 = 7 by decide]; omega), u1 t (by rw [j3 0 (by decide) (by decide) (by decide) (by decide)]) (j3 15 (by decide) (by decide) (by decide) (by decide)), ixt i rfl (by omega) (by decide)]
    simp only [obs]
    rw [q1]
    simp only [obs]
    rw [uh_rc]
    have ec : cnt (fun r => bP (fitP (rof r) T n LC fN cN)) (i + 1) = cnt (fun r => bP (fitP (rof r) T n LC fN cN)) i + if bP (fitP (rof i) T n LC fN cN) = true then 1 else 0 := rfl
    have fr : ∀ v : Int, v = (if bP (fitP (rof i) T n LC fN cN) = true then 1 else 0) → (∀ P, P ≠ 51 → P ≠ 52 → P ≠ 53 → P ≠ 144 → uh t1 144 i v P = s P) ∧ ∀ r, r < i + 1 → uh t1 144 i v 144 r = if bP (fitP (rof r) T n LC fN cN) = true then 1 else 0 := fun v hv => by
      refine ⟨fun P h1 h2 h3 h4 => ?_, fun r hr => ?_⟩
      · rw [uh_row h4, q2 P h1 h2 h3]; exact j3 P h1 h2 h3 h4
      · by_cases hri : r = i
        · subst hri; rw [uh_rc]; exact hv
        · rw [uh_ro _ _ _ _ hri, q2 144 (by decide) (by decide) (by decide)]; exact j4 r (by omega)
    by_cases hf : bP (fitP (rof i) T n LC fN cN) = true
    · simp only [eq_true hf, if_true]
      rw [if_neg (by decide)]
      obtain ⟨f1, f2⟩ := fr (nz 1) (by rw [if_pos hf]; decide)
      refine ⟨_, rfl, ?_, by show (i : Int) + 1 = _; omega, f1, f2⟩
      show ((cnt (fun r => bP (fitP (rof r) T n LC fN cN)) i : Nat) : Int) + 1 = _
      rw [ec, if_pos hf]; omega
    · simp only [eq_false hf, if_false]
      rw [if_pos (by decide)]
      obtain ⟨f1, f2⟩ := fr (nz 0) (by rw [if_neg hf]; decide)
      refine ⟨_, rfl, ?_, by show (i : Int) + 1 = _; omega, f1, f2⟩
      show ((cnt (fun r => bP (fitP (rof r) T n LC fN cN)) i : Nat) : Int) = _
      rw [ec, if_neg hf]; rfl) (by
    rintro ⟨x, y, t⟩ ⟨j1, j2, j3, j4⟩
    replace j2 : y = ((k + 1 : Nat) : Int) := j2
    replace j3 : ∀ P, P ≠ 51 → P ≠ 52 → P ≠ 53 → P ≠ 144 → t P = s P := j3
    subst j2
    refine ⟨(x, ((k + 1 : Nat) : Int), t), ?_, j1, j3, j4⟩
    show xf_findSo_b4 ln rs t x ((k + 1 : Nat) : Int) = _
    unfold xf_findSo_b4
    rw [j3 0 (by decide) (by decide) (by decide) (by decide), hk, w32_eq (x := (k : Int)) (by omega) (by omega), w32_eq (x := ((k + 1 : Nat) : Int)) (by omega) (by omega), if_pos (by omega)]) (s := (0, 0, s)) ⟨rfl, rfl, fun _ _ _ _ _ => rfl, fun r hr => by omega⟩
  rw [e1]
  simp only [obs]
  obtain ⟨x, y, t⟩ := r
  replace e2 : x = _ := e2
  subst e2
  exact ⟨t, rfl, e3, fun r hr => e4 r (by omega)⟩
end FS
section FM2
variable {T : Nat → Nat → Int} {n m LC k : Nat} {rof : Nat → Option (List Cls)} {fN : Nat → Nat} {cN : Nat → Int}
/-- the logs by one rule -/
theorem rf_logs {M : Hp} {ro : Option (List Cls)} (h : Rf (M 156) T n m) (w : WF T n m) (hr : RR M ro) (hlc : M 156 129 = (LC : Int)) (h10 : LC ≤ 10) (hm : 0 < LC → 0 < m) (hl : ∀ i, i < LC → ∃ p sd wy : Nat, M 156 (89 + 4 * i) = (p : Int) ∧ M 156 (89 + 4 * i + 1) = (sd : Int) ∧ M 156 (89 + 4 * i + 2) = (wy : Int) ∧ p < 8 ∧ sd < 2 ∧ wy < 2 ∧ fN i = 4 * p + 2 * sd + wy ∧ M 156 (89 + 4 * i + 3) = cN i ∧ 0 ≤ cN i ∧ cN i ≤ 9999) {x1 x2 : Int} : ∃ z M1, lp (fun (q : Int × Int × Hp) => xm_fillsFits_b35 q.2.2 x1 x2 q.1 q.2.1) (1, 0, M) = some (if bP (fitP ro T n LC fN cN) = true then 1 else 0, z, M1) ∧ PK M M1 := by
  obtain ⟨r, e1, e2, e3⟩ := lp_forR (B := fun (q : Int × Int × Hp) => xm_fillsFits_b35 q.2.2 x1 x2 q.1 q.2.1) (fun i (q : Int × Int × Hp) => q.1 = (if bP (fitP ro T n i fN cN) = true then 1 else 0) ∧ q.2.1 = (i : Int) ∧ PK M q.2.2) LC (fun q : Int × Int × Hp => q.1 = (if bP (fitP ro T n LC fN cN) = true then 1 else 0) ∧ PK M q.2.2) (by
    rintro i ⟨x, y, t⟩ hi ⟨j1, j2, j3⟩
    replace j1 : x = _ := j1
    replace j2 : y = (i : Int) := j2
    replace j3 : PK M t := j3
    subst j1
    subst j2
    have t156 : t 156 = M 156 := j3.1 156 (by decide) (by decide) (by decide) (by decide)
    obtain ⟨p, sd, wy, l1, l2, l3, l4, l5, l6, l7, l8, l9, l10⟩ := hl i hi
    show ∃ q1, xm_fillsFits_b35 t x1 x2 _ (i : Int) = some (Sum.inl q1) ∧ _
    unfold xm_fillsFits_b35
    rw [ixt (n := 130) (j := 129) 129 rfl (by decide) (by decide)]
    simp only [obs]
    rw [t156, hlc, w32_eq (x := (i : Int)) (by omega) (by omega), w32_eq (x := (LC : Int)) (by omega) (by omega), if_pos (by omega)]
    have hs : fitP ro T n (i + 1) fN cN ↔ (fitP ro T n i fN cN ∧ cqV ro T n (fN i) (-2) = cN i) := by
      constructor
      · intro q
        exact ⟨fun j hj => q j (by omega), q i (by omega)⟩
      · rintro ⟨q1, q2⟩ j hj
        by_cases hji : j = i
        · subst hji; exact q2
        · exact q1 j (by omega)
    by_cases hf : fitP ro T n i fN cN
    · rw [if_pos (bP_1 hf), if_neg (by decide), ixt (n := 130) (89 + 4 * i) (by omega) (by omega) (by decide), ixt (n := 130) (89 + 4 * i + 1) (by omega) (by omega) (by decide), ixt (n := 130) (89 + 4 * i + 2) (by omega) (by omega) (by decide), ixt (n := 130) (89 + 4 * i + 3) (by omega) (by omega) (by decide)]
      simp only [obs]
      obtain ⟨M1, q1, q2⟩ := cq_m (M := t) (by rw [t156]; exact h) w (RR_pk j3 hr) (hm (by omega)) l1 l2 l3 (by omega) l5 l6
      rw [q1]
      simp only [obs]
      have hb := cqV_bd (ro := ro) (f := 4 * p + 2 * sd + wy) (no := -1) w (by decide) (by decide)
      rw [q2.1 156 (by decide) (by decide) (by decide) (by decide), t156, l8, w32_eq (x := cqV ro T n (4 * p + 2 * sd + wy) (-1)) (by omega) (by omega), w32_eq (x := cN i) (by omega) (by omega)]
      by_cases hc : cqV ro T n (4 * p + 2 * sd + wy) (-1) = cN i
      · rw [if_pos hc]
        refine ⟨_, rfl, ?_, by show (i : Int) + 1 = _; omega, PK_tr j3 q2⟩
        show (1 : Int) = _
        rw [if_pos (bP_1 (hs.mpr ⟨hf, by rw [l7]; exact (cqV_c w l9).mp hc⟩))]
      · rw [if_neg hc]
        refine ⟨_, rfl, ?_, by show (i : Int) + 1 = _; omega, PK_tr j3 q2⟩
        show (0 : Int) = _
        rw [if_neg]
        rw [bP_0 (fun q => hc ((cqV_c w l9).mpr (by rw [← l7]; exact (hs.mp q).2)))]
        decide
    · rw [if_neg (c := bP (fitP ro T n i fN cN) = true) (by rw [bP_0 hf]; decide), if_pos (c := w32 0 = 0) (by decide)]
      refine ⟨_, rfl, ?_, by show (i : Int) + 1 = _; omega, j3⟩
      show (0 : Int) = _
      rw [if_neg]
      rw [bP_0 (fun q => hf (hs.mp q).1)]
      decide) (by
    rintro ⟨x, y, t⟩ ⟨j1, j2, j3⟩
    replace j2 : y = (LC : Int) := j2
    replace j3 : PK M t := j3
    subst j2
    refine ⟨(x, (LC : Int), t), ?_, j1, j3⟩
    show xm_fillsFits_b35 t x1 x2 x (LC : Int) = _
    unfold xm_fillsFits_b35
    rw [ixt (n := 130) (j := 129) 129 rfl (by decide) (by decide)]
    simp only [obs]
    rw [j3.1 156 (by decide) (by decide) (by decide) (by decide), hlc, if_neg (by omega)]) (s := (1, 0, M)) ⟨by show (1 : Int) = _; rw [if_pos (bP_1 (p := fitP ro T n 0 fN cN) (fun j hj => absurd hj (Nat.not_lt_zero _)))], rfl, PK_rf⟩
  obtain ⟨x, y, t⟩ := r
  replace e2 : x = _ := e2
  subst e2
  exact ⟨y, t, e1, e3⟩
/-- costs of folds over from the right, by one rule -/
def PR (M M1 : Hp) : Prop := (∀ P, P ≠ 146 → P ≠ 154 → P ≠ 155 → P ≠ 158 → P ≠ 170 → M1 P = M P) ∧ ∀ q, q ≠ 18 → M1 146 q = M 146 q
theorem rf_row {M : Hp} {ro : Option (List Cls)} {r : Nat} (h : Rf (M 156) T n m) (w : WF T n m) (h2 : 2 ≤ n) (hr : RR M ro) (hr6 : r ≤ 6) {x1 : Int} : ∃ z M1, lp (fun (q : Int × Hp) => xm_fillsFits_b124 q.2 x1 (r : Int) q.1) (0, M) = some (z, M1) ∧ PR M M1 ∧ (0 < m → ∀ p, p + 1 < n → M1 170 (8 * r + p) = cqV ro T n (4 * p) (-1)) ∧ ∀ q, q < 8 * r ∨ 8 * r + 8 ≤ q → M1 170 q = M 170 q := by
  have w8 := w.1
  have w4 := w.2.1
  by_cases hm : 0 < m
  · obtain ⟨q, e1, e2, e3, e4⟩ := lp_forR (B := fun (q : Int × Hp) => xm_fillsFits_b124 q.2 x1 (r : Int) q.1) (fun i (q : Int × Hp) => q.1 = (i : Int) ∧ PR M q.2 ∧ (∀ p, p < i → q.2 170 (8 * r + p) = cqV ro T n (4 * p) (-1)) ∧ ∀ j, j < 8 * r ∨ 8 * r + 8 ≤ j → q.2 170 j = M 170 j) (n - 1) (fun q : Int × Hp => PR M q.2 ∧ (∀ p, p < n - 1 → q.2 170 (8 * r + p) = cqV ro T n (4 * p) (-1)) ∧ ∀ j, j < 8 * r ∨ 8 * r + 8 ≤ j → q.2 170 j = M 170 j) (by
      rintro i ⟨x, t⟩ hi ⟨j1, j2, j3, j4⟩
      replace j1 : x = (i : Int) := j1
      replace j2 : PR M t := j2
      replace j3 : ∀ p, p < i → t 170 (8 * r + p) = cqV ro T n (4 * p) (-1) := j3
      replace j4 : ∀ j, j < 8 * r ∨ 8 * r + 8 ≤ j → t 170 j = M 170 j := j4
      subst j1
      have t156 : t 156 = M 156 := j2.1 156 (by decide) (by decide) (by decide) (by decide) (by decide)
      have hrt : RR t ro := by
        match ro, hr with
        | none, hr => exact (j2.2 21 (by decide)).trans hr
        | some R, hr =>
          obtain ⟨T', b1, b2, b3, b4⟩ := hr
          exact ⟨T', b1, (j2.2 21 (by decide)).trans b2, RM_row (j2.1 148 (by decide) (by decide) (by decide) (by decide) (by decide)) (j2.1 150 (by decide) (by decide) (by decide) (by decide) (by decide)) (j2.1 151 (by decide) (by decide) (by decide) (by decide) (by decide)) b3, b4⟩
      obtain ⟨M1, q1, q2⟩ := cq_m (M := t) (by rw [t156]; exact h) w hrt hm (p := i) (sd := 0) (wy := 0) rfl rfl rfl (by omega) (by decide) (by decide)
      replace q1 : xm_costAt t (i : Int) 0 0 = some (cqV ro T n (4 * i) (-1), M1) := q1
      show ∃ s1, xm_fillsFits_b124 t x1 (r : Int) (i : Int) = some (Sum.inl s1) ∧ _
      unfold xm_fillsFits_b124
      rw [ix0 (by decide) (by decide), ix1 (by decide) (by decide)]
      simp only [obs]
      rw [t156, h.1, h.2.1, w32_eq (x := (i : Int)) (by omega) (by omega), w32_eq (x := (n : Int) - 1) (by omega) (by omega), if_pos (by omega), w32_eq (x := (m : Int)) (by omega) (by omega), if_pos (by omega), q1, ixt (8 * r + i) (by omega) (by omega) (by decide)]
      simp only [obs]
      refine ⟨_, rfl, by show (i : Int) + 1 = _; omega, ⟨fun P h1 h2 h3 h4 h5 => ?_, fun q hq => ?_⟩, fun p hp => ?_, fun j hj => ?_⟩
      · show uh M1 170 (8 * r + i) _ P = _
        rw [uh_row h5, q2.1 P h1 h2 h3 h4]; exact j2.1 P h1 h2 h3 h4 h5
      · show uh M1 170 (8 * r + i) (cqV ro T n (4 * i) (-1)) 146 q = _
        rw [uh_row (by decide), q2.2 q hq]; exact j2.2 q hq
      · show uh M1 170 (8 * r + i) _ 170 _ = _
        by_cases hpi : p = i
        · subst hpi; rw [uh_rc]
        · rw [uh_ro _ _ _ _ (by omega), q2.1 170 (by decide) (by decide) (by decide) (by decide)]; exact j3 p (by omega)
      · show uh M1 170 (8 * r + i) _ 170 _ = _
        rw [uh_ro _ _ _ _ (by omega), q2.1 170 (by decide) (by decide) (by decide) (by decide)]; exact j4 j hj) (by
      rintro ⟨x, t⟩ ⟨j1, j2, j3, j4⟩
      replace j1 : x = ((n - 1 : Nat) : Int) := j1
      replace j2 : PR M t := j2
      subst j1
      refine ⟨(((n - 1 : Nat) : Int), t), ?_, j2, j3, j4⟩
      show xm_fillsFits_b124 t x1 (r : Int) ((n - 1 : Nat) : Int) = _
      unfold xm_fillsFits_b124
      rw [ix0 (by decide) (by decide)]
      simp only [obs]
      rw [j2.1 156 (by decide) (by decide) (by decide) (by decide) (by decide), h.1, w32_eq (x := ((n - 1 : Nat) : Int)) (by omega) (by omega), w32_eq (x := (n : Int) - 1) (by omega) (by omega), if_neg (by omega)]) (s := (0, M)) ⟨rfl, ⟨fun _ _ _ _ _ _ => rfl, fun _ _ => rfl⟩, fun p hp => by omega, fun _ _ => rfl⟩
    exact ⟨q.1, q.2, e1, e2, fun _ p hp => e3 p (by omega), e4⟩
  · refine ⟨0, M, lp_en ?_, ⟨fun _ _ _ _ _ _ => rfl, fun _ _ => rfl⟩, fun q => absurd q hm, fun _ _ => rfl⟩
    show xm_fillsFits_b124 M x1 (r : Int) 0 = _
    unfold xm_fillsFits_b124
    rw [ix0 (by decide) (by decide), ix1 (by decide) (by decide)]
    simp only [obs]
    rw [h.1, h.2.1, w32_eq (x := (n : Int) - 1) (by omega) (by omega), w32_eq (x := (m : Int)) (by omega) (by omega), if_pos (by rw [show w32 0 = 0 by decide]; omega), if_neg (by omega)]
end FM2
