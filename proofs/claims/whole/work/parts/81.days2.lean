/-! days: the loops -/
theorem rm_keeps {M : Hp} : ∃ M1, xm_keeps M = some M1 ∧ (∀ P, P ≠ 160 → M1 P = M P) ∧ ∀ i, i < 45 → M1 160 i = M 156 (10 + i) := by
  unfold xm_keeps
  obtain ⟨M1, e1, e2, e3, -⟩ := cp_loop (B := fun (q : Int × Hp) => xm_keeps_b2 q.2 q.1) 156 160 45 (fun i => 10 + i) (fun i => i) M (fun i j _ _ h => h) (fun h => absurd h (by decide)) (fun i M' hi h1 _ => by
    show xm_keeps_b2 M' (i : Int) = _
    unfold xm_keeps_b2
    rw [w32_eq (x := (i : Int)) (by omega) (by omega), if_pos (by rw [show w32 45 = 45 by decide]; omega), ixt i rfl (by omega) (by decide), ixt (10 + i) (by omega) (by omega) (by decide)]
    rfl) (fun M' h1 _ => by
    show xm_keeps_b2 M' ((45 : Nat) : Int) = _
    unfold xm_keeps_b2
    rw [if_neg (by decide)])
  rw [e1]
  simp only [obs]
  exact ⟨M1, rfl, e2, e3⟩
theorem rm_laysBack {M : Hp} : ∃ M1, xm_laysBack M = some M1 ∧ (∀ P, P ≠ 156 → M1 P = M P) ∧ (∀ i, i < 45 → M1 156 (10 + i) = M 160 i) ∧ ∀ q, q < 10 ∨ 55 ≤ q → M1 156 q = M 156 q := by
  unfold xm_laysBack
  obtain ⟨M1, e1, e2, e3, e4⟩ := cp_loop (B := fun (q : Int × Hp) => xm_laysBack_b2 q.2 q.1) 160 156 45 (fun i => i) (fun i => 10 + i) M (fun i j _ _ h => by omega) (fun h => absurd h (by decide)) (fun i M' hi h1 _ => by
    show xm_laysBack_b2 M' (i : Int) = _
    unfold xm_laysBack_b2
    rw [w32_eq (x := (i : Int)) (by omega) (by omega), if_pos (by rw [show w32 45 = 45 by decide]; omega), ixt i rfl (by omega) (by decide), ixt (10 + i) (by omega) (by omega) (by decide)]
    rfl) (fun M' h1 _ => by
    show xm_laysBack_b2 M' ((45 : Nat) : Int) = _
    unfold xm_laysBack_b2
    rw [if_neg (by decide)])
  rw [e1]
  simp only [obs]
  exact ⟨M1, rfl, e2, e3, fun q hq => e4 q (fun j hj => by omega)⟩
section DB
variable {s M : Hp} {K : Nat → Nat → Int} {n m : Nat} {ln : Nat → Nat} {rs : Nat → Int} {ur : Int} {ro : Option (List Cls)}
/-- one of the m times -/
theorem dr_run (hm : 0 < m) (hcr : CR ln s ur ro) (hrr : ∀ v, FM M v → RR v ro) {t u : Hp} {X cnt pd N : Nat} (h : DR s M t u K n m X cnt pd) (hN : N ≤ 30) {a3 : Nat} {x1 x3 x5 : Int} (hc : cnt ≤ 1000) : ∃ k1 t' k2 u' K' X' cnt' pd', lp (fun (q : Int × Hp) => xd_run_b19 ln rs q.2 ur a3 (N : Int) q.1) (0, t) = some (k1, t') ∧ lp (fun (q : Int × Int × Hp) => xm_days_b85 q.2.2 x1 (N : Int) x3 q.1 x5 q.2.1) ((cnt : Int), 0, u) = some (((cnt' : Nat) : Int), k2, u') ∧ cnt' ≤ cnt + N ∧ pd' ≤ pd + 7992 * N ∧ DR s M t' u' K' n m X' cnt' pd' := by
  obtain ⟨r1, r2, e1, e2, K', X', cnt', pd', g1, g2, g3, g4⟩ := lp_for2 (B1 := fun (q : Int × Hp) => xd_run_b19 ln rs q.2 ur a3 (N : Int) q.1) (B2 := fun (q : Int × Int × Hp) => xm_days_b85 q.2.2 x1 (N : Int) x3 q.1 x5 q.2.1) (fun k (a : Int × Hp) (b : Int × Int × Hp) => a.1 = (k : Int) ∧ b.2.1 = (k : Int) ∧ ∃ K' X' cnt' pd', b.1 = ((cnt' : Nat) : Int) ∧ cnt' ≤ cnt + k ∧ pd' ≤ pd + 7992 * k ∧ DR s M a.2 b.2.2 K' n m X' cnt' pd') N (fun (a : Int × Hp) (b : Int × Int × Hp) => ∃ K' X' cnt' pd', b.1 = ((cnt' : Nat) : Int) ∧ cnt' ≤ cnt + N ∧ pd' ≤ pd + 7992 * N ∧ DR s M a.2 b.2.2 K' n m X' cnt' pd') (by
    rintro k ⟨ka, ta⟩ ⟨cb, kb, ub⟩ hk ⟨i1, i2, K', X', cnt', pd', i3, i4, i5, i6⟩
    replace i1 : ka = (k : Int) := i1
    replace i2 : kb = (k : Int) := i2
    replace i3 : cb = ((cnt' : Nat) : Int) := i3
    replace i6 : DR s M ta ub K' n m X' cnt' pd' := i6
    subst i1
    subst i2
    subst i3
    obtain ⟨t', u', K2, X2, cnt2, pd2, e, o1, o2, o3, o4, o5⟩ := dr_step (rs := rs) hm hcr hrr i6 (a3 := a3) hk hN
    have hk1 : pd2 ≤ pd + 7992 * (k + 1) := Nat.le_trans o4 (by rw [Nat.mul_add_one, ← Nat.add_assoc]; exact Nat.add_le_add_right i5 7992)
    rcases o3 with ⟨rfl, rfl⟩ | ⟨rfl, rfl⟩
    · refine ⟨_, (((cnt2 : Nat) : Int), ((k + 1 : Nat) : Int), u'), o1, ?_, rfl, rfl, K2, X2, cnt2, pd2, rfl, by omega, hk1, o5⟩
      show xm_days_b85 ub x1 (N : Int) x3 ((cnt2 : Nat) : Int) x5 (k : Int) = _
      unfold xm_days_b85
      rw [w32_eq (x := (k : Int)) (by omega) (by omega), w32_eq (x := (N : Int)) (by omega) (by omega), if_pos (by omega), o2]
      simp only [obs]
      rw [if_pos (by decide), Int.add_zero, show ((k + 1 : Nat) : Int) = (k : Int) + 1 by omega]
    · refine ⟨_, (((cnt' + 1 : Nat) : Int), ((k + 1 : Nat) : Int), u'), o1, ?_, rfl, rfl, K2, X2, cnt' + 1, pd2, rfl, by omega, hk1, o5⟩
      show xm_days_b85 ub x1 (N : Int) x3 ((cnt' : Nat) : Int) x5 (k : Int) = _
      unfold xm_days_b85
      rw [w32_eq (x := (k : Int)) (by omega) (by omega), w32_eq (x := (N : Int)) (by omega) (by omega), if_pos (by omega), o2]
      simp only [obs]
      rw [if_neg (by decide), show ((k + 1 : Nat) : Int) = (k : Int) + 1 by omega, show ((cnt' + 1 : Nat) : Int) = (cnt' : Int) + 1 by omega]) (by
    rintro ⟨ka, ta⟩ ⟨cb, kb, ub⟩ ⟨i1, i2, i3⟩
    replace i1 : ka = (N : Int) := i1
    replace i2 : kb = (N : Int) := i2
    subst i1
    subst i2
    refine ⟨((N : Int), ta), (cb, (N : Int), ub), ?_, ?_, i3⟩
    · show xd_run_b19 ln rs ta ur a3 (N : Int) (N : Int) = _
      unfold xd_run_b19
      rw [if_neg (by omega)]
    · show xm_days_b85 ub x1 (N : Int) x3 cb x5 (N : Int) = _
      unfold xm_days_b85
      rw [if_neg (by omega)]) (a := (0, t)) (b := ((cnt : Int), 0, u)) ⟨rfl, rfl, K, X, cnt, pd, rfl, by omega, by omega, h⟩
  obtain ⟨k1, t'⟩ := r1
  obtain ⟨cb, k2, u'⟩ := r2
  replace g1 : cb = ((cnt' : Nat) : Int) := g1
  subst g1
  exact ⟨k1, t', k2, u', K', X', cnt', pd', e1, e2, g2, g3, g4⟩
end DB
section DC
variable {n : Nat} {w : pm_H}
theorem call_27 (hn : n < 512) (h : Inv n w) (a1 a2 a3 a4 a5 : Int32) : ob_ok 27 [a1, a2, a3, a4, a5] w (Inv (n + 1)) := by
  obtain ⟨sh, ln, s, M, ib, ds, rel⟩ := h
  obtain ⟨tp, ru, ⟨K, c, m, sr, pa⟩, -⟩ := id rel
  have bp := bi a1
  have bq := bi a2
  have br := bi a3
  have key : ∃ r s1 M1, xf_days ln (rsF s) s a1.toInt a2.toInt a3.toInt = some (r, s1) ∧ xm_days M a1.toInt a2.toInt a3.toInt = some (r, M1) ∧ SameC s s1 ∧ SameM M M1 := by
    generalize a1.toInt = p at bp
    generalize a2.toInt = q at bq
    generalize a3.toInt = o at br
    have W := sr.1
    obtain ⟨w8, w4, w0, w2, wl, wz, -⟩ := id W
    have smr : SameM M M := ⟨fun _ _ => rfl, rfl, rfl, rfl, rfl, rfl⟩
    unfold xf_days xm_days
    rw [rm_isCloth sr.2.2.1 W, w32_eq (x := p) bp.1 bp.2, w32_eq (x := q) bq.1 bq.2, w32_eq (x := o) br.1 br.2, rm_in (v := p) (by omega) (by omega) (by omega) (by omega) (by omega) (by omega), rm_in (v := q) (by omega) (by omega) (by omega) (by omega) (by omega) (by omega), rm_in (v := o) (by omega) (by omega) (by omega) (by omega) (by omega) (by omega), show s 17 0 = (c : Int) from sr.2.1.1, w32_eq (x := (c : Int)) (by omega) (by omega), show w32 1 = 1 by decide, show w32 10 = 10 by decide, show w32 30 = 30 by decide]
    simp only [obs, tb0]
    by_cases c1 : (1 ≤ p ∧ p ≤ 10) ∧ (1 ≤ q ∧ q ≤ 30) ∧ (0 ≤ o ∧ o ≤ 1) ∧ 0 < c
    · obtain ⟨d1, d2, d3, d4⟩ := c1
      rw [if_neg (c := p < 1) (by omega), if_neg (c := 10 < p) (by omega), if_neg (c := q < 1) (by omega), if_neg (c := 30 < q) (by omega), if_neg (c := o < 0) (by omega), if_neg (c := 1 < o) (by omega), if_neg (c := (c : Int) = 0) (by omega), if_neg (c := ¬ 0 < c) (fun k => k d4), if_neg (c := ¬ (1 ≤ p ∧ p ≤ 10)) (fun k => k d1), if_neg (c := ¬ (1 ≤ q ∧ q ≤ 30)) (fun k => k d2), if_neg (c := ¬ (0 ≤ o ∧ o ≤ 1)) (fun k => k d3)]
      obtain ⟨mn, rfl⟩ : ∃ x : Nat, p = (x : Int) := ⟨p.toNat, by omega⟩
      obtain ⟨N, rfl⟩ : ∃ x : Nat, q = (x : Int) := ⟨q.toNat, by omega⟩
      obtain ⟨ex, xl, xh⟩ := sr.2.2.2.2.2.2.2.2.2.2
      obtain ⟨X0, hX0⟩ : ∃ x : Nat, M 146 22 = (x : Int) := ⟨(M 146 22).toNat, by omega⟩
      unfold xd_begin
      simp only [obs]
      rw [ex, hX0, w32_eq (x := (X0 : Int)) (by omega) (by omega)]
      generalize hS0 : uh (uh (uh s 134 1 (X0 : Int)) 134 2 0) 134 3 0 = S0
      have S00 : FC s S0 := fun P h1 h2 => by rw [← hS0, uh_row (by omega), uh_row (by omega), uh_row (by omega)]
      have S01 : S0 134 1 = (X0 : Int) := by rw [← hS0, uh_ro _ _ _ _ (by decide), uh_ro _ _ _ _ (by decide), uh_rc]
      have S02 : S0 134 2 = ((0 : Nat) : Int) := by rw [← hS0, uh_ro _ _ _ _ (by decide), uh_rc]; rfl
      have S03 : S0 134 3 = ((0 : Nat) : Int) := by rw [← hS0, uh_rc]; rfl
      obtain ⟨M0, k1, k2, k3⟩ := rm_keeps (M := uh (uh M 146 40 (X0 : Int)) 146 41 0)
      rw [k1]
      simp only [obs]
      have k156 : M0 156 = M 156 := by rw [k2 156 (by decide), uh_row (by decide), uh_row (by decide)]
      have k160 : ∀ i, i < 45 → M0 160 i = M 156 (10 + i) := fun i hi => by rw [k3 i hi, uh_row (by decide), uh_row (by decide)]
      have kr : ∀ P, P ≠ 146 → P ≠ 160 → M0 P = M P := fun P h1 h2 => by rw [k2 P h2, uh_row h1, uh_row h1]
      have k146 : ∀ i, i ≠ 40 → i ≠ 41 → M0 146 i = M 146 i := fun i h1 h2 => by rw [k2 146 (by decide), uh_ro _ _ _ _ h2, uh_ro _ _ _ _ h1]
      have k40 : M0 146 40 = (X0 : Int) := by rw [k2 146 (by decide), uh_ro _ _ _ _ (by decide), uh_rc]
      have k41 : M0 146 41 = ((0 : Nat) : Int) := by rw [k2 146 (by decide), uh_rc]; rfl
      have fin : ∀ (t u : Hp), FC s t → FM M0 u → u 156 = M 156 → SameC s t ∧ SameM M u := fun t u f1 f2 f3 => by
        refine ⟨⟨fun P hP => f1 P (by unfold VC at hP; omega) (by unfold VC at hP; omega), by rw [f1 130 (by decide) (by decide)], by rw [f1 130 (by decide) (by decide)]⟩, ⟨fun P hP => ?_, ?_, ?_, ?_, ?_, ?_⟩⟩
        · by_cases h6 : P = 156
          · subst h6; exact f3
          · rw [f2.1 P (by unfold VM at hP; omega) (by unfold VM at hP; omega) (by unfold VM at hP; omega) h6 (by unfold VM at hP; omega) (by unfold VM at hP; omega)]
            exact kr P (by unfold VM at hP; omega) (by unfold VM at hP; omega)
        · rw [f2.2.1 1 (by decide) (by decide) (by decide)]; exact k146 1 (by decide) (by decide)
        · rw [f2.2.1 2 (by decide) (by decide) (by decide)]; exact k146 2 (by decide) (by decide)
        · rw [f2.2.1 21 (by decide) (by decide) (by decide)]; exact k146 21 (by decide) (by decide)
        · rw [f2.2.1 22 (by decide) (by decide) (by decide)]; exact k146 22 (by decide) (by decide)
        · rw [f2.2.1 26 (by decide) (by decide) (by decide)]; exact k146 26 (by decide) (by decide)
      have FM0 : FM M0 M0 := ⟨fun _ _ _ _ _ _ _ => rfl, fun _ _ _ _ => rfl, fun _ _ => rfl⟩
      obtain ⟨u, ro, u1, u2, u3⟩ := rule_of (rs := rsF s) ru (fun i hi => rsF_at hi) sr.2.2.2.2.2.2.2.2.1 sr.2.2.2.2.2.2.2.2.2.1
      have hrr : ∀ v, FM M0 v → RR v ro := fun v hv => u3 v (by rw [hv.2.1 21 (by decide) (by decide) (by decide), k146 21 (by decide) (by decide)]) (by rw [hv.1 148 (by decide) (by decide) (by decide) (by decide) (by decide) (by decide), kr 148 (by decide) (by decide)]) (by rw [hv.1 150 (by decide) (by decide) (by decide) (by decide) (by decide) (by decide), kr 150 (by decide) (by decide)]) (by rw [hv.1 151 (by decide) (by decide) (by decide) (by decide) (by decide) (by decide), kr 151 (by decide) (by decide)])
      have euf : ∀ t, FC s t → xf_ruleInForce ln (rsF s) t = some u := fun t ft => by
        unfold xf_ruleInForce
        rw [ft 16 (by decide) (by decide), sr.2.2.2.2.2.2.2.1, u1 t (by rw [ft 0 (by decide) (by decide)]) (ft 15 (by decide) (by decide))]
        rfl
      by_cases hm : 0 < m
      · obtain ⟨r1, r2, e1, e2, X, cnt, pd, f1, f2, f3, f4, f5, f6, f7⟩ := lp_for2 (B1 := fun (q : Int × Hp) => xf_days_b63 ln (rsF s) q.2 (mn : Int) (N : Int) o q.1) (B2 := fun (q : Int × Int × Hp) => xm_days_b67 q.2.2 (mn : Int) (N : Int) o q.1 q.2.1) (fun y (a : Int × Hp) (b : Int × Int × Hp) => a.1 = (y : Int) ∧ b.2.1 = (y : Int) ∧ ∃ X cnt pd : Nat, b.1 = (cnt : Int) ∧ cnt ≤ 30 * y ∧ pd ≤ 239760 * y ∧ (a.2 134 1 = (X : Int) ∧ b.2.2 146 40 = (X : Int) ∧ X < 2147483648) ∧ (a.2 134 2 = (cnt : Int) ∧ a.2 134 3 = (pd : Int) ∧ b.2.2 146 41 = (pd : Int)) ∧ (FC s a.2 ∧ FM M0 b.2.2) ∧ b.2.2 156 = M 156) mn (fun (a : Int × Hp) (b : Int × Int × Hp) => ∃ X cnt pd : Nat, b.1 = (cnt : Int) ∧ cnt ≤ 30 * mn ∧ pd ≤ 239760 * mn ∧ (a.2 134 1 = (X : Int) ∧ b.2.2 146 40 = (X : Int) ∧ X < 2147483648) ∧ (a.2 134 2 = (cnt : Int) ∧ a.2 134 3 = (pd : Int) ∧ b.2.2 146 41 = (pd : Int)) ∧ (FC s a.2 ∧ FM M0 b.2.2) ∧ b.2.2 156 = M 156) (by
          rintro y ⟨ka, ta⟩ ⟨cb, kb, ub⟩ hy ⟨i1, i2, X, cnt, pd, i3, i4, i5, ⟨i6, i7, i8⟩, ⟨i9, i10, i11⟩, ⟨i12, i13⟩, i14⟩
          replace i1 : ka = (y : Int) := i1
          replace i2 : kb = (y : Int) := i2
          replace i3 : cb = (cnt : Int) := i3
          replace i6 : ta 134 1 = (X : Int) := i6
          replace i7 : ub 146 40 = (X : Int) := i7
          replace i9 : ta 134 2 = (cnt : Int) := i9
          replace i10 : ta 134 3 = (pd : Int) := i10
          replace i11 : ub 146 41 = (pd : Int) := i11
          replace i12 : FC s ta := i12
          replace i13 : FM M0 ub := i13
          replace i14 : ub 156 = M 156 := i14
          subst i1
          subst i2
          subst i3
          obtain ⟨t1, c1, c2, c3⟩ := cl_copy (s := ta) (a0 := 135) (a1 := 17) (by omega)
          have hcl : Cl t1 135 K c m := Cl_cp (s := ta) (a1 := 17) (Cl_row sr.2.1 (fun i hi => i12 _ (by omega) (by omega))) W c3
          have hdr : DR s M0 t1 ub K c m X cnt pd := ⟨W, hcl, by rw [i14]; exact sr.2.2.1, by rw [c2 134 (by decide)]; exact i6, i7, i8, by rw [c2 134 (by decide)]; exact i9, by rw [c2 134 (by decide)]; exact i10, i11, fun P h1 h2 => by rw [c2 P (by omega)]; exact i12 P h1 h2, i13⟩
          obtain ⟨k1', t', k2', u', K', X', cnt', pd', l1, l2, l3, l4, l5⟩ := dr_run (rs := rsF s) hm u2 hrr hdr (N := N) (by omega) (a3 := 17) (x1 := (mn : Int)) (x3 := o) (x5 := (y : Int)) (by omega)
          obtain ⟨v, b1, b2, b3, b4⟩ := rm_laysBack (M := u')
          refine ⟨((y : Int) + 1, t'), (((cnt' : Nat) : Int), (y : Int) + 1, v), ?_, ?_, ?_, ?_, X', cnt', pd', rfl, by omega, by omega, ⟨l5.2.2.2.1, ?_, l5.2.2.2.2.2.1⟩, ⟨l5.2.2.2.2.2.2.1, l5.2.2.2.2.2.2.2.1, ?_⟩, ⟨l5.2.2.2.2.2.2.2.2.2.1, ?_⟩, ?_⟩
          · show xf_days_b63 ln (rsF s) ta (mn : Int) (N : Int) o (y : Int) = _
            unfold xf_days_b63 xd_run
            rw [w32_eq (x := (y : Int)) (by omega) (by omega), w32_eq (x := (mn : Int)) (by omega) (by omega), if_pos (by omega), euf ta i12]
            simp only [obs]
            rw [show ta 17 1 = (m : Int) from by rw [i12 17 (by decide) (by decide)]; exact sr.2.1.2.1, w32_eq (x := (m : Int)) (by omega) (by omega), if_neg (by omega), c1]
            simp only [obs]
            rw [l1]
            rfl
          · show xm_days_b67 ub (mn : Int) (N : Int) o ((cnt : Nat) : Int) (y : Int) = _
            unfold xm_days_b67
            rw [w32_eq (x := (y : Int)) (by omega) (by omega), w32_eq (x := (mn : Int)) (by omega) (by omega), if_pos (by omega), ix1 (by decide) (by decide)]
            simp only [obs]
            rw [i14, sr.2.2.1.2.1, w32_eq (x := (m : Int)) (by omega) (by omega), if_pos (by omega), l2]
            simp only [obs]
            rw [b1]
            rfl
          · show (y : Int) + 1 = _
            omega
          · show (y : Int) + 1 = _
            omega
          · show v 146 40 = _
            rw [b2 146 (by decide)]; exact l5.2.2.2.2.1
          · show v 146 41 = _
            rw [b2 146 (by decide)]; exact l5.2.2.2.2.2.2.2.2.1
          · have fu := l5.2.2.2.2.2.2.2.2.2.2
            refine ⟨fun P h1 h2 h3 h4 h5 h6 => ?_, fun i h1 h2 h3 => ?_, fun i hi => ?_⟩
            · show v P = _
              rw [b2 P h4]; exact fu.1 P h1 h2 h3 h4 h5 h6
            · show v 146 i = _
              rw [b2 146 (by decide)]; exact fu.2.1 i h1 h2 h3
            · show v 156 i = _
              rw [b4 i hi]; exact fu.2.2 i hi
          · show v 156 = _
            have fu := l5.2.2.2.2.2.2.2.2.2.2
            funext i
            by_cases hi : 10 ≤ i ∧ i < 55
            · have := b3 (i - 10) (by omega)
              rw [show 10 + (i - 10) = i by omega] at this
              rw [this, fu.1 160 (by decide) (by decide) (by decide) (by decide) (by decide) (by decide), k160 _ (by omega), show 10 + (i - 10) = i by omega]
            · rw [b4 i (by omega), fu.2.2 i (by omega), k156]) (by
          rintro ⟨ka, ta⟩ ⟨cb, kb, ub⟩ ⟨i1, i2, i3⟩
          replace i1 : ka = (mn : Int) := i1
          replace i2 : kb = (mn : Int) := i2
          subst i1
          subst i2
          refine ⟨((mn : Int), ta), (cb, (mn : Int), ub), ?_, ?_, i3⟩
          · show xf_days_b63 ln (rsF s) ta (mn : Int) (N : Int) o (mn : Int) = _
            unfold xf_days_b63
            rw [if_neg (by omega)]
          · show xm_days_b67 ub (mn : Int) (N : Int) o cb (mn : Int) = _
            unfold xm_days_b67
            rw [if_neg (by omega)]) (a := (0, S0)) (b := (0, 0, M0)) ⟨rfl, rfl, X0, 0, 0, rfl, by omega, by omega, ⟨S01, k40, by omega⟩, ⟨S02, S03, k41⟩, ⟨S00, FM0⟩, k156⟩
        obtain ⟨ka, ta⟩ := r1
        obtain ⟨cb, kb, ub⟩ := r2
        replace f1 : cb = (cnt : Int) := f1
        subst f1
        rw [e1, e2]
        simp only [obs]
        obtain ⟨g1, g2⟩ := fin ta ub f6.1 f6.2 f7
        by_cases ho : o = 0
        · rw [if_pos ho, if_pos ho]
          exact ⟨_, ta, ub, rfl, by rw [show ta 134 2 = (cnt : Int) from f5.1], g1, g2⟩
        · rw [if_neg ho, if_neg ho]
          exact ⟨_, ta, ub, rfl, by rw [show ta 134 3 = (pd : Int) from f5.2.1, show ub 146 41 = (pd : Int) from f5.2.2], g1, g2⟩
      · have e1 : lp (fun (q : Int × Hp) => xf_days_b63 ln (rsF s) q.2 (mn : Int) (N : Int) o q.1) (0, S0) = some ((mn : Int), S0) := by
          refine lp_for (fun i => ((i : Int), S0)) mn rfl (fun i hi => ?_) ?_
          · show xf_days_b63 ln (rsF s) S0 (mn : Int) (N : Int) o (i : Int) = _
            unfold xf_days_b63 xd_run
            rw [w32_eq (x := (i : Int)) (by omega) (by omega), w32_eq (x := (mn : Int)) (by omega) (by omega), if_pos (by omega), euf S0 S00]
            simp only [obs]
            rw [show S0 17 1 = (m : Int) from by rw [S00 17 (by decide) (by decide)]; exact sr.2.1.2.1, w32_eq (x := (m : Int)) (by omega) (by omega), if_pos (by omega)]
            rfl
          · show xf_days_b63 ln (rsF s) S0 (mn : Int) (N : Int) o (mn : Int) = _
            unfold xf_days_b63
            rw [if_neg (by omega)]
        have e2 : lp (fun (q : Int × Int × Hp) => xm_days_b67 q.2.2 (mn : Int) (N : Int) o q.1 q.2.1) (0, 0, M0) = some (0, 0, M0) := by
          refine lp_en ?_
          show xm_days_b67 M0 (mn : Int) (N : Int) o 0 0 = _
          unfold xm_days_b67
          rw [w32_eq (x := (mn : Int)) (by omega) (by omega), if_pos (by rw [show w32 0 = 0 by decide]; omega), ix1 (by decide) (by decide)]
          simp only [obs]
          rw [k156, sr.2.2.1.2.1, w32_eq (x := (m : Int)) (by omega) (by omega), if_neg (by omega)]
        rw [e1, e2]
        simp only [obs]
        obtain ⟨g1, g2⟩ := fin S0 M0 S00 FM0 k156
        by_cases ho : o = 0
        · rw [if_pos ho, if_pos ho]
          exact ⟨_, S0, M0, rfl, by rw [S02]; rfl, g1, g2⟩
        · rw [if_neg ho, if_neg ho]
          exact ⟨_, S0, M0, rfl, by rw [S03, k41], g1, g2⟩
    · refine ⟨-1, s, M, ?_, ?_, sameC_rf, smr⟩
      · by_cases h1 : p < 1
        · rw [if_pos h1]
        rw [if_neg h1]
        by_cases h2 : 10 < p
        · rw [if_pos h2]
        rw [if_neg h2]
        by_cases h3 : q < 1
        · rw [if_pos h3]
        rw [if_neg h3]
        by_cases h4 : 30 < q
        · rw [if_pos h4]
        rw [if_neg h4]
        by_cases h5 : o < 0
        · rw [if_pos h5]
        rw [if_neg h5]
        by_cases h6 : 1 < o
        · rw [if_pos h6]
        rw [if_neg h6, if_pos (by omega)]
      · by_cases h1 : 0 < c
        · rw [if_neg (c := ¬ 0 < c) (fun k => k h1)]
          by_cases h2 : 1 ≤ p ∧ p ≤ 10
          · rw [if_neg (c := ¬ (1 ≤ p ∧ p ≤ 10)) (fun k => k h2)]
            by_cases h3 : 1 ≤ q ∧ q ≤ 30
            · rw [if_neg (c := ¬ (1 ≤ q ∧ q ≤ 30)) (fun k => k h3), if_pos (c := ¬ (0 ≤ o ∧ o ≤ 1)) (fun h4 => c1 ⟨h2, h3, h4, h1⟩)]
            · rw [if_pos (c := ¬ (1 ≤ q ∧ q ≤ 30)) h3]
          · rw [if_pos (c := ¬ (1 ≤ p ∧ p ≤ 10)) h2]
        · rw [if_pos (c := ¬ 0 < c) h1]
  obtain ⟨r, s1, M1, e1, e2, e3, e4⟩ := key
  exact ob_na (args := [.int (Int32.ofInt a1.toInt), .int (Int32.ofInt a2.toInt), .int (Int32.ofInt a3.toInt)]) hn rfl (by rw [← vi, ← vi, ← vi]; rfl) ib (fun P kr => xf_days_ok (w0 := w) ib.2.2.1 (rsF_ok ds) ⟨ib.1, Fr_rf⟩ e1 (fun w1 h1 => kr w1 h1)) (fun w1 h1 P kr => xm_days_ok (w0 := w1) StM_M ⟨h1, Fr_rf⟩ e2 (fun w2 h2 => kr w2 h2)) (DS_cg ds (e3.1 15 (by unfold VC; omega)) (e3.1 38 (by unfold VC; omega)) (e3.1 40 (by unfold VC; omega))) (REL_cg rel e3 e4)
end DC
