/-! days of drawn folds -/
theorem lp_for2 {σ ρ σ' ρ' : Type} {B1 : σ → Option (σ ⊕ ρ)} {B2 : σ' → Option (σ' ⊕ ρ')} (I : Nat → σ → σ' → Prop) (n : Nat) (Q : ρ → ρ' → Prop) (h : ∀ i a b, i < n → I i a b → ∃ a1 b1, B1 a = some (.inl a1) ∧ B2 b = some (.inl b1) ∧ I (i + 1) a1 b1) (e : ∀ a b, I n a b → ∃ r1 r2, B1 a = some (.inr r1) ∧ B2 b = some (.inr r2) ∧ Q r1 r2) {a : σ} {b : σ'} (h0 : I 0 a b) : ∃ r1 r2, lp B1 a = some r1 ∧ lp B2 b = some r2 ∧ Q r1 r2 := by
  have key : ∀ k a b, k ≤ n → I (n - k) a b → ∃ r1 r2, lp B1 a = some r1 ∧ lp B2 b = some r2 ∧ Q r1 r2 := by
    intro k
    induction k with
    | zero =>
      intro a b _ hs
      rw [Nat.sub_zero] at hs
      obtain ⟨r1, r2, h1, h2, h3⟩ := e a b hs
      exact ⟨r1, r2, lp_en h1, lp_en h2, h3⟩
    | succ k ih =>
      intro a b hk hs
      obtain ⟨a1, b1, h1, h2, h3⟩ := h _ a b (by omega) hs
      rw [show n - (k + 1) + 1 = n - k by omega] at h3
      obtain ⟨r1, r2, g1, g2, g3⟩ := ih a1 b1 (by omega) h3
      exact ⟨r1, r2, by rw [lp_in h1]; exact g1, by rw [lp_in h2]; exact g2, g3⟩
  exact key n a b (Nat.le_refl n) (by rw [Nat.sub_self]; exact h0)
theorem bv64_n {x : Nat} (h : x < 9223372036854775808) : (Int64.ofInt (x : Int)).toBitVec.toNat = x := by
  show (BitVec.ofInt 64 (x : Int)).toNat = x
  rw [BitVec.ofInt_natCast, BitVec.toNat_ofNat]
  omega
theorem bv64_i {z : Int64} {x : Nat} (h : z.toBitVec.toNat = x) (hx : x < 9223372036854775808) : z.toInt = (x : Int) := by
  show z.toBitVec.toInt = _
  rw [BitVec.toInt_eq_toNat_of_lt (by omega), h]
theorem lAnd_mod {x : Nat} (hx : x < 9223372036854775808) : lAnd (x : Int) 2147483647 = ((x % 2147483648 : Nat) : Int) := by
  refine bv64_i ?_ (by omega)
  rw [Int64.toBitVec_and, BitVec.toNat_and, bv64_n hx, show (2147483647 : Int) = ((2147483647 : Nat) : Int) from rfl, bv64_n (by decide)]
  exact Nat.and_two_pow_sub_one_eq_mod x 31
theorem lShr16 {x : Nat} (hx : x < 9223372036854775808) : lShr (x : Int) 16 = ((x / 65536 : Nat) : Int) := by
  show ((Int64.ofInt (x : Int) >>> ((Int32.ofInt 16).toInt64 &&& 63)).toBitVec).toInt = _
  rw [Int64.toBitVec_shiftRight, BitVec.sshiftRight_eq', BitVec.toInt_sshiftRight, show (((Int32.ofInt 16).toInt64 &&& 63).toBitVec.smod 64).toNat = 16 by decide +kernel, Int.shiftRight_eq_div_pow]
  have e : (Int64.ofInt (x : Int)).toBitVec.toInt = (x : Int) := w64_eq (x := (x : Int)) (by omega) (by omega)
  rw [e]
  omega
theorem div64 {x y : Nat} (hx : x < 9223372036854775808) (hy : y < 9223372036854775808) : Int64.ofInt (x : Int) / Int64.ofInt (y : Int) = Int64.ofInt ((x / y : Nat) : Int) := by
  have hd : x / y ≤ x := Nat.div_le_self x y
  have h0 : (0 : Int) ≤ ((x / y : Nat) : Int) := Int.natCast_nonneg _
  apply Int64.toInt_inj.mp
  rw [Int64.toInt_div]
  show ((w64 (x : Int)).tdiv (w64 (y : Int))).bmod (2 ^ 64) = w64 ((x / y : Nat) : Int)
  rw [w64_eq (by omega) (by omega), w64_eq (x := (y : Int)) (by omega) (by omega), w64_eq (x := ((x / y : Nat) : Int)) (by omega) (by omega), ← Int.ofNat_tdiv]
  exact Int.bmod_eq_of_le (by omega) (by omega)
theorem lDiv_n {x y : Nat} (hx : x < 9223372036854775808) (hy : y < 9223372036854775808) : lDiv (x : Int) (y : Int) = ((x / y : Nat) : Int) := by
  have hd : x / y ≤ x := Nat.div_le_self x y
  have h0 : (0 : Int) ≤ ((x / y : Nat) : Int) := Int.natCast_nonneg _
  unfold lDiv
  rw [div64 hx hy]
  exact w64_eq (x := ((x / y : Nat) : Int)) (by omega) (by omega)
theorem lRem_n {x y : Nat} (hx : x < 9223372036854775808) (hy : y < 9223372036854775808) : lRem (x : Int) (y : Int) = ((x % y : Nat) : Int) := by
  have hd : x % y ≤ x := Nat.mod_le x y
  have h0 : (0 : Int) ≤ ((x % y : Nat) : Int) := Int.natCast_nonneg _
  have e : (x : Int) - ((x / y : Nat) : Int) * (y : Int) = ((x % y : Nat) : Int) := by
    have := Nat.div_add_mod' x y
    have h2 : ((x / y * y + x % y : Nat) : Int) = (x : Int) := by rw [this]
    rw [Int.natCast_add, Int.natCast_mul] at h2
    omega
  unfold lRem
  rw [div64 hx hy, ← Int64.ofInt_mul, ← Int64.ofInt_sub, e]
  exact w64_eq (x := ((x % y : Nat) : Int)) (by omega) (by omega)
def nxX (X : Nat) : Nat := (X * 1103515245 + 12345) % 2147483648
theorem nxX_lt (X : Nat) : nxX X < 2147483648 := Nat.mod_lt _ (by decide)
theorem dr_c {s : Hp} {X b : Nat} {y : Int} (hy : y = (b : Int)) (h : s 134 1 = (X : Int)) (hX : X < 2147483648) (hb : 0 < b) (hb8 : b ≤ 8) : xd_drawBelow s y = some (((nxX X / 65536 % b : Nat) : Int), uh s 134 1 ((nxX X : Nat) : Int)) := by
  subst hy
  have hn := nxX_lt X
  have hm : nxX X / 65536 % b < b := Nat.mod_lt _ hb
  unfold xd_drawBelow
  rw [h, show (X : Int) * 1103515245 + 12345 = ((X * 1103515245 + 12345 : Nat) : Int) by omega, lAnd_mod (by omega)]
  simp only [obs]
  show (if w32 (b : Int) < w32 1 then some (0, uh s 134 1 ((nxX X : Nat) : Int)) else if ¬ w64 (w32 (b : Int)) = 0 then some (lI (lRem (lShr (uh s 134 1 ((nxX X : Nat) : Int) 134 1) 16) (w32 (b : Int))), uh s 134 1 ((nxX X : Nat) : Int)) else none) = _
  rw [w32_eq (x := (b : Int)) (by omega) (by omega), show w32 1 = 1 by decide, if_neg (by omega), w64_eq (x := (b : Int)) (by omega) (by omega), if_pos (by omega), uh_rc, lShr16 (by omega), lRem_n (by omega) (by omega)]
  unfold lI
  rw [w32_eq (x := ((nxX X / 65536 % b : Nat) : Int)) (by omega) (by omega)]
theorem dr_m {s : Hp} {X b : Nat} {y : Int} (hy : y = (b : Int)) (h : s 146 40 = (X : Int)) (hX : X < 2147483648) (hb : 0 < b) (hb8 : b ≤ 8) : xm_draw s y = some (((nxX X / 65536 % b : Nat) : Int), uh s 146 40 ((nxX X : Nat) : Int)) := by
  subst hy
  have hn := nxX_lt X
  have hm : nxX X / 65536 % b < b := Nat.mod_lt _ hb
  unfold xm_draw
  rw [h, show (X : Int) * 1103515245 + 12345 = ((X * 1103515245 + 12345 : Nat) : Int) by omega, show (2147483648 : Int) = ((2147483648 : Nat) : Int) from rfl, lRem_n (x := X * 1103515245 + 12345) (by omega) (by decide)]
  simp only [obs]
  show (if ¬ w64 (w32 (b : Int)) = 0 then some (lI (lRem (lDiv (uh s 146 40 ((nxX X : Nat) : Int) 146 40) 65536) (w32 (b : Int))), uh s 146 40 ((nxX X : Nat) : Int)) else none) = _
  rw [w32_eq (x := (b : Int)) (by omega) (by omega), w64_eq (x := (b : Int)) (by omega) (by omega), if_pos (by omega), uh_rc, show (65536 : Int) = ((65536 : Nat) : Int) from rfl, lDiv_n (by omega) (by decide), lRem_n (by omega) (by omega)]
  unfold lI
  rw [w32_eq (x := ((nxX X / 65536 % b : Nat) : Int)) (by omega) (by omega)]
theorem fdK_8 {ro : Option (List Cls)} {K : Nat → Nat → Int} {n b p sd wy : Nat} : fdK ro K n b p sd wy 8 b = K 8 b - tot ro K n b p sd wy := by
  show (if b = b then K 8 b - sumN (prc ro K n b p sd wy) n else _) = _
  rw [if_pos rfl]
  rfl
/-- frames of days -/
def FC (s t : Hp) : Prop := ∀ P, ¬ (134 ≤ P ∧ P ≤ 143) → ¬ (42 ≤ P ∧ P ≤ 53) → t P = s P
def FM (M u : Hp) : Prop := (∀ P, P ≠ 146 → P ≠ 154 → P ≠ 155 → P ≠ 156 → P ≠ 157 → P ≠ 158 → u P = M P) ∧ (∀ q, q ≠ 18 → q ≠ 40 → q ≠ 41 → u 146 q = M 146 q) ∧ ∀ q, q < 10 ∨ 55 ≤ q → u 156 q = M 156 q
theorem FM_fd {M u v : Hp} (h : FM M u) (g : FD u v) : FM M v := ⟨fun P h1 h2 h3 h4 h5 h6 => (g.1 P h1 h2 h3 h4 h5 h6).trans (h.1 P h1 h2 h3 h4 h5 h6), fun q h1 h2 h3 => (g.2.1 q h1).trans (h.2.1 q h1 h2 h3), fun q hq => (g.2.2 q hq).trans (h.2.2 q hq)⟩
theorem FM_uh {M u : Hp} {q : Nat} {v : Int} (h : FM M u) (hq : q = 40 ∨ q = 41) : FM M (uh u 146 q v) := ⟨fun P h1 h2 h3 h4 h5 h6 => by rw [uh_row h1]; exact h.1 P h1 h2 h3 h4 h5 h6, fun i h1 h2 h3 => by rw [uh_ro _ _ _ _ (by omega)]; exact h.2.1 i h1 h2 h3, fun i hi => by rw [uh_row (by decide)]; exact h.2.2 i hi⟩
def DR (s M t u : Hp) (K : Nat → Nat → Int) (n m X cnt pd : Nat) : Prop :=
  WF K n m ∧ Cl t 135 K n m ∧ Rf (u 156) K n m ∧ t 134 1 = (X : Int) ∧ u 146 40 = (X : Int) ∧ X < 2147483648 ∧ t 134 2 = (cnt : Int) ∧ t 134 3 = (pd : Int) ∧ u 146 41 = (pd : Int) ∧ FC s t ∧ FM M u
section DA
variable {s M t u : Hp} {K : Nat → Nat → Int} {n m X cnt pd : Nat} {ln : Nat → Nat} {rs : Nat → Int} {ur : Int} {ro : Option (List Cls)}
theorem dr_step (hm : 0 < m) (hcr : CR ln s ur ro) (hrr : ∀ v, FM M v → RR v ro) (h : DR s M t u K n m X cnt pd) {k N a3 : Nat} (hk : k < N) (hN : N ≤ 30) : ∃ t' u' K' X' cnt' pd' e, xd_run_b19 ln rs t ur a3 (N : Int) (k : Int) = some (.inl (((k + 1 : Nat) : Int), t')) ∧ xm_foldsDrawn u = some (e, u') ∧ (e = 0 ∧ cnt' = cnt ∨ e = 1 ∧ cnt' = cnt + 1) ∧ pd' ≤ pd + 7992 ∧ DR s M t' u' K' n m X' cnt' pd' := by
  obtain ⟨W, hc, hf, x1, x2, hX, y1, y2, y3, fc, fm⟩ := h
  obtain ⟨w8, w4, w0, w2, wl, wz, wd0, wd9, wc, wj, wq⟩ := id W
  have hn0 : 0 < n := by
    cases Nat.eq_zero_or_pos n with
    | inl h => have := (w0 h).1; omega
    | inr h => exact h
  have hW1 := (w2 hn0).2
  unfold xd_run_b19 xm_foldsDrawn
  rw [w32_eq (x := (k : Int)) (by omega) (by omega), w32_eq (x := (N : Int)) (by omega) (by omega), if_pos (by omega), ix1 (by decide) (by decide), ix10 (by decide) (by decide)]
  simp only [obs]
  rw [dr_c (b := m) hc.2.1 x1 hX hm (by omega), dr_m (b := m) hf.2.1 x2 hX hm (by omega)]
  simp only [obs]
  have hb : nxX X / 65536 % m < m := Nat.mod_lt _ hm
  generalize nxX X / 65536 % m = b at hb
  have hX1 := nxX_lt X
  generalize nxX X = X1 at hX1
  have hc1 : Cl (uh t 134 1 (X1 : Int)) 135 K n m := Cl_row hc (fun i hi => uh_row (by omega))
  have hf1 : Rf (uh u 146 40 (X1 : Int) 156) K n m := by rw [uh_row (by decide)]; exact hf
  have fc1 : FC s (uh t 134 1 (X1 : Int)) := fun P h1 h2 => by rw [uh_row (by omega)]; exact fc P h1 h2
  have fm1 : FM M (uh u 146 40 (X1 : Int)) := FM_uh fm (Or.inl rfl)
  have wa : uh t 134 1 (X1 : Int) 135 2 = K 0 2 := hc1.2.2.1
  have wb : uh u 146 40 (X1 : Int) 156 10 = K 0 2 := hf1.2.2.1
  rw [wa, wb, w32_eq (x := K 0 2) (by omega) (by omega), show w32 1 = 1 by decide]
  by_cases hw : K 0 2 = 1
  · rw [if_pos hw, if_pos hw]
    obtain ⟨t2, o1, o2, o3⟩ := op_both hc1 W
    obtain ⟨u2, q1, q2, q3⟩ := rm_open hf1 W
    rw [o1, q1]
    simp only [obs]
    refine ⟨t2, u2, opK K n, X1, cnt, pd, 0, by rw [show ((k + 1 : Nat) : Int) = (k : Int) + 1 by omega], rfl, Or.inl ⟨rfl, rfl⟩, by omega, WF_op W, o2, q2, ?_, ?_, hX1, ?_, ?_, ?_, fun P h1 h2 => ?_, FM_fd fm1 (FD_sd q3)⟩
    · rw [o3 134 (by decide), uh_rc]
    · rw [q3.1 146 (by decide) (by decide), uh_rc]
    · rw [o3 134 (by decide), uh_ro _ _ _ _ (by decide)]; exact y1
    · rw [o3 134 (by decide), uh_ro _ _ _ _ (by decide)]; exact y2
    · rw [q3.1 146 (by decide) (by decide), uh_ro _ _ _ _ (by decide)]; exact y3
    · rw [o3 P (by omega)]; exact fc1 P h1 h2
  · rw [if_neg hw, if_neg hw]
    obtain ⟨Wd, hWd⟩ : ∃ x : Nat, K 0 2 = ((x + 1 : Nat) : Int) := ⟨(K 0 2 - 1).toNat, by omega⟩
    rw [dr_c (s := uh t 134 1 (X1 : Int)) (X := X1) (b := Wd) (by omega) (uh_rc _ _ _ _) hX1 (by omega) (by omega), dr_m (s := uh u 146 40 (X1 : Int)) (X := X1) (b := Wd) (by omega) (uh_rc _ _ _ _) hX1 (by omega) (by omega)]
    simp only [obs]
    have hp : nxX X1 / 65536 % Wd < Wd := Nat.mod_lt _ (by omega)
    generalize nxX X1 / 65536 % Wd = p at hp
    have hX2 := nxX_lt X1
    generalize nxX X1 = X2 at hX2
    rw [dr_c (s := uh (uh t 134 1 (X1 : Int)) 134 1 (X2 : Int)) (X := X2) (y := (2 : Int)) (b := 2) rfl (uh_rc _ _ _ _) hX2 (by decide) (by decide), dr_m (s := uh (uh u 146 40 (X1 : Int)) 146 40 (X2 : Int)) (X := X2) (y := (2 : Int)) (b := 2) rfl (uh_rc _ _ _ _) hX2 (by decide) (by decide)]
    simp only [obs]
    have hsd : nxX X2 / 65536 % 2 < 2 := Nat.mod_lt _ (by decide)
    generalize nxX X2 / 65536 % 2 = sd at hsd
    have hX3 := nxX_lt X2
    generalize nxX X2 = X3 at hX3
    rw [dr_c (s := uh (uh (uh t 134 1 (X1 : Int)) 134 1 (X2 : Int)) 134 1 (X3 : Int)) (X := X3) (y := (2 : Int)) (b := 2) rfl (uh_rc _ _ _ _) hX3 (by decide) (by decide), dr_m (s := uh (uh (uh u 146 40 (X1 : Int)) 146 40 (X2 : Int)) 146 40 (X3 : Int)) (X := X3) (y := (2 : Int)) (b := 2) rfl (uh_rc _ _ _ _) hX3 (by decide) (by decide)]
    simp only [obs]
    have hwy : nxX X3 / 65536 % 2 < 2 := Nat.mod_lt _ (by decide)
    generalize nxX X3 / 65536 % 2 = wy at hwy
    have hX4 := nxX_lt X3
    generalize nxX X3 = X4 at hX4
    generalize hT : uh (uh (uh (uh t 134 1 (X1 : Int)) 134 1 (X2 : Int)) 134 1 (X3 : Int)) 134 1 (X4 : Int) = T
    generalize hU : uh (uh (uh (uh u 146 40 (X1 : Int)) 146 40 (X2 : Int)) 146 40 (X3 : Int)) 146 40 (X4 : Int) = U
    have T0 : ∀ P, P ≠ 134 → T P = t P := fun P hP => by rw [← hT, uh_row hP, uh_row hP, uh_row hP, uh_row hP]
    have T1 : T 134 1 = (X4 : Int) := by rw [← hT, uh_rc]
    have T2 : ∀ q, q ≠ 1 → T 134 q = t 134 q := fun q hq => by rw [← hT, uh_ro _ _ _ _ hq, uh_ro _ _ _ _ hq, uh_ro _ _ _ _ hq, uh_ro _ _ _ _ hq]
    have U0 : ∀ P, P ≠ 146 → U P = u P := fun P hP => by rw [← hU, uh_row hP, uh_row hP, uh_row hP, uh_row hP]
    have U1 : U 146 40 = (X4 : Int) := by rw [← hU, uh_rc]
    have U2 : ∀ q, q ≠ 40 → U 146 q = u 146 q := fun q hq => by rw [← hU, uh_ro _ _ _ _ hq, uh_ro _ _ _ _ hq, uh_ro _ _ _ _ hq, uh_ro _ _ _ _ hq]
    have fcT : FC s T := fun P h1 h2 => by rw [T0 P (by omega)]; exact fc P h1 h2
    have fmU : FM M U := by rw [← hU]; exact FM_uh (FM_uh (FM_uh (FM_uh fm (Or.inl rfl)) (Or.inl rfl)) (Or.inl rfl)) (Or.inl rfl)
    have hcT : Cl T 135 K n m := Cl_row hc (fun i hi => T0 _ (by omega))
    have hfU : Rf (U 156) K n m := by rw [U0 156 (by decide)]; exact hf
    have hcode : 4 * (p : Int) + 2 * (sd : Int) + (wy : Int) = ((4 * p + 2 * sd + wy : Nat) : Int) := by omega
    have g1 : (4 * p + 2 * sd + wy) / 4 = p := by omega
    have g2 : (4 * p + 2 * sd + wy) / 2 % 2 = sd := by omega
    have g3 : (4 * p + 2 * sd + wy) % 2 = wy := by omega
    have hq := cl_quote (rs := rs) (f := 4 * p + 2 * sd + wy) hcT W (by unfold awayM; omega) (CR_row hcr (fun P hP => fcT P (by omega) (by omega))) hb (by omega)
    have hi := rm_isFolded (s := U) (ro := ro) (b := b) (f := 4 * p + 2 * sd + wy) hfU W (hrr U fmU) hb (by omega) (by rw [g1]; omega)
    rw [g1, g2, g3] at hq hi
    have hwb := wq b hb
    have ht0 := tot_bd (ro := ro) (b := b) (p := p) (sd := sd) (wy := wy) W
    rw [hcode, ixt (j := 51 + (b : Int)) (51 + b) (by omega) (by omega) (by decide)]
    simp only [obs]
    unfold xd_tryFold
    have no : ∀ T2' U2' : Hp, (∀ P, P ≠ 51 → P ≠ 52 → P ≠ 53 → T2' P = T P) → PK U U2' → DR s M T2' U2' K n m X4 cnt pd := fun T2' U2' h1 h2 => by
      refine ⟨W, Cl_row hcT (fun i hi => h1 _ (by omega) (by omega) (by omega)), ?_, ?_, ?_, hX4, ?_, ?_, ?_, fun P p1 p2 => ?_, FM_fd fmU (FD_pk h2)⟩
      · rw [h2.1 156 (by decide) (by decide) (by decide) (by decide)]; exact hfU
      · rw [h1 134 (by decide) (by decide) (by decide)]; exact T1
      · rw [h2.2 40 (by decide)]; exact U1
      · rw [h1 134 (by decide) (by decide) (by decide), T2 2 (by decide)]; exact y1
      · rw [h1 134 (by decide) (by decide) (by decide), T2 3 (by decide)]; exact y2
      · rw [h2.2 41 (by decide), U2 41 (by decide)]; exact y3
      · rw [h1 P (by omega) (by omega) (by omega)]; exact fcT P p1 p2
    by_cases hcn : canF (K 1) (K 3) (K 6) n p wy
    · obtain ⟨s1, q1, q2, q3⟩ := hq.2 hcn
      rw [q1, ixt (n := 4) (j := (b : Int)) b rfl (by omega) (by decide)]
      simp only [obs]
      rw [show s1 143 b = K 8 b from by rw [q2 143 (by decide) (by decide) (by decide)]; exact hcT.2.2.2.2.2.2.1 b hb, w32_eq (x := K 8 b) (by omega) (by omega), w32_eq (x := tot ro K n b p sd wy) (by omega) (by omega), show w32 (-2) = -2 by decide, if_neg (c := tot ro K n b p sd wy = -2) (by omega)]
      by_cases ht : tot ro K n b p sd wy ≤ K 8 b
      · rw [if_neg (by omega)]
        obtain ⟨s4, o1, o2, o3⟩ := cl_settle (s := s1) (a := 135) (ro := ro) (b := b) (f := 4 * p + 2 * sd + wy) (Cl_row hcT (fun i hi => q2 _ (by omega) (by omega) (by omega))) W (by unfold away2; omega) hb (by omega) (by rw [g1]; omega) (fun i hi => by rw [g1, g2, g3]; exact q3 i hi) (by rw [g1, g2, g3]; exact ht)
        obtain ⟨u4, r1, r2, r3⟩ := hi.2 ⟨hcn, ht⟩
        rw [g1, g2, g3] at o2
        rw [o1, r1]
        simp only [obs]
        have e134 : s4 134 = T 134 := by rw [o3 134 (by decide) (by decide), q2 134 (by decide) (by decide) (by decide)]
        have ep : u4 156 (51 + b) = K 8 b - tot ro K n b p sd wy := by rw [r2.2.2.2.2.2.2 b hb, fdK_8]
        have eh : uh (uh (uh u 146 40 (X1 : Int)) 146 40 (X2 : Int)) 146 40 (X3 : Int) 156 (51 + b) = K 8 b := by
          rw [uh_row (by decide), uh_row (by decide), uh_row (by decide)]
          exact hf.2.2.2.2.2.2 b hb
        have eh2 : U 156 (51 + b) = K 8 b := hfU.2.2.2.2.2.2 b hb
        rw [if_neg (by decide)]
        simp only [eh2, ep]
        refine ⟨_, _, fdK ro K n b p sd wy, X4, cnt + 1, pd + (tot ro K n b p sd wy).toNat, 1, by rw [show ((k + 1 : Nat) : Int) = (k : Int) + 1 by omega], rfl, Or.inr ⟨rfl, rfl⟩, by omega, WF_fd W hb (by omega) hsd ht, ?_, ?_, ?_, ?_, hX4, ?_, ?_, ?_, fun P p1 p2 => ?_, ?_⟩
        · exact Cl_row o2 (fun i hi => by rw [uh_row (by omega), uh_row (by omega)])
        · rw [uh_row (by decide)]; exact r2
        · rw [uh_ro _ _ _ _ (by decide), uh_ro _ _ _ _ (by decide), e134]; exact T1
        · rw [uh_ro _ _ _ _ (by decide), r3.2.1 40 (by decide)]; exact U1
        · rw [uh_ro _ _ _ _ (by decide), uh_rc, e134, T2 2 (by decide), y1]; omega
        · rw [uh_rc, uh_ro _ _ _ _ (by decide), e134, T2 3 (by decide), y2]; omega
        · rw [uh_rc, r3.2.1 41 (by decide), U2 41 (by decide), y3]; omega
        · rw [uh_row (by omega), uh_row (by omega), o3 P (by omega) (by omega), q2 P (by omega) (by omega) (by omega)]; exact fcT P p1 p2
        · exact FM_uh (FM_fd fmU r3) (Or.inr rfl)
      · rw [if_pos (by omega)]
        obtain ⟨u4, r1, r2⟩ := hi.1 (fun q => ht q.2)
        rw [r1]
        simp only [obs]
        rw [if_pos (by decide)]
        exact ⟨s1, u4, K, X4, cnt, pd, 0, by rw [show ((k + 1 : Nat) : Int) = (k : Int) + 1 by omega], rfl, Or.inl ⟨rfl, rfl⟩, by omega, no s1 u4 q2 r2⟩
    · rw [hq.1 hcn]
      simp only [obs]
      rw [if_pos trivial]
      obtain ⟨u4, r1, r2⟩ := hi.1 (fun q => hcn q.1)
      rw [r1]
      simp only [obs]
      rw [if_pos (by decide)]
      exact ⟨T, u4, K, X4, cnt, pd, 0, by rw [show ((k + 1 : Nat) : Int) = (k : Int) + 1 by omega], rfl, Or.inl ⟨rfl, rfl⟩, by omega, no T u4 (fun _ _ _ _ => rfl) r2⟩
end DA
