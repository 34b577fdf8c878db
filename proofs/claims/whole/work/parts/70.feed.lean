/-! feed -/
theorem bAnd255 (y : Int) : bAnd y 255 = y % 256 := by
  have h1 : (Int32.ofInt y).toBitVec.toNat = (y % 4294967296).toNat := by
    show (BitVec.ofInt 32 y).toNat = _
    rw [BitVec.toNat_ofInt]
    rfl
  have h2 : (Int32.ofInt y &&& Int32.ofInt 255).toBitVec.toNat = (y % 256).toNat := by
    rw [Int32.toBitVec_and, BitVec.toNat_and, h1, show (Int32.ofInt 255).toBitVec.toNat = 2 ^ 8 - 1 from rfl, Nat.and_two_pow_sub_one_eq_mod]
    omega
  have h3 := bv_i h2 (by omega)
  show (Int32.ofInt y &&& Int32.ofInt 255).toInt = _
  rw [h3]
  omega
theorem w8_m {x y : Int} (h : x % 256 = y % 256) : w8 x = w8 y := by
  unfold w8
  rw [Int8.toInt_ofInt, Int8.toInt_ofInt]
  have h : x % ((256 : Nat) : Int) = y % ((256 : Nat) : Int) := h
  show x.bmod 256 = y.bmod 256
  rw [← Int.emod_bmod, h, Int.emod_bmod]
theorem w8_8 (x : Int) : w8 (w8 x) = w8 x := by
  show (Int8.ofInt (Int8.ofInt x).toInt).toInt = _
  rw [Int8.ofInt_toInt]
  rfl
theorem sh32 : ∀ k : Nat, k < 32 → (((Int32.ofInt (k : Int)).toUInt32 &&& Int32.toUInt32 31).toNat % 32) = k := by decide +kernel
theorem usr_n (x : Int) {k : Nat} (hk : k < 32) : bUsr x (k : Int) % 256 = (((x % 4294967296).toNat / 2 ^ k : Nat) : Int) % 256 := by
  have h1 : (Int32.ofInt x).toUInt32.toNat = (x % 4294967296).toNat := by
    show (BitVec.ofInt 32 x).toNat = _
    rw [BitVec.toNat_ofInt]
    rfl
  have h2 : ((Int32.ofInt x).toUInt32 >>> ((Int32.ofInt (k : Int)).toUInt32 &&& Int32.toUInt32 31)).toNat = (x % 4294967296).toNat / 2 ^ k := by
    rw [UInt32.toNat_shiftRight, sh32 k hk, h1, Nat.shiftRight_eq_div_pow]
  generalize hz : (Int32.ofInt x).toUInt32 >>> ((Int32.ofInt (k : Int)).toUInt32 &&& Int32.toUInt32 31) = z at h2
  have h3 : bUsr x (k : Int) = z.toBitVec.toInt := by rw [← hz]; rfl
  have h4 : z.toBitVec.toNat = (x % 4294967296).toNat / 2 ^ k := h2
  rw [h3, BitVec.toInt_eq_toNat_cond, h4]
  split
  · rfl
  · show ((((x % 4294967296).toNat / 2 ^ k : Nat) : Int) - ((2 ^ 32 : Nat) : Int)) % 256 = _
    generalize (x % 4294967296).toNat / 2 ^ k = y
    omega
theorem byte_k {x : Int} {k : Nat} (hk : k = 0 ∨ k = 8 ∨ k = 16 ∨ k = 24) : 0 ≤ bAnd (bUsr x (k : Int)) 255 ∧ bAnd (bUsr x (k : Int)) 255 ≤ 255 ∧ w8 (w8 (bShr x (k : Int))) = w8 (bAnd (bUsr x (k : Int)) 255) := by
  have h1 := usr_n x (k := k) (by omega)
  rw [bAnd255, w8_8]
  refine ⟨by omega, by omega, w8_m ?_⟩
  have hw : w32 x = x % 4294967296 ∨ w32 x = x % 4294967296 - 4294967296 := by
    show (BitVec.ofInt 32 x).toInt = _ ∨ (BitVec.ofInt 32 x).toInt = _
    rw [BitVec.toInt_eq_toNat_cond, BitVec.toNat_ofInt]
    have e : ((x % ((2 ^ 32 : Nat) : Int)).toNat : Int) = x % 4294967296 := by
      show ((x % 4294967296).toNat : Int) = _
      omega
    split
    · left; exact e
    · right; rw [e]; rfl
  rw [bShr_i x (by omega), Int.emod_emod_of_dvd _ (by decide : (256 : Int) ∣ 256), h1]
  rcases hk with rfl | rfl | rfl | rfl <;> rcases hw with hw | hw <;> rw [hw] <;> omega
section FE
variable {s M : Hp}
theorem fe_step {x : Int} {k z : Nat} (hk : k = 0 ∨ k = 8 ∨ k = 16 ∨ k = 24) (ht : TapeR s M) (hz : s 1 1 = (z : Int)) (h4 : z < 400) : ∃ s1 M1, xt_append_b3 s x (k : Int) = some (.inl ((k : Int) + (-8), s1)) ∧ xm_four_b3 M x (k : Int) = some (.inl ((k : Int) + (-8), M1)) ∧ TapeR s1 M1 ∧ s1 1 1 = ((z + 1 : Nat) : Int) ∧ (∀ P, P ≠ 1 → P ≠ 2 → s1 P = s P) ∧ (∀ P, P ≠ 146 → P ≠ 147 → M1 P = M P) ∧ ∀ q, q ≠ 1 → M1 146 q = M 146 q := by
  obtain ⟨t1, t2, t3, t4⟩ := ht
  obtain ⟨b1, b2, b3⟩ := byte_k (x := x) hk
  have hz2 : M 146 1 = (z : Int) := by rw [← t1]; exact hz
  unfold xt_append_b3 xm_four_b3
  rw [hz, hz2, ixt (j := (z : Int)) z rfl h4 (by decide), w32_eq (x := (k : Int)) (by omega) (by omega), w32_eq (x := (z : Int)) (by omega) (by omega), show w32 400 = 400 by decide]
  simp only [eq_false (show ¬ (k : Int) < 0 by omega), eq_true (show (z : Int) < 400 by omega), if_false, if_true, obs]
  rw [uh_row (p := 1) (a := 2) (by decide), uh_row (p := 146) (a := 147) (by decide), hz, hz2]
  refine ⟨_, _, rfl, rfl, ⟨by rw [uh_rc, uh_rc], by rw [uh_rc]; omega, by rw [uh_rc]; omega, fun i hi => ?_⟩, uh_rc _ _ _ _, fun P p1 p2 => by rw [uh_row p1, uh_row p2], fun P p1 p2 => by rw [uh_row p1, uh_row p2], fun q hq => by rw [uh_ro _ _ _ _ hq, uh_row (by decide)]⟩
  rw [uh_rc] at hi
  rw [uh_row (p := 2) (a := 1) (by decide), uh_row (p := 147) (a := 146) (by decide)]
  by_cases hiz : i = z
  · subst hiz
    rw [uh_rc, uh_rc]
    exact ⟨b1, b2, b3⟩
  · rw [uh_ro _ _ _ _ hiz, uh_ro _ _ _ _ hiz]
    exact t4 i (by omega)
theorem fe_four {x : Int} {z : Nat} (ht : TapeR s M) (hz : s 1 1 = (z : Int)) (h4 : z ≤ 396) : ∃ s1 M1, xt_append s x = some s1 ∧ xm_four M x = some M1 ∧ TapeR s1 M1 ∧ s1 1 1 = ((z + 4 : Nat) : Int) ∧ (∀ P, P ≠ 1 → P ≠ 2 → s1 P = s P) ∧ (∀ P, P ≠ 146 → P ≠ 147 → M1 P = M P) ∧ ∀ q, q ≠ 1 → M1 146 q = M 146 q := by
  obtain ⟨sa, Ma, a1, a2, a3, a4, a5, a6, a7⟩ := fe_step (x := x) (k := 24) (by decide) ht hz (by omega)
  obtain ⟨sb, Mb, b1, b2, b3, b4, b5, b6, b7⟩ := fe_step (x := x) (k := 16) (by decide) a3 a4 (by omega)
  obtain ⟨sc, Mc, c1, c2, c3, c4, c5, c6, c7⟩ := fe_step (x := x) (k := 8) (by decide) b3 b4 (by omega)
  obtain ⟨sd, Md, d1, d2, d3, d4, d5, d6, d7⟩ := fe_step (x := x) (k := 0) (by decide) c3 c4 (by omega)
  have d1 : xt_append_b3 sc x 0 = some (.inl (-8, sd)) := by
    rw [show ((0 : Nat) : Int) = 0 from rfl, show (0 : Int) + (-8) = -8 by decide] at d1; exact d1
  have d2 : xm_four_b3 Mc x 0 = some (.inl (-8, Md)) := by
    rw [show ((0 : Nat) : Int) = 0 from rfl, show (0 : Int) + (-8) = -8 by decide] at d2; exact d2
  refine ⟨sd, Md, ?_, ?_, d3, d4, fun P p1 p2 => by rw [d5 P p1 p2, c5 P p1 p2, b5 P p1 p2, a5 P p1 p2], fun P p1 p2 => by rw [d6 P p1 p2, c6 P p1 p2, b6 P p1 p2, a6 P p1 p2], fun q hq => by rw [d7 q hq, c7 q hq, b7 q hq, a7 q hq]⟩
  · unfold xt_append
    rw [lp_in (B := fun (q : Int × Hp) => xt_append_b3 q.2 x q.1) (s := (24, s)) (s1 := (16, sa)) a1, lp_in (B := fun (q : Int × Hp) => xt_append_b3 q.2 x q.1) (s := (16, sa)) (s1 := (8, sb)) b1, lp_in (B := fun (q : Int × Hp) => xt_append_b3 q.2 x q.1) (s := (8, sb)) (s1 := (0, sc)) c1, lp_in (B := fun (q : Int × Hp) => xt_append_b3 q.2 x q.1) (s := (0, sc)) (s1 := (-8, sd)) d1, lp_en (B := fun (q : Int × Hp) => xt_append_b3 q.2 x q.1) (s := (-8, sd)) (r := (-8, sd)) (by show xt_append_b3 sd x (-8) = _; unfold xt_append_b3; rw [if_pos (by decide)])]
    rfl
  · unfold xm_four
    rw [lp_in (B := fun (q : Int × Hp) => xm_four_b3 q.2 x q.1) (s := (24, M)) (s1 := (16, Ma)) a2, lp_in (B := fun (q : Int × Hp) => xm_four_b3 q.2 x q.1) (s := (16, Ma)) (s1 := (8, Mb)) b2, lp_in (B := fun (q : Int × Hp) => xm_four_b3 q.2 x q.1) (s := (8, Mb)) (s1 := (0, Mc)) c2, lp_in (B := fun (q : Int × Hp) => xm_four_b3 q.2 x q.1) (s := (0, Mc)) (s1 := (-8, Md)) d2, lp_en (B := fun (q : Int × Hp) => xm_four_b3 q.2 x q.1) (s := (-8, Md)) (r := (-8, Md)) (by show xm_four_b3 Md x (-8) = _; unfold xm_four_b3; rw [if_pos (by decide)])]
    rfl
end FE
theorem call_0 {n : Nat} {w : pm_H} (hn : n < 512) (h : Inv n w) (a1 a2 a3 a4 a5 : Int32) : ob_ok 0 [a1, a2, a3, a4, a5] w (Inv (n + 1)) := by
  obtain ⟨sh, ln, s, M, ib, ds, rel⟩ := h
  obtain ⟨tp, -⟩ := id rel
  have key : ∃ r s1 M1, xf_feed s a1.toInt a2.toInt a3.toInt a4.toInt a5.toInt = some (r, s1) ∧ xm_feed M a1.toInt a2.toInt a3.toInt a4.toInt a5.toInt = some (r, M1) ∧ REL ln s1 M1 ∧ s1 15 = s 15 ∧ s1 38 = s 38 ∧ s1 40 = s 40 := by
    obtain ⟨t1, t2, t3, t4⟩ := id tp
    obtain ⟨z, hz⟩ : ∃ z : Nat, s 1 1 = (z : Int) := ⟨(s 1 1).toNat, by omega⟩
    unfold xf_feed xm_feed
    rw [← t1, hz, show w32 380 = 380 by decide, show w32 400 = 400 by decide, w32_eq (x := (z : Int)) (by omega) (by omega), w32_eq (x := (z : Int) + 20) (by omega) (by omega)]
    by_cases q : 380 < (z : Int)
    · rw [if_pos q, if_pos (by omega)]
      exact ⟨-1, s, M, rfl, rfl, rel, rfl, rfl, rfl⟩
    · rw [if_neg q, if_neg (by omega)]
      obtain ⟨sa, Ma, e1, e2, e3, e4, e5, e6, e7⟩ := fe_four (x := a1.toInt) tp hz (by omega)
      obtain ⟨sb, Mb, f1, f2', f3, f4, f5, f6, f7⟩ := fe_four (x := a2.toInt) e3 e4 (by omega)
      obtain ⟨sc, Mc, g1, g2, g3, g4, g5, g6, g7⟩ := fe_four (x := a3.toInt) f3 f4 (by omega)
      obtain ⟨sd, Md, h1, h2, h3, h4, h5, h6, h7⟩ := fe_four (x := a4.toInt) g3 g4 (by omega)
      obtain ⟨se, Me, i1, i2, i3, i4, i5, i6, i7⟩ := fe_four (x := a5.toInt) h3 h4 (by omega)
      rw [e1, e2]; simp only [obs]
      rw [f1, f2']; simp only [obs]
      rw [g1, g2]; simp only [obs]
      rw [h1, h2]; simp only [obs]
      rw [i1, i2]; simp only [obs]
      have rs : ∀ P, P ≠ 1 → P ≠ 2 → se P = s P := fun P p1 p2 => by rw [i5 P p1 p2, h5 P p1 p2, g5 P p1 p2, f5 P p1 p2, e5 P p1 p2]
      have rM : ∀ P, P ≠ 146 → P ≠ 147 → Me P = M P := fun P p1 p2 => by rw [i6 P p1 p2, h6 P p1 p2, g6 P p1 p2, f6 P p1 p2, e6 P p1 p2]
      have rq : ∀ q, q ≠ 1 → Me 146 q = M 146 q := fun q hq => by rw [i7 q hq, h7 q hq, g7 q hq, f7 q hq, e7 q hq]
      refine ⟨se 1 1, se, Me, rfl, by rw [i3.1], ?_, rs 15 (by decide) (by decide), rs 38 (by decide) (by decide), rs 40 (by decide) (by decide)⟩
      exact REL_tape rel (fun P _ p1 p2 => rs P p1 p2) (rs 130 (by decide) (by decide)) (fun P p1 p2 => rM P (by unfold VM at p1; omega) p2) rq i3
  obtain ⟨r, s1, M1, e1, e2, e3, e4, e5, e6⟩ := key
  exact ob_na (args := [.int (Int32.ofInt a1.toInt), .int (Int32.ofInt a2.toInt), .int (Int32.ofInt a3.toInt), .int (Int32.ofInt a4.toInt), .int (Int32.ofInt a5.toInt)]) hn rfl (by rw [← vi, ← vi, ← vi, ← vi, ← vi]; rfl) ib (fun P kr => xf_feed_ok (w0 := w) ib.2.2.1 ⟨ib.1, Fr_rf⟩ e1 (fun w1 h1 => kr w1 h1)) (fun w1 h1 P kr => xm_feed_ok (w0 := w1) StM_M ⟨h1, Fr_rf⟩ e2 (fun w2 h2 => kr w2 h2)) (DS_cg ds e4 e5 e6) e3
