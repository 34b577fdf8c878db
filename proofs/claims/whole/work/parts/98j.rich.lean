/-! richest -/
def bsT (T : Nat → Nat) : Nat → Nat
  | 0 => 0
  | i + 1 => if T (bsT T i) < T (i + 1) then i + 1 else bsT T i
theorem bsT_le (T : Nat → Nat) : ∀ i, bsT T i ≤ i
  | 0 => Nat.le_refl 0
  | i + 1 => by
    have := bsT_le T i
    show (if T (bsT T i) < T (i + 1) then i + 1 else bsT T i) ≤ i + 1
    split <;> omega
theorem bsT_0 {T : Nat → Nat} {N : Nat} (h : ∀ i, N < i → i < 128 → T i = 0) : ∀ k, N + k < 128 → bsT T (N + k) = bsT T N
  | 0, _ => rfl
  | k + 1, hk => by
    have ih := bsT_0 h k (by omega)
    show (if T (bsT T (N + k)) < T (N + k + 1) then N + k + 1 else bsT T (N + k)) = _
    rw [h (N + k + 1) (by omega) (by omega), if_neg (Nat.not_lt_zero _)]
    exact ih
section RI
variable {s : Hp} {c : Nat}
theorem bk_rich (bo : BookR s) (h2 : 2 ≤ c) (c8 : c ≤ 8) : ∃ t, xb_richestHills s (c : Int) = some (((bsT (fun h => (refL c).countP (fun x => Nat.beq (x % 128) h)) 127 : Nat) : Int), t) ∧ (∀ h, h < 128 → t 133 h = (((refL c).countP (fun x => Nat.beq (x % 128) h) : Nat) : Int)) ∧ (∀ P, P ≠ 130 → P ≠ 131 → P ≠ 132 → P ≠ 133 → t P = s P) ∧ BookR t := by
  obtain ⟨pm, -⟩ := stk_perm h2 c8
  have hlen := stk_len h2 c8
  have hlr : (refL c).length ≤ 1392 := by rw [← pm.length_eq]; exact hlen
  unfold xb_richestHills
  obtain ⟨a, a1, a2, a3, a4, a5⟩ := bk_rows bo h2 c8
  rw [a1]
  simp only [obs]
  obtain ⟨b, b1, b2, b3⟩ := bk_clear (s := a)
  rw [b1]
  simp only [obs]
  obtain ⟨r, e1, e2, e3⟩ := lp_forR (B := fun (q : Int × Hp) => xb_richestHills_b11 q.2 q.1) (fun i (q : Int × Hp) => q.1 = (i : Int) ∧ (∀ h, h < 128 → q.2 133 h = (((tkL (stkL c) i).countP (fun x => Nat.beq (x % 128) h) : Nat) : Int)) ∧ ∀ P, P ≠ 133 → q.2 P = b P) (stkL c).length (fun q : Int × Hp => (∀ h, h < 128 → q.2 133 h = (((stkL c).countP (fun x => Nat.beq (x % 128) h) : Nat) : Int)) ∧ ∀ P, P ≠ 133 → q.2 P = b P) (by
    rintro i ⟨z, t⟩ hi ⟨j1, j2, j3⟩
    replace j1 : z = (i : Int) := j1
    replace j2 : ∀ h, h < 128 → t 133 h = (((tkL (stkL c) i).countP (fun x => Nat.beq (x % 128) h) : Nat) : Int) := j2
    replace j3 : ∀ P, P ≠ 133 → t P = b P := j3
    subst j1
    have hbd := stk_bd h2 c8 (gd_mem hi)
    have et : t 131 i = (((stkL c).getD i 0 : Nat) : Int) := by rw [j3 131 (by decide), b2 131 (by decide)]; exact a5 i hi
    have en : t 130 1 = ((stkL c).length : Int) := by rw [j3 130 (by decide), b2 130 (by decide)]; exact a4
    have tks := tk_s (l := stkL c) (i := i)
    generalize (stkL c).getD i 0 = x at hbd et tks
    have hm : x % 128 < 128 := Nat.mod_lt _ (by decide)
    have ea : bAnd (x : Int) 127 = ((x % 128 : Nat) : Int) := by
      rw [show (127 : Int) = ((127 : Nat) : Int) from rfl, bAnd_n hbd.1 (by decide)]
      exact congrArg (fun z : Nat => ((z : Nat) : Int)) (Nat.and_two_pow_sub_one_eq_mod x 7)
    show ∃ q1, xb_richestHills_b11 t (i : Int) = some (Sum.inl q1) ∧ _
    unfold xb_richestHills_b11
    rw [en, w32_eq (x := (i : Int)) (by omega) (by omega), w32_eq (x := ((stkL c).length : Int)) (by omega) (by omega), if_pos (by omega), ixt (n := 1392) (j := (i : Int)) i rfl (by omega) (by decide)]
    simp only [obs]
    rw [et, ea, ixt (n := 128) (j := ((x % 128 : Nat) : Int)) (x % 128) rfl hm (by decide)]
    simp only [obs]
    refine ⟨_, rfl, by show (i : Int) + 1 = _; omega, fun h hh => ?_, fun P hP => ?_⟩
    · show uh t 133 (x % 128) (t 133 (x % 128) + 1) 133 h = _
      rw [tks, cnt1]
      by_cases hx : h = x % 128
      · rw [hx, uh_rc, j2 _ hm, if_pos (Nat.beq_refl _)]
        omega
      · rw [uh_ro _ _ _ _ hx, j2 h hh, if_neg (by rw [bq_f (fun e => hx e.symm)]; decide)]
        rfl
    · show uh t 133 (x % 128) (t 133 (x % 128) + 1) P = _
      rw [uh_row hP]; exact j3 P hP) (by
    rintro ⟨z, t⟩ ⟨j1, j2, j3⟩
    replace j1 : z = ((stkL c).length : Int) := j1
    replace j3 : ∀ P, P ≠ 133 → t P = b P := j3
    rw [tk_all] at j2
    subst j1
    refine ⟨_, ?_, j2, j3⟩
    show xb_richestHills_b11 t ((stkL c).length : Int) = _
    unfold xb_richestHills_b11
    rw [j3 130 (by decide), b2 130 (by decide), a4, if_neg (by omega)]) (s := (0, b)) ⟨rfl, fun h hh => b3 h hh, fun _ _ => rfl⟩
  obtain ⟨z, t⟩ := r
  replace e2 : ∀ h, h < 128 → t 133 h = (((stkL c).countP (fun x => Nat.beq (x % 128) h) : Nat) : Int) := e2
  replace e3 : ∀ P, P ≠ 133 → t P = b P := e3
  rw [e1]
  simp only [obs]
  have e4 : ∀ h, h < 128 → t 133 h = (((refL c).countP (fun x => Nat.beq (x % 128) h) : Nat) : Int) := fun h hh => by rw [e2 h hh, pm.countP_eq]
  have hTb : ∀ h, (refL c).countP (fun x => Nat.beq (x % 128) h) ≤ 1392 := fun h => Nat.le_trans List.countP_le_length hlr
  have e4o := e4
  have hTo := hTb
  clear e4 hTb
  generalize hT : (fun h => (refL c).countP (fun x => Nat.beq (x % 128) h)) = T
  have e4 : ∀ h, h < 128 → t 133 h = ((T h : Nat) : Int) := fun h hh => by rw [← hT]; exact e4o h hh
  have hTb : ∀ h, T h ≤ 1392 := fun h => by rw [← hT]; exact hTo h
  have eb : lp (fun (q : Int × Int) => xb_richestHills_b47 t q.1 q.2) (0, 1) = some (((bsT T 127 : Nat) : Int), ((127 : Nat) : Int) + 1) := by
    refine lp_for (fun i => (((bsT T i : Nat) : Int), (i : Int) + 1)) 127 rfl (fun i hi => ?_) ?_
    · have hbl := bsT_le T i
      have t1 := hTb (i + 1)
      have t2 := hTb (bsT T i)
      show xb_richestHills_b47 t ((bsT T i : Nat) : Int) ((i : Int) + 1) = _
      unfold xb_richestHills_b47
      rw [w32_eq (x := (i : Int) + 1) (by omega) (by omega), if_pos (by rw [show w32 128 = 128 by decide]; omega), ixt (n := 128) (j := (i : Int) + 1) (i + 1) (by omega) (by omega) (by decide), ixt (n := 128) (j := ((bsT T i : Nat) : Int)) (bsT T i) rfl (by omega) (by decide)]
      simp only [obs]
      have x1 := e4 (i + 1) (by omega)
      have x2 := e4 (bsT T i) (by omega)
      rw [x1, x2, w32_eq (x := ((T (i + 1) : Nat) : Int)) (by omega) (by omega), w32_eq (x := ((T (bsT T i) : Nat) : Int)) (by omega) (by omega)]
      have eb : bsT T (i + 1) = if T (bsT T i) < T (i + 1) then i + 1 else bsT T i := rfl
      rw [eb, show ((i + 1 : Nat) : Int) = (i : Int) + 1 by omega]
      by_cases hl : T (bsT T i) < T (i + 1)
      · rw [if_pos (by omega), if_pos hl, show ((i + 1 : Nat) : Int) = (i : Int) + 1 by omega]
      · rw [if_neg (by omega), if_neg hl]
    · show xb_richestHills_b47 t ((bsT T 127 : Nat) : Int) (((127 : Nat) : Int) + 1) = _
      unfold xb_richestHills_b47
      rw [if_neg (by decide)]
  rw [eb]
  refine ⟨t, rfl, e4o, fun P p1 p2 p3 p4 => by rw [e3 P p4, b2 P p4, a2 P p1 p2 p3], c, ?_, c8, fun _ => ⟨?_, fun i hi => ?_⟩⟩
  · rw [e3 130 (by decide), b2 130 (by decide)]; exact a3
  · rw [e3 130 (by decide), b2 130 (by decide)]; exact a4
  · rw [e3 131 (by decide), b2 131 (by decide)]; exact a5 i hi
theorem rm_rich {v : Hp} {T : Nat → Nat} {x1 : Int} (hc : v 156 0 = (c : Int)) (h2 : 2 ≤ c) (c8 : c ≤ 8) (hT : ∀ h, h < 128 → v 167 h = ((T h : Nat) : Int)) (hTb : ∀ h, T h ≤ 1392) : ∃ z, lp (fun (q : Int × Int) => xm_richest_b27 v x1 q.1 q.2) (0, 1) = some (((bsT T (2 ^ (c - 1) - 1) : Nat) : Int), z) := by
  have h7 : 2 ^ (c - 1) ≤ 2 ^ 7 := Nat.pow_le_pow_right (by decide) (by omega)
  have h1 : 0 < 2 ^ (c - 1) := Nat.two_pow_pos _
  have esh : bShl 1 ((c : Int) - 1) = ((2 ^ (c - 1) : Nat) : Int) := by
    rw [show (c : Int) - 1 = ((c - 1 : Nat) : Int) by omega]
    have := bShl_n (x := 1) (k := c - 1) (by omega) (by omega)
    rw [Nat.one_mul] at this
    exact this
  generalize 2 ^ (c - 1) = B at h7 h1 esh
  refine ⟨((B - 1 : Nat) : Int) + 1, lp_for (fun i => (((bsT T i : Nat) : Int), (i : Int) + 1)) (B - 1) rfl (fun i hi => ?_) ?_⟩
  · have hbl := bsT_le T i
    have t1 := hTb (i + 1)
    have t2 := hTb (bsT T i)
    show xm_richest_b27 v x1 ((bsT T i : Nat) : Int) ((i : Int) + 1) = _
    unfold xm_richest_b27
    rw [ix0 (by decide) (by decide), ixt (n := 128) (j := (i : Int) + 1) (i + 1) (by omega) (by omega) (by decide), ixt (n := 128) (j := ((bsT T i : Nat) : Int)) (bsT T i) rfl (by omega) (by decide)]
    simp only [obs]
    rw [hc, esh, w32_eq (x := (i : Int) + 1) (by omega) (by omega), w32_eq (x := ((B : Nat) : Int)) (by omega) (by omega), if_pos (by omega), hT (i + 1) (by omega), hT (bsT T i) (by omega), w32_eq (x := ((T (i + 1) : Nat) : Int)) (by omega) (by omega), w32_eq (x := ((T (bsT T i) : Nat) : Int)) (by omega) (by omega)]
    have eb : bsT T (i + 1) = if T (bsT T i) < T (i + 1) then i + 1 else bsT T i := rfl
    rw [eb, show ((i + 1 : Nat) : Int) = (i : Int) + 1 by omega]
    by_cases hl : T (bsT T i) < T (i + 1)
    · rw [if_pos (by omega), if_pos hl, show ((i + 1 : Nat) : Int) = (i : Int) + 1 by omega]
    · rw [if_neg (by omega), if_neg hl]
  · show xm_richest_b27 v x1 ((bsT T (B - 1) : Nat) : Int) (((B - 1 : Nat) : Int) + 1) = _
    unfold xm_richest_b27
    rw [ix0 (by decide) (by decide)]
    simp only [obs]
    rw [hc, esh, w32_eq (x := ((B - 1 : Nat) : Int) + 1) (by omega) (by omega), w32_eq (x := ((B : Nat) : Int)) (by omega) (by omega), if_neg (by omega)]
end RI
section RIC
variable {n : Nat} {w : pm_H}
theorem call_19 (hn : n < 512) (h : Inv n w) (a1 a2 a3 a4 a5 : Int32) : ob_ok 19 [a1, a2, a3, a4, a5] w (Inv (n + 1)) := by
  obtain ⟨sh, ln, s, M, ib, ds, rel⟩ := h
  obtain ⟨tp, ru, ⟨K, c, m, sr, pa⟩, im, bo, le⟩ := id rel
  have bp := bi a1
  have key : ∃ r s1 M1, xf_richest s a1.toInt = some (r, s1) ∧ xm_richest M a1.toInt = some (r, M1) ∧ SameB s s1 ∧ SameM M M1 := by
    generalize a1.toInt = p at bp
    have W := sr.1
    obtain ⟨w8, w4, w0, w2, wl, wz, -⟩ := id W
    have smr : SameM M M := ⟨fun _ _ => rfl, rfl, rfl, rfl, rfl, rfl⟩
    unfold xf_richest xm_richest
    rw [rm_isCloth sr.2.2.1 W, w32_eq (x := p) bp.1 bp.2, rm_in (v := p) (by omega) (by omega) (by omega) (by omega) (by omega) (by omega), show s 17 0 = (c : Int) from sr.2.1.1, w32_eq (x := (c : Int)) (by omega) (by omega), show w32 1 = 1 by decide]
    simp only [obs, tb0]
    by_cases c1 : (0 ≤ p ∧ p ≤ 1) ∧ 0 < c
    · obtain ⟨d3, d4⟩ := c1
      have h2 := (w2 d4).1
      rw [if_neg (c := p < 0) (by omega), if_neg (c := 1 < p) (by omega), if_neg (c := (c : Int) = 0) (by omega), if_neg (c := ¬ 0 < c) (fun k => k d4), if_neg (c := ¬ (0 ≤ p ∧ p ≤ 1)) (fun k => k d3)]
      have hmkM : ∀ j, j + 1 < c → M 156 (82 + j) = (fun j => M 156 (82 + j)) j ∧ 0 ≤ (fun j => M 156 (82 + j)) j ∧ (fun j => M 156 (82 + j)) j ≤ 2 := fun j hj => ⟨rfl, (sr.2.2.2.2.2.1 j hj).2⟩
      obtain ⟨t, t1, t2, t3, t5⟩ := bk_rich bo h2 w8
      obtain ⟨v, v1, v2, v3⟩ := fs_all (M := M) (c := c) (mk := fun j => M 156 (82 + j)) sr.2.2.1.1 h2 w8 hmkM
      have v156 : v 156 0 = (c : Int) := by rw [v3.1 156 (by decide) (by decide) (by decide) (by decide) (by decide) (by decide)]; exact sr.2.2.1.1
      have hlen : (refL c).length ≤ 1392 := by rw [← (stk_perm h2 w8).1.length_eq]; exact stk_len h2 w8
      have hTb : ∀ h, (refL c).countP (fun x => Nat.beq (x % 128) h) ≤ 1392 := fun h => Nat.le_trans List.countP_le_length hlen
      have h7 : 2 ^ (c - 1) ≤ 2 ^ 7 := Nat.pow_le_pow_right (by decide) (by omega)
      have hz : ∀ h, 2 ^ (c - 1) - 1 < h → h < 128 → (refL c).countP (fun x => Nat.beq (x % 128) h) = 0 := fun h hh _ => by
        rw [List.countP_eq_zero]
        intro x hx q
        have := (ref_bd h2 w8 hx).2
        have := bq_t q
        omega
      have v167 := v2.2.1
      rw [t1, v1]
      simp only [obs]
      generalize hT : (fun h => (refL c).countP (fun x => Nat.beq (x % 128) h)) = T
      have v167 : ∀ h, h < 128 → v 167 h = ((T h : Nat) : Int) := fun h hh => by rw [← hT]; exact v167 h hh
      have t2 : ∀ h, h < 128 → t 133 h = ((T h : Nat) : Int) := fun h hh => by rw [← hT]; exact t2 h hh
      have hTb : ∀ h, T h ≤ 1392 := fun h => by rw [← hT]; exact hTb h
      have hz : ∀ h, 2 ^ (c - 1) - 1 < h → h < 128 → T h = 0 := fun h h1 h2 => by rw [← hT]; exact hz h h1 h2
      obtain ⟨z, hl⟩ := rm_rich (v := v) (T := T) (x1 := p) v156 h2 w8 v167 hTb
      have hpos : 0 < 2 ^ (c - 1) := Nat.two_pow_pos _
      have e127 : bsT T 127 = bsT T (2 ^ (c - 1) - 1) := by
        have := bsT_0 (T := T) (N := 2 ^ (c - 1) - 1) hz (127 - (2 ^ (c - 1) - 1)) (by omega)
        rw [show 2 ^ (c - 1) - 1 + (127 - (2 ^ (c - 1) - 1)) = 127 by omega] at this
        exact this
      have hb := bsT_le T (2 ^ (c - 1) - 1)
      rw [hl, e127]
      simp only [obs]
      generalize bsT T (2 ^ (c - 1) - 1) = bs at hb
      have hb8 : bs < 128 := by omega
      by_cases hp : p = 0
      · rw [if_pos hp, if_pos hp, bk_countOf (i := bs) hb8 rfl, ixt (n := 128) (j := ((bs : Nat) : Int)) bs rfl hb8 (by decide)]
        simp only [obs]
        exact ⟨_, t, v, rfl, by rw [v167 bs hb8, t2 bs hb8], SameB_of t3 t5, FS_sm v3⟩
      · rw [if_neg hp, if_neg hp]
        exact ⟨_, t, v, rfl, rfl, SameB_of t3 t5, FS_sm v3⟩
    · refine ⟨-1, s, M, ?_, ?_, SameB_rf bo, smr⟩
      · by_cases h5 : p < 0
        · rw [if_pos h5]
        rw [if_neg h5]
        by_cases h6 : 1 < p
        · rw [if_pos h6]
        rw [if_neg h6, if_pos (c := (c : Int) = 0) (by omega)]
      · by_cases h1 : 0 < c
        · rw [if_neg (c := ¬ 0 < c) (fun k => k h1), if_pos (c := ¬ (0 ≤ p ∧ p ≤ 1)) (fun h4 => c1 ⟨h4, h1⟩)]
        · rw [if_pos (c := ¬ 0 < c) h1]
  obtain ⟨r, s1, M1, e1, e2, e3, e4⟩ := key
  exact ob_na (args := [.int (Int32.ofInt a1.toInt)]) hn rfl (by rw [← vi]; rfl) ib (fun P kr => xf_richest_ok (w0 := w) ib.2.2.1 ⟨ib.1, Fr_rf⟩ e1 (fun w1 h1 => kr w1 h1)) (fun w1 h1 P kr => xm_richest_ok (w0 := w1) StM_M ⟨h1, Fr_rf⟩ e2 (fun w2 h2 => kr w2 h2)) (DS_cg ds (e3.1 15 (by unfold VC; omega) (by decide)) (e3.1 38 (by unfold VC; omega) (by decide)) (e3.1 40 (by unfold VC; omega) (by decide))) (REL_bk rel e3.1 e3.2 e4)
end RIC
