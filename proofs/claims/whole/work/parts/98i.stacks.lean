/-! stacks, peek, richest: both sides -/
def NxK (J H : Nat) (L : List Nat) (x k : Nat) : Nat := L.countP (fun y => chB J H y && Nat.beq (dgN y k) x)
def mxF (f : Nat → Nat) : Nat → Nat
  | 0 => 0
  | i + 1 => if mxF f i < f i then f i else mxF f i
theorem mxF_le {f : Nat → Nat} {B : Nat} (h : ∀ i, f i ≤ B) : ∀ i, mxF f i ≤ B
  | 0 => Nat.zero_le _
  | i + 1 => by
    have := mxF_le h i
    have := h i
    show (if mxF f i < f i then f i else mxF f i) ≤ B
    split <;> omega
theorem NxK_le {J H x k : Nat} {L : List Nat} (hL : L.length ≤ 1392) : NxK J H L x k ≤ 1392 := Nat.le_trans List.countP_le_length hL
section ST
variable {t v : Hp} {c J H : Nat}
/-- both have counted alike -/
theorem both_cnt (h2 : 2 ≤ c) (c8 : c ≤ 8) (rc : RC c J H t (stkL c)) (rs : RS c J H v (refL c)) : ∃ Z : Nat, Z ≤ 1392 ∧ t 130 5 = (Z : Int) ∧ v 146 33 = (Z : Int) ∧ (∀ x k, x < 8 → k < c → t 133 (8 * x + k) = ((NxK J H (refL c) x k : Nat) : Int) ∧ v 166 (8 * x + k) = ((NxK J H (refL c) x k : Nat) : Int)) ∧ (Z ≠ 0 → ∃ f : Nat, f < 2147483648 ∧ t 130 6 = (f : Int) ∧ ∀ k, k < c → v 165 k = ((dgN f k : Nat) : Int)) := by
  obtain ⟨pm, as⟩ := stk_perm h2 c8
  have hlen : (refL c).length ≤ 1392 := by rw [← pm.length_eq]; exact stk_len h2 c8
  obtain ⟨a1, a2, m, m1, m2, m3, m4⟩ := rc
  obtain ⟨b1, b2, b3, b4⟩ := rs
  refine ⟨(refL c).countP (chB J H), Nat.le_trans List.countP_le_length hlen, by rw [a1, pm.countP_eq], b1, fun x k hx hk => ⟨by rw [a2 x k hx hk, pm.countP_eq]; rfl, b3 x k hx hk⟩, fun hz => ?_⟩
  cases hf : (refL c).find? (chB J H) with
  | none =>
    rw [List.find?_eq_none] at hf
    exact absurd (List.countP_eq_zero.mpr hf) hz
  | some f =>
    obtain ⟨f1, f2, f3⟩ := asc_find as hf
    have hfb := (ref_bd h2 c8 f1).1
    refine ⟨f, hfb, ?_, b4 f hf⟩
    have hle : m ≤ f := m3 f (pm.mem_iff.mpr f1) f2
    rw [m1]
    rcases m4 with h | ⟨h, h3⟩
    · have : m = f := by omega
      rw [this]
    · have := f3 m (pm.mem_iff.mp h) h3
      have : m = f := by omega
      rw [this]
theorem bk_countOf {i : Nat} (hi : i < 128) {y : Int} (hy : y = (i : Int)) : xb_countOf t y = some (t 133 i) := by
  subst hy
  unfold xb_countOf
  rw [w32_eq (x := (i : Int)) (by omega) (by omega), if_neg (by omega), if_pos (by rw [show w32 128 = 128 by decide]; omega), ixt (n := 128) (j := (i : Int)) i rfl hi (by decide)]
  rfl
theorem bk_layersOf {N : Nat → Nat → Nat} {x : Nat} (hc : t 130 2 = (c : Int)) (c8 : c ≤ 8) (hx : x < 8) (hN : ∀ k, k < c → t 133 (8 * x + k) = ((N x k : Nat) : Int) ∧ N x k ≤ 1392) : xb_layersOf t (x : Int) = some ((bts (fun k => 0 < N x k) c : Nat) : Int) := by
  unfold xb_layersOf
  refine Eq.trans (lpb_for (fun i => (((bts (fun k => 0 < N x k) i : Nat) : Int), (i : Int))) c (r := (((bts (fun k => 0 < N x k) c : Nat) : Int), (c : Int))) rfl (fun i hi => ?_) ?_) rfl
  · obtain ⟨n1, n2⟩ := hN i hi
    have hb := bts_lt (fun k => 0 < N x k) i
    have h2 : 2 ^ i ≤ 2 ^ 8 := Nat.pow_le_pow_right (by decide) (by omega)
    show xb_layersOf_b4 t (x : Int) ((bts (fun k => 0 < N x k) i : Nat) : Int) (i : Int) = _
    unfold xb_layersOf_b4
    rw [hc, w32_eq (x := (i : Int)) (by omega) (by omega), w32_eq (x := (c : Int)) (by omega) (by omega), if_pos (by omega), bk_countOf (i := 8 * x + i) (by omega) (by omega)]
    simp only [obs]
    rw [n1, w32_eq (x := ((N x i : Nat) : Int)) (by omega) (by omega), bor_bit (by omega) hb]
    show _ = some (Sum.inl (((bts (fun k => 0 < N x k) i + if 0 < N x i then 2 ^ i else 0 : Nat) : Int), ((i + 1 : Nat) : Int)))
    by_cases hp : 0 < N x i
    · rw [if_pos (by omega), if_pos hp]; rfl
    · rw [if_neg (by omega), if_neg hp]; rfl
  · show xb_layersOf_b4 t (x : Int) ((bts (fun k => 0 < N x k) c : Nat) : Int) (c : Int) = _
    unfold xb_layersOf_b4
    rw [hc, if_neg (by omega)]
theorem rm_layersOf {N : Nat → Nat → Nat} {x : Nat} (hc : v 156 0 = (c : Int)) (c8 : c ≤ 8) (hx : x < 8) (hN : ∀ k, k < c → v 166 (8 * x + k) = ((N x k : Nat) : Int) ∧ N x k ≤ 1392) {γ : Type} {K : Int × Int → Option γ} : (lp (fun (q : Int × Int) => xm_stacks_b95 v (x : Int) q.1 q.2) (0, 0)).bind K = K (((bts (fun k => 0 < N x k) c : Nat) : Int), (c : Int)) := by
  refine lpb_for (fun i => (((bts (fun k => 0 < N x k) i : Nat) : Int), (i : Int))) c rfl (fun i hi => ?_) ?_
  · obtain ⟨n1, n2⟩ := hN i hi
    have hb := bts_lt (fun k => 0 < N x k) i
    have h2 : 2 ^ i ≤ 2 ^ 8 := Nat.pow_le_pow_right (by decide) (by omega)
    show xm_stacks_b95 v (x : Int) ((bts (fun k => 0 < N x k) i : Nat) : Int) (i : Int) = _
    unfold xm_stacks_b95
    rw [ix0 (by decide) (by decide), ixt (n := 64) (j := 8 * (x : Int) + (i : Int)) (8 * x + i) (by omega) (by omega) (by decide)]
    simp only [obs]
    rw [hc, w32_eq (x := (i : Int)) (by omega) (by omega), w32_eq (x := (c : Int)) (by omega) (by omega), if_pos (by omega), n1, w32_eq (x := ((N x i : Nat) : Int)) (by omega) (by omega), bor_bit (by omega) hb, bor_0 (by omega)]
    show _ = some (Sum.inl (((bts (fun k => 0 < N x k) i + if 0 < N x i then 2 ^ i else 0 : Nat) : Int), ((i + 1 : Nat) : Int)))
    by_cases hp : 0 < N x i
    · rw [if_pos (by omega), if_pos hp]; rfl
    · rw [if_neg (by omega), if_neg hp]; rfl
  · show xm_stacks_b95 v (x : Int) ((bts (fun k => 0 < N x k) c : Nat) : Int) (c : Int) = _
    unfold xm_stacks_b95
    rw [ix0 (by decide) (by decide)]
    simp only [obs]
    rw [hc, if_neg (by omega)]
theorem bk_most {N : Nat → Nat → Nat} {x : Nat} (hc : t 130 2 = (c : Int)) (c8 : c ≤ 8) (hx : x < 8) (hN : ∀ k, k < c → t 133 (8 * x + k) = ((N x k : Nat) : Int)) (hB : ∀ k, N x k ≤ 1392) {y : Int} (hy : y = (x : Int)) : xb_mostAlike t y = some ((mxF (N x) c : Nat) : Int) := by
  subst hy
  unfold xb_mostAlike
  refine Eq.trans (lpb_for (fun i => (((mxF (N x) i : Nat) : Int), (i : Int))) c (r := (((mxF (N x) c : Nat) : Int), (c : Int))) rfl (fun i hi => ?_) ?_) rfl
  · have n1 := hN i hi
    have n2 := hB i
    have n3 := mxF_le hB i
    show xb_mostAlike_b4 t (x : Int) ((mxF (N x) i : Nat) : Int) (i : Int) = _
    unfold xb_mostAlike_b4
    rw [hc, w32_eq (x := (i : Int)) (by omega) (by omega), w32_eq (x := (c : Int)) (by omega) (by omega), if_pos (by omega), bk_countOf (i := 8 * x + i) (by omega) (by omega)]
    simp only [obs]
    rw [n1, mx_eq (by omega) (by omega) (by omega) (by omega), show ((i + 1 : Nat) : Int) = (i : Int) + 1 by omega]
    have em : mxF (N x) (i + 1) = if mxF (N x) i < N x i then N x i else mxF (N x) i := rfl
    rw [em]
    by_cases hl : mxF (N x) i < N x i
    · rw [if_pos (by omega), if_pos hl]
    · rw [if_neg (by omega), if_neg hl]
  · show xb_mostAlike_b4 t (x : Int) ((mxF (N x) c : Nat) : Int) (c : Int) = _
    unfold xb_mostAlike_b4
    rw [hc, if_neg (by omega)]
theorem bk_best {A : Nat → Nat} (hc : t 130 2 = (c : Int)) (h2 : 2 ≤ c) (c8 : c ≤ 8) (hA : ∀ x, x < c → ∀ y : Int, y = (x : Int) → xb_mostAlike t y = some ((A x : Nat) : Int)) (hB : ∀ x, A x ≤ 1392) : xb_bestCell t = some ((bsA A (c - 1) : Nat) : Int) := by
  unfold xb_bestCell
  refine Eq.trans (lpb_for (fun i => (((bsA A i : Nat) : Int), (i : Int) + 1)) (c - 1) (r := (((bsA A (c - 1) : Nat) : Int), ((c - 1 : Nat) : Int) + 1)) rfl (fun i hi => ?_) ?_) rfl
  · have hbl := bsA_le A i
    have h1 := hB (i + 1)
    have h3 := hB (bsA A i)
    show xb_bestCell_b4 t ((bsA A i : Nat) : Int) ((i : Int) + 1) = _
    unfold xb_bestCell_b4
    rw [hc, w32_eq (x := (i : Int) + 1) (by omega) (by omega), w32_eq (x := (c : Int)) (by omega) (by omega), if_pos (by omega), hA (i + 1) (by omega) _ (by omega), hA (bsA A i) (by omega) _ rfl]
    simp only [obs]
    rw [w32_eq (x := ((A (i + 1) : Nat) : Int)) (by omega) (by omega), w32_eq (x := ((A (bsA A i) : Nat) : Int)) (by omega) (by omega)]
    have eb : bsA A (i + 1) = if A (i + 1) < A (bsA A i) then i + 1 else bsA A i := rfl
    rw [eb, show ((i + 1 : Nat) : Int) = (i : Int) + 1 by omega]
    by_cases hl : A (i + 1) < A (bsA A i)
    · rw [if_pos (by omega), if_pos hl, show ((i + 1 : Nat) : Int) = (i : Int) + 1 by omega]
    · rw [if_neg (by omega), if_neg hl]
  · show xb_bestCell_b4 t ((bsA A (c - 1) : Nat) : Int) (((c - 1 : Nat) : Int) + 1) = _
    unfold xb_bestCell_b4
    rw [hc, w32_eq (x := ((c - 1 : Nat) : Int) + 1) (by omega) (by omega), w32_eq (x := (c : Int)) (by omega) (by omega), if_neg (by omega)]
theorem rm_best {N : Nat → Nat → Nat} {x1 : Int} (hc : v 156 0 = (c : Int)) (h2 : 2 ≤ c) (c8 : c ≤ 8) (hN : ∀ x k, x < 8 → k < c → v 166 (8 * x + k) = ((N x k : Nat) : Int)) (hB : ∀ x k, N x k ≤ 1392) : lp (fun (q : Int × Int × Int) => xm_peek_b40 v x1 q.1 q.2.1 q.2.2) ((-1), 0, 0) = some (((bsA (fun x => mxF (N x) c) (c - 1) : Nat) : Int), ((mxF (N (bsA (fun x => mxF (N x) c) (c - 1))) c : Nat) : Int), (c : Int)) := by
  have inn : ∀ (x : Nat) (x2 x3 : Int), x < c → lp (fun (q : Int × Int) => xm_peek_b57 v x1 x2 x3 (x : Int) q.1 q.2) (0, 0) = some (((mxF (N x) c : Nat) : Int), (c : Int)) := by
    intro x x2 x3 hx
    refine lp_for (fun i => (((mxF (N x) i : Nat) : Int), (i : Int))) c rfl (fun i hi => ?_) ?_
    · have n1 := hN x i (by omega) hi
      have n2 := hB x i
      have n3 := mxF_le (hB x) i
      show xm_peek_b57 v x1 x2 x3 (x : Int) ((mxF (N x) i : Nat) : Int) (i : Int) = _
      unfold xm_peek_b57
      rw [ix0 (by decide) (by decide), ixt (n := 64) (j := 8 * (x : Int) + (i : Int)) (8 * x + i) (by omega) (by omega) (by decide)]
      simp only [obs]
      rw [hc, w32_eq (x := (i : Int)) (by omega) (by omega), w32_eq (x := (c : Int)) (by omega) (by omega), if_pos (by omega), n1, w32_eq (x := ((mxF (N x) i : Nat) : Int)) (by omega) (by omega), w32_eq (x := ((N x i : Nat) : Int)) (by omega) (by omega), show ((i + 1 : Nat) : Int) = (i : Int) + 1 by omega]
      have em : mxF (N x) (i + 1) = if mxF (N x) i < N x i then N x i else mxF (N x) i := rfl
      rw [em]
      by_cases hl : mxF (N x) i < N x i
      · rw [if_pos (by omega), if_pos hl]
      · rw [if_neg (by omega), if_neg hl]
    · show xm_peek_b57 v x1 x2 x3 (x : Int) ((mxF (N x) c : Nat) : Int) (c : Int) = _
      unfold xm_peek_b57
      rw [ix0 (by decide) (by decide)]
      simp only [obs]
      rw [hc, if_neg (by omega)]
  have hAb : ∀ x, mxF (N x) c ≤ 1392 := fun x => mxF_le (hB x) c
  rw [lp_in (B := fun (q : Int × Int × Int) => xm_peek_b40 v x1 q.1 q.2.1 q.2.2) (s := ((-1), 0, 0)) (s1 := (((bsA (fun x => mxF (N x) c) 0 : Nat) : Int), ((mxF (N (bsA (fun x => mxF (N x) c) 0)) c : Nat) : Int), ((0 : Nat) : Int) + 1))]
  · have e := lp_for (B := fun (q : Int × Int × Int) => xm_peek_b40 v x1 q.1 q.2.1 q.2.2) (fun i => (((bsA (fun x => mxF (N x) c) i : Nat) : Int), ((mxF (N (bsA (fun x => mxF (N x) c) i)) c : Nat) : Int), (i : Int) + 1)) (c - 1) (s0 := (((bsA (fun x => mxF (N x) c) 0 : Nat) : Int), ((mxF (N (bsA (fun x => mxF (N x) c) 0)) c : Nat) : Int), ((0 : Nat) : Int) + 1)) (r := (((bsA (fun x => mxF (N x) c) (c - 1) : Nat) : Int), ((mxF (N (bsA (fun x => mxF (N x) c) (c - 1))) c : Nat) : Int), ((c - 1 : Nat) : Int) + 1)) rfl (fun i hi => by
      have hbl := bsA_le (fun x => mxF (N x) c) i
      have h1 := hAb (i + 1)
      have h3 := hAb (bsA (fun x => mxF (N x) c) i)
      show xm_peek_b40 v x1 ((bsA (fun x => mxF (N x) c) i : Nat) : Int) ((mxF (N (bsA (fun x => mxF (N x) c) i)) c : Nat) : Int) ((i : Int) + 1) = _
      unfold xm_peek_b40
      rw [ix0 (by decide) (by decide)]
      simp only [obs]
      rw [hc, w32_eq (x := (i : Int) + 1) (by omega) (by omega), w32_eq (x := (c : Int)) (by omega) (by omega), if_pos (by omega), show (i : Int) + 1 = ((i + 1 : Nat) : Int) by omega, inn (i + 1) _ _ (by omega)]
      simp only [obs]
      rw [w32_eq (x := ((bsA (fun x => mxF (N x) c) i : Nat) : Int)) (by omega) (by omega), if_neg (by omega), w32_eq (x := ((mxF (N (i + 1)) c : Nat) : Int)) (by omega) (by omega), w32_eq (x := ((mxF (N (bsA (fun x => mxF (N x) c) i)) c : Nat) : Int)) (by omega) (by omega)]
      have eb : bsA (fun x => mxF (N x) c) (i + 1) = if mxF (N (i + 1)) c < mxF (N (bsA (fun x => mxF (N x) c) i)) c then i + 1 else bsA (fun x => mxF (N x) c) i := rfl
      rw [eb]
      by_cases hl : mxF (N (i + 1)) c < mxF (N (bsA (fun x => mxF (N x) c) i)) c
      · rw [if_pos (by omega), if_pos hl]
      · rw [if_neg (by omega), if_neg hl]) (by
      show xm_peek_b40 v x1 _ _ (((c - 1 : Nat) : Int) + 1) = _
      unfold xm_peek_b40
      rw [ix0 (by decide) (by decide)]
      simp only [obs]
      rw [hc, w32_eq (x := ((c - 1 : Nat) : Int) + 1) (by omega) (by omega), w32_eq (x := (c : Int)) (by omega) (by omega), if_neg (by omega)])
    rw [e, show ((c - 1 : Nat) : Int) + 1 = (c : Int) by omega]
  · have inn0 : lp (fun (q : Int × Int) => xm_peek_b57 v x1 (-1) 0 0 q.1 q.2) (0, 0) = some (((mxF (N 0) c : Nat) : Int), (c : Int)) := inn 0 (-1) 0 (by omega)
    show xm_peek_b40 v x1 (-1) 0 0 = _
    unfold xm_peek_b40
    rw [ix0 (by decide) (by decide)]
    simp only [obs]
    rw [hc, w32_eq (x := (c : Int)) (by omega) (by omega), if_pos (by rw [show w32 0 = 0 by decide]; omega), inn0]
    simp only [obs]
    rw [if_pos (by decide)]
    rfl
end ST
/-- frames of both -/
theorem FS_sm {M v : Hp} (h : FS M v) : SameM M v := ⟨fun P hP => h.1 P (by unfold VM at hP; omega) (by unfold VM at hP; omega) (by unfold VM at hP; omega) (by unfold VM at hP; omega) (by unfold VM at hP; omega) (by unfold VM at hP; omega), h.2 1 (by decide), h.2 2 (by decide), h.2 21 (by decide), h.2 22 (by decide), h.2 26 (by decide)⟩
def SameB (s t : Hp) : Prop := (∀ P, VC P → P ≠ 131 → t P = s P) ∧ BookR t
theorem SameB_rf {s : Hp} (h : BookR s) : SameB s s := ⟨fun _ _ _ => rfl, h⟩
theorem SameB_of {s t : Hp} (h : ∀ P, P ≠ 130 → P ≠ 131 → P ≠ 132 → P ≠ 133 → t P = s P) (b : BookR t) : SameB s t := ⟨fun P hP h1 => h P (by unfold VC at hP; omega) h1 (by unfold VC at hP; omega) (by unfold VC at hP; omega), b⟩
section SC
variable {n : Nat} {w : pm_H}
theorem call_17 (hn : n < 512) (h : Inv n w) (a1 a2 a3 a4 a5 : Int32) : ob_ok 17 [a1, a2, a3, a4, a5] w (Inv (n + 1)) := by
  obtain ⟨sh, ln, s, M, ib, ds, rel⟩ := h
  obtain ⟨tp, ru, ⟨K, c, m, sr, pa⟩, im, bo, le⟩ := id rel
  have bp := bi a1
  have key : ∃ r s1 M1, xf_stacks s a1.toInt = some (r, s1) ∧ xm_stacks M a1.toInt = some (r, M1) ∧ SameB s s1 ∧ SameM M M1 := by
    generalize a1.toInt = p at bp
    have W := sr.1
    obtain ⟨w8, w4, w0, w2, wl, wz, -⟩ := id W
    have smr : SameM M M := ⟨fun _ _ => rfl, rfl, rfl, rfl, rfl, rfl⟩
    have hs0 : s 17 0 = (c : Int) := sr.2.1.1
    have ecl : xf_stacks s p = if 0 < c ∧ (p = -1 ∨ (0 ≤ p ∧ p ≤ 7) ∨ (10 ≤ p ∧ p ≤ 17)) then xf_stacks_j67 s p (c : Int) (if 0 ≤ p ∧ p ≤ 7 then 1 else 0) else some (-3, s) := by
      unfold xf_stacks xf_stacks_j26 xf_stacks_j44
      rw [hs0, w32_eq (x := p) bp.1 bp.2, w32_eq (x := (c : Int)) (by omega) (by omega), show w32 8 = 8 by decide, show w32 10 = 10 by decide, show w32 18 = 18 by decide, show w32 (-1) = -1 by decide, show w32 0 = 0 by decide, show w32 1 = 1 by decide]
      by_cases hQ : 0 < c ∧ (p = -1 ∨ (0 ≤ p ∧ p ≤ 7) ∨ (10 ≤ p ∧ p ≤ 17))
      · rw [if_pos hQ]
        obtain ⟨hc0, hp⟩ := hQ
        have hc1 : ¬ (c : Int) = 0 := by omega
        rcases hp with hp | hp | hp
        · rw [if_pos (c := p < 0) (by omega), if_pos (c := p < 10) (by omega), if_neg hc1, if_pos (c := p = -1) hp, if_neg (c := 0 ≤ p ∧ p ≤ 7) (by omega)]
        · rw [if_neg (c := p < 0) (by omega), if_pos (c := p < 8) (by omega), if_pos (c := p < 10) (by omega), if_neg hc1, if_neg (c := p = -1) (by omega), if_neg (c := (1 : Int) = 0) (by decide), if_pos (c := 0 ≤ p ∧ p ≤ 7) hp]
        · rw [if_neg (c := p < 0) (by omega), if_neg (c := p < 8) (by omega), if_neg (c := p < 10) (by omega), if_pos (c := p < 18) (by omega), if_neg hc1, if_neg (c := p = -1) (by omega), if_pos (c := (0 : Int) = 0) rfl, if_neg (c := (1 : Int) = 0) (by decide), if_neg (c := 0 ≤ p ∧ p ≤ 7) (by omega)]
      · rw [if_neg hQ]
        by_cases hc0 : 0 < c
        · have hc1 : ¬ (c : Int) = 0 := by omega
          have hpn : ¬ p = -1 := fun q => hQ ⟨hc0, Or.inl q⟩
          by_cases h1 : p < 0
          · rw [if_pos h1, if_pos (c := p < 10) (by omega), if_neg hc1, if_neg hpn, if_pos (c := (0 : Int) = 0) rfl, if_pos (c := (0 : Int) = 0) rfl]
          · have h3 : ¬ p < 8 := fun q => hQ ⟨hc0, Or.inr (Or.inl ⟨by omega, by omega⟩)⟩
            by_cases h4 : p < 10
            · rw [if_neg h1, if_neg h3, if_pos h4, if_neg hc1, if_neg hpn, if_pos (c := (0 : Int) = 0) rfl, if_pos (c := (0 : Int) = 0) rfl]
            · have h5 : ¬ p < 18 := fun q => hQ ⟨hc0, Or.inr (Or.inr ⟨by omega, by omega⟩)⟩
              rw [if_neg h1, if_neg h3, if_neg h4, if_neg h5, if_neg hc1, if_neg hpn, if_pos (c := (0 : Int) = 0) rfl, if_pos (c := (0 : Int) = 0) rfl]
        · simp only [show (c : Int) = 0 by omega, if_true]
          split <;> (first | rfl | (split <;> (first | rfl | (split <;> (first | rfl | (split <;> rfl))))))
    have erf : xm_stacks M p = if 0 < c ∧ (p = -1 ∨ (0 ≤ p ∧ p ≤ 7) ∨ (10 ≤ p ∧ p ≤ 17)) then xm_stacks_j38 M p else some (-3, M) := by
      unfold xm_stacks
      rw [rm_isCloth sr.2.2.1 W, w32_eq (x := p) bp.1 bp.2, rm_in (v := p) (by omega) (by omega) (by omega) (by omega) (by omega) (by omega), rm_in (v := p) (by omega) (by omega) (by omega) (by omega) (by omega) (by omega)]
      simp only [obs, tb0]
      by_cases hc0 : 0 < c
      · rw [if_neg (c := ¬ 0 < c) (fun k => k hc0)]
        by_cases h1 : -1 ≤ p ∧ p ≤ 7
        · rw [if_neg (c := ¬ (-1 ≤ p ∧ p ≤ 7)) (fun k => k h1), if_pos ⟨hc0, by omega⟩]
        · rw [if_pos (c := ¬ (-1 ≤ p ∧ p ≤ 7)) h1]
          by_cases h2 : 10 ≤ p ∧ p ≤ 17
          · rw [if_neg (c := ¬ (10 ≤ p ∧ p ≤ 17)) (fun k => k h2), if_pos ⟨hc0, by omega⟩]
          · rw [if_pos (c := ¬ (10 ≤ p ∧ p ≤ 17)) h2, if_neg (by omega)]
      · rw [if_pos (c := ¬ 0 < c) hc0, if_neg (fun q => hc0 q.1)]
    rw [ecl, erf]
    by_cases hin : 0 < c ∧ (p = -1 ∨ (0 ≤ p ∧ p ≤ 7) ∨ (10 ≤ p ∧ p ≤ 17))
    · rw [if_pos hin, if_pos hin]
      obtain ⟨d4, hp⟩ := hin
      have h2 := (w2 d4).1
      generalize hmk : (fun j => M 156 (82 + j)) = mk
      have hmkM : ∀ j, j + 1 < c → M 156 (82 + j) = mk j ∧ 0 ≤ mk j ∧ mk j ≤ 2 := fun j hj => by
        have := (sr.2.2.2.2.2.1 j hj).2
        rw [← hmk]
        exact ⟨rfl, this⟩
      have hmkS : ∀ j, j + 1 < c → s 35 j = mk j ∧ 0 ≤ mk j ∧ mk j ≤ 2 := fun j hj => by
        have := sr.2.2.2.2.2.1 j hj
        rw [← hmk]
        exact this
      obtain ⟨t, t1, t2, t3, t4, t5⟩ := bk_choose (mk := mk) bo h2 w8 hmkS
      obtain ⟨v, v1, v2, v3⟩ := fs_all (M := M) (c := c) (mk := mk) sr.2.2.1.1 h2 w8 hmkM
      obtain ⟨Z, z1, z2, z3, z4, z5⟩ := both_cnt h2 w8 t2 v2
      have v156 : v 156 0 = (c : Int) := by rw [v3.1 156 (by decide) (by decide) (by decide) (by decide) (by decide) (by decide)]; exact sr.2.2.1.1
      have hlen : (refL c).length ≤ 1392 := by rw [← (stk_perm h2 w8).1.length_eq]; exact stk_len h2 w8
      have fin : SameB s t ∧ SameM M v := ⟨SameB_of t3 t5, FS_sm v3⟩
      unfold xf_stacks_j67 xm_stacks_j38
      rw [t1, v1]
      simp only [obs]
      rw [w32_eq (x := p) bp.1 bp.2, show w32 (-1) = -1 by decide, show w32 8 = 8 by decide, z2, z3, w32_eq (x := (Z : Int)) (by omega) (by omega), ix0 (by decide) (by decide)]
      simp only [obs]
      by_cases hm1 : p = -1
      · rw [if_pos hm1, if_pos hm1]
        exact ⟨_, t, v, rfl, rfl, fin⟩
      · rw [if_neg hm1, if_neg hm1]
        by_cases hZ : Z = 0
        · rw [if_pos (c := (Z : Int) = 0) (by omega), if_pos (c := (Z : Int) = 0) (by omega)]
          exact ⟨-2, t, v, rfl, rfl, fin⟩
        · rw [if_neg (c := (Z : Int) = 0) (by omega), if_neg (c := (Z : Int) = 0) (by omega)]
          obtain ⟨pn, rfl⟩ : ∃ x : Nat, p = (x : Int) := ⟨p.toNat, by omega⟩
          have er : ∀ q : Nat, q < 18 → iRem (q : Int) 10 = ((q % 10 : Nat) : Int) := by decide +kernel
          rw [er pn (by omega), v156, w32_eq (x := ((pn % 10 : Nat) : Int)) (by omega) (by omega), w32_eq (x := (c : Int)) (by omega) (by omega)]
          unfold xf_stacks_j117
          rw [w32_eq (x := (c : Int)) (by omega) (by omega)]
          by_cases h8 : pn < 8
          · have e8 : pn % 10 = pn := by omega
            rw [if_pos (c := (0 : Int) ≤ (pn : Int) ∧ (pn : Int) ≤ 7) (by omega), if_neg (c := w32 1 = 0) (by decide), if_neg (c := w32 1 = 0) (by decide), e8, w32_eq (x := (pn : Int)) (by omega) (by omega)]
            by_cases hpc : pn < c
            · obtain ⟨f, f1, f2, f3⟩ := z5 hZ
              rw [if_pos (by omega), if_pos (by omega), if_pos (by omega), ixt (n := 8) (j := (pn : Int)) pn rfl h8 (by decide)]
              unfold xb_firstAt
              rw [f2, bk_cellAt f1 h8]
              simp only [obs]
              rw [f3 pn hpc]
              exact ⟨_, t, v, rfl, rfl, fin⟩
            · rw [if_neg (by omega), if_neg (by omega)]
              exact ⟨-2, t, v, rfl, rfl, fin⟩
          · have e8 : pn % 10 = pn - 10 := by omega
            rw [if_neg (c := (0 : Int) ≤ (pn : Int) ∧ (pn : Int) ≤ 7) (by omega), if_pos (c := w32 0 = 0) (by decide), if_pos (c := w32 0 = 0) (by decide), e8, w32_eq (x := (pn : Int) - 10) (by omega) (by omega)]
            by_cases hpc : pn - 10 < c
            · rw [if_pos (by omega), if_pos (by omega), if_neg (by omega), show (pn : Int) - 10 = ((pn - 10 : Nat) : Int) by omega, bk_layersOf (N := NxK (mkJ mk c) (mkH mk c) (refL c)) t4 w8 (by omega) (fun k hk => ⟨(z4 (pn - 10) k (by omega) hk).1, NxK_le hlen⟩), rm_layersOf (N := NxK (mkJ mk c) (mkH mk c) (refL c)) v156 w8 (by omega) (fun k hk => ⟨(z4 (pn - 10) k (by omega) hk).2, NxK_le hlen⟩)]
              simp only [obs]
              exact ⟨_, t, v, rfl, rfl, fin⟩
            · rw [if_neg (by omega), if_neg (by omega)]
              exact ⟨-2, t, v, rfl, rfl, fin⟩
    · rw [if_neg hin, if_neg hin]
      exact ⟨-3, s, M, rfl, rfl, SameB_rf bo, smr⟩
  obtain ⟨r, s1, M1, e1, e2, e3, e4⟩ := key
  exact ob_na (args := [.int (Int32.ofInt a1.toInt)]) hn rfl (by rw [← vi]; rfl) ib (fun P kr => xf_stacks_ok (w0 := w) ib.2.2.1 ⟨ib.1, Fr_rf⟩ e1 (fun w1 h1 => kr w1 h1)) (fun w1 h1 P kr => xm_stacks_ok (w0 := w1) StM_M ⟨h1, Fr_rf⟩ e2 (fun w2 h2 => kr w2 h2)) (DS_cg ds (e3.1 15 (by unfold VC; omega) (by decide)) (e3.1 38 (by unfold VC; omega) (by decide)) (e3.1 40 (by unfold VC; omega) (by decide))) (REL_bk rel e3.1 e3.2 e4)
theorem call_18 (hn : n < 512) (h : Inv n w) (a1 a2 a3 a4 a5 : Int32) : ob_ok 18 [a1, a2, a3, a4, a5] w (Inv (n + 1)) := by
  obtain ⟨sh, ln, s, M, ib, ds, rel⟩ := h
  obtain ⟨tp, ru, ⟨K, c, m, sr, pa⟩, im, bo, le⟩ := id rel
  have bp := bi a1
  have key : ∃ r s1 M1, xf_peek s a1.toInt = some (r, s1) ∧ xm_peek M a1.toInt = some (r, M1) ∧ SameB s s1 ∧ SameM M M1 := by
    generalize a1.toInt = p at bp
    have W := sr.1
    obtain ⟨w8, w4, w0, w2, wl, wz, -⟩ := id W
    have smr : SameM M M := ⟨fun _ _ => rfl, rfl, rfl, rfl, rfl, rfl⟩
    unfold xf_peek xm_peek
    rw [rm_isCloth sr.2.2.1 W, w32_eq (x := p) bp.1 bp.2, rm_in (v := p) (by omega) (by omega) (by omega) (by omega) (by omega) (by omega), show s 17 0 = (c : Int) from sr.2.1.1, w32_eq (x := (c : Int)) (by omega) (by omega), show w32 1 = 1 by decide]
    simp only [obs, tb0]
    by_cases c1 : (0 ≤ p ∧ p ≤ 1) ∧ 0 < c
    · obtain ⟨d3, d4⟩ := c1
      have h2 := (w2 d4).1
      rw [if_neg (c := p < 0) (by omega), if_neg (c := 1 < p) (by omega), if_neg (c := (c : Int) = 0) (by omega), if_neg (c := ¬ 0 < c) (fun k => k d4), if_neg (c := ¬ (0 ≤ p ∧ p ≤ 1)) (fun k => k d3)]
      generalize hmk : (fun j => M 156 (82 + j)) = mk
      have hmkM : ∀ j, j + 1 < c → M 156 (82 + j) = mk j ∧ 0 ≤ mk j ∧ mk j ≤ 2 := fun j hj => by
        have := (sr.2.2.2.2.2.1 j hj).2
        rw [← hmk]
        exact ⟨rfl, this⟩
      have hmkS : ∀ j, j + 1 < c → s 35 j = mk j ∧ 0 ≤ mk j ∧ mk j ≤ 2 := fun j hj => by
        have := sr.2.2.2.2.2.1 j hj
        rw [← hmk]
        exact this
      obtain ⟨t, t1, t2, t3, t4, t5⟩ := bk_choose (mk := mk) bo h2 w8 hmkS
      obtain ⟨v, v1, v2, v3⟩ := fs_all (M := M) (c := c) (mk := mk) sr.2.2.1.1 h2 w8 hmkM
      obtain ⟨Z, z1, z2, z3, z4, z5⟩ := both_cnt h2 w8 t2 v2
      have v156 : v 156 0 = (c : Int) := by rw [v3.1 156 (by decide) (by decide) (by decide) (by decide) (by decide) (by decide)]; exact sr.2.2.1.1
      have hlen : (refL c).length ≤ 1392 := by rw [← (stk_perm h2 w8).1.length_eq]; exact stk_len h2 w8
      have fin : SameB s t ∧ SameM M v := ⟨SameB_of t3 t5, FS_sm v3⟩
      rw [t1, v1]
      simp only [obs]
      rw [z2, z3, w32_eq (x := (Z : Int)) (by omega) (by omega)]
      by_cases hZ : Z = 0
      · rw [if_pos (by omega), if_pos (by omega)]
        exact ⟨-2, t, v, rfl, rfl, fin⟩
      · rw [if_neg (by omega), if_neg (by omega)]
        have hB : ∀ x k, NxK (mkJ mk c) (mkH mk c) (refL c) x k ≤ 1392 := fun x k => NxK_le hlen
        have hmA : ∀ x, x < c → ∀ y : Int, y = (x : Int) → xb_mostAlike t y = some ((mxF (NxK (mkJ mk c) (mkH mk c) (refL c) x) c : Nat) : Int) := fun x hx y hy => bk_most t4 w8 (by omega) (fun k hk => (z4 x k (by omega) hk).1) (hB x) hy
        rw [bk_best (A := fun x => mxF (NxK (mkJ mk c) (mkH mk c) (refL c) x) c) t4 h2 w8 hmA (fun x => mxF_le (hB x) c), rm_best (N := NxK (mkJ mk c) (mkH mk c) (refL c)) v156 h2 w8 (fun x k hx hk => (z4 x k hx hk).2) hB]
        simp only [obs]
        by_cases hp : p = 0
        · rw [if_pos hp, if_pos hp]
          exact ⟨_, t, v, rfl, rfl, fin⟩
        · have hbl := bsA_le (fun x => mxF (NxK (mkJ mk c) (mkH mk c) (refL c) x) c) (c - 1)
          rw [if_neg hp, if_neg hp, hmA _ (by omega) _ rfl]
          exact ⟨_, t, v, rfl, rfl, fin⟩
    · refine ⟨-1, s, M, ?_, ?_, SameB_rf bo, smr⟩
      · by_cases h5 : p < 0
        · rw [if_pos h5]
        rw [if_neg h5]
        by_cases h6 : 1 < p
        · rw [if_pos h6]
        rw [if_neg h6, if_pos (c := (c : Int) = 0) (by omega)]
      · by_cases h1 : 0 < c
        · rw [if_neg (c := ¬ 0 < c) (fun k => k h1), if_pos (c := ¬ (0 ≤ p ∧ p ≤ 1)) (fun h4 => c1 ⟨h4, h1⟩)]
        · rw [if_pos (c := ¬ 0 < c) h1]
  obtain ⟨r, s1, M1, e1, e2, e3, e4⟩ := key
  exact ob_na (args := [.int (Int32.ofInt a1.toInt)]) hn rfl (by rw [← vi]; rfl) ib (fun P kr => xf_peek_ok (w0 := w) ib.2.2.1 ⟨ib.1, Fr_rf⟩ e1 (fun w1 h1 => kr w1 h1)) (fun w1 h1 P kr => xm_peek_ok (w0 := w1) StM_M ⟨h1, Fr_rf⟩ e2 (fun w2 h2 => kr w2 h2)) (DS_cg ds (e3.1 15 (by unfold VC; omega) (by decide)) (e3.1 38 (by unfold VC; omega) (by decide)) (e3.1 40 (by unfold VC; omega) (by decide))) (REL_bk rel e3.1 e3.2 e4)
end SC
