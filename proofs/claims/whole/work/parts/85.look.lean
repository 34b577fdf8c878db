/-! where to look next -/
theorem cnt_mono {P : Nat → Bool} {n : Nat} : ∀ k, n ≤ k → cnt P n ≤ cnt P k := by
  intro k hk
  induction k with
  | zero => rw [show n = 0 by omega]; exact Nat.le_refl _
  | succ k ih =>
    by_cases h : n = k + 1
    · rw [h]; exact Nat.le_refl _
    · have := ih (by omega)
      show cnt P n ≤ cnt P k + (if P k then 1 else 0)
      omega
def eqB (F : Nat → Bool) (C : Nat → Int) (a : Nat) : Nat → Bool := fun b => F b && decide (C a = C b)
theorem eqB_cg {F : Nat → Bool} {C : Nat → Int} {a b : Nat} (h : C a = C b) : eqB F C a = eqB F C b := by
  unfold eqB
  rw [h]
def mC (F : Nat → Bool) (C : Nat → Int) : Nat → Nat
  | 0 => 0
  | r + 1 => if F r = true then max (mC F C r) (cnt (eqB F C r) (r + 1)) else mC F C r
def mR (F : Nat → Bool) (C : Nat → Int) (N : Nat) : Nat → Nat
  | 0 => 0
  | a + 1 => max (mR F C N a) (if F a = true then cnt (eqB F C a) N else 0)
theorem mC_up {F : Nat → Bool} {C : Nat → Int} {r : Nat} : mC F C r ≤ mC F C (r + 1) := by
  show mC F C r ≤ if F r = true then max (mC F C r) (cnt (eqB F C r) (r + 1)) else mC F C r
  split <;> omega
theorem mC_ge {F : Nat → Bool} {C : Nat → Int} : ∀ N a, a < N → F a = true → cnt (eqB F C a) N ≤ mC F C N
  | 0, a, h, _ => by omega
  | N + 1, a, h, hf => by
    have up := mC_up (F := F) (C := C) (r := N)
    by_cases he : eqB F C a N = true
    · have he' := he
      unfold eqB at he'
      rw [Bool.and_eq_true, decide_eq_true_eq] at he'
      rw [eqB_cg (F := F) he'.2]
      show _ ≤ if F N = true then max (mC F C N) (cnt (eqB F C N) (N + 1)) else mC F C N
      rw [if_pos he'.1]
      exact Nat.le_max_right _ _
    · have hn : a ≠ N := fun e => he (by
        subst e
        unfold eqB
        rw [hf]
        simp)
      have := mC_ge (C := C) N a (by omega) hf
      show cnt (eqB F C a) N + (if eqB F C a N then 1 else 0) ≤ _
      rw [if_neg he]
      omega
theorem mC_mR {F : Nat → Bool} {C : Nat → Int} {N : Nat} : mC F C N = mR F C N N := by
  have h1 : ∀ j, j ≤ N → mC F C j ≤ mR F C N j := by
    intro j
    induction j with
    | zero => intro _; exact Nat.le_refl _
    | succ j ih =>
      intro hj
      have := ih (by omega)
      have hm := cnt_mono (P := eqB F C j) (n := j + 1) N hj
      show (if F j = true then max (mC F C j) (cnt (eqB F C j) (j + 1)) else mC F C j) ≤ max (mR F C N j) (if F j = true then cnt (eqB F C j) N else 0)
      split <;> omega
  have h2 : ∀ j, j ≤ N → mR F C N j ≤ mC F C N := by
    intro j
    induction j with
    | zero => intro _; exact Nat.zero_le _
    | succ j ih =>
      intro hj
      have := ih (by omega)
      show max (mR F C N j) (if F j = true then cnt (eqB F C j) N else 0) ≤ _
      by_cases hf : F j = true
      · have := mC_ge (F := F) (C := C) N j (by omega) hf
        rw [if_pos hf]; omega
      · rw [if_neg hf]; omega
  have := h1 N (Nat.le_refl _)
  have := h2 N (Nat.le_refl _)
  omega
theorem cnt_0 {P : Nat → Bool} : ∀ {n : Nat}, cnt P n = 0 → ∀ i, i < n → P i ≠ true
  | 0, _, i, hi => by omega
  | n + 1, h, i, hi => by
    replace h : cnt P n + (if P n then 1 else 0) = 0 := h
    by_cases hin : i = n
    · subst hin
      intro hp
      rw [if_pos hp] at h
      omega
    · exact cnt_0 (n := n) (by omega) i (by omega)
theorem mC_0 {F : Nat → Bool} {C : Nat → Int} : ∀ {N : Nat}, mC F C N = 0 ↔ cnt F N = 0
  | 0 => Iff.rfl
  | N + 1 => by
    have ih := mC_0 (F := F) (C := C) (N := N)
    show (if F N = true then max (mC F C N) (cnt (eqB F C N) (N + 1)) else mC F C N) = 0 ↔ cnt F N + (if F N then 1 else 0) = 0
    by_cases hf : F N = true
    · rw [if_pos hf, if_pos hf]
      have : cnt (eqB F C N) (N + 1) = cnt (eqB F C N) N + 1 := by
        show cnt (eqB F C N) N + (if eqB F C N N then 1 else 0) = _
        rw [if_pos]
        unfold eqB
        rw [hf]
        simp
      omega
    · rw [if_neg hf, if_neg hf]
      omega
theorem mC_le {F : Nat → Bool} {C : Nat → Int} : ∀ N, mC F C N ≤ N
  | 0 => Nat.le_refl 0
  | N + 1 => by
    have := mC_le (F := F) (C := C) N
    have h2 := cnt_le (eqB F C N) (N + 1)
    show (if F N = true then max (mC F C N) (cnt (eqB F C N) (N + 1)) else mC F C N) ≤ N + 1
    split <;> omega
section AL
variable {s : Hp} {F : Nat → Bool} {C C' : Nat → Int} {k : Nat}
/-- how many are alike up to the newest -/
theorem cu_upTo {r : Nat} (hr : r ≤ 6) (hF : ∀ i, i ≤ r → s 144 i = if F i = true then 1 else 0) (hrF : F r = true) (hC : ∀ i, i ≤ r → F i = true → s 145 i = C i) (hb : ∀ i, -2 ≤ C i ∧ C i ≤ 7992) (he : ∀ i j, C i = C j ↔ C' i = C' j) : xf_alikeUpTo s (r : Int) = some ((cnt (eqB F C' r) (r + 1) : Nat) : Int) := by
  unfold xf_alikeUpTo
  have hcr := hC r (Nat.le_refl _) hrF
  refine Eq.trans (lpb_for (fun i => (((cnt (eqB F C' r) i : Nat) : Int), (i : Int))) (r + 1) (r := (((cnt (eqB F C' r) (r + 1) : Nat) : Int), ((r + 1 : Nat) : Int))) rfl (fun i hi => ?_) ?_) rfl
  · show xf_alikeUpTo_b4 s (r : Int) ((cnt (eqB F C' r) i : Nat) : Int) (i : Int) = _
    unfold xf_alikeUpTo_b4
    rw [w32_eq (x := (r : Int)) (by omega) (by omega), w32_eq (x := (i : Int)) (by omega) (by omega), if_neg (by omega), ixt (n := 7) (j := (i : Int)) i rfl (by omega) (by decide), ixt (n := 7) (j := (r : Int)) r rfl (by omega) (by decide)]
    simp only [obs]
    rw [hF i (by omega), hcr]
    have ec : cnt (eqB F C' r) (i + 1) = cnt (eqB F C' r) i + if eqB F C' r i then 1 else 0 := rfl
    rw [ec]
    by_cases hf : F i = true
    · have b1 := hb i
      have b2 := hb r
      rw [if_pos hf, if_neg (by decide), hC i (by omega) hf, w32_eq (x := C i) (by omega) (by omega), w32_eq (x := C r) (by omega) (by omega)]
      by_cases hc : C i = C r
      · have : eqB F C' r i = true := by
          unfold eqB
          rw [hf, decide_eq_true ((he r i).mp hc.symm)]
          rfl
        rw [if_pos hc, if_pos this, show ((i + 1 : Nat) : Int) = (i : Int) + 1 by omega]
        rfl
      · have : ¬ eqB F C' r i = true := by
          unfold eqB
          rw [hf, Bool.true_and, decide_eq_true_eq]
          exact fun q => hc ((he r i).mpr q).symm
        rw [if_neg hc, if_neg this, show ((i + 1 : Nat) : Int) = (i : Int) + 1 by omega]
        rfl
    · have : ¬ eqB F C' r i = true := by
        unfold eqB
        rw [Bool.and_eq_true]
        exact fun q => hf q.1
      rw [if_neg hf, if_pos (by decide), if_neg this, show ((i + 1 : Nat) : Int) = (i : Int) + 1 by omega]
      rfl
  · show xf_alikeUpTo_b4 s (r : Int) ((cnt (eqB F C' r) (r + 1) : Nat) : Int) ((r + 1 : Nat) : Int) = _
    unfold xf_alikeUpTo_b4
    rw [w32_eq (x := (r : Int)) (by omega) (by omega), w32_eq (x := ((r + 1 : Nat) : Int)) (by omega) (by omega), if_pos (by omega)]
/-- the reference's -/
theorem ru_alike {M : Hp} {p : Nat} (hp : p < 8) (hk : M 146 2 = (k : Int)) (k6 : k ≤ 6) (hF : ∀ i, i ≤ k → M 169 i = if F i = true then 1 else 0) (hC : ∀ i, i ≤ k → M 170 (8 * i + p) = C' i) (hb : ∀ i, -2 ≤ C' i ∧ C' i ≤ 7992) : xm_alikeAt M (p : Int) = some ((mC F C' (k + 1) : Nat) : Int) := by
  rw [mC_mR]
  unfold xm_alikeAt
  have hmb : ∀ j, j ≤ k + 1 → mR F C' (k + 1) j ≤ k + 1 := by
    intro j
    induction j with
    | zero => intro _; exact Nat.zero_le _
    | succ j ih =>
      intro hj
      have h1 := ih (by omega)
      have h2 := cnt_le (eqB F C' j) (k + 1)
      show max (mR F C' (k + 1) j) (if F j = true then cnt (eqB F C' j) (k + 1) else 0) ≤ _
      split <;> omega
  refine Eq.trans (lpb_for (fun i => (((mR F C' (k + 1) i : Nat) : Int), (i : Int))) (k + 1) (r := (((mR F C' (k + 1) (k + 1) : Nat) : Int), ((k + 1 : Nat) : Int))) rfl (fun i hi => ?_) ?_) rfl
  · show xm_alikeAt_b4 M (p : Int) ((mR F C' (k + 1) i : Nat) : Int) (i : Int) = _
    have hm1 := hmb i (by omega)
    have inner : ∃ z, lp (fun (q : Int × Int) => xm_alikeAt_b18 M (p : Int) ((mR F C' (k + 1) i : Nat) : Int) (i : Int) q.1 q.2) (0, 0) = some (((if F i = true then cnt (eqB F C' i) (k + 1) else 0 : Nat) : Int), z) := by
      by_cases hf : F i = true
      · refine ⟨((k + 1 : Nat) : Int), ?_⟩
        rw [if_pos hf]
        refine lp_for (fun j => (((cnt (eqB F C' i) j : Nat) : Int), (j : Int))) (k + 1) rfl (fun j hj => ?_) ?_
        · show xm_alikeAt_b18 M (p : Int) _ (i : Int) ((cnt (eqB F C' i) j : Nat) : Int) (j : Int) = _
          have b1 := hb i
          have b2 := hb j
          unfold xm_alikeAt_b18
          rw [hk, w32_eq (x := (k : Int)) (by omega) (by omega), w32_eq (x := (j : Int)) (by omega) (by omega), if_neg (by omega), ixt (n := 7) (j := (i : Int)) i rfl (by omega) (by decide), ixt (n := 7) (j := (j : Int)) j rfl (by omega) (by decide), ixt (n := 56) (8 * i + p) (by omega) (by omega) (by decide), ixt (n := 56) (8 * j + p) (by omega) (by omega) (by decide)]
          simp only [obs]
          rw [hF i (by omega), hF j (by omega), if_pos hf, if_neg (c := w32 1 = 0) (by decide), hC i (by omega), hC j (by omega), w32_eq (x := C' i) (by omega) (by omega), w32_eq (x := C' j) (by omega) (by omega)]
          have ec : cnt (eqB F C' i) (j + 1) = cnt (eqB F C' i) j + if eqB F C' i j then 1 else 0 := rfl
          rw [ec]
          by_cases hfj : F j = true
          · rw [if_pos hfj, if_neg (c := w32 1 = 0) (by decide)]
            by_cases hc : C' i = C' j
            · have : eqB F C' i j = true := by
                unfold eqB
                rw [hfj, decide_eq_true hc]
                rfl
              rw [if_pos hc, if_pos this, show ((j + 1 : Nat) : Int) = (j : Int) + 1 by omega]
              rfl
            · have : ¬ eqB F C' i j = true := by
                unfold eqB
                rw [hfj, Bool.true_and, decide_eq_true_eq]
                exact hc
              rw [if_neg hc, if_neg this, show ((j + 1 : Nat) : Int) = (j : Int) + 1 by omega]
              rfl
          · have : ¬ eqB F C' i j = true := by
              unfold eqB
              rw [Bool.and_eq_true]
              exact fun q => hfj q.1
            rw [if_neg hfj, if_pos (by decide), if_neg this, show ((j + 1 : Nat) : Int) = (j : Int) + 1 by omega]
            rfl
        · show xm_alikeAt_b18 M (p : Int) _ (i : Int) ((cnt (eqB F C' i) (k + 1) : Nat) : Int) ((k + 1 : Nat) : Int) = _
          unfold xm_alikeAt_b18
          rw [hk, w32_eq (x := (k : Int)) (by omega) (by omega), w32_eq (x := ((k + 1 : Nat) : Int)) (by omega) (by omega), if_pos (by omega)]
      · refine ⟨0, ?_⟩
        rw [if_neg hf]
        refine lp_en ?_
        show xm_alikeAt_b18 M (p : Int) _ (i : Int) 0 0 = _
        unfold xm_alikeAt_b18
        rw [hk, w32_eq (x := (k : Int)) (by omega) (by omega), if_neg (by rw [show w32 0 = 0 by decide]; omega), ixt (n := 7) (j := (i : Int)) i rfl (by omega) (by decide)]
        simp only [obs]
        rw [hF i (by omega), if_neg hf, if_pos (by decide)]
        rfl
    obtain ⟨z, hz⟩ := inner
    unfold xm_alikeAt_b4
    rw [hk, w32_eq (x := (k : Int)) (by omega) (by omega), w32_eq (x := (i : Int)) (by omega) (by omega), if_neg (by omega), hz]
    simp only [obs]
    have er : mR F C' (k + 1) (i + 1) = max (mR F C' (k + 1) i) (if F i = true then cnt (eqB F C' i) (k + 1) else 0) := rfl
    rw [er]
    have hc := cnt_le (eqB F C' i) (k + 1)
    generalize hv : (if F i = true then cnt (eqB F C' i) (k + 1) else 0) = v
    have hv2 : v ≤ k + 1 := by
      rw [← hv]
      split <;> omega
    unfold xm_alikeAt_b4_j88
    rw [w32_eq (x := ((mR F C' (k + 1) i : Nat) : Int)) (by omega) (by omega), w32_eq (x := ((v : Nat) : Int)) (by omega) (by omega)]
    by_cases hlt : mR F C' (k + 1) i < v
    · rw [if_pos (by omega), show max (mR F C' (k + 1) i) v = v by omega, show ((i + 1 : Nat) : Int) = (i : Int) + 1 by omega]
    · rw [if_neg (by omega), show max (mR F C' (k + 1) i) v = mR F C' (k + 1) i by omega, show ((i + 1 : Nat) : Int) = (i : Int) + 1 by omega]
  · show xm_alikeAt_b4 M (p : Int) _ ((k + 1 : Nat) : Int) = _
    unfold xm_alikeAt_b4
    rw [hk, w32_eq (x := (k : Int)) (by omega) (by omega), w32_eq (x := ((k + 1 : Nat) : Int)) (by omega) (by omega), if_pos (by omega)]
end AL
section AC
variable {s : Hp} {T : Nat → Nat → Int} {n m k : Nat} {ln : Nat → Nat} {rs : Nat → Int} {uof : Nat → Int} {rof : Nat → Option (List Cls)} {F : Nat → Bool}
theorem cq_eq {p i j : Nat} : cqV (rof i) T n (4 * p) (-2) = cqV (rof j) T n (4 * p) (-2) ↔ cqV (rof i) T n (4 * p) (-1) = cqV (rof j) T n (4 * p) (-1) := by
  unfold cqV
  split
  · exact Iff.rfl
  · exact ⟨fun _ => rfl, fun _ => rfl⟩
theorem ca_alike (h : Cl s 26 T n m) (w : WF T n m) (hm : 0 < m) (hk : s 0 4 = (k : Int)) (k6 : k ≤ 6) (hu : ∀ r : Nat, r ≤ k → (∀ s1 : Hp, s1 0 4 = s 0 4 → s1 15 = s 15 → xf_ruleOf ln rs s1 ((r : Int) - 1) = some (uof r)) ∧ CR ln s (uof r) (rof r)) (hF : ∀ i, i ≤ k → s 144 i = if F i = true then 1 else 0) {p : Nat} (hp : p < 8) {y : Int} (hy : y = (p : Int)) : ∃ s1, xf_alikeAt ln rs s y = some (((mC F (fun r => cqV (rof r) T n (4 * p) (-1)) (k + 1) : Nat) : Int), s1) ∧ ∀ P, P ≠ 51 → P ≠ 52 → P ≠ 53 → P ≠ 145 → s1 P = s P := by
  subst hy
  unfold xf_alikeAt
  obtain ⟨r, e1, e2, e3⟩ := lp_forR (B := fun (q : Int × Int × Hp) => xf_alikeAt_b4 ln rs q.2.2 (p : Int) q.1 q.2.1) (fun i (q : Int × Int × Hp) => q.1 = ((mC F (fun r => cqV (rof r) T n (4 * p) (-1)) i : Nat) : Int) ∧ q.2.1 = (i : Int) ∧ (∀ P, P ≠ 51 → P ≠ 52 → P ≠ 53 → P ≠ 145 → q.2.2 P = s P) ∧ ∀ j, j < i → F j = true → q.2.2 145 j = cqV (rof j) T n (4 * p) (-2)) (k + 1) (fun q : Int × Int × Hp => q.1 = ((mC F (fun r => cqV (rof r) T n (4 * p) (-1)) (k + 1) : Nat) : Int) ∧ ∀ P, P ≠ 51 → P ≠ 52 → P ≠ 53 → P ≠ 145 → q.2.2 P = s P) (by
    rintro i ⟨x, y, t⟩ hi ⟨j1, j2, j3, j4⟩
    replace j1 : x = _ := j1
    replace j2 : y = (i : Int) := j2
    replace j3 : ∀ P, P ≠ 51 → P ≠ 52 → P ≠ 53 → P ≠ 145 → t P = s P := j3
    replace j4 : ∀ j, j < i → F j = true → t 145 j = cqV (rof j) T n (4 * p) (-2) := j4
    subst j1
    subst j2
    have r0 : t 0 = s 0 := j3 0 (by decide) (by decide) (by decide) (by decide)
    have r144 : t 144 = s 144 := j3 144 (by decide) (by decide) (by decide) (by decide)
    have em : mC F (fun r => cqV (rof r) T n (4 * p) (-1)) (i + 1) = if F i = true then max (mC F (fun r => cqV (rof r) T n (4 * p) (-1)) i) (cnt (eqB F (fun r => cqV (rof r) T n (4 * p) (-1)) i) (i + 1)) else mC F (fun r => cqV (rof r) T n (4 * p) (-1)) i := rfl
    show ∃ q1, xf_alikeAt_b4 ln rs t (p : Int) _ (i : Int) = some (Sum.inl q1) ∧ _
    unfold xf_alikeAt_b4
    rw [r0, hk, w32_eq (x := (k : Int)) (by omega) (by omega), w32_eq (x := (i : Int)) (by omega) (by omega), if_neg (by omega), if_pos (by rw [show w32 7 = 7 by decide]; omega), ixt i rfl (by omega) (by decide)]
    simp only [obs]
    rw [r144, hF i (by omega)]
    by_cases hf : F i = true
    · rw [if_pos hf, if_neg (by decide)]
      obtain ⟨u1, u2⟩ := hu i (by omega)
      obtain ⟨t1, q1, q2⟩ := cq_c (rs := rs) (s := t) (f := 4 * p) (Cl_row h (fun j hj => j3 _ (by omega) (by omega) (by omega) (by omega))) w (CR_row u2 (fun P hP => j3 P (by omega) (by omega) (by omega) (by omega))) hm (by omega)
      rw [u1 t (by rw [r0]) (j3 15 (by decide) (by decide) (by decide) (by decide))]
      simp only [obs]
      rw [show 4 * (p : Int) = ((4 * p : Nat) : Int) by omega, q1]
      simp only [obs]
      have eu := cu_upTo (s := uh t1 145 i (cqV (rof i) T n (4 * p) (-2))) (F := F) (C := fun r => cqV (rof r) T n (4 * p) (-2)) (C' := fun r => cqV (rof r) T n (4 * p) (-1)) (r := i) (by omega) (fun j hj => by rw [uh_row (by decide), q2 144 (by decide) (by decide) (by decide), r144]; exact hF j (by omega)) hf (fun j hj hfj => by
        by_cases hji : j = i
        · subst hji; rw [uh_rc]
        · rw [uh_ro _ _ _ _ hji, q2 145 (by decide) (by decide) (by decide)]; exact j4 j (by omega) hfj) (fun j => cqV_bd w (by decide) (by decide)) (fun a b => cq_eq)
      rw [eu]
      simp only [obs]
      have b1 := mC_le (F := F) (C := fun r => cqV (rof r) T n (4 * p) (-1)) i
      have b2 := cnt_le (eqB F (fun r => cqV (rof r) T n (4 * p) (-1)) i) (i + 1)
      refine ⟨_, rfl, ?_, by show (i : Int) + 1 = _; omega, fun P h1 h2 h3 h4 => ?_, fun j hj hfj => ?_⟩
      · show mxI _ _ = _
        rw [mx_eq (by omega) (by omega) (by omega) (by omega), em, if_pos hf]
        split <;> omega
      · show uh t1 145 i _ P = _
        rw [uh_row h4, q2 P h1 h2 h3]; exact j3 P h1 h2 h3 h4
      · show uh t1 145 i _ 145 j = _
        by_cases hji : j = i
        · subst hji; rw [uh_rc]
        · rw [uh_ro _ _ _ _ hji, q2 145 (by decide) (by decide) (by decide)]; exact j4 j (by omega) hfj
    · rw [if_neg hf, if_pos (by decide)]
      refine ⟨_, rfl, ?_, by show (i : Int) + 1 = _; omega, j3, fun j hj hfj => ?_⟩
      · show ((mC F (fun r => cqV (rof r) T n (4 * p) (-1)) i : Nat) : Int) = _
        rw [em, if_neg hf]
      · have : j ≠ i := fun e => hf (by rw [← e]; exact hfj)
        exact j4 j (by omega) hfj) (by
    rintro ⟨x, y, t⟩ ⟨j1, j2, j3, j4⟩
    replace j2 : y = ((k + 1 : Nat) : Int) := j2
    replace j3 : ∀ P, P ≠ 51 → P ≠ 52 → P ≠ 53 → P ≠ 145 → t P = s P := j3
    subst j2
    refine ⟨(x, ((k + 1 : Nat) : Int), t), ?_, j1, j3⟩
    show xf_alikeAt_b4 ln rs t (p : Int) x ((k + 1 : Nat) : Int) = _
    unfold xf_alikeAt_b4
    rw [j3 0 (by decide) (by decide) (by decide) (by decide), hk, w32_eq (x := (k : Int)) (by omega) (by omega), w32_eq (x := ((k + 1 : Nat) : Int)) (by omega) (by omega), if_pos (by omega)]) (s := (0, 0, s)) ⟨rfl, rfl, fun _ _ _ _ _ => rfl, fun j hj => by omega⟩
  rw [e1]
  simp only [obs]
  obtain ⟨x, y, t⟩ := r
  replace e2 : x = _ := e2
  subst e2
  exact ⟨t, rfl, e3⟩
end AC
def bsA (A : Nat → Nat) : Nat → Nat
  | 0 => 0
  | i + 1 => if A (i + 1) < A (bsA A i) then i + 1 else bsA A i
theorem bsA_le (A : Nat → Nat) : ∀ i, bsA A i ≤ i
  | 0 => Nat.le_refl 0
  | i + 1 => by
    have := bsA_le A i
    show (if A (i + 1) < A (bsA A i) then i + 1 else bsA A i) ≤ i + 1
    split <;> omega
section LO
variable {n : Nat} {w : pm_H}
theorem call_25 (hn : n < 512) (h : Inv n w) (a1 a2 a3 a4 a5 : Int32) : ob_ok 25 [a1, a2, a3, a4, a5] w (Inv (n + 1)) := by
  obtain ⟨sh, ln, s, M, ib, ds, rel⟩ := h
  obtain ⟨tp, ru, ⟨K, c, m, sr, pa⟩, -⟩ := id rel
  have bp := bi a1
  have key : ∃ r s1 M1, xf_look ln (rsF s) s a1.toInt = some (r, s1) ∧ xm_look M a1.toInt = some (r, M1) ∧ SameC s s1 ∧ SameM M M1 := by
    generalize a1.toInt = p at bp
    have W := sr.1
    obtain ⟨w8, w4, w0, w2, wl, wz, -⟩ := id W
    have smr : SameM M M := ⟨fun _ _ => rfl, rfl, rfl, rfl, rfl, rfl⟩
    unfold xf_look xm_look
    rw [rm_isCloth sr.2.2.1 W, w32_eq (x := p) bp.1 bp.2, rm_in (v := p) (by omega) (by omega) (by omega) (by omega) (by omega) (by omega), show s 17 0 = (c : Int) from sr.2.1.1, w32_eq (x := (c : Int)) (by omega) (by omega), show w32 1 = 1 by decide, cl_hasPerson sr.2.2.2.2.1 sr.2.2.2.1 (p := 0) (by decide) (by decide), ix1 (by decide) (by decide)]
    simp only [obs, tb0]
    rw [sr.2.2.1.2.1, w32_eq (x := (m : Int)) (by omega) (by omega)]
    by_cases c1 : (0 ≤ p ∧ p ≤ 1) ∧ 0 < c
    · obtain ⟨d3, d4⟩ := c1
      rw [if_neg (c := p < 0) (by omega), if_neg (c := 1 < p) (by omega), if_neg (c := (c : Int) = 0) (by omega), if_neg (c := ¬ 0 < c) (fun k => k d4), if_neg (c := ¬ (0 ≤ p ∧ p ≤ 1)) (fun k => k d3)]
      by_cases hm : 0 < m
      · rw [if_neg (c := ¬ (0 ≤ (0 : Int) ∧ (0 : Int) < (m : Int))) (by omega), if_neg (c := (m : Int) = 0) (by omega)]
        obtain ⟨LC, fN, cN, l1, l2, l3, l4, l5, l6⟩ := logs_f sr
        obtain ⟨uof, rof, hr⟩ := rules_f (rs := rsF s) ru (fun i hi => rsF_at hi)
        obtain ⟨k, hk⟩ : ∃ k : Nat, s 0 4 = (k : Int) := ⟨(s 0 4).toNat, by have := ru.2.1; omega⟩
        have k6 : k ≤ 6 := by have := ru.2.2.1; omega
        have hkM : M 146 2 = (k : Int) := by rw [← ru.1]; exact hk
        have h2 := (w2 d4).1
        obtain ⟨s1, e1, e2, e3⟩ := cf_findSo (rs := rsF s) (rof := rof) (uof := uof) sr.2.2.2.2.1 sr.2.2.2.1 hk k6 (fun r hr' => ⟨(hr r (by omega)).1, (hr r (by omega)).2.1⟩) l1 l3 l4 l5
        obtain ⟨M1, f1, f2, f3, f4⟩ := rf_fits (M := M) (rof := rof) sr.2.2.1 sr.2.2.2.1 h2 hkM k6 (fun r hr' M1 x1 x2 x3 x4 => (hr r (by omega)).2.2 M1 x1 x2 x3 x4) l2 l3 l4 l6
        rw [e1, f1]
        simp only [obs]
        have hT2 : s 28 0 = s 28 0 := rfl
        have sT := sr.2.2.2.2.1
        have wT := sr.2.2.2.1
        have hwd : s 26 2 = (c : Int) := by
          rw [show s 26 2 = tdK (M 156) 0 2 from sT.2.2.1]
          exact sr.2.2.1.1
        generalize hTT : tdK (M 156) = T at e1 e3 f3 f4 sT wT
        generalize hFF : (fun r => bP (fitP (rof r) T c LC fN cN)) = F
        have e3 : ∀ r, r ≤ k → s1 144 r = if F r = true then 1 else 0 := fun r hr => by rw [e3 r hr, ← hFF]
        have f3 : ∀ r, r ≤ k → M1 169 r = if F r = true then 1 else 0 := fun r hr => by rw [f3 r hr, ← hFF]
        have hcn := cnt_le F (k + 1)
        have frS : ∀ t : Hp, (∀ P, P ≠ 51 → P ≠ 52 → P ≠ 53 → P ≠ 144 → P ≠ 145 → t P = s P) → SameC s t := fun t ht => ⟨fun P hP => ht P (by unfold VC at hP; omega) (by unfold VC at hP; omega) (by unfold VC at hP; omega) (by unfold VC at hP; omega) (by unfold VC at hP; omega), by rw [ht 130 (by decide) (by decide) (by decide) (by decide) (by decide)], by rw [ht 130 (by decide) (by decide) (by decide) (by decide) (by decide)]⟩
        -- the measure of a place
        generalize hA : (fun q => mC F (fun r => cqV (rof r) T c (4 * q) (-1)) (k + 1)) = A
        have hAe : ∀ q, A q = mC F (fun r => cqV (rof r) T c (4 * q) (-1)) (k + 1) := fun q => by rw [← hA]
        have hAb : ∀ q, A q ≤ k + 1 := fun q => by rw [hAe]; exact mC_le _
        have mA : ∀ q, q + 1 < c → ∀ y : Int, y = (q : Int) → xm_alikeAt M1 y = some ((A q : Nat) : Int) := fun q hq y hy => by
          subst hy
          rw [hAe]
          exact ru_alike (by omega) (by rw [f2.2.2.1]; exact hkM) k6 f3 (fun i hi => f4 hm i hi q hq) (fun i => cqV_bd wT (by decide) (by decide))
        have cA : ∀ (q : Nat) (t : Hp) (y : Int), y = (q : Int) → q < 8 → (∀ P, P ≠ 51 → P ≠ 52 → P ≠ 53 → P ≠ 145 → t P = s1 P) → ∃ t1, xf_alikeAt ln (rsF s) t y = some (((A q : Nat) : Int), t1) ∧ ∀ P, P ≠ 51 → P ≠ 52 → P ≠ 53 → P ≠ 145 → t1 P = s1 P := fun q t y hy hq ht => by
          have rt : ∀ P, P ≠ 51 → P ≠ 52 → P ≠ 53 → P ≠ 144 → P ≠ 145 → t P = s P := fun P h1 h2 h3 h4 h5 => (ht P h1 h2 h3 h5).trans (e2 P h1 h2 h3 h4)
          obtain ⟨t1, g1, g2⟩ := ca_alike (s := t) (T := T) (n := c) (m := m) (k := k) (rs := rsF s) (uof := uof) (rof := rof) (F := F) (Cl_row sT (fun i hi => rt _ (by omega) (by omega) (by omega) (by omega) (by omega))) wT hm (by rw [rt 0 (by decide) (by decide) (by decide) (by decide) (by decide)]; exact hk) k6 (fun r hr' => ⟨fun s2 h1 h2 => (hr r (by omega)).1 s2 (by rw [h1, rt 0 (by decide) (by decide) (by decide) (by decide) (by decide)]) (by rw [h2, rt 15 (by decide) (by decide) (by decide) (by decide) (by decide)]), CR_row (hr r (by omega)).2.1 (fun P hP => rt P (by omega) (by omega) (by omega) (by omega) (by omega))⟩) (fun i hi => by rw [ht 144 (by decide) (by decide) (by decide) (by decide)]; exact e3 i hi) hq hy
          exact ⟨t1, by rw [g1, hAe], fun P h1 h2 h3 h4 => (g2 P h1 h2 h3 h4).trans (ht P h1 h2 h3 h4)⟩
        -- the reference's loop
        have lm : lp (fun (q : Int × Int) => xm_look_b39 M1 p q.1 q.2) (0, 1) = some (((bsA A (c - 2) : Nat) : Int), ((c - 2 : Nat) : Int) + 1) := by
          refine lp_for (fun i => (((bsA A i : Nat) : Int), (i : Int) + 1)) (c - 2) rfl (fun i hi => ?_) ?_
          · show xm_look_b39 M1 p ((bsA A i : Nat) : Int) ((i : Int) + 1) = _
            have hbl := bsA_le A i
            unfold xm_look_b39
            rw [ix0 (by decide) (by decide)]
            simp only [obs]
            rw [f2.1 156 (by unfold VM; omega), sr.2.2.1.1, w32_eq (x := (i : Int) + 1) (by omega) (by omega), w32_eq (x := (c : Int) - 1) (by omega) (by omega), if_pos (by omega), mA (i + 1) (by omega) _ (by omega), mA (bsA A i) (by omega) _ rfl]
            simp only [obs]
            have h1 := hAb (i + 1)
            have h2 := hAb (bsA A i)
            rw [w32_eq (x := ((A (i + 1) : Nat) : Int)) (by omega) (by omega), w32_eq (x := ((A (bsA A i) : Nat) : Int)) (by omega) (by omega)]
            have eb : bsA A (i + 1) = if A (i + 1) < A (bsA A i) then i + 1 else bsA A i := rfl
            rw [eb]
            by_cases hl : A (i + 1) < A (bsA A i)
            · rw [if_pos (by omega), if_pos hl, show ((i + 1 : Nat) : Int) = (i : Int) + 1 by omega]
            · rw [if_neg (by omega), if_neg hl, show ((i + 1 : Nat) : Int) = (i : Int) + 1 by omega]
          · show xm_look_b39 M1 p ((bsA A (c - 2) : Nat) : Int) (((c - 2 : Nat) : Int) + 1) = _
            unfold xm_look_b39
            rw [ix0 (by decide) (by decide)]
            simp only [obs]
            rw [f2.1 156 (by unfold VM; omega), sr.2.2.1.1, w32_eq (x := ((c - 2 : Nat) : Int) + 1) (by omega) (by omega), w32_eq (x := (c : Int) - 1) (by omega) (by omega), if_neg (by omega)]
        have hbl := bsA_le A (c - 2)
        have hAB := hAb (bsA A (c - 2))
        rw [lm]
        simp only [obs]
        rw [mA (bsA A (c - 2)) (by omega) _ rfl]
        simp only [obs]
        rw [w32_eq (x := ((cnt F (k + 1) : Nat) : Int)) (by omega) (by omega), w32_eq (x := ((A (bsA A (c - 2)) : Nat) : Int)) (by omega) (by omega)]
        by_cases hz : cnt F (k + 1) = 0
        · have : A (bsA A (c - 2)) = 0 := by rw [hAe]; exact mC_0.mpr hz
          rw [if_pos (by omega), if_pos (by omega)]
          exact ⟨-2, s1, M1, rfl, rfl, frS s1 (fun P h1 h2 h3 h4 _ => e2 P h1 h2 h3 h4), f2⟩
        · have : A (bsA A (c - 2)) ≠ 0 := by rw [hAe]; exact fun q => hz (mC_0.mp q)
          rw [if_neg (by omega), if_neg (by omega)]
          obtain ⟨t0, g1, g2⟩ := cA 0 s1 0 rfl (by decide) (fun _ _ _ _ _ => rfl)
          rw [g1]
          simp only [obs]
          obtain ⟨r, q1, q2, q3, q4⟩ := lp_forR (B := fun (q : Int × Int × Int × Hp) => xf_look_b59 ln (rsF s) q.2.2.2 p q.1 q.2.1 q.2.2.1) (fun i (q : Int × Int × Int × Hp) => q.1 = ((bsA A i : Nat) : Int) ∧ q.2.1 = ((A (bsA A i) : Nat) : Int) ∧ q.2.2.1 = (i : Int) + 1 ∧ ∀ P, P ≠ 51 → P ≠ 52 → P ≠ 53 → P ≠ 145 → q.2.2.2 P = s1 P) (c - 2) (fun q : Int × Int × Int × Hp => q.1 = ((bsA A (c - 2) : Nat) : Int) ∧ q.2.1 = ((A (bsA A (c - 2)) : Nat) : Int) ∧ ∀ P, P ≠ 51 → P ≠ 52 → P ≠ 53 → P ≠ 145 → q.2.2.2 P = s1 P) (by
            rintro i ⟨x, y, z, t⟩ hi ⟨j1, j2, j3, j4⟩
            replace j1 : x = _ := j1
            replace j2 : y = _ := j2
            replace j3 : z = (i : Int) + 1 := j3
            replace j4 : ∀ P, P ≠ 51 → P ≠ 52 → P ≠ 53 → P ≠ 145 → t P = s1 P := j4
            subst j1
            subst j2
            subst j3
            obtain ⟨t1, b1, b2⟩ := cA (i + 1) t ((i : Int) + 1) (by omega) (by omega) j4
            show ∃ q1, xf_look_b59 ln (rsF s) t p ((bsA A i : Nat) : Int) ((A (bsA A i) : Nat) : Int) ((i : Int) + 1) = some (Sum.inl q1) ∧ _
            unfold xf_look_b59
            rw [j4 26 (by decide) (by decide) (by decide) (by decide), e2 26 (by decide) (by decide) (by decide) (by decide), hwd, w32_eq (x := (i : Int) + 1) (by omega) (by omega), w32_eq (x := (c : Int) - 1) (by omega) (by omega), if_pos (by omega), b1]
            simp only [obs]
            have h1 := hAb (i + 1)
            have h2 := hAb (bsA A i)
            rw [w32_eq (x := ((A (i + 1) : Nat) : Int)) (by omega) (by omega), w32_eq (x := ((A (bsA A i) : Nat) : Int)) (by omega) (by omega)]
            have eb : bsA A (i + 1) = if A (i + 1) < A (bsA A i) then i + 1 else bsA A i := rfl
            rw [eb]
            by_cases hl : A (i + 1) < A (bsA A i)
            · rw [if_pos (by omega), if_pos hl]
              exact ⟨_, rfl, by show (i : Int) + 1 = _; omega, rfl, by show (i : Int) + 1 + 1 = _; omega, b2⟩
            · rw [if_neg (by omega), if_neg hl]
              exact ⟨_, rfl, rfl, rfl, by show (i : Int) + 1 + 1 = _; omega, b2⟩) (by
            rintro ⟨x, y, z, t⟩ ⟨j1, j2, j3, j4⟩
            replace j3 : z = ((c - 2 : Nat) : Int) + 1 := j3
            replace j4 : ∀ P, P ≠ 51 → P ≠ 52 → P ≠ 53 → P ≠ 145 → t P = s1 P := j4
            subst j3
            refine ⟨(x, y, ((c - 2 : Nat) : Int) + 1, t), ?_, j1, j2, j4⟩
            show xf_look_b59 ln (rsF s) t p x y (((c - 2 : Nat) : Int) + 1) = _
            unfold xf_look_b59
            rw [j4 26 (by decide) (by decide) (by decide) (by decide), e2 26 (by decide) (by decide) (by decide) (by decide), hwd, w32_eq (x := ((c - 2 : Nat) : Int) + 1) (by omega) (by omega), w32_eq (x := (c : Int) - 1) (by omega) (by omega), if_neg (by omega)]) (s := (0, ((A 0 : Nat) : Int), 1, t0)) ⟨rfl, rfl, rfl, g2⟩
          rw [q1]
          simp only [obs]
          obtain ⟨x, y, z, t⟩ := r
          replace q2 : x = _ := q2
          replace q3 : y = _ := q3
          replace q4 : ∀ P, P ≠ 51 → P ≠ 52 → P ≠ 53 → P ≠ 145 → t P = s1 P := q4
          subst q2
          subst q3
          have sc : SameC s t := frS t (fun P h1 h2 h3 h4 h5 => (q4 P h1 h2 h3 h5).trans (e2 P h1 h2 h3 h4))
          by_cases hp : p = 0
          · rw [if_pos hp, if_pos hp]
            exact ⟨_, t, M1, rfl, rfl, sc, f2⟩
          · rw [if_neg hp, if_neg hp]
            exact ⟨_, t, M1, rfl, rfl, sc, f2⟩
      · rw [if_pos (c := ¬ (0 ≤ (0 : Int) ∧ (0 : Int) < (m : Int))) (by omega), if_pos (c := (m : Int) = 0) (by omega)]
        exact ⟨-2, s, M, rfl, rfl, sameC_rf, smr⟩
    · refine ⟨-1, s, M, ?_, ?_, sameC_rf, smr⟩
      · by_cases h5 : p < 0
        · rw [if_pos h5]
        rw [if_neg h5]
        by_cases h6 : 1 < p
        · rw [if_pos h6]
        rw [if_neg h6, if_pos (c := (c : Int) = 0) (by omega)]
      · by_cases h1 : 0 < c
        · rw [if_neg (c := ¬ 0 < c) (fun k => k h1), if_pos (c := ¬ (0 ≤ p ∧ p ≤ 1)) (fun h4 => c1 ⟨h4, h1⟩)]
        · rw [if_pos (c := ¬ 0 < c) h1]
  obtain ⟨r, s1, M1, e1, e2, e3, e4⟩ := key
  exact ob_na (args := [.int (Int32.ofInt a1.toInt)]) hn rfl (by rw [← vi]; rfl) ib (fun P kr => xf_look_ok (w0 := w) ib.2.2.1 (rsF_ok ds) ⟨ib.1, Fr_rf⟩ e1 (fun w1 h1 => kr w1 h1)) (fun w1 h1 P kr => xm_look_ok (w0 := w1) StM_M ⟨h1, Fr_rf⟩ e2 (fun w2 h2 => kr w2 h2)) (DS_cg ds (e3.1 15 (by unfold VC; omega)) (e3.1 38 (by unfold VC; omega)) (e3.1 40 (by unfold VC; omega))) (REL_cg rel e3 e4)
end LO
