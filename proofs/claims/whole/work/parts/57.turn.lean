/-! a cloth turned over a line -/
def shf (wd : Int) (p sd : Nat) : Int := if sd = 0 then (if 0 < wd - 2 * p - 2 then wd - 2 * p - 2 else 0) else -(p : Int) - 1
def nPl (K : Nat → Nat → Int) (p sd c : Nat) : Int := (if mvB (K 1) c p sd = true then 2 * (p : Int) + 1 - K 1 c else K 1 c) + shf (K 0 2) p sd
def nLy (K : Nat → Nat → Int) (n p sd wy c : Nat) : Int :=
  if mvB (K 1) c p sd = true then ((thk (K 1) n (K 1 c) : Nat) : Int) - 1 - K 2 c + (if wy = 0 then ((thk (K 1) n (2 * (p : Int) + 1 - K 1 c) : Nat) : Int) else 0)
  else K 2 c + (if wy = 0 then 0 else ((thk (K 1) n (2 * (p : Int) + 1 - K 1 c) : Nat) : Int))
def nUp (K : Nat → Nat → Int) (p sd c : Nat) : Int := if mvB (K 1) c p sd = true then 1 - K 3 c else K 3 c
def nCr (K : Nat → Nat → Int) (p wy j : Nat) : Int := if knd (K 1) (K 3) j p wy = 0 then K 6 j else knd (K 1) (K 3) j p wy
def nWd (wd : Int) (p : Nat) : Int := if wd - p - 1 < p + 1 then (p : Int) + 1 else wd - p - 1
def trK (K : Nat → Nat → Int) (n p sd wy : Nat) : Nat → Nat → Int := fun r i =>
  if r = 0 then (if i = 2 then nWd (K 0 2) p else K 0 i) else if r = 1 then nPl K p sd i else if r = 2 then nLy K n p sd wy i else if r = 3 then nUp K p sd i else if r = 6 then nCr K p wy i else K r i
theorem mvB_t {pl : Nat → Int} {c p sd : Nat} : mvB pl c p sd = true ↔ (sd = 0 ∧ (p : Int) < pl c) ∨ (sd ≠ 0 ∧ pl c ≤ (p : Int)) := by
  unfold mvB
  exact decide_eq_true_iff
theorem nPl_bd {K : Nat → Nat → Int} {n m p sd c : Nat} (w : WF K n m) (hp : (p : Int) + 1 < K 0 2) (hs : sd < 2) (hc : c < n) : 0 ≤ nPl K p sd c ∧ nPl K p sd c < nWd (K 0 2) p := by
  obtain ⟨w8, w4, -, -, wl, wz, wd0, wd9, wc, -, wq⟩ := id w
  have hw := wc c hc
  unfold nPl shf nWd
  by_cases hm : mvB (K 1) c p sd = true
  · have h1 := mvB_t.mp hm
    rw [if_pos hm]
    by_cases q : sd = 0
    · rw [if_pos q]; split <;> split <;> omega
    · rw [if_neg q]; split <;> omega
  · have h1 : ¬ ((sd = 0 ∧ (p : Int) < K 1 c) ∨ (sd ≠ 0 ∧ K 1 c ≤ (p : Int))) := fun q => hm (mvB_t.mpr q)
    rw [if_neg hm]
    by_cases q : sd = 0
    · rw [if_pos q]; split <;> split <;> omega
    · rw [if_neg q]; split <;> omega
theorem nPl_adj {K : Nat → Nat → Int} {n m p sd j : Nat} (w : WF K n m) (hs : sd < 2) (hj : j + 1 < n) : nPl K p sd (j + 1) ≤ nPl K p sd j + 1 ∧ nPl K p sd j ≤ nPl K p sd (j + 1) + 1 := by
  obtain ⟨w8, w4, -, -, wl, wz, wd0, wd9, wc, wj, wq⟩ := id w
  have hw := wj j hj
  unfold nPl
  generalize shf (K 0 2) p sd = z
  by_cases h1 : mvB (K 1) j p sd = true <;> by_cases h2 : mvB (K 1) (j + 1) p sd = true
  · rw [if_pos h1, if_pos h2]; omega
  · have g1 := mvB_t.mp h1
    have g2 : ¬ ((sd = 0 ∧ (p : Int) < K 1 (j + 1)) ∨ (sd ≠ 0 ∧ K 1 (j + 1) ≤ (p : Int))) := fun q => h2 (mvB_t.mpr q)
    rw [if_pos h1, if_neg h2]; omega
  · have g1 := mvB_t.mp h2
    have g2 : ¬ ((sd = 0 ∧ (p : Int) < K 1 j) ∨ (sd ≠ 0 ∧ K 1 j ≤ (p : Int))) := fun q => h1 (mvB_t.mpr q)
    rw [if_neg h1, if_pos h2]; omega
  · rw [if_neg h1, if_neg h2]; omega
theorem WF_tr {K : Nat → Nat → Int} {n m p sd wy : Nat} (w : WF K n m) (hp : (p : Int) + 1 < K 0 2) (hs : sd < 2) : WF (trK K n p sd wy) n m := by
  obtain ⟨w8, w4, w0, w2, wl, wz, wd0, wd9, wc, wj, wq⟩ := id w
  have hn : 0 < n := by omega
  have hW : 1 ≤ nWd (K 0 2) p ∧ nWd (K 0 2) p ≤ n := by unfold nWd; split <;> omega
  refine ⟨w8, w4, fun h => by omega, fun _ => ⟨(w2 hn).1, hW.1⟩, hW.2, by show 0 ≤ nWd (K 0 2) p; omega, wd0, wd9, fun c hc => ?_, fun j hj => ?_, wq⟩
  · have hw := wc c hc
    have hb := nPl_bd w hp hs hc
    refine ⟨hb.1, hb.2, ?_, hw.2.2.2⟩
    show nUp K p sd c = 0 ∨ nUp K p sd c = 1
    unfold nUp
    split <;> omega
  · have hw := wj j hj
    have ha := nPl_adj (p := p) w hs hj
    refine ⟨ha.1, ha.2, ?_⟩
    show 0 ≤ nCr K p wy j ∧ nCr K p wy j ≤ 2
    have hk := knd_3 (K 1) (K 3) j p wy
    unfold nCr
    split <;> omega
section TM
variable {s : Hp} {K : Nat → Nat → Int} {n m : Nat}
theorem xm_cellOf_at {j k : Nat} (hj : j < 8) (hk : k < 4) : xm_cellOf s (j : Int) (k : Int) = some (s 156 (12 + 4 * j + k)) := by
  unfold xm_cellOf
  rw [ixt (12 + 4 * j + k) (by omega) (by omega) (by decide)]
  rfl
theorem rm_isMoved_at {c p sd : Nat} {x : Int} (hc : c < 8) (hx : s 156 (12 + 4 * c) = x) (b1 : -100 ≤ x) (b2 : x ≤ 100) (hp : p < 100) (hs : sd < 2) : xm_isMoved s c p sd = some (if (sd = 0 ∧ (p : Int) < x) ∨ (sd ≠ 0 ∧ x ≤ (p : Int)) then 1 else 0) := by
  have e : xm_cellOf s (c : Int) 0 = some x := by rw [← hx]; exact xm_cellOf_at hc (by decide : 0 < 4)
  unfold xm_isMoved
  rw [e]
  simp only [obs]
  rw [w32_eq (x := x) (by omega) (by omega), w32_eq (x := (p : Int)) (by omega) (by omega), w32_eq (x := (sd : Int)) (by omega) (by omega)]
  by_cases q : sd = 0
  · rw [if_pos (by omega)]
    by_cases q2 : (p : Int) < x
    · rw [if_pos q2, if_pos (by omega)]
    · rw [if_neg q2, if_neg (by omega)]
  · rw [if_neg (by omega)]
    by_cases q2 : (p : Int) < x
    · rw [if_pos q2, if_neg (by omega)]
    · rw [if_neg q2, if_pos (by omega)]
theorem xm_kindBy_cg {s1 : Hp} {j : Nat} {p wy : Int} (hj : j + 1 < 8) (h : ∀ q, q < 44 → s1 156 q = s 156 q) : xm_kindBy s1 (j : Int) p wy = xm_kindBy s (j : Int) p wy := by
  have e : ∀ (i k : Nat), i < 8 → k < 4 → xm_cellOf s1 (i : Int) (k : Int) = xm_cellOf s (i : Int) (k : Int) := fun i k hi hk => by
    rw [xm_cellOf_at hi hk, xm_cellOf_at hi hk, h _ (by omega)]
  have e0 := e j 0 (by omega) (by decide)
  have e1 : xm_cellOf s1 ((j : Int) + 1) 0 = xm_cellOf s ((j : Int) + 1) 0 := e (j + 1) 0 hj (by decide)
  have e2 : xm_cellOf s1 (j : Int) 2 = xm_cellOf s (j : Int) 2 := e j 2 (by omega) (by decide)
  have e0 : xm_cellOf s1 (j : Int) 0 = xm_cellOf s (j : Int) 0 := e0
  unfold xm_kindBy xm_kindBy_j39 xm_kindBy_j64
  rw [e0, e1, e2]
def t1H (s : Hp) (K : Nat → Nat → Int) (n i : Nat) : Hp := fun P q => if P = 157 ∧ q < i then ((thk (K 1) n q : Nat) : Int) else s P q
theorem t1H_row {i P : Nat} (h : P ≠ 157) : t1H s K n i P = s P := funext fun q => if_neg (fun e => h e.1)
theorem t1H_at {i q : Nat} (h : q < i) : t1H s K n i 157 q = ((thk (K 1) n q : Nat) : Int) := if_pos ⟨rfl, h⟩
theorem t1H_0 : t1H s K n 0 = s := hp_ext fun P q => if_neg (by omega)
theorem t1H_st {i : Nat} : uh (t1H s K n i) 157 i ((thk (K 1) n i : Nat) : Int) = t1H s K n (i + 1) := by
  apply hp_ext
  intro P q
  rw [uh_at]
  unfold t1H
  by_cases hq : P = 157 ∧ q = i
  · rw [if_pos hq, if_pos (by omega), hq.2]
  · rw [if_neg hq]
    by_cases hq2 : P = 157 ∧ q < i
    · rw [if_pos hq2, if_pos (by omega)]
    · rw [if_neg hq2, if_neg (by omega)]
theorem rm_turn1 (h : Rf (s 156) K n m) (w : WF K n m) {W : Nat} (hW : K 0 2 = (W : Int)) {p sd wy : Int} : lp (fun (q : Int × Hp) => xm_turnsOver_b12 q.2 p sd wy (W : Int) q.1) (0, s) = some ((W : Int), t1H s K n W) := by
  obtain ⟨w8, w4, -, -, wl, wz, wd0, wd9, wc, -, wq⟩ := id w
  refine lp_for (fun i => ((i : Int), t1H s K n i)) W (by simp only [t1H_0]; rfl) (fun i hi => ?_) ?_
  · show xm_turnsOver_b12 (t1H s K n i) p sd wy (W : Int) (i : Int) = _
    unfold xm_turnsOver_b12
    rw [w32_eq (x := (i : Int)) (by omega) (by omega), w32_eq (x := (W : Int)) (by omega) (by omega), if_pos (by omega), rm_thick (s := t1H s K n i) (K := K) (n := n) (m := m) (by rw [t1H_row (by decide)]; exact h) w (by omega) (by omega), ixt i rfl (by omega) (by decide)]
    simp only [obs]
    rw [t1H_st]
    rfl
  · show xm_turnsOver_b12 (t1H s K n W) p sd wy (W : Int) (W : Int) = _
    unfold xm_turnsOver_b12
    rw [if_neg (by omega)]
def t2H (s : Hp) (K : Nat → Nat → Int) (p wy i : Nat) : Hp := fun P q => if P = 156 ∧ 44 ≤ q ∧ q < 44 + i then nCr K p wy (q - 44) else s P q
theorem t2H_row {p wy i P : Nat} (h : P ≠ 156) : t2H s K p wy i P = s P := funext fun q => if_neg (fun e => h e.1)
theorem t2H_lo {p wy i q : Nat} (h : q < 44 ∨ 44 + i ≤ q) : t2H s K p wy i 156 q = s 156 q := if_neg (by omega)
theorem t2H_at {p wy i j : Nat} (h : j < i) : t2H s K p wy i 156 (44 + j) = nCr K p wy j := by
  unfold t2H
  rw [if_pos (by omega), Nat.add_sub_cancel_left]
theorem t2H_0 {p wy : Nat} : t2H s K p wy 0 = s := hp_ext fun P q => if_neg (by omega)
theorem t2H_st {p wy i : Nat} {v : Int} (hv : v = nCr K p wy i) : uh (t2H s K p wy i) 156 (44 + i) v = t2H s K p wy (i + 1) := by
  apply hp_ext
  intro P q
  rw [uh_at]
  unfold t2H
  by_cases hq : P = 156 ∧ q = 44 + i
  · rw [if_pos hq, if_pos (by omega), hq.2, Nat.add_sub_cancel_left, hv]
  · rw [if_neg hq]
    by_cases hq2 : P = 156 ∧ 44 ≤ q ∧ q < 44 + i
    · rw [if_pos hq2, if_pos (by omega)]
    · rw [if_neg hq2, if_neg (by omega)]
theorem t2H_sk {p wy i : Nat} (hv : s 156 (44 + i) = nCr K p wy i) : t2H s K p wy i = t2H s K p wy (i + 1) := by
  rw [← t2H_st (s := s) hv]
  apply hp_ext
  intro P q
  rw [uh_at]
  by_cases hq : P = 156 ∧ q = 44 + i
  · rw [if_pos hq, hq.1, hq.2, t2H_lo (by omega)]
  · rw [if_neg hq]
theorem rm_turn2 {s0 : Hp} (h : Rf (s0 156) K n m) (hs : s 156 = s0 156) (w : WF K n m) {p wy : Nat} (hp : p < 100) (hwy : wy < 2) {sd x4 : Int} : lp (fun (q : Int × Hp) => xm_turnsOver_b41 q.2 (p : Int) sd (wy : Int) x4 q.1) (0, s) = some (((n - 1 : Nat) : Int), t2H s K p wy (n - 1)) := by
  rw [← hs] at h
  obtain ⟨h0, -, -, -, hcc, hj, -⟩ := id h
  obtain ⟨w8, w4, -, -, wl, wz, wd0, wd9, wc, wj, wq⟩ := id w
  refine lp_for (fun i => ((i : Int), t2H s K p wy i)) (n - 1) (by simp only [t2H_0]; rfl) (fun i hi => ?_) ?_
  · have hk := knd_3 (K 1) (K 3) i p wy
    show xm_turnsOver_b41 (t2H s K p wy i) (p : Int) sd (wy : Int) x4 (i : Int) = _
    unfold xm_turnsOver_b41
    rw [ix0 (by decide) (by decide), xm_kindBy_cg (s := s) (show i + 1 < 8 by omega) (fun q hq => t2H_lo (Or.inl hq)), rm_kindBy h w (show i + 1 < n by omega) hp hwy, ixt (j := 44 + (i : Int)) (44 + i) (by omega) (by omega) (by decide)]
    simp only [obs]
    rw [t2H_lo (Or.inl (by decide)), h0, w32_eq (x := (i : Int)) (by omega) (by omega), w32_eq (x := (n : Int) - 1) (by omega) (by omega), if_pos (by omega), w32_eq (x := knd (K 1) (K 3) i p wy) (by omega) (by omega)]
    by_cases hk0 : knd (K 1) (K 3) i p wy = 0
    · rw [if_pos hk0, t2H_sk (s := s) (i := i) (by rw [hj i (by omega)]; exact (if_pos hk0).symm)]
      rfl
    · rw [if_neg hk0, t2H_st (i := i) (if_neg hk0).symm]
      rfl
  · show xm_turnsOver_b41 (t2H s K p wy (n - 1)) (p : Int) sd (wy : Int) x4 ((n - 1 : Nat) : Int) = _
    unfold xm_turnsOver_b41
    rw [ix0 (by decide) (by decide)]
    simp only [obs]
    rw [t2H_lo (Or.inl (by decide)), h0, w32_eq (x := ((n - 1 : Nat) : Int)) (by omega) (by omega), w32_eq (x := (n : Int) - 1) (by omega) (by omega), if_neg (by omega)]
def N3 (K : Nat → Nat → Int) (n p sd wy c k : Nat) : Int := if k = 0 then nPl K p sd c else if k = 1 then nLy K n p sd wy c else nUp K p sd c
def t3H (s : Hp) (K : Nat → Nat → Int) (n p sd wy i : Nat) : Hp := fun P q => if P = 156 ∧ 12 ≤ q ∧ q < 12 + 4 * i ∧ (q - 12) % 4 < 3 then N3 K n p sd wy ((q - 12) / 4) ((q - 12) % 4) else s P q
theorem t3H_row {p sd wy i P : Nat} (h : P ≠ 156) : t3H s K n p sd wy i P = s P := funext fun q => if_neg (fun e => h e.1)
theorem t3H_lo {p sd wy i q : Nat} (h : q < 12 ∨ 12 + 4 * i ≤ q) : t3H s K n p sd wy i 156 q = s 156 q := if_neg (by omega)
theorem t3H_ow {p sd wy i c : Nat} : t3H s K n p sd wy i 156 (12 + 4 * c + 3) = s 156 (12 + 4 * c + 3) := if_neg (by omega)
theorem t3H_at {p sd wy i c k : Nat} (h : c < i) (hk : k < 3) : t3H s K n p sd wy i 156 (12 + 4 * c + k) = N3 K n p sd wy c k := by
  unfold t3H
  rw [if_pos (by omega), show (12 + 4 * c + k - 12) / 4 = c by omega, show (12 + 4 * c + k - 12) % 4 = k by omega]
theorem t3H_0 {p sd wy : Nat} : t3H s K n p sd wy 0 = s := hp_ext fun P q => if_neg (by omega)
theorem t3H_st {p sd wy i : Nat} {S : Hp} (h0 : S 156 (12 + 4 * i) = nPl K p sd i) (h1 : S 156 (12 + 4 * i + 1) = nLy K n p sd wy i) (h2 : S 156 (12 + 4 * i + 2) = nUp K p sd i) (hr : ∀ P q, ¬ (P = 156 ∧ (q = 12 + 4 * i ∨ q = 12 + 4 * i + 1 ∨ q = 12 + 4 * i + 2)) → S P q = t3H s K n p sd wy i P q) : S = t3H s K n p sd wy (i + 1) := by
  apply hp_ext
  intro P q
  by_cases hq : P = 156 ∧ (q = 12 + 4 * i ∨ q = 12 + 4 * i + 1 ∨ q = 12 + 4 * i + 2)
  · obtain ⟨rfl, rfl | rfl | rfl⟩ := hq
    · rw [h0]; exact (t3H_at (k := 0) (Nat.lt_succ_self i) (by decide)).symm
    · rw [h1]; exact (t3H_at (k := 1) (Nat.lt_succ_self i) (by decide)).symm
    · rw [h2]; exact (t3H_at (k := 2) (Nat.lt_succ_self i) (by decide)).symm
  · rw [hr P q hq]
    unfold t3H
    by_cases hq2 : P = 156 ∧ 12 ≤ q ∧ q < 12 + 4 * i ∧ (q - 12) % 4 < 3
    · rw [if_pos hq2, if_pos (by omega)]
    · rw [if_neg hq2, if_neg (by omega)]
theorem rm_turn3 {s0 : Hp} (h : Rf (s0 156) K n m) (hs : ∀ q, q < 44 → s 156 q = s0 156 q) (w : WF K n m) {W : Nat} (hW : K 0 2 = (W : Int)) (ht : ∀ q, q < W → s 157 q = ((thk (K 1) n q : Nat) : Int)) {p sd wy : Nat} (hp : p + 1 < W) (hsd : sd < 2) (hwy : wy < 2) {x5 : Int} (hx5 : x5 = - shf (K 0 2) p sd) : lp (fun (q : Int × Hp) => xm_turnsOver_b126 q.2 (p : Int) (sd : Int) (wy : Int) (W : Int) x5 q.1) (0, s) = some ((n : Int), t3H s K n p sd wy n) := by
  obtain ⟨h0, -, -, -, hcc, hj, -⟩ := id h
  obtain ⟨w8, w4, -, -, wl, wz, wd0, wd9, wc, wj, wq⟩ := id w
  have hn : s 156 0 = (n : Int) := by rw [hs 0 (by decide)]; exact h0
  refine lp_for (fun i => ((i : Int), t3H s K n p sd wy i)) n (by simp only [t3H_0]; rfl) (fun i hi => ?_) ?_
  · have hw := wc i hi
    have hcx := hcc i hi
    have c0 : s 156 (12 + 4 * i) = K 1 i := by rw [hs _ (by omega)]; exact hcx.1
    have c1 : s 156 (12 + 4 * i + 1) = K 2 i := by rw [hs _ (by omega)]; exact hcx.2.1
    have c2 : s 156 (12 + 4 * i + 2) = K 3 i := by rw [hs _ (by omega)]; exact hcx.2.2.1
    have t0 : t3H s K n p sd wy i 156 (12 + 4 * i) = K 1 i := by rw [t3H_lo (by omega)]; exact c0
    have t1 : t3H s K n p sd wy i 156 (12 + 4 * i + 1) = K 2 i := by rw [t3H_lo (by omega)]; exact c1
    have t2 : t3H s K n p sd wy i 156 (12 + 4 * i + 2) = K 3 i := by rw [t3H_lo (by omega)]; exact c2
    have i0 : ix 130 (12 + 4 * (i : Int)) = some (12 + 4 * i) := ixt _ (by omega) (by omega) (by decide)
    have i1 : ix 130 (12 + 4 * (i : Int) + 1) = some (12 + 4 * i + 1) := ixt _ (by omega) (by omega) (by decide)
    have i2 : ix 130 (12 + 4 * (i : Int) + 2) = some (12 + 4 * i + 2) := ixt _ (by omega) (by omega) (by decide)
    -- what lies across
    have hth : ∀ k, (∀ v : Int, v = ((thk (K 1) n (2 * (p : Int) + 1 - K 1 i) : Nat) : Int) → xm_turnsOver_b126_j191 (t3H s K n p sd wy i) (p : Int) (sd : Int) (wy : Int) (W : Int) x5 (i : Int) (12 + 4 * (i : Int)) (K 1 i) (2 * (p : Int) + 1 - K 1 i) v = k) → xm_turnsOver_b126 (t3H s K n p sd wy i) (p : Int) (sd : Int) (wy : Int) (W : Int) x5 (i : Int) = k := by
      intro k hk
      unfold xm_turnsOver_b126
      rw [ix0 (by decide) (by decide), i0]
      simp only [obs]
      rw [t3H_lo (q := 0) (by omega), hn, t0, w32_eq (x := (i : Int)) (by omega) (by omega), w32_eq (x := (n : Int)) (by omega) (by omega), if_pos (by omega), w32_eq (x := 2 * (p : Int) + 1 - K 1 i) (by omega) (by omega), w32_eq (x := (W : Int) - 1) (by omega) (by omega), rm_in (by omega) (by omega) (by omega) (by omega) (by omega) (by omega)]
      simp only [obs, tb0]
      by_cases hin : 0 ≤ 2 * (p : Int) + 1 - K 1 i ∧ 2 * (p : Int) + 1 - K 1 i ≤ (W : Int) - 1
      · rw [if_neg (fun q => q hin), ixt (2 * (p : Int) + 1 - K 1 i).toNat (by omega) (by omega) (by decide)]
        simp only [obs]
        exact hk _ (by rw [t3H_row (by decide), ht _ (by omega), show (((2 * (p : Int) + 1 - K 1 i).toNat : Nat) : Int) = 2 * (p : Int) + 1 - K 1 i by omega])
      · rw [if_pos hin]
        exact hk _ (by rw [thk_0 (fun c hc => by have := wc c hc; omega)]; rfl)
    show xm_turnsOver_b126 (t3H s K n p sd wy i) (p : Int) (sd : Int) (wy : Int) (W : Int) x5 (i : Int) = _
    refine hth _ (fun v hv => ?_)
    unfold xm_turnsOver_b126_j191
    rw [rm_isMoved_at (s := t3H s K n p sd wy i) (c := i) (by omega) t0 (by omega) (by omega) (by omega) hsd]
    simp only [obs]
    by_cases hm : (sd = 0 ∧ (p : Int) < K 1 i) ∨ (sd ≠ 0 ∧ K 1 i ≤ (p : Int))
    · have hmB := mvB_t.mpr hm
      rw [if_pos hm, if_neg (by decide), ixt (j := K 1 i) (K 1 i).toNat (by omega) (by omega) (by decide), i1]
      simp only [obs]
      have e7 : t3H s K n p sd wy i 157 (K 1 i).toNat = ((thk (K 1) n (K 1 i) : Nat) : Int) := by
        rw [t3H_row (by decide), ht _ (by omega), show (((K 1 i).toNat : Nat) : Int) = K 1 i by omega]
      rw [e7, t1]
      have ej : ∀ k3 : Int, k3 = (if wy = 0 then ((thk (K 1) n (2 * (p : Int) + 1 - K 1 i) : Nat) : Int) else 0) → xm_turnsOver_b126_j241 (t3H s K n p sd wy i) (p : Int) (sd : Int) (wy : Int) (W : Int) x5 (i : Int) (12 + 4 * (i : Int)) (2 * (p : Int) + 1 - K 1 i) (12 + 4 * (i : Int) + 1) (((thk (K 1) n (K 1 i) : Nat) : Int) - 1 - K 2 i) k3 = some (.inl (((i + 1 : Nat) : Int), t3H s K n p sd wy (i + 1))) := by
        intro k3 hk3
        unfold xm_turnsOver_b126_j241
        rw [i0, i1, i2]
        simp only [obs]
        rw [t3H_st (s := s) (K := K) (n := n) (p := p) (sd := sd) (wy := wy) (i := i) (S := uh (uh (uh (t3H s K n p sd wy i) 156 (12 + 4 * i + 1) (((thk (K 1) n (K 1 i) : Nat) : Int) - 1 - K 2 i + k3)) 156 (12 + 4 * i + 2) (1 - uh (t3H s K n p sd wy i) 156 (12 + 4 * i + 1) (((thk (K 1) n (K 1 i) : Nat) : Int) - 1 - K 2 i + k3) 156 (12 + 4 * i + 2))) 156 (12 + 4 * i) (2 * (p : Int) + 1 - K 1 i - x5))]
        · rfl
        · rw [uh_rc, hx5]
          unfold nPl
          rw [if_pos hmB]
          omega
        · rw [uh_ro _ _ _ _ (by omega), uh_ro _ _ _ _ (by omega), uh_rc, hk3]
          unfold nLy
          rw [if_pos hmB]
        · rw [uh_ro _ _ _ _ (by omega), uh_rc, uh_ro _ _ _ _ (by omega), t2]
          unfold nUp
          rw [if_pos hmB]
        · intro P q hq
          by_cases hP : P = 156
          · subst hP
            rw [uh_ro _ _ _ _ (by omega), uh_ro _ _ _ _ (by omega), uh_ro _ _ _ _ (by omega)]
          · rw [uh_row hP, uh_row hP, uh_row hP]
      by_cases hy : wy = 0
      · rw [if_pos (by rw [w32_eq (by omega) (by omega)]; omega)]
        exact ej v (by rw [if_pos hy]; exact hv)
      · rw [if_neg (by rw [w32_eq (by omega) (by omega)]; omega)]
        exact ej 0 (by rw [if_neg hy])
    · have hmB : ¬ mvB (K 1) i p sd = true := fun q => hm (mvB_t.mp q)
      rw [if_neg hm, if_pos (by decide), i0, i1]
      simp only [obs]
      rw [show w32 1 = 1 by decide, w32_eq (x := (wy : Int)) (by omega) (by omega)]
      by_cases hy : wy = 0
      · rw [if_neg (by omega)]
        rw [t3H_st (s := s) (K := K) (n := n) (p := p) (sd := sd) (wy := wy) (i := i) (S := uh (t3H s K n p sd wy i) 156 (12 + 4 * i) (K 1 i - x5))]
        · rfl
        · rw [uh_rc, hx5]
          unfold nPl
          rw [if_neg hmB]
          omega
        · rw [uh_ro _ _ _ _ (by omega), t1]
          unfold nLy
          rw [if_neg hmB, if_pos hy]
          omega
        · rw [uh_ro _ _ _ _ (by omega), t2]
          unfold nUp
          rw [if_neg hmB]
        · intro P q hq
          by_cases hP : P = 156
          · subst hP
            rw [uh_ro _ _ _ _ (by omega)]
          · rw [uh_row hP]
      · rw [if_pos (by omega), t1]
        rw [t3H_st (s := s) (K := K) (n := n) (p := p) (sd := sd) (wy := wy) (i := i) (S := uh (uh (t3H s K n p sd wy i) 156 (12 + 4 * i + 1) (K 2 i + v)) 156 (12 + 4 * i) (K 1 i - x5))]
        · rfl
        · rw [uh_rc, hx5]
          unfold nPl
          rw [if_neg hmB]
          omega
        · rw [uh_ro _ _ _ _ (by omega), uh_rc]
          unfold nLy
          rw [if_neg hmB, if_neg hy, hv]
        · rw [uh_ro _ _ _ _ (by omega), uh_ro _ _ _ _ (by omega), t2]
          unfold nUp
          rw [if_neg hmB]
        · intro P q hq
          by_cases hP : P = 156
          · subst hP
            rw [uh_ro _ _ _ _ (by omega), uh_ro _ _ _ _ (by omega)]
          · rw [uh_row hP, uh_row hP]
  · show xm_turnsOver_b126 (t3H s K n p sd wy n) (p : Int) (sd : Int) (wy : Int) (W : Int) x5 (n : Int) = _
    unfold xm_turnsOver_b126
    rw [ix0 (by decide) (by decide)]
    simp only [obs]
    rw [t3H_lo (q := 0) (by omega), hn, if_neg (by omega)]
end TM
