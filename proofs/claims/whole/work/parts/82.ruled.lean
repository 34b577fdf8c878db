/-! which rules are so: ruled -/
noncomputable def bP (p : Prop) : Bool := @decide p (Classical.propDecidable p)
theorem bP_t {p : Prop} : bP p = true ↔ p := by
  unfold bP
  exact @decide_eq_true_iff p (Classical.propDecidable p)
theorem bP_1 {p : Prop} (h : p) : bP p = true := bP_t.mpr h
theorem bP_0 {p : Prop} (h : ¬ p) : bP p = false := by
  cases hb : bP p with
  | false => rfl
  | true => exact absurd (bP_t.mp hb) h
theorem first_nc {P : Nat → Prop} {n : Nat} (h : ¬ (∀ i, i < n → P i)) : ∃ m, m < n ∧ ¬ P m ∧ ∀ i, i < m → P i := @first_no P (fun _ => Classical.propDecidable _) n h
noncomputable def cqV (ro : Option (List Cls)) (T : Nat → Nat → Int) (n f : Nat) (no : Int) : Int := if bP (canF (T 1) (T 3) (T 6) n (f / 4) (f % 2)) = true then tot ro T n 0 (f / 4) (f / 2 % 2) (f % 2) else no
theorem cqV_bd {ro : Option (List Cls)} {T : Nat → Nat → Int} {n m f : Nat} {no : Int} (w : WF T n m) (h1 : -2 ≤ no) (h2 : no ≤ 7992) : -2 ≤ cqV ro T n f no ∧ cqV ro T n f no ≤ 7992 := by
  have := tot_bd (ro := ro) (b := 0) (p := f / 4) (sd := f / 2 % 2) (wy := f % 2) w
  unfold cqV
  split <;> omega
theorem cqV_c {ro : Option (List Cls)} {T : Nat → Nat → Int} {n m f : Nat} (w : WF T n m) {c : Int} (hc : 0 ≤ c) : cqV ro T n f (-1) = c ↔ cqV ro T n f (-2) = c := by
  unfold cqV
  split
  · exact Iff.rfl
  · omega
section QQ
variable {s : Hp} {T : Nat → Nat → Int} {n m : Nat} {ln : Nat → Nat} {rs : Nat → Int} {u : Int} {ro : Option (List Cls)}
theorem cq_c (h : Cl s 26 T n m) (w : WF T n m) (hr : CR ln s u ro) (hm : 0 < m) {f : Nat} (hf : f < 64) : ∃ s1, xk_quote ln rs s 26 u 0 (f : Int) = some (cqV ro T n f (-2), s1) ∧ ∀ P, P ≠ 51 → P ≠ 52 → P ≠ 53 → s1 P = s P := by
  have hq := cl_quote (rs := rs) (b := 0) h w (by unfold awayM; omega) hr hm hf
  by_cases hc : canF (T 1) (T 3) (T 6) n (f / 4) (f % 2)
  · obtain ⟨s1, q1, q2, -⟩ := hq.2 hc
    refine ⟨s1, ?_, q2⟩
    unfold cqV
    rw [if_pos (bP_1 hc)]
    exact q1
  · refine ⟨s, ?_, fun _ _ _ _ => rfl⟩
    unfold cqV
    rw [if_neg (by rw [bP_0 hc]; decide)]
    exact hq.1 hc
theorem cq_m {M : Hp} (h : Rf (M 156) T n m) (w : WF T n m) (hr : RR M ro) (hm : 0 < m) {p sd wy : Nat} {x y z : Int} (hx : x = (p : Int)) (hy : y = (sd : Int)) (hz : z = (wy : Int)) (hp : p < 16) (hs : sd < 2) (hwy : wy < 2) : ∃ M1, xm_costAt M x y z = some (cqV ro T n (4 * p + 2 * sd + wy) (-1), M1) ∧ PK M M1 := by
  subst hx
  subst hy
  subst hz
  unfold xm_costAt cqV
  rw [show (4 * p + 2 * sd + wy) / 4 = p by omega, show (4 * p + 2 * sd + wy) / 2 % 2 = sd by omega, show (4 * p + 2 * sd + wy) % 2 = wy by omega]
  by_cases hc : canF (T 1) (T 3) (T 6) n p wy
  · obtain ⟨M1, q1, q2, -⟩ := rm_prices h w hr hm (p := p) (sd := sd) (wy := wy) (by omega) hs hwy
    replace q1 : xm_prices M 0 (p : Int) (sd : Int) (wy : Int) = some (tot ro T n 0 p sd wy, M1) := q1
    rw [(rm_can h w (by omega) hwy).1 hc, if_pos (bP_1 hc)]
    simp only [obs]
    rw [if_neg (by decide), q1]
    exact ⟨M1, rfl, q2⟩
  · rw [(rm_can h w (by omega) hwy).2 hc, if_neg (by rw [bP_0 hc]; decide)]
    simp only [obs]
    rw [if_pos (by decide)]
    exact ⟨M, rfl, PK_rf⟩
end QQ
/-- the logs are so by a rule -/
def fitP (ro : Option (List Cls)) (T : Nat → Nat → Int) (n LC : Nat) (fN : Nat → Nat) (cN : Nat → Int) : Prop := ∀ i, i < LC → cqV ro T n (fN i) (-2) = cN i
section EX
variable {s : Hp} {T : Nat → Nat → Int} {n m LC : Nat} {ln : Nat → Nat} {rs : Nat → Int} {u : Int} {ro : Option (List Cls)} {fN : Nat → Nat} {cN : Nat → Int}
theorem cx_log (h : Cl s 26 T n m) (w : WF T n m) (hr : CR ln s u ro) (hlc : s 16 5 = (LC : Int)) (h10 : LC ≤ 10) (hm : 0 < LC → 0 < m) (hl : ∀ i, i < LC → s 36 i = ((fN i : Nat) : Int) ∧ fN i < 64 ∧ s 37 i = cN i ∧ 0 ≤ cN i ∧ cN i ≤ 9999) : ∃ s1, xf_explainsLogs ln rs s u = some (if bP (fitP ro T n LC fN cN) = true then 1 else 0, s1) ∧ ∀ P, P ≠ 51 → P ≠ 52 → P ≠ 53 → s1 P = s P := by
  unfold xf_explainsLogs
  -- a step
  have step : ∀ i (t : Hp), i < LC → (∀ P, P ≠ 51 → P ≠ 52 → P ≠ 53 → t P = s P) → ∃ t1, (∀ P, P ≠ 51 → P ≠ 52 → P ≠ 53 → t1 P = s P) ∧ (cqV ro T n (fN i) (-2) = cN i → xf_explainsLogs_b2 ln rs t u (i : Int) = some (.inl ((i : Int) + 1, t1))) ∧ (¬ cqV ro T n (fN i) (-2) = cN i → xf_explainsLogs_b2 ln rs t u (i : Int) = some (.inr (.inr (0, t1)))) := by
    intro i t hi ht
    obtain ⟨l1, l2, l3, l4, l5⟩ := hl i hi
    obtain ⟨t1, q1, q2⟩ := cq_c (rs := rs) (s := t) (f := fN i) (Cl_row h (fun j hj => ht _ (by omega) (by omega) (by omega))) w (CR_row hr (fun P hP => ht P (by omega) (by omega) (by omega))) (hm (by omega)) l2
    have e1 : ∀ P, P ≠ 51 → P ≠ 52 → P ≠ 53 → t1 P = s P := fun P a b c => (q2 P a b c).trans (ht P a b c)
    have hb := cqV_bd (ro := ro) (f := fN i) (no := -2) w (by decide) (by decide)
    refine ⟨t1, e1, fun hc => ?_, fun hc => ?_⟩
    · unfold xf_explainsLogs_b2
      rw [ht 16 (by decide) (by decide) (by decide), hlc, w32_eq (x := (i : Int)) (by omega) (by omega), w32_eq (x := (LC : Int)) (by omega) (by omega), if_pos (by omega), ixt i rfl (by omega) (by decide)]
      simp only [obs]
      rw [ht 36 (by decide) (by decide) (by decide), l1, q1]
      simp only [obs]
      rw [e1 37 (by decide) (by decide) (by decide), l3, hc, if_pos rfl]
    · unfold xf_explainsLogs_b2
      rw [ht 16 (by decide) (by decide) (by decide), hlc, w32_eq (x := (i : Int)) (by omega) (by omega), w32_eq (x := (LC : Int)) (by omega) (by omega), if_pos (by omega), ixt i rfl (by omega) (by decide)]
      simp only [obs]
      rw [ht 36 (by decide) (by decide) (by decide), l1, q1]
      simp only [obs]
      rw [e1 37 (by decide) (by decide) (by decide), l3, w32_eq (x := cqV ro T n (fN i) (-2)) (by omega) (by omega), w32_eq (x := cN i) (by omega) (by omega), if_neg hc]
  by_cases hf : fitP ro T n LC fN cN
  · obtain ⟨r, e1, t1, e2, e3⟩ := lp_forR (B := fun (q : Int × Hp) => xf_explainsLogs_b2 ln rs q.2 u q.1) (fun i (q : Int × Hp) => q.1 = (i : Int) ∧ ∀ P, P ≠ 51 → P ≠ 52 → P ≠ 53 → q.2 P = s P) LC (fun r => ∃ t1 : Hp, r = .inl ((LC : Int), t1) ∧ ∀ P, P ≠ 51 → P ≠ 52 → P ≠ 53 → t1 P = s P) (by
      rintro i ⟨x, t⟩ hi ⟨j1, j2⟩
      replace j1 : x = (i : Int) := j1
      subst j1
      obtain ⟨t1, g1, g2, -⟩ := step i t hi j2
      exact ⟨_, g2 (hf i hi), by show (i : Int) + 1 = _; omega, g1⟩) (by
      rintro ⟨x, t⟩ ⟨j1, j2⟩
      replace j1 : x = (LC : Int) := j1
      replace j2 : ∀ P, P ≠ 51 → P ≠ 52 → P ≠ 53 → t P = s P := j2
      subst j1
      refine ⟨_, ?_, t, rfl, j2⟩
      show xf_explainsLogs_b2 ln rs t u (LC : Int) = _
      unfold xf_explainsLogs_b2
      rw [j2 16 (by decide) (by decide) (by decide), hlc, if_neg (by omega)]) (s := (0, s)) ⟨rfl, fun _ _ _ _ => rfl⟩
    rw [e1, e2, if_pos (bP_1 hf)]
    exact ⟨t1, rfl, e3⟩
  · obtain ⟨k, k1, k2, k3⟩ := first_nc hf
    obtain ⟨r, e1, t1, e2, e3⟩ := lp_forR (B := fun (q : Int × Hp) => xf_explainsLogs_b2 ln rs q.2 u q.1) (fun i (q : Int × Hp) => q.1 = (i : Int) ∧ ∀ P, P ≠ 51 → P ≠ 52 → P ≠ 53 → q.2 P = s P) k (fun r => ∃ t1 : Hp, r = .inr (0, t1) ∧ ∀ P, P ≠ 51 → P ≠ 52 → P ≠ 53 → t1 P = s P) (by
      rintro i ⟨x, t⟩ hi ⟨j1, j2⟩
      replace j1 : x = (i : Int) := j1
      subst j1
      obtain ⟨t1, g1, g2, -⟩ := step i t (by omega) j2
      exact ⟨_, g2 (k3 i hi), by show (i : Int) + 1 = _; omega, g1⟩) (by
      rintro ⟨x, t⟩ ⟨j1, j2⟩
      replace j1 : x = (k : Int) := j1
      subst j1
      obtain ⟨t1, g1, -, g2⟩ := step k t k1 j2
      exact ⟨_, g2 k2, t1, rfl, g1⟩) (s := (0, s)) ⟨rfl, fun _ _ _ _ => rfl⟩
    rw [e1, e2, if_neg (by rw [bP_0 hf]; decide)]
    exact ⟨t1, rfl, e3⟩
end EX
/-- the cloth as the text told it, by the reference -/
theorem rm_begins {M : Hp} {n m : Nat} (h0 : M 156 0 = (n : Int)) (h1 : M 156 1 = (m : Int)) (w : WF (tdK (M 156)) n m) : ∃ M1, xm_begins M = some M1 ∧ Rf (M1 156) (tdK (M 156)) n m ∧ SD M M1 := by
  have w8 := w.1
  have w4 := w.2.1
  unfold xm_begins
  rw [ix11 (by decide) (by decide)]
  simp only [obs]
  obtain ⟨M1, a1, a2, a3, a4, a5⟩ := rm_liesOpen (s := uh M 156 11 0) (n := n) (by rw [uh_ro _ _ _ _ (by decide)]; exact h0) w8
  rw [a1]
  simp only [obs]
  obtain ⟨M2, b1, b2, b3, b4⟩ := cp_loop (B := fun (q : Int × Hp) => xm_begins_b14 q.2 q.1) 156 156 8 (fun i => 63 + i) (fun i => 12 + 4 * i + 3) M1 (fun i j _ _ h => by omega) (fun _ i j hi hj => by omega) (fun i M' hi _ _ => by
    show xm_begins_b14 M' (i : Int) = _
    unfold xm_begins_b14
    rw [w32_eq (x := (i : Int)) (by omega) (by omega), if_pos (by rw [show w32 8 = 8 by decide]; omega), ixt (63 + i) (by omega) (by omega) (by decide), ixt (12 + 4 * i + 3) (by omega) (by omega) (by decide)]
    rfl) (fun M' _ _ => by
    show xm_begins_b14 M' ((8 : Nat) : Int) = _
    unfold xm_begins_b14
    rw [if_neg (by decide)])
  rw [b1]
  simp only [obs]
  obtain ⟨M3, c1, c2, c3, c4⟩ := cp_loop (B := fun (q : Int × Hp) => xm_begins_b50 q.2 q.1) 156 156 7 (fun i => 71 + i) (fun i => 44 + i) M2 (fun i j _ _ h => by omega) (fun _ i j hi hj => by omega) (fun i M' hi _ _ => by
    show xm_begins_b50 M' (i : Int) = _
    unfold xm_begins_b50
    rw [w32_eq (x := (i : Int)) (by omega) (by omega), if_pos (by rw [show w32 7 = 7 by decide]; omega), ixt (71 + i) (by omega) (by omega) (by decide), ixt (44 + i) (by omega) (by omega) (by decide)]
    rfl) (fun M' _ _ => by
    show xm_begins_b50 M' ((7 : Nat) : Int) = _
    unfold xm_begins_b50
    rw [if_neg (by decide)])
  rw [c1]
  simp only [obs]
  obtain ⟨M4, d1, d2, d3, d4⟩ := cp_loop (B := fun (q : Int × Hp) => xm_begins_b82 q.2 q.1) 156 156 4 (fun i => 78 + i) (fun i => 51 + i) M3 (fun i j _ _ h => by omega) (fun _ i j hi hj => by omega) (fun i M' hi _ _ => by
    show xm_begins_b82 M' (i : Int) = _
    unfold xm_begins_b82
    rw [w32_eq (x := (i : Int)) (by omega) (by omega), if_pos (by rw [show w32 4 = 4 by decide]; omega), ixt (78 + i) (by omega) (by omega) (by decide), ixt (51 + i) (by omega) (by omega) (by decide)]
    rfl) (fun M' _ _ => by
    show xm_begins_b82 M' ((4 : Nat) : Int) = _
    unfold xm_begins_b82
    rw [if_neg (by decide)])
  rw [d1]
  simp only [obs]
  -- far rows stay
  have far : ∀ q, q < 10 ∨ 55 ≤ q → M4 156 q = M 156 q := fun q hq => by
    rw [d4 q (fun j hj => by omega), c4 q (fun j hj => by omega), b4 q (fun j hj => by omega), a5 q (by omega) (fun j hj => by omega), uh_ro _ _ _ _ (by omega)]
  refine ⟨M4, rfl, ⟨?_, ?_, ?_, ?_, fun c hc => ⟨?_, ?_, ?_, ?_, ?_⟩, fun j hj => ?_, fun p hp => ?_⟩, fun P h1 _ => ?_, far⟩
  · rw [far 0 (by omega)]; exact h0
  · rw [far 1 (by omega)]; exact h1
  · show _ = M 156 0
    rw [d4 10 (fun j hj => by omega), c4 10 (fun j hj => by omega), b4 10 (fun j hj => by omega), a3, h0]
  · show _ = (0 : Int)
    rw [d4 11 (fun j hj => by omega), c4 11 (fun j hj => by omega), b4 11 (fun j hj => by omega), a5 11 (by omega) (fun j hj => by omega), uh_rc]
  · show _ = (c : Int)
    rw [d4 _ (fun j hj => by omega), c4 _ (fun j hj => by omega), b4 _ (fun j hj => by omega), (a4 c hc).1]
  · show _ = (0 : Int)
    rw [d4 _ (fun j hj => by omega), c4 _ (fun j hj => by omega), b4 _ (fun j hj => by omega), (a4 c hc).2.1]
  · show _ = (1 : Int)
    rw [d4 _ (fun j hj => by omega), c4 _ (fun j hj => by omega), b4 _ (fun j hj => by omega), (a4 c hc).2.2]
  · show _ = M 156 (63 + c)
    rw [d4 _ (fun j hj => by omega), c4 _ (fun j hj => by omega), b3 c (by omega), a5 _ (by omega) (fun j hj => by omega), uh_ro _ _ _ _ (by omega)]
  · show _ = M 156 (55 + c)
    exact far _ (by omega)
  · show _ = M 156 (71 + j)
    rw [d4 _ (fun j hj => by omega), c3 j (by omega), b4 _ (fun j hj => by omega), a5 _ (by omega) (fun j hj => by omega), uh_ro _ _ _ _ (by omega)]
  · show _ = M 156 (78 + p)
    rw [d3 p (by omega), c4 _ (fun j hj => by omega), b4 _ (fun j hj => by omega), a5 _ (by omega) (fun j hj => by omega), uh_ro _ _ _ _ (by omega)]
  · rw [d2 P h1, c2 P h1, b2 P h1, a2 P h1, uh_row h1]
