/-! folds by marks: the class -/
def mkOK (n : Nat) (mk : Nat → Int) (K : Pic) (f : Nat) : Prop := ∀ j, j < n - 1 → knd (K 1) (K 3) j (f / 4) (f % 2) = 0 ∨ knd (K 1) (K 3) j (f / 4) (f % 2) = mk j
noncomputable def stpM (n : Nat) (mk : Nat → Int) (K : Pic) (f : Nat) : Option Pic := if bP (mkOK n mk K f) = true then some (trK K n (f / 4) (f / 2 % 2) (f % 2)) else none
noncomputable def stp0 (n : Nat) (mk : Nat → Int) (K : Pic) (f : Nat) : Option Pic := if f / 2 % 2 = 0 then stpM n mk K f else none
noncomputable def glM (n : Nat) (mk : Nat → Int) (K : Pic) : Bool := bP (∀ j, j < n - 1 → K 6 j = mk j)
def flK (n : Nat) : Pic := fun r i => if r = 0 then (if i = 2 then (n : Int) else 0) else if r = 1 then (i : Int) else if r = 2 then 0 else if r = 3 then 1 else 0
theorem WFF_fl {n : Nat} (h2 : 2 ≤ n) (h8 : n ≤ 8) : WFF (flK n) n 0 := by
  refine ⟨h8, by decide, fun h => by omega, fun _ => ⟨h2, ?_⟩, ?_, ?_, trivial, trivial, fun c hc => ?_, fun j hj => ?_, trivial⟩
  · show (1 : Int) ≤ (n : Int)
    omega
  · show (n : Int) ≤ (n : Int)
    omega
  · show (0 : Int) ≤ (n : Int)
    omega
  · show (0 : Int) ≤ (c : Int) ∧ (c : Int) < (n : Int) ∧ ((1 : Int) = 0 ∨ (1 : Int) = 1) ∧ True
    exact ⟨by omega, by omega, Or.inr rfl, trivial⟩
  · show ((j + 1 : Nat) : Int) ≤ (j : Int) + 1 ∧ (j : Int) ≤ ((j + 1 : Nat) : Int) + 1 ∧ (0 : Int) ≤ 0 ∧ (0 : Int) ≤ 2
    omega
/-- a flat cloth is begun -/
theorem cl_beginFlat {s : Hp} {a n : Nat} (h8 : n ≤ 8) : ∃ s1, xl_beginFlat s a (n : Int) = some s1 ∧ (∀ P, ¬ (a ≤ P ∧ P ≤ a + 7) → s1 P = s P) ∧ s1 a 0 = (n : Int) ∧ s1 a 1 = 0 ∧ s1 a 2 = (n : Int) ∧ s1 a 3 = 0 ∧ ∀ c, c < 8 → s1 (a + 1) c = (c : Int) ∧ s1 (a + 2) c = 0 ∧ s1 (a + 3) c = 1 ∧ s1 (a + 4) c = -1 ∧ s1 (a + 5) c = 1 ∧ s1 (a + 6) c = 0 ∧ s1 (a + 7) c = if c < n then 1 else 0 := by
  unfold xl_beginFlat
  simp only [obs]
  generalize hS : uh (uh (uh s a 0 (n : Int)) a 1 0) a 3 0 = S
  have sr : ∀ P, P ≠ a → S P = s P := fun P hP => by rw [← hS, uh_row hP, uh_row hP, uh_row hP]
  have s0 : S a 0 = (n : Int) := by rw [← hS, uh_ro _ _ _ _ (by decide), uh_ro _ _ _ _ (by decide), uh_rc]
  have s1 : S a 1 = 0 := by rw [← hS, uh_ro _ _ _ _ (by decide), uh_rc]
  have s3 : S a 3 = 0 := by rw [← hS, uh_rc]
  obtain ⟨r, e1, e2, e3⟩ := lp_forR (B := fun (q : Int × Hp) => xl_beginFlat_b17 q.2 a q.1) (fun i (q : Int × Hp) => q.1 = (i : Int) ∧ (∀ P, P ≠ a + 4 → P ≠ a + 5 → P ≠ a + 6 → q.2 P = S P) ∧ ∀ c, c < i → q.2 (a + 4) c = -1 ∧ q.2 (a + 5) c = 1 ∧ q.2 (a + 6) c = 0) 8 (fun q : Int × Hp => (∀ P, P ≠ a + 4 → P ≠ a + 5 → P ≠ a + 6 → q.2 P = S P) ∧ ∀ c, c < 8 → q.2 (a + 4) c = -1 ∧ q.2 (a + 5) c = 1 ∧ q.2 (a + 6) c = 0) (by
    rintro i ⟨x, t⟩ hi ⟨j1, j2, j3⟩
    replace j1 : x = (i : Int) := j1
    replace j2 : ∀ P, P ≠ a + 4 → P ≠ a + 5 → P ≠ a + 6 → t P = S P := j2
    replace j3 : ∀ c, c < i → t (a + 4) c = -1 ∧ t (a + 5) c = 1 ∧ t (a + 6) c = 0 := j3
    subst j1
    show ∃ q1, xl_beginFlat_b17 t a (i : Int) = some (Sum.inl q1) ∧ _
    unfold xl_beginFlat_b17
    rw [w32_eq (x := (i : Int)) (by omega) (by omega), if_pos (by rw [show w32 8 = 8 by decide]; omega), ixt i rfl hi (by decide)]
    simp only [obs]
    refine ⟨_, rfl, by show (i : Int) + 1 = _; omega, fun P h4 h5 h6 => ?_, fun c hc => ?_⟩
    · show uh (uh (uh t (a + 4) i (-1)) (a + 5) i 1) (a + 6) i 0 P = _
      rw [uh_row h6, uh_row h5, uh_row h4]; exact j2 P h4 h5 h6
    · show uh (uh (uh t (a + 4) i (-1)) (a + 5) i 1) (a + 6) i 0 (a + 4) c = _ ∧ uh (uh (uh t (a + 4) i (-1)) (a + 5) i 1) (a + 6) i 0 (a + 5) c = _ ∧ uh (uh (uh t (a + 4) i (-1)) (a + 5) i 1) (a + 6) i 0 (a + 6) c = _
      rw [uh_row (p := a + 4) (a := a + 6) (by omega), uh_row (p := a + 4) (a := a + 5) (by omega), uh_row (p := a + 5) (a := a + 6) (by omega)]
      by_cases hci : c = i
      · subst hci
        rw [uh_rc, uh_rc, uh_rc]
        exact ⟨rfl, rfl, rfl⟩
      · rw [uh_ro _ _ _ _ hci, uh_ro _ _ _ _ hci, uh_ro _ _ _ _ hci, uh_row (p := a + 5) (a := a + 4) (by omega), uh_row (p := a + 6) (a := a + 5) (by omega), uh_row (p := a + 6) (a := a + 4) (by omega)]
        exact j3 c (by omega)) (by
    rintro ⟨x, t⟩ ⟨j1, j2, j3⟩
    replace j1 : x = ((8 : Nat) : Int) := j1
    subst j1
    refine ⟨_, ?_, j2, j3⟩
    show xl_beginFlat_b17 t a ((8 : Nat) : Int) = _
    unfold xl_beginFlat_b17
    rw [if_neg (by decide)]) (s := (0, S)) ⟨rfl, fun _ _ _ _ => rfl, fun c hc => by omega⟩
  obtain ⟨x, t⟩ := r
  replace e2 : ∀ P, P ≠ a + 4 → P ≠ a + 5 → P ≠ a + 6 → t P = S P := e2
  rw [e1]
  simp only [obs]
  obtain ⟨v, o1, o2, o3, o4, o5⟩ := cl_layOpen (s := t) (a := a) (n := n) (by rw [e2 a (by omega) (by omega) (by omega)]; exact s0) h8
  rw [o1]
  simp only [obs]
  have ea : ∀ q, q ≠ 2 → v a q = S a q := fun q hq => by rw [o3 q hq, e2 a (by omega) (by omega) (by omega)]
  refine ⟨v, rfl, fun P hP => ?_, by rw [ea 0 (by decide)]; exact s0, by rw [ea 1 (by decide)]; exact s1, o4, by rw [ea 3 (by decide)]; exact s3, fun c hc => ?_⟩
  · rw [o2 P (by omega) (by omega) (by omega) (by omega) (by omega), e2 P (by omega) (by omega) (by omega), sr P (by omega)]
  · obtain ⟨k1, k2, k3, k4⟩ := o5 c hc
    obtain ⟨l1, l2, l3⟩ := e3 c hc
    refine ⟨k1, k2, k3, ?_, ?_, ?_, k4⟩
    · rw [o2 (a + 4) (by omega) (by omega) (by omega) (by omega) (by omega)]; exact l1
    · rw [o2 (a + 5) (by omega) (by omega) (by omega) (by omega) (by omega)]; exact l2
    · rw [o2 (a + 6) (by omega) (by omega) (by omega) (by omega) (by omega)]; exact l3
section MK
variable {s : Hp} {a n : Nat} {K : Pic} {mk : Nat → Int}
theorem cf_hasMarks (h : ClF s a K n 0) (w : WFF K n 0) (hm : ∀ j, j + 1 < n → s 35 j = mk j ∧ 0 ≤ mk j ∧ mk j ≤ 2) : xl_hasMarks s a = some (if glM n mk K = true then 1 else 0) := by
  obtain ⟨h0, -, -, -, -, hj, -⟩ := id h
  obtain ⟨w8, -, -, -, wl, wz, -, -, wc, wj, -⟩ := id w
  have key : xl_hasMarks s a = if ∀ j, j < n - 1 → K 6 j = mk j then some 1 else some 0 := by
    unfold xl_hasMarks
    refine Eq.trans (lpb_all (fun i => (i : Int)) (n - 1) (fun j => K 6 j = mk j) (r := .inl ((n - 1 : Nat) : Int)) (v := .inr 0) rfl (fun i hi => ?_) ?_) rfl
    · have hwj := wj i (by omega)
      have hmi := hm i (by omega)
      show xl_hasMarks_b2 s a (i : Int) = _
      unfold xl_hasMarks_b2
      rw [h0, w32_eq (x := (i : Int)) (by omega) (by omega), w32_eq (x := (n : Int) - 1) (by omega) (by omega), if_pos (by omega), if_pos (by rw [show w32 8 = 8 by decide]; omega), ixt i rfl (by omega) (by decide)]
      simp only [obs]
      rw [hj i (by omega), hmi.1, w32_eq (x := K 6 i) (by omega) (by omega), w32_eq (x := mk i) (by omega) (by omega)]
      by_cases q1 : K 6 i = mk i
      · rw [if_pos q1, if_pos q1]; rfl
      · rw [if_neg q1, if_neg q1]
    · show xl_hasMarks_b2 s a ((n - 1 : Nat) : Int) = _
      unfold xl_hasMarks_b2
      rw [h0, w32_eq (x := ((n - 1 : Nat) : Int)) (by omega) (by omega), w32_eq (x := (n : Int) - 1) (by omega) (by omega), if_neg (by omega)]
  rw [key]
  unfold glM
  by_cases hq : ∀ j, j < n - 1 → K 6 j = mk j
  · rw [if_pos hq, if_pos (bP_1 hq)]
  · rw [if_neg hq, if_neg (by rw [bP_0 hq]; decide)]
theorem cf_keepsTo (h : ClF s a K n 0) (w : WFF K n 0) (hm : ∀ j, j + 1 < n → s 35 j = mk j ∧ 0 ≤ mk j ∧ mk j ≤ 2) {f : Nat} (hf : f < 64) : xl_keepsToMarks s a (f : Int) = some (if bP (mkOK n mk K f) = true then 1 else 0) := by
  obtain ⟨h0, -, -, -, -, hj, -⟩ := id h
  obtain ⟨w8, -, -, -, wl, wz, -, -, wc, wj, -⟩ := id w
  have key : xl_keepsToMarks s a (f : Int) = if ∀ j, j < n - 1 → (knd (K 1) (K 3) j (f / 4) (f % 2) = 0 ∨ knd (K 1) (K 3) j (f / 4) (f % 2) = mk j) then some 1 else some 0 := by
    unfold xl_keepsToMarks
    refine Eq.trans (lpb_all (fun i => (i : Int)) (n - 1) (fun j => knd (K 1) (K 3) j (f / 4) (f % 2) = 0 ∨ knd (K 1) (K 3) j (f / 4) (f % 2) = mk j) (r := .inl ((n - 1 : Nat) : Int)) (v := .inr 0) rfl (fun i hi => ?_) ?_) rfl
    · have hmi := hm i (by omega)
      have hk := knd_3 (K 1) (K 3) i (f / 4) (f % 2)
      show xl_keepsToMarks_b2 s a (f : Int) (i : Int) = _
      unfold xl_keepsToMarks_b2
      rw [h0, w32_eq (x := (i : Int)) (by omega) (by omega), w32_eq (x := (n : Int) - 1) (by omega) (by omega), if_pos (by omega), if_pos (by rw [show w32 8 = 8 by decide]; omega), cf_kindMade h w (show i + 1 < n by omega) hf, ixt i rfl (by omega) (by decide)]
      simp only [obs]
      generalize knd (K 1) (K 3) i (f / 4) (f % 2) = kd at hk
      rw [hmi.1, w32_eq (x := kd) (by omega) (by omega), w32_eq (x := mk i) (by omega) (by omega)]
      by_cases q1 : kd = 0
      · rw [if_pos q1, if_pos (Or.inl q1)]; rfl
      · rw [if_neg q1]
        by_cases q2 : kd = mk i
        · rw [if_pos q2, if_pos (Or.inr q2)]; rfl
        · rw [if_neg q2, if_neg (by omega)]
    · show xl_keepsToMarks_b2 s a (f : Int) ((n - 1 : Nat) : Int) = _
      unfold xl_keepsToMarks_b2
      rw [h0, w32_eq (x := ((n - 1 : Nat) : Int)) (by omega) (by omega), w32_eq (x := (n : Int) - 1) (by omega) (by omega), if_neg (by omega)]
  rw [key]
  unfold mkOK
  by_cases hq : ∀ j, j < n - 1 → (knd (K 1) (K 3) j (f / 4) (f % 2) = 0 ∨ knd (K 1) (K 3) j (f / 4) (f % 2) = mk j)
  · rw [if_pos hq, if_pos (bP_1 hq)]
  · rw [if_neg hq, if_neg (by rw [bP_0 hq]; decide)]
end MK
theorem frm_snoc {g : Nat → Option (List Nat)} : ∀ {j f : Nat}, frm g f (j + 1) = match frm g f j with | some r => some r | none => g (f + j)
  | 0, f => by
    show (match g f with | some r => some r | none => none) = g f
    cases g f <;> rfl
  | j + 1, f => by
    cases hg : g f with
    | some r => rw [frm_s hg, frm_s hg]
    | none =>
      rw [frm_n hg, frm_n hg, frm_snoc (j := j) (f := f + 1), show f + 1 + j = f + (j + 1) by omega]
theorem frm_keep {g : Nat → Option (List Nat)} {f : Nat} {r : List Nat} (h : frm g 0 f = some r) : frm g 0 (f + 1) = some r := by
  rw [frm_snoc, h]
theorem frm_new {g : Nat → Option (List Nat)} {f : Nat} (h : frm g 0 f = none) : frm g 0 (f + 1) = g f := by
  rw [frm_snoc, h, Nat.zero_add]
/-- what a search by marks leaves: S has rows, of at most N more folds, behind b -/
def OUT (S : Nat → Option (List Nat)) (N b : Nat) (s t : Hp) : Prop :=
  (∃ d row, d ≤ N ∧ (s 54 3 = -1 ∨ ((b + d : Nat) : Int) < s 54 3) ∧ S d = some row ∧ (∀ e, e < d → S e = none) ∧ t 54 3 = ((b + d : Nat) : Int) ∧ (∀ i, i < b → t 57 i = s 56 i) ∧ ∀ i, i < d → t 57 (b + i) = ((row.getD i 0 : Nat) : Int)) ∨
  ((∀ d, d ≤ N → (s 54 3 = -1 ∨ ((b + d : Nat) : Int) < s 54 3) → S d = none) ∧ t 54 3 = s 54 3 ∧ ∀ i, i < 8 → t 57 i = s 57 i)
def GF (d : Nat) (s t : Hp) : Prop := (∀ P, P ≠ 54 → P ≠ 56 → P ≠ 57 → ¬ (58 + 9 * (d + 1) ≤ P ∧ P ≤ 129) → t P = s P) ∧ ∀ i, i < d → t 56 i = s 56 i
