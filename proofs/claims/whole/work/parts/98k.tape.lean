/-! the text as it is read: runs of signs, numbers -/
def rn (p : Nat → Bool) (n : Nat) : Nat → Nat → Nat
  | 0, i => i
  | g + 1, i => if i < n ∧ p i = true then rn p n g (i + 1) else i
def skp (p : Nat → Bool) (n i : Nat) : Nat := rn p n (n - i) i
section SK
variable {p : Nat → Bool} {n i : Nat}
theorem skp_go (h : i < n) (hp : p i = true) : skp p n i = skp p n (i + 1) := by
  unfold skp
  rw [show n - i = (n - (i + 1)) + 1 by omega]
  show (if i < n ∧ p i = true then rn p n (n - (i + 1)) (i + 1) else i) = _
  rw [if_pos ⟨h, hp⟩]
theorem skp_st (h : ¬ (i < n ∧ p i = true)) : skp p n i = i := by
  unfold skp
  cases hg : n - i with
  | zero => rfl
  | succ g =>
    show (if i < n ∧ p i = true then rn p n g (i + 1) else i) = i
    rw [if_neg h]
theorem skp_all : ∀ (g i : Nat), g = n - i → i ≤ skp p n i ∧ (i ≤ n → skp p n i ≤ n) ∧ (∀ j, i ≤ j → j < skp p n i → j < n ∧ p j = true) ∧ ¬ (skp p n i < n ∧ p (skp p n i) = true)
  | 0, i, hg => by
    rw [skp_st (by omega)]
    exact ⟨Nat.le_refl _, fun h => h, fun j h1 h2 => by omega, by omega⟩
  | g + 1, i, hg => by
    by_cases hp : p i = true
    · rw [skp_go (by omega) hp]
      obtain ⟨h1, h2, h3, h4⟩ := skp_all g (i + 1) (by omega)
      refine ⟨by omega, fun h => h2 (by omega), fun j a b => ?_, h4⟩
      by_cases hj : j = i
      · subst hj; exact ⟨by omega, hp⟩
      · exact h3 j (by omega) b
    · rw [skp_st (fun h => hp h.2)]
      exact ⟨Nat.le_refl _, fun h => h, fun j h1 h2 => by omega, fun h => hp h.2⟩
theorem skp_ge : i ≤ skp p n i := (skp_all _ i rfl).1
theorem skp_le (h : i ≤ n) : skp p n i ≤ n := (skp_all _ i rfl).2.1 h
theorem skp_in {j : Nat} (h1 : i ≤ j) (h2 : j < skp p n i) : j < n ∧ p j = true := (skp_all _ i rfl).2.2.1 j h1 h2
theorem skp_no : ¬ (skp p n i < n ∧ p (skp p n i) = true) := (skp_all _ i rfl).2.2.2
theorem skp_id : skp p n (skp p n i) = skp p n i := skp_st skp_no
theorem lp_skp {σ ρ : Type} {B : σ → Option (σ ⊕ ρ)} (p : Nat → Bool) (n : Nat) (f : Nat → σ) (g : Nat → ρ) {i0 : Nat} (hB : ∀ j, i0 ≤ j → j ≤ n → (j < n ∧ p j = true → B (f j) = some (.inl (f (j + 1)))) ∧ (¬ (j < n ∧ p j = true) → B (f j) = some (.inr (g j)))) (hi : i0 ≤ n) : lp B (f i0) = some (g (skp p n i0)) := by
  have key : ∀ (q j : Nat), q = n - j → i0 ≤ j → j ≤ n → lp B (f j) = some (g (skp p n j)) := by
    intro q
    induction q with
    | zero =>
      intro j hq h1 h2
      rw [skp_st (by omega)]
      exact lp_en ((hB j h1 h2).2 (by omega))
    | succ q ih =>
      intro j hq h1 h2
      by_cases hp : p j = true
      · rw [skp_go (by omega) hp, lp_in ((hB j h1 h2).1 ⟨by omega, hp⟩)]
        exact ih (j + 1) (by omega) (by omega) (by omega)
      · have hn : ¬ (j < n ∧ p j = true) := fun h => hp h.2
        rw [skp_st hn]
        exact lp_en ((hB j h1 h2).2 hn)
  exact key _ i0 rfl (Nat.le_refl _) hi
end SK
def isB (T : Nat → Int) (i : Nat) : Bool := decide (T i = 32)
def isD (T : Nat → Int) (i : Nat) : Bool := decide (48 ≤ T i ∧ T i ≤ 57)
def isL (T : Nat → Int) (i : Nat) : Bool := decide (97 ≤ T i ∧ T i ≤ 122)
def TB (T : Nat → Int) (n : Nat) : Prop := n ≤ 400 ∧ ∀ i, i < n → 0 ≤ T i ∧ T i ≤ 255
def TC (T : Nat → Int) (n : Nat) (s : Hp) : Prop := s 1 1 = (n : Int) ∧ s 2 = T
def TM (T : Nat → Int) (n : Nat) (M : Hp) : Prop := M 146 1 = (n : Int) ∧ ∀ i, i < n → M 147 i = w8 (T i)
theorem w8_b {x : Int} (h0 : 0 ≤ x) (h1 : x ≤ 255) : w8 x = if x < 128 then x else x - 256 := by
  by_cases h : x < 128
  · rw [if_pos h]
    exact Int8.toInt_ofInt_of_le (by omega) (by omega)
  · rw [if_neg h, w8_m (y := x - 256) (by omega)]
    exact Int8.toInt_ofInt_of_le (by omega) (by omega)
theorem w32_w8 {x : Int} (h0 : 0 ≤ x) (h1 : x ≤ 255) : w32 (w8 x) = if x < 128 then x else x - 256 := by
  rw [w8_b h0 h1]
  split <;> rw [w32_eq (by omega) (by omega)]
theorem uh_id (s : Hp) (a i : Nat) : uh s a i (s a i) = s := by
  funext p q
  rw [uh_at]
  split
  · rename_i h
    rw [h.1, h.2]
  · rfl
theorem uh_uh (s : Hp) (a i : Nat) (u v : Int) : uh (uh s a i u) a i v = uh s a i v := by
  funext p q
  rw [uh_at, uh_at, uh_at]
  split <;> rfl
section TP
variable {T : Nat → Int} {n : Nat} {s M : Hp}
theorem TC_u {v : Int} {q : Nat} (h : TC T n s) (hq : q ≠ 1) : TC T n (uh s 1 q v) := ⟨by rw [uh_ro _ _ _ _ (Ne.symm hq)]; exact h.1, by rw [uh_row (by decide)]; exact h.2⟩
theorem TM_u {v : Int} {q : Nat} (h : TM T n M) (hq : q ≠ 1) : TM T n (uh M 146 q v) := ⟨by rw [uh_ro _ _ _ _ (Ne.symm hq)]; exact h.1, fun i hi => by rw [uh_row (by decide)]; exact h.2 i hi⟩
theorem ct_blanks {i : Nat} (hb : TB T n) (h : TC T n s) (hi : s 1 2 = (i : Int)) (hin : i ≤ n) : xt_passBlanks s = some (uh s 1 2 ((skp (isB T) n i : Nat) : Int)) := by
  have hb1 := hb.1
  unfold xt_passBlanks
  have key : lp (fun (q : Hp) => xt_passBlanks_b0 q) s = some (uh s 1 2 ((skp (isB T) n i : Nat) : Int)) := by
    have := lp_skp (B := fun (q : Hp) => xt_passBlanks_b0 q) (isB T) n (fun j => uh s 1 2 (j : Int)) (fun j => uh s 1 2 (j : Int)) (i0 := i) (fun j h1 h2 => by
      have tc := TC_u (q := 2) (v := (j : Int)) h (by decide)
      have e2 : uh s 1 2 (j : Int) 1 2 = (j : Int) := uh_rc _ _ _ _
      show (_ → xt_passBlanks_b0 (uh s 1 2 (j : Int)) = _) ∧ (_ → xt_passBlanks_b0 (uh s 1 2 (j : Int)) = _)
      unfold xt_passBlanks_b0
      rw [e2, tc.1, w32_eq (x := (j : Int)) (by omega) (by omega), w32_eq (x := (n : Int)) (by omega) (by omega)]
      by_cases hj : j < n
      · have tb := hb.2 j hj
        rw [if_pos (by omega), ixt j rfl (by omega) (by decide)]
        simp only [obs]
        rw [tc.2, w32_eq (x := T j) (by omega) (by omega), show w32 32 = 32 by decide, uh_uh]
        refine ⟨fun hp => ?_, fun hp => ?_⟩
        · rw [if_pos (of_decide_eq_true hp.2)]; rfl
        · rw [if_neg (fun e => hp ⟨hj, decide_eq_true e⟩)]
      · rw [if_neg (by omega)]
        exact ⟨fun hp => absurd hp.1 hj, fun _ => rfl⟩) hin
    rw [show uh s 1 2 (i : Int) = s by rw [← hi]; exact uh_id s 1 2] at this
    exact this
  rw [key]
  rfl
theorem rt_blanks {i : Nat} (hb : TB T n) (h : TM T n M) (hi : M 146 8 = (i : Int)) (hin : i ≤ n) : xm_see M = some (if skp (isB T) n i < n then T (skp (isB T) n i) else -1, uh M 146 8 ((skp (isB T) n i : Nat) : Int)) := by
  have hb1 := hb.1
  unfold xm_see
  have key : lp (fun (q : Hp) => xm_see_b0 q) M = some (uh M 146 8 ((skp (isB T) n i : Nat) : Int)) := by
    have := lp_skp (B := fun (q : Hp) => xm_see_b0 q) (isB T) n (fun j => uh M 146 8 (j : Int)) (fun j => uh M 146 8 (j : Int)) (i0 := i) (fun j h1 h2 => by
      have tc := TM_u (q := 8) (v := (j : Int)) h (by decide)
      have e2 : uh M 146 8 (j : Int) 146 8 = (j : Int) := uh_rc _ _ _ _
      show (_ → xm_see_b0 (uh M 146 8 (j : Int)) = _) ∧ (_ → xm_see_b0 (uh M 146 8 (j : Int)) = _)
      unfold xm_see_b0
      rw [e2, tc.1, w32_eq (x := (j : Int)) (by omega) (by omega), w32_eq (x := (n : Int)) (by omega) (by omega)]
      by_cases hj : j < n
      · have tb := hb.2 j hj
        rw [if_pos (by omega), ixt j rfl (by omega) (by decide)]
        simp only [obs]
        rw [tc.2 j hj, w32_w8 tb.1 tb.2, show w32 32 = 32 by decide, uh_uh]
        refine ⟨fun hp => ?_, fun hp => ?_⟩
        · have := of_decide_eq_true hp.2
          rw [if_pos (by split <;> omega)]; rfl
        · have : T j ≠ 32 := fun e => hp ⟨hj, decide_eq_true e⟩
          rw [if_neg (by split <;> omega)]
      · rw [if_neg (by omega)]
        exact ⟨fun hp => absurd hp.1 hj, fun _ => rfl⟩) hin
    rw [show uh M 146 8 (i : Int) = M by rw [← hi]; exact uh_id M 146 8] at this
    exact this
  rw [key]
  simp only [obs]
  have hle := skp_le (p := isB T) hin
  generalize skp (isB T) n i = e at hle
  have tc := TM_u (q := 8) (v := (e : Int)) h (by decide)
  unfold xm_see_j38
  rw [show uh M 146 8 (e : Int) 146 8 = (e : Int) from uh_rc _ _ _ _, tc.1, w32_eq (x := (e : Int)) (by omega) (by omega), w32_eq (x := (n : Int)) (by omega) (by omega)]
  by_cases he : e < n
  · have tb := hb.2 e he
    rw [if_pos (by omega), if_pos he, ixt e rfl (by omega) (by decide)]
    simp only [obs]
    rw [tc.2 e he, bAnd255, w8_b tb.1 tb.2, show (if T e < 128 then T e else T e - 256) % 256 = T e by split <;> omega]
  · rw [if_neg (by omega), if_neg he]
/-- digits -/
def avD (T : Nat → Int) (i : Nat) : Nat → Int
  | 0 => 0
  | k + 1 => if k < 5 then 10 * avD T i k + T (i + k) - 48 else avD T i k
theorem avD_b {i : Nat} : ∀ k, (∀ j, j < k → 48 ≤ T (i + j) ∧ T (i + j) ≤ 57) → 0 ≤ avD T i k ∧ avD T i k < 10 ^ (min k 5)
  | 0, _ => ⟨Int.le_refl 0, by show (0 : Int) < 1; decide⟩
  | k + 1, h => by
    have ih := avD_b k (fun j hj => h j (by omega))
    have hk := h k (by omega)
    show 0 ≤ (if k < 5 then 10 * avD T i k + T (i + k) - 48 else avD T i k) ∧ (if k < 5 then 10 * avD T i k + T (i + k) - 48 else avD T i k) < 10 ^ (min (k + 1) 5)
    by_cases h5 : k < 5
    · rw [if_pos h5, show min (k + 1) 5 = min k 5 + 1 by omega, Int.pow_succ]
      omega
    · rw [if_neg h5, show min (k + 1) 5 = min k 5 by omega]
      exact ih
theorem avD_5 {i : Nat} (k : Nat) (h : ∀ j, j < k → 48 ≤ T (i + j) ∧ T (i + j) ≤ 57) : 0 ≤ avD T i k ∧ avD T i k < 100000 := by
  have h1 := avD_b k h
  refine ⟨h1.1, Int.lt_of_lt_of_le h1.2 ?_⟩
  have : ∀ q : Nat, q ≤ 5 → (10 : Int) ^ q ≤ 100000 := by decide
  exact this _ (Nat.min_le_right _ _)
theorem ct_digits {i : Nat} {lo hi : Int} (hb : TB T n) (h : TC T n s) (hi0 : s 1 2 = (i : Int)) (hin : i ≤ n) : lp (fun (q : Int × Hp) => xt_takeNumber_b8 q.2 lo hi (s 1 2) q.1) (0, s) = some (avD T i (skp (isD T) n i - i), uh s 1 2 ((skp (isD T) n i : Nat) : Int)) := by
  have hb1 := hb.1
  have := lp_skp (B := fun (q : Int × Hp) => xt_takeNumber_b8 q.2 lo hi (s 1 2) q.1) (isD T) n (fun j => (avD T i (j - i), uh s 1 2 (j : Int))) (fun j => (avD T i (j - i), uh s 1 2 (j : Int))) (i0 := i) (fun j h1 h2 => by
    have tc := TC_u (q := 2) (v := (j : Int)) h (by decide)
    have e2 : uh s 1 2 (j : Int) 1 2 = (j : Int) := uh_rc _ _ _ _
    show (_ → xt_takeNumber_b8 (uh s 1 2 (j : Int)) lo hi (s 1 2) (avD T i (j - i)) = _) ∧ (_ → xt_takeNumber_b8 (uh s 1 2 (j : Int)) lo hi (s 1 2) (avD T i (j - i)) = _)
    unfold xt_takeNumber_b8
    rw [e2, hi0, tc.1, w32_eq (x := (j : Int)) (by omega) (by omega), w32_eq (x := (n : Int)) (by omega) (by omega)]
    by_cases hj : j < n
    · have tb := hb.2 j hj
      rw [if_pos (by omega), ixt j rfl (by omega) (by decide)]
      simp only [obs]
      rw [tc.2]
      unfold xt_isDigit
      rw [w32_eq (x := T j) (by omega) (by omega), show w32 48 = 48 by decide, show w32 57 = 57 by decide]
      refine ⟨fun hp => ?_, fun hp => ?_⟩
      · have hd := of_decide_eq_true hp.2
        rw [if_neg (by omega), if_neg (by omega)]
        simp only [obs]
        rw [if_neg (by decide), w32_eq (x := (j : Int) - (i : Int)) (by omega) (by omega), show w32 5 = 5 by decide, uh_uh, show j + 1 - i = (j - i) + 1 by omega]
        have ea : avD T i (j - i + 1) = if j - i < 5 then 10 * avD T i (j - i) + T (i + (j - i)) - 48 else avD T i (j - i) := rfl
        rw [ea, show i + (j - i) = j by omega]
        by_cases h5 : j - i < 5
        · rw [if_pos (by omega), if_pos h5]; rfl
        · rw [if_neg (by omega), if_neg h5]; rfl
      · have hd : ¬ (48 ≤ T j ∧ T j ≤ 57) := fun e => hp ⟨hj, decide_eq_true e⟩
        by_cases hq : T j < 48
        · rw [if_pos hq]
          simp only [obs]
          rw [if_pos (by decide)]
        · rw [if_neg hq, if_pos (by omega)]
          simp only [obs]
          rw [if_pos (by decide)]
    · rw [if_neg (by omega)]
      exact ⟨fun hp => absurd hp.1 hj, fun _ => rfl⟩) hin
  rw [show uh s 1 2 (i : Int) = s by rw [← hi0]; exact uh_id s 1 2, Nat.sub_self] at this
  exact this
theorem rt_isDigit {j : Nat} (hb : TB T n) (h : TM T n M) (hj : j ≤ n) : xm_isDigit M (j : Int) = some (if j < n ∧ isD T j = true then 1 else 0) := by
  have hb1 := hb.1
  unfold xm_isDigit
  rw [h.1, w32_eq (x := (j : Int)) (by omega) (by omega), w32_eq (x := (n : Int)) (by omega) (by omega)]
  by_cases hjn : j < n
  · have tb := hb.2 j hjn
    rw [if_pos (by omega), ixt j rfl (by omega) (by decide)]
    simp only [obs]
    rw [h.2 j hjn, w32_w8 tb.1 tb.2, show w32 48 = 48 by decide, show w32 57 = 57 by decide]
    by_cases hd : 48 ≤ T j ∧ T j ≤ 57
    · rw [if_pos (c := j < n ∧ isD T j = true) ⟨hjn, decide_eq_true hd⟩, if_pos (c := T j < 128) (by omega), if_neg (by omega), if_neg (by omega)]
    · rw [if_neg (c := j < n ∧ isD T j = true) (fun e => hd (of_decide_eq_true e.2))]
      by_cases hq : (if T j < 128 then T j else T j - 256) < 48
      · rw [if_pos hq]
      · rw [if_neg hq, if_pos (by split at hq <;> split <;> omega)]
  · rw [if_neg (by omega), if_neg (fun e => hjn e.1)]
theorem rt_isLetter {j : Nat} (hb : TB T n) (h : TM T n M) (hj : j ≤ n) : xm_isLetter M (j : Int) = some (if j < n ∧ isL T j = true then 1 else 0) := by
  have hb1 := hb.1
  unfold xm_isLetter
  rw [h.1, w32_eq (x := (j : Int)) (by omega) (by omega), w32_eq (x := (n : Int)) (by omega) (by omega)]
  by_cases hjn : j < n
  · have tb := hb.2 j hjn
    rw [if_pos (by omega), ixt j rfl (by omega) (by decide)]
    simp only [obs]
    rw [h.2 j hjn, w32_w8 tb.1 tb.2, show w32 97 = 97 by decide, show w32 122 = 122 by decide]
    by_cases hd : 97 ≤ T j ∧ T j ≤ 122
    · rw [if_pos (c := j < n ∧ isL T j = true) ⟨hjn, decide_eq_true hd⟩, if_pos (c := T j < 128) (by omega), if_neg (by omega), if_neg (by omega)]
    · rw [if_neg (c := j < n ∧ isL T j = true) (fun e => hd (of_decide_eq_true e.2))]
      by_cases hq : (if T j < 128 then T j else T j - 256) < 97
      · rw [if_pos hq]
      · rw [if_neg hq, if_pos (by split at hq <;> split <;> omega)]
  · rw [if_neg (by omega), if_neg (fun e => hjn e.1)]
theorem rt_digits {i : Nat} {lo hi : Int} (hb : TB T n) (h : TM T n M) (hi0 : M 146 8 = (i : Int)) (hin : i ≤ n) : lp (fun (q : Int × Hp) => xm_numberHere_b34 q.2 lo hi (M 146 8) q.1) (0, M) = some (avD T i (skp (isD T) n i - i), uh M 146 8 ((skp (isD T) n i : Nat) : Int)) := by
  have hb1 := hb.1
  have := lp_skp (B := fun (q : Int × Hp) => xm_numberHere_b34 q.2 lo hi (M 146 8) q.1) (isD T) n (fun j => (avD T i (j - i), uh M 146 8 (j : Int))) (fun j => (avD T i (j - i), uh M 146 8 (j : Int))) (i0 := i) (fun j h1 h2 => by
    have tc := TM_u (q := 8) (v := (j : Int)) h (by decide)
    have e2 : uh M 146 8 (j : Int) 146 8 = (j : Int) := uh_rc _ _ _ _
    show (_ → xm_numberHere_b34 (uh M 146 8 (j : Int)) lo hi (M 146 8) (avD T i (j - i)) = _) ∧ (_ → xm_numberHere_b34 (uh M 146 8 (j : Int)) lo hi (M 146 8) (avD T i (j - i)) = _)
    unfold xm_numberHere_b34
    rw [e2, hi0, rt_isDigit hb tc h2]
    simp only [obs]
    refine ⟨fun hp => ?_, fun hp => ?_⟩
    · have hd := of_decide_eq_true hp.2
      rw [if_pos (c := j < n ∧ isD T j = true) hp, if_neg (by decide), w32_eq (x := (j : Int) - (i : Int)) (by omega) (by omega), show w32 5 = 5 by decide, uh_uh, show j + 1 - i = (j - i) + 1 by omega]
      have ea : avD T i (j - i + 1) = if j - i < 5 then 10 * avD T i (j - i) + T (i + (j - i)) - 48 else avD T i (j - i) := rfl
      rw [ea, show i + (j - i) = j by omega]
      by_cases h5 : j - i < 5
      · rw [if_pos (by omega), if_pos h5, ixt j rfl (by omega) (by decide)]
        simp only [obs]
        rw [tc.2 j hp.1, w8_b (by omega) (by omega), if_pos (by omega)]
        rfl
      · rw [if_neg (by omega), if_neg h5]; rfl
    · rw [if_neg (c := j < n ∧ isD T j = true) hp, if_pos (by decide)]) hin
  rw [show uh M 146 8 (i : Int) = M by rw [← hi0]; exact uh_id M 146 8, Nat.sub_self] at this
  exact this
end TP
