/-! loops, and numbers that do not go round -/
/-- not by definition: the kernel shall not compare what stands behind -/
theorem obs {α β : Type} (x : α) (f : α → Option β) : (some x).bind f = f x := by
  have h : ∀ o : Option α, o = some x → o.bind f = f x := fun o ho => by subst ho; rfl
  exact h _ rfl
theorem lp_for {σ ρ : Type} {B : σ → Option (σ ⊕ ρ)} (f : Nat → σ) (n : Nat) {r : ρ} {s0 : σ} (hs : f 0 = s0) (h : ∀ i, i < n → B (f i) = some (.inl (f (i + 1)))) (e : B (f n) = some (.inr r)) : lp B s0 = some r := by
  subst hs
  have key : ∀ k, k ≤ n → lp B (f (n - k)) = some r := by
    intro k
    induction k with
    | zero =>
      intro _
      rw [lp_un, Nat.sub_zero, e]
      rfl
    | succ k ih =>
      intro hk
      rw [lp_un, h _ (by omega)]
      show lp B (f (n - (k + 1) + 1)) = some r
      rw [show n - (k + 1) + 1 = n - k by omega]
      exact ih (by omega)
  have := key n (Nat.le_refl n)
  rw [Nat.sub_self] at this
  exact this
theorem first_no {P : Nat → Prop} [DecidablePred P] : ∀ {n : Nat}, ¬ (∀ i, i < n → P i) → ∃ m, m < n ∧ ¬ P m ∧ ∀ i, i < m → P i
  | 0, h => absurd (fun i hi => by omega) h
  | n + 1, h => by
    by_cases hq : ∀ i, i < n → P i
    · refine ⟨n, by omega, fun hp => h (fun i hi => ?_), hq⟩
      by_cases hi2 : i = n
      · subst hi2; exact hp
      · exact hq i (by omega)
    · obtain ⟨m, h1, h2, h3⟩ := first_no hq
      exact ⟨m, by omega, h2, h3⟩
/-- a loop that goes on as long as P holds, up to n -/
theorem lp_all {σ ρ : Type} {B : σ → Option (σ ⊕ ρ)} (f : Nat → σ) (n : Nat) (P : Nat → Prop) [DecidablePred P] {r v : ρ} {s0 : σ} (hs : f 0 = s0) (h : ∀ i, i < n → B (f i) = some (if P i then .inl (f (i + 1)) else .inr v)) (e : B (f n) = some (.inr r)) : lp B s0 = some (if ∀ i, i < n → P i then r else v) := by
  by_cases hq : ∀ i, i < n → P i
  · rw [if_pos hq]
    exact lp_for f n hs (fun i hi => by rw [h i hi, if_pos (hq i hi)]) e
  · rw [if_neg hq]
    obtain ⟨m, h1, h2, h3⟩ := first_no hq
    exact lp_for f m hs (fun i hi => by rw [h i (by omega), if_pos (h3 i hi)]) (by rw [h m h1, if_neg h2])
theorem lpb_for {σ ρ γ : Type} {B : σ → Option (σ ⊕ ρ)} {k : ρ → Option γ} (f : Nat → σ) (n : Nat) {r : ρ} {s0 : σ} (hs : f 0 = s0) (h : ∀ i, i < n → B (f i) = some (.inl (f (i + 1)))) (e : B (f n) = some (.inr r)) : (lp B s0).bind k = k r := by
  rw [lp_for f n hs h e]
  rfl
theorem lpb_all {σ ρ γ : Type} {B : σ → Option (σ ⊕ ρ)} {k : ρ → Option γ} (f : Nat → σ) (n : Nat) (P : Nat → Prop) [DecidablePred P] {r v : ρ} {s0 : σ} (hs : f 0 = s0) (h : ∀ i, i < n → B (f i) = some (if P i then .inl (f (i + 1)) else .inr v)) (e : B (f n) = some (.inr r)) : (lp B s0).bind k = if ∀ i, i < n → P i then k r else k v := by
  rw [lp_all f n P hs h e]
  split <;> rfl
/-- a counted loop, by what holds ahead of each turn -/
theorem lp_forR {σ ρ : Type} {B : σ → Option (σ ⊕ ρ)} (I : Nat → σ → Prop) (n : Nat) (Q : ρ → Prop) (h : ∀ i s, i < n → I i s → ∃ s1, B s = some (.inl s1) ∧ I (i + 1) s1) (e : ∀ s, I n s → ∃ r, B s = some (.inr r) ∧ Q r) {s : σ} (h0 : I 0 s) : ∃ r, lp B s = some r ∧ Q r := by
  have key : ∀ k s, k ≤ n → I (n - k) s → ∃ r, lp B s = some r ∧ Q r := by
    intro k
    induction k with
    | zero =>
      intro s _ hs
      rw [Nat.sub_zero] at hs
      obtain ⟨r, h1, h2⟩ := e s hs
      refine ⟨r, ?_, h2⟩
      rw [lp_un, h1]
      rfl
    | succ k ih =>
      intro s hk hs
      obtain ⟨s1, h1, h2⟩ := h _ s (by omega) hs
      rw [show n - (k + 1) + 1 = n - k by omega] at h2
      obtain ⟨r, h3, h4⟩ := ih s1 (by omega) h2
      refine ⟨r, ?_, h4⟩
      rw [lp_un, h1]
      exact h3
  exact key n s (Nat.le_refl n) (by rw [Nat.sub_self]; exact h0)
/-- any loop, by a measure -/
theorem lp_ex {σ ρ : Type} {B : σ → Option (σ ⊕ ρ)} (I : σ → Prop) (μ : σ → Nat) (Q : ρ → Prop) (h : ∀ s, I s → (∃ s1, B s = some (.inl s1) ∧ I s1 ∧ μ s1 < μ s) ∨ ∃ r, B s = some (.inr r) ∧ Q r) {s : σ} (h0 : I s) : ∃ r, lp B s = some r ∧ Q r := by
  have key : ∀ k s, μ s ≤ k → I s → ∃ r, lp B s = some r ∧ Q r := by
    intro k
    induction k with
    | zero =>
      intro s hk hs
      rcases h s hs with ⟨s1, h1, h2, h3⟩ | ⟨r, h1, h2⟩
      · omega
      · exact ⟨r, by rw [lp_un, h1]; rfl, h2⟩
    | succ k ih =>
      intro s hk hs
      rcases h s hs with ⟨s1, h1, h2, h3⟩ | ⟨r, h1, h2⟩
      · obtain ⟨r, h4, h5⟩ := ih s1 (by omega) h2
        exact ⟨r, by rw [lp_un, h1]; exact h4, h5⟩
      · exact ⟨r, by rw [lp_un, h1]; rfl, h2⟩
  exact key _ s (Nat.le_refl _) h0
theorem lp_in {σ ρ : Type} {B : σ → Option (σ ⊕ ρ)} {s s1 : σ} (h : B s = some (.inl s1)) : lp B s = lp B s1 := by rw [lp_un, h]; rfl
theorem lp_en {σ ρ : Type} {B : σ → Option (σ ⊕ ρ)} {s : σ} {r : ρ} (h : B s = some (.inr r)) : lp B s = some r := by rw [lp_un, h]; rfl
theorem ixs {n : Nat} {j : Int} (h0 : 0 ≤ j) (h1 : j < n) (h2 : n ≤ 65536) : ix n j = some j.toNat := by
  unfold ix
  rw [w32_eq (by omega) (by omega), if_pos ⟨h0, h1⟩]
theorem ixt {n : Nat} {j : Int} (i : Nat) (h : j = (i : Int)) (h1 : i < n) (h2 : n ≤ 65536) : ix n j = some i := by
  rw [ixs (by omega) (by omega) h2, h]
  rfl
theorem uh_at (s : Hp) (a i : Nat) (v : Int) (p q : Nat) : uh s a i v p q = if p = a ∧ q = i then v else s p q := rfl
theorem uc_at (s : Hp) (a b n p q : Nat) : uc s a b n p q = if p = b ∧ q < n then s a q else s p q := rfl
theorem hp_ext {s t : Hp} (h : ∀ p q, s p q = t p q) : s = t := funext fun p => funext fun q => h p q
theorem w32_ite {c : Prop} [Decidable c] (x y : Int) : w32 (if c then x else y) = if c then w32 x else w32 y := by split <;> rfl
theorem mx_eq {x y : Int} (h1 : -2147483648 ≤ x) (h2 : x < 2147483648) (h3 : -2147483648 ≤ y) (h4 : y < 2147483648) : mxI x y = if x < y then y else x := by unfold mxI; rw [w32_eq h1 h2, w32_eq h3 h4]
theorem mn_eq {x y : Int} (h1 : -2147483648 ≤ x) (h2 : x < 2147483648) (h3 : -2147483648 ≤ y) (h4 : y < 2147483648) : mnI x y = if y < x then y else x := by unfold mnI; rw [w32_eq h1 h2, w32_eq h3 h4]
/-! sets as bits -/
def bts (P : Nat → Prop) [DecidablePred P] : Nat → Nat
  | 0 => 0
  | n + 1 => bts P n + if P n then 2 ^ n else 0
theorem bts_lt (P : Nat → Prop) [DecidablePred P] : ∀ n, bts P n < 2 ^ n
  | 0 => Nat.zero_lt_one
  | n + 1 => by
    have := bts_lt P n
    show bts P n + (if P n then 2 ^ n else 0) < 2 ^ (n + 1)
    rw [Nat.pow_succ]
    split <;> omega
theorem bts_cg {P Q : Nat → Prop} [DecidablePred P] [DecidablePred Q] : ∀ {n : Nat}, (∀ i, i < n → (P i ↔ Q i)) → bts P n = bts Q n
  | 0, _ => rfl
  | n + 1, h => by
    show bts P n + (if P n then 2 ^ n else 0) = bts Q n + (if Q n then 2 ^ n else 0)
    rw [bts_cg (fun i hi => h i (by omega))]
    by_cases hp : P n
    · rw [if_pos hp, if_pos ((h n (by omega)).mp hp)]
    · rw [if_neg hp, if_neg (fun q => hp ((h n (by omega)).mpr q))]
theorem bv_n {x : Nat} (h : x < 2147483648) : (Int32.ofInt (x : Int)).toBitVec.toNat = x := by
  show (BitVec.ofInt 32 (x : Int)).toNat = x
  rw [BitVec.ofInt_natCast, BitVec.toNat_ofNat]
  omega
theorem bv_i {z : Int32} {x : Nat} (h : z.toBitVec.toNat = x) (hx : x < 2147483648) : z.toInt = (x : Int) := by
  show z.toBitVec.toInt = _
  rw [BitVec.toInt_eq_toNat_of_lt (by omega), h]
theorem bOr_n {x y : Nat} (hx : x < 2147483648) (hy : y < 2147483648) : bOr (x : Int) (y : Int) = ((x ||| y : Nat) : Int) := by
  refine bv_i ?_ (Nat.or_lt_two_pow (n := 31) hx hy)
  rw [Int32.toBitVec_or, BitVec.toNat_or, bv_n hx, bv_n hy]
theorem bAnd_n {x y : Nat} (hx : x < 2147483648) (hy : y < 2147483648) : bAnd (x : Int) (y : Int) = ((x &&& y : Nat) : Int) := by
  refine bv_i ?_ (Nat.lt_of_le_of_lt Nat.and_le_left hx)
  rw [Int32.toBitVec_and, BitVec.toNat_and, bv_n hx, bv_n hy]
theorem sh31 : ∀ k : Nat, k < 32 → ((Int32.ofInt (k : Int) &&& 31).toBitVec.smod 32).toNat = k := by decide +kernel
theorem bShr_i (x : Int) {k : Nat} (hk : k < 32) : bShr x (k : Int) = w32 x / 2 ^ k := by
  show ((Int32.ofInt x >>> (Int32.ofInt (k : Int) &&& 31)).toBitVec).toInt = _
  rw [Int32.toBitVec_shiftRight, BitVec.sshiftRight_eq', BitVec.toInt_sshiftRight, sh31 k hk, Int.shiftRight_eq_div_pow]
  congr 1
theorem bShr_n {x k : Nat} (hx : x < 2147483648) (hk : k < 32) : bShr (x : Int) (k : Int) = ((x / 2 ^ k : Nat) : Int) := by
  rw [bShr_i _ hk, w32_eq (by omega) (by omega), Int.natCast_ediv, Int.natCast_pow]
  rfl
theorem bShl_n {x k : Nat} (hk : k < 32) (hx : x * 2 ^ k < 2147483648) : bShl (x : Int) (k : Int) = ((x * 2 ^ k : Nat) : Int) := by
  have h1 : x < 2147483648 := Nat.lt_of_le_of_lt (Nat.le_mul_of_pos_right x (Nat.two_pow_pos k)) hx
  refine bv_i ?_ hx
  rw [Int32.toBitVec_shiftLeft]
  show ((Int32.ofInt (x : Int)).toBitVec <<< ((Int32.ofInt (k : Int) &&& 31).toBitVec.smod 32).toNat).toNat = _
  rw [BitVec.toNat_shiftLeft, sh31 k hk, bv_n h1, Nat.shiftLeft_eq]
  omega
theorem bor_bit {x i : Nat} (hi : i < 31) (hx : x < 2 ^ i) : bOr (x : Int) (bShl 1 (i : Int)) = ((x + 2 ^ i : Nat) : Int) := by
  have h2 : 2 ^ i ≤ 2 ^ 30 := Nat.pow_le_pow_right (by decide) (by omega)
  rw [show (1 : Int) = ((1 : Nat) : Int) from rfl, bShl_n (by omega) (by omega), Nat.one_mul, bOr_n (by omega) (by omega)]
  congr 1
  have := Nat.two_pow_add_eq_or_of_lt hx 1
  rw [Nat.mul_one] at this
  rw [Nat.or_comm, ← this, Nat.add_comm]
theorem bor_0 {x : Nat} (hx : x < 2147483648) : bOr (x : Int) 0 = (x : Int) := by
  rw [show (0 : Int) = ((0 : Nat) : Int) from rfl, bOr_n hx (by decide), Nat.or_zero]
