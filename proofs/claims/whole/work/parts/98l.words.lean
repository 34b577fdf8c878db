/-! words and numbers, both sides -/
theorem lPack {x c : Nat} (hx : x < 281474976710656) (hc : c < 256) : lOr (lShl (x : Int) 8) (c : Int) = ((256 * x + c : Nat) : Int) := by
  have e1 : lShl (x : Int) 8 = ((256 * x : Nat) : Int) := by
    refine bv64_i ?_ (by omega)
    rw [Int64.toBitVec_shiftLeft]
    show ((Int64.ofInt (x : Int)).toBitVec <<< (((Int32.ofInt 8).toInt64 &&& 63).toBitVec.smod 64).toNat).toNat = _
    rw [show (((Int32.ofInt 8).toInt64 &&& 63).toBitVec.smod 64).toNat = 8 by decide +kernel, BitVec.toNat_shiftLeft, bv64_n (by omega), Nat.shiftLeft_eq]
    omega
  rw [e1]
  refine bv64_i ?_ (by omega)
  rw [Int64.toBitVec_or, BitVec.toNat_or, bv64_n (by omega), bv64_n (by omega)]
  have := Nat.shiftLeft_add_eq_or_of_lt (b := c) (i := 8) (by omega) x
  rw [Nat.shiftLeft_eq] at this
  rw [show 256 * x = x * 2 ^ 8 by omega]
  exact this.symm
def pkf (f : Nat → Nat) : Nat → Nat
  | 0 => 0
  | k + 1 => 256 * pkf f k + f k
theorem pkf_inj {f g : Nat → Nat} : ∀ (a b : Nat), (∀ j, j < a → 0 < f j ∧ f j < 256) → (∀ j, j < b → 0 < g j ∧ g j < 256) → pkf f a = pkf g b → a = b ∧ ∀ j, j < a → f j = g j
  | 0, 0, _, _, _ => ⟨rfl, fun j hj => by omega⟩
  | 0, b + 1, _, hg, e => by
    have := hg b (by omega)
    have e' : 0 = 256 * pkf g b + g b := e
    omega
  | a + 1, 0, hf, _, e => by
    have := hf a (by omega)
    have e' : 256 * pkf f a + f a = 0 := e
    omega
  | a + 1, b + 1, hf, hg, e => by
    have h1 := hf a (by omega)
    have h2 := hg b (by omega)
    have e' : 256 * pkf f a + f a = 256 * pkf g b + g b := e
    obtain ⟨r1, r2⟩ := pkf_inj a b (fun j hj => hf j (by omega)) (fun j hj => hg j (by omega)) (by omega)
    subst r1
    refine ⟨rfl, fun j hj => ?_⟩
    by_cases hja : j = a
    · subst hja; omega
    · exact r2 j (by omega)
theorem pkf_lt {f : Nat → Nat} : ∀ k, (∀ j, j < k → f j < 256) → pkf f k < 256 ^ k
  | 0, _ => by show 0 < 1; decide
  | k + 1, h => by
    have := pkf_lt k (fun j hj => h j (by omega))
    have h2 := h k (by omega)
    show 256 * pkf f k + f k < _
    rw [Nat.pow_succ]
    omega
theorem pkf_cg {f g : Nat → Nat} : ∀ k, (∀ j, j < k → f j = g j) → pkf f k = pkf g k
  | 0, _ => rfl
  | k + 1, h => by
    show 256 * pkf f k + f k = 256 * pkf g k + g k
    rw [pkf_cg k (fun j hj => h j (by omega)), h k (by omega)]
noncomputable def xw (T : Nat → Int) (i : Nat) : Nat → Int
  | 0 => 0
  | k + 1 => if k < 8 then lOr (lShl (xw T i k) 8) (T (i + k)) else xw T i k
/-- the word from i up to e is w -/
abbrev wEq (T : Nat → Int) (i e : Nat) (w : List Nat) : Prop := i + w.length = e ∧ ∀ j, j < w.length → T (i + j) = ((w.getD j 0 : Nat) : Int)
section WD
variable {T : Nat → Int} {n : Nat} {s M : Hp}
theorem xw_pk {i : Nat} : ∀ k, k ≤ 7 → (∀ j, j < k → 97 ≤ T (i + j) ∧ T (i + j) ≤ 122) → xw T i k = ((pkf (fun j => (T (i + j)).toNat) k : Nat) : Int)
  | 0, _, _ => rfl
  | k + 1, h7, h => by
    have hk := h k (by omega)
    have hl := pkf_lt (f := fun j => (T (i + j)).toNat) k (fun j hj => by have := h j (by omega); show (T (i + j)).toNat < 256; omega)
    have hp : 256 ^ k ≤ 256 ^ 6 := Nat.pow_le_pow_right (by decide) (by omega)
    have e6 : 256 ^ 6 = 281474976710656 := by decide
    show (if k < 8 then lOr (lShl (xw T i k) 8) (T (i + k)) else xw T i k) = ((256 * pkf (fun j => (T (i + j)).toNat) k + (T (i + k)).toNat : Nat) : Int)
    rw [if_pos (by omega), xw_pk k (by omega) (fun j hj => h j (by omega)), ← lPack (by omega) (by omega), Int.toNat_of_nonneg (by omega)]
/-- the reference asks for one word -/
theorem rt_word {i0 : Nat} {w : List Nat} {code : Int} (hb : TB T n) (h : TM T n M) (hi0 : M 146 8 = (i0 : Int)) (hin : i0 ≤ n) (hw0 : 0 < w.length) (hw7 : w.length < 8) (hwl : ∀ j, j < w.length → 0 < w.getD j 0 ∧ w.getD j 0 < 256) (hc : code = ((pkf (fun j => w.getD j 0) w.length : Nat) : Int)) : xm_isWord M code = some (tb (wEq T (skp (isB T) n i0) (skp (isL T) n (skp (isB T) n i0)) w), uh M 146 8 ((skp (isB T) n i0 : Nat) : Int)) := by
  have hb1 := hb.1
  unfold xm_isWord
  rw [rt_blanks hb h hi0 hin]
  simp only [obs]
  have hle := skp_le (p := isB T) hin
  generalize skp (isB T) n i0 = i at hle
  have tm := TM_u (q := 8) (v := (i : Int)) h (by decide)
  have e8 : uh M 146 8 (i : Int) 146 8 = (i : Int) := uh_rc _ _ _ _
  have key : lp (fun (q : Int × Int) => xm_isWord_b10 (uh M 146 8 (i : Int)) code q.1 q.2) (0, 0) = some (xw T i (skp (isL T) n i - i), ((skp (isL T) n i - i : Nat) : Int)) := by
    have := lp_skp (B := fun (q : Int × Int) => xm_isWord_b10 (uh M 146 8 (i : Int)) code q.1 q.2) (isL T) n (fun j => (xw T i (j - i), ((j - i : Nat) : Int))) (fun j => (xw T i (j - i), ((j - i : Nat) : Int))) (i0 := i) (fun j h1 h2 => by
      show (_ → xm_isWord_b10 (uh M 146 8 (i : Int)) code (xw T i (j - i)) ((j - i : Nat) : Int) = _) ∧ (_ → xm_isWord_b10 (uh M 146 8 (i : Int)) code (xw T i (j - i)) ((j - i : Nat) : Int) = _)
      unfold xm_isWord_b10
      rw [e8, show (i : Int) + ((j - i : Nat) : Int) = (j : Int) by omega, rt_isLetter hb tm h2]
      simp only [obs]
      refine ⟨fun hp => ?_, fun hp => ?_⟩
      · have hd := of_decide_eq_true hp.2
        rw [if_pos (c := j < n ∧ isL T j = true) hp, if_neg (by decide), w32_eq (x := ((j - i : Nat) : Int)) (by omega) (by omega), show w32 8 = 8 by decide]
        have ea : xw T i (j + 1 - i) = if j - i < 8 then lOr (lShl (xw T i (j - i)) 8) (T (i + (j - i))) else xw T i (j - i) := by
          rw [show j + 1 - i = (j - i) + 1 by omega]; rfl
        rw [ea, show i + (j - i) = j by omega, show ((j + 1 - i : Nat) : Int) = ((j - i : Nat) : Int) + 1 by omega]
        by_cases h8 : j - i < 8
        · rw [if_pos (by omega), if_pos h8, ixt j rfl (by omega) (by decide)]
          simp only [obs]
          rw [tm.2 j hp.1, w32_w8 (by omega) (by omega), if_pos (by omega)]
        · rw [if_neg (by omega), if_neg h8]
      · rw [if_neg (c := j < n ∧ isL T j = true) hp, if_pos (by decide)]) hle
    rw [Nat.sub_self] at this
    exact this
  rw [key]
  simp only [obs]
  have hge := skp_ge (p := isL T) (n := n) (i := i)
  have hle2 := skp_le (p := isL T) hle
  have hlet : ∀ j, j < skp (isL T) n i - i → 97 ≤ T (i + j) ∧ T (i + j) ≤ 122 := fun j hj => of_decide_eq_true (skp_in (p := isL T) (n := n) (i := i) (j := i + j) (by omega) (by omega)).2
  generalize skp (isL T) n i = e at hge hle2 hlet
  rw [w32_eq (x := ((e - i : Nat) : Int)) (by omega) (by omega), show w32 8 = 8 by decide]
  by_cases h0 : 0 < e - i
  · rw [if_pos (by omega)]
    by_cases h8 : e - i < 8
    · rw [if_pos (by omega), xw_pk (e - i) (by omega) hlet, hc]
      have b1 := pkf_lt (f := fun j => (T (i + j)).toNat) (e - i) (fun j hj => by have := hlet j hj; show (T (i + j)).toNat < 256; omega)
      have b2 := pkf_lt (f := fun j => w.getD j 0) w.length (fun j hj => (hwl j hj).2)
      have p1 : 256 ^ (e - i) ≤ 256 ^ 7 := Nat.pow_le_pow_right (by decide) (by omega)
      have p2 : 256 ^ w.length ≤ 256 ^ 7 := Nat.pow_le_pow_right (by decide) (by omega)
      have e7 : 256 ^ 7 = 72057594037927936 := by decide
      rw [w64_eq (by omega) (by omega), w64_eq (by omega) (by omega)]
      by_cases hq : wEq T i e w
      · obtain ⟨q1, q2⟩ := id hq
        rw [tb_t hq, if_pos]
        rw [show e - i = w.length by omega]
        congr 1
        refine pkf_cg _ (fun j hj => ?_)
        show (T (i + j)).toNat = w.getD j 0
        rw [q2 j hj]; rfl
      · rw [tb_f hq, if_neg]
        intro hpe
        obtain ⟨r1, r2⟩ := pkf_inj _ _ (fun j hj => by have := hlet j hj; show 0 < (T (i + j)).toNat ∧ (T (i + j)).toNat < 256; omega) hwl (Int.ofNat_inj.mp hpe)
        refine hq ⟨by omega, fun j hj => ?_⟩
        have r3 := r2 j (by omega)
        replace r3 : (T (i + j)).toNat = w.getD j 0 := r3
        have := hlet j (by omega)
        omega
    · rw [if_neg (by omega), tb_f (fun q => by have := q.1; omega)]
  · rw [if_neg (by omega), tb_f (fun q => by have := q.1; omega)]
/-- the class looks for one word of a list -/
def spl (t o : Nat) (w : List Nat) : Prop := (∃ L : Nat, sln t = some (L : Int) ∧ o + w.length < L ∧ L ≤ 1000) ∧ sch t ((o + w.length : Nat) : Int) = some 32 ∧ ∀ j, j < w.length → sch t ((o + j : Nat) : Int) = some ((w.getD j 0 : Nat) : Int) ∧ 97 ≤ w.getD j 0 ∧ w.getD j 0 ≤ 122
theorem ct_try {t o k i e : Nat} {w : List Nat} (hb : TB T n) (h : TC T n s) (hi : s 1 2 = (i : Int)) (hin : i ≤ e) (hen : e ≤ n) (hw : spl t o w) : lp (fun (q : Int × Int × Int) => xt_numberIn_b11 s t (e : Int) q.1 q.2.1 q.2.2) ((k : Int), (i : Int), (o : Int)) = if wEq T i e w then some (.inr (k : Int)) else lp (fun (q : Int × Int × Int) => xt_numberIn_b11 s t (e : Int) q.1 q.2.1 q.2.2) ((k : Int) + 1, (i : Int), ((o + w.length + 1 : Nat) : Int)) := by
  have hb1 := hb.1
  obtain ⟨⟨L, hL, hoL, hL1⟩, h32, hch⟩ := hw
  have key : ∀ j, j ≤ w.length → lp (fun (q : Int × Int × Int) => xt_numberIn_b11 s t (e : Int) q.1 q.2.1 q.2.2) ((k : Int), (i : Int), (o : Int)) = lp (fun (q : Int × Int × Int) => xt_numberIn_b11 s t (e : Int) q.1 q.2.1 q.2.2) ((k : Int), if ∀ j', j' < j → i + j' < e ∧ T (i + j') = ((w.getD j' 0 : Nat) : Int) then ((i + j : Nat) : Int) else -1, ((o + j : Nat) : Int)) := by
    intro j
    induction j with
    | zero =>
      intro _
      rw [if_pos (fun j' hj' => by omega)]
      rfl
    | succ j ih =>
      intro hj
      rw [ih (by omega)]
      obtain ⟨c1, c2, c3⟩ := hch j (by omega)
      refine lp_in ?_
      show xt_numberIn_b11 s t (e : Int) (k : Int) (if ∀ j', j' < j → i + j' < e ∧ T (i + j') = ((w.getD j' 0 : Nat) : Int) then ((i + j : Nat) : Int) else -1) ((o + j : Nat) : Int) = _
      unfold xt_numberIn_b11
      rw [hL]
      simp only [obs]
      rw [w32_eq (x := ((o + j : Nat) : Int)) (by omega) (by omega), w32_eq (x := (L : Int)) (by omega) (by omega), if_pos (by omega), c1]
      simp only [obs]
      rw [w32_eq (x := ((w.getD j 0 : Nat) : Int)) (by omega) (by omega), show w32 32 = 32 by decide, if_neg (by omega), hi, w32_eq (x := (i : Int)) (by omega) (by omega), w32_eq (x := (e : Int)) (by omega) (by omega), show ((o + j : Nat) : Int) + 1 = ((o + (j + 1) : Nat) : Int) by omega]
      by_cases hq : ∀ j', j' < j → i + j' < e ∧ T (i + j') = ((w.getD j' 0 : Nat) : Int)
      · rw [if_pos hq, w32_eq (x := ((i + j : Nat) : Int)) (by omega) (by omega), if_neg (by omega)]
        by_cases hl : i + j < e
        · have tb := hb.2 (i + j) (by omega)
          rw [if_pos (by omega), ixt (i + j) rfl (by omega) (by decide)]
          simp only [obs]
          rw [h.2, w32_eq (x := T (i + j)) (by omega) (by omega)]
          by_cases hc : T (i + j) = ((w.getD j 0 : Nat) : Int)
          · rw [if_pos hc, if_pos, show ((i + j : Nat) : Int) + 1 = ((i + (j + 1) : Nat) : Int) by omega]
            intro j' hj'
            by_cases hjj : j' = j
            · subst hjj; exact ⟨hl, hc⟩
            · exact hq j' (by omega)
          · rw [if_neg hc, if_neg (fun hx => hc (hx j (by omega)).2)]
        · rw [if_neg (by omega), if_neg (fun hx => hl (hx j (by omega)).1)]
      · rw [if_neg hq, show w32 (-1) = -1 by decide, if_pos (by omega), if_neg (fun hx => hq (fun j' hj' => hx j' (by omega)))]
  rw [key w.length (Nat.le_refl _)]
  rw [lp_un]
  have step : xt_numberIn_b11 s t (e : Int) (k : Int) (if ∀ j', j' < w.length → i + j' < e ∧ T (i + j') = ((w.getD j' 0 : Nat) : Int) then ((i + w.length : Nat) : Int) else -1) ((o + w.length : Nat) : Int) = some (if wEq T i e w then .inr (.inr (k : Int)) else .inl ((k : Int) + 1, (i : Int), ((o + w.length + 1 : Nat) : Int))) := by
    unfold xt_numberIn_b11
    rw [hL]
    simp only [obs]
    rw [w32_eq (x := ((o + w.length : Nat) : Int)) (by omega) (by omega), w32_eq (x := (L : Int)) (by omega) (by omega), if_pos (by omega), h32]
    simp only [obs]
    rw [if_pos trivial, w32_eq (x := (e : Int)) (by omega) (by omega), hi, show ((o + w.length : Nat) : Int) + 1 = ((o + w.length + 1 : Nat) : Int) by omega]
    by_cases hq : ∀ j', j' < w.length → i + j' < e ∧ T (i + j') = ((w.getD j' 0 : Nat) : Int)
    · rw [if_pos hq]
      by_cases hl : i + w.length = e
      · rw [if_pos (c := wEq T i e w) ⟨hl, fun j hj => (hq j hj).2⟩, hl, w32_eq (x := (e : Int)) (by omega) (by omega), if_pos rfl]
      · rw [if_neg (c := wEq T i e w) (fun hx => hl hx.1)]
        by_cases hbig : i + w.length < 2000000
        · rw [w32_eq (x := ((i + w.length : Nat) : Int)) (by omega) (by omega), if_neg (by omega)]
        · omega
    · rw [if_neg hq, if_neg (c := wEq T i e w) (fun hx => hq (fun j' hj' => ⟨by have := hx.1; omega, hx.2 j' hj'⟩)), show w32 (-1) = -1 by decide, if_neg (by omega)]
  show (xt_numberIn_b11 s t (e : Int) (k : Int) (if ∀ j', j' < w.length → i + j' < e ∧ T (i + j') = ((w.getD j' 0 : Nat) : Int) then ((i + w.length : Nat) : Int) else -1) ((o + w.length : Nat) : Int)).bind _ = _
  rw [step]
  by_cases hq : wEq T i e w
  · rw [if_pos hq, if_pos hq]; rfl
  · rw [if_neg hq, if_neg hq]; rfl
end WD
