/-! prices -/
theorem bts_bit (P : Nat → Prop) [DecidablePred P] : ∀ n c, (bts P n).testBit c = decide (c < n ∧ P c)
  | 0, c => by
    show (0 : Nat).testBit c = _
    rw [Nat.zero_testBit]
    exact (decide_eq_false (by omega)).symm
  | n + 1, c => by
    have ih := bts_bit P n
    have hb := bts_lt P n
    show (bts P n + if P n then 2 ^ n else 0).testBit c = _
    by_cases hp : P n
    · rw [if_pos hp, Nat.add_comm]
      by_cases h1 : c < n
      · rw [Nat.testBit_two_pow_add_gt h1, ih]
        exact decide_eq_decide.mpr ⟨fun q => ⟨by omega, q.2⟩, fun q => ⟨h1, q.2⟩⟩
      · by_cases h2 : c = n
        · subst h2
          rw [Nat.testBit_two_pow_add_eq, ih]
          rw [decide_eq_false (fun q => by omega), decide_eq_true ⟨by omega, hp⟩]
          rfl
        · rw [Nat.testBit_lt_two_pow, decide_eq_false (fun q => by omega)]
          have : 2 ^ (n + 1) ≤ 2 ^ c := Nat.pow_le_pow_right (by decide) (by omega)
          rw [Nat.pow_succ] at this
          omega
    · rw [if_neg hp, Nat.add_zero, ih]
      exact decide_eq_decide.mpr ⟨fun q => ⟨by omega, q.2⟩, fun q => ⟨by
        by_cases h2 : c = n
        · subst h2; exact absurd q.2 hp
        · omega, q.2⟩⟩
theorem bit_c {x c : Nat} (hx : x < 2147483648) (hc : c < 32) : bAnd (bShr (x : Int) (c : Int)) 1 = if x.testBit c then 1 else 0 := by
  have h1 : x / 2 ^ c ≤ x := Nat.div_le_self x _
  rw [bShr_n hx hc, show (1 : Int) = ((1 : Nat) : Int) from rfl, bAnd_n (by omega) (by omega), Nat.and_one_is_mod, Nat.testBit_eq_decide_div_mod_eq]
  by_cases h : x / 2 ^ c % 2 = 1
  · rw [h, if_pos (by simp)]
  · rw [show x / 2 ^ c % 2 = 0 by omega, if_neg (by simp)]; rfl
def cnt (P : Nat → Bool) : Nat → Nat
  | 0 => 0
  | n + 1 => cnt P n + if P n then 1 else 0
theorem cnt_le (P : Nat → Bool) : ∀ n, cnt P n ≤ n
  | 0 => Nat.le_refl 0
  | n + 1 => by
    have := cnt_le P n
    show cnt P n + (if P n then 1 else 0) ≤ n + 1
    split <;> omega
theorem bc8 : ∀ x : Nat, x < 256 → xj_bitCount (x : Int) = some ((cnt (fun c => x.testBit c) 8 : Nat) : Int) := by decide +kernel
theorem cnt_cg {P Q : Nat → Bool} : ∀ {n : Nat}, (∀ c, c < n → P c = Q c) → cnt P n = cnt Q n
  | 0, _ => rfl
  | n + 1, h => by
    show cnt P n + (if P n then 1 else 0) = cnt Q n + (if Q n then 1 else 0)
    rw [cnt_cg (fun c hc => h c (by omega)), h n (by omega)]
theorem cnt_up {P : Nat → Bool} {n : Nat} : ∀ k, n ≤ k → (∀ c, n ≤ c → P c = false) → cnt P k = cnt P n
  | 0, h, _ => by rw [show n = 0 by omega]
  | k + 1, h, hp => by
    by_cases hk : n = k + 1
    · rw [hk]
    · show cnt P k + (if P k then 1 else 0) = _
      rw [cnt_up k (by omega) hp, hp k (by omega)]
      rfl
theorem bc_bts {P : Nat → Bool} {n : Nat} (hn : n ≤ 8) : xj_bitCount ((bts (fun c => P c = true) n : Nat) : Int) = some ((cnt P n : Nat) : Int) := by
  have hb := bts_lt (fun c => P c = true) n
  have h2 : 2 ^ n ≤ 2 ^ 8 := Nat.pow_le_pow_right (by decide) hn
  rw [bc8 _ (by omega), cnt_up 8 hn (fun c hc => by rw [bts_bit]; exact decide_eq_false (by omega))]
  rw [cnt_cg (Q := P) (fun c hc => by
    rw [bts_bit]
    cases hp : P c with
    | true => exact decide_eq_true ⟨hc, rfl⟩
    | false => exact decide_eq_false (fun q => by cases q.2))]
def sumN (g : Nat → Int) : Nat → Int
  | 0 => 0
  | n + 1 => sumN g n + g n
theorem sumN_bd {g : Nat → Int} {B : Int} : ∀ {n : Nat}, (∀ c, c < n → 0 ≤ g c ∧ g c ≤ B) → 0 ≤ sumN g n ∧ sumN g n ≤ n * B
  | 0, _ => by show (0 : Int) ≤ 0 ∧ (0 : Int) ≤ ((0 : Nat) : Int) * B; simp
  | n + 1, h => by
    have ih := sumN_bd (g := g) (B := B) (n := n) (fun c hc => h c (by omega))
    have h1 := h n (by omega)
    show 0 ≤ sumN g n + g n ∧ sumN g n + g n ≤ ((n + 1 : Nat) : Int) * B
    have e : ((n + 1 : Nat) : Int) * B = n * B + B := by rw [Int.natCast_add, Int.add_mul]; simp
    omega
def clp (x : Int) : Int := if w64 x < 0 then 0 else if 999 < w64 x then 999 else w64 x
theorem clp_bd (x : Int) : 0 ≤ clp x ∧ clp x ≤ 999 := by
  unfold clp
  split
  · omega
  · split <;> omega
theorem w32_w64 (x : Int) : w32 (w64 x) = w32 x := by
  unfold w32 w64
  rw [Int32.ofInt_int64ToInt, Int64.toInt32_ofInt]
/-- the words of a cell -/
def wsF (K : Nat → Nat → Int) (b mvn wy c : Nat) : Nat → Int := fun k =>
  if k = 0 then c else if k = 1 then K 5 c else if k = 2 then b else if k = 3 then K 4 c else if k = 4 then w32 (K 2 c) else if k = 5 then K 1 c else if k = 6 then mvn else if k = 7 then K 0 2 else if k = 8 then wy else if k = 9 then K 8 b else K 0 3
theorem ev1_cg {ws ws1 : Nat → Int} {t : Tok} {b b1 : List Bool} {st : List Int} (h : ty1 t b = some b1) (hw : ∀ k, k ≤ 10 → ws k = ws1 k) : ev1 ws t st = ev1 ws1 t st := by
  obtain ⟨-, l2, -⟩ := ty1_len h
  unfold ev1
  by_cases h1 : t.1 = 1
  · rw [hw t.2 (l2 h1)]
  · rw [if_neg h1, if_neg h1]
theorem evT_cg {ws ws1 : Nat → Int} (hw : ∀ k, k ≤ 10 → ws k = ws1 k) : ∀ {r : List Tok} {b b1 : List Bool} {st : List Int}, tyT r b = some b1 → evT ws r st = evT ws1 r st
  | [], _, _, _, _ => rfl
  | t :: r, b, b1, st, h => by
    obtain ⟨b2, h1, h2⟩ := bd h
    show evT ws r (ev1 ws t st) = evT ws1 r (ev1 ws1 t st)
    rw [ev1_cg h1 hw]
    exact evT_cg hw h2
theorem evC_cg {ws ws1 : Nat → Int} (hw : ∀ k, k ≤ 10 → ws k = ws1 k) : ∀ {R : List Cls}, wfC R → evC ws R = evC ws1 R
  | [], _ => rfl
  | (sm, none) :: r, h => by
    show (evT ws sm []).headD 0 = (evT ws1 sm []).headD 0
    rw [evT_cg hw h.1]
  | (sm, some te) :: r, h => by
    show (if (evT ws te []).headD 0 = 1 then (evT ws sm []).headD 0 else evC ws r) = (if (evT ws1 te []).headD 0 = 1 then (evT ws1 sm []).headD 0 else evC ws1 r)
    rw [evT_cg hw h.1, evT_cg hw (h.2.1 te rfl), evC_cg hw h.2.2]
def prF (ro : Option (List Cls)) (K : Nat → Nat → Int) (b mvn wy c : Nat) : Int := match ro with
  | none => K 5 c
  | some R => clp (evC (wsF K b mvn wy c) R)
/-- what a cell costs -/
def prc (ro : Option (List Cls)) (K : Nat → Nat → Int) (n b p sd wy c : Nat) : Int :=
  if mvB (K 1) c p sd = true ∧ K 4 c ≠ (b : Int) then prF ro K b (cnt (fun c => mvB (K 1) c p sd) n) wy c else 0
theorem prc_bd {ro : Option (List Cls)} {K : Nat → Nat → Int} {n m b p sd wy c : Nat} (w : WF K n m) (hc : c < n) : 0 ≤ prc ro K n b p sd wy c ∧ prc ro K n b p sd wy c ≤ 999 := by
  obtain ⟨w8, w4, -, -, wl, wz, -, -, wc, -⟩ := id w
  have hw := wc c hc
  unfold prc
  split
  · unfold prF
    split
    · omega
    · exact clp_bd _
  · omega
/-- the class's rule -/
def CR (ln : Nat → Nat) (s : Hp) (u : Int) : Option (List Cls) → Prop
  | none => u < 0
  | some R => ¬ u < 0 ∧ ln u.toNat = (encC R).length ∧ (encC R).length ≤ 400 ∧ At (s (u.toNat + 1)) 0 (encC R) ∧ wfC R ∧ 175 ≤ u.toNat
theorem CR_row {ln : Nat → Nat} {s s1 : Hp} {u : Int} {ro : Option (List Cls)} (h : CR ln s u ro) (hs : ∀ p, 175 ≤ p → s1 p = s p) : CR ln s1 u ro := by
  match ro, h with
  | none, h => exact h
  | some R, h =>
    obtain ⟨h1, h2, h3, h4, h5, h6⟩ := h
    exact ⟨h1, h2, h3, by rw [hs _ (by omega)]; exact h4, h5, h6⟩
def awayM (a : Nat) : Prop := a + 8 < 51 ∨ 53 < a
theorem Cl_row {s s1 : Hp} {a : Nat} {K : Nat → Nat → Int} {n m : Nat} (h : Cl s a K n m) (hs : ∀ i, i ≤ 8 → s1 (a + i) = s (a + i)) : Cl s1 a K n m := by
  obtain ⟨h0, h1, h2, h3, h4, h5, h6, h7⟩ := h
  have e0 : s1 a = s a := hs 0 (by decide)
  refine ⟨by rw [e0]; exact h0, by rw [e0]; exact h1, by rw [e0]; exact h2, by rw [e0]; exact h3, fun c hc => ?_, fun j hj => ?_, fun p hp => ?_, fun p hp => ?_⟩
  · rw [hs 1 (by decide), hs 2 (by decide), hs 3 (by decide), hs 4 (by decide), hs 5 (by decide)]
    exact h4 c hc
  · rw [hs 6 (by decide)]; exact h5 j hj
  · rw [hs 8 (by decide)]; exact h6 p hp
  · rw [hs 7 (by decide)]; exact h7 p hp
theorem uh_rc (s : Hp) (a i : Nat) (v : Int) : uh s a i v a i = v := if_pos ⟨rfl, rfl⟩
theorem uh_ro (s : Hp) (a i : Nat) (v : Int) {q : Nat} (h : q ≠ i) : uh s a i v a q = s a q := if_neg (fun e => h e.2)
section PR
variable {ln : Nat → Nat} {rs : Nat → Int} {s : Hp} {a : Nat} {u : Int} {ro : Option (List Cls)} {K : Nat → Nat → Int} {n m b : Nat}
/-- a cell's price, by the class -/
theorem cl_priceOf (h : Cl s a K n m) (w : WF K n m) (ha : awayM a) (hr : CR ln s u ro) (hb : b < m) {mvn wy c : Nat} (hc : c < n) (h2 : s 52 2 = b) (h6 : s 52 6 = mvn) (h7 : s 52 7 = K 0 2) (h8 : s 52 8 = wy) (h9 : s 52 9 = K 8 b) (h10 : s 52 10 = K 0 3) : ∃ s1, xk_priceOf ln rs s a u (c : Int) = some (prF ro K b mvn wy c, s1) ∧ (∀ p, p ≠ 52 → p ≠ 53 → s1 p = s p) ∧ s1 52 2 = b ∧ s1 52 6 = mvn ∧ s1 52 7 = K 0 2 ∧ s1 52 8 = wy ∧ s1 52 9 = K 8 b ∧ s1 52 10 = K 0 3 := by
  obtain ⟨hn, hm, hwd, hdy, hcc, -⟩ := id h
  obtain ⟨w8, w4, -, -, wl, wz, -, -, wc, -, wq⟩ := id w
  have hw := wc c hc
  have hcx := hcc c hc
  have ic : ix 8 (c : Int) = some c := ixt c rfl (by omega) (by decide)
  have ne : ∀ i, i ≤ 8 → a + i ≠ 52 := fun i hi => by unfold awayM at ha; omega
  unfold xk_priceOf prF
  match ro, hr with
  | none, hr =>
    have hr : u < 0 := hr
    rw [if_pos hr, ic]
    simp only [obs]
    rw [hcx.2.2.2.2]
    exact ⟨s, rfl, fun _ _ _ => rfl, h2, h6, h7, h8, h9, h10⟩
  | some R, hr =>
    obtain ⟨r1, r2, r3, r4, r5, r6⟩ := hr
    rw [if_neg r1, ic, show ix 11 0 = some 0 by decide +kernel, show ix 11 1 = some 1 by decide +kernel, show ix 11 3 = some 3 by decide +kernel, show ix 11 4 = some 4 by decide +kernel, show ix 11 5 = some 5 by decide +kernel]
    simp only [obs]
    simp only [uh_row (p := a + 5) (a := 52) (ne 5 (by decide)), uh_row (p := a + 4) (a := 52) (ne 4 (by decide)), uh_row (p := a + 2) (a := 52) (ne 2 (by decide)), uh_row (p := a + 1) (a := 52) (ne 1 (by decide))]
    rw [hcx.1, hcx.2.1, hcx.2.2.2.1, hcx.2.2.2.2, w32_eq (x := (c : Int)) (by omega) (by omega), w32_eq (x := K 5 c) (by omega) (by omega), w32_eq (x := K 4 c) (by omega) (by omega), w32_eq (x := K 1 c) (by omega) (by omega)]
    generalize hs1 : uh (uh (uh (uh (uh s 52 0 (c : Int)) 52 1 (K 5 c)) 52 3 (K 4 c)) 52 4 (w32 (K 2 c))) 52 5 (K 1 c) = s1
    have hrow : ∀ p, p ≠ 52 → s1 p = s p := fun p hp => by
      rw [← hs1, uh_row hp, uh_row hp, uh_row hp, uh_row hp, uh_row hp]
    have hk : ∀ k, k ≤ 10 → s1 52 k = wsF K b mvn wy c k := fun k hk => by
      rw [← hs1]
      have h5 : k = 0 ∨ k = 1 ∨ k = 2 ∨ k = 3 ∨ k = 4 ∨ k = 5 ∨ k = 6 ∨ k = 7 ∨ k = 8 ∨ k = 9 ∨ k = 10 := by omega
      rcases h5 with rfl | rfl | rfl | rfl | rfl | rfl | rfl | rfl | rfl | rfl | rfl <;> simp [uh_at, wsF, h2, h6, h7, h8, h9, h10]
    obtain ⟨s2, e1, e2⟩ := cs_rule (ln := ln) (rs := rs) (a := u.toNat) (by omega) (by omega) R s1 0 (by rw [r2]; omega) (by rw [hrow _ (by omega)]; exact r4) r5
    have e1 : xu_sumFor ln rs s1 u.toNat = some (evC (s1 52) R, s2) := e1
    rw [e1]
    simp only [obs]
    rw [evC_cg hk r5]
    refine ⟨s2, ?_, fun p hp hp2 => (e2 p hp2).trans (hrow p hp), ?_⟩
    · congr 2
      unfold lI mxL mnL clp
      rw [show w64 999 = 999 by decide, show w64 0 = 0 by decide]
      generalize evC (wsF K b mvn wy c) R = x
      by_cases q1 : w64 x < 999
      · rw [if_pos q1]
        by_cases q2 : w64 x < 0
        · rw [if_pos q2, if_pos q2]; rfl
        · rw [if_neg q2, if_neg q2, if_neg (by omega), ← w32_w64, w32_eq (by omega) (by omega)]
      · rw [if_neg q1, show w64 999 = 999 by decide, if_neg (by decide), if_neg (by omega)]
        by_cases q2 : 999 < w64 x
        · rw [if_pos q2]; rfl
        · rw [if_neg q2, show w64 x = 999 by omega]; rfl
    · rw [e2 52 (by decide)]
      exact ⟨hk 2 (by decide), hk 6 (by decide), hk 7 (by decide), hk 8 (by decide), hk 9 (by decide), hk 10 (by decide)⟩
end PR
/-- what a fold costs all together -/
def tot (ro : Option (List Cls)) (K : Nat → Nat → Int) (n b p sd wy : Nat) : Int := sumN (prc ro K n b p sd wy) n
theorem tot_bd {ro : Option (List Cls)} {K : Nat → Nat → Int} {n m b p sd wy : Nat} (w : WF K n m) : 0 ≤ tot ro K n b p sd wy ∧ tot ro K n b p sd wy ≤ 7992 := by
  have h := sumN_bd (g := prc ro K n b p sd wy) (B := 999) (n := n) (fun c hc => prc_bd w hc)
  have w8 := w.1
  unfold tot
  omega
section QU
variable {ln : Nat → Nat} {rs : Nat → Int} {s : Hp} {a : Nat} {u : Int} {ro : Option (List Cls)} {K : Nat → Nat → Int} {n m b : Nat}
theorem cl_quote (h : Cl s a K n m) (w : WF K n m) (ha : awayM a) (hr : CR ln s u ro) (hb : b < m) {f : Nat} (hf : f < 64) : (¬ canF (K 1) (K 3) (K 6) n (f / 4) (f % 2) → xk_quote ln rs s a u (b : Int) (f : Int) = some (-2, s)) ∧ (canF (K 1) (K 3) (K 6) n (f / 4) (f % 2) → ∃ s1, xk_quote ln rs s a u (b : Int) (f : Int) = some (tot ro K n b (f / 4) (f / 2 % 2) (f % 2), s1) ∧ (∀ p, p ≠ 51 → p ≠ 52 → p ≠ 53 → s1 p = s p) ∧ ∀ c, c < n → s1 51 c = prc ro K n b (f / 4) (f / 2 % 2) (f % 2) c) := by
  obtain ⟨hn, hm, hwd, hdy, hcc, -, hpu, -⟩ := id h
  obtain ⟨w8, w4, -, -, wl, wz, wd0, wd9, wc, -, wq⟩ := id w
  have ne : ∀ i, i ≤ 8 → a + i ≠ 51 ∧ a + i ≠ 52 ∧ a + i ≠ 53 := fun i hi => by unfold awayM at ha; omega
  have hwb := wq b hb
  unfold xk_quote
  rw [cl_hasPerson h w (by omega) (by omega)]
  simp only [obs, tb0]
  rw [if_neg (by omega)]
  constructor
  · intro hcan
    rw [(cl_can h w hf).2 hcan]
    simp only [obs]
    rw [if_pos (by decide)]
  · intro hcan
    rw [(cl_can h w hf).1 hcan]
    simp only [obs]
    rw [if_neg (by decide), cl_movedCells h w hf]
    simp only [obs]
    rw [bc_bts w8, cd_w f hf, show ix 11 2 = some 2 by decide +kernel, show ix 11 6 = some 6 by decide +kernel, show ix 11 7 = some 7 by decide +kernel, show ix 11 8 = some 8 by decide +kernel, show ix 11 9 = some 9 by decide +kernel, show ix 11 10 = some 10 by decide +kernel, ixt (n := 4) b rfl (by omega) (by decide)]
    simp only [obs]
    have n0 : a ≠ 52 := (ne 0 (by decide)).2.1
    simp only [uh_row (p := a) (a := 52) n0, uh_row (p := a + 8) (a := 52) (ne 8 (by decide)).2.1]
    have hcn := cnt_le (fun c => mvB (K 1) c (f / 4) (f / 2 % 2)) n
    rw [hwd, hdy, hpu b hb, w32_eq (x := (b : Int)) (by omega) (by omega), w32_eq (x := ((cnt (fun c => mvB (K 1) c (f / 4) (f / 2 % 2)) n : Nat) : Int)) (by omega) (by omega), w32_eq (x := K 0 2) (by omega) (by omega), w32_eq (x := ((f % 2 : Nat) : Int)) (by omega) (by omega), w32_eq (x := K 8 b) (by omega) (by omega), w32_eq (x := K 0 3) (by omega) (by omega)]
    generalize hN : cnt (fun c => mvB (K 1) c (f / 4) (f / 2 % 2)) n = N
    generalize hS : uh (uh (uh (uh (uh (uh s 52 2 (b : Int)) 52 6 (N : Int)) 52 7 (K 0 2)) 52 8 ((f % 2 : Nat) : Int)) 52 9 (K 8 b)) 52 10 (K 0 3) = S
    have hrow : ∀ p, p ≠ 52 → S p = s p := fun p hp => by
      rw [← hS, uh_row hp, uh_row hp, uh_row hp, uh_row hp, uh_row hp, uh_row hp]
    have hk : S 52 2 = b ∧ S 52 6 = N ∧ S 52 7 = K 0 2 ∧ S 52 8 = ((f % 2 : Nat) : Int) ∧ S 52 9 = K 8 b ∧ S 52 10 = K 0 3 := by
      rw [← hS]
      simp [uh_at]
    generalize hB : bts (fun c => mvB (K 1) c (f / 4) (f / 2 % 2) = true) n = B
    have hB2 : B < 256 := by
      have := bts_lt (fun c => mvB (K 1) c (f / 4) (f / 2 % 2) = true) n
      have h2 : 2 ^ n ≤ 2 ^ 8 := Nat.pow_le_pow_right (by decide) w8
      omega
    obtain ⟨r, e1, e2⟩ : ∃ r, lp (fun (q : Int × Int × Hp) => xk_quote_b105 ln rs q.2.2 a u (b : Int) (B : Int) q.1 q.2.1) (0, 0, S) = some r ∧ (fun r => r.1 = sumN (prc ro K n b (f / 4) (f / 2 % 2) (f % 2)) n ∧ (∀ p, p ≠ 51 → p ≠ 52 → p ≠ 53 → r.2.2 p = s p) ∧ ∀ c, c < n → r.2.2 51 c = prc ro K n b (f / 4) (f / 2 % 2) (f % 2) c) r := by
      refine lp_forR (fun i (q : Int × Int × Hp) => q.1 = sumN (prc ro K n b (f / 4) (f / 2 % 2) (f % 2)) i ∧ q.2.1 = (i : Int) ∧ (∀ p, p ≠ 51 → p ≠ 52 → p ≠ 53 → q.2.2 p = s p) ∧ (q.2.2 52 2 = (b : Int) ∧ q.2.2 52 6 = (N : Int) ∧ q.2.2 52 7 = K 0 2 ∧ q.2.2 52 8 = ((f % 2 : Nat) : Int) ∧ q.2.2 52 9 = K 8 b ∧ q.2.2 52 10 = K 0 3) ∧ ∀ c, c < i → q.2.2 51 c = prc ro K n b (f / 4) (f / 2 % 2) (f % 2) c) n _ ?_ ?_ ⟨rfl, rfl, fun p _ h2 _ => hrow p h2, hk, fun c hc => by omega⟩
      · rintro i ⟨sum, c, s1⟩ hi ⟨i1, i2, i3, ⟨k2, k6, k7, k8, k9, k10⟩, i5⟩
        simp only at i1 i2 i3 k2 k6 k7 k8 k9 k10 i5
        subst i2
        have hcl : Cl s1 a K n m := Cl_row h (fun j hj => i3 _ (ne j hj).1 (ne j hj).2.1 (ne j hj).2.2)
        have hcr : CR ln s1 u ro := CR_row hr (fun p hp => i3 p (by omega) (by omega) (by omega))
        have hw := wc i hi
        have hbit : bAnd (bShr (B : Int) (i : Int)) 1 = if mvB (K 1) i (f / 4) (f / 2 % 2) = true then 1 else 0 := by
          rw [bit_c (by omega) (by omega), ← hB, bts_bit]
          by_cases hm : mvB (K 1) i (f / 4) (f / 2 % 2) = true
          · rw [if_pos (decide_eq_true ⟨hi, hm⟩), if_pos hm]
          · rw [if_neg (by rw [decide_eq_false (fun q => hm q.2)]; decide), if_neg hm]
        have e166 : ∀ (s2 : Hp) (v : Int), xk_quote_b105_j166 ln rs s2 a u (b : Int) (B : Int) sum (i : Int) (i : Int) v = some (.inl (sum + v, ((i + 1 : Nat) : Int), uh s2 51 i v)) := fun s2 v => by
          unfold xk_quote_b105_j166
          rw [ixt i rfl (by omega) (by decide)]
          simp only [obs]
          rw [uh_rc]
          rfl
        show ∃ s2, xk_quote_b105 ln rs s1 a u (b : Int) (B : Int) sum (i : Int) = some (.inl s2) ∧ _
        unfold xk_quote_b105
        rw [hcl.1, hbit, ixt i rfl (by omega) (by decide)]
        simp only [obs]
        rw [(hcl.2.2.2.2.1 i hi).2.2.2.1, w32_eq (x := (i : Int)) (by omega) (by omega), w32_eq (x := (n : Int)) (by omega) (by omega), if_pos (by omega), w32_eq (x := K 4 i) (by omega) (by omega), w32_eq (x := (b : Int)) (by omega) (by omega), show w32 1 = 1 by decide]
        have fin : ∀ (s2 : Hp), (∀ p, p ≠ 51 → p ≠ 52 → p ≠ 53 → s2 p = s p) → (∀ c, c < i → s2 51 c = prc ro K n b (f / 4) (f / 2 % 2) (f % 2) c) → (s2 52 2 = (b : Int) ∧ s2 52 6 = (N : Int) ∧ s2 52 7 = K 0 2 ∧ s2 52 8 = ((f % 2 : Nat) : Int) ∧ s2 52 9 = K 8 b ∧ s2 52 10 = K 0 3) → ∃ q, (some (.inl (sum + prc ro K n b (f / 4) (f / 2 % 2) (f % 2) i, ((i + 1 : Nat) : Int), uh s2 51 i (prc ro K n b (f / 4) (f / 2 % 2) (f % 2) i))) : Option ((Int × Int × Hp) ⊕ (Int × Int × Hp))) = some (.inl q) ∧ q.1 = sumN (prc ro K n b (f / 4) (f / 2 % 2) (f % 2)) (i + 1) ∧ q.2.1 = ((i + 1 : Nat) : Int) ∧ (∀ p, p ≠ 51 → p ≠ 52 → p ≠ 53 → q.2.2 p = s p) ∧ (q.2.2 52 2 = (b : Int) ∧ q.2.2 52 6 = (N : Int) ∧ q.2.2 52 7 = K 0 2 ∧ q.2.2 52 8 = ((f % 2 : Nat) : Int) ∧ q.2.2 52 9 = K 8 b ∧ q.2.2 52 10 = K 0 3) ∧ ∀ c, c < i + 1 → q.2.2 51 c = prc ro K n b (f / 4) (f / 2 % 2) (f % 2) c := by
          intro s2 g1 g2 g3
          have e52 : ∀ v, uh s2 51 i v 52 = s2 52 := fun v => uh_row (by decide)
          refine ⟨_, rfl, by rw [i1]; rfl, rfl, fun p p1 p2 p3 => (uh_row p1).trans (g1 p p1 p2 p3), by simp only [e52]; exact g3, fun c hc => ?_⟩
          by_cases hci : c = i
          · subst hci; exact uh_rc _ _ _ _
          · show uh s2 51 i _ 51 c = _
            rw [uh_ro _ _ _ _ hci]; exact g2 c (by omega)
        have e0 : ∀ k0 : Int, w32 k0 = 0 → xk_quote_b105_j141 ln rs s1 a u (b : Int) (B : Int) sum (i : Int) k0 = some (.inl (sum + 0, ((i + 1 : Nat) : Int), uh s1 51 i 0)) := fun k0 hk0 => by
          unfold xk_quote_b105_j141
          rw [if_pos hk0, e166]
        by_cases hm : mvB (K 1) i (f / 4) (f / 2 % 2) = true
        · rw [if_pos hm, if_pos (by decide)]
          by_cases ho : K 4 i = (b : Int)
          · have hp : prc ro K n b (f / 4) (f / 2 % 2) (f % 2) i = 0 := if_neg (fun q => q.2 ho)
            rw [if_pos ho, e0 0 (by decide)]
            have := fin s1 i3 i5 ⟨k2, k6, k7, k8, k9, k10⟩
            rw [hp] at this
            exact this
          · have hp : prc ro K n b (f / 4) (f / 2 % 2) (f % 2) i = prF ro K b N (f % 2) i := by
              unfold prc
              rw [if_pos ⟨hm, ho⟩, hN]
            obtain ⟨s2, q1, q2, q3⟩ := cl_priceOf (rs := rs) hcl w ha hcr hb hi k2 k6 k7 k8 k9 k10
            rw [if_neg ho]
            unfold xk_quote_b105_j141
            rw [if_neg (by decide), q1]
            simp only [obs]
            rw [e166, ← hp]
            exact fin s2 (fun p p1 p2 p3 => (q2 p p2 p3).trans (i3 p p1 p2 p3)) (fun c hc => by rw [q2 51 (by decide) (by decide)]; exact i5 c hc) q3
        · have hp : prc ro K n b (f / 4) (f / 2 % 2) (f % 2) i = 0 := if_neg (fun q => hm q.1)
          rw [if_neg hm, if_neg (by decide), e0 0 (by decide)]
          have := fin s1 i3 i5 ⟨k2, k6, k7, k8, k9, k10⟩
          rw [hp] at this
          exact this
      · rintro ⟨sum, c, s1⟩ ⟨i1, i2, i3, i4, i5⟩
        simp only at i1 i2 i3 i5
        subst i2
        refine ⟨(sum, (n : Int), s1), ?_, i1, i3, i5⟩
        show xk_quote_b105 ln rs s1 a u (b : Int) (B : Int) sum (n : Int) = _
        unfold xk_quote_b105
        rw [show s1 a 0 = (n : Int) by rw [show s1 a = s a from i3 _ (ne 0 (by decide)).1 (ne 0 (by decide)).2.1 (ne 0 (by decide)).2.2]; exact hn, if_neg (by omega)]
    rw [e1]
    simp only [obs]
    rw [e2.1]
    exact ⟨r.2.2, rfl, e2.2.1, e2.2.2⟩
end QU
