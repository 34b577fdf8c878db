/-! rules as rows of signs: (0, number) (1, word) (2, _) not (5.. 16, _) of two -/
abbrev Tok : Type := Nat × Nat
def f2 (op : Nat) (x y : Int) : Int :=
  if op = 5 then x + y else if op = 6 then x - y else if op = 7 then x * y
  else if op = 8 then (if w64 y = 0 then 0 else lDiv x y) else if op = 9 then (if w64 y = 0 then 0 else lRem x y)
  else if op = 10 then (if w64 x < w64 y then 1 else 0) else if op = 11 then (if w64 y < w64 x then 0 else 1)
  else if op = 12 then (if w64 x = w64 y then 1 else 0) else if op = 13 then (if w64 x < w64 y then 0 else 1)
  else if op = 14 then (if w64 y < w64 x then 1 else 0) else if op = 15 then lAnd x y else lOr x y
def rop (op : Nat) : Nat := if op ≤ 1 then op else if op = 2 then 11 else if op ≤ 8 then op - 3 else if op = 9 then 14 else if op ≤ 14 then op - 4 else op - 3
def ev1 (ws : Nat → Int) (t : Tok) (st : List Int) : List Int :=
  if t.1 = 0 then (t.2 : Int) :: st else if t.1 = 1 then ws t.2 :: st else match st with
    | [] => []
    | y :: r => if t.1 = 2 then (1 - y) :: r else match r with
      | [] => []
      | x :: r => f2 t.1 x y :: r
def evT (ws : Nat → Int) : List Tok → List Int → List Int
  | [], st => st
  | t :: r, st => evT ws r (ev1 ws t st)
def ty1 (t : Tok) (b : List Bool) : Option (List Bool) :=
  if t.1 = 0 then (if b.length < 31 ∧ t.2 ≤ 99999 then some (false :: b) else none)
  else if t.1 = 1 then (if b.length < 31 ∧ t.2 ≤ 10 then some (false :: b) else none)
  else match b with
    | [] => none
    | y :: r => if t.1 = 2 then (if y = true then some (true :: r) else none) else match r with
      | [] => none
      | x :: r => if 5 ≤ t.1 ∧ t.1 ≤ 9 then (if x = false ∧ y = false then some (false :: r) else none)
        else if 10 ≤ t.1 ∧ t.1 ≤ 14 then (if x = false ∧ y = false then some (true :: r) else none)
        else if 15 ≤ t.1 ∧ t.1 ≤ 16 then (if x = true ∧ y = true then some (true :: r) else none) else none
def tyT : List Tok → List Bool → Option (List Bool)
  | [], b => some b
  | t :: r, b => (ty1 t b).bind (tyT r)
/-- numbers of the kinds told: a truth is 0 or 1 -/
def TV : List Bool → List Int → Prop
  | [], [] => True
  | b :: bs, x :: xs => (b = true → x = 0 ∨ x = 1) ∧ TV bs xs
  | _, _ => False
theorem TV_len : ∀ {b : List Bool} {x : List Int}, TV b x → b.length = x.length
  | [], [], _ => rfl
  | [], _ :: _, h => h.elim
  | _ :: _, [], h => h.elim
  | _ :: bs, _ :: xs, h => congrArg Nat.succ (TV_len h.2)
theorem f2_t {op : Nat} {x y : Int} (h : 10 ≤ op ∧ op ≤ 14) : f2 op x y = 0 ∨ f2 op x y = 1 := by
  have h5 : op = 10 ∨ op = 11 ∨ op = 12 ∨ op = 13 ∨ op = 14 := by omega
  rcases h5 with rfl | rfl | rfl | rfl | rfl <;> (unfold f2; simp only [reduceIte, Nat.reduceEqDiff]; split <;> simp)
theorem f2_b {op : Nat} {x y : Int} (h : 15 ≤ op ∧ op ≤ 16) (hx : x = 0 ∨ x = 1) (hy : y = 0 ∨ y = 1) : f2 op x y = 0 ∨ f2 op x y = 1 := by
  have h5 : op = 15 ∨ op = 16 := by omega
  rcases h5 with rfl | rfl <;> rcases hx with rfl | rfl <;> rcases hy with rfl | rfl <;> decide
theorem ev1_ty {ws : Nat → Int} {t : Tok} {b b1 : List Bool} {st : List Int} (h : ty1 t b = some b1) (hv : TV b st) : TV b1 (ev1 ws t st) := by
  unfold ty1 at h
  unfold ev1
  by_cases h0 : t.1 = 0
  · rw [if_pos h0] at h ⊢
    obtain ⟨-, h⟩ := gd h
    cases h
    exact ⟨fun q => (by cases q), hv⟩
  rw [if_neg h0] at h ⊢
  by_cases h1 : t.1 = 1
  · rw [if_pos h1] at h ⊢
    obtain ⟨-, h⟩ := gd h
    cases h
    exact ⟨fun q => (by cases q), hv⟩
  rw [if_neg h1] at h ⊢
  match b, st, h, hv with
  | [], _, h, _ => cases h
  | y :: r, [], _, hv => exact hv.elim
  | y :: r, vy :: vr, h, hv =>
    simp only at h ⊢
    by_cases h2 : t.1 = 2
    · rw [if_pos h2] at h ⊢
      obtain ⟨e, h⟩ := gd h
      cases h
      refine ⟨fun _ => ?_, hv.2⟩
      rcases hv.1 e with q | q <;> rw [q] <;> simp
    rw [if_neg h2] at h ⊢
    match r, vr, h, hv with
    | [], _, h, _ => cases h
    | x :: r, [], _, hv => exact hv.2.elim
    | x :: r, vx :: vr, h, hv =>
      simp only at h ⊢
      by_cases h3 : 5 ≤ t.1 ∧ t.1 ≤ 9
      · rw [if_pos h3] at h
        obtain ⟨e, h⟩ := gd h
        cases h
        exact ⟨fun q => (by cases q), hv.2.2⟩
      rw [if_neg h3] at h
      by_cases h4 : 10 ≤ t.1 ∧ t.1 ≤ 14
      · rw [if_pos h4] at h
        obtain ⟨e, h⟩ := gd h
        cases h
        exact ⟨fun _ => f2_t h4, hv.2.2⟩
      rw [if_neg h4] at h
      obtain ⟨h5, h⟩ := gd h
      obtain ⟨e, h⟩ := gd h
      cases h
      exact ⟨fun _ => f2_b h5 (hv.2.1 e.1) (hv.1 e.2), hv.2.2⟩
theorem evT_ty {ws : Nat → Int} : ∀ {r : List Tok} {b b1 : List Bool} {st : List Int}, tyT r b = some b1 → TV b st → TV b1 (evT ws r st)
  | [], _, _, _, h, hv => by cases h; exact hv
  | t :: r, b, b1, st, h, hv => by
    obtain ⟨b2, h1, h2⟩ := bd h
    exact evT_ty (r := r) h2 (ev1_ty h1 hv)
/-- more may lie below -/
theorem ev1_app {ws : Nat → Int} {t : Tok} {b b1 : List Bool} {st st1 : List Int} (h : ty1 t b = some b1) (hl : b.length = st.length) : ev1 ws t (st ++ st1) = ev1 ws t st ++ st1 ∧ b1.length = (ev1 ws t st).length := by
  unfold ty1 at h
  unfold ev1
  by_cases h0 : t.1 = 0
  · rw [if_pos h0] at h
    obtain ⟨-, h⟩ := gd h
    cases h
    rw [if_pos h0, if_pos h0]
    exact ⟨rfl, by simp [hl]⟩
  rw [if_neg h0] at h
  by_cases h1 : t.1 = 1
  · rw [if_pos h1] at h
    obtain ⟨-, h⟩ := gd h
    cases h
    rw [if_neg h0, if_neg h0, if_pos h1, if_pos h1]
    exact ⟨rfl, by simp [hl]⟩
  rw [if_neg h1] at h
  rw [if_neg h0, if_neg h0, if_neg h1, if_neg h1]
  match b, st, h, hl with
  | [], _, h, _ => cases h
  | y :: r, [], _, hl => cases hl
  | y :: r, vy :: vr, h, hl =>
    simp only [List.cons_append] at h ⊢
    by_cases h2 : t.1 = 2
    · rw [if_pos h2] at h
      obtain ⟨e, h⟩ := gd h
      cases h
      rw [if_pos h2, if_pos h2]
      exact ⟨rfl, hl⟩
    rw [if_neg h2] at h
    rw [if_neg h2, if_neg h2]
    match r, vr, h, hl with
    | [], _, h, _ => cases h
    | x :: r, [], _, hl => exact absurd hl (by simp)
    | x :: r, vx :: vr, h, hl =>
      simp only [List.cons_append] at h ⊢
      refine ⟨trivial, ?_⟩
      have hl : r.length = vr.length := Nat.succ.inj (Nat.succ.inj hl)
      show _ = vr.length + 1
      by_cases h3 : 5 ≤ t.1 ∧ t.1 ≤ 9
      · rw [if_pos h3] at h
        obtain ⟨e, h⟩ := gd h
        cases h
        rw [← hl]; rfl
      rw [if_neg h3] at h
      by_cases h4 : 10 ≤ t.1 ∧ t.1 ≤ 14
      · rw [if_pos h4] at h
        obtain ⟨e, h⟩ := gd h
        cases h
        rw [← hl]; rfl
      rw [if_neg h4] at h
      obtain ⟨h5, h⟩ := gd h
      obtain ⟨e, h⟩ := gd h
      cases h
      rw [← hl]; rfl
theorem evT_app {ws : Nat → Int} : ∀ {r : List Tok} {b b1 : List Bool} {st st1 : List Int}, tyT r b = some b1 → b.length = st.length → evT ws r (st ++ st1) = evT ws r st ++ st1 ∧ b1.length = (evT ws r st).length
  | [], _, _, _, _, h, hl => by cases h; exact ⟨rfl, hl⟩
  | t :: r, b, b1, st, st1, h, hl => by
    obtain ⟨b2, h1, h2⟩ := bd h
    obtain ⟨e1, e2⟩ := ev1_app (ws := ws) (st1 := st1) h1 hl
    show evT ws r (ev1 ws t (st ++ st1)) = _ ∧ _
    rw [e1]
    exact evT_app (r := r) h2 e2
theorem xu_join_f {op : Nat} {x y : Int} (h : 5 ≤ op ∧ op ≤ 16) : xu_join (op : Int) x y = some (f2 op x y) := by
  have h5 : op = 5 ∨ op = 6 ∨ op = 7 ∨ op = 8 ∨ op = 9 ∨ op = 10 ∨ op = 11 ∨ op = 12 ∨ op = 13 ∨ op = 14 ∨ op = 15 ∨ op = 16 := by omega
  have e0 : w64 0 = 0 := by decide
  rw [xu_join, w32_eq (by omega) (by omega), e0]
  rcases h5 with rfl | rfl | rfl | rfl | rfl | rfl | rfl | rfl | rfl | rfl | rfl | rfl <;> simp [f2] <;> (repeat' split) <;> simp_all
theorem xm_one_f {op : Nat} {x y : Int} (h : 5 ≤ op ∧ op ≤ 16) : xm_one (rop op : Int) x y = some (f2 op x y) := by
  have h5 : op = 5 ∨ op = 6 ∨ op = 7 ∨ op = 8 ∨ op = 9 ∨ op = 10 ∨ op = 11 ∨ op = 12 ∨ op = 13 ∨ op = 14 ∨ op = 15 ∨ op = 16 := by omega
  have e0 : w64 0 = 0 := by decide
  have hr : rop op ≤ 14 := by unfold rop; (repeat' split) <;> omega
  rw [xm_one, w32_eq (by omega) (by omega), e0]
  rcases h5 with rfl | rfl | rfl | rfl | rfl | rfl | rfl | rfl | rfl | rfl | rfl | rfl <;> simp [f2, rop] <;> (repeat' split) <;> simp_all
/-- a row of numbers as a stack: the last one lies behind the others -/
def SA (g : Nat → Int) : List Int → Prop
  | [] => True
  | x :: r => g r.length = x ∧ SA g r
theorem SA_ud {g : Nat → Int} {k : Nat} {v : Int} : ∀ {r : List Int}, SA g r → r.length ≤ k → SA (ud g k v) r
  | [], _, _ => trivial
  | x :: r, h, hk => by
    have hk : r.length + 1 ≤ k := hk
    exact ⟨by rw [← h.1]; exact if_neg (by omega), SA_ud h.2 (by omega)⟩
theorem SA_push {g : Nat → Int} {v : Int} {r : List Int} (h : SA g r) : SA (ud g r.length v) (v :: r) := ⟨if_pos rfl, SA_ud h (Nat.le_refl _)⟩
theorem stp_op {v op : Nat} (hop : op < 32) (hv : v ≤ 99999) : bAnd ((32 * v + op : Nat) : Int) 31 = (op : Int) := by
  rw [show (31 : Int) = ((31 : Nat) : Int) from rfl, bAnd_n (by omega) (by omega), show (31 : Nat) = 2 ^ 5 - 1 from rfl, Nat.and_two_pow_sub_one_eq_mod]
  congr 1
  omega
theorem stp_v {v op : Nat} (hop : op < 32) (hv : v ≤ 99999) : bShr ((32 * v + op : Nat) : Int) 5 = (v : Int) := by
  rw [show (5 : Int) = ((5 : Nat) : Int) from rfl, bShr_n (by omega) (by omega)]
  congr 1
  omega
theorem sgn_op {v op : Nat} (hop : op < 16) (hv : v ≤ 99999) : bAnd ((op + 16 * v : Nat) : Int) 15 = (op : Int) := by
  rw [show (15 : Int) = ((15 : Nat) : Int) from rfl, bAnd_n (by omega) (by omega), show (15 : Nat) = 2 ^ 4 - 1 from rfl, Nat.and_two_pow_sub_one_eq_mod]
  congr 1
  omega
theorem sgn_v {v op : Nat} (hop : op < 16) (hv : v ≤ 99999) : bShr ((op + 16 * v : Nat) : Int) 4 = (v : Int) := by
  rw [show (4 : Int) = ((4 : Nat) : Int) from rfl, bShr_n (by omega) (by omega)]
  congr 1
  omega
theorem ty1_op {t : Tok} {b b1 : List Bool} (h : ty1 t b = some b1) : t.1 = 0 ∨ t.1 = 1 ∨ t.1 = 2 ∨ (5 ≤ t.1 ∧ t.1 ≤ 16) := by
  unfold ty1 at h
  by_cases h0 : t.1 = 0
  · exact Or.inl h0
  by_cases h1 : t.1 = 1
  · exact Or.inr (Or.inl h1)
  rw [if_neg h0, if_neg h1] at h
  by_cases h2 : t.1 = 2
  · exact Or.inr (Or.inr (Or.inl h2))
  match b, h with
  | [], h => cases h
  | [y], h => simp only at h; rw [if_neg h2] at h; cases h
  | y :: x :: r, h =>
    simp only at h
    rw [if_neg h2] at h
    by_cases h3 : 5 ≤ t.1 ∧ t.1 ≤ 9
    · omega
    rw [if_neg h3] at h
    by_cases h4 : 10 ≤ t.1 ∧ t.1 ≤ 14
    · omega
    rw [if_neg h4] at h
    obtain ⟨h5, -⟩ := gd h
    omega
theorem ty1_len {t : Tok} {b b1 : List Bool} (h : ty1 t b = some b1) : (t.1 ≤ 1 → b.length < 31) ∧ (t.1 = 1 → t.2 ≤ 10) ∧ (t.1 = 2 → 1 ≤ b.length) ∧ (5 ≤ t.1 → 2 ≤ b.length) := by
  have ho := ty1_op h
  unfold ty1 at h
  by_cases h0 : t.1 = 0
  · rw [if_pos h0] at h
    obtain ⟨e, -⟩ := gd h
    exact ⟨fun _ => e.1, fun q => by omega, fun q => by omega, fun q => by omega⟩
  by_cases h1 : t.1 = 1
  · rw [if_neg h0, if_pos h1] at h
    obtain ⟨e, -⟩ := gd h
    exact ⟨fun _ => e.1, fun q => e.2, fun q => by omega, fun q => by omega⟩
  rw [if_neg h0, if_neg h1] at h
  match b, h with
  | [], h => cases h
  | [y], h => exact ⟨fun q => by omega, fun q => by omega, fun _ => Nat.le_refl 1, fun q => by simp only at h; rw [if_neg (by omega)] at h; cases h⟩
  | y :: x :: r, h => exact ⟨fun q => by omega, fun q => by omega, fun _ => by simp, fun _ => by simp⟩
/-- one sign, by the class -/
theorem cs_step {ln : Nat → Nat} {rs : Nat → Int} {s : Hp} {a i : Nat} {t : Tok} {b b1 : List Bool} {st : List Int} (hi : i < ln a) (hln : ln a ≤ 400) (ht : s (a + 1) i = ((32 * t.2 + t.1 : Nat) : Int)) (hv : t.2 ≤ 99999) (hty : ty1 t b = some b1) (hb : b.length ≤ 31) (hl : b.length ≤ st.length) (hl2 : st.length ≤ b.length + 1) (hs : SA (s 53) st) : ∃ s1, xu_sumFor_b5 ln rs s a (st.length : Int) (i : Int) = some (.inl (((ev1 (s 52) t st).length : Int), ((i + 1 : Nat) : Int), s1)) ∧ SA (s1 53) (ev1 (s 52) t st) ∧ ∀ p, p ≠ 53 → s1 p = s p := by
  have ho := ty1_op hty
  obtain ⟨l1, l2, l3, l4⟩ := ty1_len hty
  obtain ⟨op, v⟩ := t
  simp only at ht hv ho l1 l2 l3 l4
  have hix : ix (ln a) (i : Int) = some i := ixt i rfl hi (by omega)
  unfold xu_sumFor_b5
  rw [hix, w32_eq (x := (i : Int)) (by omega) (by omega), w32_eq (x := ((ln a : Nat) : Int)) (by omega) (by omega), if_pos (by omega)]
  simp only [obs]
  rw [ht, stp_op (by omega) hv, stp_v (by omega) hv, w32_eq (x := (op : Int)) (by omega) (by omega), w32_eq (x := (v : Int)) (by omega) (by omega)]
  have e1 : w32 1 = 1 := by decide
  have e2 : w32 2 = 2 := by decide
  have e3 : w32 3 = 3 := by decide
  have e4 : w32 4 = 4 := by decide
  have e32 : w32 32 = 32 := by decide
  rw [e1, e2, e3, e4, e32]
  rcases ho with rfl | rfl | rfl | h5
  · have := l1 (by decide)
    rw [if_neg (by decide), w32_eq (x := (st.length : Int)) (by omega) (by omega), if_pos (by omega), if_neg (by omega), if_pos (by decide), ixt st.length rfl (by omega) (by decide)]
    refine ⟨_, rfl, ?_, fun p hp => uh_row hp⟩
    rw [uh_self]
    exact SA_push hs
  · have := l1 (by decide)
    have hw := l2 rfl
    rw [if_neg (by decide), w32_eq (x := (st.length : Int)) (by omega) (by omega), if_pos (by omega), if_neg (by omega), if_neg (by decide), ixt st.length rfl (by omega) (by decide)]
    have ew : xu_wordAt s (v : Int) = some (s 52 v) := by
      unfold xu_wordAt
      rw [w32_eq (by omega) (by omega), if_neg (by omega), show w32 11 = 11 by decide, if_pos (by omega), ixt v rfl (by omega) (by decide)]
      rfl
    rw [ew]
    refine ⟨_, rfl, ?_, fun p hp => uh_row hp⟩
    rw [uh_self]
    exact SA_push hs
  · have := l3 rfl
    match st, hs, hl, hl2 with
    | [], _, hl, _ => exact absurd hl (by show ¬ b.length ≤ 0; omega)
    | y :: r, hs, hl, hl2 =>
      have hl2 : r.length + 1 ≤ b.length + 1 := hl2
      rw [show (y :: r).length = r.length + 1 from rfl]
      rw [if_pos (by decide), w32_eq (x := ((r.length + 1 : Nat) : Int)) (by omega) (by omega), if_neg (by omega), if_neg (by omega), if_neg (by decide), if_pos (by decide), ixt r.length (by simp) (by omega) (by decide)]
      simp only [obs]
      refine ⟨_, rfl, ?_, fun p hp => uh_row hp⟩
      rw [uh_self, hs.1]
      exact SA_push hs.2
  · have := l4 (by omega)
    match st, hs, hl, hl2 with
    | [], _, hl, _ => exact absurd hl (by show ¬ b.length ≤ 0; omega)
    | [y], _, hl, _ => exact absurd hl (by show ¬ b.length ≤ 1; omega)
    | y :: x :: r, hs, hl, hl2 =>
      have hl2 : r.length + 2 ≤ b.length + 1 := hl2
      rw [show (y :: x :: r).length = r.length + 2 from rfl]
      rw [if_pos (by omega), w32_eq (x := ((r.length + 2 : Nat) : Int)) (by omega) (by omega), if_neg (by omega), if_neg (by omega), if_neg (by omega), if_neg (by omega), if_neg (by omega), if_neg (by omega), ixt (j := ((r.length + 2 : Nat) : Int) + -1 - 1) r.length (by omega) (by omega) (by decide), ixt (j := ((r.length + 2 : Nat) : Int) + -1) (r.length + 1) (by omega) (by omega) (by decide)]
      simp only [obs]
      rw [xu_join_f h5]
      simp only [obs]
      have h1 : s 53 (r.length + 1) = y := hs.1
      have h2 : s 53 r.length = x := hs.2.1
      have e : ev1 (s 52) (op, v) (y :: x :: r) = f2 op x y :: r := by
        unfold ev1
        rw [if_neg (by simp only; omega), if_neg (by simp only; omega)]
        simp only
        rw [if_neg (by omega)]
      rw [e, h1, h2]
      refine ⟨_, congrArg some (congrArg Sum.inl (Prod.ext ?_ rfl)), ?_, fun p hp => uh_row hp⟩
      · show ((r.length + 2 : Nat) : Int) + -1 = ((r.length + 1 : Nat) : Int)
        omega
      · rw [uh_self]
        exact SA_push hs.2.2
theorem ty1_31 {t : Tok} {b b1 : List Bool} (h : ty1 t b = some b1) (hb : b.length ≤ 31) : b1.length ≤ 31 := by
  have e := (ev1_app (ws := fun _ => 0) (st := List.replicate b.length 0) (st1 := []) h (by simp)).2
  obtain ⟨l1, l2, l3, l4⟩ := ty1_len h
  have ho := ty1_op h
  unfold ev1 at e
  rcases ho with q | q | q | q
  · rw [if_pos q] at e
    have := l1 (by omega)
    simp at e
    omega
  · rw [if_neg (by omega), if_pos q] at e
    have := l1 (by omega)
    simp at e
    omega
  · rw [if_neg (by omega), if_neg (by omega)] at e
    match b, e, hb, l3 q with
    | y :: r, e, hb, _ =>
      simp only [List.length_cons, List.replicate_succ] at e
      rw [if_pos q] at e
      simp at e
      simp at hb
      omega
  · rw [if_neg (by omega), if_neg (by omega)] at e
    match b, e, hb, l4 q.1 with
    | y :: x :: r, e, hb, _ =>
      simp only [List.length_cons, List.replicate_succ] at e
      rw [if_neg (by omega)] at e
      simp at e
      simp at hb
      omega
/-- what stands from i on -/
def At (g : Nat → Int) (i : Nat) : List Tok → Prop
  | [] => True
  | t :: r => g i = ((32 * t.2 + t.1 : Nat) : Int) ∧ t.2 ≤ 99999 ∧ At g (i + 1) r
theorem At_app {g : Nat → Int} : ∀ {i : Nat} {r r1 : List Tok}, At g i (r ++ r1) → At g i r ∧ At g (i + r.length) r1
  | i, [], r1, h => ⟨trivial, h⟩
  | i, t :: r, r1, h => by
    obtain ⟨h1, h2⟩ := At_app (i := i + 1) (r := r) h.2.2
    refine ⟨⟨h.1, h.2.1, h1⟩, ?_⟩
    show At g (i + (r.length + 1)) r1
    rw [show i + (r.length + 1) = i + 1 + r.length by omega]
    exact h2
/-- a row of signs, by the class -/
theorem cs_run {ln : Nat → Nat} {rs : Nat → Int} {a : Nat} (hln : ln a ≤ 400) (ha : a + 1 ≠ 53) : ∀ (r : List Tok) (s : Hp) (i : Nat) (b b1 : List Bool) (st : List Int), i + r.length ≤ ln a → At (s (a + 1)) i r → tyT r b = some b1 → b.length ≤ 31 → b.length ≤ st.length → st.length ≤ b.length + 1 → SA (s 53) st → ∃ s1, lp (fun (q : Int × Int × Hp) => xu_sumFor_b5 ln rs q.2.2 a q.1 q.2.1) ((st.length : Int), (i : Int), s) = lp (fun (q : Int × Int × Hp) => xu_sumFor_b5 ln rs q.2.2 a q.1 q.2.1) (((evT (s 52) r st).length : Int), ((i + r.length : Nat) : Int), s1) ∧ SA (s1 53) (evT (s 52) r st) ∧ ∀ p, p ≠ 53 → s1 p = s p
  | [], s, i, b, b1, st, _, _, _, _, _, _, hs => ⟨s, rfl, hs, fun _ _ => rfl⟩
  | t :: r, s, i, b, b1, st, hi, hat, hty, hb, hl, hl2, hs => by
    obtain ⟨b2, h1, h2⟩ := bd hty
    have hi : i + (r.length + 1) ≤ ln a := hi
    obtain ⟨s1, e1, e2, e3⟩ := cs_step (ln := ln) (rs := rs) (i := i) (by omega) hln hat.1 hat.2.1 h1 hb hl hl2 hs
    obtain ⟨k, hk⟩ : ∃ k, st.length = b.length + k := ⟨st.length - b.length, by omega⟩
    have el := (ev1_app (ws := s 52) (st := st.take b.length) (st1 := st.drop b.length) h1 (by rw [List.length_take]; omega))
    rw [List.take_append_drop] at el
    have el2 : (ev1 (s 52) t st).length = b2.length + k := by
      rw [el.1, List.length_append, ← el.2, List.length_drop]
      omega
    obtain ⟨s2, f1, f2, f3⟩ := cs_run hln ha r s1 (i + 1) b2 b1 (ev1 (s 52) t st) (by omega) (by rw [e3 _ ha]; exact hat.2.2) h2 (ty1_31 h1 hb) (by omega) (by omega) e2
    rw [e3 52 (by decide)] at f1 f2
    refine ⟨s2, ?_, f2, fun p hp => (f3 p hp).trans (e3 p hp)⟩
    rw [lp_in (B := fun (q : Int × Int × Hp) => xu_sumFor_b5 ln rs q.2.2 a q.1 q.2.1) (s := ((st.length : Int), (i : Int), s)) e1, f1]
    show lp _ (_, ((i + 1 + r.length : Nat) : Int), _) = lp _ (_, ((i + (r.length + 1) : Nat) : Int), _)
    rw [show i + 1 + r.length = i + (r.length + 1) by omega]
    rfl
