/-! all stacks of a strip, as the reference goes through them -/
def btwR (v a b : Nat) : Bool := if Nat.blt a b = true then Nat.blt a v && Nat.blt v b else Nat.blt b v && Nat.blt v a
def ixN (y : Nat) : List Nat → Nat
  | [] => 0
  | z :: l => bif Nat.beq z y then 0 else Nat.succ (ixN y l)
def ctN (y : Nat) : List Nat → Bool
  | [] => false
  | z :: l => Nat.beq z y || ctN y l
/-- the layer of a cell -/
def lyN (row : List Nat) (y : Nat) : Nat := ixN y row
/-- joint a across joint b -/
def prR (lay : Nat → Nat) (a b : Nat) : Bool := btwR (lay b) (lay a) (lay (a + 1)) == btwR (lay (b + 1)) (lay a) (lay (a + 1))
/-- the joints of one side behind a -/
def bsR (c a : Nat) : List Nat := [a + 2, a + 4, a + 6].filter fun b => Nat.blt (b + 1) c
def uncR (c : Nat) (lay : Nat → Nat) : Bool := (List.range (c - 1)).all fun a => (bsR c a).all fun b => prR lay a b
def hilR (lay : Nat → Nat) : Nat → Nat
  | 0 => 0
  | j + 1 => hilR lay j + if (Nat.blt (lay j) (lay (j + 1)) == (j % 2).beq 0) = true then 0 else 2 ^ j
def rowR (row : List Nat) : Nat → Nat
  | 0 => 0
  | k + 1 => rowR row k + row.getD k 0 * 2 ^ (7 + 3 * (7 - k))
def leafR (c : Nat) (row : List Nat) : List Nat := if uncR c (lyN row) = true then [hilR (lyN row) (c - 1) + rowR row c] else []
def refT (c : Nat) : Nat → List Nat → List Nat
  | 0, pre => leafR c pre
  | r + 1, pre => (List.range c).flatMap fun x => if ctN x pre = true then [] else refT c r (pre ++ [x])
def refL (c : Nat) : List Nat := refT c c []
/-- what can't be mended any more -/
def chkR (c : Nat) (pre : List Nat) (a : Nat) : Bool := !(Nat.blt (a + 1) c && ctN a pre && ctN (a + 1) pre) || (bsR c a).all fun b => prR (lyN pre) a b
def refP (c : Nat) : Nat → List Nat → List Nat
  | 0, pre => leafR c pre
  | r + 1, pre => (List.range c).flatMap fun x => if ctN x pre = true then [] else if (chkR c (pre ++ [x]) (x - 1) && chkR c (pre ++ [x]) x) = true then refP c r (pre ++ [x]) else []
theorem bq_t {x y : Nat} (h : Nat.beq x y = true) : x = y := Nat.eq_of_beq_eq_true h
theorem bq_f {x y : Nat} (h : ¬ x = y) : Nat.beq x y = false := by
  cases hb : Nat.beq x y with
  | false => rfl
  | true => exact absurd (bq_t hb) h
theorem ix_no {y : Nat} : ∀ {l : List Nat}, ¬ ctN y l = true → ixN y l = l.length
  | [], _ => rfl
  | z :: l, h => by
    have h1 : Nat.beq z y = false := by
      cases hb : Nat.beq z y with
      | false => rfl
      | true => exact absurd (show (Nat.beq z y || ctN y l) = true by rw [hb]; rfl) h
    have h2 : ¬ ctN y l = true := fun q => h (show (Nat.beq z y || ctN y l) = true by rw [q, Bool.or_true])
    show (bif Nat.beq z y then 0 else Nat.succ (ixN y l)) = l.length + 1
    rw [h1, ← ix_no h2]
    rfl
theorem ix_lt {y : Nat} : ∀ {l : List Nat}, ctN y l = true → ixN y l < l.length
  | [], h => by cases h
  | z :: l, h => by
    show (bif Nat.beq z y then 0 else Nat.succ (ixN y l)) < l.length + 1
    cases hb : Nat.beq z y with
    | true => exact Nat.zero_lt_succ _
    | false =>
      have h : (Nat.beq z y || ctN y l) = true := h
      rw [hb] at h
      have := ix_lt (l := l) h
      show Nat.succ (ixN y l) < l.length + 1
      omega
theorem ix_ap {y x : Nat} : ∀ {l : List Nat}, ctN y l = true → ixN y (l ++ [x]) = ixN y l
  | [], h => by cases h
  | z :: l, h => by
    show (bif Nat.beq z y then 0 else Nat.succ (ixN y (l ++ [x]))) = (bif Nat.beq z y then 0 else Nat.succ (ixN y l))
    cases hb : Nat.beq z y with
    | true => rfl
    | false =>
      have h : (Nat.beq z y || ctN y l) = true := h
      rw [hb] at h
      rw [ix_ap (l := l) h]
theorem ix_ge {y x : Nat} : ∀ {l : List Nat}, ¬ ctN y l = true → l.length ≤ ixN y (l ++ [x])
  | [], _ => Nat.zero_le _
  | z :: l, h => by
    have h1 : Nat.beq z y = false := by
      cases hb : Nat.beq z y with
      | false => rfl
      | true => exact absurd (show (Nat.beq z y || ctN y l) = true by rw [hb]; rfl) h
    have h2 : ¬ ctN y l = true := fun q => h (show (Nat.beq z y || ctN y l) = true by rw [q, Bool.or_true])
    show l.length + 1 ≤ (bif Nat.beq z y then 0 else Nat.succ (ixN y (l ++ [x])))
    rw [h1]
    have := ix_ge (x := x) h2
    show l.length + 1 ≤ Nat.succ (ixN y (l ++ [x]))
    omega
theorem ct_ap {y x : Nat} : ∀ {l : List Nat}, ctN y l = true → ctN y (l ++ [x]) = true
  | [], h => by cases h
  | z :: l, h => by
    show (Nat.beq z y || ctN y (l ++ [x])) = true
    have h : (Nat.beq z y || ctN y l) = true := h
    cases hb : Nat.beq z y with
    | true => rfl
    | false =>
      rw [hb] at h
      exact ct_ap (l := l) h
theorem btw_f {v a b : Nat} (h1 : a ≤ v) (h2 : b ≤ v) : btwR v a b = false := by
  unfold btwR
  split
  · rw [show Nat.blt v b = false by
      cases hb : Nat.blt v b with
      | false => rfl
      | true => have : v < b := Nat.le_of_ble_eq_true hb; omega]
    exact Bool.and_false _
  · rw [show Nat.blt v a = false by
      cases hb : Nat.blt v a with
      | false => rfl
      | true => have : v < a := Nat.le_of_ble_eq_true hb; omega]
    exact Bool.and_false _
theorem btw_ap {pre : List Nat} {x y a b : Nat} (ha : ctN a pre = true) (hb : ctN b pre = true) : btwR (ixN y (pre ++ [x])) (ixN a (pre ++ [x])) (ixN b (pre ++ [x])) = btwR (ixN y pre) (ixN a pre) (ixN b pre) := by
  rw [ix_ap ha, ix_ap hb]
  have l1 := ix_lt ha
  have l2 := ix_lt hb
  by_cases hy : ctN y pre = true
  · rw [ix_ap hy]
  · have g := ix_ge (x := x) hy
    rw [ix_no hy, btw_f (by omega) (by omega), btw_f (by omega) (by omega)]
theorem chk_up {c a x : Nat} {pre : List Nat} (h : chkR c pre a = false) : chkR c (pre ++ [x]) a = false := by
  unfold chkR at h ⊢
  rw [Bool.or_eq_false_iff, Bool.not_eq_false', Bool.and_eq_true, Bool.and_eq_true] at h ⊢
  obtain ⟨⟨⟨h1, h2⟩, h3⟩, h4⟩ := h
  refine ⟨⟨⟨h1, ct_ap h2⟩, ct_ap h3⟩, ?_⟩
  rw [← h4]
  congr 1
  funext b
  unfold prR lyN
  rw [btw_ap h2 h3, btw_ap h2 h3]
theorem chk_unc {c a : Nat} {pre : List Nat} (h : chkR c pre a = false) : uncR c (lyN pre) = false := by
  unfold chkR at h
  rw [Bool.or_eq_false_iff, Bool.not_eq_false', Bool.and_eq_true, Bool.and_eq_true] at h
  obtain ⟨⟨⟨h1, h2⟩, h3⟩, h4⟩ := h
  unfold uncR
  have ha : a + 1 < c := Nat.le_of_ble_eq_true h1
  cases hb : ((List.range (c - 1)).all fun a => (bsR c a).all fun b => prR (lyN pre) a b) with
  | false => rfl
  | true =>
    rw [List.all_eq_true] at hb
    have := hb a (List.mem_range.mpr (by omega))
    rw [h4] at this
    cases this
theorem ref_no {c a : Nat} : ∀ (r : Nat) (pre : List Nat), chkR c pre a = false → refT c r pre = []
  | 0, pre, h => by
    show leafR c pre = []
    unfold leafR
    rw [chk_unc h]
    rfl
  | r + 1, pre, h => by
    show (List.range c).flatMap (fun x => if ctN x pre = true then [] else refT c r (pre ++ [x])) = []
    rw [List.flatMap_eq_nil_iff]
    intro x _
    split
    · rfl
    · exact ref_no r _ (chk_up h)
theorem ref_P {c : Nat} : ∀ (r : Nat) (pre : List Nat), refT c r pre = refP c r pre
  | 0, _ => rfl
  | r + 1, pre => by
    show (List.range c).flatMap (fun x => if ctN x pre = true then [] else refT c r (pre ++ [x])) = (List.range c).flatMap (fun x => if ctN x pre = true then [] else if (chkR c (pre ++ [x]) (x - 1) && chkR c (pre ++ [x]) x) = true then refP c r (pre ++ [x]) else [])
    congr 1
    funext x
    by_cases hx : ctN x pre = true
    · rw [if_pos hx, if_pos hx]
    · rw [if_neg hx, if_neg hx]
      by_cases hc : (chkR c (pre ++ [x]) (x - 1) && chkR c (pre ++ [x]) x) = true
      · rw [if_pos hc]
        exact ref_P r _
      · rw [if_neg hc]
        cases h1 : chkR c (pre ++ [x]) (x - 1) with
        | false => exact ref_no r _ h1
        | true =>
          cases h2 : chkR c (pre ++ [x]) x with
          | false => exact ref_no r _ h2
          | true =>
            rw [h1, h2] at hc
            exact absurd rfl hc
/-! sorted -/
def mrg : Nat → List Nat → List Nat → List Nat
  | 0, l, k => l ++ k
  | _ + 1, [], k => k
  | _ + 1, l, [] => l
  | f + 1, x :: l, y :: k => if Nat.ble x y = true then x :: mrg f l (y :: k) else y :: mrg f (x :: l) k
theorem mrg_p : ∀ (f : Nat) (l k : List Nat), (mrg f l k).Perm (l ++ k)
  | 0, l, k => List.Perm.refl _
  | f + 1, [], k => List.Perm.refl _
  | f + 1, x :: l, [] => by
    rw [List.append_nil]
    exact List.Perm.refl _
  | f + 1, x :: l, y :: k => by
    show (if Nat.ble x y = true then x :: mrg f l (y :: k) else y :: mrg f (x :: l) k).Perm (x :: l ++ y :: k)
    split
    · exact (mrg_p f l (y :: k)).cons x
    · exact ((mrg_p f (x :: l) k).cons y).trans List.perm_middle.symm
def msrt : Nat → List Nat → List Nat
  | 0, l => l
  | d + 1, l => mrg 2000 (msrt d (l.take (2 ^ d))) (msrt d (l.drop (2 ^ d)))
theorem msrt_p : ∀ (d : Nat) (l : List Nat), (msrt d l).Perm l
  | 0, l => List.Perm.refl l
  | d + 1, l => by
    refine (mrg_p _ _ _).trans ?_
    refine ((msrt_p d _).append (msrt_p d _)).trans ?_
    rw [List.take_append_drop]
def ascB : List Nat → Bool
  | [] => true
  | [_] => true
  | x :: y :: l => Nat.blt x y && ascB (y :: l)
