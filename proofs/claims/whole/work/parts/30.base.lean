/-! methods as functions: the heap as numbers -/
abbrev Hp : Type := Nat → Nat → Int
def uh (s : Hp) (a i : Nat) (v : Int) : Hp := fun p q => if p = a ∧ q = i then v else s p q
/-- n numbers of row a come to row b -/
def uc (s : Hp) (a b n : Nat) : Hp := fun p q => if p = b ∧ q < n then s a q else s p q
def w8 (x : Int) : Int := (Int8.ofInt x).toInt
def w32 (x : Int) : Int := (Int32.ofInt x).toInt
def w64 (x : Int) : Int := (Int64.ofInt x).toInt
def c16 (x : Int) : Int := ((Int32.ofInt x).toUInt32 % 65536).toInt32.toInt
def bAnd (x y : Int) : Int := (Int32.ofInt x &&& Int32.ofInt y).toInt
def bOr (x y : Int) : Int := (Int32.ofInt x ||| Int32.ofInt y).toInt
def bXor (x y : Int) : Int := (Int32.ofInt x ^^^ Int32.ofInt y).toInt
def bShl (x y : Int) : Int := (Int32.ofInt x <<< (Int32.ofInt y &&& 31)).toInt
def bShr (x y : Int) : Int := (Int32.ofInt x >>> (Int32.ofInt y &&& 31)).toInt
def bUsr (x y : Int) : Int := (((Int32.ofInt x).toUInt32 >>> ((Int32.ofInt y).toUInt32 &&& Int32.toUInt32 31)).toInt32).toInt
def iDiv (x y : Int) : Int := (Int32.ofInt x / Int32.ofInt y).toInt
def iRem (x y : Int) : Int := (Int32.ofInt x - Int32.ofInt x / Int32.ofInt y * Int32.ofInt y).toInt
def lAnd (x y : Int) : Int := (Int64.ofInt x &&& Int64.ofInt y).toInt
def lOr (x y : Int) : Int := (Int64.ofInt x ||| Int64.ofInt y).toInt
def lShl (x y : Int) : Int := (Int64.ofInt x <<< ((Int32.ofInt y).toInt64 &&& 63)).toInt
def lShr (x y : Int) : Int := (Int64.ofInt x >>> ((Int32.ofInt y).toInt64 &&& 63)).toInt
def lDiv (x y : Int) : Int := (Int64.ofInt x / Int64.ofInt y).toInt
def lRem (x y : Int) : Int := (Int64.ofInt x - Int64.ofInt x / Int64.ofInt y * Int64.ofInt y).toInt
def mxI (x y : Int) : Int := if w32 x < w32 y then y else x
def mnI (x y : Int) : Int := if w32 y < w32 x then y else x
def mxL (x y : Int) : Int := if w64 y < w64 x then x else y
def mnL (x y : Int) : Int := if w64 y < w64 x then y else x
theorem p_w8 (x : Int) : Int32.ofInt (w8 x) = (Int32.ofInt x).toInt8.toInt32 := by rw [Int32.toInt8_ofInt]; exact Int32.ofInt_int8ToInt _
theorem p_w32 (x : Int) : Int32.ofInt (w32 x) = Int32.ofInt x := Int32.ofInt_toInt _
theorem p_c16 (x : Int) : Int32.ofInt (c16 x) = ((Int32.ofInt x).toUInt32 % 65536).toInt32 := Int32.ofInt_toInt _
theorem p_and (x y : Int) : Int32.ofInt (bAnd x y) = Int32.ofInt x &&& Int32.ofInt y := Int32.ofInt_toInt _
theorem p_or (x y : Int) : Int32.ofInt (bOr x y) = Int32.ofInt x ||| Int32.ofInt y := Int32.ofInt_toInt _
theorem p_xor (x y : Int) : Int32.ofInt (bXor x y) = Int32.ofInt x ^^^ Int32.ofInt y := Int32.ofInt_toInt _
theorem p_shl (x y : Int) : Int32.ofInt (bShl x y) = Int32.ofInt x <<< (Int32.ofInt y &&& 31) := Int32.ofInt_toInt _
theorem p_shr (x y : Int) : Int32.ofInt (bShr x y) = Int32.ofInt x >>> (Int32.ofInt y &&& 31) := Int32.ofInt_toInt _
theorem p_usr (x y : Int) : Int32.ofInt (bUsr x y) = ((Int32.ofInt x).toUInt32 >>> ((Int32.ofInt y).toUInt32 &&& Int32.toUInt32 31)).toInt32 := Int32.ofInt_toInt _
theorem p_div (x y : Int) : Int32.ofInt (iDiv x y) = Int32.ofInt x / Int32.ofInt y := Int32.ofInt_toInt _
theorem p_rem (x y : Int) : Int32.ofInt (iRem x y) = Int32.ofInt x - Int32.ofInt x / Int32.ofInt y * Int32.ofInt y := Int32.ofInt_toInt _
theorem q_and (x y : Int) : Int64.ofInt (lAnd x y) = Int64.ofInt x &&& Int64.ofInt y := Int64.ofInt_toInt _
theorem q_or (x y : Int) : Int64.ofInt (lOr x y) = Int64.ofInt x ||| Int64.ofInt y := Int64.ofInt_toInt _
theorem q_shl (x y : Int) : Int64.ofInt (lShl x y) = Int64.ofInt x <<< ((Int32.ofInt y).toInt64 &&& 63) := Int64.ofInt_toInt _
theorem q_shr (x y : Int) : Int64.ofInt (lShr x y) = Int64.ofInt x >>> ((Int32.ofInt y).toInt64 &&& 63) := Int64.ofInt_toInt _
theorem q_div (x y : Int) : Int64.ofInt (lDiv x y) = Int64.ofInt x / Int64.ofInt y := Int64.ofInt_toInt _
theorem q_rem (x y : Int) : Int64.ofInt (lRem x y) = Int64.ofInt x - Int64.ofInt x / Int64.ofInt y * Int64.ofInt y := Int64.ofInt_toInt _
/-- i2l -/
theorem q_w32 (x : Int) : Int64.ofInt (w32 x) = (Int32.ofInt x).toInt64 := Int64.ofInt_int32ToInt _
/-- l2i -/
theorem p_l2i (x : Int) : Int32.ofInt x = (Int64.ofInt x).toInt32 := Int64.toInt32_ofInt.symm
theorem w_lt (x y : Int) : Int32.ofInt x < Int32.ofInt y ↔ w32 x < w32 y := Int32.lt_iff_toInt_lt
theorem w_le (x y : Int) : Int32.ofInt x ≤ Int32.ofInt y ↔ ¬ w32 y < w32 x := by rw [← Int32.not_lt, w_lt]
theorem w_eq (x y : Int) : Int32.ofInt x = Int32.ofInt y ↔ w32 x = w32 y := Int32.toInt_inj.symm
theorem v_lt (x y : Int) : Int64.ofInt x < Int64.ofInt y ↔ w64 x < w64 y := Int64.lt_iff_toInt_lt
theorem v_eq (x y : Int) : Int64.ofInt x = Int64.ofInt y ↔ w64 x = w64 y := Int64.toInt_inj.symm
theorem w32_eq {x : Int} (h1 : -2147483648 ≤ x) (h2 : x < 2147483648) : w32 x = x := Int32.toInt_ofInt_of_le (by omega) (by omega)
theorem w64_eq {x : Int} (h1 : -9223372036854775808 ≤ x) (h2 : x < 9223372036854775808) : w64 x = x := Int64.toInt_ofInt_of_le (by omega) (by omega)
theorem w32_lo (x : Int) : -2147483648 ≤ w32 x := Int32.le_toInt _
theorem w32_hi (x : Int) : w32 x < 2147483648 := Int32.toInt_lt _
theorem w32_w32 (x : Int) : w32 (w32 x) = w32 x := w32_eq (w32_lo x) (w32_hi x)
theorem w64_w32 (x : Int) : w64 (w32 x) = w32 x := w64_eq (by have := w32_lo x; omega) (by have := w32_hi x; omega)
theorem p_mx (x y : Int) : Int32.ofInt (mxI x y) = if Int32.ofInt x < Int32.ofInt y then Int32.ofInt y else Int32.ofInt x := by
  unfold mxI
  by_cases h : w32 x < w32 y
  · rw [if_pos h, if_pos ((w_lt x y).mpr h)]
  · rw [if_neg h, if_neg (fun q => h ((w_lt x y).mp q))]
theorem p_mn (x y : Int) : Int32.ofInt (mnI x y) = if Int32.ofInt y < Int32.ofInt x then Int32.ofInt y else Int32.ofInt x := by
  unfold mnI
  by_cases h : w32 y < w32 x
  · rw [if_pos h, if_pos ((w_lt y x).mpr h)]
  · rw [if_neg h, if_neg (fun q => h ((w_lt y x).mp q))]
theorem q_mx (x y : Int) : Int64.ofInt (mxL x y) = if Int64.ofInt y < Int64.ofInt x then Int64.ofInt x else Int64.ofInt y := by
  unfold mxL
  by_cases h : w64 y < w64 x
  · rw [if_pos h, if_pos ((v_lt y x).mpr h)]
  · rw [if_neg h, if_neg (fun q => h ((v_lt y x).mp q))]
theorem q_mn (x y : Int) : Int64.ofInt (mnL x y) = if Int64.ofInt y < Int64.ofInt x then Int64.ofInt y else Int64.ofInt x := by
  unfold mnL
  by_cases h : w64 y < w64 x
  · rw [if_pos h, if_pos ((v_lt y x).mpr h)]
  · rw [if_neg h, if_neg (fun q => h ((v_lt y x).mp q))]
def ix (n : Nat) (j : Int) : Option Nat := if 0 ≤ w32 j ∧ w32 j < n then some (w32 j).toNat else none
theorem ix_of {n i : Nat} {j : Int} (h : ix n j = some i) : ¬ Int32.ofInt j < 0 ∧ (Int32.ofInt j).toNatClampNeg = i ∧ i < n := by
  unfold ix at h
  split at h
  · rename_i h1
    have h2 : (Int32.ofInt j).toNatClampNeg = i := Option.some.inj h
    have h3 : (w32 j).toNat = i := h2
    refine ⟨fun q => ?_, h2, by omega⟩
    have h4 := Int32.lt_iff_toInt_lt.mp q
    have h5 : w32 j < 0 := h4
    omega
  · cases h
def sln (n : Nat) : Option Int := if n < 7 then some ((pm_Sl.getD n 0 : Nat) : Int) else none
def sch (n : Nat) (j : Int) : Option Int := if n < 7 ∧ 0 ≤ w32 j ∧ w32 j < ((pm_Sl.getD n 0 : Nat) : Int) then some (pm_ch n (w32 j).toNat).toInt else none
/-! shapes: (who, 0, its number, fields) or (who, 1, kind of row, [(length, 0)]); fields: (0, _) int, (1, _) long, (2, offset) -/
abbrev Sh1 : Type := Nat × Nat × Nat × List (Nat × Nat)
abbrev Shp : Type := Nat → Option Sh1
def vR (x : Int) : Value := if x < 0 then .null else .ref x.toNat
def rv (t : Nat) (x : Int) : Value := if t = 1 then .long (Int64.ofInt x) else if 4 ≤ t then vR x else .int (Int32.ofInt x)
def ro (t n : Nat) (f : Nat → Int) : List Value := (List.range n).map fun i => rv t (f i)
def fv (a : Nat) (g : Nat → Int) : Nat → List (Nat × Nat) → List Value
  | _, [] => []
  | b, (0, _) :: r => .int (Int32.ofInt (g b)) :: fv a g (b + 1) r
  | b, (1, _) :: r => .long (Int64.ofInt (g b)) :: fv a g (b + 1) r
  | b, (_, o) :: r => .ref (a + o) :: fv a g (b + 1) r
def cel (a : Nat) (s : Hp) (q : Sh1) : pm_C := match q with
  | (_, 0, ci, fd) => (0, ci, fv a (s a) 0 fd)
  | (_, _, t, fd) => (1, t, ro t (fd.headD (0, 0)).1 (s a))
def RH (sh : Shp) (s : Hp) (w : pm_H) : Prop := ∀ a q, sh a = some q → w[a]? = some (cel a s q)
/-- outside of the shape all stays, and no cell changes its kind or size -/
def Fr (sh : Shp) (w w1 : pm_H) : Prop := w1.length = w.length ∧ (∀ x, sh x = none → w1[x]? = w[x]?) ∧ ∀ (x : Nat) (c : pm_C), w[x]? = some c → ∃ c1 : pm_C, w1[x]? = some c1 ∧ c1.1 = c.1 ∧ c1.2.1 = c.2.1 ∧ c1.2.2.length = c.2.2.length
def Rw (sh : Shp) (w0 : pm_H) (s : Hp) (w : pm_H) : Prop := RH sh s w ∧ Fr sh w0 w
theorem Fr_rf {sh : Shp} {w : pm_H} : Fr sh w w := ⟨rfl, fun _ _ => rfl, fun _ c h => ⟨c, h, rfl, rfl, rfl⟩⟩
theorem Fr_tr {sh : Shp} {w w1 w2 : pm_H} (h : Fr sh w w1) (g : Fr sh w1 w2) : Fr sh w w2 := by
  refine ⟨g.1.trans h.1, fun x hx => (g.2.1 x hx).trans (h.2.1 x hx), fun x c hx => ?_⟩
  obtain ⟨c1, a1, a2, a3, a4⟩ := h.2.2 x c hx
  obtain ⟨c2, b1, b2, b3, b4⟩ := g.2.2 x c1 a1
  exact ⟨c2, b1, b2.trans a2, b3.trans a3, b4.trans a4⟩
theorem fv_len (a : Nat) (g : Nat → Int) : ∀ (fd : List (Nat × Nat)) (n : Nat), (fv a g n fd).length = fd.length
  | [], _ => rfl
  | (0, _) :: r, n => congrArg Nat.succ (fv_len a g r (n + 1))
  | (1, _) :: r, n => congrArg Nat.succ (fv_len a g r (n + 1))
  | (_ + 2, _) :: r, n => congrArg Nat.succ (fv_len a g r (n + 1))
theorem fv_i (a : Nat) (g : Nat → Int) : ∀ (fd : List (Nat × Nat)) (n b z : Nat), fd[b]? = some (0, z) → (fv a g n fd)[b]? = some (.int (Int32.ofInt (g (n + b))))
  | [], _, _, _, h => by cases h
  | (0, _) :: r, n, 0, _, _ => rfl
  | (0, _) :: r, n, b + 1, z, h => by
    show (fv a g (n + 1) r)[b]? = _
    rw [fv_i a g r (n + 1) b z h, Nat.add_assoc, Nat.add_comm 1 b]
  | (1, _) :: r, n, 0, _, h => by cases h
  | (1, _) :: r, n, b + 1, z, h => by
    show (fv a g (n + 1) r)[b]? = _
    rw [fv_i a g r (n + 1) b z h, Nat.add_assoc, Nat.add_comm 1 b]
  | (_ + 2, _) :: r, n, 0, _, h => by cases h
  | (_ + 2, _) :: r, n, b + 1, z, h => by
    show (fv a g (n + 1) r)[b]? = _
    rw [fv_i a g r (n + 1) b z h, Nat.add_assoc, Nat.add_comm 1 b]
theorem fv_l (a : Nat) (g : Nat → Int) : ∀ (fd : List (Nat × Nat)) (n b z : Nat), fd[b]? = some (1, z) → (fv a g n fd)[b]? = some (.long (Int64.ofInt (g (n + b))))
  | [], _, _, _, h => by cases h
  | (1, _) :: r, n, 0, _, _ => rfl
  | (0, _) :: r, n, 0, _, h => by cases h
  | (0, _) :: r, n, b + 1, z, h => by
    show (fv a g (n + 1) r)[b]? = _
    rw [fv_l a g r (n + 1) b z h, Nat.add_assoc, Nat.add_comm 1 b]
  | (1, _) :: r, n, b + 1, z, h => by
    show (fv a g (n + 1) r)[b]? = _
    rw [fv_l a g r (n + 1) b z h, Nat.add_assoc, Nat.add_comm 1 b]
  | (_ + 2, _) :: r, n, 0, _, h => by cases h
  | (_ + 2, _) :: r, n, b + 1, z, h => by
    show (fv a g (n + 1) r)[b]? = _
    rw [fv_l a g r (n + 1) b z h, Nat.add_assoc, Nat.add_comm 1 b]
theorem fv_r (a : Nat) (g : Nat → Int) : ∀ (fd : List (Nat × Nat)) (n b o : Nat), fd[b]? = some (2, o) → (fv a g n fd)[b]? = some (.ref (a + o))
  | [], _, _, _, h => by cases h
  | (0, _) :: r, n, 0, _, h => by cases h
  | (1, _) :: r, n, 0, _, h => by cases h
  | (0, _) :: r, n, b + 1, z, h => fv_r a g r (n + 1) b z h
  | (1, _) :: r, n, b + 1, z, h => fv_r a g r (n + 1) b z h
  | (_ + 2, _) :: r, n, 0, _, h => by cases h; rfl
  | (_ + 2, _) :: r, n, b + 1, z, h => fv_r a g r (n + 1) b z h
theorem fv_cg (a : Nat) {g g1 : Nat → Int} : ∀ (fd : List (Nat × Nat)) (n : Nat), (∀ i, n ≤ i → g i = g1 i) → fv a g n fd = fv a g1 n fd
  | [], _, _ => rfl
  | (0, _) :: r, n, h => by
    show Value.int (Int32.ofInt (g n)) :: fv a g (n + 1) r = Value.int (Int32.ofInt (g1 n)) :: fv a g1 (n + 1) r
    rw [h n (Nat.le_refl n), fv_cg a r (n + 1) (fun i hi => h i (by omega))]
  | (1, _) :: r, n, h => by
    show Value.long (Int64.ofInt (g n)) :: fv a g (n + 1) r = Value.long (Int64.ofInt (g1 n)) :: fv a g1 (n + 1) r
    rw [h n (Nat.le_refl n), fv_cg a r (n + 1) (fun i hi => h i (by omega))]
  | (_ + 2, o) :: r, n, h => by
    show Value.ref (a + o) :: fv a g (n + 1) r = Value.ref (a + o) :: fv a g1 (n + 1) r
    rw [fv_cg a r (n + 1) (fun i hi => h i (by omega))]
def ud (g : Nat → Int) (i : Nat) (v : Int) : Nat → Int := fun q => if q = i then v else g q
theorem fv_si (a : Nat) (g : Nat → Int) (v : Int) : ∀ (fd : List (Nat × Nat)) (n b z : Nat), fd[b]? = some (0, z) → (fv a g n fd).set b (.int (Int32.ofInt v)) = fv a (ud g (n + b) v) n fd
  | [], _, _, _, h => by cases h
  | (0, _) :: r, n, 0, _, _ => by
    show Value.int (Int32.ofInt v) :: fv a g (n + 1) r = Value.int (Int32.ofInt (ud g (n + 0) v n)) :: fv a (ud g (n + 0) v) (n + 1) r
    rw [show ud g (n + 0) v n = v from if_pos rfl, fv_cg a r (n + 1) (g1 := ud g (n + 0) v) (fun i hi => (if_neg (by omega)).symm)]
  | (0, _) :: r, n, b + 1, z, h => by
    show Value.int (Int32.ofInt (g n)) :: (fv a g (n + 1) r).set b (.int (Int32.ofInt v)) = Value.int (Int32.ofInt (ud g (n + (b + 1)) v n)) :: fv a (ud g (n + (b + 1)) v) (n + 1) r
    rw [fv_si a g v r (n + 1) b z h, show ud g (n + (b + 1)) v n = g n from if_neg (by omega), Nat.add_assoc, Nat.add_comm 1 b]
  | (1, _) :: r, n, 0, _, h => by cases h
  | (1, _) :: r, n, b + 1, z, h => by
    show Value.long (Int64.ofInt (g n)) :: (fv a g (n + 1) r).set b (.int (Int32.ofInt v)) = Value.long (Int64.ofInt (ud g (n + (b + 1)) v n)) :: fv a (ud g (n + (b + 1)) v) (n + 1) r
    rw [fv_si a g v r (n + 1) b z h, show ud g (n + (b + 1)) v n = g n from if_neg (by omega), Nat.add_assoc, Nat.add_comm 1 b]
  | (_ + 2, _) :: r, n, 0, _, h => by cases h
  | (_ + 2, o) :: r, n, b + 1, z, h => by
    show Value.ref (a + o) :: (fv a g (n + 1) r).set b (.int (Int32.ofInt v)) = Value.ref (a + o) :: fv a (ud g (n + (b + 1)) v) (n + 1) r
    rw [fv_si a g v r (n + 1) b z h, Nat.add_assoc, Nat.add_comm 1 b]
theorem fv_sl (a : Nat) (g : Nat → Int) (v : Int) : ∀ (fd : List (Nat × Nat)) (n b z : Nat), fd[b]? = some (1, z) → (fv a g n fd).set b (.long (Int64.ofInt v)) = fv a (ud g (n + b) v) n fd
  | [], _, _, _, h => by cases h
  | (1, _) :: r, n, 0, _, _ => by
    show Value.long (Int64.ofInt v) :: fv a g (n + 1) r = Value.long (Int64.ofInt (ud g (n + 0) v n)) :: fv a (ud g (n + 0) v) (n + 1) r
    rw [show ud g (n + 0) v n = v from if_pos rfl, fv_cg a r (n + 1) (g1 := ud g (n + 0) v) (fun i hi => (if_neg (by omega)).symm)]
  | (1, _) :: r, n, b + 1, z, h => by
    show Value.long (Int64.ofInt (g n)) :: (fv a g (n + 1) r).set b (.long (Int64.ofInt v)) = Value.long (Int64.ofInt (ud g (n + (b + 1)) v n)) :: fv a (ud g (n + (b + 1)) v) (n + 1) r
    rw [fv_sl a g v r (n + 1) b z h, show ud g (n + (b + 1)) v n = g n from if_neg (by omega), Nat.add_assoc, Nat.add_comm 1 b]
  | (0, _) :: r, n, 0, _, h => by cases h
  | (0, _) :: r, n, b + 1, z, h => by
    show Value.int (Int32.ofInt (g n)) :: (fv a g (n + 1) r).set b (.long (Int64.ofInt v)) = Value.int (Int32.ofInt (ud g (n + (b + 1)) v n)) :: fv a (ud g (n + (b + 1)) v) (n + 1) r
    rw [fv_sl a g v r (n + 1) b z h, show ud g (n + (b + 1)) v n = g n from if_neg (by omega), Nat.add_assoc, Nat.add_comm 1 b]
  | (_ + 2, _) :: r, n, 0, _, h => by cases h
  | (_ + 2, o) :: r, n, b + 1, z, h => by
    show Value.ref (a + o) :: (fv a g (n + 1) r).set b (.long (Int64.ofInt v)) = Value.ref (a + o) :: fv a (ud g (n + (b + 1)) v) (n + 1) r
    rw [fv_sl a g v r (n + 1) b z h, Nat.add_assoc, Nat.add_comm 1 b]
theorem ro_len (t n : Nat) (f : Nat → Int) : (ro t n f).length = n := by simp [ro]
theorem ro_get {t n i : Nat} {f : Nat → Int} (h : i < n) : (ro t n f)[i]? = some (rv t (f i)) := by
  unfold ro
  rw [List.getElem?_map, List.getElem?_range h]
  rfl
theorem ro_set (t n i : Nat) (f : Nat → Int) (x : Int) : (ro t n f).set i (rv t x) = ro t n (ud f i x) := by
  apply List.ext_getElem?
  intro j
  by_cases hj : j < n
  · rw [ro_get hj]
    by_cases hij : i = j
    · subst hij
      rw [List.getElem?_set_self (by rw [ro_len]; exact hj)]
      simp [ud]
    · rw [List.getElem?_set_ne hij, ro_get hj]
      simp [ud, Ne.symm hij]
  · rw [List.getElem?_eq_none (by rw [List.length_set, ro_len]; omega), List.getElem?_eq_none (by rw [ro_len]; omega)]
theorem ro_congr {t n : Nat} {f g : Nat → Int} (h : ∀ i, i < n → f i = g i) : ro t n f = ro t n g := by
  unfold ro
  exact List.map_congr_left fun i hi => by rw [h i (List.mem_range.mp hi)]
theorem uh_row {s : Hp} {a i : Nat} {v : Int} {p : Nat} (h : p ≠ a) : uh s a i v p = s p := by
  funext q
  exact if_neg (fun e => h e.1)
theorem uh_self (s : Hp) (a i : Nat) (v : Int) : uh s a i v a = ud (s a) i v := by
  funext q
  by_cases h : q = i
  · exact (if_pos ⟨rfl, h⟩).trans (if_pos h).symm
  · exact (if_neg (fun e => h e.2)).trans (if_neg h).symm
theorem uc_row {s : Hp} {a b n p : Nat} (h : p ≠ b) : uc s a b n p = s p := by
  funext q
  exact if_neg (fun e => h e.1)
theorem cel_len {a : Nat} {s s1 : Hp} {q : Sh1} : (cel a s q).1 = (cel a s1 q).1 ∧ (cel a s q).2.1 = (cel a s1 q).2.1 ∧ (cel a s q).2.2.length = (cel a s1 q).2.2.length := by
  obtain ⟨r, t, ci, fd⟩ := q
  cases t with
  | zero => exact ⟨rfl, rfl, by show (fv _ _ _ _).length = (fv _ _ _ _).length; rw [fv_len, fv_len]⟩
  | succ t => exact ⟨rfl, rfl, by show (ro _ _ _).length = (ro _ _ _).length; rw [ro_len, ro_len]⟩
theorem cel_cg {a : Nat} {s s1 : Hp} {q : Sh1} (h : s1 a = s a) : cel a s1 q = cel a s q := by
  obtain ⟨r, t, ci, fd⟩ := q
  cases t with
  | zero => show (0, ci, fv a (s1 a) 0 fd) = (0, ci, fv a (s a) 0 fd); rw [h]
  | succ t => show (1, ci, ro ci _ (s1 a)) = (1, ci, ro ci _ (s a)); rw [h]
/-- one cell is written -/
theorem Rw_set {sh : Shp} {w0 w : pm_H} {s s1 : Hp} {a : Nat} {q : Sh1} (h : Rw sh w0 s w) (hq : sh a = some q) (hs : ∀ p, p ≠ a → s1 p = s p) : Rw sh w0 s1 (w.set a (cel a s1 q)) := by
  have h0 := h.1 a q hq
  refine ⟨fun b p hp => ?_, Fr_tr h.2 ⟨List.length_set, fun x hx => ?_, fun x c hx => ?_⟩⟩
  · by_cases he : a = b
    · subst he
      rw [hq] at hp
      cases hp
      exact List.getElem?_set_self (List.getElem?_eq_some_iff.mp h0).1
    · rw [List.getElem?_set_ne he, h.1 b p hp, cel_cg (hs b (Ne.symm he))]
  · by_cases he : a = x
    · subst he; rw [hq] at hx; cases hx
    · exact List.getElem?_set_ne he
  · by_cases he : a = x
    · subst he
      rw [h0] at hx
      cases hx
      exact ⟨_, List.getElem?_set_self (List.getElem?_eq_some_iff.mp h0).1, cel_len⟩
    · exact ⟨c, by rw [List.getElem?_set_ne he]; exact hx, rfl, rfl, rfl⟩
theorem bd {α β : Type} {o : Option α} {f : α → Option β} {y : β} (h : o.bind f = some y) : ∃ v, o = some v ∧ f v = some y := Option.bind_eq_some_iff.mp h
theorem ite_t {c : Prop} [Decidable c] {α : Type} {x y z : α} (hc : c) (h : (if c then x else y) = z) : x = z := by rw [if_pos hc] at h; exact h
theorem ite_f {c : Prop} [Decidable c] {α : Type} {x y z : α} (hc : ¬ c) (h : (if c then x else y) = z) : y = z := by rw [if_neg hc] at h; exact h
/-! loops: go on (inl), end (inr) -/
def itg {σ ρ : Type} (B : σ → Option (σ ⊕ ρ)) : Nat → σ → Option ρ
  | 0, _ => none
  | g + 1, s => (B s).bind fun o => o.elim (fun s1 => itg B g s1) some
noncomputable def lp {σ ρ : Type} (B : σ → Option (σ ⊕ ρ)) (s : σ) : Option ρ :=
  @dite _ (∃ r g, itg B g s = some r) (Classical.propDecidable _) (fun h => some h.choose) (fun _ => none)
theorem itg_up {σ ρ : Type} {B : σ → Option (σ ⊕ ρ)} : ∀ (g : Nat) (s : σ) (r : ρ) (g1 : Nat), itg B g s = some r → g ≤ g1 → itg B g1 s = some r
  | 0, _, _, _, h, _ => by cases h
  | g + 1, s, r, 0, h, hg => by omega
  | g + 1, s, r, g1 + 1, h, hg => by
    obtain ⟨o, h1, h2⟩ := bd h
    show (B s).bind _ = _
    rw [h1]
    cases o with
    | inl s1 => exact itg_up g s1 r g1 h2 (by omega)
    | inr r1 => exact h2
theorem lp_iff {σ ρ : Type} {B : σ → Option (σ ⊕ ρ)} {s : σ} {r : ρ} : lp B s = some r ↔ ∃ g, itg B g s = some r := by
  unfold lp
  by_cases h1 : ∃ r g, itg B g s = some r
  · rw [dif_pos h1]
    obtain ⟨g1, hg1⟩ := h1.choose_spec
    constructor
    · intro h
      exact ⟨g1, hg1.trans h⟩
    · intro ⟨g, hg⟩
      have e1 := itg_up _ _ _ (g + g1) hg (by omega)
      have e2 := itg_up _ _ _ (g + g1) hg1 (by omega)
      rw [e1] at e2
      exact e2.symm
  · rw [dif_neg h1]
    exact ⟨fun h => (by cases h), fun h => (by obtain ⟨g, hg⟩ := h; exact absurd ⟨r, g, hg⟩ h1)⟩
theorem lp_un {σ ρ : Type} (B : σ → Option (σ ⊕ ρ)) (s : σ) : lp B s = (B s).bind fun o => o.elim (fun s1 => lp B s1) some := by
  apply Option.ext
  intro r
  constructor
  · intro h
    obtain ⟨g, hg⟩ := lp_iff.mp h
    cases g with
    | zero => cases hg
    | succ g =>
      obtain ⟨o, h1, h2⟩ := bd hg
      rw [h1]
      cases o with
      | inl s1 => exact lp_iff.mpr ⟨g, h2⟩
      | inr r1 => exact h2
  · intro h
    obtain ⟨o, h1, h2⟩ := bd h
    cases o with
    | inl s1 =>
      obtain ⟨g, hg⟩ := lp_iff.mp h2
      refine lp_iff.mpr ⟨g + 1, ?_⟩
      show (B s).bind _ = _
      rw [h1]
      exact hg
    | inr r1 =>
      refine lp_iff.mpr ⟨1, ?_⟩
      show (B s).bind _ = _
      rw [h1]
      exact h2
theorem wp_lp {σ ρ : Type} {B : σ → Option (σ ⊕ ρ)} {R : σ → pm_H → Prop} {C : ρ → Prop} {d k hd : Nat} {lv : σ → pm_L} {P : Option Value → pm_H → Prop} (hB : ∀ s w o, R s w → B s = some o → (∀ s1 w1, o = .inl s1 → R s1 w1 → wp d k hd (lv s1) [] w1 P) → (∀ r, o = .inr r → C r) → wp d k hd (lv s) [] w P) (s : σ) (w : pm_H) (r : ρ) (h : lp B s = some r) (hR : R s w) (hC : C r) : wp d k hd (lv s) [] w P := by
  obtain ⟨g, hg⟩ := lp_iff.mp h
  clear h
  induction g generalizing s w with
  | zero => cases hg
  | succ g ih =>
    obtain ⟨o, h1, h2⟩ := bd hg
    refine hB s w o hR h1 (fun s2 w2 e hR2 => ?_) (fun r2 e => ?_)
    · subst e
      exact ih s2 w2 hR2 h2
    · subst e
      cases h2
      exact hC
theorem lsub_p {lv1 lv : pm_L} (ks : List Nat) (h1 : ks.filterMap (fun k => lv[k]?) = lv1) (h2 : decide ((lv.map Prod.fst).Nodup) = true) (h3 : decide ((lv1.map Prod.fst).Nodup) = true) : lsub lv1 lv := by
  refine ⟨(of_decide_eq_true h3 : (lv1.map Prod.fst).Nodup), (of_decide_eq_true h2 : (lv.map Prod.fst).Nodup), fun q hq => ?_⟩
  rw [← h1] at hq
  obtain ⟨k, -, hk⟩ := List.mem_filterMap.mp hq
  exact List.mem_of_getElem? hk
