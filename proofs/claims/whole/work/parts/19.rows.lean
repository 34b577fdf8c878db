/-! rows of numbers as functions; numbers that are no wraps -/
def ar (n : Nat) (f : Nat → Int32) : List Value := (List.range n).map (fun i => Value.int (f i))
def al (n : Nat) (f : Nat → Int64) : List Value := (List.range n).map (fun i => Value.long (f i))
theorem ar_len (n : Nat) (f : Nat → Int32) : (ar n f).length = n := by simp [ar]
theorem al_len (n : Nat) (f : Nat → Int64) : (al n f).length = n := by simp [al]
theorem ar_get {n i : Nat} {f : Nat → Int32} (h : i < n) : (ar n f)[i]? = some (.int (f i)) := by
  unfold ar
  rw [List.getElem?_map, List.getElem?_range h]
  rfl
theorem al_get {n i : Nat} {f : Nat → Int64} (h : i < n) : (al n f)[i]? = some (.long (f i)) := by
  unfold al
  rw [List.getElem?_map, List.getElem?_range h]
  rfl
theorem ar_congr {n : Nat} {f g : Nat → Int32} (h : ∀ i, i < n → f i = g i) : ar n f = ar n g := by
  unfold ar
  exact List.map_congr_left fun i hi => by rw [h i (List.mem_range.mp hi)]
theorem al_congr {n : Nat} {f g : Nat → Int64} (h : ∀ i, i < n → f i = g i) : al n f = al n g := by
  unfold al
  exact List.map_congr_left fun i hi => by rw [h i (List.mem_range.mp hi)]
theorem ar_set (n i : Nat) (f : Nat → Int32) (x : Int32) : (ar n f).set i (.int x) = ar n (upd f i x) := by
  apply List.ext_getElem?
  intro j
  by_cases hj : j < n
  · rw [ar_get hj]
    by_cases hij : i = j
    · subst hij
      rw [List.getElem?_set_self (by rw [ar_len]; exact hj)]
      simp [upd]
    · rw [List.getElem?_set_ne hij, ar_get hj]
      simp [upd, Ne.symm hij]
  · rw [List.getElem?_eq_none (by rw [List.length_set, ar_len]; omega), List.getElem?_eq_none (by rw [ar_len]; omega)]
theorem al_set (n i : Nat) (f : Nat → Int64) (x : Int64) : (al n f).set i (.long x) = al n (vp_updL f i x) := by
  apply List.ext_getElem?
  intro j
  by_cases hj : j < n
  · rw [al_get hj]
    by_cases hij : i = j
    · subst hij
      rw [List.getElem?_set_self (by rw [al_len]; exact hj)]
      simp [vp_updL]
    · rw [List.getElem?_set_ne hij, al_get hj]
      simp [vp_updL, Ne.symm hij]
  · rw [List.getElem?_eq_none (by rw [List.length_set, al_len]; omega), List.getElem?_eq_none (by rw [al_len]; omega)]
theorem ar_rep (n : Nat) (x : Int32) : List.replicate n (Value.int x) = ar n (fun _ => x) := by
  apply List.ext_getElem?
  intro j
  by_cases hj : j < n
  · rw [ar_get hj, List.getElem?_replicate, if_pos hj]
  · rw [List.getElem?_eq_none (by rw [List.length_replicate]; omega), List.getElem?_eq_none (by rw [ar_len]; omega)]
theorem al_rep (n : Nat) (x : Int64) : List.replicate n (Value.long x) = al n (fun _ => x) := by
  apply List.ext_getElem?
  intro j
  by_cases hj : j < n
  · rw [al_get hj, List.getElem?_replicate, if_pos hj]
  · rw [List.getElem?_eq_none (by rw [List.length_replicate]; omega), List.getElem?_eq_none (by rw [al_len]; omega)]
def natc (cnd : ClassFile.Cond) (a b : Nat) : Prop := match cnd with
  | .eq => a = b
  | .ne => a ≠ b
  | .lt => a < b
  | .ge => b ≤ a
  | .gt => b < a
  | .le => a ≤ b
theorem natc_of {cnd : ClassFile.Cond} {a b : Nat} (ha : a < 2 ^ 31) (hb : b < 2 ^ 31) : pm_cz cnd (nI a) (nI b) = true ↔ natc cnd a b := by
  cases cnd <;> simp only [pm_cz, natc, decide_eq_true_eq, ne_eq]
  · exact nI_eq ha hb
  · rw [nI_eq ha hb]
  · exact nI_ltI ha hb
  · exact nI_leI hb ha
  · exact nI_ltI hb ha
  · exact nI_leI ha hb
section WR
variable {d k pc : Nat} {lv : pm_L} {st rest : List Value} {w : pm_H} {r : Option Value} {ln a b : Nat} {z : Int} {P : Option Value → pm_H → Prop}
/-- the top of the stack under another name -/
theorem wp_top {x y : Int32} (h : x = y) (kk : wp d k pc lv (.int y :: st) w P) : wp d k pc lv (.int x :: st) w P := by rw [h]; exact kk
theorem wp_ia {x n i : Nat} {f : Nat → Int32} (hI : pm_I k pc = some (.iaload, ln, a, b, z)) (hw : w[x]? = some (1, 0, ar n f)) (hi : i < n) (hn : n ≤ 65536) (kk : wp d k (pc + 1) lv (.int (f i) :: rest) w P) : wp d k pc lv (.int (nI i) :: .ref x :: rest) w P :=
  wp_ild hI hw (nI_pos (by omega)) (by rw [nI_clamp (by omega)]; exact ar_get hi) kk
theorem wp_ba {x n i : Nat} {f : Nat → Int32} (hI : pm_I k pc = some (.baload, ln, a, b, z)) (hw : w[x]? = some (1, 2, ar n f)) (hi : i < n) (hn : n ≤ 65536) (kk : wp d k (pc + 1) lv (.int (f i) :: rest) w P) : wp d k pc lv (.int (nI i) :: .ref x :: rest) w P :=
  wp_bld hI hw (nI_pos (by omega)) (by rw [nI_clamp (by omega)]; exact ar_get hi) kk
theorem wp_za {x n i : Nat} {f : Nat → Int32} (hI : pm_I k pc = some (.baload, ln, a, b, z)) (hw : w[x]? = some (1, 3, ar n f)) (hi : i < n) (hn : n ≤ 65536) (kk : wp d k (pc + 1) lv (.int (f i) :: rest) w P) : wp d k pc lv (.int (nI i) :: .ref x :: rest) w P :=
  wp_zld hI hw (nI_pos (by omega)) (by rw [nI_clamp (by omega)]; exact ar_get hi) kk
theorem wp_la {x n i : Nat} {f : Nat → Int64} (hI : pm_I k pc = some (.laload, ln, a, b, z)) (hw : w[x]? = some (1, 1, al n f)) (hi : i < n) (hn : n ≤ 65536) (kk : wp d k (pc + 1) lv (.long (f i) :: rest) w P) : wp d k pc lv (.int (nI i) :: .ref x :: rest) w P :=
  wp_lld hI hw (nI_pos (by omega)) (by rw [nI_clamp (by omega)]; exact al_get hi) kk
theorem wp_is {x n i : Nat} {y : Int32} {f : Nat → Int32} (hI : pm_I k pc = some (.iastore, ln, a, b, z)) (hw : w[x]? = some (1, 0, ar n f)) (hi : i < n) (hn : n ≤ 65536) (kk : wp d k (pc + 1) lv rest (w.set x (1, 0, ar n (upd f i y))) P) : wp d k pc lv (.int y :: .int (nI i) :: .ref x :: rest) w P :=
  wp_ist hI hw (nI_pos (by omega)) (by rw [nI_clamp (by omega), ar_len]; exact hi) (by rw [nI_clamp (by omega), ar_set]; exact kk)
theorem wp_bs {x n i : Nat} {y : Int32} {f : Nat → Int32} (hI : pm_I k pc = some (.bastore, ln, a, b, z)) (hw : w[x]? = some (1, 2, ar n f)) (hi : i < n) (hn : n ≤ 65536) (kk : wp d k (pc + 1) lv rest (w.set x (1, 2, ar n (upd f i y.toInt8.toInt32))) P) : wp d k pc lv (.int y :: .int (nI i) :: .ref x :: rest) w P :=
  wp_bst hI hw (nI_pos (by omega)) (by rw [nI_clamp (by omega), ar_len]; exact hi) (by rw [nI_clamp (by omega), ar_set]; exact kk)
theorem wp_ls {x n i : Nat} {y : Int64} {f : Nat → Int64} (hI : pm_I k pc = some (.lastore, ln, a, b, z)) (hw : w[x]? = some (1, 1, al n f)) (hi : i < n) (hn : n ≤ 65536) (kk : wp d k (pc + 1) lv rest (w.set x (1, 1, al n (vp_updL f i y))) P) : wp d k pc lv (.long y :: .int (nI i) :: .ref x :: rest) w P :=
  wp_lst hI hw (nI_pos (by omega)) (by rw [nI_clamp (by omega), al_len]; exact hi) (by rw [nI_clamp (by omega), al_set]; exact kk)
theorem wp_icn {cnd : ClassFile.Cond} {o : Int} {x y : Nat} (hI : pm_I k pc = some (.if_icmp cnd o, ln, a, b, z)) (hx : x < 2 ^ 31) (hy : y < 2 ^ 31) (kt : natc cnd x y → wp d k a lv rest w P) (kf : ¬ natc cnd x y → wp d k (pc + 3) lv rest w P) : wp d k pc lv (.int (nI y) :: .int (nI x) :: rest) w P :=
  wp_icm hI (fun h => kt ((natc_of hx hy).mp h)) (fun h => kf (fun q => by rw [(natc_of hx hy).mpr q] at h; cases h))
theorem wp_ifn {cnd : ClassFile.Cond} {o : Int} {x : Nat} (hI : pm_I k pc = some (.ifCond cnd o, ln, a, b, z)) (hx : x < 2 ^ 31) (kt : natc cnd x 0 → wp d k a lv rest w P) (kf : ¬ natc cnd x 0 → wp d k (pc + 3) lv rest w P) : wp d k pc lv (.int (nI x) :: rest) w P :=
  wp_ifc hI (fun h => kt ((natc_of hx (by decide)).mp h)) (fun h => kf (fun q => by rw [show pm_cz cnd (nI x) 0 = true from (natc_of hx (by decide)).mpr q] at h; cases h))
/-- a method that answers, taken at a call -/
theorem wp_cc (as rest : List Value) {i : Instr} (hI : pm_I k pc = some (i, ln, a, b, z)) (h1 : pm_isr i = false) (h2 : pm_inv i = true) (ha : ¬ 1000 ≤ a) (hs : st = as.reverse ++ rest) (hn : as.length = pm_na a) (hcs : pm_cs rest ≤ 8) (hsl : (lg_sl as).length ≤ pm_n a) (hr : (pm_k a == 1 || pm_rcv a as w) = true) {P1 : Option Value → pm_H → Prop} (hm : wp d a 0 (lv_args 0 as) [] w P1) (kk : ∀ r2 w1, P1 r2 w1 → wp (d + 1) k (pc + 3) lv (r2.toList ++ rest) w1 P) : wp (d + 1) k pc lv st w P :=
  wp_cl as rest hI h1 h2 ha hs hn hcs hsl hr (wp_mono hm kk)
end WR
theorem rcv_ok {t a ci : Nat} {fs as : List Value} {w : pm_H} (h : w[a]? = some (0, ci, fs)) (hc : ci = pm_o t) : (pm_k t == 1 || pm_rcv t (.ref a :: as) w) = true := by
  have h1 : pm_rcv t (.ref a :: as) w = true := by
    show (match w[a]? with
      | some (0, ci, _) => ci == pm_o t
      | _ => false) = true
    rw [h]
    show (ci == pm_o t) = true
    rw [hc]
    exact beq_self_eq_true _
  rw [h1, Bool.or_true]
theorem ret_ok {k : Nat} {v : Int32} (h : pm_r k = some .int) : pm_ret k .ireturn [.int v] = some (some (.int v)) := by
  show (if pm_rb (pm_r k) v = true then some (some (Value.int v)) else none) = _
  rw [h]
  rfl
theorem ret_b {k : Nat} {v : Int32} (h : pm_r k = some .boolean) (hv : v = 0 ∨ v = 1) : pm_ret k .ireturn [.int v] = some (some (.int v)) := by
  show (if pm_rb (pm_r k) v = true then some (some (Value.int v)) else none) = _
  rw [h]
  rcases hv with rfl | rfl <;> rfl
theorem ret_l {k : Nat} {v : Int64} (h : pm_r k = some .long) : pm_ret k .lreturn [.long v] = some (some (.long v)) := by
  show (if pm_r k = some .long then some (some (Value.long v)) else none) = _
  rw [if_pos h]
theorem ret_v {k : Nat} (h : pm_r k = none) : pm_ret k .return_ [] = some none := by
  show (if pm_r k = none then some none else none) = _
  rw [if_pos h]
/-- a truth as the machine's int -/
def tB (p : Prop) [Decidable p] : Int32 := if p then 1 else 0
theorem tB_01 (p : Prop) [Decidable p] : tB p = 0 ∨ tB p = 1 := by
  unfold tB
  split
  · exact Or.inr rfl
  · exact Or.inl rfl
theorem nx_add {x y : Int32} {a b : Nat} (hx : x = nI a) (hy : y = nI b) : x + y = nI (a + b) := by rw [hx, hy, nI_add]
theorem nx_mul {x y : Int32} {a b : Nat} (hx : x = nI a) (hy : y = nI b) : x * y = nI (a * b) := by rw [hx, hy, pk_mul]
theorem nx_sub {x y : Int32} {a b : Nat} (hx : x = nI a) (hy : y = nI b) (h : b ≤ a) : x - y = nI (a - b) := by rw [hx, hy, pk_sub h]
theorem i3_eqt {x y : Int32} (h : x = y) : x.toInt = y.toInt := by rw [h]
theorem i3_eqf {x y : Int32} (h : ¬ x = y) : x.toInt ≠ y.toInt := fun e => h (Int32.toInt_inj.mp e)
theorem i3_net {x y : Int32} (h : x ≠ y) : x.toInt ≠ y.toInt := fun e => h (Int32.toInt_inj.mp e)
theorem i3_nef {x y : Int32} (h : ¬ x ≠ y) : x.toInt = y.toInt := by rw [Classical.not_not.mp h]
theorem i3_ltt {x y : Int32} (h : x < y) : x.toInt < y.toInt := Int32.lt_iff_toInt_lt.mp h
theorem i3_ltf {x y : Int32} (h : ¬ x < y) : y.toInt ≤ x.toInt := Int32.le_iff_toInt_le.mp (Int32.not_lt.mp h)
theorem i3_get {x y : Int32} (h : y ≤ x) : y.toInt ≤ x.toInt := Int32.le_iff_toInt_le.mp h
theorem i3_gef {x y : Int32} (h : ¬ y ≤ x) : x.toInt < y.toInt := Int32.lt_iff_toInt_lt.mp (Int32.not_le.mp h)
theorem i3_gtt {x y : Int32} (h : y < x) : y.toInt < x.toInt := Int32.lt_iff_toInt_lt.mp h
theorem i3_gtf {x y : Int32} (h : ¬ y < x) : x.toInt ≤ y.toInt := Int32.le_iff_toInt_le.mp (Int32.not_lt.mp h)
theorem i3_let {x y : Int32} (h : x ≤ y) : x.toInt ≤ y.toInt := Int32.le_iff_toInt_le.mp h
theorem i3_lef {x y : Int32} (h : ¬ x ≤ y) : y.toInt < x.toInt := Int32.lt_iff_toInt_lt.mp (Int32.not_le.mp h)
theorem lgc (a b : Int64) : ((lg_cmp a b).toInt = 1 ∧ b.toInt < a.toInt) ∨ ((lg_cmp a b).toInt = 0 ∧ a.toInt = b.toInt) ∨ ((lg_cmp a b).toInt = -1 ∧ a.toInt < b.toInt) := by
  unfold lg_cmp
  by_cases h : a > b
  · rw [if_pos h]
    exact Or.inl ⟨by decide, Int64.lt_iff_toInt_lt.mp h⟩
  · rw [if_neg h]
    by_cases h2 : a = b
    · rw [if_pos h2]
      exact Or.inr (Or.inl ⟨by decide, by rw [h2]⟩)
    · rw [if_neg h2]
      refine Or.inr (Or.inr ⟨by decide, ?_⟩)
      have h3 : ¬ b.toInt < a.toInt := fun q => h (Int64.lt_iff_toInt_lt.mpr q)
      have h4 : ¬ a.toInt = b.toInt := fun q => h2 (Int64.toInt_inj.mp q)
      omega
