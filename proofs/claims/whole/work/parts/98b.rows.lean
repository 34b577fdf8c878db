/-! the book of the class: rows are made -/
theorem or_add {a v k : Nat} (h : a / 2 ^ k % 8 = 0) (hv : v < 8) : a ||| v * 2 ^ k = a + v * 2 ^ k := by
  have hr : a % 2 ^ k < 2 ^ k := Nat.mod_lt _ (Nat.two_pow_pos k)
  obtain ⟨q, hq⟩ : ∃ q, a / 2 ^ k = 8 * q := ⟨a / 2 ^ k / 8, by omega⟩
  have ea : a = 2 ^ k * (8 * q) + a % 2 ^ k := by rw [← hq]; exact (Nat.div_add_mod a (2 ^ k)).symm
  generalize a % 2 ^ k = r at hr ea
  subst ea
  have e1 : 8 * q ||| v = 8 * q + v := (Nat.two_pow_add_eq_or_of_lt (i := 3) hv q).symm
  have e2 : 2 ^ k * (8 * q) ||| v * 2 ^ k = 2 ^ k * (8 * q + v) := by
    rw [← e1, Nat.mul_comm v, Nat.mul_comm (2 ^ k) (8 * q), Nat.mul_comm (2 ^ k) v, Nat.mul_comm (2 ^ k) (8 * q ||| v), ← Nat.shiftLeft_eq, ← Nat.shiftLeft_eq, ← Nat.shiftLeft_eq, Nat.shiftLeft_or_distrib]
  calc (2 ^ k * (8 * q) + r) ||| v * 2 ^ k = (2 ^ k * (8 * q) ||| r) ||| v * 2 ^ k := by rw [Nat.two_pow_add_eq_or_of_lt hr]
    _ = (2 ^ k * (8 * q) ||| v * 2 ^ k) ||| r := by rw [Nat.or_assoc, Nat.or_comm r, ← Nat.or_assoc]
    _ = 2 ^ k * (8 * q + v) ||| r := by rw [e2]
    _ = 2 ^ k * (8 * q + v) + r := (Nat.two_pow_add_eq_or_of_lt hr _).symm
    _ = 2 ^ k * (8 * q) + r + v * 2 ^ k := by
      rw [Nat.mul_add, Nat.mul_comm (2 ^ k) v]
      omega
theorem gd_l {l k : List Nat} {i : Nat} (h : i < l.length) : (l ++ k).getD i 0 = l.getD i 0 := by
  rw [List.getD_eq_getElem?_getD, List.getD_eq_getElem?_getD, List.getElem?_append_left h]
theorem gd_r {l k : List Nat} {i : Nat} (h : l.length ≤ i) : (l ++ k).getD i 0 = k.getD (i - l.length) 0 := by
  rw [List.getD_eq_getElem?_getD, List.getD_eq_getElem?_getD, List.getElem?_append_right h]
def shN (l : Nat) : Nat := 7 + 3 * (7 - l)
theorem dig_keep {a v p q : Nat} (hp : p ≤ 7) (hq : q ≤ 7) (hne : p ≠ q) (hv : v < 8) (h : a / 2 ^ shN q % 8 = 0) : (a + v * 2 ^ shN q) / 2 ^ shN p % 8 = a / 2 ^ shN p % 8 := by
  have p8 : p = 0 ∨ p = 1 ∨ p = 2 ∨ p = 3 ∨ p = 4 ∨ p = 5 ∨ p = 6 ∨ p = 7 := by omega
  have q8 : q = 0 ∨ q = 1 ∨ q = 2 ∨ q = 3 ∨ q = 4 ∨ q = 5 ∨ q = 6 ∨ q = 7 := by omega
  unfold shN at h ⊢
  rcases q8 with rfl | rfl | rfl | rfl | rfl | rfl | rfl | rfl <;> rcases p8 with rfl | rfl | rfl | rfl | rfl | rfl | rfl | rfl <;> first | exact absurd rfl hne | (simp only [Nat.reduceSub, Nat.reduceMul, Nat.reduceAdd, Nat.reducePow] at h ⊢; omega)
theorem dig_0 {h l : Nat} (hh : h < 128) (hl : l ≤ 7) : h / 2 ^ shN l % 8 = 0 := by
  have : 2 ^ 7 ≤ 2 ^ shN l := Nat.pow_le_pow_right (by decide) (by unfold shN; omega)
  rw [Nat.div_eq_of_lt (by omega)]
def LY (s : Hp) (lay : List Nat) (k : Nat) : Prop := lay.length = k ∧ ∀ i, i < k → s 132 i = ((lay.getD i 0 : Nat) : Int) ∧ lay.getD i 0 < k
def AP (s t : Hp) (cnt : Nat) (L : List Nat) : Prop := t 130 1 = ((cnt + L.length : Nat) : Int) ∧ (∀ i, i < L.length → t 131 (cnt + i) = ((L.getD i 0 : Nat) : Int)) ∧ ∀ i, i < cnt → t 131 i = s 131 i
theorem AP_nil {s t : Hp} {cnt : Nat} (h1 : t 130 1 = (cnt : Int)) (h2 : t 131 = s 131) : AP s t cnt [] := ⟨h1, fun i hi => absurd hi (Nat.not_lt_zero i), fun i _ => by rw [h2]⟩
theorem AP_app {s t u : Hp} {cnt : Nat} {L1 L2 : List Nat} (h : AP s t cnt L1) (g : AP t u (cnt + L1.length) L2) : AP s u cnt (L1 ++ L2) := by
  refine ⟨by rw [g.1, List.length_append, Nat.add_assoc], fun i hi => ?_, fun i hi => by rw [g.2.2 i (by omega), h.2.2 i hi]⟩
  rw [List.length_append] at hi
  by_cases h1 : i < L1.length
  · rw [g.2.2 _ (by omega), h.2.1 i h1, gd_l h1]
  · have := g.2.1 (i - L1.length) (by omega)
    rw [show cnt + L1.length + (i - L1.length) = cnt + i by omega] at this
    rw [this, gd_r (by omega)]
def BF (s t : Hp) : Prop := (∀ P, P ≠ 130 → P ≠ 131 → P ≠ 132 → t P = s P) ∧ ∀ q, q ≠ 1 → t 130 q = s 130 q
theorem BF_rf {s : Hp} : BF s s := ⟨fun _ _ _ _ => rfl, fun _ _ => rfl⟩
theorem BF_tr {s t u : Hp} (h : BF s t) (g : BF t u) : BF s u := ⟨fun P h1 h2 h3 => (g.1 P h1 h2 h3).trans (h.1 P h1 h2 h3), fun q hq => (g.2 q hq).trans (h.2 q hq)⟩
theorem BF_132 {s : Hp} {i : Nat} {v : Int} : BF s (uh s 132 i v) := ⟨fun P _ _ h3 => uh_row h3, fun q _ => by rw [uh_row (by decide)]⟩
section RW
variable {s : Hp} {lay : List Nat} {c h : Nat}
/-- a stack as a number -/
theorem bk_code (hc : s 130 2 = (c : Int)) (c8 : c ≤ 8) (ly : LY s lay c) (nd : ∀ i j, i < c → j < c → i ≠ j → lay.getD i 0 ≠ lay.getD j 0) (hh : h < 128) : lp (fun (q : Int × Int) => xb_addRow_b17 s q.1 q.2) ((h : Int), 0) = some (((h + codeL lay c : Nat) : Int), (c : Int)) := by
  obtain ⟨r, e1, e2⟩ := lp_forR (B := fun (q : Int × Int) => xb_addRow_b17 s q.1 q.2) (fun i (q : Int × Int) => q.2 = (i : Int) ∧ q.1 = ((h + codeL lay i : Nat) : Int) ∧ h + codeL lay i < 2147483648 ∧ ∀ l, l ≤ 7 → (∀ j, j < i → lay.getD j 0 ≠ l) → (h + codeL lay i) / 2 ^ shN l % 8 = 0) c (fun q : Int × Int => q = (((h + codeL lay c : Nat) : Int), (c : Int))) (by
    rintro i ⟨x, y⟩ hi ⟨j1, j2, j3, j4⟩
    replace j1 : y = (i : Int) := j1
    replace j2 : x = ((h + codeL lay i : Nat) : Int) := j2
    subst j1
    subst j2
    obtain ⟨l1, l2⟩ := ly.2 i hi
    have hl7 : lay.getD i 0 ≤ 7 := by omega
    have hz := j4 (lay.getD i 0) hl7 (fun j hj => nd j i (by omega) hi (by omega))
    have ec : codeL lay (i + 1) = codeL lay i + i * 2 ^ shN (lay.getD i 0) := rfl
    have hb : i * 2 ^ shN (lay.getD i 0) < 2147483648 := by
      have h1 : 2 ^ shN (lay.getD i 0) ≤ 2 ^ 28 := Nat.pow_le_pow_right (by decide) (by unfold shN; omega)
      have h2 : i * 2 ^ shN (lay.getD i 0) ≤ 7 * 2 ^ 28 := Nat.mul_le_mul (by omega) h1
      omega
    have hor : (h + codeL lay i) ||| i * 2 ^ shN (lay.getD i 0) = h + codeL lay i + i * 2 ^ shN (lay.getD i 0) := or_add hz (by omega)
    have hlt : h + codeL lay i + i * 2 ^ shN (lay.getD i 0) < 2147483648 := by rw [← hor]; exact Nat.or_lt_two_pow (n := 31) j3 hb
    show ∃ q1, xb_addRow_b17 s ((h + codeL lay i : Nat) : Int) (i : Int) = some (Sum.inl q1) ∧ _
    unfold xb_addRow_b17 xb_shiftOf
    rw [hc, w32_eq (x := (i : Int)) (by omega) (by omega), w32_eq (x := (c : Int)) (by omega) (by omega), if_pos (by omega), ixt i rfl (by omega) (by decide)]
    simp only [obs]
    rw [l1, show (7 : Int) + 3 * (7 - ((lay.getD i 0 : Nat) : Int)) = ((shN (lay.getD i 0) : Nat) : Int) by unfold shN; omega, bShl_n (by unfold shN; omega) hb, bOr_n j3 hb, hor]
    refine ⟨_, rfl, by show (i : Int) + 1 = _; omega, ?_, ?_, fun l hl hn => ?_⟩
    · show ((h + codeL lay i + i * 2 ^ shN (lay.getD i 0) : Nat) : Int) = _
      rw [ec, Nat.add_assoc]
    · rw [ec, ← Nat.add_assoc]; exact hlt
    · rw [ec, ← Nat.add_assoc, dig_keep hl hl7 (fun q => hn i (by omega) q.symm) (by omega) hz]
      exact j4 l hl (fun j hj => hn j (by omega))) (by
    rintro ⟨x, y⟩ ⟨j1, j2, -⟩
    replace j1 : y = (c : Int) := j1
    replace j2 : x = ((h + codeL lay c : Nat) : Int) := j2
    subst j1
    subst j2
    refine ⟨_, ?_, rfl⟩
    show xb_addRow_b17 s ((h + codeL lay c : Nat) : Int) (c : Int) = _
    unfold xb_addRow_b17
    rw [hc, if_neg (by omega)]) (s := ((h : Int), 0)) ⟨rfl, rfl, by show h + 0 < _; omega, fun l hl _ => dig_0 (by show h + 0 < 128; omega) hl⟩
  rw [e1, e2]
theorem bk_addRow (hc : s 130 2 = (c : Int)) (c8 : c ≤ 8) (ly : LY s lay c) (nd : ∀ i j, i < c → j < c → i ≠ j → lay.getD i 0 ≠ lay.getD j 0) (hh : h < 128) {cnt : Nat} (hn : s 130 1 = (cnt : Int)) (h1392 : cnt < 1392) : ∃ t, xb_addRow s (h : Int) = some t ∧ AP s t cnt [h + codeL lay c] ∧ BF s t ∧ t 132 = s 132 := by
  unfold xb_addRow
  rw [hn, w32_eq (x := (cnt : Int)) (by omega) (by omega), show w32 1392 = 1392 by decide, if_pos (by omega), bk_code hc c8 ly nd hh, ixt (n := 1392) (j := (cnt : Int)) cnt rfl h1392 (by decide)]
  simp only [obs]
  refine ⟨_, rfl, ⟨?_, fun i hi => ?_, fun i hi => ?_⟩, ⟨fun P p1 p2 p3 => ?_, fun q hq => ?_⟩, ?_⟩
  · rw [uh_rc, uh_row (by decide), hn]
    rfl
  · have : i = 0 := by
      replace hi : i < 1 := hi
      omega
    subst this
    rw [uh_row (by decide), Nat.add_zero, uh_rc]
    rfl
  · rw [uh_row (by decide), uh_ro _ _ _ _ (by omega)]
  · rw [uh_row p1, uh_row p2]
  · rw [uh_ro _ _ _ _ hq, uh_row (by decide)]
  · rw [uh_row (by decide), uh_row (by decide)]
end RW
