/-! the words of a rule, one value, both sides -/
def vCell : List Nat := [99, 101, 108, 108]
def vWorth : List Nat := [119, 111, 114, 116, 104]
def vBuyer : List Nat := [98, 117, 121, 101, 114]
def vOwner : List Nat := [111, 119, 110, 101, 114]
def vLayer : List Nat := [108, 97, 121, 101, 114]
def vPlace : List Nat := [112, 108, 97, 99, 101]
def vMoved : List Nat := [109, 111, 118, 101, 100]
def vWidth : List Nat := [119, 105, 100, 116, 104]
def vWay : List Nat := [119, 97, 121]
def vPurse : List Nat := [112, 117, 114, 115, 101]
def vDay : List Nat := [100, 97, 121]
abbrev vW : List (List Nat) := [vCell, vWorth, vBuyer, vOwner, vLayer, vPlace, vMoved, vWidth, vWay, vPurse, vDay]
theorem spl_vw : spls 2 0 vW := ⟨⟨⟨61, by decide +kernel, by decide, by decide⟩, by decide +kernel, by decide +kernel⟩, by decide, ⟨⟨61, by decide +kernel, by decide, by decide⟩, by decide +kernel, by decide +kernel⟩, by decide, ⟨⟨61, by decide +kernel, by decide, by decide⟩, by decide +kernel, by decide +kernel⟩, by decide, ⟨⟨61, by decide +kernel, by decide, by decide⟩, by decide +kernel, by decide +kernel⟩, by decide, ⟨⟨61, by decide +kernel, by decide, by decide⟩, by decide +kernel, by decide +kernel⟩, by decide, ⟨⟨61, by decide +kernel, by decide, by decide⟩, by decide +kernel, by decide +kernel⟩, by decide, ⟨⟨61, by decide +kernel, by decide, by decide⟩, by decide +kernel, by decide +kernel⟩, by decide, ⟨⟨61, by decide +kernel, by decide, by decide⟩, by decide +kernel, by decide +kernel⟩, by decide, ⟨⟨61, by decide +kernel, by decide, by decide⟩, by decide +kernel, by decide +kernel⟩, by decide, ⟨⟨61, by decide +kernel, by decide, by decide⟩, by decide +kernel, by decide +kernel⟩, by decide, ⟨⟨61, by decide +kernel, by decide, by decide⟩, by decide +kernel, by decide +kernel⟩, by decide, by decide +kernel, by decide⟩
def vPrice : List Nat := [112, 114, 105, 99, 101]
theorem spl_price : spls 1 0 [vPrice] := ⟨⟨⟨6, by decide +kernel, by decide, by decide⟩, by decide +kernel, by decide +kernel⟩, by decide, by decide +kernel, by decide⟩
def vIf : List Nat := [105, 102]
theorem spl_if : spls 3 0 [vIf] := ⟨⟨⟨3, by decide +kernel, by decide, by decide⟩, by decide +kernel, by decide +kernel⟩, by decide, by decide +kernel, by decide⟩
def vNot : List Nat := [110, 111, 116]
theorem spl_not : spls 4 0 [vNot] := ⟨⟨⟨4, by decide +kernel, by decide, by decide⟩, by decide +kernel, by decide +kernel⟩, by decide, by decide +kernel, by decide⟩
def vAnd : List Nat := [97, 110, 100]
theorem spl_and : spls 5 0 [vAnd] := ⟨⟨⟨4, by decide +kernel, by decide, by decide⟩, by decide +kernel, by decide +kernel⟩, by decide, by decide +kernel, by decide⟩
def vOr : List Nat := [111, 114]
theorem spl_or : spls 6 0 [vOr] := ⟨⟨⟨3, by decide +kernel, by decide, by decide⟩, by decide +kernel, by decide +kernel⟩, by decide, by decide +kernel, by decide⟩
section VW
variable {T : Nat → Int} {n t k : Nat} {E F : List Tok} {s M : Hp}
theorem rt_wordHere {i : Nat} (hb : TB T n) (h : TM T n M) (e8 : M 146 8 = (i : Int)) (hin : i ≤ n) (hid : skp (isB T) n i = i) : xm_wordHere M = some (wix T i (skp (isL T) n i) 0 vW, M) := by
  unfold xm_wordHere
  rw [rt_wordAt (code := 1667591276) (w := vCell) hb h e8 hin hid (by decide) (by decide) (by decide) (by decide +kernel)]
  simp only [obs, tb0]
  rw [rt_wordAt (code := 512970880104) (w := vWorth) hb h e8 hin hid (by decide) (by decide) (by decide) (by decide +kernel)]
  simp only [obs, tb0]
  rw [rt_wordAt (code := 422877685106) (w := vBuyer) hb h e8 hin hid (by decide) (by decide) (by decide) (by decide +kernel)]
  simp only [obs, tb0]
  rw [rt_wordAt (code := 478745093490) (w := vOwner) hb h e8 hin hid (by decide) (by decide) (by decide) (by decide +kernel)]
  simp only [obs, tb0]
  rw [rt_wordAt (code := 465491813746) (w := vLayer) hb h e8 hin hid (by decide) (by decide) (by decide) (by decide +kernel)]
  simp only [obs, tb0]
  rw [rt_wordAt (code := 482854658917) (w := vPlace) hb h e8 hin hid (by decide) (by decide) (by decide) (by decide +kernel)]
  simp only [obs, tb0]
  rw [rt_wordAt (code := 470021465444) (w := vMoved) hb h e8 hin hid (by decide) (by decide) (by decide) (by decide +kernel)]
  simp only [obs, tb0]
  rw [rt_wordAt (code := 512869299304) (w := vWidth) hb h e8 hin hid (by decide) (by decide) (by decide) (by decide +kernel)]
  simp only [obs, tb0]
  rw [rt_wordAt (code := 7823737) (w := vWay) hb h e8 hin hid (by decide) (by decide) (by decide) (by decide +kernel)]
  simp only [obs, tb0]
  rw [rt_wordAt (code := 483006772069) (w := vPurse) hb h e8 hin hid (by decide) (by decide) (by decide) (by decide +kernel)]
  simp only [obs, tb0]
  rw [rt_wordAt (code := 6578553) (w := vDay) hb h e8 hin hid (by decide) (by decide) (by decide) (by decide +kernel)]
  simp only [obs, tb0]
  have ew : wix T i (skp (isL T) n i) 0 vW = if wEq T i (skp (isL T) n i) vCell then 0 else if wEq T i (skp (isL T) n i) vWorth then 1 else if wEq T i (skp (isL T) n i) vBuyer then 2 else if wEq T i (skp (isL T) n i) vOwner then 3 else if wEq T i (skp (isL T) n i) vLayer then 4 else if wEq T i (skp (isL T) n i) vPlace then 5 else if wEq T i (skp (isL T) n i) vMoved then 6 else if wEq T i (skp (isL T) n i) vWidth then 7 else if wEq T i (skp (isL T) n i) vWay then 8 else if wEq T i (skp (isL T) n i) vPurse then 9 else if wEq T i (skp (isL T) n i) vDay then 10 else -1 := rfl
  rw [ew]
  by_cases h0 : wEq T i (skp (isL T) n i) vCell
  · rw [if_neg (c := ¬ wEq T i (skp (isL T) n i) vCell) (fun q => q h0), if_pos (c := wEq T i (skp (isL T) n i) vCell) h0]
  · rw [if_pos (c := ¬ wEq T i (skp (isL T) n i) vCell) h0, if_neg (c := wEq T i (skp (isL T) n i) vCell) h0]
    by_cases h1 : wEq T i (skp (isL T) n i) vWorth
    · rw [if_neg (c := ¬ wEq T i (skp (isL T) n i) vWorth) (fun q => q h1), if_pos (c := wEq T i (skp (isL T) n i) vWorth) h1]
    · rw [if_pos (c := ¬ wEq T i (skp (isL T) n i) vWorth) h1, if_neg (c := wEq T i (skp (isL T) n i) vWorth) h1]
      by_cases h2 : wEq T i (skp (isL T) n i) vBuyer
      · rw [if_neg (c := ¬ wEq T i (skp (isL T) n i) vBuyer) (fun q => q h2), if_pos (c := wEq T i (skp (isL T) n i) vBuyer) h2]
      · rw [if_pos (c := ¬ wEq T i (skp (isL T) n i) vBuyer) h2, if_neg (c := wEq T i (skp (isL T) n i) vBuyer) h2]
        by_cases h3 : wEq T i (skp (isL T) n i) vOwner
        · rw [if_neg (c := ¬ wEq T i (skp (isL T) n i) vOwner) (fun q => q h3), if_pos (c := wEq T i (skp (isL T) n i) vOwner) h3]
        · rw [if_pos (c := ¬ wEq T i (skp (isL T) n i) vOwner) h3, if_neg (c := wEq T i (skp (isL T) n i) vOwner) h3]
          by_cases h4 : wEq T i (skp (isL T) n i) vLayer
          · rw [if_neg (c := ¬ wEq T i (skp (isL T) n i) vLayer) (fun q => q h4), if_pos (c := wEq T i (skp (isL T) n i) vLayer) h4]
          · rw [if_pos (c := ¬ wEq T i (skp (isL T) n i) vLayer) h4, if_neg (c := wEq T i (skp (isL T) n i) vLayer) h4]
            by_cases h5 : wEq T i (skp (isL T) n i) vPlace
            · rw [if_neg (c := ¬ wEq T i (skp (isL T) n i) vPlace) (fun q => q h5), if_pos (c := wEq T i (skp (isL T) n i) vPlace) h5]
            · rw [if_pos (c := ¬ wEq T i (skp (isL T) n i) vPlace) h5, if_neg (c := wEq T i (skp (isL T) n i) vPlace) h5]
              by_cases h6 : wEq T i (skp (isL T) n i) vMoved
              · rw [if_neg (c := ¬ wEq T i (skp (isL T) n i) vMoved) (fun q => q h6), if_pos (c := wEq T i (skp (isL T) n i) vMoved) h6]
              · rw [if_pos (c := ¬ wEq T i (skp (isL T) n i) vMoved) h6, if_neg (c := wEq T i (skp (isL T) n i) vMoved) h6]
                by_cases h7 : wEq T i (skp (isL T) n i) vWidth
                · rw [if_neg (c := ¬ wEq T i (skp (isL T) n i) vWidth) (fun q => q h7), if_pos (c := wEq T i (skp (isL T) n i) vWidth) h7]
                · rw [if_pos (c := ¬ wEq T i (skp (isL T) n i) vWidth) h7, if_neg (c := wEq T i (skp (isL T) n i) vWidth) h7]
                  by_cases h8 : wEq T i (skp (isL T) n i) vWay
                  · rw [if_neg (c := ¬ wEq T i (skp (isL T) n i) vWay) (fun q => q h8), if_pos (c := wEq T i (skp (isL T) n i) vWay) h8]
                  · rw [if_pos (c := ¬ wEq T i (skp (isL T) n i) vWay) h8, if_neg (c := wEq T i (skp (isL T) n i) vWay) h8]
                    by_cases h9 : wEq T i (skp (isL T) n i) vPurse
                    · rw [if_neg (c := ¬ wEq T i (skp (isL T) n i) vPurse) (fun q => q h9), if_pos (c := wEq T i (skp (isL T) n i) vPurse) h9]
                    · rw [if_pos (c := ¬ wEq T i (skp (isL T) n i) vPurse) h9, if_neg (c := wEq T i (skp (isL T) n i) vPurse) h9]
                      by_cases h10 : wEq T i (skp (isL T) n i) vDay
                      · rw [if_neg (c := ¬ wEq T i (skp (isL T) n i) vDay) (fun q => q h10), if_pos (c := wEq T i (skp (isL T) n i) vDay) h10]
                      · rw [if_pos (c := ¬ wEq T i (skp (isL T) n i) vDay) h10, if_neg (c := wEq T i (skp (isL T) n i) vDay) h10]
theorem at_digit {p : Nat} (hb : TB T n) (h : TC T n s) (hp : s 1 2 = (p : Int)) (hpn : p ≤ n) : xt_atDigit s = some (if p < n ∧ isD T p = true then 1 else 0) := by
  have hb1 := hb.1
  unfold xt_atDigit
  rw [hp, h.1, w32_eq (x := (p : Int)) (by omega) (by omega), w32_eq (x := (n : Int)) (by omega) (by omega)]
  by_cases hj : p < n
  · have tb := hb.2 p hj
    rw [if_pos (by omega), ixt p rfl (by omega) (by decide)]
    simp only [obs]
    rw [h.2]
    unfold xt_isDigit
    rw [w32_eq (x := T p) (by omega) (by omega), show w32 48 = 48 by decide, show w32 57 = 57 by decide]
    by_cases hd : 48 ≤ T p ∧ T p ≤ 57
    · rw [if_pos (c := p < n ∧ isD T p = true) ⟨hj, decide_eq_true hd⟩, if_neg (by omega), if_neg (by omega)]
      simp only [obs]
      rw [if_neg (by decide)]
    · rw [if_neg (c := p < n ∧ isD T p = true) (fun e => hd (of_decide_eq_true e.2))]
      by_cases hq : T p < 48
      · rw [if_pos hq]
        simp only [obs]
        rw [if_pos (by decide)]
      · rw [if_neg hq, if_pos (by omega)]
        simp only [obs]
        rw [if_pos (by decide)]
  · rw [if_neg (by omega), if_neg (fun e => hj e.1)]
/-- a word of one, taken by both -/
theorem tw_both {ti : Nat} {w : List Nat} {code : Int} (hb : TB T n) (h : RP T n s M) (hsp : spls ti 0 [w]) (hw7 : w.length < 8) (hwl : ∀ j, j < w.length → 0 < w.getD j 0 ∧ w.getD j 0 < 256) (hc : code = ((pkf (fun j => w.getD j 0) w.length : Nat) : Int)) : ∃ p : Nat, p ≤ n ∧ s 1 2 = (p : Int) ∧ skp (isB T) n p = p ∧ RP T n s (uh M 146 8 (p : Int)) ∧ xm_see M = some (if p < n then T p else -1, uh M 146 8 (p : Int)) ∧ xm_isWord M code = some (tb (wEq T p (skp (isL T) n p) w), uh M 146 8 (p : Int)) ∧ xm_isWord (uh M 146 8 (p : Int)) code = some (tb (wEq T p (skp (isL T) n p) w), uh M 146 8 (p : Int)) ∧ (¬ wEq T p (skp (isL T) n p) w → xt_takesWord s ti = some (0, s)) ∧ (wEq T p (skp (isL T) n p) w → ∃ e : Nat, e ≤ n ∧ p < e ∧ 97 ≤ T p ∧ xt_takesWord s ti = some (1, uh s 1 2 ((skp (isB T) n e : Nat) : Int)) ∧ ∀ N : Hp, TM T n N → N 146 8 = (p : Int) → xm_passWord N = some (uh N 146 8 (e : Int))) := by
  obtain ⟨p, p1, p2, p3, p4, p5⟩ := RP_see hb h
  obtain ⟨tc, tm, s3, m9, i, hi, hin, hs2⟩ := id h
  have tmp := p5.2.1
  have hpi : p = skp (isB T) n i := by omega
  have hw0 : 0 < w.length := hsp.2.1
  have w1 := rt_word (code := code) hb tm hi hin hw0 hw7 hwl hc
  rw [← hpi] at w1
  have w2 := rt_wordAt (i := p) (code := code) hb tmp (uh_rc _ _ _ _) p1 p3 hw0 hw7 hwl hc
  have cw := ct_word (ws := [w]) hb tc p2 p1 hsp (by show 1 < 100; decide)
  have ew : wix T p (skp (isL T) n p) 0 [w] = if wEq T p (skp (isL T) n p) w then 0 else -1 := rfl
  refine ⟨p, p1, p2, p3, p5, p4, w1, w2, fun hq => ?_, fun hq => ?_⟩
  · unfold xt_takesWord
    rw [cw, ew, if_neg hq]
    simp only [obs]
    rw [if_pos trivial, if_pos trivial]
  · refine ⟨skp (isL T) n p, skp_le p1, by have := hq.1; omega, ?_, ?_, fun N hN h8 => rt_pass hb hN h8 p1⟩
    · have := (hwl 0 hw0).1
      have e1 := hq.2 0 hw0
      rw [Nat.add_zero] at e1
      obtain ⟨-, -, hh⟩ := hsp.1
      have := (hh 0 hw0).2.1
      omega
    · unfold xt_takesWord
      rw [cw, ew, if_pos hq]
      simp only [obs]
      rw [if_neg (c := w32 0 = w32 (-1)) (by decide), if_neg (c := (0 : Int) = -1) (by decide)]
/-- one value counted and written, both sides -/
theorem vl_end {op v p : Nat} {c : Int} (tc : TC T n s) (tm : TM T n M) (s3 : s 1 3 = 0) (m9 : M 146 9 = 0) (hpos : ∃ i : Nat, s 1 2 = (i : Int) ∧ i ≤ n) (kc : KC E k s) (km : KM t F k M) (hE : E.length < 399) (hk : k ≤ 60) (hv : v ≤ 99999) (hc : c = ((32 * v + op : Nat) : Int)) (hp : p ≤ n) (hn : n ≤ 400) : (k = 60 ∧ ∃ s1 M1, ((xr_addStep s c).bind fun o => (xr_countItem o (p : Int)).bind fun o2 => some o2) = some s1 ∧ xm_makes M (p : Int) = some (0, M1) ∧ HE s s1 ∧ HU t M M1 ∧ KF T n s1 M1) ∨ (k < 60 ∧ ∃ s1 M1, ((xr_addStep s c).bind fun o => (xr_countItem o (p : Int)).bind fun o2 => some o2) = some s1 ∧ xm_makes M (p : Int) = some (1, M1) ∧ HE s s1 ∧ HU t M M1 ∧ KC (E ++ [(op, v)]) (k + 1) s1 ∧ KM t F (k + 1) M1 ∧ s1 1 = s 1 ∧ s1 2 = s 2 ∧ (∀ q, q ≠ 12 → M1 146 q = M 146 q) ∧ ∀ P, P ≠ 146 → M1 P = M P) := by
  obtain ⟨i, hs2, hin⟩ := hpos
  obtain ⟨s1, a1, a2, a3⟩ := KC_add (op := op) (v := v) (c := c) kc (by omega) hv hc
  rw [a1]
  simp only [obs]
  unfold xr_countItem xm_makes
  simp only [obs]
  have hk2 : s1 13 2 = (k : Int) := a2.2.2
  have e13 : uh s1 13 2 ((k : Int) + 1) 13 2 = (k : Int) + 1 := uh_rc _ _ _ _
  rw [hk2, e13, km.2.2.2, w32_eq (x := (k : Int)) (by omega) (by omega), w32_eq (x := (k : Int) + 1) (by omega) (by omega), show w32 60 = 60 by decide]
  have he : HE s (uh s1 13 2 ((k : Int) + 1)) := fun P b c d => by rw [uh_row c]; exact a3 P c d
  by_cases h60 : k = 60
  · refine Or.inl ⟨h60, ?_⟩
    have s3b : uh s1 13 2 ((k : Int) + 1) 1 3 = 0 := by rw [uh_row (by decide), a3 1 (by decide) (by decide)]; exact s3
    rw [if_pos (by omega), if_pos (by omega), ct_fail s3b, rm_fails m9]
    simp only [obs]
    rw [if_pos (Or.inl (by decide))]
    have tcb : TC T n (uh s1 13 2 ((k : Int) + 1)) := ⟨by rw [uh_row (by decide), a3 1 (by decide) (by decide)]; exact tc.1, by rw [uh_row (by decide), a3 2 (by decide) (by decide)]; exact tc.2⟩
    refine ⟨_, _, rfl, rfl, HE_tr he HE_1, HU_1 (by omega), ⟨RF_mk tcb tm hn (p := i) (by rw [uh_row (by decide), a3 1 (by decide) (by decide)]; exact hs2) hin hp (by decide) (by decide), ?_, ?_⟩⟩
    · rw [uh_row (by decide), uh_ro _ _ _ _ (by decide), a2.1]; omega
    · rw [uh_row (by decide), uh_ro _ _ _ _ (by decide), a2.1, List.length_append]
      show ((E.length + 1 : Nat) : Int) ≤ 400
      omega
  · refine Or.inr ⟨by omega, ?_⟩
    rw [if_neg (by omega), if_neg (by omega)]
    refine ⟨_, _, rfl, rfl, he, HU_1 (by omega), ⟨?_, ?_, ?_⟩, ⟨?_, ?_, ?_, ?_⟩, ?_, ?_, fun q hq => uh_ro _ _ _ _ hq, fun P hP => uh_row hP⟩
    · rw [uh_ro _ _ _ _ (by decide)]; exact a2.1
    · rw [uh_row (by decide)]; exact a2.2.1
    · rw [e13]; omega
    · rw [uh_ro _ _ _ _ (by decide)]; exact km.1
    · rw [uh_row (by decide)]; exact km.2.1
    · rw [uh_row (by decide)]; exact km.2.2.1
    · rw [uh_rc]; omega
    · rw [uh_row (by decide)]; exact a3 1 (by decide) (by decide)
    · rw [uh_row (by decide)]; exact a3 2 (by decide) (by decide)
theorem bsh_n {v op : Nat} (hv : v ≤ 99999) (hop : op = 0 ∨ op = 1) : bOr (op : Int) (bShl (v : Int) 5) = ((32 * v + op : Nat) : Int) := by
  have e : bShl (v : Int) 5 = ((v * 32 : Nat) : Int) := bShl_n (x := v) (k := 5) (by decide) (by omega)
  rw [e, bOr_n (x := op) (y := v * 32) (by omega) (by omega), Nat.or_comm]
  have h2 := Nat.two_pow_add_eq_or_of_lt (i := 5) (b := op) (by omega) v
  rw [Nat.mul_comm v 32, show (32 : Nat) = 2 ^ 5 by decide, ← h2]
/-- what a value's sign can be -/
def vTok (op v : Nat) : Prop := (op = 0 ∧ v ≤ 99999) ∨ (op = 1 ∧ v ≤ 10)
/-- one value, both sides -/
theorem vl_both (hb : TB T n) (h : KR T n t k E F s M) : ∃ (s1 : Hp) (b : Int) (M1 : Hp), xr_readValue s = some s1 ∧ xm_value M = some (b, M1) ∧ HE s s1 ∧ HU t M M1 ∧ ((b = 1 ∧ k < 60 ∧ ∃ op v, vTok op v ∧ KR T n t (k + 1) (E ++ [(op, v)]) (F ++ [(op, v)]) s1 M1) ∨ (b = 0 ∧ KF T n s1 M1)) := by
  have hb1 := hb.1
  obtain ⟨rp, kc, km, ht, hk, hpo, hf⟩ := id h
  obtain ⟨p, p1, p2, p3, p4, p5⟩ := RP_see hb rp
  have tmp := p5.2.1
  have e8 : uh M 146 8 (p : Int) 146 8 = (p : Int) := uh_rc _ _ _ _
  have kr8 := KR_see h p5
  unfold xr_readValue xm_value xt_where
  rw [p4]
  simp only [obs]
  rw [at_digit hb rp.1 p2 p1, e8, rt_isDigit hb tmp p1]
  simp only [obs]
  rw [p2]
  -- how a value ends well
  have fin : ∀ (sa Ma Mb : Hp) (op v : Nat), k < 60 → t < 6 → vTok op v → KC (E ++ [(op, v)]) (k + 1) sa → KM t (F ++ [(op, v)]) (k + 1) Mb → RP T n sa Mb → KR T n t (k + 1) (E ++ [(op, v)]) (F ++ [(op, v)]) sa Mb := by
    intro sa Ma Mb op v q1 q2 q3 q4 q5 q6
    refine ⟨q6, q4, q5, q2, by omega, ?_, ?_⟩
    · rw [List.length_append]
      show 3 * (E.length + 1) ≤ _
      omega
    · rw [List.length_append, List.length_append]; omega
  by_cases hd : p < n ∧ isD T p = true
  · rw [if_pos hd, if_neg (by decide)]
    rw [if_neg (c := w32 1 = 0) (by decide)]
    obtain ⟨v, s1, b, M1, e1, e2, fe, fm, hr⟩ := nm_both (lo := 0) (hi := 99999) hb p5 (by decide) (by decide) (by decide) (by decide)
    rw [e1, e2]
    simp only [obs]
    have hu1 : HU t M M1 := HU_tr (HU_1 (by omega)) (HU_f fm)
    rcases hr with ⟨rfl, rp1, hv, v0, v9⟩ | ⟨rfl, rf⟩
    · obtain ⟨v, rfl⟩ : ∃ z : Nat, v = (z : Int) := ⟨v.toNat, by omega⟩
      have kr1 : KR T n t k E F s1 M1 := ⟨rp1, KC_row kc (fe 13 (by decide)) (fe 14 (by decide)), KM_row (KM_8 km (by decide)) (fun q hq => fm.2 q (by omega) (by omega) (by omega)) (fm.1 148 (by decide)) (fm.1 149 (by decide)), ht, hk, hpo, hf⟩
      rw [if_neg (c := w32 1 = 0) (by decide), show (0 : Int) = ((0 : Nat) : Int) from rfl, bsh_n (v := v) (op := 0) (by omega) (by omega)]
      rcases vl_end (op := 0) (v := v) (p := p) (c := ((32 * v + 0 : Nat) : Int)) rp1.1 rp1.2.1 rp1.2.2.1 rp1.2.2.2.1 (by obtain ⟨-, -, -, -, i, -, hin, hs⟩ := rp1; exact ⟨_, hs, skp_le hin⟩) kr1.2.1 kr1.2.2.1 (by omega) hk (by omega) rfl p1 hb1 with ⟨h60, s2, M2, c1, c2, c3, c4, c5⟩ | ⟨h60, s2, M2, c1, c2, c3, c4, c5, c6, c7, c8, c9, c10⟩
      · rw [c1, c2]
        simp only [obs]
        rw [if_pos (by decide)]
        exact ⟨s2, 0, M2, rfl, rfl, HE_tr (HE_f fe) c3, HU_tr hu1 c4, Or.inr ⟨rfl, c5⟩⟩
      · rw [c1, c2]
        simp only [obs]
        rw [if_neg (by decide), c9 10 (by decide), hv]
        obtain ⟨M3, d1, d2, d3, d4⟩ := KM_put (op := 0) (v := v) c6 (by omega) ht (by omega)
        have d1' : xm_puts M2 ((0 : Nat) : Int) (v : Int) = some M3 := d1
        rw [d1']
        simp only [obs]
        refine ⟨s2, 1, M3, rfl, rfl, HE_tr (HE_f fe) c3, HU_tr (HU_tr hu1 c4) ⟨fun P _ b c => d3 P b c, fun q _ _ _ _ => by rw [d3 146 (by decide) (by decide)], d4⟩, Or.inl ⟨rfl, h60, 0, v, Or.inl ⟨rfl, by omega⟩, fin s2 M2 M3 0 v h60 ht (Or.inl ⟨rfl, by omega⟩) c5 d2 (RP_rows rp1 c7 c8 (fun q hq => by rw [d3 146 (by decide) (by decide)]; exact c9 q (by omega)) (by rw [d3 147 (by decide) (by decide)]; exact c10 147 (by decide)))⟩⟩
    · rw [if_pos (c := w32 0 = 0) (by decide)]
      have kf : KF T n s1 M1 := ⟨rf, by rw [fe 13 (by decide), kc.1]; omega, by rw [fe 13 (by decide), kc.1]; omega⟩
      obtain ⟨s2, c1, c2⟩ := CX_add (c := bOr 0 (bShl v 5)) (KF_c kf)
      obtain ⟨s3, c3, c4⟩ := CX_count (c := (p : Int)) c2.1
      rw [c1]
      simp only [obs]
      rw [c3]
      exact ⟨s3, 0, M1, rfl, rfl, HE_tr (HE_f fe) (HE_tr c2.2.2 c4.2.2), hu1, Or.inr ⟨rfl, KF_x kf (CX_tr c2 c4)⟩⟩
  · rw [if_neg hd, if_pos (by decide)]
    rw [if_pos (c := w32 0 = 0) (by decide)]
    have hle2 := skp_le (p := isL T) p1
    rw [ct_word hb rp.1 p2 p1 spl_vw (by decide), rt_wordHere hb tmp e8 p1 p3]
    simp only [obs]
    have hbd := wix_b (T := T) (i := p) (e := skp (isL T) n p) vW 0
    rw [show ((0 + vW.length : Nat) : Int) = 11 from rfl] at hbd
    generalize hK : wix T p (skp (isL T) n p) 0 vW = K at hbd
    by_cases hK1 : K = -1
    · have s3 := rp.2.2.1
      rw [if_pos (c := w32 K = w32 (-1)) (by rw [hK1]), if_pos (c := K = -1) hK1, if_pos (c := w32 K < 0) (by rw [hK1]; decide), rm_fails p5.2.2.2.1]
      unfold xt_failHere
      rw [ct_fail s3, p2]
      simp only [obs]
      rw [if_pos (Or.inl (by decide))]
      exact ⟨_, 0, _, rfl, rfl, HE_1, HU_tr (HU_1 (by omega)) (HU_1 (by omega)), Or.inr ⟨rfl, RF_mk rp.1 tmp hb1 p2 p1 p1 (by decide) (by decide), by rw [uh_row (by decide), kc.1]; omega, by rw [uh_row (by decide), kc.1]; omega⟩⟩
    · obtain ⟨K, rfl⟩ : ∃ z : Nat, K = (z : Int) := ⟨K.toNat, by omega⟩
      rw [if_neg (c := w32 (K : Int) = w32 (-1)) (by rw [w32_eq (x := (K : Int)) (by omega) (by omega), show w32 (-1) = -1 by decide]; exact hK1), if_neg (c := (K : Int) = -1) hK1, if_neg (c := w32 (K : Int) < 0) (by rw [w32_eq (x := (K : Int)) (by omega) (by omega)]; omega)]
      have hle3 := skp_le (p := isB T) hle2
      have kcw : KC E k (uh s 1 2 ((skp (isB T) n (skp (isL T) n p) : Nat) : Int)) := KC_1 kc
      have k8m := KM_8 (v := (p : Int)) (q := 8) km (by decide)
      rw [show (1 : Int) = ((1 : Nat) : Int) from rfl, bsh_n (v := K) (op := 1) (by omega) (by omega)]
      have rpw : ∀ N : Hp, TM T n N → N 146 9 = 0 → N 146 8 = ((skp (isL T) n p : Nat) : Int) → RP T n (uh s 1 2 ((skp (isB T) n (skp (isL T) n p) : Nat) : Int)) N := fun N q1 q2 q3 => ⟨TC_u rp.1 (by decide), q1, by rw [uh_ro _ _ _ _ (by decide)]; exact rp.2.2.1, q2, _, q3, hle2, uh_rc _ _ _ _⟩
      rcases vl_end (op := 1) (v := K) (p := p) (c := ((32 * K + 1 : Nat) : Int)) (TC_u (q := 2) (v := ((skp (isB T) n (skp (isL T) n p) : Nat) : Int)) rp.1 (by decide)) tmp (by rw [uh_ro _ _ _ _ (by decide)]; exact rp.2.2.1) p5.2.2.2.1 ⟨_, uh_rc _ _ _ _, hle3⟩ kcw k8m (by omega) hk (by omega) rfl p1 hb1 with ⟨h60, s2, M2, c1, c2, c3, c4, c5⟩ | ⟨h60, s2, M2, c1, c2, c3, c4, c5, c6, c7, c8, c9, c10⟩
      · rw [c1, c2]
        simp only [obs]
        rw [if_pos (by decide)]
        exact ⟨s2, 0, M2, rfl, rfl, HE_tr HE_1 c3, HU_tr (HU_1 (by omega)) c4, Or.inr ⟨rfl, c5⟩⟩
      · rw [c1, c2]
        simp only [obs]
        have tm2 : TM T n M2 := ⟨by rw [c9 1 (by decide)]; exact tmp.1, fun j hj => by rw [c10 147 (by decide)]; exact tmp.2 j hj⟩
        have e82 : M2 146 8 = (p : Int) := by rw [c9 8 (by decide)]; exact e8
        rw [if_neg (by decide), rt_pass hb tm2 e82 p1]
        simp only [obs]
        obtain ⟨M3, d1, d2, d3, d4⟩ := KM_put (op := 1) (v := K) (KM_8 (v := ((skp (isL T) n p : Nat) : Int)) (q := 8) c6 (by decide)) (by omega) ht (by omega)
        have d1' : xm_puts (uh M2 146 8 ((skp (isL T) n p : Nat) : Int)) ((1 : Nat) : Int) (K : Int) = some M3 := d1
        rw [d1']
        simp only [obs]
        have r0 : RP T n (uh s 1 2 ((skp (isB T) n (skp (isL T) n p) : Nat) : Int)) M3 := rpw M3 ⟨by rw [d3 146 (by decide) (by decide)]; exact (TM_u (q := 8) tm2 (by decide)).1, fun j hj => by rw [d3 147 (by decide) (by decide)]; exact (TM_u (q := 8) tm2 (by decide)).2 j hj⟩ (by rw [d3 146 (by decide) (by decide), uh_ro _ _ _ _ (by decide), c9 9 (by decide)]; exact p5.2.2.2.1) (by rw [d3 146 (by decide) (by decide), uh_rc])
        refine ⟨s2, 1, M3, rfl, rfl, HE_tr HE_1 c3, HU_tr (HU_tr (HU_tr (HU_1 (by omega)) c4) (HU_1 (q := 8) (v := ((skp (isL T) n p : Nat) : Int)) (by omega))) ⟨fun P _ b c => d3 P b c, fun q _ _ _ _ => by rw [d3 146 (by decide) (by decide)], d4⟩, Or.inl ⟨rfl, h60, 1, K, Or.inr ⟨rfl, by omega⟩, fin s2 M2 M3 1 K h60 ht (Or.inr ⟨rfl, by omega⟩) c5 d2 (RP_rows r0 c7 c8 (fun _ _ => rfl) rfl)⟩⟩
end VW
