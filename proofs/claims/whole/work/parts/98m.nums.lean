/-! both sides at one place of the text -/
def spls (t : Nat) : Nat → List (List Nat) → Prop
  | o, [] => sln t = some (o : Int) ∧ o ≤ 1000
  | o, w :: r => spl t o w ∧ 0 < w.length ∧ spls t (o + w.length + 1) r
def wix (T : Nat → Int) (i e : Nat) : Nat → List (List Nat) → Int
  | _, [] => -1
  | k, w :: r => if wEq T i e w then (k : Int) else wix T i e (k + 1) r
theorem wix_b {T : Nat → Int} {i e : Nat} : ∀ (ws : List (List Nat)) (k : Nat), wix T i e k ws = -1 ∨ ((k : Int) ≤ wix T i e k ws ∧ wix T i e k ws < ((k + ws.length : Nat) : Int))
  | [], _ => Or.inl rfl
  | w :: r, k => by
    show (if wEq T i e w then (k : Int) else wix T i e (k + 1) r) = -1 ∨ _ ≤ (if wEq T i e w then (k : Int) else wix T i e (k + 1) r) ∧ (if wEq T i e w then (k : Int) else wix T i e (k + 1) r) < _
    rw [List.length_cons]
    by_cases h : wEq T i e w
    · rw [if_pos h]
      exact Or.inr ⟨by omega, by omega⟩
    · rw [if_neg h]
      rcases wix_b r (k + 1) with h1 | h1
      · exact Or.inl h1
      · exact Or.inr ⟨by omega, by omega⟩
theorem wix_e {T : Nat → Int} {t i : Nat} : ∀ (ws : List (List Nat)) (k o : Nat), spls t o ws → wix T i i k ws = -1
  | [], _, _, _ => rfl
  | w :: r, k, o, h => by
    show (if wEq T i i w then (k : Int) else wix T i i (k + 1) r) = -1
    rw [if_neg (fun q => by have := q.1; have := h.2.1; omega)]
    exact wix_e r (k + 1) _ h.2.2
section NB
variable {T : Nat → Int} {n : Nat} {s M : Hp}
theorem ct_in {t i e : Nat} (hb : TB T n) (h : TC T n s) (hi : s 1 2 = (i : Int)) (hin : i ≤ e) (hen : e ≤ n) : ∀ (ws : List (List Nat)) (k o : Nat), spls t o ws → ((lp (fun (q : Int × Int × Int) => xt_numberIn_b11 s t (e : Int) q.1 q.2.1 q.2.2) ((k : Int), (i : Int), (o : Int))).bind fun q1 => q1.elim (fun _ => some (-1)) (fun r => some r)) = some (wix T i e k ws)
  | [], k, o, hw => by
    have : xt_numberIn_b11 s t (e : Int) (k : Int) (i : Int) (o : Int) = some (.inr (.inl ((k : Int), (i : Int), (o : Int)))) := by
      unfold xt_numberIn_b11
      rw [hw.1]
      simp only [obs]
      rw [if_neg (by omega)]
    rw [lp_en this]
    rfl
  | w :: r, k, o, hw => by
    rw [ct_try hb h hi hin hen hw.1]
    show _ = some (if wEq T i e w then (k : Int) else wix T i e (k + 1) r)
    by_cases hq : wEq T i e w
    · rw [if_pos hq, if_pos hq]; rfl
    · rw [if_neg hq, if_neg hq, show (k : Int) + 1 = ((k + 1 : Nat) : Int) by omega]
      exact ct_in hb h hi hin hen r (k + 1) _ hw.2.2
/-- the class takes one word of a list -/
theorem ct_word {t i : Nat} {ws : List (List Nat)} (hb : TB T n) (h : TC T n s) (hi : s 1 2 = (i : Int)) (hin : i ≤ n) (hw : spls t 0 ws) (hl : ws.length < 100) : xt_takeWord s t = some (wix T i (skp (isL T) n i) 0 ws, if wix T i (skp (isL T) n i) 0 ws = -1 then s else uh s 1 2 ((skp (isB T) n (skp (isL T) n i) : Nat) : Int)) := by
  have hb1 := hb.1
  unfold xt_takeWord
  have key : lp (fun (q : Int) => xt_takeWord_b5 s t q) (s 1 2) = some ((skp (isL T) n i : Nat) : Int) := by
    rw [hi]
    refine lp_skp (B := fun (q : Int) => xt_takeWord_b5 s t q) (isL T) n (fun j => (j : Int)) (fun j => (j : Int)) (i0 := i) (fun j h1 h2 => ?_) hin
    show (_ → xt_takeWord_b5 s t (j : Int) = _) ∧ (_ → xt_takeWord_b5 s t (j : Int) = _)
    unfold xt_takeWord_b5
    rw [h.1, w32_eq (x := (j : Int)) (by omega) (by omega), w32_eq (x := (n : Int)) (by omega) (by omega)]
    by_cases hj : j < n
    · have tb := hb.2 j hj
      rw [if_pos (by omega), ixt j rfl (by omega) (by decide)]
      simp only [obs]
      rw [h.2, w32_eq (x := T j) (by omega) (by omega), show w32 97 = 97 by decide, show w32 122 = 122 by decide]
      refine ⟨fun hp => ?_, fun hp => ?_⟩
      · have hd := of_decide_eq_true hp.2
        rw [if_neg (by omega), if_neg (by omega)]
        rfl
      · have hd : ¬ (97 ≤ T j ∧ T j ≤ 122) := fun e => hp ⟨hj, decide_eq_true e⟩
        by_cases hq : T j < 97
        · rw [if_pos hq]
        · rw [if_neg hq, if_pos (by omega)]
    · rw [if_neg (by omega)]
      exact ⟨fun hp => absurd hp.1 hj, fun _ => rfl⟩
  rw [key]
  simp only [obs]
  have hge := skp_ge (p := isL T) (n := n) (i := i)
  have hle := skp_le (p := isL T) hin
  generalize skp (isL T) n i = e at hge hle
  have j59 : ∀ k : Int, -1 ≤ k → k < 1000 → xt_takeWord_j59 s t (e : Int) k = some (k, if k = -1 then s else uh s 1 2 ((skp (isB T) n e : Nat) : Int)) := by
    intro k k1 k2
    unfold xt_takeWord_j59
    rw [w32_eq (x := k) (by omega) (by omega), show w32 (-1) = -1 by decide]
    by_cases hk : k = -1
    · rw [if_pos hk, if_pos hk]
    · rw [if_neg hk, if_neg hk]
      simp only [obs]
      rw [ct_blanks hb (TC_u (q := 2) (v := (e : Int)) h (by decide)) (uh_rc _ _ _ _) hle, uh_uh]
      rfl
  unfold xt_takeWord_j41
  rw [hi, w32_eq (x := (e : Int)) (by omega) (by omega), w32_eq (x := (i : Int)) (by omega) (by omega)]
  by_cases he : e = i
  · subst he
    rw [if_pos rfl, j59 (-1) (by decide) (by decide), wix_e ws 0 0 hw]
  · rw [if_neg (by omega)]
    have : xt_numberIn s t (e : Int) = some (wix T i e 0 ws) := by
      unfold xt_numberIn
      rw [hi]
      exact ct_in hb h hi hge hle ws 0 0 hw
    rw [this]
    have hbd := wix_b (T := T) (i := i) (e := e) ws 0
    exact j59 _ (by omega) (by omega)
theorem ct_sign {i : Nat} {c : Int} (hb : TB T n) (h : TC T n s) (hi : s 1 2 = (i : Int)) (hin : i ≤ n) (c0 : 0 ≤ c) (c1 : c ≤ 255) : xt_takeSign s c = some (if i < n ∧ T i = c then (1, uh s 1 2 ((skp (isB T) n (i + 1) : Nat) : Int)) else (0, s)) := by
  have hb1 := hb.1
  unfold xt_takeSign
  rw [hi, h.1, w32_eq (x := (i : Int)) (by omega) (by omega), w32_eq (x := (n : Int)) (by omega) (by omega)]
  by_cases hj : i < n
  · have tb := hb.2 i hj
    rw [if_pos (by omega), ixt i rfl (by omega) (by decide)]
    simp only [obs]
    rw [h.2, w32_eq (x := T i) (by omega) (by omega), w32_eq (x := c) (by omega) (by omega)]
    by_cases hc : T i = c
    · rw [if_pos hc, if_pos ⟨hj, hc⟩, show (i : Int) + 1 = ((i + 1 : Nat) : Int) by omega, ct_blanks hb (TC_u (q := 2) (v := ((i + 1 : Nat) : Int)) h (by decide)) (uh_rc _ _ _ _) (by omega), uh_uh]
      rfl
    · rw [if_neg hc, if_neg (fun q => hc q.2)]
  · rw [if_neg (by omega), if_neg (fun q => hj q.1)]
/-- at one place, no fault yet -/
def RP (T : Nat → Int) (n : Nat) (s M : Hp) : Prop := TC T n s ∧ TM T n M ∧ s 1 3 = 0 ∧ M 146 9 = 0 ∧ ∃ i : Nat, M 146 8 = (i : Int) ∧ i ≤ n ∧ s 1 2 = ((skp (isB T) n i : Nat) : Int)
/-- a fault, the same -/
def RF (T : Nat → Int) (n : Nat) (s M : Hp) : Prop := TC T n s ∧ TM T n M ∧ s 1 3 = M 146 9 ∧ 0 < s 1 3 ∧ s 1 3 < 10000 ∧ ∃ i : Nat, s 1 2 = (i : Int) ∧ i ≤ n
def FE (s s1 : Hp) : Prop := ∀ P, P ≠ 1 → s1 P = s P
def FMr (M M1 : Hp) : Prop := (∀ P, P ≠ 146 → M1 P = M P) ∧ ∀ q, q ≠ 8 → q ≠ 9 → q ≠ 10 → M1 146 q = M 146 q
theorem ct_fail {f c : Int} (h3 : s 1 3 = 0) : xt_fail s f c = some (uh s 1 3 (1 + 8 * f + c)) := by
  unfold xt_fail
  rw [h3, if_pos (by decide)]
  rfl
theorem rm_fails {f c : Int} (h9 : M 146 9 = 0) : xm_fails M c f = some (0, uh M 146 9 (1 + 8 * f + c)) := by
  unfold xm_fails
  rw [h9, if_pos (by decide)]
  rfl
theorem nm_both {lo hi : Int} (hb : TB T n) (h : RP T n s M) (l0 : -1000 ≤ lo) (l1 : lo ≤ 100000) (h0 : -1000 ≤ hi) (h1 : hi ≤ 100000) : ∃ v s1 b M1, xt_takeNumber s lo hi = some (v, s1) ∧ xm_numberHere M lo hi = some (b, M1) ∧ FE s s1 ∧ FMr M M1 ∧ ((b = 1 ∧ RP T n s1 M1 ∧ M1 146 10 = v ∧ lo ≤ v ∧ v ≤ hi) ∨ (b = 0 ∧ RF T n s1 M1)) := by
  have hb1 := hb.1
  obtain ⟨tc, tm, s3, m9, i0, hi0, hin0, hs2⟩ := h
  have hle := skp_le (p := isB T) hin0
  have hid := skp_id (p := isB T) (n := n) (i := i0)
  unfold xt_takeNumber xm_numberHere
  rw [rt_blanks hb tm hi0 hin0]
  simp only [obs]
  generalize skp (isB T) n i0 = i at hle hid hs2
  rw [ct_digits hb tc hs2 hle]
  simp only [obs]
  have tmi := TM_u (q := 8) (v := (i : Int)) tm (by decide)
  have e8 : uh M 146 8 (i : Int) 146 8 = (i : Int) := uh_rc _ _ _ _
  have m9i : uh M 146 8 (i : Int) 146 9 = 0 := by rw [uh_ro _ _ _ _ (by decide)]; exact m9
  have hge2 := skp_ge (p := isD T) (n := n) (i := i)
  have hle2 := skp_le (p := isD T) hle
  have hdig : ∀ j, j < skp (isD T) n i - i → 48 ≤ T (i + j) ∧ T (i + j) ≤ 57 := fun j hj => of_decide_eq_true (skp_in (p := isD T) (n := n) (i := i) (j := i + j) (by omega) (by omega)).2
  have rd := rt_digits (lo := lo) (hi := hi) hb tmi e8 hle
  rw [e8] at rd
  rw [e8, rt_isDigit hb tmi hle]
  simp only [obs]
  have hav := avD_5 _ hdig
  by_cases hd : i < n ∧ isD T i = true
  · have hgt : i < skp (isD T) n i := by
      rw [skp_go hd.1 hd.2]
      have := skp_ge (p := isD T) (n := n) (i := i + 1)
      omega
    rw [if_pos (c := i < n ∧ isD T i = true) hd, if_neg (c := w32 1 = 0) (by decide), rd]
    simp only [obs]
    generalize skp (isD T) n i = e at hge2 hle2 hgt hav
    generalize avD T i (e - i) = v at hav
    have tce := TC_u (q := 2) (v := (e : Int)) tc (by decide)
    have s3e : uh s 1 2 (e : Int) 1 3 = 0 := by rw [uh_ro _ _ _ _ (by decide)]; exact s3
    rw [uh_uh]
    have tme := TM_u (q := 10) (v := v) (TM_u (q := 8) (v := (e : Int)) tm (by decide)) (by decide)
    have m9e : uh (uh M 146 8 (e : Int)) 146 10 v 146 9 = 0 := by rw [uh_ro _ _ _ _ (by decide), uh_ro _ _ _ _ (by decide)]; exact m9
    have m8e : uh (uh M 146 8 (e : Int)) 146 10 v 146 8 = (e : Int) := by rw [uh_ro _ _ _ _ (by decide)]; exact uh_rc _ _ _ _
    have hle3 := skp_le (p := isB T) hle2
    unfold xt_takeNumber_j77
    rw [show uh s 1 2 (e : Int) 1 2 = (e : Int) from uh_rc _ _ _ _, hs2, w32_eq (x := (e : Int)) (by omega) (by omega), w32_eq (x := (i : Int)) (by omega) (by omega), w32_eq (x := (e : Int) - (i : Int)) (by omega) (by omega), show w32 5 = 5 by decide, w32_eq (x := v) (by omega) (by omega), w32_eq (x := lo) (by omega) (by omega), w32_eq (x := hi) (by omega) (by omega), if_neg (c := (e : Int) = (i : Int)) (by omega)]
    rw [m8e, w32_eq (x := (e : Int) - (i : Int)) (by omega) (by omega), rm_in (by omega) (by omega) (by omega) (by omega) (by omega) (by omega)]
    simp only [obs, tb0]
    have hbad : ∃ s1 M1, xt_takeNumber_j116 (uh s 1 2 (e : Int)) (i : Int) v = some (v, s1) ∧ xm_numberHere_j117 (uh (uh M 146 8 (e : Int)) 146 10 v) (i : Int) = some (0, M1) ∧ FE s s1 ∧ FMr M M1 ∧ RF T n s1 M1 := by
      unfold xt_takeNumber_j116 xm_numberHere_j117
      rw [ct_fail s3e, rm_fails m9e]
      simp only [obs]
      rw [if_pos (by decide), ct_blanks hb (TC_u (q := 3) (v := 1 + 8 * (i : Int) + 1) tce (by decide)) (i := e) (by rw [uh_ro _ _ _ _ (by decide)]; exact uh_rc _ _ _ _) hle2]
      refine ⟨_, _, rfl, rfl, fun P hP => ?_, ⟨fun P hP => ?_, fun q q1 q2 q3 => ?_⟩, TC_u (TC_u tce (by decide)) (by decide), TM_u tme (by decide), ?_, ?_, ?_, ⟨_, uh_rc _ _ _ _, hle3⟩⟩
      · rw [uh_row hP, uh_row hP, uh_row hP]
      · rw [uh_row hP, uh_row hP, uh_row hP]
      · rw [uh_ro _ _ _ _ q2, uh_ro _ _ _ _ q3, uh_ro _ _ _ _ q1]
      · rw [uh_ro _ _ _ _ (by decide), uh_rc, uh_rc]
      · rw [uh_ro _ _ _ _ (by decide), uh_rc]; omega
      · rw [uh_ro _ _ _ _ (by decide), uh_rc]; omega
    obtain ⟨s1, M1, b1, b2, b3, b4, b5⟩ := hbad
    by_cases c1 : 5 < (e : Int) - (i : Int)
    · rw [if_pos c1, if_pos c1, b1, b2]
      exact ⟨_, _, _, _, rfl, rfl, b3, b4, Or.inr ⟨rfl, b5⟩⟩
    · rw [if_neg c1, if_neg c1]
      by_cases c2 : v < lo
      · rw [if_pos c2, if_pos (c := ¬ (lo ≤ v ∧ v ≤ hi)) (by omega), b1, b2]
        exact ⟨_, _, _, _, rfl, rfl, b3, b4, Or.inr ⟨rfl, b5⟩⟩
      · rw [if_neg c2]
        by_cases c3 : hi < v
        · rw [if_pos c3, if_pos (c := ¬ (lo ≤ v ∧ v ≤ hi)) (by omega), b1, b2]
          exact ⟨_, _, _, _, rfl, rfl, b3, b4, Or.inr ⟨rfl, b5⟩⟩
        · rw [if_neg c3, if_neg (c := ¬ (lo ≤ v ∧ v ≤ hi)) (by omega), ct_blanks hb tce (uh_rc _ _ _ _) hle2, uh_uh]
          refine ⟨_, _, _, _, rfl, rfl, fun P hP => uh_row hP, ⟨fun P hP => ?_, fun q q1 q2 q3 => ?_⟩, Or.inl ⟨rfl, ⟨TC_u tc (by decide), tme, ?_, m9e, e, m8e, hle2, uh_rc _ _ _ _⟩, uh_rc _ _ _ _, by omega, by omega⟩⟩
          · rw [uh_row hP, uh_row hP]
          · rw [uh_ro _ _ _ _ q3, uh_ro _ _ _ _ q1]
          · rw [uh_ro _ _ _ _ (by decide)]; exact s3
  · rw [if_neg (c := i < n ∧ isD T i = true) hd, if_pos (c := w32 0 = 0) (by decide), rm_fails m9i]
    have hst : skp (isD T) n i = i := skp_st hd
    rw [hst, show i - i = 0 by omega]
    simp only [obs]
    unfold xt_takeNumber_j77
    have tce := TC_u (q := 2) (v := (i : Int)) tc (by decide)
    have s3e : uh s 1 2 (i : Int) 1 3 = 0 := by rw [uh_ro _ _ _ _ (by decide)]; exact s3
    rw [show uh s 1 2 (i : Int) 1 2 = (i : Int) from uh_rc _ _ _ _, hs2, if_pos rfl, ct_fail s3e]
    simp only [obs]
    rw [ct_blanks hb (TC_u (q := 3) (v := 1 + 8 * (i : Int) + 0) tce (by decide)) (i := i) (by rw [uh_ro _ _ _ _ (by decide)]; exact uh_rc _ _ _ _) hle, if_pos (Or.inl (by decide))]
    refine ⟨_, _, _, _, rfl, rfl, fun P hP => ?_, ⟨fun P hP => ?_, fun q q1 q2 q3 => ?_⟩, Or.inr ⟨rfl, TC_u (TC_u tce (by decide)) (by decide), TM_u tmi (by decide), ?_, ?_, ?_, ⟨_, uh_rc _ _ _ _, skp_le hle⟩⟩⟩
    · rw [uh_row hP, uh_row hP, uh_row hP]
    · rw [uh_row hP, uh_row hP]
    · rw [uh_ro _ _ _ _ q2, uh_ro _ _ _ _ q1]
    · rw [uh_ro _ _ _ _ (by decide), uh_rc, uh_rc]
    · rw [uh_ro _ _ _ _ (by decide), uh_rc]; omega
    · rw [uh_ro _ _ _ _ (by decide), uh_rc]; omega
end NB
def wCloth : List Nat := [99, 108, 111, 116, 104]
def wPerson : List Nat := [112, 101, 114, 115, 111, 110]
def wOwner : List Nat := [111, 119, 110, 101, 114]
def wCrease : List Nat := [99, 114, 101, 97, 115, 101]
def wWorth : List Nat := [119, 111, 114, 116, 104]
theorem spl_cl : spls 0 0 [wCloth, wPerson, wOwner, wCrease, wWorth] := by
  refine ⟨⟨⟨32, by decide +kernel, by decide, by decide⟩, by decide +kernel, by decide +kernel⟩, by decide, ⟨⟨32, by decide +kernel, by decide, by decide⟩, by decide +kernel, by decide +kernel⟩, by decide, ⟨⟨32, by decide +kernel, by decide, by decide⟩, by decide +kernel, by decide +kernel⟩, by decide, ⟨⟨32, by decide +kernel, by decide, by decide⟩, by decide +kernel, by decide +kernel⟩, by decide, ⟨⟨32, by decide +kernel, by decide, by decide⟩, by decide +kernel, by decide +kernel⟩, by decide, by decide +kernel, by decide⟩
