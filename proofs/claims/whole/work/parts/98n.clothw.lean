/-! the words of a cloth's text, both sides -/
section CW
variable {T : Nat → Int} {n : Nat} {s M : Hp}
abbrev cW : List (List Nat) := [wCloth, wPerson, wOwner, wCrease, wWorth]
theorem wEq_two {i e : Nat} {w1 w2 : List Nat} (h1 : wEq T i e w1) (h2 : wEq T i e w2) : w1.length = w2.length ∧ ∀ j, j < w1.length → w1.getD j 0 = w2.getD j 0 := by
  have e1 := h1.1
  have e2 := h2.1
  refine ⟨by omega, fun j hj => ?_⟩
  have a1 := h1.2 j hj
  have a2 := h2.2 j (by omega)
  omega
theorem wd5 {i e : Nat} : (wEq T i e wCloth ↔ wix T i e 0 cW = 0) ∧ (wEq T i e wPerson ↔ wix T i e 0 cW = 1) ∧ (wEq T i e wOwner ↔ wix T i e 0 cW = 2) ∧ (wEq T i e wCrease ↔ wix T i e 0 cW = 3) ∧ (wEq T i e wWorth ↔ wix T i e 0 cW = 4) := by
  have n01 : wEq T i e wCloth → ¬ wEq T i e wPerson := fun a b => absurd (wEq_two a b) (by decide)
  have n02 : wEq T i e wCloth → ¬ wEq T i e wOwner := fun a b => absurd (wEq_two a b) (by decide)
  have n03 : wEq T i e wCloth → ¬ wEq T i e wCrease := fun a b => absurd (wEq_two a b) (by decide)
  have n04 : wEq T i e wCloth → ¬ wEq T i e wWorth := fun a b => absurd (wEq_two a b) (by decide)
  have n12 : wEq T i e wPerson → ¬ wEq T i e wOwner := fun a b => absurd (wEq_two a b) (by decide)
  have n13 : wEq T i e wPerson → ¬ wEq T i e wCrease := fun a b => absurd (wEq_two a b) (by decide)
  have n14 : wEq T i e wPerson → ¬ wEq T i e wWorth := fun a b => absurd (wEq_two a b) (by decide)
  have n23 : wEq T i e wOwner → ¬ wEq T i e wCrease := fun a b => absurd (wEq_two a b) (by decide)
  have n24 : wEq T i e wOwner → ¬ wEq T i e wWorth := fun a b => absurd (wEq_two a b) (by decide)
  have n34 : wEq T i e wCrease → ¬ wEq T i e wWorth := fun a b => absurd (wEq_two a b) (by decide)
  have ew : wix T i e 0 cW = if wEq T i e wCloth then 0 else if wEq T i e wPerson then 1 else if wEq T i e wOwner then 2 else if wEq T i e wCrease then 3 else if wEq T i e wWorth then 4 else -1 := rfl
  rw [ew]
  by_cases hA : wEq T i e wCloth
  · rw [if_pos hA]
    exact ⟨⟨fun _ => rfl, fun _ => hA⟩, ⟨fun h => absurd h (n01 hA), fun h => by omega⟩, ⟨fun h => absurd h (n02 hA), fun h => by omega⟩, ⟨fun h => absurd h (n03 hA), fun h => by omega⟩, ⟨fun h => absurd h (n04 hA), fun h => by omega⟩⟩
  · rw [if_neg hA]
    by_cases hB : wEq T i e wPerson
    · rw [if_pos hB]
      exact ⟨⟨fun h => absurd h hA, fun h => by omega⟩, ⟨fun _ => rfl, fun _ => hB⟩, ⟨fun h => absurd h (n12 hB), fun h => by omega⟩, ⟨fun h => absurd h (n13 hB), fun h => by omega⟩, ⟨fun h => absurd h (n14 hB), fun h => by omega⟩⟩
    · rw [if_neg hB]
      by_cases hC : wEq T i e wOwner
      · rw [if_pos hC]
        exact ⟨⟨fun h => absurd h hA, fun h => by omega⟩, ⟨fun h => absurd h hB, fun h => by omega⟩, ⟨fun _ => rfl, fun _ => hC⟩, ⟨fun h => absurd h (n23 hC), fun h => by omega⟩, ⟨fun h => absurd h (n24 hC), fun h => by omega⟩⟩
      · rw [if_neg hC]
        by_cases hD : wEq T i e wCrease
        · rw [if_pos hD]
          exact ⟨⟨fun h => absurd h hA, fun h => by omega⟩, ⟨fun h => absurd h hB, fun h => by omega⟩, ⟨fun h => absurd h hC, fun h => by omega⟩, ⟨fun _ => rfl, fun _ => hD⟩, ⟨fun h => absurd h (n34 hD), fun h => by omega⟩⟩
        · rw [if_neg hD]
          by_cases hE : wEq T i e wWorth
          · rw [if_pos hE]
            exact ⟨⟨fun h => absurd h hA, fun h => by omega⟩, ⟨fun h => absurd h hB, fun h => by omega⟩, ⟨fun h => absurd h hC, fun h => by omega⟩, ⟨fun h => absurd h hD, fun h => by omega⟩, ⟨fun _ => rfl, fun _ => hE⟩⟩
          · rw [if_neg hE]
            exact ⟨⟨fun h => absurd h hA, fun h => by omega⟩, ⟨fun h => absurd h hB, fun h => by omega⟩, ⟨fun h => absurd h hC, fun h => by omega⟩, ⟨fun h => absurd h hD, fun h => by omega⟩, ⟨fun h => absurd h hE, fun h => by omega⟩⟩
/-- the reference asks for one word where no blank stands -/
theorem rt_wordAt {i : Nat} {w : List Nat} {code : Int} (hb : TB T n) (h : TM T n M) (e8 : M 146 8 = (i : Int)) (hin : i ≤ n) (hid : skp (isB T) n i = i) (hw0 : 0 < w.length) (hw7 : w.length < 8) (hwl : ∀ j, j < w.length → 0 < w.getD j 0 ∧ w.getD j 0 < 256) (hc : code = ((pkf (fun j => w.getD j 0) w.length : Nat) : Int)) : xm_isWord M code = some (tb (wEq T i (skp (isL T) n i) w), M) := by
  rw [rt_word hb h e8 hin hw0 hw7 hwl hc, hid, ← e8, uh_id]
theorem rw_cloth {i : Nat} (hb : TB T n) (h : TM T n M) (e8 : M 146 8 = (i : Int)) (hin : i ≤ n) (hid : skp (isB T) n i = i) : xm_isWord M 427021005928 = some (tb (wix T i (skp (isL T) n i) 0 cW = 0), M) := by
  rw [rt_wordAt (w := wCloth) hb h e8 hin hid (by decide) (by decide) (by decide) (by decide +kernel), tb_cg wd5.1]
theorem rw_person {i : Nat} (hb : TB T n) (h : TM T n M) (e8 : M 146 8 = (i : Int)) (hin : i ≤ n) (hid : skp (isB T) n i = i) : xm_isWord M 123581014175598 = some (tb (wix T i (skp (isL T) n i) 0 cW = 1), M) := by
  rw [rt_wordAt (w := wPerson) hb h e8 hin hid (by decide) (by decide) (by decide) (by decide +kernel), tb_cg wd5.2.1]
theorem rw_owner {i : Nat} (hb : TB T n) (h : TM T n M) (e8 : M 146 8 = (i : Int)) (hin : i ≤ n) (hid : skp (isB T) n i = i) : xm_isWord M 478745093490 = some (tb (wix T i (skp (isL T) n i) 0 cW = 2), M) := by
  rw [rt_wordAt (w := wOwner) hb h e8 hin hid (by decide) (by decide) (by decide) (by decide +kernel), tb_cg wd5.2.2.1]
theorem rw_crease {i : Nat} (hb : TB T n) (h : TM T n M) (e8 : M 146 8 = (i : Int)) (hin : i ≤ n) (hid : skp (isB T) n i = i) : xm_isWord M 109342978306917 = some (tb (wix T i (skp (isL T) n i) 0 cW = 3), M) := by
  rw [rt_wordAt (w := wCrease) hb h e8 hin hid (by decide) (by decide) (by decide) (by decide +kernel), tb_cg wd5.2.2.2.1]
theorem rw_worth {i : Nat} (hb : TB T n) (h : TM T n M) (e8 : M 146 8 = (i : Int)) (hin : i ≤ n) (hid : skp (isB T) n i = i) : xm_isWord M 512970880104 = some (tb (wix T i (skp (isL T) n i) 0 cW = 4), M) := by
  rw [rt_wordAt (w := wWorth) hb h e8 hin hid (by decide) (by decide) (by decide) (by decide +kernel), tb_cg wd5.2.2.2.2]
theorem rt_clothWord {i : Nat} (hb : TB T n) (h : TM T n M) (e8 : M 146 8 = (i : Int)) (hin : i ≤ n) (hid : skp (isB T) n i = i) : xm_isClothWord M = some (tb (¬ wix T i (skp (isL T) n i) 0 cW = -1), M) := by
  have hbd := wix_b (T := T) (i := i) (e := skp (isL T) n i) cW 0
  rw [show ((0 + cW.length : Nat) : Int) = 5 from rfl] at hbd
  unfold xm_isClothWord
  rw [rw_cloth hb h e8 hin hid]
  simp only [obs, tb0]
  rw [rw_person hb h e8 hin hid]
  simp only [obs, tb0]
  rw [rw_owner hb h e8 hin hid]
  simp only [obs, tb0]
  rw [rw_crease hb h e8 hin hid]
  simp only [obs, tb0]
  rw [rw_worth hb h e8 hin hid]
  simp only [obs, tb0]
  generalize wix T i (skp (isL T) n i) 0 cW = k at hbd
  by_cases k0 : k = 0
  · rw [if_neg (fun q => q k0), tb_t (by omega)]
  · rw [if_pos k0]
    by_cases k1 : k = 1
    · rw [if_neg (fun q => q k1), tb_t (by omega)]
    · rw [if_pos k1]
      by_cases k2 : k = 2
      · rw [if_neg (fun q => q k2), tb_t (by omega)]
      · rw [if_pos k2]
        by_cases k3 : k = 3
        · rw [if_neg (fun q => q k3), tb_t (by omega)]
        · rw [if_pos k3]
          by_cases k4 : k = 4
          · rw [if_neg (fun q => q k4), tb_t (by omega)]
          · rw [if_pos k4, tb_f (by omega)]
theorem rt_pass {i : Nat} (hb : TB T n) (h : TM T n M) (e8 : M 146 8 = (i : Int)) (hin : i ≤ n) : xm_passWord M = some (uh M 146 8 ((skp (isL T) n i : Nat) : Int)) := by
  unfold xm_passWord
  have key : lp (fun (q : Hp) => xm_passWord_b0 q) M = some (uh M 146 8 ((skp (isL T) n i : Nat) : Int)) := by
    have := lp_skp (B := fun (q : Hp) => xm_passWord_b0 q) (isL T) n (fun j => uh M 146 8 (j : Int)) (fun j => uh M 146 8 (j : Int)) (i0 := i) (fun j h1 h2 => by
      have tc := TM_u (q := 8) (v := (j : Int)) h (by decide)
      have e2 : uh M 146 8 (j : Int) 146 8 = (j : Int) := uh_rc _ _ _ _
      show (_ → xm_passWord_b0 (uh M 146 8 (j : Int)) = _) ∧ (_ → xm_passWord_b0 (uh M 146 8 (j : Int)) = _)
      unfold xm_passWord_b0
      rw [e2, rt_isLetter hb tc h2]
      simp only [obs]
      refine ⟨fun hp => ?_, fun hp => ?_⟩
      · rw [if_pos (c := j < n ∧ isL T j = true) hp, if_neg (by decide), uh_uh]; rfl
      · rw [if_neg (c := j < n ∧ isL T j = true) hp, if_pos (by decide)]) hin
    rw [show uh M 146 8 (i : Int) = M by rw [← e8]; exact uh_id M 146 8] at this
    exact this
  rw [key]
  rfl
end CW
