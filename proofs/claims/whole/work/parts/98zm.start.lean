/-! how both begin -/
def s00 : Hp := fun a i => if a = 15 then -1 else if a = 38 then -1 else if a = 40 then -1 else if a = 55 then 58 + 9 * (i : Int) else if i = 6 then (if a = 16 then -1 else 0) else if i = 3 then (if a = 54 then -1 else 0) else if i = 21 then (if a = 146 then -1 else 0) else 0
theorem z_X : ob_wX = (List.range 146).map (fun a => cel a s00 (shLX.getD a (0, 0, 0, []))) := by decide +kernel
theorem z_M : ob_wM = (List.range 29).map (fun a => cel (146 + a) s00 (shLM.getD a (0, 0, 0, []))) := by decide +kernel
theorem len_X : ob_wX.length = 146 := by rw [z_X, List.length_map, List.length_range]
theorem len_M : ob_wM.length = 29 := by rw [z_M, List.length_map, List.length_range]
theorem rh_X : RH shX s00 ob_w0 := fun a q h => by
  have h' : shLX[a]? = some q := h
  have ha : a < 146 := (List.getElem?_eq_some_iff.mp h').1
  have hg : shLX.getD a (0, 0, 0, []) = q := by rw [List.getD_eq_getElem?_getD, h']; rfl
  unfold ob_w0
  rw [List.getElem?_append_left (by rw [len_X]; exact ha), z_X, List.getElem?_map, List.getElem?_range ha]
  show some (cel a s00 (shLX.getD a (0, 0, 0, []))) = _
  rw [hg]
theorem rh_M : RH shM s00 ob_w0 := fun a q h => by
  have hr := shM_in h
  have h' : shLM[a - 146]? = some q := by
    unfold shM at h
    rw [if_pos hr.1] at h
    exact h
  have hg : shLM.getD (a - 146) (0, 0, 0, []) = q := by rw [List.getD_eq_getElem?_getD, h']; rfl
  unfold ob_w0
  rw [List.getElem?_append_right (by rw [len_X]; exact hr.1), len_X, z_M, List.getElem?_map, List.getElem?_range (by omega)]
  show some (cel (146 + (a - 146)) s00 (shLM.getD (a - 146) (0, 0, 0, []))) = _
  rw [hg, show 146 + (a - 146) = a by omega]
theorem flat_0 (K : Nat → Nat → Int) (h2 : K 0 2 = 0) (h3 : K 0 3 = 0) : WF K 0 0 := ⟨by decide, by decide, fun _ => ⟨rfl, h2⟩, fun h => absurd h (by decide), by rw [h2]; decide, by rw [h2]; decide, by rw [h3]; decide, by rw [h3]; decide, fun c hc => absurd hc (by omega), fun j hj => absurd hj (by omega), fun p hp => absurd hp (by omega)⟩
theorem flat_Cl {a : Nat} (K : Nat → Nat → Int) (h2 : K 0 2 = 0) (h3 : K 0 3 = 0) (e : ∀ q, q < 4 → s00 a q = 0) : Cl s00 a K 0 0 := ⟨e 0 (by decide), e 1 (by decide), (e 2 (by decide)).trans h2.symm, (e 3 (by decide)).trans h3.symm, fun c hc => absurd hc (by omega), fun j hj => absurd hj (by omega), fun p hp => absurd hp (by omega), fun p hp => by rw [h2] at hp; omega⟩
theorem rel_0 : REL (fun _ => 0) s00 s00 := by
  have e156 : ∀ q, s00 156 q = 0 := fun q => by
    show (if (156 : Nat) = 15 then (-1 : Int) else if (156 : Nat) = 38 then -1 else if (156 : Nat) = 40 then -1 else if (156 : Nat) = 55 then 58 + 9 * (q : Int) else if q = 6 then (if (156 : Nat) = 16 then -1 else 0) else if q = 3 then (if (156 : Nat) = 54 then -1 else 0) else if q = 21 then (if (156 : Nat) = 146 then -1 else 0) else 0) = 0
    rw [if_neg (by decide), if_neg (by decide), if_neg (by decide), if_neg (by decide), if_neg (c := (156 : Nat) = 16) (by decide), if_neg (c := (156 : Nat) = 54) (by decide), if_neg (c := (156 : Nat) = 146) (by decide)]
    split <;> (try split) <;> (try split) <;> rfl
  have t2 : tdK (s00 156) 0 2 = 0 := e156 0
  refine ⟨⟨by decide, by decide, by decide, fun i hi => ?_⟩, ⟨by decide, by decide, by decide, fun i hi => ?_⟩, ⟨fun _ _ => 0, 0, 0, ⟨flat_0 _ rfl rfl, flat_Cl _ rfl rfl (by decide), ⟨e156 0, e156 1, e156 10, e156 11, fun c hc => absurd hc (by omega), fun j hj => absurd hj (by omega), fun p hp => absurd hp (by omega)⟩, flat_0 _ t2 rfl, flat_Cl _ t2 rfl (by decide), fun j hj => absurd hj (by omega), ⟨by decide, by decide, by decide, by decide, fun i hi => ?_⟩, by decide, by decide, by decide, by decide, by decide, by decide⟩, 0, 0, by decide, by decide, by decide, by decide, by decide, fun t ht => absurd ht (by omega), fun i j hi hj hij h0 => ?_⟩, ⟨fun k hk => Or.inl ⟨?_, ?_⟩, fun i j hi hj hij h0 => ?_⟩, ⟨0, by decide, by decide, fun h => absurd h (by decide)⟩, fun i hi => ?_⟩
  · have e : s00 1 1 = 0 := by decide
    rw [e] at hi; omega
  · have e : s00 0 4 = 0 := by decide
    rw [e] at hi; omega
  · rw [e156 129] at hi; omega
  · exact absurd (show s00 40 i < 0 from by show (-1 : Int) < 0; decide) h0
  · revert k; decide
  · show (-1 : Int) < 0; decide
  · exact absurd (show s00 38 i < 0 from by show (-1 : Int) < 0; decide) h0
  · revert i; decide
theorem inv_0 : Inv 0 ob_w0 := by
  refine ⟨shX, fun _ => 0, s00, s00, ⟨rh_X, rh_M, fun _ _ h => h, fun a h1 h2 => List.getElem?_eq_none (by show 146 ≤ a; exact h1), ?_, ?_⟩, ⟨fun i hi => okR_n (show s00 15 i < 0 from by show (-1 : Int) < 0; decide), fun i hi h0 => absurd (show s00 40 i < 0 from by show (-1 : Int) < 0; decide) h0, fun i hi h0 => absurd (show s00 38 i < 0 from by show (-1 : Int) < 0; decide) h0⟩, rel_0⟩
  · unfold ob_w0
    rw [List.length_append, len_X, len_M]
    decide
  · have : pm_sz ob_w0 ≤ 20000 := by decide +kernel
    omega
theorem wh_ob : ∃ Inv : Nat → pm_H → Prop, Inv 0 ob_w0 ∧ (∀ n w, Inv n w → ob_rm w) ∧ (∀ n w, Inv n w → Inv (n + 1) w) ∧ ∀ n w, Inv n w → 6 * n + 6 ≤ 3072 → ∀ j, j < 31 → ∀ a1 a2 a3 a4 a5 : Int32, ob_ok j [a1, a2, a3, a4, a5] w (Inv (n + 1)) := by
  refine ⟨Inv, inv_0, fun n w h => Inv_rm h, fun n w h => Inv_up h, fun n w h hn j hj a1 a2 a3 a4 a5 => ?_⟩
  have hn2 : n < 512 := by omega
  match j, hj with
  | 0, _ => exact call_0 hn2 h a1 a2 a3 a4 a5
  | 1, _ => exact call_1 hn2 h a1 a2 a3 a4 a5
  | 2, _ => exact call_2 hn2 h a1 a2 a3 a4 a5
  | 3, _ => exact call_3 hn2 h a1 a2 a3 a4 a5
  | 4, _ => exact call_4 hn2 h a1 a2 a3 a4 a5
  | 5, _ => exact call_5 hn2 h a1 a2 a3 a4 a5
  | 6, _ => exact call_6 hn2 h a1 a2 a3 a4 a5
  | 7, _ => exact call_7 hn2 h a1 a2 a3 a4 a5
  | 8, _ => exact call_8 hn2 h a1 a2 a3 a4 a5
  | 9, _ => exact call_9 hn2 h a1 a2 a3 a4 a5
  | 10, _ => exact call_10 hn2 h a1 a2 a3 a4 a5
  | 11, _ => exact call_11 hn2 h a1 a2 a3 a4 a5
  | 12, _ => exact call_12 hn2 h a1 a2 a3 a4 a5
  | 13, _ => exact call_13 hn2 h a1 a2 a3 a4 a5
  | 14, _ => exact call_14 hn2 h a1 a2 a3 a4 a5
  | 15, _ => exact call_15 hn2 h a1 a2 a3 a4 a5
  | 16, _ => exact call_16 hn2 h a1 a2 a3 a4 a5
  | 17, _ => exact call_17 hn2 h a1 a2 a3 a4 a5
  | 18, _ => exact call_18 hn2 h a1 a2 a3 a4 a5
  | 19, _ => exact call_19 hn2 h a1 a2 a3 a4 a5
  | 20, _ => exact call_20 hn2 h a1 a2 a3 a4 a5
  | 21, _ => exact call_21 hn2 h a1 a2 a3 a4 a5
  | 22, _ => exact call_22 hn2 h a1 a2 a3 a4 a5
  | 23, _ => exact call_23 hn2 h a1 a2 a3 a4 a5
  | 24, _ => exact call_24 hn2 h a1 a2 a3 a4 a5
  | 25, _ => exact call_25 hn2 h a1 a2 a3 a4 a5
  | 26, _ => exact call_26 hn2 h a1 a2 a3 a4 a5
  | 27, _ => exact call_27 hn2 h a1 a2 a3 a4 a5
  | 28, _ => exact call_28 hn2 h a1 a2 a3 a4 a5
  | 29, _ => exact call_29 hn2 h a1 a2 a3 a4 a5
  | 30, _ => exact call_30 hn2 h a1 a2 a3 a4 a5
  | j + 31, hj => omega
