/-! terms and sums, both sides -/
def oI : Option Nat → Int
  | none => -1
  | some op => (op : Int)
noncomputable def pO (f : Option Nat) (M : Hp) : Option Hp := match f with
  | none => some M
  | some op => xm_puts M ((rop op : Nat) : Int) 0
/-- the rest of a term in the reference: a value, its sign, and on -/
noncomputable def Rt (f : Option Nat) (M : Hp) : Option (Int × Hp) := (xm_value M).bind fun o1 => if w32 o1.1 = 0 then some (0, o1.2) else (pO f o1.2).bind fun m => (lp (fun (q : Hp) => xm_term_b9 q) m).bind fun q6 => q6.elim (fun q10 => some (1, q10)) (fun r => some r)
noncomputable def Rs (f : Option Nat) (M : Hp) : Option (Int × Hp) := (xm_term M).bind fun o1 => if w32 o1.1 = 0 then some (0, o1.2) else (pO f o1.2).bind fun m => (lp (fun (q : Hp) => xm_sum_b9 q) m).bind fun q6 => q6.elim (fun q10 => some (1, q10)) (fun r => some r)
theorem Rt_none (M : Hp) : xm_term M = Rt none M := rfl
theorem Rs_none (M : Hp) : xm_sum M = Rs none M := rfl
theorem Rt_go {M : Hp} {p op : Nat} (h : xm_term_b9 M = xm_term_b9_j74 (uh M 146 8 (p : Int)) ((rop op : Nat) : Int)) : ((lp (fun (q : Hp) => xm_term_b9 q) M).bind fun q6 => q6.elim (fun q10 => some (1, q10)) (fun r => some r)) = Rt (some op) (uh M 146 8 ((p + 1 : Nat) : Int)) := by
  rw [lp_un]
  show ((xm_term_b9 M).bind _).bind _ = _
  rw [h]
  unfold xm_term_b9_j74 Rt
  simp only [obs]
  rw [uh_rc, uh_uh, show (p : Int) + 1 = ((p + 1 : Nat) : Int) by omega]
  cases xm_value (uh M 146 8 ((p + 1 : Nat) : Int)) with
  | none => rfl
  | some o =>
    simp only [obs]
    by_cases hq : w32 o.1 = 0
    · rw [if_pos hq, if_pos hq]; rfl
    · rw [if_neg hq, if_neg hq]
      show ((((xm_puts o.2 ((rop op : Nat) : Int) 0).bind _).bind _).bind _) = (xm_puts o.2 ((rop op : Nat) : Int) 0).bind _
      cases xm_puts o.2 ((rop op : Nat) : Int) 0 with
      | none => rfl
      | some m => rfl
theorem Rs_go {M : Hp} {p op : Nat} (h : xm_sum_b9 M = xm_sum_b9_j46 (uh M 146 8 (p : Int)) ((rop op : Nat) : Int)) : ((lp (fun (q : Hp) => xm_sum_b9 q) M).bind fun q6 => q6.elim (fun q10 => some (1, q10)) (fun r => some r)) = Rs (some op) (uh M 146 8 ((p + 1 : Nat) : Int)) := by
  rw [lp_un]
  show ((xm_sum_b9 M).bind _).bind _ = _
  rw [h]
  unfold xm_sum_b9_j46 Rs
  simp only [obs]
  rw [uh_rc, uh_uh, show (p : Int) + 1 = ((p + 1 : Nat) : Int) by omega]
  cases xm_term (uh M 146 8 ((p + 1 : Nat) : Int)) with
  | none => rfl
  | some o =>
    simp only [obs]
    by_cases hq : w32 o.1 = 0
    · rw [if_pos hq, if_pos hq]; rfl
    · rw [if_neg hq, if_neg hq]
      show ((((xm_puts o.2 ((rop op : Nat) : Int) 0).bind _).bind _).bind _) = (xm_puts o.2 ((rop op : Nat) : Int) 0).bind _
      cases xm_puts o.2 ((rop op : Nat) : Int) 0 with
      | none => rfl
      | some m => rfl
theorem tyT_app {r1 : List Tok} : ∀ {r : List Tok} {b b1 : List Bool}, tyT r b = some b1 → tyT (r ++ r1) b = tyT r1 b1
  | [], b, b1, h => by
    have : b = b1 := Option.some.inj h
    rw [this]; rfl
  | t :: r, b, b1, h => by
    have h' : (ty1 t b).bind (tyT r) = some b1 := h
    show (ty1 t b).bind (tyT (r ++ r1)) = _
    cases hx : ty1 t b with
    | none => rw [hx] at h'; cases h'
    | some b2 =>
      rw [hx] at h'
      exact tyT_app h'
theorem ty_v {op v : Nat} {b : List Bool} (h : vTok op v) (hb : b.length < 31) : ty1 (op, v) b = some (false :: b) := by
  unfold ty1
  rcases h with ⟨rfl, hv⟩ | ⟨rfl, hv⟩
  · rw [if_pos rfl, if_pos ⟨hb, hv⟩]
  · rw [if_neg (by show ¬ (1 = 0); decide), if_pos rfl, if_pos ⟨hb, hv⟩]
theorem ty_a {op : Nat} {b : List Bool} (h : 5 ≤ op ∧ op ≤ 9) : ty1 (op, 0) (false :: false :: b) = some (false :: b) := by
  unfold ty1
  rw [if_neg (by show ¬ (op = 0); omega), if_neg (by show ¬ (op = 1); omega)]
  show (if op = 2 then _ else if 5 ≤ op ∧ op ≤ 9 then (if false = false ∧ false = false then some (false :: b) else none) else _) = _
  rw [if_neg (by omega), if_pos h, if_pos ⟨rfl, rfl⟩]
/-- how rows of signs of a sum lie: with a number below or none -/
def tyS (f : Option Nat) (z : Nat) (te : List Tok) : Prop := ∀ b : List Bool, b.length + z < 31 → tyT te (match f with | none => b | some _ => false :: b) = some (false :: b)
def ln1 (f : Option Nat) : Nat := match f with | none => 1 | some _ => 0
section SW
variable {T : Nat → Int} {n t : Nat}
/-- a value and the sign ahead of it, both sides -/
theorem tm_one {k : Nat} {E F : List Tok} {s M : Hp} {f : Option Nat} (hb : TB T n) (h : KR T n t k E F s M) (hf : f = none ∨ ∃ op, f = some op ∧ 5 ≤ op ∧ op ≤ 9) : ∃ s1, xr_readValue s = some s1 ∧ HE s s1 ∧ ((∃ M1, xm_value M = some (0, M1) ∧ HU t M M1 ∧ KF T n s1 M1) ∨ (∃ s2 M1 M2 te, (if oI f = -1 then some s1 else xr_addStep s1 (oI f)) = some s2 ∧ xm_value M = some (1, M1) ∧ pO f M1 = some M2 ∧ HE s s2 ∧ HU t M M2 ∧ k < 60 ∧ KR T n t (k + 1) (E ++ te) (F ++ te) s2 M2 ∧ te.length + ln1 f ≤ 2 ∧ tyS f 1 te)) := by
  obtain ⟨s1, b, M1, e1, e2, he, hu, hr⟩ := vl_both hb h
  refine ⟨s1, e1, he, ?_⟩
  rcases hr with ⟨rfl, hk, op, v, hv, kr⟩ | ⟨rfl, kf⟩
  · refine Or.inr ?_
    rcases hf with rfl | ⟨o, rfl, ho⟩
    · refine ⟨s1, M1, M1, [(op, v)], if_pos rfl, e2, rfl, he, hu, hk, kr, by show 1 + 1 ≤ 2; decide, fun b hb2 => ?_⟩
      show (ty1 (op, v) b).bind (tyT []) = _
      rw [ty_v hv (by omega)]; rfl
    · have hp : 3 * (E ++ [(op, v)]).length + 10 ≤ 16 * (k + 1) + 100 := by
        have := h.2.2.2.2.2.1
        rw [List.length_append]
        show 3 * (E.length + 1) + 10 ≤ _
        omega
      obtain ⟨s2, M2, a1, a2, a3, a4, a5⟩ := KR_op (op := o) (c := (o : Int)) (d := ((rop o : Nat) : Int)) kr (by omega) rfl rfl
      refine ⟨s2, M1, M2, [(op, v), (o, 0)], ?_, e2, a2, HE_tr he a4, HU_tr hu a5, hk, ?_, by show 2 + 0 ≤ 2; decide, fun b hb2 => ?_⟩
      · rw [if_neg (by show ¬ ((o : Int) = -1); omega)]; exact a1
      · rw [List.append_assoc, List.append_assoc] at a3
        exact a3
      · show (ty1 (op, v) (false :: b)).bind (tyT [(o, 0)]) = _
        rw [ty_v hv (by rw [List.length_cons]; omega)]
        show (ty1 (o, 0) (false :: false :: b)).bind (tyT []) = _
        rw [ty_a ho]; rfl
  · exact Or.inl ⟨M1, e2, hu, kf⟩
theorem tm_fault {k : Nat} {E F : List Tok} {s M s1 M1 : Hp} {f : Option Nat} {x2 : Int} {x4 : Nat} (hb : TB T n) (kr : KR T n t k E F s M) (hf : f = none ∨ ∃ op, f = some op ∧ 5 ≤ op ∧ op ≤ 9) (hx : x4 ≤ k) (e1 : xr_readValue s = some s1) (he : HE s s1) (e2 : xm_value M = some (0, M1)) (hu : HU t M M1) (kf : KF T n s1 M1) : ∃ s1 M1, lpc (x2, oI f, (x4 : Int), s) = some s1 ∧ Rt f M = some (0, M1) ∧ HE s s1 ∧ HU t M M1 ∧ KF T n s1 M1 := by
  have hk := kr.2.2.2.2.1
  have hm : Rt f M = some (0, M1) := by
    unfold Rt
    rw [e2]
    simp only [obs]
    rw [if_pos (by decide)]
  rw [lpc_un]
  unfold xr_readSum_b7
  rw [w32_eq (x := (x4 : Int)) (by omega) (by omega), show w32 60 = 60 by decide, if_neg (by omega), cf_ok kr.1.2.2.1]
  simp only [obs]
  rw [if_pos (by decide), e1]
  simp only [obs]
  by_cases hq : w32 (oI f) = w32 (-1)
  · rw [if_pos hq]
    obtain ⟨s2, a1, a2⟩ := CX_j36 (x2 := x2) (x4 := (x4 : Int)) hb (KF_c kf)
    exact ⟨s2, M1, a1, hm, HE_tr he a2.2.2, hu, KF_x kf a2⟩
  · rw [if_neg hq]
    obtain ⟨s3, b1, b2⟩ := CX_add (c := oI f) (KF_c kf)
    rw [b1]
    simp only [obs]
    obtain ⟨s2, a1, a2⟩ := CX_j36 (x2 := x2) (x4 := (x4 : Int)) hb b2.1
    exact ⟨s2, M1, a1, hm, HE_tr he (HE_tr b2.2.2 a2.2.2), hu, KF_x kf (CX_tr b2 a2)⟩
theorem tyS_app {f : Option Nat} {op z : Nat} {te tf : List Tok} (h : tyS f z te) (g : tyS (some op) z tf) : tyS f z (te ++ tf) := fun b hb => by
  rw [tyT_app (h b hb)]
  exact g b hb
theorem tm_both (hb : TB T n) : ∀ (g k : Nat) (E F : List Tok) (s M : Hp) (f : Option Nat) (x2 : Int) (x4 : Nat), g = 60 - k → KR T n t k E F s M → (f = none ∨ ∃ op, f = some op ∧ 5 ≤ op ∧ op ≤ 9) → x4 ≤ k → (∃ s1 M1, lpc (x2, oI f, (x4 : Int), s) = some s1 ∧ Rt f M = some (0, M1) ∧ HE s s1 ∧ HU t M M1 ∧ KF T n s1 M1) ∨ (∃ s1 M1 te k1 x5, lpc (x2, oI f, (x4 : Int), s) = ((if w32 x2 = w32 (-1) then xr_readSum_b7_j59 s1 (-1) (x5 : Nat) else (xr_addStep s1 x2).bind fun o7 => xr_readSum_b7_j59 o7 (-1) (x5 : Nat)).bind (lpcr lpc)) ∧ Rt f M = some (1, M1) ∧ HE s s1 ∧ HU t M M1 ∧ KR T n t k1 (E ++ te) (F ++ te) s1 M1 ∧ k < k1 ∧ x5 < k1 ∧ te.length + ln1 f ≤ 2 * (k1 - k) ∧ tyS f 1 te) := by
  intro g
  induction g with
  | zero =>
    intro k E F s M f x2 x4 hg kr hf hx
    have hk := kr.2.2.2.2.1
    obtain ⟨s1, e1, he, hr⟩ := tm_one hb kr hf
    rcases hr with ⟨M1, e2, hu, kf⟩ | ⟨s2, M1, M2, te, e2, e3, e4, e5, e6, hk6, -⟩
    · exact Or.inl (tm_fault hb kr hf hx e1 he e2 hu kf)
    · omega
  | succ g ih =>
    intro k E F s M f x2 x4 hg kr hf hx
    have hk := kr.2.2.2.2.1
    obtain ⟨s1, e1, he, hr⟩ := tm_one hb kr hf
    rcases hr with ⟨M1, e2, hu, kf⟩ | ⟨s2, M1, M2, te, e2, e3, e4, he2, hu2, hk6, kr2, hl, ht⟩
    · exact Or.inl (tm_fault hb kr hf hx e1 he e2 hu kf)
    · have cls : lpc (x2, oI f, (x4 : Int), s) = (xr_readSum_b7_j36 s2 x2 (x4 : Int)).bind (lpcr lpc) := by
        rw [lpc_un]
        unfold xr_readSum_b7
        rw [w32_eq (x := (x4 : Int)) (by omega) (by omega), show w32 60 = 60 by decide, if_neg (by omega), cf_ok kr.1.2.2.1]
        simp only [obs]
        rw [if_pos (by decide), e1]
        simp only [obs]
        rcases hf with rfl | ⟨op, rfl, ho⟩
        · have : s1 = s2 := by
            rw [if_pos (show oI none = -1 from rfl)] at e2
            exact Option.some.inj e2
          rw [if_pos (show w32 (oI none) = w32 (-1) from rfl), this]
        · have ho2 : oI (some op) = (op : Int) := rfl
          rw [ho2, if_neg (by omega)] at e2
          rw [ho2, if_neg (by rw [w32_eq (x := (op : Int)) (by omega) (by omega), show w32 (-1) = -1 by decide]; omega), e2]
          rfl
      have rf : Rt f M = (lp (fun (q : Hp) => xm_term_b9 q) M2).bind fun q6 => q6.elim (fun q10 => some (1, q10)) (fun r => some r) := by
        unfold Rt
        rw [e3]
        simp only [obs]
        rw [if_neg (by decide), e4]
        rfl
      rw [cls, rf]
      obtain ⟨p, p1, p2, hp⟩ := fs_both hb kr2.1
      rcases hp with ⟨op, hop, hpn, c1, c2⟩ | ⟨c1, c2⟩
      · rw [Rt_go c2]
        have cj : (xr_readSum_b7_j36 s2 x2 (x4 : Int)).bind (lpcr lpc) = lpc (x2, oI (some op), ((x4 + 1 : Nat) : Int), uh s2 1 2 ((skp (isB T) n (p + 1) : Nat) : Int)) := by
          unfold xr_readSum_b7_j36
          rw [c1]
          simp only [obs]
          rw [if_neg (by rw [w32_eq (x := (op : Int)) (by omega) (by omega), show w32 (-1) = -1 by decide]; omega)]
          rfl
        rw [cj]
        have kr3 := KR_go (p := skp (isB T) n (p + 1)) (e := p + 1) kr2 hpn rfl
        rcases ih (k + 1) _ _ _ _ (some op) x2 (x4 + 1) (by omega) kr3 (Or.inr ⟨op, rfl, by omega⟩) (by omega) with ⟨s3, M3, d1, d2, d3, d4, d5⟩ | ⟨s3, M3, tf, k1, x5, d1, d2, d3, d4, d5, d6, d7, d8, d9⟩
        · exact Or.inl ⟨s3, M3, d1, d2, HE_tr (HE_tr he2 HE_1) d3, HU_tr (HU_tr hu2 (HU_1 (by omega))) d4, d5⟩
        · refine Or.inr ⟨s3, M3, te ++ tf, k1, x5, d1, d2, HE_tr (HE_tr he2 HE_1) d3, HU_tr (HU_tr hu2 (HU_1 (by omega))) d4, ?_, by omega, d7, ?_, tyS_app ht d9⟩
          · rw [List.append_assoc, List.append_assoc] at d5; exact d5
          · rw [List.length_append]
            have : ln1 (some op) = 0 := rfl
            omega
      · rw [lp_en (B := fun (q : Hp) => xm_term_b9 q) (s := M2) c2]
        refine Or.inr ⟨s2, uh M2 146 8 (p : Int), te, k + 1, x4, ?_, rfl, he2, HU_tr hu2 (HU_1 (by omega)), KR_see kr2 p2, by omega, by omega, by omega, ht⟩
        unfold xr_readSum_b7_j36
        rw [c1]
        simp only [obs]
        rw [if_pos trivial]
end SW
