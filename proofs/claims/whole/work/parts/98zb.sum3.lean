/-! whole sums, both sides -/
section SX
variable {T : Nat → Int} {n t : Nat}
theorem tyS_op {f : Option Nat} {op z : Nat} {te : List Tok} (hf : f = some op) (ho : 5 ≤ op ∧ op ≤ 9) (h : tyS none 1 te) : ∀ b : List Bool, b.length + 2 < 31 → tyT (te ++ [(op, 0)]) (false :: b) = some (false :: b) := fun b hb => by
  have h1 : tyT te (false :: b) = some (false :: false :: b) := h (false :: b) (by rw [List.length_cons]; omega)
  rw [tyT_app h1]
  show (ty1 (op, 0) (false :: false :: b)).bind (tyT []) = _
  rw [ty_a ho]; rfl
theorem sm_both (hb : TB T n) : ∀ (g k : Nat) (E F : List Tok) (s M : Hp) (f : Option Nat) (x4 : Nat), g = 60 - k → KR T n t k E F s M → (f = none ∨ ∃ op, f = some op ∧ 5 ≤ op ∧ op ≤ 6) → x4 ≤ k → (∃ s1 M1, lpc (oI f, -1, (x4 : Int), s) = some s1 ∧ Rs f M = some (0, M1) ∧ HE s s1 ∧ HU t M M1 ∧ KF T n s1 M1) ∨ (∃ s1 M1 te k1, lpc (oI f, -1, (x4 : Int), s) = some s1 ∧ Rs f M = some (1, M1) ∧ HE s s1 ∧ HU t M M1 ∧ KR T n t k1 (E ++ te) (F ++ te) s1 M1 ∧ k < k1 ∧ te.length + ln1 f ≤ 2 * (k1 - k) ∧ tyS f 2 te) := by
  intro g
  induction g using Nat.strongRecOn with
  | ind g ih =>
    intro k E F s M f x4 hg kr hf hx
    have hk := kr.2.2.2.2.1
    rcases tm_both hb (60 - k) k E F s M none (oI f) x4 rfl kr (Or.inl rfl) hx with ⟨s1, M1, a1, a2, a3, a4, a5⟩ | ⟨s1, M1, te, k1, x5, a1, a2, a3, a4, a5, a6, a7, a8, a9⟩
    · refine Or.inl ⟨s1, M1, a1, ?_, a3, a4, a5⟩
      unfold Rs
      rw [Rt_none, a2]
      simp only [obs]
      rw [if_pos (by decide)]
    · have hk1 := a5.2.2.2.2.1
      have hln : ln1 none = 1 := rfl
      rw [hln] at a8
      -- the sign of the term ahead of it
      have step : ∃ s2 M2 tf, (if w32 (oI f) = w32 (-1) then xr_readSum_b7_j59 s1 (-1) (x5 : Nat) else (xr_addStep s1 (oI f)).bind fun o7 => xr_readSum_b7_j59 o7 (-1) (x5 : Nat)) = xr_readSum_b7_j59 s2 (-1) ((x5 : Nat) : Int) ∧ pO f M1 = some M2 ∧ HE s s2 ∧ HU t M M2 ∧ KR T n t k1 (E ++ tf) (F ++ tf) s2 M2 ∧ tf.length + ln1 f ≤ 2 * (k1 - k) ∧ tyS f 2 tf := by
        rcases hf with rfl | ⟨op, rfl, ho⟩
        · refine ⟨s1, M1, te, if_pos rfl, rfl, a3, a4, a5, by rw [hln]; exact a8, fun b hb2 => a9 b (by omega)⟩
        · have hp : 3 * ((E ++ te).length + 1) ≤ 16 * k1 + 100 := by
            have := kr.2.2.2.2.2.1
            rw [List.length_append]
            omega
          obtain ⟨s2, M2, b1, b2, b3, b4, b5⟩ := KR_op (op := op) (c := (op : Int)) (d := ((rop op : Nat) : Int)) a5 hp rfl rfl
          refine ⟨s2, M2, te ++ [(op, 0)], ?_, b2, HE_tr a3 b4, HU_tr a4 b5, ?_, ?_, fun b hb2 => tyS_op (z := 0) rfl (by omega) a9 b hb2⟩
          · have ho2 : oI (some op) = (op : Int) := rfl
            rw [ho2, if_neg (by rw [w32_eq (x := (op : Int)) (by omega) (by omega), show w32 (-1) = -1 by decide]; omega), b1]
            rfl
          · rw [List.append_assoc, List.append_assoc] at b3; exact b3
          · rw [List.length_append]
            show te.length + 1 + 0 ≤ _
            omega
      obtain ⟨s2, M2, tf, c1, c2, c3, c4, c5, c6, c7⟩ := step
      have rf : Rs f M = (lp (fun (q : Hp) => xm_sum_b9 q) M2).bind fun q6 => q6.elim (fun q10 => some (1, q10)) (fun r => some r) := by
        unfold Rs
        rw [Rt_none, a2]
        simp only [obs]
        rw [if_neg (by decide), c2]
        rfl
      rw [show oI none = -1 from rfl] at a1
      rw [a1, c1, rf]
      obtain ⟨p, p1, p2, hp⟩ := ts_both hb c5.1
      rcases hp with ⟨op, hop, hpn, d1, d2⟩ | ⟨d1, d2⟩
      · rw [Rs_go d2]
        have cj : (xr_readSum_b7_j59 s2 (-1) ((x5 : Nat) : Int)).bind (lpcr lpc) = lpc (oI (some op), -1, ((x5 + 1 : Nat) : Int), uh s2 1 2 ((skp (isB T) n (p + 1) : Nat) : Int)) := by
          unfold xr_readSum_b7_j59
          rw [d1]
          simp only [obs]
          rw [if_neg (by rw [w32_eq (x := (op : Int)) (by omega) (by omega), show w32 (-1) = -1 by decide]; omega)]
          rfl
        rw [cj]
        have kr3 := KR_go (p := skp (isB T) n (p + 1)) (e := p + 1) c5 hpn rfl
        rcases ih (60 - k1) (by omega) k1 _ _ _ _ (some op) (x5 + 1) rfl kr3 (Or.inr ⟨op, rfl, by omega⟩) (by omega) with ⟨s3, M3, e1, e2, e3, e4, e5⟩ | ⟨s3, M3, tg, k2, e1, e2, e3, e4, e5, e6, e7, e8⟩
        · exact Or.inl ⟨s3, M3, e1, e2, HE_tr (HE_tr c3 HE_1) e3, HU_tr (HU_tr c4 (HU_1 (by omega))) e4, e5⟩
        · refine Or.inr ⟨s3, M3, tf ++ tg, k2, e1, e2, HE_tr (HE_tr c3 HE_1) e3, HU_tr (HU_tr c4 (HU_1 (by omega))) e4, ?_, by omega, ?_, tyS_app c7 e8⟩
          · rw [List.append_assoc, List.append_assoc] at e5; exact e5
          · rw [List.length_append]
            have : ln1 (some op) = 0 := rfl
            omega
      · rw [lp_en (B := fun (q : Hp) => xm_sum_b9 q) (s := M2) d2]
        refine Or.inr ⟨s2, uh M2 146 8 (p : Int), tf, k1, ?_, rfl, c3, HU_tr c4 (HU_1 (by omega)), KR_see c5 p2, a6, c6, c7⟩
        unfold xr_readSum_b7_j59
        rw [d1]
        simp only [obs]
        rw [if_pos trivial]
        rfl
/-- a sum, both sides -/
theorem su_both {k : Nat} {E F : List Tok} {s M : Hp} (hb : TB T n) (kr : KR T n t k E F s M) : ∃ (s1 : Hp) (b : Int) (M1 : Hp), xr_readSum s = some s1 ∧ xm_sum M = some (b, M1) ∧ HE s s1 ∧ HU t M M1 ∧ ((b = 1 ∧ ∃ te k1, KR T n t k1 (E ++ te) (F ++ te) s1 M1 ∧ k < k1 ∧ te.length + 1 ≤ 2 * (k1 - k) ∧ tyS none 2 te) ∨ (b = 0 ∧ KF T n s1 M1)) := by
  rcases sm_both hb (60 - k) k E F s M none 0 rfl kr (Or.inl rfl) (Nat.zero_le _) with ⟨s1, M1, a1, a2, a3, a4, a5⟩ | ⟨s1, M1, te, k1, a1, a2, a3, a4, a5, a6, a7, a8⟩
  · exact ⟨s1, 0, M1, a1, a2, a3, a4, Or.inr ⟨rfl, a5⟩⟩
  · exact ⟨s1, 1, M1, a1, a2, a3, a4, Or.inl ⟨rfl, te, k1, a5, a6, a7, a8⟩⟩
end SX
