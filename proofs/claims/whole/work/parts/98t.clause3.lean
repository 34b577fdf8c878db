/-! the clause of a cloth, both sides -/
section CT
variable {T : Nat → Int} {n : Nat} {s M : Hp}
theorem GE_u {s0 : Hp} {q : Nat} {v : Int} (h : GE s0 s) : GE s0 (uh s 1 q v) := fun P h1 h2 => by rw [uh_row h1]; exact h P h1 h2
theorem GM_u {M0 : Hp} {q : Nat} {v : Int} (h : GM M0 M) (hq : q = 8 ∨ q = 9 ∨ q = 10 ∨ q = 14) : GM M0 (uh M 146 q v) := ⟨fun P h1 h2 => by rw [uh_row h1]; exact h.1 P h1 h2, fun z q1 q2 q3 q4 => by rw [uh_ro _ _ _ _ (by omega)]; exact h.2 z q1 q2 q3 q4⟩
theorem GE_rf : GE s s := fun _ _ _ => rfl
theorem GM_rf : GM M M := ⟨fun _ _ _ => rfl, fun _ _ _ _ _ => rfl⟩
theorem GE_tr {s1 s2 : Hp} (h1 : GE s s1) (h2 : GE s1 s2) : GE s s2 := fun P a b => (h2 P a b).trans (h1 P a b)
theorem GM_tr {M1 M2 : Hp} (h1 : GM M M1) (h2 : GM M1 M2) : GM M M2 := ⟨fun P a b => (h2.1 P a b).trans (h1.1 P a b), fun q a b c d => (h2.2 q a b c d).trans (h1.2 q a b c d)⟩
theorem bl_01 {b : Int} {N : Hp} (h : b = 0 ∨ b = 1) : (if w32 b = 0 ∨ w32 b = 1 then some (b, N) else none) = some (b, N) := by
  rcases h with rfl | rfl
  · rw [if_pos (Or.inl (by decide))]
  · rw [if_pos (Or.inr (by decide))]
theorem cc_clause {k : Nat} (hb : TB T n) (hk : k ≤ 40) (h : RP T n s M) (h11 : M 146 11 = 6) (h14 : M 146 14 = (k : Int)) (hz : (k = 0 ∧ ∀ q, q < 82 → M 152 q = 0) ∨ (0 < k ∧ ∃ c m, CD s M c m)) : ∃ s1 b M1, xc_readClause s (k : Int) = some s1 ∧ xm_clauseHere M = some (b, M1) ∧ GE s s1 ∧ GM M M1 ∧ ((b = 1 ∧ RP T n s1 M1 ∧ M1 146 14 = ((k + 1 : Nat) : Int) ∧ (∃ c m, CD s1 M1 c m) ∧ k < 40) ∨ (b = 0 ∧ RF T n s1 M1)) := by
  have hb1 := hb.1
  obtain ⟨tc, tm, s3, m9, i0, hi0, hin0, hs2⟩ := h
  have hle := skp_le (p := isB T) hin0
  have hid := skp_id (p := isB T) (n := n) (i := i0)
  unfold xc_readClause xm_clauseHere
  rw [rt_blanks hb tm hi0 hin0]
  simp only [obs]
  generalize skp (isB T) n i0 = i at hle hid hs2
  have tmi := TM_u (q := 8) (v := (i : Int)) tm (by decide)
  have e8 : uh M 146 8 (i : Int) 146 8 = (i : Int) := uh_rc _ _ _ _
  have m9i : uh M 146 8 (i : Int) 146 9 = 0 := by rw [uh_ro _ _ _ _ (by decide)]; exact m9
  have m11 : uh M 146 8 (i : Int) 146 11 = 6 := by rw [uh_ro _ _ _ _ (by decide)]; exact h11
  have m14 : uh M 146 8 (i : Int) 146 14 = (k : Int) := by rw [uh_ro _ _ _ _ (by decide)]; exact h14
  have gm : GM M (uh M 146 8 (i : Int)) := GM_u GM_rf (Or.inl rfl)
  have hz2 : (k = 0 ∧ ∀ q, q < 82 → uh M 146 8 (i : Int) 152 q = 0) ∨ (0 < k ∧ ∃ c m, CD s (uh M 146 8 (i : Int)) c m) := by
    rcases hz with ⟨a, b⟩ | ⟨a, c, m, b⟩
    · exact Or.inl ⟨a, fun q hq => by rw [uh_row (by decide)]; exact b q hq⟩
    · exact Or.inr ⟨a, c, m, CD_fr b (fun _ _ _ => rfl) (uh_row (by decide))⟩
  rw [m11, if_pos (c := w32 6 = w32 6) rfl, e8]
  generalize uh M 146 8 (i : Int) = N at tmi e8 m9i m11 m14 gm hz2
  have ewh : xt_where s = some (i : Int) := by unfold xt_where; rw [hs2]
  rw [ewh]
  simp only [obs]
  rw [ct_word hb tc hs2 hle spl_cl (by decide)]
  simp only [obs]
  unfold xm_clauseHere_j24
  rw [if_neg (c := w32 1 = 0) (by decide), rt_clothWord hb tmi e8 hle hid]
  simp only [obs, tb0]
  have hbd := wix_b (T := T) (i := i) (e := skp (isL T) n i) cW 0
  rw [show ((0 + cW.length : Nat) : Int) = 5 from rfl] at hbd
  have hge2 := skp_ge (p := isL T) (n := n) (i := i)
  have hle2 := skp_le (p := isL T) hle
  have rwc := rw_cloth hb tmi e8 hle hid
  generalize hK : wix T i (skp (isL T) n i) 0 [wCloth, wPerson, wOwner, wCrease, wWorth] = K at hbd
  by_cases hK1 : K = -1
  · rw [if_pos (c := w32 K = w32 (-1)) (by rw [hK1]), if_pos (c := K = -1) hK1, if_pos (c := ¬ ¬ K = -1) (by omega), rm_fails m9i]
    unfold xt_failHere
    rw [ct_fail s3, hs2]
    simp only [obs]
    rw [if_pos (Or.inl (by decide))]
    exact ⟨_, 0, _, rfl, rfl, GE_u GE_rf, GM_u gm (by omega), Or.inr ⟨rfl, RF_mk tc tmi hb1 hs2 hle hle (by decide) (by decide)⟩⟩
  · have K0 : 0 ≤ K := by omega
    have K4 : K ≤ 4 := by omega
    rw [if_neg (c := w32 K = w32 (-1)) (by rw [w32_eq (x := K) (by omega) (by omega), show w32 (-1) = -1 by decide]; exact hK1), if_neg (c := K = -1) hK1, if_neg (c := ¬ ¬ K = -1) (by omega), w32_eq (x := K) (by omega) (by omega), if_neg (c := w32 1 = 0) (by decide), m14]
    have hsplit : ∀ X : Hp, (if K = 0 then xc_readClause_j34 X (k : Int) (i : Int) K 1 else xc_readClause_j34 X (k : Int) (i : Int) K 0) = xc_readClause_j34 X (k : Int) (i : Int) K (if K = 0 then 1 else 0) := by
      intro X
      split <;> rfl
    rw [hsplit]
    have hle3 := skp_le (p := isB T) hle2
    generalize hS : uh s 1 2 ((skp (isB T) n (skp (isL T) n i) : Nat) : Int) = S
    have tcS : TC T n S := by rw [← hS]; exact TC_u tc (by decide)
    have S3 : S 1 3 = 0 := by rw [← hS, uh_ro _ _ _ _ (by decide)]; exact s3
    have S2 : S 1 2 = ((skp (isB T) n (skp (isL T) n i) : Nat) : Int) := by rw [← hS]; exact uh_rc _ _ _ _
    have geS : GE s S := by rw [← hS]; exact GE_u GE_rf
    have hz3 : (k = 0 ∧ ∀ q, q < 82 → N 152 q = 0) ∨ (0 < k ∧ ∃ c m, CD S N c m) := by
      rcases hz2 with a | ⟨a, c, m, b⟩
      · exact Or.inl a
      · exact Or.inr ⟨a, c, m, CD_fr b (fun P h1 _ => by rw [← hS, uh_row (by omega)]) rfl⟩
    rw [cj_34 hk K0 K4 (fun h0 => by
      rcases hz3 with a | ⟨a, c, m, b⟩
      · omega
      · obtain ⟨-, -, k4, -, d1, -⟩ := b
        rw [d1]; omega), ct_fail S3]
    simp only [obs]
    have bad : ∀ X : Hp, TM T n X → GM M X → X 146 9 = 0 → ∃ s1 b M1, some (uh S 1 3 (1 + 8 * (i : Int) + 4)) = some s1 ∧ ((xm_fails X 4 (i : Int)).bind fun o17 => if w32 o17.1 = 0 ∨ w32 o17.1 = 1 then some (o17.1, o17.2) else none) = some (b, M1) ∧ GE s s1 ∧ GM M M1 ∧ b = 0 ∧ RF T n s1 M1 := by
      intro X tX gX mX
      rw [rm_fails mX]
      simp only [obs]
      rw [if_pos (Or.inl (by decide))]
      exact ⟨_, 0, _, rfl, rfl, GE_u geS, GM_u gX (by omega), rfl, RF_mk tcS tX hb1 S2 hle3 hle (by decide) (by decide)⟩
    unfold xm_clauseHere_j71
    rw [w32_eq (x := (k : Int)) (by omega) (by omega), show w32 40 = 40 by decide]
    by_cases h40 : k = 40
    · rw [if_neg (c := okK S k K) (fun q => by have := q.1; omega), if_pos (c := (k : Int) = 40) (by omega)]
      obtain ⟨s1, b, M1, r1, r2, r3, r4, r5, r6⟩ := bad N tmi gm m9i
      rw [r1, r2]
      exact ⟨s1, b, M1, rfl, rfl, r3, r4, Or.inr ⟨r5, r6⟩⟩
    · rw [if_neg (c := (k : Int) = 40) (by omega), m14]
      simp only [obs]
      rw [if_neg (c := w32 1 = 0) (by decide)]
      have t14 : TM T n (uh N 146 14 ((k : Int) + 1)) := TM_u tmi (by decide)
      have e14 : uh N 146 14 ((k : Int) + 1) 146 8 = (i : Int) := by rw [uh_ro _ _ _ _ (by decide)]; exact e8
      have m914 : uh N 146 14 ((k : Int) + 1) 146 9 = 0 := by rw [uh_ro _ _ _ _ (by decide)]; exact m9i
      have g14 : GM M (uh N 146 14 ((k : Int) + 1)) := GM_u gm (by omega)
      have c14 : uh N 146 14 ((k : Int) + 1) 146 14 = ((k + 1 : Nat) : Int) := by rw [uh_rc]; omega
      have r152 : uh N 146 14 ((k : Int) + 1) 152 = N 152 := uh_row (by decide)
      generalize uh N 146 14 ((k : Int) + 1) = Q at t14 e14 m914 g14 c14 r152
      have hK' : wix T i (skp (isL T) n i) 0 cW = K := hK
      have rq0 := rw_cloth hb t14 e14 hle hid
      have rq1 := rw_person hb t14 e14 hle hid
      have rq2 := rw_owner hb t14 e14 hle hid
      have rq3 := rw_crease hb t14 e14 hle hid
      rw [hK'] at rq0 rq1 rq2 rq3
      have rpass := rt_pass hb t14 e14 hle
      have rpS : RP T n S (uh Q 146 8 ((skp (isL T) n i : Nat) : Int)) := ⟨tcS, TM_u t14 (by decide), S3, by rw [uh_ro _ _ _ _ (by decide)]; exact m914, _, uh_rc _ _ _ _, hle2, S2⟩
      have gP : GM M (uh Q 146 8 ((skp (isL T) n i : Nat) : Int)) := GM_u g14 (by omega)
      have c14P : uh Q 146 8 ((skp (isL T) n i : Nat) : Int) 146 14 = ((k + 1 : Nat) : Int) := by rw [uh_ro _ _ _ _ (by decide)]; exact c14
      have r152P : uh Q 146 8 ((skp (isL T) n i : Nat) : Int) 152 = N 152 := by rw [uh_row (by decide)]; exact r152
      generalize uh Q 146 8 ((skp (isL T) n i : Nat) : Int) = R at rpass rpS gP c14P r152P
      have hbad := bad Q t14 g14 m914
      have hk40 : k < 40 := by omega
      have fin : ∀ {A : Option Hp} {B : Option (Int × Hp)} , (∃ s1 b M1, A = some s1 ∧ B = some (b, M1) ∧ GE s s1 ∧ GM M M1 ∧ ((b = 1 ∧ RP T n s1 M1 ∧ M1 146 14 = ((k + 1 : Nat) : Int) ∧ (∃ c m, CD s1 M1 c m) ∧ k < 40) ∨ (b = 0 ∧ RF T n s1 M1))) → ∃ s1 b M1, A = some s1 ∧ (B.bind fun o12 => if w32 o12.1 = 0 ∨ w32 o12.1 = 1 then some (o12.1, o12.2) else none) = some (b, M1) ∧ GE s s1 ∧ GM M M1 ∧ ((b = 1 ∧ RP T n s1 M1 ∧ M1 146 14 = ((k + 1 : Nat) : Int) ∧ (∃ c m, CD s1 M1 c m) ∧ k < 40) ∨ (b = 0 ∧ RF T n s1 M1)) := by
        rintro A B ⟨s1, b, M1, a1, a2, a3, a4, a5⟩
        rw [a2]
        simp only [obs]
        rw [bl_01 (by rcases a5 with a5 | a5
                      · exact Or.inr a5.1
                      · exact Or.inl a5.1)]
        exact ⟨s1, b, M1, a1, rfl, a3, a4, a5⟩
      refine fin ?_
      unfold xm_clothLineHere
      rw [rq0]
      simp only [obs, tb0]
      rw [ix0 (by decide) (by decide)]
      simp only [obs]
      rw [r152]
      by_cases hK0 : K = 0
      · rw [if_neg (c := ¬ K = 0) (by omega)]
        refine fin ?_
        unfold xm_isClothHere
        rw [ix0 (by decide) (by decide)]
        simp only [obs]
        rw [r152]
        rcases hz3 with ⟨k0, z0⟩ | ⟨k0, c, m, hd⟩
        · rw [if_pos (c := okK S k K) ⟨hk40, Or.inl ⟨k0, hK0⟩⟩, if_neg (c := 0 < w32 (N 152 0)) (by rw [z0 0 (by decide)]; decide), rpass]
          simp only [obs]
          unfold xc_readClause_j104
          rw [if_pos (c := w32 K = 0) (by rw [hK0]; decide)]
          obtain ⟨s1, b, M1, a1, a2, a3, a4, a5, a6⟩ := cc_cells hb rpS (fun q hq => by rw [r152P]; exact z0 q hq)
          rw [a1]
          refine ⟨s1, b, M1, rfl, a2, GE_tr geS a3, GM_tr gP a4, ?_⟩
          rcases a6 with ⟨x1, x2, c, x3⟩ | x
          · exact Or.inl ⟨x1, x2, by rw [a5]; exact c14P, ⟨c, 0, x3⟩, hk40⟩
          · exact Or.inr x
        · obtain ⟨k2, k8, k4, d0, d1, d2, d3, d4, d5, -⟩ := id hd
          rw [if_neg (c := okK S k K) (fun q => by rcases q.2 with q | q <;> omega), if_pos (c := 0 < w32 (N 152 0)) (by rw [d4, w32_eq (by omega) (by omega)]; omega)]
          obtain ⟨s1, b, M1, r1, r2, r3, r4, r5, r6⟩ := hbad
          rw [r1, r2]
          exact ⟨s1, b, M1, rfl, rfl, r3, r4, Or.inr ⟨r5, r6⟩⟩
      · rw [if_pos (c := ¬ K = 0) hK0]
        rcases hz3 with ⟨k0, z0⟩ | ⟨k0, c, m, hd⟩
        · rw [if_neg (c := okK S k K) (fun q => by rcases q.2 with q | q <;> omega), if_pos (c := w32 (N 152 0) = 0) (by rw [z0 0 (by decide)]; decide)]
          obtain ⟨s1, b, M1, r1, r2, r3, r4, r5, r6⟩ := hbad
          rw [r1, r2]
          exact ⟨s1, b, M1, rfl, rfl, r3, r4, Or.inr ⟨r5, r6⟩⟩
        · obtain ⟨k2, k8, k4, d0, d1, d2, d3, d4, d5, -⟩ := id hd
          have hdR : CD S R c m := CD_fr hd (fun _ _ _ => rfl) r152P
          rw [if_neg (c := w32 (N 152 0) = 0) (by rw [d4, w32_eq (by omega) (by omega)]; omega), rq1]
          simp only [obs, tb0]
          have jK : xc_readClause_j104 S K = if K = 1 then (xc_readPerson S).bind fun o7 => some o7 else (xc_readPair S K).bind fun o3 => some o3 := by
            unfold xc_readClause_j104
            rw [w32_eq (x := K) (by omega) (by omega), if_neg hK0, show w32 1 = 1 by decide]
          by_cases h1 : K = 1
          · rw [if_neg (c := ¬ K = 1) (by omega)]
            refine fin ?_
            unfold xm_isPersonHere
            rw [ixt (n := 82) (j := 1) 1 rfl (by decide) (by decide)]
            simp only [obs]
            rw [r152, d5, w32_eq (x := (m : Int)) (by omega) (by omega), show w32 4 = 4 by decide]
            by_cases hm : m < 4
            · rw [if_pos (c := okK S k K) ⟨hk40, Or.inr ⟨k0, hK0, fun _ => by rw [d1]; omega⟩⟩, if_neg (by omega), rpass, jK, if_pos h1]
              simp only [obs]
              obtain ⟨s1, b, M1, a1, a2, a3, a4, a5, a6⟩ := cc_person hb rpS hdR hm
              rw [a1]
              refine ⟨s1, b, M1, rfl, a2, GE_tr geS a3, GM_tr gP a4, ?_⟩
              rcases a6 with ⟨x1, x2, x3⟩ | x
              · exact Or.inl ⟨x1, x2, by rw [a5]; exact c14P, ⟨c, _, x3⟩, hk40⟩
              · exact Or.inr x
            · rw [if_neg (c := okK S k K) (fun q => q.2.elim (fun q => by omega) (fun q => by have := q.2.2 h1; rw [d1] at this; omega)), if_pos (by omega)]
              obtain ⟨s1, b, M1, r1, r2, r3, r4, r5, r6⟩ := hbad
              rw [r1, r2]
              exact ⟨s1, b, M1, rfl, rfl, r3, r4, Or.inr ⟨r5, r6⟩⟩
          · rw [if_pos (c := ¬ K = 1) h1, if_pos (c := okK S k K) ⟨hk40, Or.inr ⟨k0, hK0, fun q => absurd q h1⟩⟩, rq2, jK, if_neg h1]
            simp only [obs, tb0]
            have close : ∀ {A : Option Hp} {B : Option (Int × Hp)}, (∃ s1 b M1, A = some s1 ∧ B = some (b, M1) ∧ GE S s1 ∧ GM R M1 ∧ M1 146 14 = R 146 14 ∧ ((b = 1 ∧ RP T n s1 M1 ∧ CD s1 M1 c m) ∨ (b = 0 ∧ RF T n s1 M1))) → ∃ s1 b M1, (A.bind fun o => some o) = some s1 ∧ B = some (b, M1) ∧ GE s s1 ∧ GM M M1 ∧ ((b = 1 ∧ RP T n s1 M1 ∧ M1 146 14 = ((k + 1 : Nat) : Int) ∧ (∃ c m, CD s1 M1 c m) ∧ k < 40) ∨ (b = 0 ∧ RF T n s1 M1)) := by
              rintro A B ⟨s1, b, M1, a1, a2, a3, a4, a5, a6⟩
              rw [a1, a2]
              refine ⟨s1, b, M1, rfl, rfl, GE_tr geS a3, GM_tr gP a4, ?_⟩
              rcases a6 with ⟨x1, x2, x3⟩ | x
              · exact Or.inl ⟨x1, x2, by rw [a5]; exact c14P, ⟨c, m, x3⟩, hk40⟩
              · exact Or.inr x
            by_cases h2 : K = 2
            · rw [if_neg (c := ¬ K = 2) (by omega), ixt (n := 82) (j := 1) 1 rfl (by decide) (by decide)]
              simp only [obs]
              refine fin ?_
              unfold xm_isOneOfRow
              rw [rpass, r152, d4, d5, h2]
              simp only [obs]
              exact close (cc_owner hb rpS hdR)
            · rw [if_pos (c := ¬ K = 2) h2, rq3]
              simp only [obs, tb0]
              rw [r152, d4]
              by_cases h3 : K = 3
              · rw [if_neg (c := ¬ K = 3) (by omega)]
                refine fin ?_
                unfold xm_isOneOfRow
                rw [rpass, h3]
                simp only [obs]
                exact close (cc_crease hb rpS hdR)
              · rw [if_pos (c := ¬ K = 3) h3]
                refine fin ?_
                unfold xm_isOneOfRow
                rw [rpass, show K = 4 by omega]
                simp only [obs]
                exact close (cc_worth hb rpS hdR)
end CT
