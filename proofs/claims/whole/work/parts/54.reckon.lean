/-! whole rules: clauses of a sum and a test -/
abbrev Cls : Type := List Tok × Option (List Tok)
def evC (ws : Nat → Int) : List Cls → Int
  | [] => 0
  | (sm, none) :: _ => (evT ws sm []).headD 0
  | (sm, some te) :: r => if (evT ws te []).headD 0 = 1 then (evT ws sm []).headD 0 else evC ws r
def encC : List Cls → List Tok
  | [] => []
  | (sm, none) :: r => sm ++ (3, 0) :: encC r
  | (sm, some te) :: r => sm ++ (te ++ (4, 0) :: encC r)
def wfC : List Cls → Prop
  | [] => True
  | (sm, te) :: r => tyT sm [] = some [false] ∧ (∀ t, te = some t → tyT t [] = some [true]) ∧ wfC r
theorem one_v {ws : Nat → Int} {sm : List Tok} {b : Bool} (h : tyT sm [] = some [b]) : ∃ v, evT ws sm [] = [v] ∧ (b = true → v = 0 ∨ v = 1) := by
  have h1 := evT_ty (ws := ws) (st := []) h trivial
  match evT ws sm [], h1 with
  | [], h1 => exact h1.elim
  | [v], h1 => exact ⟨v, rfl, h1.1⟩
  | _ :: _ :: _, h1 => exact h1.2.elim
theorem cs_rule {ln : Nat → Nat} {rs : Nat → Int} {a : Nat} (hln : ln a ≤ 400) (ha : a + 1 ≠ 53) : ∀ (R : List Cls) (s : Hp) (i : Nat), i + (encC R).length = ln a → At (s (a + 1)) i (encC R) → wfC R → ∃ s1, (lp (fun (q : Int × Int × Hp) => xu_sumFor_b5 ln rs q.2.2 a q.1 q.2.1) (0, (i : Int), s)).bind (fun q1 => q1.elim (fun q5 => some (0, q5.2.2)) (fun r => some r)) = some (evC (s 52) R, s1) ∧ ∀ p, p ≠ 53 → s1 p = s p
  | [], s, i, hi, _, _ => by
    have hi : i = ln a := hi
    refine ⟨s, ?_, fun _ _ => rfl⟩
    rw [lp_en (B := fun (q : Int × Int × Hp) => xu_sumFor_b5 ln rs q.2.2 a q.1 q.2.1) (s := (0, (i : Int), s)) (r := .inl (0, (i : Int), s)) (by
      show xu_sumFor_b5 ln rs s a 0 i = _
      unfold xu_sumFor_b5
      rw [w32_eq (x := (i : Int)) (by omega) (by omega), w32_eq (x := ((ln a : Nat) : Int)) (by omega) (by omega), if_neg (by omega)])]
    rfl
  | (sm, te) :: r, s, i, hi, hat, hw => by
    obtain ⟨w1, w2, w3⟩ := hw
    obtain ⟨v, hv, -⟩ := one_v (ws := s 52) w1
    match te, hi, hat, w2 with
    | none, hi, hat, _ =>
      have hi : i + (sm ++ (3, 0) :: encC r).length = ln a := hi
      rw [List.length_append, List.length_cons] at hi
      obtain ⟨a1, a2⟩ := At_app (r := sm) (r1 := (3, 0) :: encC r) hat
      obtain ⟨s1, e1, e2, e3⟩ := cs_run (rs := rs) hln ha sm s i [] [false] [] (by omega) a1 w1 (by decide) (Nat.le_refl _) (by decide) trivial
      rw [hv] at e1 e2
      refine ⟨s1, ?_, e3⟩
      have e1 : lp (fun (q : Int × Int × Hp) => xu_sumFor_b5 ln rs q.2.2 a q.1 q.2.1) (0, (i : Int), s) = lp (fun (q : Int × Int × Hp) => xu_sumFor_b5 ln rs q.2.2 a q.1 q.2.1) (1, ((i + sm.length : Nat) : Int), s1) := e1
      rw [e1, lp_en (B := fun (q : Int × Int × Hp) => xu_sumFor_b5 ln rs q.2.2 a q.1 q.2.1) (s := (1, ((i + sm.length : Nat) : Int), s1)) (r := .inr (v, s1)) (by
        show xu_sumFor_b5 ln rs s1 a 1 ((i + sm.length : Nat) : Int) = _
        have hg : s1 (a + 1) (i + sm.length) = 3 := by rw [e3 _ ha]; exact a2.1
        unfold xu_sumFor_b5
        rw [ixt (i + sm.length) rfl (by omega) (by omega), w32_eq (x := ((i + sm.length : Nat) : Int)) (by omega) (by omega), w32_eq (x := ((ln a : Nat) : Int)) (by omega) (by omega), if_pos (by omega)]
        simp only [obs]
        rw [hg, show bAnd 3 31 = 3 by decide +kernel, if_pos (by decide), if_neg (by decide), if_neg (by decide), if_pos (by decide), show (1 : Int) - 1 = 0 by decide, ix0 (by decide) (by decide)]
        simp only [obs]
        rw [show s1 53 0 = v from e2.1])]
      show some (v, s1) = some ((evT (s 52) sm []).headD 0, s1)
      rw [hv]
      rfl
    | some t, hi, hat, w2 =>
      have hi : i + (sm ++ (t ++ (4, 0) :: encC r)).length = ln a := hi
      rw [List.length_append, List.length_append, List.length_cons] at hi
      obtain ⟨a1, a2⟩ := At_app (r := sm) (r1 := t ++ (4, 0) :: encC r) hat
      obtain ⟨a2, a3⟩ := At_app (r := t) (r1 := (4, 0) :: encC r) a2
      have wt := w2 t rfl
      obtain ⟨x, hx, hx01⟩ := one_v (ws := s 52) wt
      obtain ⟨s1, e1, e2, e3⟩ := cs_run (rs := rs) hln ha sm s i [] [false] [] (by omega) a1 w1 (by decide) (Nat.le_refl _) (by decide) trivial
      rw [hv] at e1 e2
      obtain ⟨s2, f1, f2, f3⟩ := cs_run (rs := rs) hln ha t s1 (i + sm.length) [] [true] [v] (by omega) (by rw [e3 _ ha]; exact a2) wt (by decide) (Nat.zero_le _) (Nat.le_refl _) e2
      have hx2 : evT (s1 52) t [v] = [x, v] := by
        rw [e3 52 (by decide), show ([v] : List Int) = [] ++ [v] from rfl, (evT_app wt rfl).1, hx]
        rfl
      rw [hx2] at f1 f2
      have e1 : lp (fun (q : Int × Int × Hp) => xu_sumFor_b5 ln rs q.2.2 a q.1 q.2.1) (0, (i : Int), s) = lp (fun (q : Int × Int × Hp) => xu_sumFor_b5 ln rs q.2.2 a q.1 q.2.1) (1, ((i + sm.length : Nat) : Int), s1) := e1
      have f1 : lp (fun (q : Int × Int × Hp) => xu_sumFor_b5 ln rs q.2.2 a q.1 q.2.1) (1, ((i + sm.length : Nat) : Int), s1) = lp (fun (q : Int × Int × Hp) => xu_sumFor_b5 ln rs q.2.2 a q.1 q.2.1) (2, ((i + sm.length + t.length : Nat) : Int), s2) := f1
      have g3 : ∀ p, p ≠ 53 → s2 p = s p := fun p hp => (f3 p hp).trans (e3 p hp)
      have hg : s2 (a + 1) (i + sm.length + t.length) = 4 := by rw [g3 _ ha]; exact a3.1
      have hs1 : s2 53 1 = x := f2.1
      have hs0 : s2 53 0 = v := f2.2.1
      have hB : xu_sumFor_b5 ln rs s2 a 2 ((i + sm.length + t.length : Nat) : Int) = if x = 0 then some (.inl (0, ((i + sm.length + t.length + 1 : Nat) : Int), s2)) else some (.inr (.inr (v, s2))) := by
        unfold xu_sumFor_b5
        rw [ixt (i + sm.length + t.length) rfl (by omega) (by omega), w32_eq (x := ((i + sm.length + t.length : Nat) : Int)) (by omega) (by omega), w32_eq (x := ((ln a : Nat) : Int)) (by omega) (by omega), if_pos (by omega)]
        simp only [obs]
        rw [hg, show bAnd 4 31 = 4 by decide +kernel, if_pos (by decide), if_neg (by decide), if_neg (by decide), if_neg (by decide), if_neg (by decide), if_neg (by decide), if_pos (by decide), show (2 : Int) - 1 = 1 by decide, show (2 : Int) - 2 = 0 by decide, ix0 (by decide) (by decide), ix1 (by decide) (by decide)]
        simp only [obs]
        rw [hs1, hs0]
        rcases hx01 rfl with rfl | rfl
        · rw [if_pos rfl, if_pos rfl]; rfl
        · rw [if_neg (by decide), if_neg (by decide)]
      show ∃ s1, _ = some ((if (evT (s 52) t []).headD 0 = 1 then (evT (s 52) sm []).headD 0 else evC (s 52) r), s1) ∧ _
      rw [hx, hv, e1, f1]
      show ∃ s1, _ = some ((if x = 1 then v else evC (s 52) r), s1) ∧ _
      rcases hx01 rfl with rfl | rfl
      · rw [if_pos rfl] at hB
        rw [if_neg (by decide), lp_in (B := fun (q : Int × Int × Hp) => xu_sumFor_b5 ln rs q.2.2 a q.1 q.2.1) (s := (2, ((i + sm.length + t.length : Nat) : Int), s2)) hB]
        obtain ⟨s3, h1, h2⟩ := cs_rule (rs := rs) hln ha r s2 (i + sm.length + t.length + 1) (by omega) (by rw [g3 _ ha]; exact a3.2.2) w3
        rw [g3 52 (by decide)] at h1
        exact ⟨s3, h1, fun p hp => (h2 p hp).trans (g3 p hp)⟩
      · rw [if_neg (by decide)] at hB
        rw [if_pos rfl, lp_en (B := fun (q : Int × Int × Hp) => xu_sumFor_b5 ln rs q.2.2 a q.1 q.2.1) (s := (2, ((i + sm.length + t.length : Nat) : Int), s2)) hB]
        exact ⟨s2, rfl, g3⟩
/-! the reference's rules -/
def AtM (g : Nat → Int) (i : Nat) : List Tok → Prop
  | [] => True
  | t :: r => g i = ((rop t.1 + 16 * t.2 : Nat) : Int) ∧ t.2 ≤ 99999 ∧ AtM g (i + 1) r
theorem AtM_app {g : Nat → Int} : ∀ {i : Nat} {r r1 : List Tok}, AtM g i (r ++ r1) → AtM g i r ∧ AtM g (i + r.length) r1
  | i, [], r1, h => ⟨trivial, h⟩
  | i, t :: r, r1, h => by
    obtain ⟨h1, h2⟩ := AtM_app (i := i + 1) (r := r) h.2.2
    refine ⟨⟨h.1, h.2.1, h1⟩, ?_⟩
    show AtM g (i + (r.length + 1)) r1
    rw [show i + (r.length + 1) = i + 1 + r.length by omega]
    exact h2
/-- only the stack has changed -/
def SK (s s1 : Hp) : Prop := (∀ p, p ≠ 146 → p ≠ 154 → s1 p = s p) ∧ ∀ q, q ≠ 18 → s1 146 q = s 146 q
theorem SK_tr {s s1 s2 : Hp} (h : SK s s1) (g : SK s1 s2) : SK s s2 := ⟨fun p h1 h2 => (g.1 p h1 h2).trans (h.1 p h1 h2), fun q hq => (g.2 q hq).trans (h.2 q hq)⟩
theorem SK_rf {s : Hp} : SK s s := ⟨fun _ _ _ => rfl, fun _ _ => rfl⟩
theorem SK_154 {s : Hp} {i : Nat} {v : Int} : SK s (uh s 154 i v) := ⟨fun p _ h2 => uh_row h2, fun q _ => by rw [uh_row (by decide)]⟩
theorem SK_18 {s : Hp} {v : Int} : SK s (uh s 146 18 v) := ⟨fun p h1 _ => uh_row h1, fun q hq => if_neg (fun e => hq e.2)⟩
theorem xm_push_f {s : Hp} {k : Nat} {v : Int} (h : s 146 18 = (k : Int)) (hk : k < 64) : xm_push s v = some (uh (uh s 154 k v) 146 18 ((k + 1 : Nat) : Int)) := by
  unfold xm_push
  rw [h, ixt k rfl hk (by decide)]
  simp only [obs]
  rw [uh_row (p := 146) (by decide), h]
  rfl
theorem xm_pop_f {s : Hp} {k : Nat} (h : s 146 18 = ((k + 1 : Nat) : Int)) (hk : k < 64) : xm_pop s = some (s 154 k, uh s 146 18 (k : Int)) := by
  unfold xm_pop
  simp only [obs]
  rw [h, show ((k + 1 : Nat) : Int) - 1 = (k : Int) by omega, show uh s 146 18 (k : Int) 146 18 = (k : Int) from if_pos ⟨rfl, rfl⟩, ixt k rfl hk (by decide)]
  simp only [obs]
  rw [uh_row (p := 154) (by decide)]
def PS (s : Hp) (st : List Int) : Prop := s 146 18 = (st.length : Int) ∧ SA (s 154) st
theorem PS_push {s : Hp} {st : List Int} {v : Int} (h : PS s st) (hk : st.length < 64) : ∃ s1, xm_push s v = some s1 ∧ PS s1 (v :: st) ∧ SK s s1 := by
  refine ⟨_, xm_push_f h.1 hk, ⟨if_pos ⟨rfl, rfl⟩, ?_⟩, SK_tr SK_154 SK_18⟩
  rw [uh_row (p := 154) (by decide), uh_self]
  exact SA_push h.2
theorem PS_pop {s : Hp} {st : List Int} {v : Int} (h : PS s (v :: st)) (hk : st.length < 64) : ∃ s1, xm_pop s = some (v, s1) ∧ PS s1 st ∧ SK s s1 := by
  refine ⟨uh s 146 18 (st.length : Int), ?_, ⟨if_pos ⟨rfl, rfl⟩, ?_⟩, SK_18⟩
  · rw [xm_pop_f h.1 hk, h.2.1]
  · rw [uh_row (p := 154) (by decide)]
    exact h.2.2
theorem rop_16 {op : Nat} (h : op = 0 ∨ op = 1 ∨ op = 2 ∨ (5 ≤ op ∧ op ≤ 16)) : rop op < 16 ∧ (rop op = 0 ↔ op = 0) ∧ (rop op = 1 ↔ op = 1) ∧ (rop op = 11 ↔ op = 2) := by
  unfold rop
  rcases h with rfl | rfl | rfl | h
  · decide
  · decide
  · decide
  · rw [if_neg (by omega), if_neg (by omega)]
    by_cases h8 : op ≤ 8
    · rw [if_pos h8]; omega
    · rw [if_neg h8]
      by_cases h9 : op = 9
      · rw [if_pos h9]; omega
      · rw [if_neg h9]
        by_cases h14 : op ≤ 14
        · rw [if_pos h14]; omega
        · rw [if_neg h14]; omega
theorem rk_step {s : Hp} {T en i : Nat} {t : Tok} {b b1 : List Bool} {st : List Int} (hT : T < 6) (hi : i < en) (hen : en ≤ 400) (ht : s 148 (400 * T + i) = ((rop t.1 + 16 * t.2 : Nat) : Int)) (hv : t.2 ≤ 99999) (hty : ty1 t b = some b1) (hb : b.length ≤ 31) (hl : b.length = st.length) (hs : PS s st) : ∃ s1, xm_reckons_b8 s (T : Int) (en : Int) (i : Int) = some (.inl (((i + 1 : Nat) : Int), s1)) ∧ PS s1 (ev1 (s 155) t st) ∧ SK s s1 := by
  have ho := ty1_op hty
  obtain ⟨l1, l2, l3, l4⟩ := ty1_len hty
  obtain ⟨op, v⟩ := t
  simp only at ht hv ho l1 l2 l3 l4
  obtain ⟨r1, r2, r3, r4⟩ := rop_16 ho
  unfold xm_reckons_b8
  rw [ixt (400 * T + i) (by omega) (by omega) (by decide), w32_eq (x := (i : Int)) (by omega) (by omega), w32_eq (x := (en : Int)) (by omega) (by omega), if_pos (by omega)]
  simp only [obs]
  rw [ht, sgn_op r1 hv, sgn_v r1 hv, w32_eq (x := (rop op : Int)) (by omega) (by omega), w32_eq (x := (v : Int)) (by omega) (by omega), show w32 1 = 1 by decide, show w32 11 = 11 by decide]
  rcases ho with rfl | rfl | rfl | h5
  · have := l1 (by decide)
    rw [if_pos (by decide)]
    obtain ⟨s1, e1, e2, e3⟩ := PS_push (v := (v : Int)) hs (by omega)
    rw [e1]
    exact ⟨s1, rfl, e2, e3⟩
  · have := l1 (by decide)
    have hw := l2 rfl
    rw [if_neg (by decide), if_pos (by decide), ixt v rfl (by omega) (by decide)]
    simp only [obs]
    obtain ⟨s1, e1, e2, e3⟩ := PS_push (v := s 155 v) hs (by omega)
    rw [e1]
    exact ⟨s1, rfl, e2, e3⟩
  · have := l3 rfl
    rw [if_neg (by decide), if_neg (by decide), if_pos (by decide)]
    match st, hs, hl with
    | [], _, hl => exact absurd hl (by show ¬ b.length = 0; omega)
    | y :: r, hs, hl =>
      have hl : b.length = r.length + 1 := hl
      obtain ⟨s1, e1, e2, e3⟩ := PS_pop hs (by omega)
      rw [e1]
      simp only [obs]
      obtain ⟨s2, f1, f2, f3⟩ := PS_push (v := 1 - y) e2 (by omega)
      rw [f1]
      exact ⟨s2, rfl, f2, SK_tr e3 f3⟩
  · have := l4 (by omega)
    rw [if_neg (by omega), if_neg (by omega), if_neg (by omega)]
    match st, hs, hl with
    | [], _, hl => exact absurd hl (by show ¬ b.length = 0; omega)
    | [y], _, hl => exact absurd hl (by show ¬ b.length = 1; omega)
    | y :: x :: r, hs, hl =>
      have hl : b.length = r.length + 2 := hl
      obtain ⟨s1, e1, e2, e3⟩ := PS_pop hs (show r.length + 1 < 64 by omega)
      rw [e1]
      simp only [obs]
      obtain ⟨s2, f1, f2', f3⟩ := PS_pop e2 (by omega)
      rw [f1]
      simp only [obs]
      rw [xm_one_f h5]
      simp only [obs]
      obtain ⟨s3, g1, g2, g3⟩ := PS_push (v := f2 op x y) f2' (by omega)
      rw [g1]
      have e : ev1 (s 155) (op, v) (y :: x :: r) = f2 op x y :: r := by
        unfold ev1
        rw [if_neg (by simp only; omega), if_neg (by simp only; omega)]
        simp only
        rw [if_neg (by omega)]
      rw [e]
      exact ⟨s3, rfl, g2, SK_tr e3 (SK_tr f3 g3)⟩
theorem rk_run {T en : Nat} (hT : T < 6) (hen : en ≤ 400) : ∀ (r : List Tok) (s : Hp) (i : Nat) (b b1 : List Bool) (st : List Int), i + r.length ≤ en → AtM (s 148) (400 * T + i) r → tyT r b = some b1 → b.length ≤ 31 → b.length = st.length → PS s st → ∃ s1, lp (fun (q : Int × Hp) => xm_reckons_b8 q.2 (T : Int) (en : Int) q.1) ((i : Int), s) = lp (fun (q : Int × Hp) => xm_reckons_b8 q.2 (T : Int) (en : Int) q.1) (((i + r.length : Nat) : Int), s1) ∧ PS s1 (evT (s 155) r st) ∧ SK s s1
  | [], s, i, b, b1, st, _, _, _, _, _, hs => ⟨s, rfl, hs, SK_rf⟩
  | t :: r, s, i, b, b1, st, hi, hat, hty, hb, hl, hs => by
    obtain ⟨b2, h1, h2⟩ := bd hty
    have hi : i + (r.length + 1) ≤ en := hi
    obtain ⟨s1, e1, e2, e3⟩ := rk_step (i := i) hT (by omega) hen hat.1 hat.2.1 h1 hb hl hs
    have el := (ev1_app (ws := s 155) (st := st) (st1 := []) h1 hl).2
    obtain ⟨s2, f1, f2', f3⟩ := rk_run hT hen r s1 (i + 1) b2 b1 (ev1 (s 155) t st) (by omega) (by rw [e3.1 148 (by decide) (by decide)]; exact hat.2.2) h2 (ty1_31 h1 hb) el e2
    rw [e3.1 155 (by decide) (by decide)] at f2'
    refine ⟨s2, ?_, f2', SK_tr e3 f3⟩
    rw [lp_in (B := fun (q : Int × Hp) => xm_reckons_b8 q.2 (T : Int) (en : Int) q.1) (s := ((i : Int), s)) e1, f1]
    show lp _ (((i + 1 + r.length : Nat) : Int), _) = lp _ (((i + (r.length + 1) : Nat) : Int), _)
    rw [show i + 1 + r.length = i + (r.length + 1) by omega]
theorem rk_all {T i : Nat} {sm : List Tok} {s : Hp} {c : Bool} (hT : T < 6) (hi : i + sm.length ≤ 400) (hat : AtM (s 148) (400 * T + i) sm) (hty : tyT sm [] = some [c]) : ∃ s1, xm_reckons s (T : Int) (i : Int) ((i + sm.length : Nat) : Int) = some ((evT (s 155) sm []).headD 0, s1) ∧ SK s s1 := by
  unfold xm_reckons
  simp only [obs]
  have h0 : PS (uh s 146 18 0) [] := ⟨if_pos ⟨rfl, rfl⟩, trivial⟩
  obtain ⟨s1, e1, e2, e3⟩ := rk_run hT hi sm (uh s 146 18 0) i [] [c] [] (Nat.le_refl _) (by rw [uh_row (by decide)]; exact hat) hty (by decide) rfl h0
  rw [uh_row (p := 155) (by decide)] at e2
  obtain ⟨v, hv, -⟩ := one_v (ws := s 155) hty
  rw [hv] at e2
  obtain ⟨s2, f1, -, f3⟩ := PS_pop e2 (by decide)
  refine ⟨s2, ?_, SK_tr SK_18 (SK_tr e3 f3)⟩
  rw [e1, lp_en (B := fun (q : Int × Hp) => xm_reckons_b8 q.2 (T : Int) ((i + sm.length : Nat) : Int) q.1) (s := (((i + sm.length : Nat) : Int), s1)) (r := (((i + sm.length : Nat) : Int), s1)) (by
    show xm_reckons_b8 s1 (T : Int) ((i + sm.length : Nat) : Int) ((i + sm.length : Nat) : Int) = _
    unfold xm_reckons_b8
    rw [if_neg (by omega)])]
  simp only [obs]
  rw [f1, hv]
  rfl
def RM (s : Hp) (T : Nat) : Nat → Nat → List Cls → Prop
  | c, _, [] => s 151 T = (c : Int)
  | c, i, (sm, none) :: r => s 150 (48 * T + 4 * c) = (i : Int) ∧ s 150 (48 * T + 4 * c + 1) = ((i + sm.length : Nat) : Int) ∧ AtM (s 148) (400 * T + i) sm ∧ s 150 (48 * T + 4 * c + 2) = -1 ∧ RM s T (c + 1) (i + sm.length) r
  | c, i, (sm, some te) :: r => s 150 (48 * T + 4 * c) = (i : Int) ∧ s 150 (48 * T + 4 * c + 1) = ((i + sm.length : Nat) : Int) ∧ AtM (s 148) (400 * T + i) sm ∧ s 150 (48 * T + 4 * c + 2) = ((i + sm.length : Nat) : Int) ∧ s 150 (48 * T + 4 * c + 3) = ((i + sm.length + te.length : Nat) : Int) ∧ AtM (s 148) (400 * T + (i + sm.length)) te ∧ RM s T (c + 1) (i + sm.length + te.length) r
def lenC : List Cls → Nat
  | [] => 0
  | (sm, none) :: r => sm.length + lenC r
  | (sm, some te) :: r => sm.length + te.length + lenC r
theorem RM_sk {s s1 : Hp} {T : Nat} (h : SK s s1) : ∀ {R : List Cls} {c i : Nat}, RM s T c i R → RM s1 T c i R
  | [], c, i, hr => by show s1 151 T = _; rw [h.1 151 (by decide) (by decide)]; exact hr
  | (sm, none) :: r, c, i, hr => by
    obtain ⟨a1, a2, a3, a4, a5⟩ := hr
    have e0 := h.1 150 (by decide) (by decide)
    have e8 := h.1 148 (by decide) (by decide)
    exact ⟨by rw [e0]; exact a1, by rw [e0]; exact a2, by rw [e8]; exact a3, by rw [e0]; exact a4, RM_sk h a5⟩
  | (sm, some te) :: r, c, i, hr => by
    obtain ⟨a1, a2, a3, a4, a5, a6, a7⟩ := hr
    have e0 := h.1 150 (by decide) (by decide)
    have e8 := h.1 148 (by decide) (by decide)
    exact ⟨by rw [e0]; exact a1, by rw [e0]; exact a2, by rw [e8]; exact a3, by rw [e0]; exact a4, by rw [e0]; exact a5, by rw [e8]; exact a6, RM_sk h a7⟩
theorem RM_n {s : Hp} {T : Nat} : ∀ {R : List Cls} {c i : Nat}, RM s T c i R → s 151 T = ((c + R.length : Nat) : Int)
  | [], c, i, hr => hr
  | (sm, none) :: r, c, i, hr => by
    rw [RM_n hr.2.2.2.2, List.length_cons]
    omega
  | (sm, some te) :: r, c, i, hr => by
    rw [RM_n hr.2.2.2.2.2.2, List.length_cons]
    omega
theorem rk_j58 {s : Hp} {T c i : Nat} {sm : List Tok} (hT : T < 6) (hc : c < 12) (hi : i + sm.length ≤ 400) (h1 : s 150 (48 * T + 4 * c) = (i : Int)) (h2 : s 150 (48 * T + 4 * c + 1) = ((i + sm.length : Nat) : Int)) (h3 : AtM (s 148) (400 * T + i) sm) (hty : tyT sm [] = some [false]) : ∃ s1, xm_summedBy_b2_j58 s (T : Int) (48 * (T : Int) + 4 * (c : Int)) = some (.inr (.inr ((evT (s 155) sm []).headD 0, s1))) ∧ SK s s1 := by
  unfold xm_summedBy_b2_j58
  rw [ixt (48 * T + 4 * c) (by omega) (by omega) (by decide), ixt (48 * T + 4 * c + 1) (by omega) (by omega) (by decide)]
  simp only [obs]
  rw [h1, h2]
  obtain ⟨s1, e1, e2⟩ := rk_all hT hi h3 hty
  rw [e1]
  exact ⟨s1, rfl, e2⟩
theorem rk_rule {T : Nat} (hT : T < 6) : ∀ (R : List Cls) (s : Hp) (c i : Nat), c + R.length ≤ 12 → i + lenC R ≤ 400 → RM s T c i R → wfC R → ∃ s1, (lp (fun (q : Int × Hp) => xm_summedBy_b2 q.2 (T : Int) q.1) ((c : Int), s)).bind (fun q1 => q1.elim (fun q5 => some (0, q5.2)) (fun r => some r)) = some (evC (s 155) R, s1) ∧ SK s s1
  | [], s, c, i, hc, hi, hr, _ => by
    have hr : s 151 T = (c : Int) := hr
    have hc : c + 0 ≤ 12 := hc
    refine ⟨s, ?_, SK_rf⟩
    rw [lp_en (B := fun (q : Int × Hp) => xm_summedBy_b2 q.2 (T : Int) q.1) (s := ((c : Int), s)) (r := .inl ((c : Int), s)) (by
      show xm_summedBy_b2 s (T : Int) c = _
      unfold xm_summedBy_b2
      rw [ixt T rfl hT (by decide)]
      simp only [obs]
      rw [hr, if_neg (by omega)])]
    rfl
  | (sm, none) :: r, s, c, i, hc, hi, hr, hw => by
    have hn := RM_n hr
    rw [List.length_cons] at hn hc
    obtain ⟨a1, a2, a3, a4, a5⟩ := hr
    have hi : i + (sm.length + lenC r) ≤ 400 := hi
    obtain ⟨s1, e1, e2⟩ := rk_j58 (c := c) hT (by omega) (by omega) a1 a2 a3 hw.1
    refine ⟨s1, ?_, e2⟩
    rw [lp_en (B := fun (q : Int × Hp) => xm_summedBy_b2 q.2 (T : Int) q.1) (s := ((c : Int), s)) (r := .inr ((evT (s 155) sm []).headD 0, s1)) (by
      show xm_summedBy_b2 s (T : Int) c = _
      unfold xm_summedBy_b2
      rw [ixt T rfl hT (by decide), ixt (48 * T + 4 * c + 2) (by omega) (by omega) (by decide)]
      simp only [obs]
      rw [hn, a4, w32_eq (x := (c : Int)) (by omega) (by omega), w32_eq (x := ((c + (r.length + 1) : Nat) : Int)) (by omega) (by omega), if_pos (by omega), if_pos (by decide), e1])]
    rfl
  | (sm, some te) :: r, s, c, i, hc, hi, hr, hw => by
    have hn := RM_n hr
    rw [List.length_cons] at hn hc
    obtain ⟨a1, a2, a3, a4, a5, a6, a7⟩ := hr
    have hi : i + (sm.length + te.length + lenC r) ≤ 400 := hi
    have wt := hw.2.1 te rfl
    obtain ⟨x, hx, hx01⟩ := one_v (ws := s 155) wt
    obtain ⟨s1, e1, e2⟩ := rk_all (i := i + sm.length) hT (by omega) a6 wt
    rw [hx] at e1
    have e1 : xm_reckons s (T : Int) ((i + sm.length : Nat) : Int) ((i + sm.length + te.length : Nat) : Int) = some (x, s1) := e1
    have hB : xm_summedBy_b2 s (T : Int) (c : Int) = if x = 1 then xm_summedBy_b2_j58 s1 (T : Int) (48 * (T : Int) + 4 * (c : Int)) else some (.inl (((c + 1 : Nat) : Int), s1)) := by
      unfold xm_summedBy_b2
      rw [ixt T rfl hT (by decide), ixt (48 * T + 4 * c + 2) (by omega) (by omega) (by decide), ixt (48 * T + 4 * c + 3) (by omega) (by omega) (by decide)]
      simp only [obs]
      rw [hn, a4, a5, w32_eq (x := (c : Int)) (by omega) (by omega), w32_eq (x := ((c + (r.length + 1) : Nat) : Int)) (by omega) (by omega), if_pos (by omega), w32_eq (x := ((i + sm.length : Nat) : Int)) (by omega) (by omega), if_neg (by omega), e1]
      simp only [obs]
      rcases hx01 rfl with rfl | rfl
      · rw [if_neg (by decide), if_neg (by decide)]; rfl
      · rw [if_pos (by decide), if_pos (by decide)]
    show ∃ s1, _ = some ((if (evT (s 155) te []).headD 0 = 1 then (evT (s 155) sm []).headD 0 else evC (s 155) r), s1) ∧ _
    rw [hx]
    show ∃ s1, _ = some ((if x = 1 then (evT (s 155) sm []).headD 0 else evC (s 155) r), s1) ∧ _
    have e155 := e2.1 155 (by decide) (by decide)
    by_cases h1 : x = 1
    · rw [if_pos h1] at hB ⊢
      obtain ⟨s2, f1, f3⟩ := rk_j58 (s := s1) (c := c) hT (by omega) (show i + sm.length ≤ 400 by omega) (by rw [e2.1 150 (by decide) (by decide)]; exact a1) (by rw [e2.1 150 (by decide) (by decide)]; exact a2) (by rw [e2.1 148 (by decide) (by decide)]; exact a3) hw.1
      rw [e155] at f1
      rw [f1] at hB
      rw [lp_en (B := fun (q : Int × Hp) => xm_summedBy_b2 q.2 (T : Int) q.1) (s := ((c : Int), s)) hB]
      exact ⟨s2, rfl, SK_tr e2 f3⟩
    · rw [if_neg h1] at hB ⊢
      rw [lp_in (B := fun (q : Int × Hp) => xm_summedBy_b2 q.2 (T : Int) q.1) (s := ((c : Int), s)) hB]
      obtain ⟨s3, g1, g2⟩ := rk_rule hT r s1 (c + 1) (i + sm.length + te.length) (by omega) (by omega) (RM_sk e2 a7) hw.2.2
      rw [e155] at g1
      exact ⟨s3, g1, SK_tr e2 g2⟩
