/-! a rule being read: its steps, both sides -/
theorem At_join {g : Nat → Int} : ∀ {i : Nat} {r r1 : List Tok}, At g i r → At g (i + r.length) r1 → At g i (r ++ r1)
  | _, [], _, _, h => h
  | i, t :: r, r1, h, h1 => by
    refine ⟨h.1, h.2.1, At_join h.2.2 ?_⟩
    rw [show i + 1 + r.length = i + (t :: r).length by rw [List.length_cons]; omega]
    exact h1
theorem At_cg {g g1 : Nat → Int} : ∀ {i : Nat} {r : List Tok}, At g i r → (∀ j, i ≤ j → j < i + r.length → g1 j = g j) → At g1 i r
  | _, [], _, _ => trivial
  | i, t :: r, h, hg => by
    rw [List.length_cons] at hg
    exact ⟨(hg i (by omega) (by omega)).trans h.1, h.2.1, At_cg h.2.2 (fun j h1 h2 => hg j (by omega) (by omega))⟩
theorem AtM_join {g : Nat → Int} : ∀ {i : Nat} {r r1 : List Tok}, AtM g i r → AtM g (i + r.length) r1 → AtM g i (r ++ r1)
  | _, [], _, _, h => h
  | i, t :: r, r1, h, h1 => by
    refine ⟨h.1, h.2.1, AtM_join h.2.2 ?_⟩
    rw [show i + 1 + r.length = i + (t :: r).length by rw [List.length_cons]; omega]
    exact h1
theorem AtM_cg {g g1 : Nat → Int} : ∀ {i : Nat} {r : List Tok}, AtM g i r → (∀ j, i ≤ j → j < i + r.length → g1 j = g j) → AtM g1 i r
  | _, [], _, _ => trivial
  | i, t :: r, h, hg => by
    rw [List.length_cons] at hg
    exact ⟨(hg i (by omega) (by omega)).trans h.1, h.2.1, AtM_cg h.2.2 (fun j h1 h2 => hg j (by omega) (by omega))⟩
def KC (E : List Tok) (k : Nat) (s : Hp) : Prop := s 13 1 = (E.length : Int) ∧ At (s 14) 0 E ∧ s 13 2 = (k : Int)
def KM (t : Nat) (F : List Tok) (k : Nat) (M : Hp) : Prop := M 146 11 = (t : Int) ∧ M 149 t = (F.length : Int) ∧ AtM (M 148) (400 * t) F ∧ M 146 12 = (k : Int)
def HE (s s1 : Hp) : Prop := ∀ P, P ≠ 1 → P ≠ 13 → P ≠ 14 → s1 P = s P
/-- what a sum leaves alone in the reference -/
def HU (t : Nat) (M M1 : Hp) : Prop := (∀ P, P ≠ 146 → P ≠ 148 → P ≠ 149 → M1 P = M P) ∧ (∀ q, q ≠ 8 → q ≠ 9 → q ≠ 10 → q ≠ 12 → M1 146 q = M 146 q) ∧ ∀ i, ¬ (400 * t ≤ i ∧ i < 400 * t + 400) → M1 148 i = M 148 i
section K1
variable {T : Nat → Int} {n t k : Nat} {E F : List Tok} {s M : Hp}
theorem HE_rf : HE s s := fun _ _ _ _ => rfl
theorem HE_tr {s1 s2 : Hp} (h : HE s s1) (g : HE s1 s2) : HE s s2 := fun P a b c => (g P a b c).trans (h P a b c)
theorem HE_1 {q : Nat} {v : Int} : HE s (uh s 1 q v) := fun P a _ _ => uh_row a
theorem HU_rf : HU t M M := ⟨fun _ _ _ _ => rfl, fun _ _ _ _ _ => rfl, fun _ _ => rfl⟩
theorem HU_tr {M1 M2 : Hp} (h : HU t M M1) (g : HU t M1 M2) : HU t M M2 := ⟨fun P a b c => (g.1 P a b c).trans (h.1 P a b c), fun q a b c d => (g.2.1 q a b c d).trans (h.2.1 q a b c d), fun i hi => (g.2.2 i hi).trans (h.2.2 i hi)⟩
theorem HU_1 {q : Nat} {v : Int} (hq : q = 8 ∨ q = 9 ∨ q = 10 ∨ q = 12) : HU t M (uh M 146 q v) := ⟨fun P a _ _ => uh_row a, fun z a b c d => uh_ro _ _ _ _ (by omega), fun i _ => by rw [uh_row (by decide)]⟩
theorem HU_f {M1 : Hp} (h : FMr M M1) : HU t M M1 := ⟨fun P a _ _ => h.1 P a, fun q a b c _ => h.2 q a b c, fun i _ => by rw [h.1 148 (by decide)]⟩
theorem HE_f {s1 : Hp} (h : FE s s1) : HE s s1 := fun P a _ _ => h P a
theorem KC_add {op v : Nat} {c : Int} (h : KC E k s) (hE : E.length < 400) (hv : v ≤ 99999) (hc : c = ((32 * v + op : Nat) : Int)) : ∃ s1, xr_addStep s c = some s1 ∧ KC (E ++ [(op, v)]) k s1 ∧ ∀ P, P ≠ 13 → P ≠ 14 → s1 P = s P := by
  obtain ⟨h1, h2, h3⟩ := h
  unfold xr_addStep
  rw [h1, w32_eq (x := (E.length : Int)) (by omega) (by omega), show w32 400 = 400 by decide, if_pos (by omega), ixt (n := 400) (j := (E.length : Int)) E.length rfl hE (by decide)]
  simp only [obs]
  refine ⟨_, rfl, ⟨?_, ?_, ?_⟩, fun P a b => ?_⟩
  · rw [uh_rc, uh_row (by decide), h1, List.length_append]
    show (E.length : Int) + 1 = ((E.length + 1 : Nat) : Int)
    omega
  · rw [uh_row (by decide)]
    refine At_join (At_cg h2 (fun j _ hj => uh_ro _ _ _ _ (by omega))) ⟨?_, hv, trivial⟩
    rw [Nat.zero_add, uh_rc, hc]
  · rw [uh_ro _ _ _ _ (by decide), uh_row (by decide)]; exact h3
  · rw [uh_row a, uh_row b]
theorem KM_put {op v : Nat} (h : KM t F k M) (hF : F.length < 400) (ht : t < 6) (hv : v ≤ 99999) : ∃ M1, xm_puts M ((rop op : Nat) : Int) (v : Int) = some M1 ∧ KM t (F ++ [(op, v)]) k M1 ∧ (∀ P, P ≠ 148 → P ≠ 149 → M1 P = M P) ∧ ∀ i, ¬ (400 * t ≤ i ∧ i < 400 * t + 400) → M1 148 i = M 148 i := by
  obtain ⟨h1, h2, h3, h4⟩ := h
  unfold xm_puts
  rw [h1, ixt (n := 7) (j := (t : Int)) t rfl (by omega) (by decide)]
  simp only [obs]
  rw [h2, ixt (n := 2400) (j := 400 * (t : Int) + (F.length : Int)) (400 * t + F.length) (by omega) (by omega) (by decide)]
  simp only [obs]
  rw [uh_row (by decide), h1, ixt (n := 7) (j := (t : Int)) t rfl (by omega) (by decide)]
  simp only [obs]
  refine ⟨_, rfl, ⟨?_, ?_, ?_, ?_⟩, fun P a b => ?_, fun i hi => ?_⟩
  · rw [uh_row (by decide), uh_row (by decide)]; exact h1
  · rw [uh_rc, uh_row (by decide), h2, List.length_append]
    show (F.length : Int) + 1 = ((F.length + 1 : Nat) : Int)
    omega
  · rw [uh_row (by decide)]
    refine AtM_join (AtM_cg h3 (fun j _ hj => uh_ro _ _ _ _ (by omega))) ⟨?_, hv, trivial⟩
    rw [uh_rc]
    show _ = ((rop op + 16 * v : Nat) : Int)
    omega
  · rw [uh_row (by decide), uh_row (by decide)]; exact h4
  · rw [uh_row b, uh_row a]
  · rw [uh_row (by decide), uh_ro _ _ _ _ (by omega)]
/-- behind a fault the class goes on, and nobody sees it -/
def CF (T : Nat → Int) (n : Nat) (s : Hp) : Prop := TC T n s ∧ 0 < s 1 3 ∧ s 1 3 < 10000 ∧ (∃ i : Nat, s 1 2 = (i : Int) ∧ i ≤ n) ∧ 0 ≤ s 13 1 ∧ s 13 1 ≤ 400
def CX (T : Nat → Int) (n : Nat) (s s1 : Hp) : Prop := CF T n s1 ∧ s1 1 3 = s 1 3 ∧ HE s s1
theorem CX_rf (h : CF T n s) : CX T n s s := ⟨h, rfl, HE_rf⟩
theorem CX_tr {s1 s2 : Hp} (h : CX T n s s1) (g : CX T n s1 s2) : CX T n s s2 := ⟨g.1, g.2.1.trans h.2.1, HE_tr h.2.2 g.2.2⟩
theorem CX_add {c : Int} (h : CF T n s) : ∃ s1, xr_addStep s c = some s1 ∧ CX T n s s1 := by
  obtain ⟨h1, h2, h3, h4, h5, h6⟩ := id h
  unfold xr_addStep
  rw [w32_eq (x := s 13 1) (by omega) (by omega), show w32 400 = 400 by decide]
  by_cases hq : s 13 1 < 400
  · obtain ⟨z, hz⟩ : ∃ z : Nat, s 13 1 = (z : Int) := ⟨(s 13 1).toNat, by omega⟩
    rw [if_pos hq, ixt (n := 400) (j := s 13 1) z hz (by omega) (by decide)]
    simp only [obs]
    refine ⟨_, rfl, ⟨⟨?_, ?_⟩, ?_, ?_, ?_, ?_, ?_⟩, ?_, fun P a b d => ?_⟩
    · rw [uh_row (by decide), uh_row (by decide)]; exact h1.1
    · rw [uh_row (by decide), uh_row (by decide)]; exact h1.2
    · rw [uh_row (by decide), uh_row (by decide)]; exact h2
    · rw [uh_row (by decide), uh_row (by decide)]; exact h3
    · rw [uh_row (p := 1) (by decide), uh_row (p := 1) (by decide)]; exact h4
    · rw [uh_rc, uh_row (by decide)]; omega
    · rw [uh_rc, uh_row (by decide)]; omega
    · rw [uh_row (by decide), uh_row (by decide)]
    · rw [uh_row b, uh_row d]
  · rw [if_neg hq]
    exact ⟨s, rfl, CX_rf h⟩
theorem xf_same {f c : Int} (h0 : 0 < s 1 3) (h1 : s 1 3 < 10000) : xt_fail s f c = some s := by
  unfold xt_fail
  rw [w32_eq (x := s 1 3) (by omega) (by omega), if_neg (by omega)]
theorem CF_13 {v : Int} (h : CF T n s) : CF T n (uh s 13 2 v) := by
  obtain ⟨h1, h2, h3, h4, h5, h6⟩ := h
  refine ⟨⟨?_, ?_⟩, ?_, ?_, ?_, ?_, ?_⟩
  · rw [uh_row (by decide)]; exact h1.1
  · rw [uh_row (by decide)]; exact h1.2
  · rw [uh_row (by decide)]; exact h2
  · rw [uh_row (by decide)]; exact h3
  · rw [uh_row (by decide)]; exact h4
  · rw [uh_ro _ _ _ _ (by decide)]; exact h5
  · rw [uh_ro _ _ _ _ (by decide)]; exact h6
theorem CX_count {c : Int} (h : CF T n s) : ∃ s1, xr_countItem s c = some s1 ∧ CX T n s s1 := by
  have h2 := CF_13 (v := s 13 2 + 1) h
  have hx : CX T n s (uh s 13 2 (s 13 2 + 1)) := ⟨h2, by rw [uh_row (by decide)], fun P a b d => uh_row b⟩
  unfold xr_countItem
  simp only [obs]
  rw [xf_same h2.2.1 h2.2.2.1]
  simp only [obs]
  rw [ite_sm]
  exact ⟨_, rfl, hx⟩
/-- the rule so far, both sides at one place -/
def KR (T : Nat → Int) (n t k : Nat) (E F : List Tok) (s M : Hp) : Prop := RP T n s M ∧ KC E k s ∧ KM t F k M ∧ t < 6 ∧ k ≤ 60 ∧ 3 * E.length ≤ 16 * k + 100 ∧ F.length ≤ E.length
/-- a fault on both sides -/
def KF (T : Nat → Int) (n : Nat) (s M : Hp) : Prop := RF T n s M ∧ 0 ≤ s 13 1 ∧ s 13 1 ≤ 400
theorem KF_c (h : KF T n s M) : CF T n s := ⟨h.1.1, h.1.2.2.2.1, h.1.2.2.2.2.1, h.1.2.2.2.2.2, h.2.1, h.2.2⟩
theorem KF_x {s1 : Hp} (h : KF T n s M) (g : CX T n s s1) : KF T n s1 M := ⟨⟨g.1.1, h.1.2.1, g.2.1.trans h.1.2.2.1, g.1.2.1, g.1.2.2.1, g.1.2.2.2.1⟩, g.1.2.2.2.2.1, g.1.2.2.2.2.2⟩
theorem RP_rows {s1 M1 : Hp} (h : RP T n s M) (e1 : s1 1 = s 1) (e2 : s1 2 = s 2) (f : ∀ q, q = 1 ∨ q = 8 ∨ q = 9 → M1 146 q = M 146 q) (g : M1 147 = M 147) : RP T n s1 M1 := by
  obtain ⟨tc, tm, s3, m9, i, hi, hin, hs2⟩ := h
  exact ⟨⟨by rw [e1]; exact tc.1, by rw [e2]; exact tc.2⟩, ⟨by rw [f 1 (by omega)]; exact tm.1, fun j hj => by rw [g]; exact tm.2 j hj⟩, by rw [e1]; exact s3, by rw [f 9 (by omega)]; exact m9, i, by rw [f 8 (by omega)]; exact hi, hin, by rw [e1]; exact hs2⟩
theorem KC_row {s1 : Hp} (h : KC E k s) (e1 : s1 13 = s 13) (e2 : s1 14 = s 14) : KC E k s1 := by
  unfold KC at h ⊢
  rw [e1, e2]; exact h
theorem KM_row {M1 : Hp} (h : KM t F k M) (f : ∀ q, q = 11 ∨ q = 12 → M1 146 q = M 146 q) (e1 : M1 148 = M 148) (e2 : M1 149 = M 149) : KM t F k M1 := by
  unfold KM at h ⊢
  rw [e1, e2, f 11 (by omega), f 12 (by omega)]; exact h
theorem KM_8 {v : Int} {q : Nat} (h : KM t F k M) (hq : q ≠ 11 ∧ q ≠ 12) : KM t F k (uh M 146 q v) := KM_row h (fun z hz => uh_ro _ _ _ _ (by omega)) (uh_row (by decide)) (uh_row (by decide))
theorem KC_1 {v : Int} {q : Nat} (h : KC E k s) : KC E k (uh s 1 q v) := KC_row h (uh_row (by decide)) (uh_row (by decide))
/-- where both stand -/
theorem RP_see (hb : TB T n) (h : RP T n s M) : ∃ p : Nat, p ≤ n ∧ s 1 2 = (p : Int) ∧ skp (isB T) n p = p ∧ xm_see M = some (if p < n then T p else -1, uh M 146 8 (p : Int)) ∧ RP T n s (uh M 146 8 (p : Int)) := by
  obtain ⟨tc, tm, s3, m9, i, hi, hin, hs2⟩ := h
  have hle := skp_le (p := isB T) hin
  have hid := skp_id (p := isB T) (n := n) (i := i)
  have hsee := rt_blanks hb tm hi hin
  refine ⟨_, hle, hs2, hid, hsee, tc, TM_u tm (by decide), s3, by rw [uh_ro _ _ _ _ (by decide)]; exact m9, _, uh_rc _ _ _ _, hle, by rw [hid]; exact hs2⟩
theorem RP_go {p e : Nat} (h : RP T n s M) (he : e ≤ n) (hp : p = skp (isB T) n e) : RP T n (uh s 1 2 (p : Int)) (uh M 146 8 (e : Int)) := by
  obtain ⟨tc, tm, s3, m9, -⟩ := h
  refine ⟨TC_u tc (by decide), TM_u tm (by decide), by rw [uh_ro _ _ _ _ (by decide)]; exact s3, by rw [uh_ro _ _ _ _ (by decide)]; exact m9, e, uh_rc _ _ _ _, he, by rw [uh_rc, hp]⟩
theorem KR_go {p e : Nat} (h : KR T n t k E F s M) (he : e ≤ n) (hp : p = skp (isB T) n e) : KR T n t k E F (uh s 1 2 (p : Int)) (uh M 146 8 (e : Int)) := ⟨RP_go h.1 he hp, KC_1 h.2.1, KM_8 h.2.2.1 (by decide), h.2.2.2⟩
theorem KR_see {p : Nat} (h : KR T n t k E F s M) (hr : RP T n s (uh M 146 8 (p : Int))) : KR T n t k E F s (uh M 146 8 (p : Int)) := ⟨hr, h.2.1, KM_8 h.2.2.1 (by decide), h.2.2.2⟩
/-- one sign more on both sides -/
theorem KR_op {op : Nat} {c d : Int} (h : KR T n t k E F s M) (hE : 3 * (E.length + 1) ≤ 16 * k + 100) (hc : c = (op : Int)) (hd : d = ((rop op : Nat) : Int)) : ∃ s1 M1, xr_addStep s c = some s1 ∧ xm_puts M d 0 = some M1 ∧ KR T n t k (E ++ [(op, 0)]) (F ++ [(op, 0)]) s1 M1 ∧ HE s s1 ∧ HU t M M1 := by
  obtain ⟨rp, kc, km, ht, hk, hp, hf⟩ := h
  obtain ⟨s1, a1, a2, a3⟩ := KC_add (op := op) (v := 0) (c := c) kc (by omega) (by decide) (by rw [hc]; omega)
  obtain ⟨M1, b1, b2, b3, b4⟩ := KM_put (op := op) (v := 0) km (by omega) ht (by decide)
  rw [hd]
  refine ⟨s1, M1, a1, b1, ⟨RP_rows rp (a3 1 (by decide) (by decide)) (a3 2 (by decide) (by decide)) (fun q _ => by rw [b3 146 (by decide) (by decide)]) (b3 147 (by decide) (by decide)), a2, b2, ht, hk, ?_, ?_⟩, fun P _ b c => a3 P b c, ⟨fun P _ b c => b3 P b c, fun q _ _ _ _ => by rw [b3 146 (by decide) (by decide)], b4⟩⟩
  · rw [List.length_append]; exact hE
  · rw [List.length_append, List.length_append]; omega
end K1
