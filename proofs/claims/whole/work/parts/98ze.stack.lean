/-! the row of opened signs of the reference -/
theorem SA_cg {g g1 : Nat → Int} : ∀ {st : List Int}, SA g st → (∀ j, j < st.length → g1 j = g j) → SA g1 st
  | [], _, _ => trivial
  | x :: r, h, hg => ⟨(hg r.length (by rw [List.length_cons]; omega)).trans h.1, SA_cg h.2 (fun j hj => hg j (by rw [List.length_cons]; omega))⟩
theorem SA_in {g : Nat → Int} {c : Int} : ∀ {st : List Int}, SA g st → (c ∈ st ↔ ∃ j, j < st.length ∧ g j = c)
  | [], _ => ⟨fun h => absurd h (List.not_mem_nil), fun h => by obtain ⟨j, hj, -⟩ := h; exact absurd hj (Nat.not_lt_zero _)⟩
  | x :: r, h => by
    rw [List.mem_cons, SA_in (c := c) h.2, List.length_cons]
    constructor
    · rintro (rfl | ⟨j, h1, h2⟩)
      · exact ⟨r.length, by omega, h.1⟩
      · exact ⟨j, by omega, h2⟩
    · rintro ⟨j, h1, h2⟩
      by_cases hj : j = r.length
      · left; rw [← h2, hj]; exact h.1
      · right; exact ⟨j, by omega, h2⟩
def KS (st : List Int) (d : Nat) (M : Hp) : Prop := M 146 16 = (st.length : Int) ∧ SA (M 153) st ∧ M 146 13 = (d : Int) ∧ ∀ c, c ∈ st → c = 11 ∨ c = 12 ∨ c = 13 ∨ c = 91
/-- what a test leaves alone in the reference -/
def HT (t : Nat) (M M1 : Hp) : Prop := (∀ P, P ≠ 146 → P ≠ 148 → P ≠ 149 → P ≠ 153 → M1 P = M P) ∧ (∀ q, q ≠ 8 → q ≠ 9 → q ≠ 10 → q ≠ 12 → q ≠ 13 → q ≠ 16 → M1 146 q = M 146 q) ∧ ∀ i, ¬ (400 * t ≤ i ∧ i < 400 * t + 400) → M1 148 i = M 148 i
section KK
variable {T : Nat → Int} {n t k d : Nat} {E F : List Tok} {s M : Hp} {st : List Int}
theorem HT_rf : HT t M M := ⟨fun _ _ _ _ _ => rfl, fun _ _ _ _ _ _ _ => rfl, fun _ _ => rfl⟩
theorem HT_tr {M1 M2 : Hp} (h : HT t M M1) (g : HT t M1 M2) : HT t M M2 := ⟨fun P a b c e => (g.1 P a b c e).trans (h.1 P a b c e), fun q a b c e f i => (g.2.1 q a b c e f i).trans (h.2.1 q a b c e f i), fun i hi => (g.2.2 i hi).trans (h.2.2 i hi)⟩
theorem HT_u {M1 : Hp} (h : HU t M M1) : HT t M M1 := ⟨fun P a b c _ => h.1 P a b c, fun q a b c e _ _ => h.2.1 q a b c e, h.2.2⟩
theorem HT_1 {q : Nat} {v : Int} (hq : q = 8 ∨ q = 9 ∨ q = 10 ∨ q = 12 ∨ q = 13 ∨ q = 16) : HT t M (uh M 146 q v) := ⟨fun P a _ _ _ => uh_row a, fun z a b c e f i => uh_ro _ _ _ _ (by omega), fun i _ => by rw [uh_row (by decide)]⟩
theorem HT_153 {q : Nat} {v : Int} : HT t M (uh M 153 q v) := ⟨fun P _ _ _ a => uh_row a, fun z _ _ _ _ _ _ => by rw [uh_row (by decide)], fun i _ => by rw [uh_row (by decide)]⟩
theorem KS_row {M1 : Hp} (h : KS st d M) (e1 : M1 146 16 = M 146 16) (e2 : M1 153 = M 153) (e3 : M1 146 13 = M 146 13) : KS st d M1 := by
  unfold KS at h ⊢
  rw [e1, e2, e3]; exact h
theorem KS_u {M1 : Hp} (h : KS st d M) (g : HU t M M1) : KS st d M1 := KS_row h (g.2.1 16 (by decide) (by decide) (by decide) (by decide)) (g.1 153 (by decide) (by decide) (by decide)) (g.2.1 13 (by decide) (by decide) (by decide) (by decide))
theorem KS_8 {v : Int} (h : KS st d M) : KS st d (uh M 146 8 v) := KS_row h (uh_ro _ _ _ _ (by decide)) (uh_row (by decide)) (uh_ro _ _ _ _ (by decide))
/-- a sign laid on -/
theorem KS_push {c : Int} (h : KS st d M) (hc : c = 11 ∨ c = 12 ∨ c = 13 ∨ c = 91) : KS (c :: st) d (uh (uh M 153 st.length c) 146 16 ((st.length : Int) + 1)) := by
  obtain ⟨h1, h2, h3, h4⟩ := h
  refine ⟨?_, ⟨?_, SA_cg h2 (fun j hj => ?_)⟩, ?_, fun z hz => by rcases List.mem_cons.mp hz with rfl | hz; exact hc; exact h4 z hz⟩
  · rw [uh_rc, List.length_cons]; omega
  · rw [uh_row (by decide), uh_rc]
  · rw [uh_row (by decide), uh_ro _ _ _ _ (by omega)]
  · rw [uh_ro _ _ _ _ (by decide), uh_row (by decide)]; exact h3
theorem op_ok {c : Int} (h : KS st d M) (hd : d < 10) (hl : st.length < 400) (hc : c = 11 ∨ c = 12 ∨ c = 13 ∨ c = 91) : ∃ M1, xm_opens M c = some (1, M1) ∧ KS (c :: st) (d + 1) M1 ∧ (∀ P, P ≠ 146 → P ≠ 153 → M1 P = M P) ∧ (∀ q, q ≠ 13 → q ≠ 16 → M1 146 q = M 146 q) := by
  obtain ⟨h1, h2, h3, h4⟩ := id h
  unfold xm_opens
  rw [h3, w32_eq (x := (d : Int)) (by omega) (by omega), show w32 10 = 10 by decide, if_neg (by omega)]
  simp only [obs]
  have e16 : uh M 146 13 ((d : Int) + 1) 146 16 = (st.length : Int) := by rw [uh_ro _ _ _ _ (by decide)]; exact h1
  rw [e16, ixt (n := 400) (j := (st.length : Int)) st.length rfl hl (by decide)]
  simp only [obs]
  have e16b : uh (uh M 146 13 ((d : Int) + 1)) 153 st.length c 146 16 = (st.length : Int) := by rw [uh_row (by decide)]; exact e16
  rw [e16b]
  have ks1 : KS st (d + 1) (uh M 146 13 ((d : Int) + 1)) := ⟨e16, by rw [uh_row (by decide)]; exact h2, by rw [uh_rc]; omega, h4⟩
  refine ⟨_, rfl, KS_push ks1 hc, fun P a b => ?_, fun q a b => ?_⟩
  · rw [uh_row a, uh_row b, uh_row a]
  · rw [uh_ro _ _ _ _ b, uh_row (by decide), uh_ro _ _ _ _ a]
theorem op_no {c : Int} {p : Nat} (h : KS st d M) (hd : d = 10) (m9 : M 146 9 = 0) (h8 : M 146 8 = (p : Int)) : xm_opens M c = some (0, uh M 146 9 (1 + 8 * (p : Int) + 2)) := by
  unfold xm_opens
  rw [h.2.2.1, w32_eq (x := (d : Int)) (by omega) (by omega), show w32 10 = 10 by decide, if_pos (by omega), h8, rm_fails m9]
  simp only [obs]
  rw [if_pos (Or.inl (by decide))]
/-- how strong a sign is -/
def str (c : Int) : Int := if c = 13 then 1 else if c = 12 then 2 else if c = 11 then 3 else 0
theorem rm_str {c : Int} (h0 : 0 ≤ c) (h1 : c ≤ 100) : xm_strength c = some (str c) := by
  unfold xm_strength str
  rw [w32_eq (x := c) (by omega) (by omega), show w32 13 = 13 by decide, show w32 12 = 12 by decide, show w32 11 = 11 by decide]
  by_cases a : c = 13
  · rw [if_pos a, if_pos a]
  · rw [if_neg a, if_neg a]
    by_cases b : c = 12
    · rw [if_pos b, if_pos b]
    · rw [if_neg b, if_neg b]
      by_cases e : c = 11
      · rw [if_pos e, if_pos e]
      · rw [if_neg e, if_neg e]
/-- nothing to settle -/
theorem st_stop {x : Int} (h : KS st d M) (hl : st.length < 400) (hx : 0 ≤ x ∧ x ≤ 10) (hs : st = [] ∨ ∃ c r, st = c :: r ∧ 0 ≤ c ∧ c ≤ 100 ∧ str c < x) : xm_settles M x = some M := by
  have key : xm_settles_b0 M x = some (.inr M) := by
    unfold xm_settles_b0
    rw [h.1]
    rcases hs with rfl | ⟨c, r, rfl, c0, c1, hc⟩
    · rw [if_neg (by decide)]
    · have hl2 : (c :: r).length = r.length + 1 := rfl
      rw [w32_eq (x := ((c :: r).length : Int)) (by omega) (by omega), if_pos (by omega), ixt (n := 400) (j := ((c :: r).length : Int) - 1) r.length (by omega) (by omega) (by decide)]
      simp only [obs]
      rw [h.2.1.1, rm_str c0 c1]
      simp only [obs]
      have : 0 ≤ str c := by unfold str; split <;> (try split) <;> (try split) <;> decide
      rw [w32_eq (x := str c) (by omega) (by omega), w32_eq (x := x) (by omega) (by omega), if_pos hc]
  unfold xm_settles
  rw [lp_en (B := fun (q : Hp) => xm_settles_b0 q x) (s := M) key]
  rfl
/-- one sign settled -/
theorem st_pop {x : Int} {op : Nat} (h : KS (((rop op : Nat) : Int) :: st) d M) (km : KM t F k M) (hl : st.length < 400) (hF : F.length < 400) (ht : t < 6) (hx : 0 ≤ x ∧ x ≤ 10) (ho : op = 2 ∨ op = 15 ∨ op = 16) (hs : x ≤ str ((rop op : Nat) : Int)) (hd : op = 2 → 0 < d) : ∃ M1, xm_settles M x = xm_settles M1 x ∧ KS st (if op = 2 then d - 1 else d) M1 ∧ KM t (F ++ [(op, 0)]) k M1 ∧ HT t M M1 ∧ (∀ q, q ≠ 13 → q ≠ 16 → M1 146 q = M 146 q) ∧ ∀ P, P ≠ 146 → P ≠ 148 → P ≠ 149 → M1 P = M P := by
  obtain ⟨h1, h2, h3, h4⟩ := id h
  have h4' : ∀ c, c ∈ st → c = 11 ∨ c = 12 ∨ c = 13 ∨ c = 91 := fun c hc => h4 c (List.mem_cons_of_mem _ hc)
  have hr : 11 ≤ rop op ∧ rop op ≤ 13 ∧ (rop op = 11 ↔ op = 2) := by
    rcases ho with rfl | rfl | rfl <;> decide
  have hl2 : ((((rop op : Nat) : Int) :: st).length : Int) = (st.length : Int) + 1 := by rw [List.length_cons]; omega
  have kmp : KM t F k (uh M 146 16 (st.length : Int)) := KM_8 km (by decide)
  obtain ⟨Ma, a1, a2, a3, a4⟩ := KM_put (op := op) (v := 0) kmp hF ht (by decide)
  have ea : Ma 146 16 = (st.length : Int) := by rw [a3 146 (by decide) (by decide), uh_rc]
  have e153 : Ma 153 = M 153 := by rw [a3 153 (by decide) (by decide), uh_row (by decide)]
  have ea13 : Ma 146 13 = (d : Int) := by rw [a3 146 (by decide) (by decide), uh_ro _ _ _ _ (by decide)]; exact h3
  have key : xm_settles_b0 M x = some (.inl (if op = 2 then uh Ma 146 13 ((d : Int) - 1) else Ma)) := by
    unfold xm_settles_b0
    rw [h1, hl2, w32_eq (x := (st.length : Int) + 1) (by omega) (by omega), if_pos (by omega), ixt (n := 400) (j := (st.length : Int) + 1 - 1) st.length (by omega) (by omega) (by decide)]
    simp only [obs]
    rw [h2.1, rm_str (by omega) (by omega)]
    simp only [obs]
    have hsb : str ((rop op : Nat) : Int) ≤ 3 := by unfold str; split <;> (try split) <;> (try split) <;> decide
    rw [w32_eq (x := str ((rop op : Nat) : Int)) (by omega) (by omega), w32_eq (x := x) (by omega) (by omega), if_neg (by omega), show (st.length : Int) + 1 - 1 = (st.length : Int) by omega, uh_rc, ixt (n := 400) (j := (st.length : Int)) st.length rfl (by omega) (by decide)]
    simp only [obs]
    rw [uh_row (p := 153) (by decide), h2.1]
    have a1' : xm_puts (uh M 146 16 (st.length : Int)) ((rop op : Nat) : Int) 0 = some Ma := a1
    rw [a1']
    simp only [obs]
    rw [ea, ixt (n := 400) (j := (st.length : Int)) st.length rfl (by omega) (by decide)]
    simp only [obs]
    rw [e153, h2.1, w32_eq (x := ((rop op : Nat) : Int)) (by omega) (by omega), show w32 11 = 11 by decide, ea13]
    by_cases o2 : op = 2
    · rw [if_pos (by have := hr.2.2.mpr o2; omega), if_pos o2]
    · rw [if_neg (fun q => o2 (hr.2.2.mp (by omega))), if_neg o2]
  have hset : xm_settles M x = xm_settles (if op = 2 then uh Ma 146 13 ((d : Int) - 1) else Ma) x := by
    unfold xm_settles
    rw [lp_in (B := fun (q : Hp) => xm_settles_b0 q x) (s := M) key]
  have hta : HT t M Ma := HT_tr (HT_1 (q := 16) (v := (st.length : Int)) (by omega)) ⟨fun P a b c _ => a3 P b c, fun q _ _ _ _ _ _ => by rw [a3 146 (by decide) (by decide)], a4⟩
  have ksa : KS st d Ma := ⟨ea, by rw [e153]; exact h2.2, ea13, h4'⟩
  refine ⟨_, hset, ?_⟩
  by_cases o2 : op = 2
  · have hd0 := hd o2
    rw [if_pos o2, if_pos o2]
    refine ⟨⟨?_, ?_, ?_, h4'⟩, KM_8 a2 (by decide), HT_tr hta (HT_1 (by omega)), fun q q1 q2 => ?_, fun P p1 p2 p3 => ?_⟩
    · rw [uh_ro _ _ _ _ (by decide)]; exact ea
    · rw [uh_row (by decide)]; exact ksa.2.1
    · rw [uh_rc]; omega
    · rw [uh_ro _ _ _ _ q1, a3 146 (by decide) (by decide), uh_ro _ _ _ _ q2]
    · rw [uh_row p1, a3 P p2 p3, uh_row p1]
  · rw [if_neg o2, if_neg o2]
    refine ⟨ksa, a2, hta, fun q q1 q2 => ?_, fun P p1 p2 p3 => ?_⟩
    · rw [a3 146 (by decide) (by decide), uh_ro _ _ _ _ q2]
    · rw [a3 P p2 p3, uh_row p1]
/-- the signs and, or that wait -/
def pnd (a o : Bool) : List Nat := (if a then [15] else []) ++ (if o then [16] else [])
def rpl (p : List Nat) : List Int := p.map (fun op => ((rop op : Nat) : Int))
def tkl (p : List Nat) : List Tok := p.map (fun op => (op, 0))
/-- all that is at least as strong is settled -/
theorem st_run {x : Int} (ht : t < 6) (hx : 0 ≤ x ∧ x ≤ 10) : ∀ (p : List Nat) (F : List Tok) (M : Hp), (∀ op, op ∈ p → (op = 15 ∨ op = 16) ∧ x ≤ str ((rop op : Nat) : Int)) → KS (rpl p ++ st) d M → KM t F k M → p.length + st.length < 400 → F.length + p.length < 400 → (st = [] ∨ ∃ c r, st = c :: r ∧ 0 ≤ c ∧ c ≤ 100 ∧ str c < x) → ∃ M1, xm_settles M x = some M1 ∧ KS st d M1 ∧ KM t (F ++ tkl p) k M1 ∧ HT t M M1 ∧ (∀ q, q ≠ 13 → q ≠ 16 → M1 146 q = M 146 q) ∧ ∀ P, P ≠ 146 → P ≠ 148 → P ≠ 149 → M1 P = M P
  | [], F, M, _, h, km, hl, _, hs => by
    refine ⟨M, st_stop (st := st) h (by have : ([] : List Nat).length = 0 := rfl; omega) hx hs, h, ?_, HT_rf, fun _ _ _ => rfl, fun _ _ _ _ => rfl⟩
    show KM t (F ++ []) k M
    rw [List.append_nil]; exact km
  | op :: p, F, M, hp, h, km, hl, hF, hs => by
    obtain ⟨ho, hst⟩ := hp op (List.mem_cons_self ..)
    have hll : (op :: p).length = p.length + 1 := rfl
    have hrl : (rpl p ++ st).length = p.length + st.length := by rw [List.length_append]; unfold rpl; rw [List.length_map]
    obtain ⟨Ma, a1, a2, a3, a4, a5, a6⟩ := st_pop (op := op) (st := rpl p ++ st) (x := x) h km (by omega) (by omega) ht hx (by omega) hst (fun q => by omega)
    rw [if_neg (by omega)] at a2
    obtain ⟨M1, b1, b2, b3, b4, b5, b6⟩ := st_run ht hx p (F ++ [(op, 0)]) Ma (fun o q => hp o (List.mem_cons_of_mem _ q)) a2 a3 (by omega) (by rw [List.length_append]; show F.length + 1 + p.length < 400; omega) hs
    refine ⟨M1, a1.trans b1, b2, ?_, HT_tr a4 b4, fun q q1 q2 => (b5 q q1 q2).trans (a5 q q1 q2), fun P p1 p2 p3 => (b6 P p1 p2 p3).trans (a6 P p1 p2 p3)⟩
    rw [List.append_assoc] at b3
    exact b3
/-- is a '[' opened -/
theorem in_b2 {i : Nat} (h : KS st d M) (hl : st.length < 400) (hi : i < st.length) : xm_isInside_b2 M (i : Int) = if M 153 i = 91 then some (.inr (.inr 1)) else some (.inl ((i + 1 : Nat) : Int)) := by
  have hv : 0 ≤ M 153 i ∧ M 153 i ≤ 100 := by
    have := h.2.2.2 (M 153 i) ((SA_in h.2.1).mpr ⟨i, hi, rfl⟩)
    omega
  unfold xm_isInside_b2
  rw [h.1, w32_eq (x := (i : Int)) (by omega) (by omega), w32_eq (x := (st.length : Int)) (by omega) (by omega), if_pos (by omega), ixt (n := 400) (j := (i : Int)) i rfl (by omega) (by decide)]
  simp only [obs]
  rw [w32_eq (x := M 153 i) (by omega) (by omega), show w32 91 = 91 by decide]
  rfl
theorem in_yes (h : KS st d M) (hl : st.length < 400) (hm : (91 : Int) ∈ st) : xm_isInside M = some 1 := by
  have key : ∀ (g i : Nat), g = st.length - i → (∃ j, i ≤ j ∧ j < st.length ∧ M 153 j = 91) → ((lp (fun (q : Int) => xm_isInside_b2 M q) (i : Int)).bind fun q1 => q1.elim (fun _ => some 0) (fun r => some r)) = some 1 := by
    intro g
    induction g with
    | zero =>
      rintro i hg ⟨j, j1, j2, -⟩
      omega
    | succ g ih =>
      rintro i hg ⟨j, j1, j2, j3⟩
      have hb := in_b2 (i := i) h hl (by omega)
      by_cases hq : M 153 i = 91
      · rw [if_pos hq] at hb
        rw [lp_en (B := fun (q : Int) => xm_isInside_b2 M q) hb]
        rfl
      · rw [if_neg hq] at hb
        rw [lp_in (B := fun (q : Int) => xm_isInside_b2 M q) hb]
        refine ih (i + 1) (by omega) ⟨j, ?_, j2, j3⟩
        by_cases hji : j = i
        · subst hji; exact absurd j3 hq
        · omega
  obtain ⟨j, j1, j2⟩ := (SA_in h.2.1).mp hm
  exact key st.length 0 rfl ⟨j, Nat.zero_le _, j1, j2⟩
theorem in_no (h : KS st d M) (hl : st.length < 400) (hm : ¬ (91 : Int) ∈ st) : xm_isInside M = some 0 := by
  have key : ∀ (g i : Nat), g = st.length - i → i ≤ st.length → ((lp (fun (q : Int) => xm_isInside_b2 M q) (i : Int)).bind fun q1 => q1.elim (fun _ => some 0) (fun r => some r)) = some 0 := by
    intro g
    induction g with
    | zero =>
      intro i hg hi
      have : xm_isInside_b2 M (i : Int) = some (.inr (.inl (i : Int))) := by
        unfold xm_isInside_b2
        rw [h.1, w32_eq (x := (i : Int)) (by omega) (by omega), w32_eq (x := (st.length : Int)) (by omega) (by omega), if_neg (by omega)]
      rw [lp_en (B := fun (q : Int) => xm_isInside_b2 M q) this]
      rfl
    | succ g ih =>
      intro i hg hi
      have hb := in_b2 (i := i) h hl (by omega)
      rw [if_neg (fun q => hm ((SA_in h.2.1).mpr ⟨i, by omega, q⟩))] at hb
      rw [lp_in (B := fun (q : Int) => xm_isInside_b2 M q) hb]
      exact ih (i + 1) (by omega) (by omega)
  exact key st.length 0 rfl (Nat.zero_le _)
end KK
