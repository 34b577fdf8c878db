/-! one clause of a rule, both sides -/
def sgC : List Cls → List Tok
  | [] => []
  | (sm, none) :: r => sm ++ sgC r
  | (sm, some te) :: r => sm ++ (te ++ sgC r)
def RI (g : Nat → Int) (T : Nat) : Nat → Nat → List Cls → Prop
  | _, _, [] => True
  | c, i, (sm, none) :: r => g (48 * T + 4 * c) = (i : Int) ∧ g (48 * T + 4 * c + 1) = ((i + sm.length : Nat) : Int) ∧ g (48 * T + 4 * c + 2) = -1 ∧ RI g T (c + 1) (i + sm.length) r
  | c, i, (sm, some te) :: r => g (48 * T + 4 * c) = (i : Int) ∧ g (48 * T + 4 * c + 1) = ((i + sm.length : Nat) : Int) ∧ g (48 * T + 4 * c + 2) = ((i + sm.length : Nat) : Int) ∧ g (48 * T + 4 * c + 3) = ((i + sm.length + te.length : Nat) : Int) ∧ RI g T (c + 1) (i + sm.length + te.length) r
theorem sgC_app : ∀ (R R1 : List Cls), sgC (R ++ R1) = sgC R ++ sgC R1
  | [], _ => rfl
  | (sm, none) :: r, R1 => by
    show sm ++ sgC (r ++ R1) = (sm ++ sgC r) ++ sgC R1
    rw [sgC_app r R1, List.append_assoc]
  | (sm, some te) :: r, R1 => by
    show sm ++ (te ++ sgC (r ++ R1)) = (sm ++ (te ++ sgC r)) ++ sgC R1
    rw [sgC_app r R1, List.append_assoc, List.append_assoc]
theorem encC_app : ∀ (R R1 : List Cls), encC (R ++ R1) = encC R ++ encC R1
  | [], _ => rfl
  | (sm, none) :: r, R1 => by
    show sm ++ (3, 0) :: encC (r ++ R1) = (sm ++ (3, 0) :: encC r) ++ encC R1
    rw [encC_app r R1, List.append_assoc, List.cons_append]
  | (sm, some te) :: r, R1 => by
    show sm ++ (te ++ (4, 0) :: encC (r ++ R1)) = (sm ++ (te ++ (4, 0) :: encC r)) ++ encC R1
    rw [encC_app r R1, List.append_assoc, List.append_assoc, List.cons_append]
theorem wfC_app : ∀ (R : List Cls) {R1 : List Cls}, wfC R → wfC R1 → wfC (R ++ R1)
  | [], _, _, h => h
  | (_, _) :: r, _, h, h1 => ⟨h.1, h.2.1, wfC_app r h.2.2 h1⟩
theorem lenC_sg : ∀ R : List Cls, lenC R = (sgC R).length
  | [] => rfl
  | (sm, none) :: r => by
    show sm.length + lenC r = (sm ++ sgC r).length
    rw [List.length_append, lenC_sg r]
  | (sm, some te) :: r => by
    show sm.length + te.length + lenC r = (sm ++ (te ++ sgC r)).length
    rw [List.length_append, List.length_append, lenC_sg r]; omega
theorem RI_app {g : Nat → Int} {T : Nat} : ∀ (R : List Cls) (c i : Nat) {R1 : List Cls}, RI g T c i R → RI g T (c + R.length) (i + lenC R) R1 → RI g T c i (R ++ R1)
  | [], _, _, _, _, h => h
  | (sm, none) :: r, c, i, R1, h, h1 => by
    refine ⟨h.1, h.2.1, h.2.2.1, RI_app r (c + 1) (i + sm.length) h.2.2.2 ?_⟩
    rw [show c + 1 + r.length = c + ((sm, (none : Option (List Tok))) :: r).length by rw [List.length_cons]; omega, show i + sm.length + lenC r = i + lenC ((sm, none) :: r) by show _ = i + (sm.length + lenC r); omega]
    exact h1
  | (sm, some te) :: r, c, i, R1, h, h1 => by
    refine ⟨h.1, h.2.1, h.2.2.1, h.2.2.2.1, RI_app r (c + 1) (i + sm.length + te.length) h.2.2.2.2 ?_⟩
    rw [show c + 1 + r.length = c + ((sm, some te) :: r).length by rw [List.length_cons]; omega, show i + sm.length + te.length + lenC r = i + lenC ((sm, some te) :: r) by show _ = i + (sm.length + te.length + lenC r); omega]
    exact h1
theorem RI_cg {g g1 : Nat → Int} {T : Nat} : ∀ (R : List Cls) (c i : Nat), RI g T c i R → (∀ j, 48 * T + 4 * c ≤ j → j < 48 * T + 4 * (c + R.length) → g1 j = g j) → RI g1 T c i R
  | [], _, _, _, _ => trivial
  | (sm, none) :: r, c, i, h, hg => by
    rw [List.length_cons] at hg
    exact ⟨(hg _ (by omega) (by omega)).trans h.1, (hg _ (by omega) (by omega)).trans h.2.1, (hg _ (by omega) (by omega)).trans h.2.2.1, RI_cg r (c + 1) _ h.2.2.2 (fun j h1 h2 => hg j (by omega) (by omega))⟩
  | (sm, some te) :: r, c, i, h, hg => by
    rw [List.length_cons] at hg
    exact ⟨(hg _ (by omega) (by omega)).trans h.1, (hg _ (by omega) (by omega)).trans h.2.1, (hg _ (by omega) (by omega)).trans h.2.2.1, (hg _ (by omega) (by omega)).trans h.2.2.2.1, RI_cg r (c + 1) _ h.2.2.2.2 (fun j h1 h2 => hg j (by omega) (by omega))⟩
theorem RM_of {M : Hp} {T : Nat} : ∀ (R : List Cls) (c i : Nat), RI (M 150) T c i R → AtM (M 148) (400 * T + i) (sgC R) → M 151 T = ((c + R.length : Nat) : Int) → RM M T c i R
  | [], c, i, _, _, h => h
  | (sm, none) :: r, c, i, h, ha, h1 => by
    obtain ⟨a1, a2⟩ := AtM_app ha
    refine ⟨h.1, h.2.1, a1, h.2.2.1, RM_of r (c + 1) (i + sm.length) h.2.2.2 (by rw [← Nat.add_assoc]; exact a2) (by rw [h1, List.length_cons]; congr 1; omega)⟩
  | (sm, some te) :: r, c, i, h, ha, h1 => by
    obtain ⟨a1, a2⟩ := AtM_app ha
    obtain ⟨a3, a4⟩ := AtM_app a2
    refine ⟨h.1, h.2.1, a1, h.2.2.1, h.2.2.2.1, by rw [← Nat.add_assoc]; exact a3, RM_of r (c + 1) (i + sm.length + te.length) h.2.2.2.2 (by rw [← Nat.add_assoc, ← Nat.add_assoc]; exact a4) (by rw [h1, List.length_cons]; congr 1; omega)⟩
/-- a rule that stands elsewhere stays -/
theorem RM_seg {M M1 : Hp} {T : Nat} : ∀ (R : List Cls) (c i : Nat), RM M T c i R → (∀ j, 48 * T + 4 * c ≤ j → j < 48 * T + 4 * (c + R.length) → M1 150 j = M 150 j) → (∀ j, 400 * T + i ≤ j → j < 400 * T + i + lenC R → M1 148 j = M 148 j) → M1 151 T = M 151 T → RM M1 T c i R
  | [], _, _, h, _, _, h3 => h3.trans h
  | (sm, none) :: r, c, i, h, h1, h2, h3 => by
    have hl : lenC ((sm, none) :: r) = sm.length + lenC r := rfl
    rw [hl] at h2
    rw [List.length_cons] at h1
    obtain ⟨a1, a2, a3, a4, a5⟩ := h
    exact ⟨(h1 _ (by omega) (by omega)).trans a1, (h1 _ (by omega) (by omega)).trans a2, AtM_cg a3 (fun j x y => h2 j (by omega) (by omega)), (h1 _ (by omega) (by omega)).trans a4, RM_seg r (c + 1) _ a5 (fun j x y => h1 j (by omega) (by omega)) (fun j x y => h2 j (by omega) (by omega)) h3⟩
  | (sm, some te) :: r, c, i, h, h1, h2, h3 => by
    have hl : lenC ((sm, some te) :: r) = sm.length + te.length + lenC r := rfl
    rw [hl] at h2
    rw [List.length_cons] at h1
    obtain ⟨a1, a2, a3, a4, a5, a6, a7⟩ := h
    exact ⟨(h1 _ (by omega) (by omega)).trans a1, (h1 _ (by omega) (by omega)).trans a2, AtM_cg a3 (fun j x y => h2 j (by omega) (by omega)), (h1 _ (by omega) (by omega)).trans a4, (h1 _ (by omega) (by omega)).trans a5, AtM_cg a6 (fun j x y => h2 j (by omega) (by omega)), RM_seg r (c + 1) _ a7 (fun j x y => h1 j (by omega) (by omega)) (fun j x y => h2 j (by omega) (by omega)) h3⟩
/-- what reading a rule leaves alone in the reference -/
def HR (t : Nat) (M M1 : Hp) : Prop := (∀ P, P ≠ 146 → P ≠ 148 → P ≠ 149 → P ≠ 150 → P ≠ 151 → P ≠ 153 → M1 P = M P) ∧ (∀ q, q ≠ 8 → q ≠ 9 → q ≠ 10 → q ≠ 12 → q ≠ 13 → q ≠ 14 → q ≠ 16 → M1 146 q = M 146 q) ∧ (∀ i, ¬ (400 * t ≤ i ∧ i < 400 * t + 400) → M1 148 i = M 148 i) ∧ (∀ i, ¬ (48 * t ≤ i ∧ i < 48 * t + 48) → M1 150 i = M 150 i) ∧ ∀ i, i ≠ t → M1 151 i = M 151 i
section RC
variable {T : Nat → Int} {n t : Nat} {s M : Hp}
theorem HR_rf : HR t M M := ⟨fun _ _ _ _ _ _ _ => rfl, fun _ _ _ _ _ _ _ _ => rfl, fun _ _ => rfl, fun _ _ => rfl, fun _ _ => rfl⟩
theorem HR_tr {M1 M2 : Hp} (h : HR t M M1) (g : HR t M1 M2) : HR t M M2 := ⟨fun P a b c d e f => (g.1 P a b c d e f).trans (h.1 P a b c d e f), fun q a b c d e f i => (g.2.1 q a b c d e f i).trans (h.2.1 q a b c d e f i), fun i hi => (g.2.2.1 i hi).trans (h.2.2.1 i hi), fun i hi => (g.2.2.2.1 i hi).trans (h.2.2.2.1 i hi), fun i hi => (g.2.2.2.2 i hi).trans (h.2.2.2.2 i hi)⟩
theorem HR_t {M1 : Hp} (h : HT t M M1) : HR t M M1 := ⟨fun P a b c _ _ f => h.1 P a b c f, fun q a b c d e _ i => h.2.1 q a b c d e i, h.2.2, fun i _ => by rw [h.1 150 (by decide) (by decide) (by decide) (by decide)], fun i _ => by rw [h.1 151 (by decide) (by decide) (by decide) (by decide)]⟩
theorem HR_1 {q : Nat} {v : Int} (hq : q = 8 ∨ q = 9 ∨ q = 10 ∨ q = 12 ∨ q = 13 ∨ q = 14 ∨ q = 16) : HR t M (uh M 146 q v) := ⟨fun P a _ _ _ _ _ => uh_row a, fun z a b c d e f i => uh_ro _ _ _ _ (by omega), fun i _ => by rw [uh_row (by decide)], fun i _ => by rw [uh_row (by decide)], fun i _ => by rw [uh_row (by decide)]⟩
theorem HR_150 {q : Nat} {v : Int} (hq : 48 * t ≤ q ∧ q < 48 * t + 48) : HR t M (uh M 150 q v) := ⟨fun P _ _ _ a _ _ => uh_row a, fun z _ _ _ _ _ _ _ => by rw [uh_row (by decide)], fun i _ => by rw [uh_row (by decide)], fun i hi => uh_ro _ _ _ _ (by omega), fun i _ => by rw [uh_row (by decide)]⟩
theorem HR_151 {v : Int} : HR t M (uh M 151 t v) := ⟨fun P _ _ _ _ a _ => uh_row a, fun z _ _ _ _ _ _ _ => by rw [uh_row (by decide)], fun i _ => by rw [uh_row (by decide)], fun i _ => by rw [uh_row (by decide)], fun i hi => uh_ro _ _ _ _ hi⟩
theorem KR_150 {k q : Nat} {E F : List Tok} {v : Int} (h : KR T n t k E F s M) : KR T n t k E F s (uh M 150 q v) := ⟨RP_rows h.1 rfl rfl (fun _ _ => by rw [uh_row (by decide)]) (uh_row (by decide)), h.2.1, KM_row h.2.2.1 (fun _ _ => by rw [uh_row (by decide)]) (uh_row (by decide)) (uh_row (by decide)), h.2.2.2⟩
/-- behind k clauses -/
def JR (T : Nat → Int) (n t : Nat) (k : Nat) (s M : Hp) : Prop := ∃ (R : List Cls) (z : Nat), R.length = k ∧ KR T n t z (encC R) (sgC R) s M ∧ 3 * (encC R).length ≤ 16 * z ∧ RI (M 150) t 0 0 R ∧ M 151 t = (k : Int) ∧ M 146 14 = (k : Int) ∧ wfC R
/-- a clause ends well -/
theorem rc_end {R : List Cls} {sm : List Tok} {te : Option (List Tok)} {z k : Nat} {N : Hp} (hR : R.length = k) (hk : k < 12) (kr : KR T n t z (encC (R ++ [(sm, te)])) (sgC (R ++ [(sm, te)])) s N) (hp : 3 * (encC (R ++ [(sm, te)])).length ≤ 16 * z) (hI : RI (N 150) t 0 0 R) (hw : wfC R) (hs : tyT sm [] = some [false]) (ht : ∀ x, te = some x → tyT x [] = some [true]) (h1 : N 150 (48 * t + 4 * k) = ((lenC R : Nat) : Int)) (h2 : N 150 (48 * t + 4 * k + 1) = ((lenC R + sm.length : Nat) : Int)) (h3 : N 150 (48 * t + 4 * k + 2) = match te with | none => -1 | some _ => ((lenC R + sm.length : Nat) : Int)) (h151 : N 151 t = (k : Int)) (h14 : N 146 14 = ((k + 1 : Nat) : Int)) : ∃ M1, xm_isPriceHere_j110 N (((48 * t + 4 * k : Nat) : Int)) = some (1, M1) ∧ HR t N M1 ∧ RP T n s M1 ∧ JR T n t (k + 1) s M1 := by
  obtain ⟨rp, kc, km, ht6, hz, hpo, hf⟩ := id kr
  unfold xm_isPriceHere_j110
  rw [km.1, ixt (n := 7) (j := (t : Int)) t rfl (by omega) (by decide)]
  simp only [obs]
  rw [ixt (n := 288) (j := ((48 * t + 4 * k : Nat) : Int) + 3) (48 * t + 4 * k + 3) (by omega) (by omega) (by decide)]
  simp only [obs]
  rw [uh_row (p := 146) (by decide), km.1, ixt (n := 6) (j := (t : Int)) t rfl (by omega) (by decide)]
  simp only [obs]
  rw [uh_row (p := 151) (by decide), h151, km.2.1]
  have kr1 : KR T n t z (encC (R ++ [(sm, te)])) (sgC (R ++ [(sm, te)])) s (uh (uh N 150 (48 * t + 4 * k + 3) ((sgC (R ++ [(sm, te)])).length : Int)) 151 t ((k : Int) + 1)) := by
    refine ⟨RP_rows rp rfl rfl (fun _ _ => by rw [uh_row (by decide), uh_row (by decide)]) (by rw [uh_row (by decide), uh_row (by decide)]), kc, KM_row km (fun _ _ => by rw [uh_row (by decide), uh_row (by decide)]) (by rw [uh_row (by decide), uh_row (by decide)]) (by rw [uh_row (by decide), uh_row (by decide)]), ht6, hz, hpo, hf⟩
  refine ⟨_, rfl, HR_tr (HR_150 (by omega)) HR_151, kr1.1, R ++ [(sm, te)], z, by rw [List.length_append, hR]; rfl, kr1, hp, ?_, by rw [uh_rc]; omega, by rw [uh_row (by decide), uh_row (by decide)]; exact h14, wfC_app R hw ⟨hs, ht, trivial⟩⟩
  rw [uh_row (p := 150) (by decide)]
  refine RI_app R 0 0 (RI_cg R 0 0 hI (fun j _ hj => uh_ro _ _ _ _ (by omega))) ?_
  rw [Nat.zero_add, Nat.zero_add, hR]
  have hsl : (sgC (R ++ [(sm, te)])).length = lenC R + (sgC [(sm, te)]).length := by rw [sgC_app, List.length_append, lenC_sg]
  cases te with
  | none => exact ⟨by rw [uh_ro _ _ _ _ (by omega)]; exact h1, by rw [uh_ro _ _ _ _ (by omega)]; exact h2, by rw [uh_ro _ _ _ _ (by omega)]; exact h3, trivial⟩
  | some x =>
    refine ⟨by rw [uh_ro _ _ _ _ (by omega)]; exact h1, by rw [uh_ro _ _ _ _ (by omega)]; exact h2, by rw [uh_ro _ _ _ _ (by omega)]; exact h3, ?_, trivial⟩
    rw [uh_rc, hsl]
    show ((lenC R + (sm ++ (x ++ [])).length : Nat) : Int) = _
    rw [List.append_nil, List.length_append, Nat.add_assoc]
end RC
