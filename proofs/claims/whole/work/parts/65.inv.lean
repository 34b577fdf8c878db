/-! both sides, call by call: what holds between them -/
def Cdo (sh : Shp) (k : Nat) (args : List Value) (r : Int) (s1 : Hp) (w : pm_H) : Prop := ∀ P : Option Value → pm_H → Prop, (∀ w1, Rw sh w s1 w1 → P (some (.int (Int32.ofInt r))) w1) → wp 1000 k 0 (lv_args 0 args) [] w P
/-- a call that makes objects -/
def Ado (sh sh1 : Shp) (k : Nat) (args : List Value) (r : Int) (s1 : Hp) (w : pm_H) : Prop := ∀ P : Option Value → pm_H → Prop, (∀ w1, Gr sh sh1 w w1 → RH sh1 s1 w1 → P (some (.int (Int32.ofInt r))) w1) → wp 1000 k 0 (lv_args 0 args) [] w P
theorem Ado_of {sh : Shp} {k : Nat} {args : List Value} {r : Int} {s1 : Hp} {w : pm_H} (h : Cdo sh k args r s1 w) : Ado sh sh k args r s1 w := fun P hp => h P (fun w1 h1 => hp w1 (Gr_fr Gr_rf h1.2) h1.1)
theorem ob_of {j : Nat} {as : List Int32} {w : pm_H} {I : pm_H → Prop} {kx km na : Nat} {args : List Value} (hX : ob_X.getD j (0, 0, 0) = (kx, km, na)) (ha : (as.take na).map Value.int = args) (h : wp 1000 kx 0 (lv_args 0 (.ref 0 :: args)) [] w (fun r1 w1 => ∃ r : Int32, r1 = some (.int r) ∧ (∃ fs, w1[ob_aM]? = some (0, 12, fs)) ∧ wp 1000 km 0 (lv_args 0 (.ref ob_aM :: args)) [] w1 (fun r2 w2 => r2 = some (.int r) ∧ I w2))) : ob_ok j as w I := by
  obtain ⟨r1, w1, ⟨f1, h1⟩, r, rfl, hfs, r2, w2, ⟨f2, h2⟩, rfl, hI⟩ := h
  unfold ob_ok
  rw [hX]
  subst ha
  exact ⟨f1 + f2, r, w1, w2, ev_fuel _ _ _ _ _ _ _ _ h1 _ (Nat.le_add_right _ _), ev_fuel _ _ _ _ _ _ _ _ h2 _ (Nat.le_add_left _ _), hfs, hI⟩
def IB (k : Nat) (sh : Shp) (s M : Hp) (w : pm_H) : Prop := RH sh s w ∧ RH shM M w ∧ St sh ∧ (∀ a, 146 ≤ a → a < 175 → sh a = none) ∧ w.length ≤ 175 + 22 * k ∧ pm_sz w ≤ 20000 + 700 * k
/-- objects that were made -/
def DS (sh : Shp) (ln : Nat → Nat) (s : Hp) : Prop := (∀ i, i < 6 → okR ln sh (s 15 i)) ∧ (∀ i, i < 20 → ¬ s 40 i < 0 → okC 3 sh (s 40 i).toNat) ∧ (∀ i, i < 4 → ¬ s 38 i < 0 → okS 2 sh (s 38 i).toNat)
theorem shM_in {a : Nat} {q : Sh1} (h : shM a = some q) : 146 ≤ a ∧ a < 175 := by
  unfold shM at h
  split at h
  · rename_i h1
    have := (List.getElem?_eq_some_iff.mp h).1
    have h2 : a - 146 < 29 := this
    omega
  · cases h
theorem shM_no {a : Nat} (h : ¬ (146 ≤ a ∧ a < 175)) : shM a = none := by
  cases hq : shM a with
  | none => rfl
  | some q => exact absurd (shM_in hq) h
theorem StM_M : StM shM := fun _ _ h => h
/-! what the two hold alike -/
def TapeR (s M : Hp) : Prop := s 1 1 = M 146 1 ∧ 0 ≤ s 1 1 ∧ s 1 1 ≤ 400 ∧ ∀ i : Nat, (i : Int) < s 1 1 → 0 ≤ s 2 i ∧ s 2 i ≤ 255 ∧ M 147 i = w8 (s 2 i)
def RulesR (ln : Nat → Nat) (s M : Hp) : Prop := s 0 4 = M 146 2 ∧ 0 ≤ s 0 4 ∧ s 0 4 ≤ 6 ∧ ∀ t : Nat, (t : Int) < s 0 4 → ∃ R : List Cls, CR ln s (s 15 t) (some R) ∧ RM M t 0 0 R ∧ R.length ≤ 12 ∧ lenC R ≤ 400 ∧ wfC R
/-- the cloth as the text told it -/
def tdK (f : Nat → Int) : Nat → Nat → Int := fun r i =>
  if r = 0 then (if i = 2 then f 0 else 0) else if r = 1 then (i : Int) else if r = 2 then 0 else if r = 3 then 1 else if r = 4 then f (63 + i) else if r = 5 then f (55 + i) else if r = 6 then f (71 + i) else if r = 8 then f (78 + i) else 0
def SheetR (rc : Int) (s : Hp) (a : Nat) (f : Nat → Int) (fo xx : Int) (K : Nat → Nat → Int) (n m : Nat) : Prop :=
  WF K n m ∧ Cl s (a + 1) K n m ∧ Rf f K n m ∧ WF (tdK f) n m ∧ Cl s (a + 10) (tdK f) n m ∧ (∀ j, j + 1 < n → s (a + 19) j = f (82 + j) ∧ 0 ≤ f (82 + j) ∧ f (82 + j) ≤ 2) ∧
  (s a 5 = f 129 ∧ 0 ≤ f 129 ∧ f 129 ≤ 10 ∧ (0 < f 129 → 0 < m) ∧ ∀ i : Nat, (i : Int) < f 129 → s (a + 20) i = 4 * f (89 + 4 * i) + 2 * f (89 + 4 * i + 1) + f (89 + 4 * i + 2) ∧ s (a + 21) i = f (89 + 4 * i + 3) ∧ 0 ≤ f (89 + 4 * i) ∧ f (89 + 4 * i) + 1 < n ∧ 0 ≤ f (89 + 4 * i + 1) ∧ f (89 + 4 * i + 1) ≤ 1 ∧ 0 ≤ f (89 + 4 * i + 2) ∧ f (89 + 4 * i + 2) ≤ 1 ∧ 0 ≤ f (89 + 4 * i + 3) ∧ f (89 + 4 * i + 3) ≤ 9999) ∧
  s a 6 = fo ∧ -1 ≤ fo ∧ fo < rc ∧ s a 7 = xx ∧ 0 ≤ xx ∧ xx < 2147483648
/-- what was said ahead of an act -/
def wsd (M : Hp) (t : Nat) : Nat → Int := fun i => if 10 ≤ i ∧ i < 55 then M 159 (45 * t + (i - 10)) else M 156 i
def PastR (s M : Hp) (n m : Nat) : Prop := ∃ z x : Nat, s 39 2 = (z : Int) ∧ M 146 26 = (z : Int) ∧ z ≤ 20 ∧ s 39 1 = (x : Int) ∧ x < 20 ∧ (∀ t, t < z → ¬ s 40 ((x + 19 - t) % 20) < 0 ∧ 175 ≤ (s 40 ((x + 19 - t) % 20)).toNat ∧ ∃ K, WF K n m ∧ Cl s (s 40 ((x + 19 - t) % 20)).toNat K n m ∧ Rf (wsd M (z - 1 - t)) K n m) ∧ ∀ i j, i < 20 → j < 20 → i ≠ j → ¬ s 40 i < 0 → s 40 i ≠ s 40 j
def ImgR (rc : Int) (s M : Hp) : Prop := (∀ k, k < 4 → (M 174 k = 0 ∧ s 38 k < 0) ∨ (M 174 k = 1 ∧ ¬ s 38 k < 0 ∧ 175 ≤ (s 38 k).toNat ∧ ∃ K n m, SheetR rc s (s 38 k).toNat (fun i => M 171 (130 * k + i)) (M 172 k) (M 173 k) K n m)) ∧ ∀ i j, i < 4 → j < 4 → i ≠ j → ¬ s 38 i < 0 → s 38 i ≠ s 38 j
def LevR (s : Hp) : Prop := ∀ i, i < 8 → s 55 i = ((58 + 9 * i : Nat) : Int)
def REL (ln : Nat → Nat) (s M : Hp) : Prop := TapeR s M ∧ RulesR ln s M ∧ (∃ K n m, SheetR (s 0 4) s 16 (M 156) (M 146 21) (M 146 22) K n m ∧ PastR s M n m) ∧ ImgR (s 0 4) s M ∧ BookR s ∧ LevR s
def Inv (k : Nat) (w : pm_H) : Prop := ∃ sh ln s M, IB (min k 512) sh s M w ∧ DS sh ln s ∧ REL ln s M
theorem Inv_up {k : Nat} {w : pm_H} (h : Inv k w) : Inv (k + 1) w := by
  obtain ⟨sh, ln, s, M, ⟨a1, a2, a3, a4, a5, a6⟩, h2⟩ := h
  exact ⟨sh, ln, s, M, ⟨a1, a2, a3, a4, by omega, by omega⟩, h2⟩
theorem Inv_rm {k : Nat} {w : pm_H} (h : Inv k w) : ob_rm w := by
  obtain ⟨sh, ln, s, M, ⟨a1, a2, a3, a4, a5, a6⟩, h2⟩ := h
  refine ⟨by omega, by omega, ⟨_, a1 0 _ (a3 0 _ sx_0)⟩, ⟨_, a2 146 _ sm_146⟩⟩
theorem RH_off {sh sh1 : Shp} {s : Hp} {w w1 : pm_H} (h : RH sh s w) (g : ∀ a q, sh a = some q → sh1 a = none) (f : ∀ x, x < w.length → sh1 x = none → w1[x]? = w[x]?) : RH sh s w1 := fun a q hq => by
  have hl := RH_lt h hq
  rw [f a hl (g a q hq)]
  exact h a q hq
/-- a call of both, by what each does -/
theorem ob_al {n j : Nat} {as : List Int32} {w : pm_H} {kx km na : Nat} {args : List Value} {sh sh1 : Shp} {ln : Nat → Nat} {s M s1 M1 : Hp} {r : Int} (hn : n < 512) (hX : ob_X.getD j (0, 0, 0) = (kx, km, na)) (ha : (as.take na).map Value.int = args) (ib : IB (min n 512) sh s M w) (cx : Ado sh sh1 kx (.ref 0 :: args) r s1 w) (cm : ∀ w1, RH shM M w1 → Cdo shM km (.ref ob_aM :: args) r M1 w1) (ds : DS sh1 ln s1) (rel : REL ln s1 M1) : ob_ok j as w (Inv (n + 1)) := by
  obtain ⟨a1, a2, a3, a4, a5, a6⟩ := ib
  refine ob_of hX ha (cx _ (fun w1 g1 h1 => ?_))
  have hM : RH shM M w1 := RH_off (sh1 := sh) a2 (fun a q hq => a4 a (shM_in hq).1 (shM_in hq).2) g1.2.2.2.2
  refine ⟨_, rfl, ⟨_, hM 146 _ sm_146⟩, cm w1 hM _ (fun w2 h2 => ⟨rfl, sh1, ln, s1, M1, ⟨?_, h2.1, ?_, ?_, ?_, ?_⟩, ds, rel⟩)⟩
  · refine RH_off (sh1 := shM) h1 (fun a q hq => ?_) (fun x _ hx => h2.2.2.1 x hx)
    refine shM_no (fun hr => ?_)
    have hl : 174 < w.length := RH_lt a2 sm_174
    have := g1.1 a (by omega)
    rw [a4 a hr.1 hr.2] at this
    rw [this] at hq
    cases hq
  · exact St_sub (Gr_sub a1 g1) a3
  · intro a ha1 ha2
    have hl : 174 < w.length := RH_lt a2 sm_174
    rw [g1.1 a (by omega)]
    exact a4 a ha1 ha2
  · rw [h2.2.1]
    have := g1.2.2.1
    omega
  · rw [Fr_sz h2.2]
    have := g1.2.2.2.1
    omega
theorem ob_na {n j : Nat} {as : List Int32} {w : pm_H} {kx km na : Nat} {args : List Value} {sh : Shp} {ln : Nat → Nat} {s M s1 M1 : Hp} {r : Int} (hn : n < 512) (hX : ob_X.getD j (0, 0, 0) = (kx, km, na)) (ha : (as.take na).map Value.int = args) (ib : IB (min n 512) sh s M w) (cx : Cdo sh kx (.ref 0 :: args) r s1 w) (cm : ∀ w1, RH shM M w1 → Cdo shM km (.ref ob_aM :: args) r M1 w1) (ds : DS sh ln s1) (rel : REL ln s1 M1) : ob_ok j as w (Inv (n + 1)) := ob_al hn hX ha ib (Ado_of cx) cm ds rel
theorem vi (a : Int32) : Value.int a = .int (Int32.ofInt a.toInt) := by rw [Int32.ofInt_toInt]
theorem bi (a : Int32) : -2147483648 ≤ a.toInt ∧ a.toInt < 2147483648 := ⟨Int32.le_toInt a, Int32.toInt_lt a⟩
/-! frames: rows that are looked at -/
def VC (P : Nat) : Prop := P = 0 ∨ P = 1 ∨ P = 2 ∨ P = 15 ∨ (16 ≤ P ∧ P ≤ 40) ∨ P = 55 ∨ P = 131 ∨ 175 ≤ P
def VM (P : Nat) : Prop := P = 147 ∨ P = 148 ∨ P = 150 ∨ P = 151 ∨ P = 156 ∨ P = 159 ∨ (171 ≤ P ∧ P ≤ 174)
def SameC (s s1 : Hp) : Prop := (∀ P, VC P → s1 P = s P) ∧ s1 130 1 = s 130 1 ∧ s1 130 2 = s 130 2
def SameM (M M1 : Hp) : Prop := (∀ P, VM P → M1 P = M P) ∧ M1 146 1 = M 146 1 ∧ M1 146 2 = M 146 2 ∧ M1 146 21 = M 146 21 ∧ M1 146 22 = M 146 22 ∧ M1 146 26 = M 146 26
theorem SheetR_cg {rc : Int} {s s1 : Hp} {a : Nat} {f f1 : Nat → Int} {fo xx : Int} {K : Nat → Nat → Int} {n m : Nat} (h : SheetR rc s a f fo xx K n m) (hs : ∀ i, i ≤ 21 → s1 (a + i) = s (a + i)) (hf : f1 = f) : SheetR rc s1 a f1 fo xx K n m := by
  subst hf
  obtain ⟨b1, b2, b3, b4, b5, b6, b7, b8⟩ := h
  have e0 : s1 a = s a := hs 0 (by decide)
  refine ⟨b1, Cl_row b2 (fun i hi => ?_), b3, b4, Cl_row b5 (fun i hi => ?_), ?_, ?_, ?_⟩
  · rw [Nat.add_assoc]; exact hs (1 + i) (by omega)
  · rw [Nat.add_assoc]; exact hs (10 + i) (by omega)
  · rw [hs 19 (by decide)]; exact b6
  · rw [hs 20 (by decide), hs 21 (by decide), e0]; exact b7
  · rw [e0]; exact b8
theorem RM_cg {M M1 : Hp} {t : Nat} {R : List Cls} (h : RM M t 0 0 R) (hm : ∀ P, VM P → M1 P = M P) : RM M1 t 0 0 R := RM_row (hm 148 (by unfold VM; omega)) (hm 150 (by unfold VM; omega)) (hm 151 (by unfold VM; omega)) h
theorem REL_cg {ln : Nat → Nat} {s M s1 M1 : Hp} (h : REL ln s M) (hs : SameC s s1) (hm : SameM M M1) : REL ln s1 M1 := by
  obtain ⟨t, ru, ⟨K, n, m, sh, pa⟩, im, bo, le⟩ := h
  obtain ⟨s1c, sb1, sb2⟩ := hs
  obtain ⟨m1c, m1, m2, m21, m22, m26⟩ := hm
  have r0 : s1 0 = s 0 := s1c 0 (by unfold VC; omega)
  have r1 : s1 1 = s 1 := s1c 1 (by unfold VC; omega)
  have r2 : s1 2 = s 2 := s1c 2 (by unfold VC; omega)
  have r15 : s1 15 = s 15 := s1c 15 (by unfold VC; omega)
  have r38 : s1 38 = s 38 := s1c 38 (by unfold VC; omega)
  have r39 : s1 39 = s 39 := s1c 39 (by unfold VC; omega)
  have r40 : s1 40 = s 40 := s1c 40 (by unfold VC; omega)
  have e147 : M1 147 = M 147 := m1c 147 (by unfold VM; omega)
  have e156 : M1 156 = M 156 := m1c 156 (by unfold VM; omega)
  have e159 : M1 159 = M 159 := m1c 159 (by unfold VM; omega)
  have e171 : M1 171 = M 171 := m1c 171 (by unfold VM; omega)
  have e172 : M1 172 = M 172 := m1c 172 (by unfold VM; omega)
  have e173 : M1 173 = M 173 := m1c 173 (by unfold VM; omega)
  have e174 : M1 174 = M 174 := m1c 174 (by unfold VM; omega)
  have big : ∀ P, 175 ≤ P → s1 P = s P := fun P hP => s1c P (by unfold VC; omega)
  refine ⟨?_, ?_, ⟨K, n, m, ?_, ?_⟩, ?_, ?_, ?_⟩
  · unfold TapeR at t ⊢
    rw [r1, r2, m1, e147]; exact t
  · unfold RulesR at ru ⊢
    rw [r0, r15, m2]
    refine ⟨ru.1, ru.2.1, ru.2.2.1, fun x hx => ?_⟩
    obtain ⟨R, c1, c2, c3⟩ := ru.2.2.2 x hx
    exact ⟨R, CR_row c1 big, RM_cg c2 m1c, c3⟩
  · rw [m21, m22, r0]
    exact SheetR_cg sh (fun i hi => s1c _ (by unfold VC; omega)) e156
  · obtain ⟨z, x, p1, p2, p3, p4, p5, p6, p7⟩ := pa
    refine ⟨z, x, by rw [r39]; exact p1, by rw [m26]; exact p2, p3, by rw [r39]; exact p4, p5, fun t ht => ?_, by rw [r40]; exact p7⟩
    obtain ⟨q1, q2, K2, q3, q4, q5⟩ := p6 t ht
    rw [r40]
    refine ⟨q1, q2, K2, q3, Cl_row q4 (fun i hi => big _ (by omega)), ?_⟩
    have e : wsd M1 (z - 1 - t) = wsd M (z - 1 - t) := by unfold wsd; rw [e159, e156]
    rw [e]; exact q5
  · refine ⟨fun k hk => ?_, by rw [r38]; exact im.2⟩
    rw [e174, r38, r0]
    rcases im.1 k hk with q | ⟨q1, q2, q3, K2, n2, m2', q4⟩
    · exact Or.inl q
    · refine Or.inr ⟨q1, q2, q3, K2, n2, m2', ?_⟩
      rw [e171, e172, e173]
      exact SheetR_cg q4 (fun i hi => big _ (by omega)) rfl
  · unfold BookR at bo ⊢
    rw [sb1, sb2, s1c 131 (by unfold VC; omega)]
    exact bo
  · unfold LevR at le ⊢
    rw [s1c 55 (by unfold VC; omega)]
    exact le
theorem DS_cg {sh : Shp} {ln : Nat → Nat} {s s1 : Hp} (h : DS sh ln s) (h15 : s1 15 = s 15) (h38 : s1 38 = s 38) (h40 : s1 40 = s 40) : DS sh ln s1 := by
  unfold DS at h ⊢
  rw [h15, h38, h40]; exact h
