/-! what methods are turned into: objects as functions (offset of a cell, index), answers or none -/
abbrev Ob : Type := Nat → Nat → Int32
abbrev Lo : Type := Nat → Nat → Int64
def up2 (s : Ob) (j i : Nat) (v : Int32) : Ob := fun p => if p = j then upd (s p) i v else s p
def ul2 (s : Lo) (j i : Nat) (v : Int64) : Lo := fun p => if p = j then vp_updL (s p) i v else s p
/-- cells of an object: (offset, 0, its number, fields) or (offset, 1, kind of row, [(length, 0)]); fields: (0, _) int, (1, _) long, (2, offset) -/
abbrev Shp : Type := List (Nat × Nat × Nat × List (Nat × Nat))
def fv (a : Nat) (g : Nat → Int32) (gl : Nat → Int64) : Nat → List (Nat × Nat) → List Value
  | _, [] => []
  | b, (0, _) :: r => .int (g b) :: fv a g gl (b + 1) r
  | b, (1, _) :: r => .long (gl b) :: fv a g gl (b + 1) r
  | b, (_, o) :: r => .ref (a + o) :: fv a g gl (b + 1) r
def cel (a : Nat) (s : Ob) (l : Lo) (q : Nat × Nat × Nat × List (Nat × Nat)) : pm_C := match q with
  | (o, 0, ci, fd) => (0, ci, fv a (s o) (l o) 0 fd)
  | (o, _, 1, fd) => (1, 1, al (fd.headD (0, 0)).1 (l o))
  | (o, _, t, fd) => (1, t, ar (fd.headD (0, 0)).1 (s o))
def rel (sh : Shp) (a : Nat) (s : Ob) (l : Lo) (w : pm_H) : Prop := ∀ q ∈ sh, w[a + q.1]? = some (cel a s l q)
def inS (sh : Shp) (a x : Nat) : Prop := ∃ q ∈ sh, x = a + q.1
/-- in S alone the heap has changed, and no cell its kind or size -/
def fr (S : Nat → Prop) (w w1 : pm_H) : Prop := w1.length = w.length ∧ (∀ x, ¬ S x → w1[x]? = w[x]?) ∧ ∀ (x : Nat) (c : pm_C), w[x]? = some c → ∃ c1 : pm_C, w1[x]? = some c1 ∧ c1.1 = c.1 ∧ c1.2.1 = c.2.1 ∧ c1.2.2.length = c.2.2.length
theorem fr_rf {S : Nat → Prop} {w : pm_H} : fr S w w := ⟨rfl, fun _ _ => rfl, fun _ c h => ⟨c, h, rfl, rfl, rfl⟩⟩
theorem fr_tr {S : Nat → Prop} {w w1 w2 : pm_H} (h : fr S w w1) (g : fr S w1 w2) : fr S w w2 := by
  refine ⟨g.1.trans h.1, fun x hx => (g.2.1 x hx).trans (h.2.1 x hx), fun x c hx => ?_⟩
  obtain ⟨c1, a1, a2, a3, a4⟩ := h.2.2 x c hx
  obtain ⟨c2, b1, b2, b3, b4⟩ := g.2.2 x c1 a1
  exact ⟨c2, b1, b2.trans a2, b3.trans a3, b4.trans a4⟩
theorem fr_up {S T : Nat → Prop} {w w1 : pm_H} (h : fr S w w1) (g : ∀ x, S x → T x) : fr T w w1 := ⟨h.1, fun x hx => h.2.1 x (fun q => hx (g x q)), h.2.2⟩
/-- one step more, in a part of S -/
theorem fr_st {S T : Nat → Prop} {w w1 w2 : pm_H} (h : fr S w w1) (g : fr T w1 w2) (hs : ∀ x, T x → S x) : fr S w w2 := fr_tr h (fr_up g hs)
theorem fr_set {S : Nat → Prop} {w : pm_H} {x : Nat} {c0 c1 : pm_C} (hx : w[x]? = some c0) (hS : S x) (e1 : c1.1 = c0.1) (e2 : c1.2.1 = c0.2.1) (e3 : c1.2.2.length = c0.2.2.length) : fr S w (w.set x c1) := by
  refine ⟨List.length_set, fun y hy => ?_, fun y c hy => ?_⟩
  · by_cases hxy : x = y
    · subst hxy; exact absurd hS hy
    · exact List.getElem?_set_ne hxy
  · by_cases hxy : x = y
    · subst hxy
      rw [hx] at hy
      cases hy
      exact ⟨c1, List.getElem?_set_self (List.getElem?_eq_some_iff.mp hx).1, e1, e2, e3⟩
    · exact ⟨c, by rw [List.getElem?_set_ne hxy]; exact hy, rfl, rfl, rfl⟩
theorem rel_fr {sh : Shp} {a : Nat} {s : Ob} {l : Lo} {w w1 : pm_H} {S : Nat → Prop} (h : rel sh a s l w) (f : fr S w w1) (hd : ∀ x, inS sh a x → ¬ S x) : rel sh a s l w1 := fun q hq => by
  rw [f.2.1 _ (hd _ ⟨q, hq, rfl⟩)]
  exact h q hq
theorem row_fr {b : Nat} {c : pm_C} {w w1 : pm_H} {S : Nat → Prop} (h : w[b]? = some c) (f : fr S w w1) (hd : ¬ S b) : w1[b]? = some c := by
  rw [f.2.1 _ hd]
  exact h
theorem fv_len (a : Nat) (g : Nat → Int32) (gl : Nat → Int64) : ∀ (fd : List (Nat × Nat)) (n : Nat), (fv a g gl n fd).length = fd.length
  | [], _ => rfl
  | (0, _) :: r, n => congrArg Nat.succ (fv_len a g gl r (n + 1))
  | (1, _) :: r, n => congrArg Nat.succ (fv_len a g gl r (n + 1))
  | (_ + 2, _) :: r, n => congrArg Nat.succ (fv_len a g gl r (n + 1))
theorem fv_i (a : Nat) (g : Nat → Int32) (gl : Nat → Int64) : ∀ (fd : List (Nat × Nat)) (n b z : Nat), fd[b]? = some (0, z) → (fv a g gl n fd)[b]? = some (.int (g (n + b)))
  | [], _, _, _, h => by cases h
  | (0, _) :: r, n, 0, _, _ => rfl
  | (0, _) :: r, n, b + 1, z, h => by
    show (fv a g gl (n + 1) r)[b]? = _
    rw [fv_i a g gl r (n + 1) b z h, Nat.add_assoc, Nat.add_comm 1 b]
  | (1, _) :: r, n, 0, _, h => by cases h
  | (1, _) :: r, n, b + 1, z, h => by
    show (fv a g gl (n + 1) r)[b]? = _
    rw [fv_i a g gl r (n + 1) b z h, Nat.add_assoc, Nat.add_comm 1 b]
  | (_ + 2, _) :: r, n, 0, _, h => by cases h
  | (_ + 2, _) :: r, n, b + 1, z, h => by
    show (fv a g gl (n + 1) r)[b]? = _
    rw [fv_i a g gl r (n + 1) b z h, Nat.add_assoc, Nat.add_comm 1 b]
theorem fv_l (a : Nat) (g : Nat → Int32) (gl : Nat → Int64) : ∀ (fd : List (Nat × Nat)) (n b z : Nat), fd[b]? = some (1, z) → (fv a g gl n fd)[b]? = some (.long (gl (n + b)))
  | [], _, _, _, h => by cases h
  | (1, _) :: r, n, 0, _, _ => rfl
  | (0, _) :: r, n, 0, _, h => by cases h
  | (0, _) :: r, n, b + 1, z, h => by
    show (fv a g gl (n + 1) r)[b]? = _
    rw [fv_l a g gl r (n + 1) b z h, Nat.add_assoc, Nat.add_comm 1 b]
  | (1, _) :: r, n, b + 1, z, h => by
    show (fv a g gl (n + 1) r)[b]? = _
    rw [fv_l a g gl r (n + 1) b z h, Nat.add_assoc, Nat.add_comm 1 b]
  | (_ + 2, _) :: r, n, 0, _, h => by cases h
  | (_ + 2, _) :: r, n, b + 1, z, h => by
    show (fv a g gl (n + 1) r)[b]? = _
    rw [fv_l a g gl r (n + 1) b z h, Nat.add_assoc, Nat.add_comm 1 b]
theorem fv_r (a : Nat) (g : Nat → Int32) (gl : Nat → Int64) : ∀ (fd : List (Nat × Nat)) (n b o : Nat), fd[b]? = some (2, o) → (fv a g gl n fd)[b]? = some (.ref (a + o))
  | [], _, _, _, h => by cases h
  | (0, _) :: r, n, 0, _, h => by cases h
  | (1, _) :: r, n, 0, _, h => by cases h
  | (0, _) :: r, n, b + 1, z, h => fv_r a g gl r (n + 1) b z h
  | (1, _) :: r, n, b + 1, z, h => fv_r a g gl r (n + 1) b z h
  | (_ + 2, _) :: r, n, 0, _, h => by cases h; rfl
  | (_ + 2, _) :: r, n, b + 1, z, h => fv_r a g gl r (n + 1) b z h
theorem fv_cg (a : Nat) {g g1 : Nat → Int32} {gl gl1 : Nat → Int64} : ∀ (fd : List (Nat × Nat)) (n : Nat), (∀ i, n ≤ i → g i = g1 i) → (∀ i, n ≤ i → gl i = gl1 i) → fv a g gl n fd = fv a g1 gl1 n fd
  | [], _, _, _ => rfl
  | (0, _) :: r, n, h, hl => by
    show Value.int (g n) :: fv a g gl (n + 1) r = Value.int (g1 n) :: fv a g1 gl1 (n + 1) r
    rw [h n (Nat.le_refl n), fv_cg a r (n + 1) (fun i hi => h i (by omega)) (fun i hi => hl i (by omega))]
  | (1, _) :: r, n, h, hl => by
    show Value.long (gl n) :: fv a g gl (n + 1) r = Value.long (gl1 n) :: fv a g1 gl1 (n + 1) r
    rw [hl n (Nat.le_refl n), fv_cg a r (n + 1) (fun i hi => h i (by omega)) (fun i hi => hl i (by omega))]
  | (_ + 2, o) :: r, n, h, hl => by
    show Value.ref (a + o) :: fv a g gl (n + 1) r = Value.ref (a + o) :: fv a g1 gl1 (n + 1) r
    rw [fv_cg a r (n + 1) (fun i hi => h i (by omega)) (fun i hi => hl i (by omega))]
theorem fv_si (a : Nat) (g : Nat → Int32) (gl : Nat → Int64) (v : Int32) : ∀ (fd : List (Nat × Nat)) (n b z : Nat), fd[b]? = some (0, z) → (fv a g gl n fd).set b (.int v) = fv a (upd g (n + b) v) gl n fd
  | [], _, _, _, h => by cases h
  | (0, _) :: r, n, 0, _, _ => by
    show Value.int v :: fv a g gl (n + 1) r = Value.int (upd g (n + 0) v n) :: fv a (upd g (n + 0) v) gl (n + 1) r
    rw [show upd g (n + 0) v n = v from if_pos rfl, fv_cg a r (n + 1) (g1 := upd g (n + 0) v) (gl1 := gl) (fun i hi => (if_neg (by omega)).symm) (fun _ _ => rfl)]
  | (0, _) :: r, n, b + 1, z, h => by
    show Value.int (g n) :: (fv a g gl (n + 1) r).set b (.int v) = Value.int (upd g (n + (b + 1)) v n) :: fv a (upd g (n + (b + 1)) v) gl (n + 1) r
    rw [fv_si a g gl v r (n + 1) b z h, show upd g (n + (b + 1)) v n = g n from if_neg (by omega), Nat.add_assoc, Nat.add_comm 1 b]
  | (1, _) :: r, n, 0, _, h => by cases h
  | (1, _) :: r, n, b + 1, z, h => by
    show Value.long (gl n) :: (fv a g gl (n + 1) r).set b (.int v) = Value.long (gl n) :: fv a (upd g (n + (b + 1)) v) gl (n + 1) r
    rw [fv_si a g gl v r (n + 1) b z h, Nat.add_assoc, Nat.add_comm 1 b]
  | (_ + 2, _) :: r, n, 0, _, h => by cases h
  | (_ + 2, o) :: r, n, b + 1, z, h => by
    show Value.ref (a + o) :: (fv a g gl (n + 1) r).set b (.int v) = Value.ref (a + o) :: fv a (upd g (n + (b + 1)) v) gl (n + 1) r
    rw [fv_si a g gl v r (n + 1) b z h, Nat.add_assoc, Nat.add_comm 1 b]
theorem fv_sl (a : Nat) (g : Nat → Int32) (gl : Nat → Int64) (v : Int64) : ∀ (fd : List (Nat × Nat)) (n b z : Nat), fd[b]? = some (1, z) → (fv a g gl n fd).set b (.long v) = fv a g (vp_updL gl (n + b) v) n fd
  | [], _, _, _, h => by cases h
  | (1, _) :: r, n, 0, _, _ => by
    show Value.long v :: fv a g gl (n + 1) r = Value.long (vp_updL gl (n + 0) v n) :: fv a g (vp_updL gl (n + 0) v) (n + 1) r
    rw [show vp_updL gl (n + 0) v n = v from if_pos rfl, fv_cg a r (n + 1) (g1 := g) (gl1 := vp_updL gl (n + 0) v) (fun _ _ => rfl) (fun i hi => (if_neg (by omega)).symm)]
  | (1, _) :: r, n, b + 1, z, h => by
    show Value.long (gl n) :: (fv a g gl (n + 1) r).set b (.long v) = Value.long (vp_updL gl (n + (b + 1)) v n) :: fv a g (vp_updL gl (n + (b + 1)) v) (n + 1) r
    rw [fv_sl a g gl v r (n + 1) b z h, show vp_updL gl (n + (b + 1)) v n = gl n from if_neg (by omega), Nat.add_assoc, Nat.add_comm 1 b]
  | (0, _) :: r, n, 0, _, h => by cases h
  | (0, _) :: r, n, b + 1, z, h => by
    show Value.int (g n) :: (fv a g gl (n + 1) r).set b (.long v) = Value.int (g n) :: fv a g (vp_updL gl (n + (b + 1)) v) (n + 1) r
    rw [fv_sl a g gl v r (n + 1) b z h, Nat.add_assoc, Nat.add_comm 1 b]
  | (_ + 2, _) :: r, n, 0, _, h => by cases h
  | (_ + 2, o) :: r, n, b + 1, z, h => by
    show Value.ref (a + o) :: (fv a g gl (n + 1) r).set b (.long v) = Value.ref (a + o) :: fv a g (vp_updL gl (n + (b + 1)) v) (n + 1) r
    rw [fv_sl a g gl v r (n + 1) b z h, Nat.add_assoc, Nat.add_comm 1 b]
def shn (sh : Shp) : Prop := (sh.map Prod.fst).Nodup
theorem shn_eq : ∀ {sh : Shp} {q p : Nat × Nat × Nat × List (Nat × Nat)}, shn sh → q ∈ sh → p ∈ sh → q.1 = p.1 → q = p
  | [], _, _, _, h, _, _ => absurd h List.not_mem_nil
  | x :: sh, q, p, hn, hq, hp, he => by
    have hn1 := List.nodup_cons.mp (show (x.1 :: sh.map Prod.fst).Nodup from hn)
    rcases List.mem_cons.mp hq with h1 | h1 <;> rcases List.mem_cons.mp hp with h2 | h2
    · rw [h1, h2]
    · exact absurd (List.mem_map.mpr ⟨p, h2, by rw [← he, h1]⟩) hn1.1
    · exact absurd (List.mem_map.mpr ⟨q, h1, by rw [he, h2]⟩) hn1.1
    · exact shn_eq (sh := sh) hn1.2 h1 h2 he
/-- one cell of an object is written -/
theorem rel_set {sh : Shp} {a : Nat} {s s1 : Ob} {l l1 : Lo} {w : pm_H} {q : Nat × Nat × Nat × List (Nat × Nat)} (h : rel sh a s l w) (hn : shn sh) (hq : q ∈ sh) (hs : ∀ p, p ≠ q.1 → s1 p = s p) (hl : ∀ p, p ≠ q.1 → l1 p = l p) : rel sh a s1 l1 (w.set (a + q.1) (cel a s1 l1 q)) := fun p hp => by
  by_cases he : q.1 = p.1
  · have h1 := shn_eq hn hq hp he
    subst h1
    exact List.getElem?_set_self (List.getElem?_eq_some_iff.mp (h q hq)).1
  · rw [List.getElem?_set_ne (by omega), h p hp]
    obtain ⟨o, t, ci, fd⟩ := p
    have e1 : s1 o = s o := hs o (fun e => he e.symm)
    have e2 : l1 o = l o := hl o (fun e => he e.symm)
    cases t with
    | zero =>
      show some (0, ci, fv a (s o) (l o) 0 fd) = some (0, ci, fv a (s1 o) (l1 o) 0 fd)
      rw [e1, e2]
    | succ t =>
      have h4 : cel a s l (o, t + 1, ci, fd) = cel a s1 l1 (o, t + 1, ci, fd) := by
        by_cases h5 : ci = 1
        · subst h5
          show (1, 1, al _ (l o)) = (1, 1, al _ (l1 o))
          rw [e2]
        · unfold cel
          split
          · rename_i h; cases h
          · rename_i h; cases h; exact absurd rfl h5
          · rename_i h; cases h; simp only [e1]
      rw [h4]
def ix (n : Nat) (j : Int32) : Option Nat := if ¬ j < 0 ∧ j.toNatClampNeg < n then some j.toNatClampNeg else none
theorem ix_of {n i : Nat} {j : Int32} (h : ix n j = some i) : ¬ j < 0 ∧ j.toNatClampNeg = i ∧ i < n := by
  unfold ix at h
  split at h
  · rename_i h1
    cases h
    exact ⟨h1.1, rfl, h1.2⟩
  · cases h
theorem ix_n {n i : Nat} (h : i < n) (hn : n ≤ 65536) : ix n (nI i) = some i := by
  unfold ix
  rw [nI_clamp (by omega), if_pos ⟨nI_pos (by omega), h⟩]
theorem bd {α β : Type} {o : Option α} {f : α → Option β} {y : β} (h : o.bind f = some y) : ∃ v, o = some v ∧ f v = some y := Option.bind_eq_some_iff.mp h
theorem ite_t {c : Prop} [Decidable c] {α : Type} {x y z : α} (hc : c) (h : (if c then x else y) = z) : x = z := by rw [if_pos hc] at h; exact h
theorem ite_f {c : Prop} [Decidable c] {α : Type} {x y z : α} (hc : ¬ c) (h : (if c then x else y) = z) : y = z := by rw [if_neg hc] at h; exact h
/-- a loop: go on (inl), end of the loop (inr) -/
def it0 {σ : Type} (B : σ → Option (σ ⊕ σ)) : Nat → σ → Option σ
  | 0, _ => none
  | g + 1, s => (B s).bind fun o => o.elim (fun s1 => it0 B g s1) some
/-- a loop with answers: go on (inl), end of the loop (inr inl), the method answers (inr inr) -/
def it1 {σ ρ : Type} (B : σ → Option (σ ⊕ (σ ⊕ ρ))) : Nat → σ → Option (σ ⊕ ρ)
  | 0, _ => none
  | g + 1, s => (B s).bind fun o => o.elim (fun s1 => it1 B g s1) some
theorem wp_it0 {σ : Type} {B : σ → Option (σ ⊕ σ)} {lv : σ → pm_L} {R : σ → pm_H → Prop} {d k hd ex : Nat} {P : Option Value → pm_H → Prop} (hB : ∀ s w o, R s w → B s = some o → (∀ s1 w1, o = .inl s1 → R s1 w1 → wp d k hd (lv s1) [] w1 P) → (∀ s1 w1, o = .inr s1 → R s1 w1 → wp d k ex (lv s1) [] w1 P) → wp d k hd (lv s) [] w P) : ∀ (g : Nat) (s : σ) (w : pm_H) (s1 : σ), it0 B g s = some s1 → R s w → (∀ w1, R s1 w1 → wp d k ex (lv s1) [] w1 P) → wp d k hd (lv s) [] w P
  | 0, _, _, _, h, _, _ => by cases h
  | g + 1, s, w, s1, h, hR, kk => by
    obtain ⟨o, h1, h2⟩ := bd h
    refine hB s w o hR h1 (fun s2 w2 e hR2 => ?_) (fun s2 w2 e hR2 => ?_)
    · subst e
      exact wp_it0 hB g s2 w2 s1 h2 hR2 kk
    · subst e
      cases h2
      exact kk w2 hR2
theorem wp_it1 {σ ρ : Type} {B : σ → Option (σ ⊕ (σ ⊕ ρ))} {lv : σ → pm_L} {R : σ → pm_H → Prop} {Q : ρ → pm_H → Prop} {rv : ρ → Option Value} {d k hd ex : Nat} {P : Option Value → pm_H → Prop} (hB : ∀ s w o, R s w → B s = some o → (∀ s1 w1, o = .inl s1 → R s1 w1 → wp d k hd (lv s1) [] w1 P) → (∀ s1 w1, o = .inr (.inl s1) → R s1 w1 → wp d k ex (lv s1) [] w1 P) → (∀ r w1, o = .inr (.inr r) → Q r w1 → P (rv r) w1) → wp d k hd (lv s) [] w P) : ∀ (g : Nat) (s : σ) (w : pm_H) (x : σ ⊕ ρ), it1 B g s = some x → R s w → (∀ s1 w1, x = .inl s1 → R s1 w1 → wp d k ex (lv s1) [] w1 P) → (∀ r w1, x = .inr r → Q r w1 → P (rv r) w1) → wp d k hd (lv s) [] w P
  | 0, _, _, _, h, _, _, _ => by cases h
  | g + 1, s, w, x, h, hR, kk, kr => by
    obtain ⟨o, h1, h2⟩ := bd h
    refine hB s w o hR h1 (fun s2 w2 e hR2 => ?_) (fun s2 w2 e hR2 => ?_) (fun r w2 e hQ => ?_)
    · subst e
      exact wp_it1 hB g s2 w2 x h2 hR2 kk kr
    · subst e
      cases h2
      exact kk s2 w2 rfl hR2
    · subst e
      cases h2
      exact kr r w2 rfl hQ
def mxI (x y : Int32) : Int32 := if x < y then y else x
def mnI (x y : Int32) : Int32 := if y < x then y else x
def mxL (x y : Int64) : Int64 := if y < x then x else y
def mnL (x y : Int64) : Int64 := if y < x then y else x
def sln (n : Nat) : Option Int32 := if n < 7 then some (nI (pm_Sl.getD n 0)) else none
def sch (n : Nat) (j : Int32) : Option Int32 := if n < 7 ∧ ¬ j < 0 ∧ j.toNatClampNeg < pm_Sl.getD n 0 then some (pm_ch n j.toNatClampNeg) else none
section WX
variable {d k pc : Nat} {lv : pm_L} {rest : List Value} {w : pm_H} {ln a b ci o z kf n : Nat} {zz : Int} {P : Option Value → pm_H → Prop} {sh : Shp} {x : Nat} {s : Ob} {l : Lo} {fd : List (Nat × Nat)} {j v : Int32} {u : Int64} {i : Nat}
theorem wx_gi (hI : pm_I k pc = some (.getfield kf, ln, ci, b, zz)) (h : rel sh x s l w) (hq : (0, 0, ci, fd) ∈ sh) (hb : fd[b]? = some (0, 0)) (kk : wp d k (pc + 3) lv (.int (s 0 b) :: rest) w P) : wp d k pc lv (.ref x :: rest) w P :=
  wp_get hI (h _ hq) (by rw [fv_i x (s 0) (l 0) fd 0 b 0 hb, Nat.zero_add]) kk
theorem wx_gl (hI : pm_I k pc = some (.getfield kf, ln, ci, b, zz)) (h : rel sh x s l w) (hq : (0, 0, ci, fd) ∈ sh) (hb : fd[b]? = some (1, 0)) (kk : wp d k (pc + 3) lv (.long (l 0 b) :: rest) w P) : wp d k pc lv (.ref x :: rest) w P :=
  wp_get hI (h _ hq) (by rw [fv_l x (s 0) (l 0) fd 0 b 0 hb, Nat.zero_add]) kk
theorem wx_gr (hI : pm_I k pc = some (.getfield kf, ln, ci, b, zz)) (h : rel sh x s l w) (hq : (0, 0, ci, fd) ∈ sh) (hb : fd[b]? = some (2, o)) (kk : wp d k (pc + 3) lv (.ref (x + o) :: rest) w P) : wp d k pc lv (.ref x :: rest) w P :=
  wp_get hI (h _ hq) (fv_r x (s 0) (l 0) fd 0 b o hb) kk
theorem wx_pi (hI : pm_I k pc = some (.putfield kf, ln, ci, b, zz)) (h : rel sh x s l w) (hn : shn sh) (hq : (0, 0, ci, fd) ∈ sh) (hb : fd[b]? = some (0, 0)) (hf : pm_ft ci b = .int) (K : ∀ w1, rel sh x (up2 s 0 b v) l w1 → fr (inS sh x) w w1 → wp d k (pc + 3) lv rest w1 P) : wp d k pc lv (.int v :: .ref x :: rest) w P := by
  have h0 : w[x]? = some (0, ci, fv x (s 0) (l 0) 0 fd) := h _ hq
  refine wp_put hI h0 (by rw [fv_len]; exact (List.getElem?_eq_some_iff.mp hb).1) (by rw [hf]; rfl) ?_
  rw [fv_si x (s 0) (l 0) v fd 0 b 0 hb, Nat.zero_add]
  refine K _ (rel_set (s1 := up2 s 0 b v) (l1 := l) h hn hq (fun p hp => if_neg hp) (fun _ _ => rfl)) (fr_set h0 ⟨_, hq, rfl⟩ rfl rfl ?_)
  show (fv _ _ _ _ _).length = (fv _ _ _ _ _).length
  rw [fv_len, fv_len]
theorem wx_pl (hI : pm_I k pc = some (.putfield kf, ln, ci, b, zz)) (h : rel sh x s l w) (hn : shn sh) (hq : (0, 0, ci, fd) ∈ sh) (hb : fd[b]? = some (1, 0)) (hf : pm_ft ci b = .long) (K : ∀ w1, rel sh x s (ul2 l 0 b u) w1 → fr (inS sh x) w w1 → wp d k (pc + 3) lv rest w1 P) : wp d k pc lv (.long u :: .ref x :: rest) w P := by
  have h0 : w[x]? = some (0, ci, fv x (s 0) (l 0) 0 fd) := h _ hq
  refine wp_put hI h0 (by rw [fv_len]; exact (List.getElem?_eq_some_iff.mp hb).1) (by rw [hf]; rfl) ?_
  rw [fv_sl x (s 0) (l 0) u fd 0 b 0 hb, Nat.zero_add]
  refine K _ (rel_set (s1 := s) (l1 := ul2 l 0 b u) h hn hq (fun _ _ => rfl) (fun p hp => if_neg hp)) (fr_set h0 ⟨_, hq, rfl⟩ rfl rfl ?_)
  show (fv _ _ _ _ _).length = (fv _ _ _ _ _).length
  rw [fv_len, fv_len]
/-! rows: what lies there, then what is read or written -/
theorem wx_ra {f : Nat → Int32} (hI : pm_I k pc = some (.iaload, ln, a, b, zz)) (hw : w[x]? = some (1, 0, ar n f)) (e : ix n j = some i) (kk : wp d k (pc + 1) lv (.int (f i) :: rest) w P) : wp d k pc lv (.int j :: .ref x :: rest) w P := by
  obtain ⟨h1, h2, h3⟩ := ix_of e
  exact wp_ild hI hw h1 (by rw [h2]; exact ar_get h3) kk
theorem wx_rb {f : Nat → Int32} (hI : pm_I k pc = some (.baload, ln, a, b, zz)) (hw : w[x]? = some (1, 2, ar n f)) (e : ix n j = some i) (kk : wp d k (pc + 1) lv (.int (f i) :: rest) w P) : wp d k pc lv (.int j :: .ref x :: rest) w P := by
  obtain ⟨h1, h2, h3⟩ := ix_of e
  exact wp_bld hI hw h1 (by rw [h2]; exact ar_get h3) kk
theorem wx_rz {f : Nat → Int32} (hI : pm_I k pc = some (.baload, ln, a, b, zz)) (hw : w[x]? = some (1, 3, ar n f)) (e : ix n j = some i) (kk : wp d k (pc + 1) lv (.int (f i) :: rest) w P) : wp d k pc lv (.int j :: .ref x :: rest) w P := by
  obtain ⟨h1, h2, h3⟩ := ix_of e
  exact wp_zld hI hw h1 (by rw [h2]; exact ar_get h3) kk
theorem wx_rl {f : Nat → Int64} (hI : pm_I k pc = some (.laload, ln, a, b, zz)) (hw : w[x]? = some (1, 1, al n f)) (e : ix n j = some i) (kk : wp d k (pc + 1) lv (.long (f i) :: rest) w P) : wp d k pc lv (.int j :: .ref x :: rest) w P := by
  obtain ⟨h1, h2, h3⟩ := ix_of e
  exact wp_lld hI hw h1 (by rw [h2]; exact al_get h3) kk
theorem wx_wa (hI : pm_I k pc = some (.iastore, ln, a, b, zz)) (h : rel sh x s l w) (hn : shn sh) (hq : (o, 1, 0, [(n, 0)]) ∈ sh) (e : ix n j = some i) (K : ∀ w1, rel sh x (up2 s o i v) l w1 → fr (inS sh x) w w1 → wp d k (pc + 1) lv rest w1 P) : wp d k pc lv (.int v :: .int j :: .ref (x + o) :: rest) w P := by
  obtain ⟨h1, h2, h3⟩ := ix_of e
  have h0 : w[x + o]? = some (1, 0, ar n (s o)) := h _ hq
  refine wp_ist hI h0 h1 (by rw [h2, ar_len]; exact h3) ?_
  rw [h2, ar_set, show upd (s o) i v = up2 s o i v o from (if_pos rfl).symm]
  refine K _ (rel_set (s1 := up2 s o i v) (l1 := l) h hn hq (fun p hp => if_neg hp) (fun _ _ => rfl)) (fr_set h0 ⟨_, hq, rfl⟩ rfl rfl ?_)
  show (ar _ _).length = (ar _ _).length
  rw [ar_len, ar_len]
theorem wx_wb (hI : pm_I k pc = some (.bastore, ln, a, b, zz)) (h : rel sh x s l w) (hn : shn sh) (hq : (o, 1, 2, [(n, 0)]) ∈ sh) (e : ix n j = some i) (K : ∀ w1, rel sh x (up2 s o i v.toInt8.toInt32) l w1 → fr (inS sh x) w w1 → wp d k (pc + 1) lv rest w1 P) : wp d k pc lv (.int v :: .int j :: .ref (x + o) :: rest) w P := by
  obtain ⟨h1, h2, h3⟩ := ix_of e
  have h0 : w[x + o]? = some (1, 2, ar n (s o)) := h _ hq
  refine wp_bst hI h0 h1 (by rw [h2, ar_len]; exact h3) ?_
  rw [h2, ar_set, show upd (s o) i v.toInt8.toInt32 = up2 s o i v.toInt8.toInt32 o from (if_pos rfl).symm]
  refine K _ (rel_set (s1 := up2 s o i v.toInt8.toInt32) (l1 := l) h hn hq (fun p hp => if_neg hp) (fun _ _ => rfl)) (fr_set h0 ⟨_, hq, rfl⟩ rfl rfl ?_)
  show (ar _ _).length = (ar _ _).length
  rw [ar_len, ar_len]
theorem wx_wl (hI : pm_I k pc = some (.lastore, ln, a, b, zz)) (h : rel sh x s l w) (hn : shn sh) (hq : (o, 1, 1, [(n, 0)]) ∈ sh) (e : ix n j = some i) (K : ∀ w1, rel sh x s (ul2 l o i u) w1 → fr (inS sh x) w w1 → wp d k (pc + 1) lv rest w1 P) : wp d k pc lv (.long u :: .int j :: .ref (x + o) :: rest) w P := by
  obtain ⟨h1, h2, h3⟩ := ix_of e
  have h0 : w[x + o]? = some (1, 1, al n (l o)) := h _ hq
  refine wp_lst hI h0 h1 (by rw [h2, al_len]; exact h3) ?_
  rw [h2, al_set, show vp_updL (l o) i u = ul2 l o i u o from (if_pos rfl).symm]
  refine K _ (rel_set (s1 := s) (l1 := ul2 l o i u) h hn hq (fun _ _ => rfl) (fun p hp => if_neg hp)) (fr_set h0 ⟨_, hq, rfl⟩ rfl rfl ?_)
  show (al _ _).length = (al _ _).length
  rw [al_len, al_len]
/-! branches -/
variable {oo : Int} {x1 y1 : Int32} {x2 y2 : Int64}
theorem wx_eq (hI : pm_I k pc = some (.if_icmp .eq oo, ln, a, b, zz)) (kt : x1 = y1 → wp d k a lv rest w P) (kf : ¬ x1 = y1 → wp d k (pc + 3) lv rest w P) : wp d k pc lv (.int y1 :: .int x1 :: rest) w P := wp_icm hI (fun h => kt (of_decide_eq_true h)) (fun h => kf (of_decide_eq_false h))
theorem wx_ne (hI : pm_I k pc = some (.if_icmp .ne oo, ln, a, b, zz)) (kt : ¬ x1 = y1 → wp d k a lv rest w P) (kf : x1 = y1 → wp d k (pc + 3) lv rest w P) : wp d k pc lv (.int y1 :: .int x1 :: rest) w P := wp_icm hI (fun h => kt (of_decide_eq_true h)) (fun h => kf (Classical.not_not.mp (of_decide_eq_false h)))
theorem wx_lt (hI : pm_I k pc = some (.if_icmp .lt oo, ln, a, b, zz)) (kt : x1 < y1 → wp d k a lv rest w P) (kf : ¬ x1 < y1 → wp d k (pc + 3) lv rest w P) : wp d k pc lv (.int y1 :: .int x1 :: rest) w P := wp_icm hI (fun h => kt (of_decide_eq_true h)) (fun h => kf (of_decide_eq_false h))
theorem wx_ge (hI : pm_I k pc = some (.if_icmp .ge oo, ln, a, b, zz)) (kt : ¬ x1 < y1 → wp d k a lv rest w P) (kf : x1 < y1 → wp d k (pc + 3) lv rest w P) : wp d k pc lv (.int y1 :: .int x1 :: rest) w P := wp_icm hI (fun h => kt (Int32.not_lt.mpr (of_decide_eq_true h))) (fun h => kf (Int32.not_le.mp (of_decide_eq_false h)))
theorem wx_gt (hI : pm_I k pc = some (.if_icmp .gt oo, ln, a, b, zz)) (kt : y1 < x1 → wp d k a lv rest w P) (kf : ¬ y1 < x1 → wp d k (pc + 3) lv rest w P) : wp d k pc lv (.int y1 :: .int x1 :: rest) w P := wp_icm hI (fun h => kt (of_decide_eq_true h)) (fun h => kf (of_decide_eq_false h))
theorem wx_le (hI : pm_I k pc = some (.if_icmp .le oo, ln, a, b, zz)) (kt : ¬ y1 < x1 → wp d k a lv rest w P) (kf : y1 < x1 → wp d k (pc + 3) lv rest w P) : wp d k pc lv (.int y1 :: .int x1 :: rest) w P := wp_icm hI (fun h => kt (Int32.not_lt.mpr (of_decide_eq_true h))) (fun h => kf (Int32.not_le.mp (of_decide_eq_false h)))
theorem wz_eq (hI : pm_I k pc = some (.ifCond .eq oo, ln, a, b, zz)) (kt : x1 = nI 0 → wp d k a lv rest w P) (kf : ¬ x1 = nI 0 → wp d k (pc + 3) lv rest w P) : wp d k pc lv (.int x1 :: rest) w P := wp_ifc hI (fun h => kt (of_decide_eq_true h)) (fun h => kf (of_decide_eq_false h))
theorem wz_ne (hI : pm_I k pc = some (.ifCond .ne oo, ln, a, b, zz)) (kt : ¬ x1 = nI 0 → wp d k a lv rest w P) (kf : x1 = nI 0 → wp d k (pc + 3) lv rest w P) : wp d k pc lv (.int x1 :: rest) w P := wp_ifc hI (fun h => kt (of_decide_eq_true h)) (fun h => kf (Classical.not_not.mp (of_decide_eq_false h)))
theorem wz_lt (hI : pm_I k pc = some (.ifCond .lt oo, ln, a, b, zz)) (kt : x1 < nI 0 → wp d k a lv rest w P) (kf : ¬ x1 < nI 0 → wp d k (pc + 3) lv rest w P) : wp d k pc lv (.int x1 :: rest) w P := wp_ifc hI (fun h => kt (of_decide_eq_true h)) (fun h => kf (of_decide_eq_false h))
theorem wz_ge (hI : pm_I k pc = some (.ifCond .ge oo, ln, a, b, zz)) (kt : ¬ x1 < nI 0 → wp d k a lv rest w P) (kf : x1 < nI 0 → wp d k (pc + 3) lv rest w P) : wp d k pc lv (.int x1 :: rest) w P := wp_ifc hI (fun h => kt (Int32.not_lt.mpr (of_decide_eq_true h))) (fun h => kf (Int32.not_le.mp (of_decide_eq_false h)))
theorem wz_gt (hI : pm_I k pc = some (.ifCond .gt oo, ln, a, b, zz)) (kt : nI 0 < x1 → wp d k a lv rest w P) (kf : ¬ nI 0 < x1 → wp d k (pc + 3) lv rest w P) : wp d k pc lv (.int x1 :: rest) w P := wp_ifc hI (fun h => kt (of_decide_eq_true h)) (fun h => kf (of_decide_eq_false h))
theorem wz_le (hI : pm_I k pc = some (.ifCond .le oo, ln, a, b, zz)) (kt : ¬ nI 0 < x1 → wp d k a lv rest w P) (kf : nI 0 < x1 → wp d k (pc + 3) lv rest w P) : wp d k pc lv (.int x1 :: rest) w P := wp_ifc hI (fun h => kt (Int32.not_lt.mpr (of_decide_eq_true h))) (fun h => kf (Int32.not_le.mp (of_decide_eq_false h)))
theorem lg_z (x2 y2 : Int64) : (lg_cmp x2 y2 < nI 0 ↔ x2 < y2) ∧ (nI 0 < lg_cmp x2 y2 ↔ y2 < x2) ∧ (lg_cmp x2 y2 = nI 0 ↔ x2 = y2) := by
  have h0 : (nI 0).toInt = 0 := by decide
  rw [Int32.lt_iff_toInt_lt, Int32.lt_iff_toInt_lt, Int64.lt_iff_toInt_lt, Int64.lt_iff_toInt_lt, ← Int32.toInt_inj, ← Int64.toInt_inj, h0]
  rcases lgc x2 y2 with h | h | h <;> refine ⟨?_, ?_, ?_⟩ <;> omega
theorem wl_eq (hI : pm_I k pc = some (.ifCond .eq oo, ln, a, b, zz)) (kt : x2 = y2 → wp d k a lv rest w P) (kf : ¬ x2 = y2 → wp d k (pc + 3) lv rest w P) : wp d k pc lv (.int (lg_cmp x2 y2) :: rest) w P := wz_eq hI (fun h => kt ((lg_z x2 y2).2.2.mp h)) (fun h => kf (fun q => h ((lg_z x2 y2).2.2.mpr q)))
theorem wl_ne (hI : pm_I k pc = some (.ifCond .ne oo, ln, a, b, zz)) (kt : ¬ x2 = y2 → wp d k a lv rest w P) (kf : x2 = y2 → wp d k (pc + 3) lv rest w P) : wp d k pc lv (.int (lg_cmp x2 y2) :: rest) w P := wz_ne hI (fun h => kt (fun q => h ((lg_z x2 y2).2.2.mpr q))) (fun h => kf ((lg_z x2 y2).2.2.mp h))
theorem wl_lt (hI : pm_I k pc = some (.ifCond .lt oo, ln, a, b, zz)) (kt : x2 < y2 → wp d k a lv rest w P) (kf : ¬ x2 < y2 → wp d k (pc + 3) lv rest w P) : wp d k pc lv (.int (lg_cmp x2 y2) :: rest) w P := wz_lt hI (fun h => kt ((lg_z x2 y2).1.mp h)) (fun h => kf (fun q => h ((lg_z x2 y2).1.mpr q)))
theorem wl_ge (hI : pm_I k pc = some (.ifCond .ge oo, ln, a, b, zz)) (kt : ¬ x2 < y2 → wp d k a lv rest w P) (kf : x2 < y2 → wp d k (pc + 3) lv rest w P) : wp d k pc lv (.int (lg_cmp x2 y2) :: rest) w P := wz_ge hI (fun h => kt (fun q => h ((lg_z x2 y2).1.mpr q))) (fun h => kf ((lg_z x2 y2).1.mp h))
theorem wl_gt (hI : pm_I k pc = some (.ifCond .gt oo, ln, a, b, zz)) (kt : y2 < x2 → wp d k a lv rest w P) (kf : ¬ y2 < x2 → wp d k (pc + 3) lv rest w P) : wp d k pc lv (.int (lg_cmp x2 y2) :: rest) w P := wz_gt hI (fun h => kt ((lg_z x2 y2).2.1.mp h)) (fun h => kf (fun q => h ((lg_z x2 y2).2.1.mpr q)))
theorem wl_le (hI : pm_I k pc = some (.ifCond .le oo, ln, a, b, zz)) (kt : ¬ y2 < x2 → wp d k a lv rest w P) (kf : y2 < x2 → wp d k (pc + 3) lv rest w P) : wp d k pc lv (.int (lg_cmp x2 y2) :: rest) w P := wz_le hI (fun h => kt (fun q => h ((lg_z x2 y2).2.1.mpr q))) (fun h => kf ((lg_z x2 y2).2.1.mp h))
theorem wx_dv (hI : pm_I k pc = some (.idiv, ln, a, b, zz)) (h : ¬ y1 = nI 0) (kk : wp d k (pc + 1) lv (.int (x1 / y1) :: rest) w P) : wp d k pc lv (.int y1 :: .int x1 :: rest) w P :=
  wp_of (fun _ _ h3 => ev_st hI rfl rfl (by show (if y1 = 0 then none else some _) = _; rw [if_neg (show ¬ y1 = 0 from h)]) h3) kk
theorem wx_rm (hI : pm_I k pc = some (.irem, ln, a, b, zz)) (h : ¬ y1 = nI 0) (kk : wp d k (pc + 1) lv (.int (x1 - x1 / y1 * y1) :: rest) w P) : wp d k pc lv (.int y1 :: .int x1 :: rest) w P :=
  wp_of (fun _ _ h3 => ev_st hI rfl rfl (by show (if y1 = 0 then none else some _) = _; rw [if_neg (show ¬ y1 = 0 from h)]) h3) kk
theorem wx_ld (hI : pm_I k pc = some (.ldiv, ln, a, b, zz)) (h : ¬ y2 = 0) (kk : wp d k (pc + 1) lv (.long (x2 / y2) :: rest) w P) : wp d k pc lv (.long y2 :: .long x2 :: rest) w P :=
  wp_of (fun _ _ h3 => ev_st hI rfl rfl (by show (if y2 = 0 then none else some _) = _; rw [if_neg h]) h3) kk
theorem wx_lr (hI : pm_I k pc = some (.lrem, ln, a, b, zz)) (h : ¬ y2 = 0) (kk : wp d k (pc + 1) lv (.long (x2 - x2 / y2 * y2) :: rest) w P) : wp d k pc lv (.long y2 :: .long x2 :: rest) w P :=
  wp_of (fun _ _ h3 => ev_st hI rfl rfl (by show (if y2 = 0 then none else some _) = _; rw [if_neg h]) h3) kk
theorem wx_sw {dflt lo hi : Int} {offs : Array Int} {tgt : Nat} {q : Int} (hI : pm_I k pc = some (.tableswitch dflt lo hi offs, ln, a, b, zz)) (e : x1 = j) (hlo : lo ≤ j.toInt) (hhi : j.toInt ≤ hi) (ho : offs[(j.toInt - lo).toNat]? = some q) (ht : (pc : Int) + q = (tgt : Int)) (kk : wp d k tgt lv rest w P) : wp d k pc lv (.int x1 :: rest) w P := by
  subst e
  refine wp_of (fun _ _ h3 => ev_st hI rfl rfl ?_ h3) kk
  show (if x1.toInt < lo ∨ hi < x1.toInt then (if 0 ≤ (pc : Int) + dflt then some (((pc : Int) + dflt).toNat, lv, rest, w) else none)
      else match offs[(x1.toInt - lo).toNat]? with
        | some o => if 0 ≤ (pc : Int) + o then some (((pc : Int) + o).toNat, lv, rest, w) else none
        | none => none) = _
  rw [if_neg (by omega), ho]
  show (if 0 ≤ (pc : Int) + q then some (((pc : Int) + q).toNat, lv, rest, w) else none) = _
  rw [ht, if_pos (Int.natCast_nonneg tgt)]
  rfl
end WX
