/-! runs of the pure machine, without fuel -/
theorem ev_fuel : ∀ (f d k pc : Nat) (lv : pm_L) (st : List Value) (w : pm_H) (x : Option Value × pm_H), pm_run f d k pc lv st w = some x → ∀ g, f ≤ g → pm_run g d k pc lv st w = some x := by
  intro f
  induction f with
  | zero => intro d k pc lv st w x h; cases h
  | succ f ih =>
    intro d k pc lv st w x h g hg
    obtain ⟨g, rfl⟩ : ∃ g', g = g' + 1 := ⟨g - 1, by omega⟩
    have hg : f ≤ g := by omega
    unfold pm_run at h ⊢
    split at h
    · cases h
    · rename_i q hq
      split at h
      · rename_i h1
        rw [if_pos h1]
        exact h
      · rename_i h1
        rw [if_neg h1]
        split at h
        · rename_i h2
          rw [if_pos h2]
          split at h
          · cases h
          · split at h
            · rename_i h3
              rw [if_pos h3]
              split at h
              · split at h
                · rename_i hcs
                  rw [if_pos hcs]
                  exact ih _ _ _ _ _ _ _ h g hg
                · cases h
              · cases h
            · rename_i h3
              rw [if_neg h3]
              split at h
              · rename_i h4
                rw [if_pos h4]
                split at h
                · rename_i r w2 hc
                  rw [ih _ _ _ _ _ _ _ hc g hg]
                  exact ih _ _ _ _ _ _ _ h g hg
                · cases h
              · cases h
        · rename_i h2
          rw [if_neg h2]
          split at h
          · exact ih _ _ _ _ _ _ _ h g hg
          · cases h
/-- from this place on the method comes to r and the heap w1 -/
def ev_at (d k pc : Nat) (lv : pm_L) (st : List Value) (w : pm_H) (r : Option Value) (w1 : pm_H) : Prop := ∃ f, pm_run f d k pc lv st w = some (r, w1)
/-- called with these arguments the method answers r and leaves the heap w1 -/
def ev (d k : Nat) (as : List Value) (w : pm_H) (r : Option Value) (w1 : pm_H) : Prop := ev_at d k 0 (lv_args 0 as) [] w r w1
section EV
variable {d k pc pc1 : Nat} {lv lv1 : pm_L} {st st1 : List Value} {w w1 w2 : pm_H} {r r2 : Option Value} {i : Instr} {ln a b : Nat} {z : Int}
theorem ev_st (hI : pm_I k pc = some (i, ln, a, b, z)) (h1 : pm_isr i = false) (h2 : pm_inv i = false) (h : pm_step k (i, ln, a, b, z) pc lv st w = some (pc1, lv1, st1, w1)) (kk : ev_at d k pc1 lv1 st1 w1 r w2) : ev_at d k pc lv st w r w2 := by
  obtain ⟨f, hf⟩ := kk
  refine ⟨f + 1, ?_⟩
  show pm_run (f + 1) d k pc lv st w = _
  unfold pm_run
  rw [hI]
  try dsimp only
  rw [h1, h2, h]
  exact hf
theorem ev_rt (hI : pm_I k pc = some (i, ln, a, b, z)) (h1 : pm_isr i = true) (h : pm_ret k i st = some r) : ev_at d k pc lv st w r w := by
  refine ⟨1, ?_⟩
  show pm_run (0 + 1) d k pc lv st w = _
  unfold pm_run
  rw [hI]
  try dsimp only
  rw [h1, h]
  rfl
theorem ev_lb (hI : pm_I k pc = some (i, ln, a, b, z)) (h1 : pm_isr i = false) (h2 : pm_inv i = true) (ha : 1000 ≤ a) (h : pm_lib a st w = some (st1, w1)) (hc : pm_cs st1 ≤ 8) (hd : 5 ≤ d) (kk : ev_at (d + 1) k (pc + 3) lv st1 w1 r w2) : ev_at (d + 1) k pc lv st w r w2 := by
  obtain ⟨f, hf⟩ := kk
  refine ⟨f + 1, ?_⟩
  unfold pm_run
  rw [hI]
  try dsimp only
  rw [h1, h2, if_pos ha, h]
  try dsimp only
  rw [if_pos (show pm_cs st1 ≤ 8 ∧ 6 ≤ d + 1 from ⟨hc, by omega⟩)]
  exact hf
theorem ev_cl (as rest : List Value) (hI : pm_I k pc = some (i, ln, a, b, z)) (h1 : pm_isr i = false) (h2 : pm_inv i = true) (ha : ¬ 1000 ≤ a) (hs : st = as.reverse ++ rest) (hn : as.length = pm_na a) (hcs : pm_cs rest ≤ 8) (hsl : (lg_sl as).length ≤ pm_n a) (hr : (pm_k a == 1 || pm_rcv a as w) = true) (hc : ev d a as w r2 w1) (kk : ev_at (d + 1) k (pc + 3) lv (r2.toList ++ rest) w1 r w2) : ev_at (d + 1) k pc lv st w r w2 := by
  obtain ⟨f, hf⟩ := kk
  obtain ⟨g, hg⟩ := hc
  have l1 : as.reverse.length = pm_na a := by rw [List.length_reverse, hn]
  have e1 : st.take (pm_na a) = as.reverse := by rw [hs, ← l1, List.take_left']; rfl
  have e2 : st.drop (pm_na a) = rest := by rw [hs, ← l1, List.drop_left']; rfl
  have hok : pm_cok a st w = true := by
    unfold pm_cok
    rw [e1, e2, List.reverse_reverse]
    simp only [Bool.and_eq_true, decide_eq_true_eq]
    exact ⟨by rw [hs, List.length_append, l1]; exact Nat.le_add_right _ _, hcs, hsl, hr⟩
  refine ⟨f + g + 1, ?_⟩
  unfold pm_run
  rw [hI]
  try dsimp only
  rw [h1, h2, if_neg ha, hok, e1, e2, List.reverse_reverse, ev_fuel _ _ _ _ _ _ _ _ hg (f + g) (Nat.le_add_left _ _)]
  exact ev_fuel _ _ _ _ _ _ _ _ hf (f + g) (Nat.le_add_right _ _)
/-- reading behind a write elsewhere -/
theorem ev_ne {c c0 : pm_C} {x y : Nat} (h : w[y]? = some c) (hn : x ≠ y) : (w.set x c0)[y]? = some c := by
  rw [List.getElem?_set_ne hn]; exact h
theorem ev_eq {c c0 : pm_C} {x : Nat} (h : w[x]? = some c) : (w.set x c0)[x]? = some c0 := List.getElem?_set_self (List.getElem?_eq_some_iff.mp h).1
theorem ev_get {x kf : Nat} {fs : List Value} {v : Value} {rest : List Value} (hI : pm_I k pc = some (i, ln, a, b, z)) (hi : i = .getfield kf) (hw : w[x]? = some (0, a, fs)) (hv : fs[b]? = some v) (kk : ev_at d k (pc + 3) lv (v :: rest) w r w2) : ev_at d k pc lv (.ref x :: rest) w r w2 := by
  subst hi
  refine ev_st hI rfl rfl ?_ kk
  show (match w[x]? with
    | some (0, ci, fs) => if ci = a then (fs[b]?).map (fun v => (pc + 3, lv, v :: rest, w)) else none
    | _ => none) = _
  rw [hw]
  simp only [if_true, hv]
  rfl
theorem ev_put {x kf : Nat} {fs : List Value} {v : Value} {rest : List Value} (hI : pm_I k pc = some (i, ln, a, b, z)) (hi : i = .putfield kf) (hw : w[x]? = some (0, a, fs)) (hv : b < fs.length) (hf : pm_fit (pm_ft a b) v = true) (kk : ev_at d k (pc + 3) lv rest (w.set x (0, a, fs.set b v)) r w2) : ev_at d k pc lv (v :: .ref x :: rest) w r w2 := by
  subst hi
  refine ev_st hI rfl rfl ?_ kk
  show (match w[x]? with
    | some (0, ci, fs) => if ci = a ∧ b < fs.length ∧ pm_fit (pm_ft a b) v = true then some (pc + 3, lv, rest, w.set x (0, ci, fs.set b v)) else none
    | _ => none) = _
  rw [hw]
  show (if a = a ∧ b < fs.length ∧ pm_fit (pm_ft a b) v = true then some (pc + 3, lv, rest, w.set x (0, a, fs.set b v)) else none) = _
  rw [if_pos ⟨rfl, hv, hf⟩]
theorem ev_rd {t x : Nat} {j : Int32} {vs : List Value} {v : Value} (hw : w[x]? = some (1, t, vs)) (h0 : ¬ j < 0) (hv : vs[j.toNatClampNeg]? = some v) : pm_rd w x t j = some v := by
  unfold pm_rd
  rw [hw]
  show (if t = t then (if j < 0 then none else vs[j.toNatClampNeg]?) else none) = _
  rw [if_pos rfl, if_neg h0]
  exact hv
theorem ev_wr {t x : Nat} {j : Int32} {vs : List Value} {v : Value} (hw : w[x]? = some (1, t, vs)) (h0 : ¬ j < 0) (hl : j.toNatClampNeg < vs.length) : pm_wr w x t j v = some (w.set x (1, t, vs.set j.toNatClampNeg v)) := by
  unfold pm_wr
  rw [hw]
  show (if t = t ∧ ¬ j < 0 ∧ j.toNatClampNeg < vs.length then some (w.set x (1, t, vs.set j.toNatClampNeg v)) else none) = _
  rw [if_pos ⟨rfl, h0, hl⟩]
theorem ev_ild {x : Nat} {j : Int32} {vs : List Value} {v : Value} {rest : List Value} (hI : pm_I k pc = some (.iaload, ln, a, b, z)) (hw : w[x]? = some (1, 0, vs)) (h0 : ¬ j < 0) (hv : vs[j.toNatClampNeg]? = some v) (kk : ev_at d k (pc + 1) lv (v :: rest) w r w2) : ev_at d k pc lv (.int j :: .ref x :: rest) w r w2 := by
  refine ev_st hI rfl rfl ?_ kk
  show (pm_rd w x 0 j).map _ = _
  rw [ev_rd hw h0 hv]
  rfl
theorem ev_lld {x : Nat} {j : Int32} {vs : List Value} {v : Value} {rest : List Value} (hI : pm_I k pc = some (.laload, ln, a, b, z)) (hw : w[x]? = some (1, 1, vs)) (h0 : ¬ j < 0) (hv : vs[j.toNatClampNeg]? = some v) (kk : ev_at d k (pc + 1) lv (v :: rest) w r w2) : ev_at d k pc lv (.int j :: .ref x :: rest) w r w2 := by
  refine ev_st hI rfl rfl ?_ kk
  show (pm_rd w x 1 j).map _ = _
  rw [ev_rd hw h0 hv]
  rfl
theorem ev_bld {x : Nat} {j : Int32} {vs : List Value} {v : Value} {rest : List Value} (hI : pm_I k pc = some (.baload, ln, a, b, z)) (hw : w[x]? = some (1, 2, vs)) (h0 : ¬ j < 0) (hv : vs[j.toNatClampNeg]? = some v) (kk : ev_at d k (pc + 1) lv (v :: rest) w r w2) : ev_at d k pc lv (.int j :: .ref x :: rest) w r w2 := by
  refine ev_st hI rfl rfl ?_ kk
  show (match w[x]? with
      | some (1, 2, _) => (pm_rd w x 2 j).map fun v => (pc + 1, lv, v :: rest, w)
      | _ => (pm_rd w x 3 j).map fun v => (pc + 1, lv, v :: rest, w)) = _
  rw [ev_rd hw h0 hv, hw]
  rfl
theorem ev_zld {x : Nat} {j : Int32} {vs : List Value} {v : Value} {rest : List Value} (hI : pm_I k pc = some (.baload, ln, a, b, z)) (hw : w[x]? = some (1, 3, vs)) (h0 : ¬ j < 0) (hv : vs[j.toNatClampNeg]? = some v) (kk : ev_at d k (pc + 1) lv (v :: rest) w r w2) : ev_at d k pc lv (.int j :: .ref x :: rest) w r w2 := by
  refine ev_st hI rfl rfl ?_ kk
  show (match w[x]? with
      | some (1, 2, _) => (pm_rd w x 2 j).map fun v => (pc + 1, lv, v :: rest, w)
      | _ => (pm_rd w x 3 j).map fun v => (pc + 1, lv, v :: rest, w)) = _
  rw [ev_rd hw h0 hv, hw]
  rfl
theorem ev_ald {x t : Nat} {j : Int32} {vs : List Value} {v : Value} {rest : List Value} (hI : pm_I k pc = some (.aaload, ln, a, b, z)) (hw : w[x]? = some (1, t, vs)) (ht : 4 ≤ t) (h0 : ¬ j < 0) (hv : vs[j.toNatClampNeg]? = some v) (kk : ev_at d k (pc + 1) lv (v :: rest) w r w2) : ev_at d k pc lv (.int j :: .ref x :: rest) w r w2 := by
  refine ev_st hI rfl rfl ?_ kk
  show (match w[x]? with
      | some (1, t, _) => if 4 ≤ t then (pm_rd w x t j).map fun v => (pc + 1, lv, v :: rest, w) else none
      | _ => none) = _
  rw [hw]
  show (if 4 ≤ t then (pm_rd w x t j).map fun v => (pc + 1, lv, v :: rest, w) else none) = _
  rw [if_pos ht, ev_rd hw h0 hv]
  rfl
theorem ev_ist {x : Nat} {j y : Int32} {vs : List Value} {rest : List Value} (hI : pm_I k pc = some (.iastore, ln, a, b, z)) (hw : w[x]? = some (1, 0, vs)) (h0 : ¬ j < 0) (hl : j.toNatClampNeg < vs.length) (kk : ev_at d k (pc + 1) lv rest (w.set x (1, 0, vs.set j.toNatClampNeg (.int y))) r w2) : ev_at d k pc lv (.int y :: .int j :: .ref x :: rest) w r w2 := by
  refine ev_st hI rfl rfl ?_ kk
  show (pm_wr w x 0 j (.int y)).map _ = _
  rw [ev_wr hw h0 hl]
  rfl
theorem ev_lst {x : Nat} {j : Int32} {y : Int64} {vs : List Value} {rest : List Value} (hI : pm_I k pc = some (.lastore, ln, a, b, z)) (hw : w[x]? = some (1, 1, vs)) (h0 : ¬ j < 0) (hl : j.toNatClampNeg < vs.length) (kk : ev_at d k (pc + 1) lv rest (w.set x (1, 1, vs.set j.toNatClampNeg (.long y))) r w2) : ev_at d k pc lv (.long y :: .int j :: .ref x :: rest) w r w2 := by
  refine ev_st hI rfl rfl ?_ kk
  show (pm_wr w x 1 j (.long y)).map _ = _
  rw [ev_wr hw h0 hl]
  rfl
theorem ev_bst {x : Nat} {j y : Int32} {vs : List Value} {rest : List Value} (hI : pm_I k pc = some (.bastore, ln, a, b, z)) (hw : w[x]? = some (1, 2, vs)) (h0 : ¬ j < 0) (hl : j.toNatClampNeg < vs.length) (kk : ev_at d k (pc + 1) lv rest (w.set x (1, 2, vs.set j.toNatClampNeg (.int y.toInt8.toInt32))) r w2) : ev_at d k pc lv (.int y :: .int j :: .ref x :: rest) w r w2 := by
  refine ev_st hI rfl rfl ?_ kk
  show (match w[x]? with
      | some (1, 2, _) => (pm_wr w x 2 j (narrow .byte (.int y))).map fun w' => (pc + 1, lv, rest, w')
      | _ => (pm_wr w x 3 j (narrow .boolean (.int y))).map fun w' => (pc + 1, lv, rest, w')) = _
  rw [ev_wr hw h0 hl, hw]
  rfl
theorem ev_len {x t : Nat} {vs : List Value} {rest : List Value} (hI : pm_I k pc = some (.arraylength, ln, a, b, z)) (hw : w[x]? = some (1, t, vs)) (kk : ev_at d k (pc + 1) lv (.int (Int32.ofNat vs.length) :: rest) w r w2) : ev_at d k pc lv (.ref x :: rest) w r w2 := by
  refine ev_st hI rfl rfl ?_ kk
  show (match w[x]? with
      | some (1, _, vs) => some (pc + 1, lv, Value.int (Int32.ofNat vs.length) :: rest, w)
      | _ => none) = _
  rw [hw]
  rfl
theorem ev_ifc {cnd : ClassFile.Cond} {o : Int} {x : Int32} {rest : List Value} (hI : pm_I k pc = some (.ifCond cnd o, ln, a, b, z)) (kt : pm_cz cnd x 0 = true → ev_at d k a lv rest w r w2) (kf : pm_cz cnd x 0 = false → ev_at d k (pc + 3) lv rest w r w2) : ev_at d k pc lv (.int x :: rest) w r w2 := by
  cases h : pm_cz cnd x 0 with
  | true => exact ev_st hI rfl rfl (show (if pm_cz cnd x 0 = true then some (a, lv, rest, w) else some (pc + 3, lv, rest, w)) = _ by rw [h, if_pos rfl]) (kt h)
  | false => exact ev_st hI rfl rfl (show (if pm_cz cnd x 0 = true then some (a, lv, rest, w) else some (pc + 3, lv, rest, w)) = _ by rw [h, if_neg (by decide)]) (kf h)
theorem ev_icm {cnd : ClassFile.Cond} {o : Int} {x y : Int32} {rest : List Value} (hI : pm_I k pc = some (.if_icmp cnd o, ln, a, b, z)) (kt : pm_cz cnd x y = true → ev_at d k a lv rest w r w2) (kf : pm_cz cnd x y = false → ev_at d k (pc + 3) lv rest w r w2) : ev_at d k pc lv (.int y :: .int x :: rest) w r w2 := by
  cases h : pm_cz cnd x y with
  | true => exact ev_st hI rfl rfl (show (if pm_cz cnd x y = true then some (a, lv, rest, w) else some (pc + 3, lv, rest, w)) = _ by rw [h, if_pos rfl]) (kt h)
  | false => exact ev_st hI rfl rfl (show (if pm_cz cnd x y = true then some (a, lv, rest, w) else some (pc + 3, lv, rest, w)) = _ by rw [h, if_neg (by decide)]) (kf h)
end EV
