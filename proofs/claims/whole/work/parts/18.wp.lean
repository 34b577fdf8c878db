/-! what holds behind a run, goal first -/
def pm_go : Nat → Nat → pm_F1 → Option pm_F1
  | 0, _, x => some x
  | n + 1, k, x => match pm_I k x.1 with
    | some q => if (pm_isr q.1 || pm_inv q.1) = true then none else match pm_step k q x.1 x.2.1 x.2.2.1 x.2.2.2 with
      | some y => pm_go n k y
      | none => none
    | none => none
theorem ev_go {d k : Nat} {r : Option Value} {w2 : pm_H} : ∀ (n : Nat) {x y : pm_F1}, pm_go n k x = some y → ev_at d k y.1 y.2.1 y.2.2.1 y.2.2.2 r w2 → ev_at d k x.1 x.2.1 x.2.2.1 x.2.2.2 r w2
  | 0, x, y, h, kk => by cases h; exact kk
  | n + 1, x, y, h, kk => by
    unfold pm_go at h
    split at h
    · rename_i q hq
      split at h
      · cases h
      · rename_i hc
        split at h
        · rename_i y2 hy
          have h1 := ev_go n h kk
          simp only [Bool.or_eq_true, not_or, Bool.not_eq_true] at hc
          exact ev_st (i := q.1) (ln := q.2.1) (a := q.2.2.1) (b := q.2.2.2.1) (z := q.2.2.2.2) hq hc.1 hc.2 hy h1
        · cases h
    · cases h
/-- from this place on the method comes to an end that P holds of -/
def wp (d k pc : Nat) (lv : pm_L) (st : List Value) (w : pm_H) (P : Option Value → pm_H → Prop) : Prop := ∃ r w1, ev_at d k pc lv st w r w1 ∧ P r w1
section WP
variable {d k pc pc1 : Nat} {lv lv1 : pm_L} {st st1 : List Value} {w w1 w2 : pm_H} {r r2 : Option Value} {i : Instr} {ln a b : Nat} {z : Int} {P P1 : Option Value → pm_H → Prop}
theorem wp_of (h : ∀ r w2, ev_at d k pc1 lv1 st1 w1 r w2 → ev_at d k pc lv st w r w2) (kk : wp d k pc1 lv1 st1 w1 P) : wp d k pc lv st w P := by
  obtain ⟨r, w2, h1, h2⟩ := kk
  exact ⟨r, w2, h r w2 h1, h2⟩
theorem wp_mono (kk : wp d k pc lv st w P1) (h : ∀ r w1, P1 r w1 → P r w1) : wp d k pc lv st w P := by
  obtain ⟨r, w2, h1, h2⟩ := kk
  exact ⟨r, w2, h1, h r w2 h2⟩
theorem wp_g (n : Nat) (h : pm_go n k (pc, lv, st, w) = some (pc1, lv1, st1, w1)) (kk : wp d k pc1 lv1 st1 w1 P) : wp d k pc lv st w P := wp_of (fun _ _ h1 => ev_go n h h1) kk
theorem wp_rt (hI : pm_I k pc = some (i, ln, a, b, z)) (h1 : pm_isr i = true) (h : pm_ret k i st = some r) (hp : P r w) : wp d k pc lv st w P := ⟨r, w, ev_rt hI h1 h, hp⟩
theorem wp_lb (hI : pm_I k pc = some (i, ln, a, b, z)) (h1 : pm_isr i = false) (h2 : pm_inv i = true) (ha : 1000 ≤ a) (h : pm_lib a st w = some (st1, w1)) (hc : pm_cs st1 ≤ 8) (hd : 5 ≤ d) (kk : wp (d + 1) k (pc + 3) lv st1 w1 P) : wp (d + 1) k pc lv st w P := wp_of (fun _ _ h3 => ev_lb hI h1 h2 ha h hc hd h3) kk
/-- a call: the callee, and what is behind it -/
theorem wp_cl (as rest : List Value) (hI : pm_I k pc = some (i, ln, a, b, z)) (h1 : pm_isr i = false) (h2 : pm_inv i = true) (ha : ¬ 1000 ≤ a) (hs : st = as.reverse ++ rest) (hn : as.length = pm_na a) (hcs : pm_cs rest ≤ 8) (hsl : (lg_sl as).length ≤ pm_n a) (hr : (pm_k a == 1 || pm_rcv a as w) = true) (kk : wp d a 0 (lv_args 0 as) [] w (fun r2 w1 => wp (d + 1) k (pc + 3) lv (r2.toList ++ rest) w1 P)) : wp (d + 1) k pc lv st w P := by
  obtain ⟨r2, w1, hc, r, w2, h3, h4⟩ := kk
  exact ⟨r, w2, ev_cl as rest hI h1 h2 ha hs hn hcs hsl hr hc h3, h4⟩
theorem wp_get {x kf : Nat} {fs : List Value} {v : Value} {rest : List Value} (hI : pm_I k pc = some (.getfield kf, ln, a, b, z)) (hw : w[x]? = some (0, a, fs)) (hv : fs[b]? = some v) (kk : wp d k (pc + 3) lv (v :: rest) w P) : wp d k pc lv (.ref x :: rest) w P := wp_of (fun _ _ h3 => ev_get hI rfl hw hv h3) kk
theorem wp_put {x kf : Nat} {fs : List Value} {v : Value} {rest : List Value} (hI : pm_I k pc = some (.putfield kf, ln, a, b, z)) (hw : w[x]? = some (0, a, fs)) (hv : b < fs.length) (hf : pm_fit (pm_ft a b) v = true) (kk : wp d k (pc + 3) lv rest (w.set x (0, a, fs.set b v)) P) : wp d k pc lv (v :: .ref x :: rest) w P := wp_of (fun _ _ h3 => ev_put hI rfl hw hv hf h3) kk
theorem wp_ild {x : Nat} {j : Int32} {vs : List Value} {v : Value} {rest : List Value} (hI : pm_I k pc = some (.iaload, ln, a, b, z)) (hw : w[x]? = some (1, 0, vs)) (h0 : ¬ j < 0) (hv : vs[j.toNatClampNeg]? = some v) (kk : wp d k (pc + 1) lv (v :: rest) w P) : wp d k pc lv (.int j :: .ref x :: rest) w P := wp_of (fun _ _ h3 => ev_ild hI hw h0 hv h3) kk
theorem wp_lld {x : Nat} {j : Int32} {vs : List Value} {v : Value} {rest : List Value} (hI : pm_I k pc = some (.laload, ln, a, b, z)) (hw : w[x]? = some (1, 1, vs)) (h0 : ¬ j < 0) (hv : vs[j.toNatClampNeg]? = some v) (kk : wp d k (pc + 1) lv (v :: rest) w P) : wp d k pc lv (.int j :: .ref x :: rest) w P := wp_of (fun _ _ h3 => ev_lld hI hw h0 hv h3) kk
theorem wp_bld {x : Nat} {j : Int32} {vs : List Value} {v : Value} {rest : List Value} (hI : pm_I k pc = some (.baload, ln, a, b, z)) (hw : w[x]? = some (1, 2, vs)) (h0 : ¬ j < 0) (hv : vs[j.toNatClampNeg]? = some v) (kk : wp d k (pc + 1) lv (v :: rest) w P) : wp d k pc lv (.int j :: .ref x :: rest) w P := wp_of (fun _ _ h3 => ev_bld hI hw h0 hv h3) kk
theorem wp_zld {x : Nat} {j : Int32} {vs : List Value} {v : Value} {rest : List Value} (hI : pm_I k pc = some (.baload, ln, a, b, z)) (hw : w[x]? = some (1, 3, vs)) (h0 : ¬ j < 0) (hv : vs[j.toNatClampNeg]? = some v) (kk : wp d k (pc + 1) lv (v :: rest) w P) : wp d k pc lv (.int j :: .ref x :: rest) w P := wp_of (fun _ _ h3 => ev_zld hI hw h0 hv h3) kk
theorem wp_ald {x t : Nat} {j : Int32} {vs : List Value} {v : Value} {rest : List Value} (hI : pm_I k pc = some (.aaload, ln, a, b, z)) (hw : w[x]? = some (1, t, vs)) (ht : 4 ≤ t) (h0 : ¬ j < 0) (hv : vs[j.toNatClampNeg]? = some v) (kk : wp d k (pc + 1) lv (v :: rest) w P) : wp d k pc lv (.int j :: .ref x :: rest) w P := wp_of (fun _ _ h3 => ev_ald hI hw ht h0 hv h3) kk
theorem wp_ist {x : Nat} {j y : Int32} {vs : List Value} {rest : List Value} (hI : pm_I k pc = some (.iastore, ln, a, b, z)) (hw : w[x]? = some (1, 0, vs)) (h0 : ¬ j < 0) (hl : j.toNatClampNeg < vs.length) (kk : wp d k (pc + 1) lv rest (w.set x (1, 0, vs.set j.toNatClampNeg (.int y))) P) : wp d k pc lv (.int y :: .int j :: .ref x :: rest) w P := wp_of (fun _ _ h3 => ev_ist hI hw h0 hl h3) kk
theorem wp_lst {x : Nat} {j : Int32} {y : Int64} {vs : List Value} {rest : List Value} (hI : pm_I k pc = some (.lastore, ln, a, b, z)) (hw : w[x]? = some (1, 1, vs)) (h0 : ¬ j < 0) (hl : j.toNatClampNeg < vs.length) (kk : wp d k (pc + 1) lv rest (w.set x (1, 1, vs.set j.toNatClampNeg (.long y))) P) : wp d k pc lv (.long y :: .int j :: .ref x :: rest) w P := wp_of (fun _ _ h3 => ev_lst hI hw h0 hl h3) kk
theorem wp_bst {x : Nat} {j y : Int32} {vs : List Value} {rest : List Value} (hI : pm_I k pc = some (.bastore, ln, a, b, z)) (hw : w[x]? = some (1, 2, vs)) (h0 : ¬ j < 0) (hl : j.toNatClampNeg < vs.length) (kk : wp d k (pc + 1) lv rest (w.set x (1, 2, vs.set j.toNatClampNeg (.int y.toInt8.toInt32))) P) : wp d k pc lv (.int y :: .int j :: .ref x :: rest) w P := wp_of (fun _ _ h3 => ev_bst hI hw h0 hl h3) kk
theorem wp_len {x t : Nat} {vs : List Value} {rest : List Value} (hI : pm_I k pc = some (.arraylength, ln, a, b, z)) (hw : w[x]? = some (1, t, vs)) (kk : wp d k (pc + 1) lv (.int (Int32.ofNat vs.length) :: rest) w P) : wp d k pc lv (.ref x :: rest) w P := wp_of (fun _ _ h3 => ev_len hI hw h3) kk
theorem wp_ifc {cnd : ClassFile.Cond} {o : Int} {x : Int32} {rest : List Value} (hI : pm_I k pc = some (.ifCond cnd o, ln, a, b, z)) (kt : pm_cz cnd x 0 = true → wp d k a lv rest w P) (kf : pm_cz cnd x 0 = false → wp d k (pc + 3) lv rest w P) : wp d k pc lv (.int x :: rest) w P := by
  cases h : pm_cz cnd x 0 with
  | true => exact wp_of (fun _ _ h3 => ev_ifc hI (fun _ => h3) (fun h4 => by rw [h] at h4; cases h4)) (kt h)
  | false => exact wp_of (fun _ _ h3 => ev_ifc hI (fun h4 => by rw [h] at h4; cases h4) (fun _ => h3)) (kf h)
theorem wp_icm {cnd : ClassFile.Cond} {o : Int} {x y : Int32} {rest : List Value} (hI : pm_I k pc = some (.if_icmp cnd o, ln, a, b, z)) (kt : pm_cz cnd x y = true → wp d k a lv rest w P) (kf : pm_cz cnd x y = false → wp d k (pc + 3) lv rest w P) : wp d k pc lv (.int y :: .int x :: rest) w P := by
  cases h : pm_cz cnd x y with
  | true => exact wp_of (fun _ _ h3 => ev_icm hI (fun _ => h3) (fun h4 => by rw [h] at h4; cases h4)) (kt h)
  | false => exact wp_of (fun _ _ h3 => ev_icm hI (fun h4 => by rw [h] at h4; cases h4) (fun _ => h3)) (kf h)
theorem wp_swd {dflt lo hi : Int} {offs : Array Int} {x : Int32} {rest : List Value} {tgt : Nat} (hI : pm_I k pc = some (.tableswitch dflt lo hi offs, ln, a, b, z)) (h : x.toInt < lo ∨ hi < x.toInt) (ht : (pc : Int) + dflt = (tgt : Int)) (kk : wp d k tgt lv rest w P) : wp d k pc lv (.int x :: rest) w P := by
  refine wp_of (fun _ _ h3 => ev_st hI rfl rfl ?_ h3) kk
  show (if x.toInt < lo ∨ hi < x.toInt then (if 0 ≤ (pc : Int) + dflt then some (((pc : Int) + dflt).toNat, lv, rest, w) else none)
      else match offs[(x.toInt - lo).toNat]? with
        | some o => if 0 ≤ (pc : Int) + o then some (((pc : Int) + o).toNat, lv, rest, w) else none
        | none => none) = _
  rw [if_pos h, ht, if_pos (Int.natCast_nonneg tgt)]
  rfl
end WP
/-- between lo and hi alone the heap has changed, and no cell its kind or size -/
def kp (lo hi : Nat) (w w1 : pm_H) : Prop := w1.length = w.length ∧ pm_sz w1 = pm_sz w ∧ (∀ k : Nat, k < lo ∨ hi ≤ k → w1[k]? = w[k]?) ∧ ∀ (k : Nat) (c : pm_C), w[k]? = some c → ∃ c1 : pm_C, w1[k]? = some c1 ∧ c1.1 = c.1 ∧ c1.2.1 = c.2.1
theorem kp_rf {lo hi : Nat} {w : pm_H} : kp lo hi w w := ⟨rfl, rfl, fun _ _ => rfl, fun k c h => ⟨c, h, rfl, rfl⟩⟩
theorem kp_set {lo hi x : Nat} {w w1 w2 : pm_H} {c0 c1 : pm_C} (hw : w1.set x c1 = w2) (h : kp lo hi w w1) (hx : w1[x]? = some c0) (hlo : lo ≤ x) (hhi : x < hi) (e1 : c1.1 = c0.1) (e2 : c1.2.1 = c0.2.1) (e3 : c1.2.2.length = c0.2.2.length) : kp lo hi w w2 := by
  subst hw
  obtain ⟨h1, h2, h3, h4⟩ := h
  refine ⟨by rw [List.length_set, h1], by rw [pm_sz_set hx e3, h2], fun k hk => ?_, fun k c hk => ?_⟩
  · rw [List.getElem?_set_ne (by omega)]
    exact h3 k hk
  · obtain ⟨c2, g1, g2, g3⟩ := h4 k c hk
    by_cases hkx : x = k
    · subst hkx
      rw [hx] at g1
      cases g1
      exact ⟨c1, List.getElem?_set_self (List.getElem?_eq_some_iff.mp hx).1, e1.trans g2, e2.trans g3⟩
    · exact ⟨c2, by rw [List.getElem?_set_ne hkx]; exact g1, g2, g3⟩
theorem kp_tr {lo hi : Nat} {w w1 w2 : pm_H} (h : kp lo hi w w1) (g : kp lo hi w1 w2) : kp lo hi w w2 := by
  refine ⟨g.1.trans h.1, g.2.1.trans h.2.1, fun k hk => (g.2.2.1 k hk).trans (h.2.2.1 k hk), fun k c hk => ?_⟩
  obtain ⟨c1, a1, a2, a3⟩ := h.2.2.2 k c hk
  obtain ⟨c2, b1, b2, b3⟩ := g.2.2.2 k c1 a1
  exact ⟨c2, b1, b2.trans a2, b3.trans a3⟩
theorem kp_rm {lo hi : Nat} {w w1 : pm_H} (h : kp lo hi w w1) (g : ob_rm w) : ob_rm w1 := by
  obtain ⟨g1, g2, ⟨f0, g3⟩, ⟨f1, g4⟩⟩ := g
  obtain ⟨h1, h2, h3, h4⟩ := h
  obtain ⟨⟨t0, c0, v0⟩, a1, a2, a3⟩ := h4 _ _ g3
  obtain ⟨⟨t1, c1, v1⟩, b1, b2, b3⟩ := h4 _ _ g4
  cases a2; cases a3; cases b2; cases b3
  exact ⟨by omega, by omega, ⟨_, a1⟩, ⟨_, b1⟩⟩
