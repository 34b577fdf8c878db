/-! one step of the pure machine is one of the machine's -/
def pm_cx (p : Program) (s : State) (m : MethodId) (args : Array Value) (meth : Method) (c : Code) (k : Nat) (D : va_G) (B : Nat) (K : Nat → Nat) : Prop :=
  p.tables.exec = Jvm.exec ∧ c.code = pm_c k ∧ c.maxLocals = pm_n k ∧ s.vm.findClass (pm_R (pm_o k)) = some m.cls ∧ (∀ w ∈ lw_g, w.before args s = true) ∧ va_K D pm_cl [] s ∧ meth.locks = false ∧ meth.sig.returnType = pm_r k ∧ meth.name = (pm_y k).name ∧ pm_xs B K s ∧ k < 264
section PS
variable {p : Program} {l : Launch} {e : Env} {R : Room} {s : State} {m : MethodId} {args : Array Value} {below : List Frame} {meth : Method} {c : Code} {H : Heap} {locs : List Loc} {cells slots : Nat} {Q : State → Prop}
variable {k pc pc' : Nat} {lv lv' : pm_L} {st st' : List Value} {w w' : pm_H} {D : va_G} {B : Nat} {K : Nat → Nat} {ls : Array Slot}
theorem pm_e_dv (ty : FieldType) : pm_e B K (defaultValue ty) = defaultValue ty := by cases ty <;> rfl
theorem ps_ini (h : k < 264) (h2 : pm_k k = 2) : (pm_y k).name = "<init>" := by
  have h1 := pm_mok k h
  simp only [pm_mk, Bool.and_eq_true] at h1
  have h3 := h1.2.2.2.2.2.2.2.2.2.1
  rw [if_pos h2, Bool.and_eq_true] at h3
  exact of_decide_eq_true h3.1
theorem ps_obj {a ci : Nat} {fs : List Value} (hre : pm_re D B K s w H) (ha : w[a]? = some (0, ci, fs)) : ci < 13 ∧ fs.length = pm_cN ci ∧ t_OB (B + a) (D.1 ci) (pm_cN ci) (D.2 ci) H (fun j => pm_e B K (fs.getD j .null)) := (hre.2 a _ ha).1 rfl
theorem ps_arr {a t : Nat} {vs : List Value} (hre : pm_re D B K s w H) (ha : w[a]? = some (1, t, vs)) : (∃ cA : ClassId, ArrOfT s cA (pm_ty t) ∧ va_RA s cA (pm_ty t) ∧ H[B + a]? = some (arrV cA vs.length (fun j => pm_e B K (vs.getD j .null)))) ∧ (t = 0 → ∀ v ∈ vs, ∃ x, v = .int x) := (hre.2 a _ ha).2 rfl
theorem ps_get {i a ci kf : Nat} {fs : List Value} {v : Value} {r : List Value} (C : pm_cx p s m args meth c k D B K) (hre : pm_re D B K s w H) (ha : w[a]? = some (0, ci, fs)) (hlk : (pm_F.any fun x => x.1 == pm_o k && (x.2.1 == i && (x.2.2.1 == ci && x.2.2.2.1 == kf))) = true) (hv : fs[kf]? = some v)
    (hdg : decode (pm_c k) pc = .ok (.getfield i, 3)) (kk : W p l e R s m args below meth c H locs cells slots Q (F0 m (pc + 3) ls (pm_e B K v :: r))) : W p l e R s m args below meth c H locs cells slots Q (F0 m pc ls (.ref (B + a) :: r)) := by
  obtain ⟨hx, hb, hml, hown, hts, hK, hlocks, hr, hnm, hstr, hk264⟩ := C
  obtain ⟨h1, h2, h3⟩ := ps_obj hre ha
  obtain ⟨g1, g2, g3⟩ := pm_hfl hlk
  have hP : va_P D pm_cl [(B + a, .inr (ci, fs.map (pm_e B K)))] H := by
    intro q x hq
    have hz : q < 1 := (List.getElem?_eq_some_iff.mp hq).1
    rw [show q = 0 by omega] at hq
    cases hq
    exact ⟨_, pm_cl_at ci h1, h3.to (fun j _ => (pm_eV B K fs j).symm)⟩
  exact va_get hx hb hts (pm_hin h1) hown hK hP 0 rfl (pm_cl_at ci h1) kf g2 (hts _ g1) (fun _ h => h) (v := pm_e B K v) (by rw [List.getElem?_map, hv]; rfl) hdg kk
theorem ps_put {i a ci kf : Nat} {fs : List Value} {v : Value} {r : List Value} (C : pm_cx p s m args meth c k D B K) (hre : pm_re D B K s w H) (ha : w[a]? = some (0, ci, fs)) (hlk : (pm_F.any fun x => x.1 == pm_o k && (x.2.1 == i && (x.2.2.1 == ci && x.2.2.2.1 == kf))) = true) (hfin : (pm_fT ci kf).2.2.2 = false ∨ ((pm_y k).name = "<init>" ∧ ci = pm_o k)) (hl : kf < fs.length) (hf : pm_fit (pm_ft ci kf) v = true) (hlo : ∀ x ∈ locs, B ≤ x.base)
    (hdg : decode (pm_c k) pc = .ok (.putfield i, 3)) (kk : ∀ (H' : Heap) (locs' : List Loc), pm_re D B K s (w.set a (0, ci, fs.set kf v)) H' → (∀ x ∈ locs', B ≤ x.base) → W p l e R s m args below meth c H' locs' cells slots Q (F0 m (pc + 3) ls r)) : W p l e R s m args below meth c H locs cells slots Q (F0 m pc ls (pm_e B K v :: .ref (B + a) :: r)) := by
  obtain ⟨hx, hb, hml, hown, hts, hK, hlocks, hr, hnm, hstr, hk264⟩ := C
  obtain ⟨h1, h2, h3⟩ := ps_obj hre ha
  obtain ⟨g1, g2, g3⟩ := pm_hfl hlk
  have hc := pm_cl_at ci h1
  have hap := va_apart (own := pm_R ci) hts (pm_hin h1) (pm_ft ci) (pm_hty h1) (pm_hnm h1) hK hc
  obtain ⟨cell, q1, q2, q3, q4⟩ := h3
  obtain ⟨hS, hfc, kC, hkC, hkind⟩ := hK.1 ci _ hc
  obtain ⟨cf, kF, fi, f, hi, hsl⟩ := hS kf g2
  obtain ⟨f1, f2⟩ := pm_fit_e (B := B) (K := K) hf
  have hst := (u_facts hfc hkC (u_lays hts (pm_hin h1) g2) hi).1
  have hlay := hts _ (pm_hin h1 _ (u_in_lay g2))
  have fin : ∀ H' : Heap, H'[B + a]? = some (cell.setSlot f.slot (pm_e B K v)) → H'.size = H.size → (∀ q, q ≠ B + a → H'[q]? = H[q]?) → pm_re D B K s (w.set a (0, ci, fs.set kf v)) H' := by
    intro H' e1 e2 e3
    rw [hsl] at e1
    refine hre.set ha ⟨fun _ => ⟨h1, by rw [List.length_set]; exact h2, ?_⟩, (fun h => by cases h)⟩ e2 e3
    refine t_OB.to (V := updV (fun j => pm_e B K (fs.getD j .null)) kf (pm_e B K v)) ⟨_, e1, q2, q3, t_set q4 hap g2 _⟩ (fun j _ => ?_)
    show (if j = kf then pm_e B K v else pm_e B K (fs.getD j .null)) = pm_e B K ((fs.set kf v).getD j .null)
    rw [List.getD_eq_getElem?_getD, List.getD_eq_getElem?_getD]
    by_cases hj : j = kf
    · subst hj
      rw [if_pos rfl, List.getElem?_set_self hl]
      rfl
    · rw [if_neg hj, List.getElem?_set_ne (Ne.symm hj)]
  have hlo' : ∀ x ∈ locs ++ [(⟨B + a, f.slot⟩ : Loc)], B ≤ x.base := by
    intro x hx'
    rcases List.mem_append.mp hx' with h | h
    · exact hlo x h
    · rw [List.mem_singleton.mp h]
      exact Nat.le_add_right B a
  unfold u_lay at hlay
  by_cases hF : (pm_fT ci kf).2.2.2 = true
  · rw [if_pos hF] at hlay
    rcases hfin with hz | ⟨hz1, hz2⟩
    · rw [hF] at hz; cases hz
    have hcf : m.cls = cf := by
      obtain ⟨_, _, c', _, _, _, -, -, hf', -, -, -, hown2, -⟩ := Cond.laysFinal_spec hlay
      have e1 : c' = cf := by have := hi.symm.trans hf'; simp at this; exact this.1.symm
      rw [pm_hcl h1 kf g2] at hown2
      rw [← e1]; exact Option.some.inj ((hz2 ▸ hown).symm.trans hown2)
    have h6 := u_fits hfc hkC hkind (Or.inr hlay) hi (pm_hty h1 kf g2) f1 f2
    exact W.putFinK hx hb hown (hts _ g1) hi hst hcf (hnm.trans hz1) (by rw [q2]; exact h6) q1 q3 (by rw [hsl]; exact k2_hasslot (q4 kf g2)) rfl rfl hdg fun H' e1 e2 e3 => kk H' _ (fin H' e1 e2 e3) hlo'
  · rw [if_neg hF] at hlay
    have h6 := u_store hfc hkC hkind hlay hi (pm_hty h1 kf g2) f1 f2
    exact W.putK hx hb (f := f) ⟨hown, hts _ g1, ⟨_, _, _, hi⟩, hst⟩ (by rw [q2]; exact h6) q1 q3 (by rw [hsl]; exact k2_hasslot (q4 kf g2)) rfl rfl hdg fun H' e1 e2 e3 => kk H' _ (fin H' e1 e2 e3) hlo'
/-- a row that is written at one place -/
theorem ps_wr {a t : Nat} {vs : List Value} {cA : ClassId} {i : Nat} {v : Value} {H' : Heap} (hre : pm_re D B K s w H) (ha : w[a]? = some (1, t, vs)) (h1 : ArrOfT s cA (pm_ty t)) (h2 : va_RA s cA (pm_ty t)) (hi : i < vs.length) (hv : t = 0 → ∃ x, v = .int x)
    (e1 : H'[B + a]? = some ((arrV cA vs.length (fun j => pm_e B K (vs.getD j .null))).setSlot i (pm_e B K v))) (e2 : H'.size = H.size) (e3 : ∀ q, q ≠ B + a → H'[q]? = H[q]?) : pm_re D B K s (w.set a (1, t, vs.set i v)) H' := by
  refine hre.set ha ⟨(fun h => by cases h), fun _ => ⟨⟨cA, h1, h2, ?_⟩, fun ht u hu => ?_⟩⟩ e2 e3
  · rw [e1, arrV_store]
    show some _ = some (arrV cA (vs.set i v).length _)
    rw [List.length_set]
    congr 2
    funext j
    show (if j = i then pm_e B K v else pm_e B K (vs.getD j .null)) = pm_e B K ((vs.set i v).getD j .null)
    rw [List.getD_eq_getElem?_getD, List.getD_eq_getElem?_getD]
    by_cases hj : j = i
    · subst hj
      rw [if_pos rfl, List.getElem?_set_self hi]
      rfl
    · rw [if_neg hj, List.getElem?_set_ne (Ne.symm hj)]
  · rcases List.mem_or_eq_of_mem_set hu with hu | hu
    · exact (ps_arr hre ha).2 ht u hu
    · rw [hu]; exact hv ht
theorem ps_lo {a i : Nat} (hlo : ∀ x ∈ locs, B ≤ x.base) : ∀ x ∈ locs ++ [(⟨B + a, i⟩ : Loc)], B ≤ x.base := by
  intro x hx'
  rcases List.mem_append.mp hx' with h | h
  · exact hlo x h
  · rw [List.mem_singleton.mp h]
    exact Nat.le_add_right B a
theorem ps_rd {a t : Nat} {j : Int32} {v : Value} (h : pm_rd w a t j = some v) : ∃ vs, w[a]? = some (1, t, vs) ∧ ¬ j < 0 ∧ vs[j.toNatClampNeg]? = some v := by
  unfold pm_rd at h
  split at h
  · rename_i t' vs hw
    by_cases ht : t' = t
    · subst ht
      rw [if_pos rfl] at h
      by_cases hj : j < 0
      · rw [if_pos hj] at h; cases h
      · rw [if_neg hj] at h
        exact ⟨vs, hw, hj, h⟩
    · rw [if_neg ht] at h; cases h
  · cases h
theorem ps_wrr {a t : Nat} {j : Int32} {v : Value} (h : pm_wr w a t j v = some w') : ∃ vs, w[a]? = some (1, t, vs) ∧ ¬ j < 0 ∧ j.toNatClampNeg < vs.length ∧ w' = w.set a (1, t, vs.set j.toNatClampNeg v) := by
  unfold pm_wr at h
  split at h
  · rename_i t' vs hw
    by_cases ht : t' = t ∧ ¬ j < 0 ∧ j.toNatClampNeg < vs.length
    · rw [if_pos ht] at h
      obtain ⟨h1, h2, h3⟩ := ht
      subst h1
      cases h
      exact ⟨vs, hw, h2, h3, rfl⟩
    · rw [if_neg ht] at h; cases h
  · cases h
theorem ps_slot {a t : Nat} {vs : List Value} {cA : ClassId} {i : Nat} {v : Value} (hv : vs[i]? = some v) : (arrV cA vs.length (fun j => pm_e B K (vs.getD j .null))).slots[i]? = some (pm_e B K v) := by
  have hi := (List.getElem?_eq_some_iff.mp hv).1
  rw [arrV_read _ _ hi]
  show some (pm_e B K (vs.getD i .null)) = _
  rw [List.getD_eq_getElem?_getD, hv]
  rfl
theorem ps_in {vs : List Value} {cA : ClassId} {j : Int32} (h0 : ¬ j < 0) (h1 : j.toNatClampNeg < vs.length) : ¬ (j < 0 ∨ (arrV cA vs.length (fun j => pm_e B K (vs.getD j .null))).slots.size ≤ j.toNatClampNeg) := by
  rw [arrV_size]
  rintro (h | h)
  · exact h0 h
  · omega
end PS
