/-! one step of the pure machine, whatever the instruction: by program (wip/whole/gen3.py) -/
section PT
variable {p : Program} {l : Launch} {e : Env} {R : Room} {s : State} {m : MethodId} {args : Array Value} {below : List Frame} {meth : Method} {c : Code} {H : Heap} {locs : List Loc} {cells slots : Nat} {Q : State → Prop}
variable {k pc pc1 : Nat} {lv lv1 : pm_L} {st st1 : List Value} {w w1 : pm_H} {D : va_G} {B : Nat} {K : Nat → Nat} {ls : Array Slot}
theorem pt_ii {f : Int32 → Int32 → Int32} (h : pm_ii f pc lv st w = some (pc1, lv1, st1, w1)) : ∃ x y r, st = .int y :: .int x :: r ∧ pc1 = pc + 1 ∧ lv1 = lv ∧ st1 = .int (f x y) :: r ∧ w1 = w := by
  unfold pm_ii at h
  split at h
  · cases h; exact ⟨_, _, _, rfl, rfl, rfl, rfl, rfl⟩
  · cases h
theorem pt_jj {f : Int64 → Int64 → Int64} (h : pm_jj f pc lv st w = some (pc1, lv1, st1, w1)) : ∃ x y r, st = .long y :: .long x :: r ∧ pc1 = pc + 1 ∧ lv1 = lv ∧ st1 = .long (f x y) :: r ∧ w1 = w := by
  unfold pm_jj at h
  split at h
  · cases h; exact ⟨_, _, _, rfl, rfl, rfl, rfl, rfl⟩
  · cases h
theorem pt_si {i : Nat} (h : pm_si k i pc lv st w = some (pc1, lv1, st1, w1)) : ∃ x r, st = .int x :: r ∧ i < pm_n k ∧ pc1 = pc ∧ lv1 = pm_s1 lv i (.int x) ∧ st1 = r ∧ w1 = w := by
  unfold pm_si at h
  split at h
  · by_cases hi : i < pm_n k
    · rw [if_pos hi] at h; cases h; exact ⟨_, _, rfl, hi, rfl, rfl, rfl, rfl⟩
    · rw [if_neg hi] at h; cases h
  · cases h
theorem pt_sl {i : Nat} (h : pm_sl k i pc lv st w = some (pc1, lv1, st1, w1)) : ∃ x r, st = .long x :: r ∧ i + 1 < pm_n k ∧ pc1 = pc ∧ lv1 = pm_s2 lv i (.long x) ∧ st1 = r ∧ w1 = w := by
  unfold pm_sl at h
  split at h
  · by_cases hi : i + 1 < pm_n k
    · rw [if_pos hi] at h; cases h; exact ⟨_, _, rfl, hi, rfl, rfl, rfl, rfl⟩
    · rw [if_neg hi] at h; cases h
  · cases h
theorem pt_sa {i : Nat} (h : pm_sa k i pc lv st w = some (pc1, lv1, st1, w1)) : (∃ x r, st = .ref x :: r ∧ i < pm_n k ∧ pc1 = pc ∧ lv1 = pm_s1 lv i (.ref x) ∧ st1 = r ∧ w1 = w) ∨ (∃ r, st = .null :: r ∧ i < pm_n k ∧ pc1 = pc ∧ lv1 = pm_s1 lv i .null ∧ st1 = r ∧ w1 = w) := by
  unfold pm_sa at h
  split at h
  · by_cases hi : i < pm_n k
    · rw [if_pos hi] at h; cases h; exact Or.inl ⟨_, _, rfl, hi, rfl, rfl, rfl, rfl⟩
    · rw [if_neg hi] at h; cases h
  · by_cases hi : i < pm_n k
    · rw [if_pos hi] at h; cases h; exact Or.inr ⟨_, rfl, hi, rfl, rfl, rfl, rfl⟩
    · rw [if_neg hi] at h; cases h
  · cases h
theorem pt_li {i n : Nat} (h : (pm_li lv i).map (fun v => (n, lv, v :: st, w)) = some (pc1, lv1, st1, w1)) : ∃ x, pm_ld lv i = some (.int x) ∧ pc1 = n ∧ lv1 = lv ∧ st1 = .int x :: st ∧ w1 = w := by
  unfold pm_li at h
  split at h
  · rename_i x hx; cases h; exact ⟨x, hx, rfl, rfl, rfl, rfl⟩
  · cases h
theorem pt_ll {i n : Nat} (h : (pm_ll lv i).map (fun v => (n, lv, v :: st, w)) = some (pc1, lv1, st1, w1)) : ∃ x, pm_ld lv i = some (.long x) ∧ pc1 = n ∧ lv1 = lv ∧ st1 = .long x :: st ∧ w1 = w := by
  unfold pm_ll at h
  split at h
  · rename_i x hx; cases h; exact ⟨x, hx, rfl, rfl, rfl, rfl⟩
  · cases h
theorem pt_la {i n : Nat} (h : (pm_la lv i).map (fun v => (n, lv, v :: st, w)) = some (pc1, lv1, st1, w1)) : (∃ v, pm_ld lv i = some v ∧ (v = .null ∨ ∃ y, pm_e B K v = .ref y) ∧ pc1 = n ∧ lv1 = lv ∧ st1 = v :: st ∧ w1 = w) := by
  unfold pm_la at h
  split at h
  · rename_i x hx; cases h; exact ⟨_, hx, Or.inr ⟨_, rfl⟩, rfl, rfl, rfl, rfl⟩
  · rename_i hx; cases h; exact ⟨_, hx, Or.inl rfl, rfl, rfl, rfl, rfl⟩
  · rename_i x hx; cases h; exact ⟨_, hx, Or.inr ⟨_, rfl⟩, rfl, rfl, rfl, rfl⟩
  · cases h
set_option maxHeartbeats 1000000 in
theorem pt_iconst {n : Int} {a b : Nat} {z : Int} (h : pm_step k ((.iconst n), 1, a, b, z) pc lv st w = some (pc1, lv1, st1, w1)) (hd : decode (pm_c k) pc = .ok ((.iconst n), 1)) (hlk : pm_lnk k pc ((.iconst n), 1, a, b, z) = true) (C : pm_cx p s m args meth c k D B K) (hre : pm_re D B K s w H) (hls : lv_has ls (pm_n k) (lv.map (pm_e2 B K))) (hlo : ∀ x ∈ locs, B ≤ x.base) (hrc : cells + w1.length ≤ R.cells + w.length) (hrs : slots + pm_sz w1 ≤ R.slots + pm_sz w)
    (kk : ∀ (H' : Heap) (locs' : List Loc) (ls' : Array Slot) (cells' slots' : Nat), cells' + w.length = cells + w1.length → slots' + pm_sz w = slots + pm_sz w1 → pm_re D B K s w1 H' → lv_has ls' (pm_n k) (lv1.map (pm_e2 B K)) → (∀ x ∈ locs', B ≤ x.base) → W p l e R s m args below meth c H' locs' cells' slots' Q (F0 m pc1 ls' (st1.map (pm_e B K)))) : W p l e R s m args below meth c H locs cells slots Q (F0 m pc ls (st.map (pm_e B K))) := by
  obtain ⟨hx, hb, hml, hown, hts, hK, hlocks, hr, hnm, hstr, hk264⟩ := id C
  cases h
  exact lv_iconst hx hb hd rfl (kk H locs ls cells slots rfl rfl hre hls hlo)
set_option maxHeartbeats 1000000 in
theorem pt_bipush {n : Int} {a b : Nat} {z : Int} (h : pm_step k ((.bipush n), 2, a, b, z) pc lv st w = some (pc1, lv1, st1, w1)) (hd : decode (pm_c k) pc = .ok ((.bipush n), 2)) (hlk : pm_lnk k pc ((.bipush n), 2, a, b, z) = true) (C : pm_cx p s m args meth c k D B K) (hre : pm_re D B K s w H) (hls : lv_has ls (pm_n k) (lv.map (pm_e2 B K))) (hlo : ∀ x ∈ locs, B ≤ x.base) (hrc : cells + w1.length ≤ R.cells + w.length) (hrs : slots + pm_sz w1 ≤ R.slots + pm_sz w)
    (kk : ∀ (H' : Heap) (locs' : List Loc) (ls' : Array Slot) (cells' slots' : Nat), cells' + w.length = cells + w1.length → slots' + pm_sz w = slots + pm_sz w1 → pm_re D B K s w1 H' → lv_has ls' (pm_n k) (lv1.map (pm_e2 B K)) → (∀ x ∈ locs', B ≤ x.base) → W p l e R s m args below meth c H' locs' cells' slots' Q (F0 m pc1 ls' (st1.map (pm_e B K)))) : W p l e R s m args below meth c H locs cells slots Q (F0 m pc ls (st.map (pm_e B K))) := by
  obtain ⟨hx, hb, hml, hown, hts, hK, hlocks, hr, hnm, hstr, hk264⟩ := id C
  cases h
  exact lv_bipush hx hb hd rfl (kk H locs ls cells slots rfl rfl hre hls hlo)
set_option maxHeartbeats 1000000 in
theorem pt_sipush {n : Int} {a b : Nat} {z : Int} (h : pm_step k ((.sipush n), 3, a, b, z) pc lv st w = some (pc1, lv1, st1, w1)) (hd : decode (pm_c k) pc = .ok ((.sipush n), 3)) (hlk : pm_lnk k pc ((.sipush n), 3, a, b, z) = true) (C : pm_cx p s m args meth c k D B K) (hre : pm_re D B K s w H) (hls : lv_has ls (pm_n k) (lv.map (pm_e2 B K))) (hlo : ∀ x ∈ locs, B ≤ x.base) (hrc : cells + w1.length ≤ R.cells + w.length) (hrs : slots + pm_sz w1 ≤ R.slots + pm_sz w)
    (kk : ∀ (H' : Heap) (locs' : List Loc) (ls' : Array Slot) (cells' slots' : Nat), cells' + w.length = cells + w1.length → slots' + pm_sz w = slots + pm_sz w1 → pm_re D B K s w1 H' → lv_has ls' (pm_n k) (lv1.map (pm_e2 B K)) → (∀ x ∈ locs', B ≤ x.base) → W p l e R s m args below meth c H' locs' cells' slots' Q (F0 m pc1 ls' (st1.map (pm_e B K)))) : W p l e R s m args below meth c H locs cells slots Q (F0 m pc ls (st.map (pm_e B K))) := by
  obtain ⟨hx, hb, hml, hown, hts, hK, hlocks, hr, hnm, hstr, hk264⟩ := id C
  cases h
  exact lv_sipush hx hb hd rfl (kk H locs ls cells slots rfl rfl hre hls hlo)
set_option maxHeartbeats 1000000 in
theorem pt_lconst {n : Fin 2} {a b : Nat} {z : Int} (h : pm_step k ((.lconst n), 1, a, b, z) pc lv st w = some (pc1, lv1, st1, w1)) (hd : decode (pm_c k) pc = .ok ((.lconst n), 1)) (hlk : pm_lnk k pc ((.lconst n), 1, a, b, z) = true) (C : pm_cx p s m args meth c k D B K) (hre : pm_re D B K s w H) (hls : lv_has ls (pm_n k) (lv.map (pm_e2 B K))) (hlo : ∀ x ∈ locs, B ≤ x.base) (hrc : cells + w1.length ≤ R.cells + w.length) (hrs : slots + pm_sz w1 ≤ R.slots + pm_sz w)
    (kk : ∀ (H' : Heap) (locs' : List Loc) (ls' : Array Slot) (cells' slots' : Nat), cells' + w.length = cells + w1.length → slots' + pm_sz w = slots + pm_sz w1 → pm_re D B K s w1 H' → lv_has ls' (pm_n k) (lv1.map (pm_e2 B K)) → (∀ x ∈ locs', B ≤ x.base) → W p l e R s m args below meth c H' locs' cells' slots' Q (F0 m pc1 ls' (st1.map (pm_e B K)))) : W p l e R s m args below meth c H locs cells slots Q (F0 m pc ls (st.map (pm_e B K))) := by
  obtain ⟨hx, hb, hml, hown, hts, hK, hlocks, hr, hnm, hstr, hk264⟩ := id C
  cases h
  exact lv_lconst hx hb hd rfl (kk H locs ls cells slots rfl rfl hre hls hlo)
set_option maxHeartbeats 1000000 in
theorem pt_aconst_null  {a b : Nat} {z : Int} (h : pm_step k (.aconst_null, 1, a, b, z) pc lv st w = some (pc1, lv1, st1, w1)) (hd : decode (pm_c k) pc = .ok (.aconst_null, 1)) (hlk : pm_lnk k pc (.aconst_null, 1, a, b, z) = true) (C : pm_cx p s m args meth c k D B K) (hre : pm_re D B K s w H) (hls : lv_has ls (pm_n k) (lv.map (pm_e2 B K))) (hlo : ∀ x ∈ locs, B ≤ x.base) (hrc : cells + w1.length ≤ R.cells + w.length) (hrs : slots + pm_sz w1 ≤ R.slots + pm_sz w)
    (kk : ∀ (H' : Heap) (locs' : List Loc) (ls' : Array Slot) (cells' slots' : Nat), cells' + w.length = cells + w1.length → slots' + pm_sz w = slots + pm_sz w1 → pm_re D B K s w1 H' → lv_has ls' (pm_n k) (lv1.map (pm_e2 B K)) → (∀ x ∈ locs', B ≤ x.base) → W p l e R s m args below meth c H' locs' cells' slots' Q (F0 m pc1 ls' (st1.map (pm_e B K)))) : W p l e R s m args below meth c H locs cells slots Q (F0 m pc ls (st.map (pm_e B K))) := by
  obtain ⟨hx, hb, hml, hown, hts, hK, hlocks, hr, hnm, hstr, hk264⟩ := id C
  cases h
  exact lv_null hx hb hd (kk H locs ls cells slots rfl rfl hre hls hlo)
set_option maxHeartbeats 1000000 in
theorem pt_ldc {i : Nat} {a b : Nat} {z : Int} (h : pm_step k ((.ldc i), 2, a, b, z) pc lv st w = some (pc1, lv1, st1, w1)) (hd : decode (pm_c k) pc = .ok ((.ldc i), 2)) (hlk : pm_lnk k pc ((.ldc i), 2, a, b, z) = true) (C : pm_cx p s m args meth c k D B K) (hre : pm_re D B K s w H) (hls : lv_has ls (pm_n k) (lv.map (pm_e2 B K))) (hlo : ∀ x ∈ locs, B ≤ x.base) (hrc : cells + w1.length ≤ R.cells + w.length) (hrs : slots + pm_sz w1 ≤ R.slots + pm_sz w)
    (kk : ∀ (H' : Heap) (locs' : List Loc) (ls' : Array Slot) (cells' slots' : Nat), cells' + w.length = cells + w1.length → slots' + pm_sz w = slots + pm_sz w1 → pm_re D B K s w1 H' → lv_has ls' (pm_n k) (lv1.map (pm_e2 B K)) → (∀ x ∈ locs', B ≤ x.base) → W p l e R s m args below meth c H' locs' cells' slots' Q (F0 m pc1 ls' (st1.map (pm_e B K)))) : W p l e R s m args below meth c H locs cells slots Q (F0 m pc ls (st.map (pm_e B K))) := by
  obtain ⟨hx, hb, hml, hown, hts, hK, hlocks, hr, hnm, hstr, hk264⟩ := id C
  have h' : (if a = 0 then some (pc + 2, lv, Value.int (Int32.ofInt z) :: st, w) else some (pc + 2, lv, Value.retAddr (a - 1) :: st, w)) = some (pc1, lv1, st1, w1) := h
  have hlk' : ((a == 0 && (pm_N.any fun x => x.1 == pm_o k && (x.2.1 == i && x.2.2.1 == z))) || (pm_S.any fun x => x.1 == pm_o k && (x.2.1 == i && x.2.2.1 + 1 == a))) = true := hlk
  simp only [Bool.or_eq_true, Bool.and_eq_true, beq_iff_eq] at hlk'
  rcases hlk' with ⟨ha, hn⟩ | hs
  · rw [if_pos ha] at h'
    cases h'
    exact lv_ldc hx hb hown (hts _ (pm_hnl hn)) hd (kk H locs ls cells slots rfl rfl hre hls hlo)
  · obtain ⟨x, hxm, h1⟩ := List.any_eq_true.mp hs
    simp only [Bool.and_eq_true, beq_iff_eq] at h1
    obtain ⟨h1, h2, h3⟩ := h1
    rw [if_neg (by omega)] at h'
    cases h'
    have hz := hstr.1 x hxm
    rw [h1, h2] at hz
    refine va_ldcS hx hb hown hz hd ?_
    have hk := kk H locs ls cells slots rfl rfl hre hls hlo
    have ea : a - 1 = x.2.2.1 := by omega
    rw [ea] at hk
    exact hk
set_option maxHeartbeats 1000000 in
theorem pt_ldc_w {i : Nat} {a b : Nat} {z : Int} (h : pm_step k ((.ldc_w i), 3, a, b, z) pc lv st w = some (pc1, lv1, st1, w1)) (hd : decode (pm_c k) pc = .ok ((.ldc_w i), 3)) (hlk : pm_lnk k pc ((.ldc_w i), 3, a, b, z) = true) (C : pm_cx p s m args meth c k D B K) (hre : pm_re D B K s w H) (hls : lv_has ls (pm_n k) (lv.map (pm_e2 B K))) (hlo : ∀ x ∈ locs, B ≤ x.base) (hrc : cells + w1.length ≤ R.cells + w.length) (hrs : slots + pm_sz w1 ≤ R.slots + pm_sz w)
    (kk : ∀ (H' : Heap) (locs' : List Loc) (ls' : Array Slot) (cells' slots' : Nat), cells' + w.length = cells + w1.length → slots' + pm_sz w = slots + pm_sz w1 → pm_re D B K s w1 H' → lv_has ls' (pm_n k) (lv1.map (pm_e2 B K)) → (∀ x ∈ locs', B ≤ x.base) → W p l e R s m args below meth c H' locs' cells' slots' Q (F0 m pc1 ls' (st1.map (pm_e B K)))) : W p l e R s m args below meth c H locs cells slots Q (F0 m pc ls (st.map (pm_e B K))) := by
  obtain ⟨hx, hb, hml, hown, hts, hK, hlocks, hr, hnm, hstr, hk264⟩ := id C
  cases h
  exact lv_ldcw hx hb hown (hts _ (pm_hnl hlk)) hd (kk H locs ls cells slots rfl rfl hre hls hlo)
set_option maxHeartbeats 1000000 in
theorem pt_ldc2_w {i : Nat} {a b : Nat} {z : Int} (h : pm_step k ((.ldc2_w i), 3, a, b, z) pc lv st w = some (pc1, lv1, st1, w1)) (hd : decode (pm_c k) pc = .ok ((.ldc2_w i), 3)) (hlk : pm_lnk k pc ((.ldc2_w i), 3, a, b, z) = true) (C : pm_cx p s m args meth c k D B K) (hre : pm_re D B K s w H) (hls : lv_has ls (pm_n k) (lv.map (pm_e2 B K))) (hlo : ∀ x ∈ locs, B ≤ x.base) (hrc : cells + w1.length ≤ R.cells + w.length) (hrs : slots + pm_sz w1 ≤ R.slots + pm_sz w)
    (kk : ∀ (H' : Heap) (locs' : List Loc) (ls' : Array Slot) (cells' slots' : Nat), cells' + w.length = cells + w1.length → slots' + pm_sz w = slots + pm_sz w1 → pm_re D B K s w1 H' → lv_has ls' (pm_n k) (lv1.map (pm_e2 B K)) → (∀ x ∈ locs', B ≤ x.base) → W p l e R s m args below meth c H' locs' cells' slots' Q (F0 m pc1 ls' (st1.map (pm_e B K)))) : W p l e R s m args below meth c H locs cells slots Q (F0 m pc ls (st.map (pm_e B K))) := by
  obtain ⟨hx, hb, hml, hown, hts, hK, hlocks, hr, hnm, hstr, hk264⟩ := id C
  cases h
  exact lv_ldc2 hx hb hown (hts _ (pm_hjl hlk)) hd (kk H locs ls cells slots rfl rfl hre hls hlo)
set_option maxHeartbeats 1000000 in
theorem pt_iload {i : Nat} {a b : Nat} {z : Int} (h : pm_step k ((.iload i), 2, a, b, z) pc lv st w = some (pc1, lv1, st1, w1)) (hd : decode (pm_c k) pc = .ok ((.iload i), 2)) (hlk : pm_lnk k pc ((.iload i), 2, a, b, z) = true) (C : pm_cx p s m args meth c k D B K) (hre : pm_re D B K s w H) (hls : lv_has ls (pm_n k) (lv.map (pm_e2 B K))) (hlo : ∀ x ∈ locs, B ≤ x.base) (hrc : cells + w1.length ≤ R.cells + w.length) (hrs : slots + pm_sz w1 ≤ R.slots + pm_sz w)
    (kk : ∀ (H' : Heap) (locs' : List Loc) (ls' : Array Slot) (cells' slots' : Nat), cells' + w.length = cells + w1.length → slots' + pm_sz w = slots + pm_sz w1 → pm_re D B K s w1 H' → lv_has ls' (pm_n k) (lv1.map (pm_e2 B K)) → (∀ x ∈ locs', B ≤ x.base) → W p l e R s m args below meth c H' locs' cells' slots' Q (F0 m pc1 ls' (st1.map (pm_e B K)))) : W p l e R s m args below meth c H locs cells slots Q (F0 m pc ls (st.map (pm_e B K))) := by
  obtain ⟨hx, hb, hml, hown, hts, hK, hlocks, hr, hnm, hstr, hk264⟩ := id C
  obtain ⟨x, hv, rfl, rfl, rfl, rfl⟩ := pt_li h
  exact lv_iload hx hb hd (pm_ld_at hls hv) (kk H locs ls cells slots rfl rfl hre hls hlo)
set_option maxHeartbeats 1000000 in
theorem pt_iload_n {i : Fin 4} {a b : Nat} {z : Int} (h : pm_step k ((.iload_n i), 1, a, b, z) pc lv st w = some (pc1, lv1, st1, w1)) (hd : decode (pm_c k) pc = .ok ((.iload_n i), 1)) (hlk : pm_lnk k pc ((.iload_n i), 1, a, b, z) = true) (C : pm_cx p s m args meth c k D B K) (hre : pm_re D B K s w H) (hls : lv_has ls (pm_n k) (lv.map (pm_e2 B K))) (hlo : ∀ x ∈ locs, B ≤ x.base) (hrc : cells + w1.length ≤ R.cells + w.length) (hrs : slots + pm_sz w1 ≤ R.slots + pm_sz w)
    (kk : ∀ (H' : Heap) (locs' : List Loc) (ls' : Array Slot) (cells' slots' : Nat), cells' + w.length = cells + w1.length → slots' + pm_sz w = slots + pm_sz w1 → pm_re D B K s w1 H' → lv_has ls' (pm_n k) (lv1.map (pm_e2 B K)) → (∀ x ∈ locs', B ≤ x.base) → W p l e R s m args below meth c H' locs' cells' slots' Q (F0 m pc1 ls' (st1.map (pm_e B K)))) : W p l e R s m args below meth c H locs cells slots Q (F0 m pc ls (st.map (pm_e B K))) := by
  obtain ⟨hx, hb, hml, hown, hts, hK, hlocks, hr, hnm, hstr, hk264⟩ := id C
  obtain ⟨x, hv, rfl, rfl, rfl, rfl⟩ := pt_li h
  exact lv_iload_n hx hb hd rfl (pm_ld_at hls hv) (kk H locs ls cells slots rfl rfl hre hls hlo)
set_option maxHeartbeats 1000000 in
theorem pt_lload {i : Nat} {a b : Nat} {z : Int} (h : pm_step k ((.lload i), 2, a, b, z) pc lv st w = some (pc1, lv1, st1, w1)) (hd : decode (pm_c k) pc = .ok ((.lload i), 2)) (hlk : pm_lnk k pc ((.lload i), 2, a, b, z) = true) (C : pm_cx p s m args meth c k D B K) (hre : pm_re D B K s w H) (hls : lv_has ls (pm_n k) (lv.map (pm_e2 B K))) (hlo : ∀ x ∈ locs, B ≤ x.base) (hrc : cells + w1.length ≤ R.cells + w.length) (hrs : slots + pm_sz w1 ≤ R.slots + pm_sz w)
    (kk : ∀ (H' : Heap) (locs' : List Loc) (ls' : Array Slot) (cells' slots' : Nat), cells' + w.length = cells + w1.length → slots' + pm_sz w = slots + pm_sz w1 → pm_re D B K s w1 H' → lv_has ls' (pm_n k) (lv1.map (pm_e2 B K)) → (∀ x ∈ locs', B ≤ x.base) → W p l e R s m args below meth c H' locs' cells' slots' Q (F0 m pc1 ls' (st1.map (pm_e B K)))) : W p l e R s m args below meth c H locs cells slots Q (F0 m pc ls (st.map (pm_e B K))) := by
  obtain ⟨hx, hb, hml, hown, hts, hK, hlocks, hr, hnm, hstr, hk264⟩ := id C
  obtain ⟨x, hv, rfl, rfl, rfl, rfl⟩ := pt_ll h
  exact lv_lload hx hb hd (pm_ld_at hls hv) (kk H locs ls cells slots rfl rfl hre hls hlo)
set_option maxHeartbeats 1000000 in
theorem pt_lload_n {i : Fin 4} {a b : Nat} {z : Int} (h : pm_step k ((.lload_n i), 1, a, b, z) pc lv st w = some (pc1, lv1, st1, w1)) (hd : decode (pm_c k) pc = .ok ((.lload_n i), 1)) (hlk : pm_lnk k pc ((.lload_n i), 1, a, b, z) = true) (C : pm_cx p s m args meth c k D B K) (hre : pm_re D B K s w H) (hls : lv_has ls (pm_n k) (lv.map (pm_e2 B K))) (hlo : ∀ x ∈ locs, B ≤ x.base) (hrc : cells + w1.length ≤ R.cells + w.length) (hrs : slots + pm_sz w1 ≤ R.slots + pm_sz w)
    (kk : ∀ (H' : Heap) (locs' : List Loc) (ls' : Array Slot) (cells' slots' : Nat), cells' + w.length = cells + w1.length → slots' + pm_sz w = slots + pm_sz w1 → pm_re D B K s w1 H' → lv_has ls' (pm_n k) (lv1.map (pm_e2 B K)) → (∀ x ∈ locs', B ≤ x.base) → W p l e R s m args below meth c H' locs' cells' slots' Q (F0 m pc1 ls' (st1.map (pm_e B K)))) : W p l e R s m args below meth c H locs cells slots Q (F0 m pc ls (st.map (pm_e B K))) := by
  obtain ⟨hx, hb, hml, hown, hts, hK, hlocks, hr, hnm, hstr, hk264⟩ := id C
  obtain ⟨x, hv, rfl, rfl, rfl, rfl⟩ := pt_ll h
  exact lv_lload_n hx hb hd rfl (pm_ld_at hls hv) (kk H locs ls cells slots rfl rfl hre hls hlo)
set_option maxHeartbeats 1000000 in
theorem pt_aload {i : Nat} {a b : Nat} {z : Int} (h : pm_step k ((.aload i), 2, a, b, z) pc lv st w = some (pc1, lv1, st1, w1)) (hd : decode (pm_c k) pc = .ok ((.aload i), 2)) (hlk : pm_lnk k pc ((.aload i), 2, a, b, z) = true) (C : pm_cx p s m args meth c k D B K) (hre : pm_re D B K s w H) (hls : lv_has ls (pm_n k) (lv.map (pm_e2 B K))) (hlo : ∀ x ∈ locs, B ≤ x.base) (hrc : cells + w1.length ≤ R.cells + w.length) (hrs : slots + pm_sz w1 ≤ R.slots + pm_sz w)
    (kk : ∀ (H' : Heap) (locs' : List Loc) (ls' : Array Slot) (cells' slots' : Nat), cells' + w.length = cells + w1.length → slots' + pm_sz w = slots + pm_sz w1 → pm_re D B K s w1 H' → lv_has ls' (pm_n k) (lv1.map (pm_e2 B K)) → (∀ x ∈ locs', B ≤ x.base) → W p l e R s m args below meth c H' locs' cells' slots' Q (F0 m pc1 ls' (st1.map (pm_e B K)))) : W p l e R s m args below meth c H locs cells slots Q (F0 m pc ls (st.map (pm_e B K))) := by
  obtain ⟨hx, hb, hml, hown, hts, hK, hlocks, hr, hnm, hstr, hk264⟩ := id C
  obtain ⟨v, hv, hq, rfl, rfl, rfl, rfl⟩ := pt_la (B := B) (K := K) h
  have hk := kk H locs ls cells slots rfl rfl hre hls hlo
  have hat := pm_ld_at hls hv
  rcases hq with rfl | ⟨y, hy⟩
  · exact lv_aloadN hx hb hd hat hk
  · rw [hy] at hat
    rw [List.map_cons, hy] at hk
    exact lv_aload hx hb hd hat hk
set_option maxHeartbeats 1000000 in
theorem pt_aload_n {i : Fin 4} {a b : Nat} {z : Int} (h : pm_step k ((.aload_n i), 1, a, b, z) pc lv st w = some (pc1, lv1, st1, w1)) (hd : decode (pm_c k) pc = .ok ((.aload_n i), 1)) (hlk : pm_lnk k pc ((.aload_n i), 1, a, b, z) = true) (C : pm_cx p s m args meth c k D B K) (hre : pm_re D B K s w H) (hls : lv_has ls (pm_n k) (lv.map (pm_e2 B K))) (hlo : ∀ x ∈ locs, B ≤ x.base) (hrc : cells + w1.length ≤ R.cells + w.length) (hrs : slots + pm_sz w1 ≤ R.slots + pm_sz w)
    (kk : ∀ (H' : Heap) (locs' : List Loc) (ls' : Array Slot) (cells' slots' : Nat), cells' + w.length = cells + w1.length → slots' + pm_sz w = slots + pm_sz w1 → pm_re D B K s w1 H' → lv_has ls' (pm_n k) (lv1.map (pm_e2 B K)) → (∀ x ∈ locs', B ≤ x.base) → W p l e R s m args below meth c H' locs' cells' slots' Q (F0 m pc1 ls' (st1.map (pm_e B K)))) : W p l e R s m args below meth c H locs cells slots Q (F0 m pc ls (st.map (pm_e B K))) := by
  obtain ⟨hx, hb, hml, hown, hts, hK, hlocks, hr, hnm, hstr, hk264⟩ := id C
  obtain ⟨v, hv, hq, rfl, rfl, rfl, rfl⟩ := pt_la (B := B) (K := K) h
  have hk := kk H locs ls cells slots rfl rfl hre hls hlo
  have hat := pm_ld_at hls hv
  rcases hq with rfl | ⟨y, hy⟩
  · exact lv_aload_nN hx hb hd rfl hat hk
  · rw [hy] at hat
    rw [List.map_cons, hy] at hk
    exact lv_aload_n hx hb hd rfl hat hk
set_option maxHeartbeats 1000000 in
theorem pt_istore {i : Nat} {a b : Nat} {z : Int} (h : pm_step k ((.istore i), 2, a, b, z) pc lv st w = some (pc1, lv1, st1, w1)) (hd : decode (pm_c k) pc = .ok ((.istore i), 2)) (hlk : pm_lnk k pc ((.istore i), 2, a, b, z) = true) (C : pm_cx p s m args meth c k D B K) (hre : pm_re D B K s w H) (hls : lv_has ls (pm_n k) (lv.map (pm_e2 B K))) (hlo : ∀ x ∈ locs, B ≤ x.base) (hrc : cells + w1.length ≤ R.cells + w.length) (hrs : slots + pm_sz w1 ≤ R.slots + pm_sz w)
    (kk : ∀ (H' : Heap) (locs' : List Loc) (ls' : Array Slot) (cells' slots' : Nat), cells' + w.length = cells + w1.length → slots' + pm_sz w = slots + pm_sz w1 → pm_re D B K s w1 H' → lv_has ls' (pm_n k) (lv1.map (pm_e2 B K)) → (∀ x ∈ locs', B ≤ x.base) → W p l e R s m args below meth c H' locs' cells' slots' Q (F0 m pc1 ls' (st1.map (pm_e B K)))) : W p l e R s m args below meth c H locs cells slots Q (F0 m pc ls (st.map (pm_e B K))) := by
  obtain ⟨hx, hb, hml, hown, hts, hK, hlocks, hr, hnm, hstr, hk264⟩ := id C
  obtain ⟨x, r, rfl, hi, rfl, rfl, rfl, rfl⟩ := pt_si h
  exact lv_istore hx hb hd hls hi (pm_s1_map B K lv i (.int x)) (fun ls1 hl1 => kk H locs ls1 cells slots rfl rfl hre hl1 hlo)
set_option maxHeartbeats 1000000 in
theorem pt_istore_n {i : Fin 4} {a b : Nat} {z : Int} (h : pm_step k ((.istore_n i), 1, a, b, z) pc lv st w = some (pc1, lv1, st1, w1)) (hd : decode (pm_c k) pc = .ok ((.istore_n i), 1)) (hlk : pm_lnk k pc ((.istore_n i), 1, a, b, z) = true) (C : pm_cx p s m args meth c k D B K) (hre : pm_re D B K s w H) (hls : lv_has ls (pm_n k) (lv.map (pm_e2 B K))) (hlo : ∀ x ∈ locs, B ≤ x.base) (hrc : cells + w1.length ≤ R.cells + w.length) (hrs : slots + pm_sz w1 ≤ R.slots + pm_sz w)
    (kk : ∀ (H' : Heap) (locs' : List Loc) (ls' : Array Slot) (cells' slots' : Nat), cells' + w.length = cells + w1.length → slots' + pm_sz w = slots + pm_sz w1 → pm_re D B K s w1 H' → lv_has ls' (pm_n k) (lv1.map (pm_e2 B K)) → (∀ x ∈ locs', B ≤ x.base) → W p l e R s m args below meth c H' locs' cells' slots' Q (F0 m pc1 ls' (st1.map (pm_e B K)))) : W p l e R s m args below meth c H locs cells slots Q (F0 m pc ls (st.map (pm_e B K))) := by
  obtain ⟨hx, hb, hml, hown, hts, hK, hlocks, hr, hnm, hstr, hk264⟩ := id C
  obtain ⟨x, r, rfl, hi, rfl, rfl, rfl, rfl⟩ := pt_si h
  exact lv_istore_n hx hb hd rfl hls hi (pm_s1_map B K lv i (.int x)) (fun ls1 hl1 => kk H locs ls1 cells slots rfl rfl hre hl1 hlo)
set_option maxHeartbeats 1000000 in
theorem pt_lstore {i : Nat} {a b : Nat} {z : Int} (h : pm_step k ((.lstore i), 2, a, b, z) pc lv st w = some (pc1, lv1, st1, w1)) (hd : decode (pm_c k) pc = .ok ((.lstore i), 2)) (hlk : pm_lnk k pc ((.lstore i), 2, a, b, z) = true) (C : pm_cx p s m args meth c k D B K) (hre : pm_re D B K s w H) (hls : lv_has ls (pm_n k) (lv.map (pm_e2 B K))) (hlo : ∀ x ∈ locs, B ≤ x.base) (hrc : cells + w1.length ≤ R.cells + w.length) (hrs : slots + pm_sz w1 ≤ R.slots + pm_sz w)
    (kk : ∀ (H' : Heap) (locs' : List Loc) (ls' : Array Slot) (cells' slots' : Nat), cells' + w.length = cells + w1.length → slots' + pm_sz w = slots + pm_sz w1 → pm_re D B K s w1 H' → lv_has ls' (pm_n k) (lv1.map (pm_e2 B K)) → (∀ x ∈ locs', B ≤ x.base) → W p l e R s m args below meth c H' locs' cells' slots' Q (F0 m pc1 ls' (st1.map (pm_e B K)))) : W p l e R s m args below meth c H locs cells slots Q (F0 m pc ls (st.map (pm_e B K))) := by
  obtain ⟨hx, hb, hml, hown, hts, hK, hlocks, hr, hnm, hstr, hk264⟩ := id C
  obtain ⟨x, r, rfl, hi, rfl, rfl, rfl, rfl⟩ := pt_sl h
  exact lv_lstore hx hb hd hls hi (pm_s2_map B K lv i (.long x)) (fun ls1 hl1 => kk H locs ls1 cells slots rfl rfl hre hl1 hlo)
set_option maxHeartbeats 1000000 in
theorem pt_lstore_n {i : Fin 4} {a b : Nat} {z : Int} (h : pm_step k ((.lstore_n i), 1, a, b, z) pc lv st w = some (pc1, lv1, st1, w1)) (hd : decode (pm_c k) pc = .ok ((.lstore_n i), 1)) (hlk : pm_lnk k pc ((.lstore_n i), 1, a, b, z) = true) (C : pm_cx p s m args meth c k D B K) (hre : pm_re D B K s w H) (hls : lv_has ls (pm_n k) (lv.map (pm_e2 B K))) (hlo : ∀ x ∈ locs, B ≤ x.base) (hrc : cells + w1.length ≤ R.cells + w.length) (hrs : slots + pm_sz w1 ≤ R.slots + pm_sz w)
    (kk : ∀ (H' : Heap) (locs' : List Loc) (ls' : Array Slot) (cells' slots' : Nat), cells' + w.length = cells + w1.length → slots' + pm_sz w = slots + pm_sz w1 → pm_re D B K s w1 H' → lv_has ls' (pm_n k) (lv1.map (pm_e2 B K)) → (∀ x ∈ locs', B ≤ x.base) → W p l e R s m args below meth c H' locs' cells' slots' Q (F0 m pc1 ls' (st1.map (pm_e B K)))) : W p l e R s m args below meth c H locs cells slots Q (F0 m pc ls (st.map (pm_e B K))) := by
  obtain ⟨hx, hb, hml, hown, hts, hK, hlocks, hr, hnm, hstr, hk264⟩ := id C
  obtain ⟨x, r, rfl, hi, rfl, rfl, rfl, rfl⟩ := pt_sl h
  exact lv_lstore_n hx hb hd rfl hls hi (pm_s2_map B K lv i (.long x)) (fun ls1 hl1 => kk H locs ls1 cells slots rfl rfl hre hl1 hlo)
set_option maxHeartbeats 1000000 in
theorem pt_astore {i : Nat} {a b : Nat} {z : Int} (h : pm_step k ((.astore i), 2, a, b, z) pc lv st w = some (pc1, lv1, st1, w1)) (hd : decode (pm_c k) pc = .ok ((.astore i), 2)) (hlk : pm_lnk k pc ((.astore i), 2, a, b, z) = true) (C : pm_cx p s m args meth c k D B K) (hre : pm_re D B K s w H) (hls : lv_has ls (pm_n k) (lv.map (pm_e2 B K))) (hlo : ∀ x ∈ locs, B ≤ x.base) (hrc : cells + w1.length ≤ R.cells + w.length) (hrs : slots + pm_sz w1 ≤ R.slots + pm_sz w)
    (kk : ∀ (H' : Heap) (locs' : List Loc) (ls' : Array Slot) (cells' slots' : Nat), cells' + w.length = cells + w1.length → slots' + pm_sz w = slots + pm_sz w1 → pm_re D B K s w1 H' → lv_has ls' (pm_n k) (lv1.map (pm_e2 B K)) → (∀ x ∈ locs', B ≤ x.base) → W p l e R s m args below meth c H' locs' cells' slots' Q (F0 m pc1 ls' (st1.map (pm_e B K)))) : W p l e R s m args below meth c H locs cells slots Q (F0 m pc ls (st.map (pm_e B K))) := by
  obtain ⟨hx, hb, hml, hown, hts, hK, hlocks, hr, hnm, hstr, hk264⟩ := id C
  rcases pt_sa h with ⟨x, r, rfl, hi, rfl, rfl, rfl, rfl⟩ | ⟨r, rfl, hi, rfl, rfl, rfl, rfl⟩
  · exact lv_astore hx hb hd hls hi (pm_s1_map B K lv i (.ref x)) (fun ls1 hl1 => kk H locs ls1 cells slots rfl rfl hre hl1 hlo)
  · exact lv_astoreN hx hb hd hls hi (pm_s1_map B K lv i .null) (fun ls1 hl1 => kk H locs ls1 cells slots rfl rfl hre hl1 hlo)
set_option maxHeartbeats 1000000 in
theorem pt_astore_n {i : Fin 4} {a b : Nat} {z : Int} (h : pm_step k ((.astore_n i), 1, a, b, z) pc lv st w = some (pc1, lv1, st1, w1)) (hd : decode (pm_c k) pc = .ok ((.astore_n i), 1)) (hlk : pm_lnk k pc ((.astore_n i), 1, a, b, z) = true) (C : pm_cx p s m args meth c k D B K) (hre : pm_re D B K s w H) (hls : lv_has ls (pm_n k) (lv.map (pm_e2 B K))) (hlo : ∀ x ∈ locs, B ≤ x.base) (hrc : cells + w1.length ≤ R.cells + w.length) (hrs : slots + pm_sz w1 ≤ R.slots + pm_sz w)
    (kk : ∀ (H' : Heap) (locs' : List Loc) (ls' : Array Slot) (cells' slots' : Nat), cells' + w.length = cells + w1.length → slots' + pm_sz w = slots + pm_sz w1 → pm_re D B K s w1 H' → lv_has ls' (pm_n k) (lv1.map (pm_e2 B K)) → (∀ x ∈ locs', B ≤ x.base) → W p l e R s m args below meth c H' locs' cells' slots' Q (F0 m pc1 ls' (st1.map (pm_e B K)))) : W p l e R s m args below meth c H locs cells slots Q (F0 m pc ls (st.map (pm_e B K))) := by
  obtain ⟨hx, hb, hml, hown, hts, hK, hlocks, hr, hnm, hstr, hk264⟩ := id C
  rcases pt_sa h with ⟨x, r, rfl, hi, rfl, rfl, rfl, rfl⟩ | ⟨r, rfl, hi, rfl, rfl, rfl, rfl⟩
  · exact lv_astore_n hx hb hd rfl hls hi (pm_s1_map B K lv i (.ref x)) (fun ls1 hl1 => kk H locs ls1 cells slots rfl rfl hre hl1 hlo)
  · exact lv_astore_nN hx hb hd rfl hls hi (pm_s1_map B K lv i .null) (fun ls1 hl1 => kk H locs ls1 cells slots rfl rfl hre hl1 hlo)
set_option maxHeartbeats 1000000 in
theorem pt_iinc {i : Nat} {n : Int} {a b : Nat} {z : Int} (h : pm_step k ((.iinc i n), 3, a, b, z) pc lv st w = some (pc1, lv1, st1, w1)) (hd : decode (pm_c k) pc = .ok ((.iinc i n), 3)) (hlk : pm_lnk k pc ((.iinc i n), 3, a, b, z) = true) (C : pm_cx p s m args meth c k D B K) (hre : pm_re D B K s w H) (hls : lv_has ls (pm_n k) (lv.map (pm_e2 B K))) (hlo : ∀ x ∈ locs, B ≤ x.base) (hrc : cells + w1.length ≤ R.cells + w.length) (hrs : slots + pm_sz w1 ≤ R.slots + pm_sz w)
    (kk : ∀ (H' : Heap) (locs' : List Loc) (ls' : Array Slot) (cells' slots' : Nat), cells' + w.length = cells + w1.length → slots' + pm_sz w = slots + pm_sz w1 → pm_re D B K s w1 H' → lv_has ls' (pm_n k) (lv1.map (pm_e2 B K)) → (∀ x ∈ locs', B ≤ x.base) → W p l e R s m args below meth c H' locs' cells' slots' Q (F0 m pc1 ls' (st1.map (pm_e B K)))) : W p l e R s m args below meth c H locs cells slots Q (F0 m pc ls (st.map (pm_e B K))) := by
  obtain ⟨hx, hb, hml, hown, hts, hK, hlocks, hr, hnm, hstr, hk264⟩ := id C
  have h1 : (match (generalizing := false) pm_ld lv i with
    | some (.int x) => if i < pm_n k then some (pc + 3, pm_s1 lv i (.int (x + Int32.ofInt n)), st, w) else none
    | _ => none) = some (pc1, lv1, st1, w1) := h
  split at h1
  · rename_i x hx1
    by_cases hi : i < pm_n k
    · rw [if_pos hi] at h1
      cases h1
      obtain ⟨j, hj⟩ := List.getElem?_of_mem (List.mem_map.mpr ⟨(i, Value.int x), pm_ld_in hx1, rfl⟩ : (i, Value.int x) ∈ lv.map (pm_e2 B K))
      exact lv_iinc hx hb hd hls (k := j) hj rfl hi (pm_s1_map B K lv i (.int (x + Int32.ofInt n))) (fun ls1 hl1 => kk H locs ls1 cells slots rfl rfl hre hl1 hlo)
    · rw [if_neg hi] at h1; cases h1
  · cases h1
set_option maxHeartbeats 1000000 in
theorem pt_iadd  {a b : Nat} {z : Int} (h : pm_step k (.iadd, 1, a, b, z) pc lv st w = some (pc1, lv1, st1, w1)) (hd : decode (pm_c k) pc = .ok (.iadd, 1)) (hlk : pm_lnk k pc (.iadd, 1, a, b, z) = true) (C : pm_cx p s m args meth c k D B K) (hre : pm_re D B K s w H) (hls : lv_has ls (pm_n k) (lv.map (pm_e2 B K))) (hlo : ∀ x ∈ locs, B ≤ x.base) (hrc : cells + w1.length ≤ R.cells + w.length) (hrs : slots + pm_sz w1 ≤ R.slots + pm_sz w)
    (kk : ∀ (H' : Heap) (locs' : List Loc) (ls' : Array Slot) (cells' slots' : Nat), cells' + w.length = cells + w1.length → slots' + pm_sz w = slots + pm_sz w1 → pm_re D B K s w1 H' → lv_has ls' (pm_n k) (lv1.map (pm_e2 B K)) → (∀ x ∈ locs', B ≤ x.base) → W p l e R s m args below meth c H' locs' cells' slots' Q (F0 m pc1 ls' (st1.map (pm_e B K)))) : W p l e R s m args below meth c H locs cells slots Q (F0 m pc ls (st.map (pm_e B K))) := by
  obtain ⟨hx, hb, hml, hown, hts, hK, hlocks, hr, hnm, hstr, hk264⟩ := id C
  obtain ⟨x, y, r, rfl, rfl, rfl, rfl, rfl⟩ := pt_ii h
  exact lv_iadd hx hb hd (kk H locs ls cells slots rfl rfl hre hls hlo)
set_option maxHeartbeats 1000000 in
theorem pt_isub  {a b : Nat} {z : Int} (h : pm_step k (.isub, 1, a, b, z) pc lv st w = some (pc1, lv1, st1, w1)) (hd : decode (pm_c k) pc = .ok (.isub, 1)) (hlk : pm_lnk k pc (.isub, 1, a, b, z) = true) (C : pm_cx p s m args meth c k D B K) (hre : pm_re D B K s w H) (hls : lv_has ls (pm_n k) (lv.map (pm_e2 B K))) (hlo : ∀ x ∈ locs, B ≤ x.base) (hrc : cells + w1.length ≤ R.cells + w.length) (hrs : slots + pm_sz w1 ≤ R.slots + pm_sz w)
    (kk : ∀ (H' : Heap) (locs' : List Loc) (ls' : Array Slot) (cells' slots' : Nat), cells' + w.length = cells + w1.length → slots' + pm_sz w = slots + pm_sz w1 → pm_re D B K s w1 H' → lv_has ls' (pm_n k) (lv1.map (pm_e2 B K)) → (∀ x ∈ locs', B ≤ x.base) → W p l e R s m args below meth c H' locs' cells' slots' Q (F0 m pc1 ls' (st1.map (pm_e B K)))) : W p l e R s m args below meth c H locs cells slots Q (F0 m pc ls (st.map (pm_e B K))) := by
  obtain ⟨hx, hb, hml, hown, hts, hK, hlocks, hr, hnm, hstr, hk264⟩ := id C
  obtain ⟨x, y, r, rfl, rfl, rfl, rfl, rfl⟩ := pt_ii h
  exact lv_isub hx hb hd (kk H locs ls cells slots rfl rfl hre hls hlo)
set_option maxHeartbeats 1000000 in
theorem pt_imul  {a b : Nat} {z : Int} (h : pm_step k (.imul, 1, a, b, z) pc lv st w = some (pc1, lv1, st1, w1)) (hd : decode (pm_c k) pc = .ok (.imul, 1)) (hlk : pm_lnk k pc (.imul, 1, a, b, z) = true) (C : pm_cx p s m args meth c k D B K) (hre : pm_re D B K s w H) (hls : lv_has ls (pm_n k) (lv.map (pm_e2 B K))) (hlo : ∀ x ∈ locs, B ≤ x.base) (hrc : cells + w1.length ≤ R.cells + w.length) (hrs : slots + pm_sz w1 ≤ R.slots + pm_sz w)
    (kk : ∀ (H' : Heap) (locs' : List Loc) (ls' : Array Slot) (cells' slots' : Nat), cells' + w.length = cells + w1.length → slots' + pm_sz w = slots + pm_sz w1 → pm_re D B K s w1 H' → lv_has ls' (pm_n k) (lv1.map (pm_e2 B K)) → (∀ x ∈ locs', B ≤ x.base) → W p l e R s m args below meth c H' locs' cells' slots' Q (F0 m pc1 ls' (st1.map (pm_e B K)))) : W p l e R s m args below meth c H locs cells slots Q (F0 m pc ls (st.map (pm_e B K))) := by
  obtain ⟨hx, hb, hml, hown, hts, hK, hlocks, hr, hnm, hstr, hk264⟩ := id C
  obtain ⟨x, y, r, rfl, rfl, rfl, rfl, rfl⟩ := pt_ii h
  exact lv_imul hx hb hd (kk H locs ls cells slots rfl rfl hre hls hlo)
set_option maxHeartbeats 1000000 in
theorem pt_iand  {a b : Nat} {z : Int} (h : pm_step k (.iand, 1, a, b, z) pc lv st w = some (pc1, lv1, st1, w1)) (hd : decode (pm_c k) pc = .ok (.iand, 1)) (hlk : pm_lnk k pc (.iand, 1, a, b, z) = true) (C : pm_cx p s m args meth c k D B K) (hre : pm_re D B K s w H) (hls : lv_has ls (pm_n k) (lv.map (pm_e2 B K))) (hlo : ∀ x ∈ locs, B ≤ x.base) (hrc : cells + w1.length ≤ R.cells + w.length) (hrs : slots + pm_sz w1 ≤ R.slots + pm_sz w)
    (kk : ∀ (H' : Heap) (locs' : List Loc) (ls' : Array Slot) (cells' slots' : Nat), cells' + w.length = cells + w1.length → slots' + pm_sz w = slots + pm_sz w1 → pm_re D B K s w1 H' → lv_has ls' (pm_n k) (lv1.map (pm_e2 B K)) → (∀ x ∈ locs', B ≤ x.base) → W p l e R s m args below meth c H' locs' cells' slots' Q (F0 m pc1 ls' (st1.map (pm_e B K)))) : W p l e R s m args below meth c H locs cells slots Q (F0 m pc ls (st.map (pm_e B K))) := by
  obtain ⟨hx, hb, hml, hown, hts, hK, hlocks, hr, hnm, hstr, hk264⟩ := id C
  obtain ⟨x, y, r, rfl, rfl, rfl, rfl, rfl⟩ := pt_ii h
  exact lv_iand hx hb hd (kk H locs ls cells slots rfl rfl hre hls hlo)
set_option maxHeartbeats 1000000 in
theorem pt_ior  {a b : Nat} {z : Int} (h : pm_step k (.ior, 1, a, b, z) pc lv st w = some (pc1, lv1, st1, w1)) (hd : decode (pm_c k) pc = .ok (.ior, 1)) (hlk : pm_lnk k pc (.ior, 1, a, b, z) = true) (C : pm_cx p s m args meth c k D B K) (hre : pm_re D B K s w H) (hls : lv_has ls (pm_n k) (lv.map (pm_e2 B K))) (hlo : ∀ x ∈ locs, B ≤ x.base) (hrc : cells + w1.length ≤ R.cells + w.length) (hrs : slots + pm_sz w1 ≤ R.slots + pm_sz w)
    (kk : ∀ (H' : Heap) (locs' : List Loc) (ls' : Array Slot) (cells' slots' : Nat), cells' + w.length = cells + w1.length → slots' + pm_sz w = slots + pm_sz w1 → pm_re D B K s w1 H' → lv_has ls' (pm_n k) (lv1.map (pm_e2 B K)) → (∀ x ∈ locs', B ≤ x.base) → W p l e R s m args below meth c H' locs' cells' slots' Q (F0 m pc1 ls' (st1.map (pm_e B K)))) : W p l e R s m args below meth c H locs cells slots Q (F0 m pc ls (st.map (pm_e B K))) := by
  obtain ⟨hx, hb, hml, hown, hts, hK, hlocks, hr, hnm, hstr, hk264⟩ := id C
  obtain ⟨x, y, r, rfl, rfl, rfl, rfl, rfl⟩ := pt_ii h
  exact lv_ior hx hb hd (kk H locs ls cells slots rfl rfl hre hls hlo)
set_option maxHeartbeats 1000000 in
theorem pt_ixor  {a b : Nat} {z : Int} (h : pm_step k (.ixor, 1, a, b, z) pc lv st w = some (pc1, lv1, st1, w1)) (hd : decode (pm_c k) pc = .ok (.ixor, 1)) (hlk : pm_lnk k pc (.ixor, 1, a, b, z) = true) (C : pm_cx p s m args meth c k D B K) (hre : pm_re D B K s w H) (hls : lv_has ls (pm_n k) (lv.map (pm_e2 B K))) (hlo : ∀ x ∈ locs, B ≤ x.base) (hrc : cells + w1.length ≤ R.cells + w.length) (hrs : slots + pm_sz w1 ≤ R.slots + pm_sz w)
    (kk : ∀ (H' : Heap) (locs' : List Loc) (ls' : Array Slot) (cells' slots' : Nat), cells' + w.length = cells + w1.length → slots' + pm_sz w = slots + pm_sz w1 → pm_re D B K s w1 H' → lv_has ls' (pm_n k) (lv1.map (pm_e2 B K)) → (∀ x ∈ locs', B ≤ x.base) → W p l e R s m args below meth c H' locs' cells' slots' Q (F0 m pc1 ls' (st1.map (pm_e B K)))) : W p l e R s m args below meth c H locs cells slots Q (F0 m pc ls (st.map (pm_e B K))) := by
  obtain ⟨hx, hb, hml, hown, hts, hK, hlocks, hr, hnm, hstr, hk264⟩ := id C
  obtain ⟨x, y, r, rfl, rfl, rfl, rfl, rfl⟩ := pt_ii h
  exact lv_ixor hx hb hd (kk H locs ls cells slots rfl rfl hre hls hlo)
set_option maxHeartbeats 1000000 in
theorem pt_ishl  {a b : Nat} {z : Int} (h : pm_step k (.ishl, 1, a, b, z) pc lv st w = some (pc1, lv1, st1, w1)) (hd : decode (pm_c k) pc = .ok (.ishl, 1)) (hlk : pm_lnk k pc (.ishl, 1, a, b, z) = true) (C : pm_cx p s m args meth c k D B K) (hre : pm_re D B K s w H) (hls : lv_has ls (pm_n k) (lv.map (pm_e2 B K))) (hlo : ∀ x ∈ locs, B ≤ x.base) (hrc : cells + w1.length ≤ R.cells + w.length) (hrs : slots + pm_sz w1 ≤ R.slots + pm_sz w)
    (kk : ∀ (H' : Heap) (locs' : List Loc) (ls' : Array Slot) (cells' slots' : Nat), cells' + w.length = cells + w1.length → slots' + pm_sz w = slots + pm_sz w1 → pm_re D B K s w1 H' → lv_has ls' (pm_n k) (lv1.map (pm_e2 B K)) → (∀ x ∈ locs', B ≤ x.base) → W p l e R s m args below meth c H' locs' cells' slots' Q (F0 m pc1 ls' (st1.map (pm_e B K)))) : W p l e R s m args below meth c H locs cells slots Q (F0 m pc ls (st.map (pm_e B K))) := by
  obtain ⟨hx, hb, hml, hown, hts, hK, hlocks, hr, hnm, hstr, hk264⟩ := id C
  obtain ⟨x, y, r, rfl, rfl, rfl, rfl, rfl⟩ := pt_ii h
  exact lv_ishl hx hb hd (kk H locs ls cells slots rfl rfl hre hls hlo)
set_option maxHeartbeats 1000000 in
theorem pt_ishr  {a b : Nat} {z : Int} (h : pm_step k (.ishr, 1, a, b, z) pc lv st w = some (pc1, lv1, st1, w1)) (hd : decode (pm_c k) pc = .ok (.ishr, 1)) (hlk : pm_lnk k pc (.ishr, 1, a, b, z) = true) (C : pm_cx p s m args meth c k D B K) (hre : pm_re D B K s w H) (hls : lv_has ls (pm_n k) (lv.map (pm_e2 B K))) (hlo : ∀ x ∈ locs, B ≤ x.base) (hrc : cells + w1.length ≤ R.cells + w.length) (hrs : slots + pm_sz w1 ≤ R.slots + pm_sz w)
    (kk : ∀ (H' : Heap) (locs' : List Loc) (ls' : Array Slot) (cells' slots' : Nat), cells' + w.length = cells + w1.length → slots' + pm_sz w = slots + pm_sz w1 → pm_re D B K s w1 H' → lv_has ls' (pm_n k) (lv1.map (pm_e2 B K)) → (∀ x ∈ locs', B ≤ x.base) → W p l e R s m args below meth c H' locs' cells' slots' Q (F0 m pc1 ls' (st1.map (pm_e B K)))) : W p l e R s m args below meth c H locs cells slots Q (F0 m pc ls (st.map (pm_e B K))) := by
  obtain ⟨hx, hb, hml, hown, hts, hK, hlocks, hr, hnm, hstr, hk264⟩ := id C
  obtain ⟨x, y, r, rfl, rfl, rfl, rfl, rfl⟩ := pt_ii h
  exact lv_ishr hx hb hd (kk H locs ls cells slots rfl rfl hre hls hlo)
set_option maxHeartbeats 1000000 in
theorem pt_iushr  {a b : Nat} {z : Int} (h : pm_step k (.iushr, 1, a, b, z) pc lv st w = some (pc1, lv1, st1, w1)) (hd : decode (pm_c k) pc = .ok (.iushr, 1)) (hlk : pm_lnk k pc (.iushr, 1, a, b, z) = true) (C : pm_cx p s m args meth c k D B K) (hre : pm_re D B K s w H) (hls : lv_has ls (pm_n k) (lv.map (pm_e2 B K))) (hlo : ∀ x ∈ locs, B ≤ x.base) (hrc : cells + w1.length ≤ R.cells + w.length) (hrs : slots + pm_sz w1 ≤ R.slots + pm_sz w)
    (kk : ∀ (H' : Heap) (locs' : List Loc) (ls' : Array Slot) (cells' slots' : Nat), cells' + w.length = cells + w1.length → slots' + pm_sz w = slots + pm_sz w1 → pm_re D B K s w1 H' → lv_has ls' (pm_n k) (lv1.map (pm_e2 B K)) → (∀ x ∈ locs', B ≤ x.base) → W p l e R s m args below meth c H' locs' cells' slots' Q (F0 m pc1 ls' (st1.map (pm_e B K)))) : W p l e R s m args below meth c H locs cells slots Q (F0 m pc ls (st.map (pm_e B K))) := by
  obtain ⟨hx, hb, hml, hown, hts, hK, hlocks, hr, hnm, hstr, hk264⟩ := id C
  obtain ⟨x, y, r, rfl, rfl, rfl, rfl, rfl⟩ := pt_ii h
  exact lv_iushr hx hb hd rfl (kk H locs ls cells slots rfl rfl hre hls hlo)
set_option maxHeartbeats 1000000 in
theorem pt_ladd  {a b : Nat} {z : Int} (h : pm_step k (.ladd, 1, a, b, z) pc lv st w = some (pc1, lv1, st1, w1)) (hd : decode (pm_c k) pc = .ok (.ladd, 1)) (hlk : pm_lnk k pc (.ladd, 1, a, b, z) = true) (C : pm_cx p s m args meth c k D B K) (hre : pm_re D B K s w H) (hls : lv_has ls (pm_n k) (lv.map (pm_e2 B K))) (hlo : ∀ x ∈ locs, B ≤ x.base) (hrc : cells + w1.length ≤ R.cells + w.length) (hrs : slots + pm_sz w1 ≤ R.slots + pm_sz w)
    (kk : ∀ (H' : Heap) (locs' : List Loc) (ls' : Array Slot) (cells' slots' : Nat), cells' + w.length = cells + w1.length → slots' + pm_sz w = slots + pm_sz w1 → pm_re D B K s w1 H' → lv_has ls' (pm_n k) (lv1.map (pm_e2 B K)) → (∀ x ∈ locs', B ≤ x.base) → W p l e R s m args below meth c H' locs' cells' slots' Q (F0 m pc1 ls' (st1.map (pm_e B K)))) : W p l e R s m args below meth c H locs cells slots Q (F0 m pc ls (st.map (pm_e B K))) := by
  obtain ⟨hx, hb, hml, hown, hts, hK, hlocks, hr, hnm, hstr, hk264⟩ := id C
  obtain ⟨x, y, r, rfl, rfl, rfl, rfl, rfl⟩ := pt_jj h
  exact lv_ladd hx hb hd (kk H locs ls cells slots rfl rfl hre hls hlo)
set_option maxHeartbeats 1000000 in
theorem pt_lsub  {a b : Nat} {z : Int} (h : pm_step k (.lsub, 1, a, b, z) pc lv st w = some (pc1, lv1, st1, w1)) (hd : decode (pm_c k) pc = .ok (.lsub, 1)) (hlk : pm_lnk k pc (.lsub, 1, a, b, z) = true) (C : pm_cx p s m args meth c k D B K) (hre : pm_re D B K s w H) (hls : lv_has ls (pm_n k) (lv.map (pm_e2 B K))) (hlo : ∀ x ∈ locs, B ≤ x.base) (hrc : cells + w1.length ≤ R.cells + w.length) (hrs : slots + pm_sz w1 ≤ R.slots + pm_sz w)
    (kk : ∀ (H' : Heap) (locs' : List Loc) (ls' : Array Slot) (cells' slots' : Nat), cells' + w.length = cells + w1.length → slots' + pm_sz w = slots + pm_sz w1 → pm_re D B K s w1 H' → lv_has ls' (pm_n k) (lv1.map (pm_e2 B K)) → (∀ x ∈ locs', B ≤ x.base) → W p l e R s m args below meth c H' locs' cells' slots' Q (F0 m pc1 ls' (st1.map (pm_e B K)))) : W p l e R s m args below meth c H locs cells slots Q (F0 m pc ls (st.map (pm_e B K))) := by
  obtain ⟨hx, hb, hml, hown, hts, hK, hlocks, hr, hnm, hstr, hk264⟩ := id C
  obtain ⟨x, y, r, rfl, rfl, rfl, rfl, rfl⟩ := pt_jj h
  exact lv_lsub hx hb hd (kk H locs ls cells slots rfl rfl hre hls hlo)
set_option maxHeartbeats 1000000 in
theorem pt_lmul  {a b : Nat} {z : Int} (h : pm_step k (.lmul, 1, a, b, z) pc lv st w = some (pc1, lv1, st1, w1)) (hd : decode (pm_c k) pc = .ok (.lmul, 1)) (hlk : pm_lnk k pc (.lmul, 1, a, b, z) = true) (C : pm_cx p s m args meth c k D B K) (hre : pm_re D B K s w H) (hls : lv_has ls (pm_n k) (lv.map (pm_e2 B K))) (hlo : ∀ x ∈ locs, B ≤ x.base) (hrc : cells + w1.length ≤ R.cells + w.length) (hrs : slots + pm_sz w1 ≤ R.slots + pm_sz w)
    (kk : ∀ (H' : Heap) (locs' : List Loc) (ls' : Array Slot) (cells' slots' : Nat), cells' + w.length = cells + w1.length → slots' + pm_sz w = slots + pm_sz w1 → pm_re D B K s w1 H' → lv_has ls' (pm_n k) (lv1.map (pm_e2 B K)) → (∀ x ∈ locs', B ≤ x.base) → W p l e R s m args below meth c H' locs' cells' slots' Q (F0 m pc1 ls' (st1.map (pm_e B K)))) : W p l e R s m args below meth c H locs cells slots Q (F0 m pc ls (st.map (pm_e B K))) := by
  obtain ⟨hx, hb, hml, hown, hts, hK, hlocks, hr, hnm, hstr, hk264⟩ := id C
  obtain ⟨x, y, r, rfl, rfl, rfl, rfl, rfl⟩ := pt_jj h
  exact lv_lmul hx hb hd (kk H locs ls cells slots rfl rfl hre hls hlo)
set_option maxHeartbeats 1000000 in
theorem pt_land  {a b : Nat} {z : Int} (h : pm_step k (.land, 1, a, b, z) pc lv st w = some (pc1, lv1, st1, w1)) (hd : decode (pm_c k) pc = .ok (.land, 1)) (hlk : pm_lnk k pc (.land, 1, a, b, z) = true) (C : pm_cx p s m args meth c k D B K) (hre : pm_re D B K s w H) (hls : lv_has ls (pm_n k) (lv.map (pm_e2 B K))) (hlo : ∀ x ∈ locs, B ≤ x.base) (hrc : cells + w1.length ≤ R.cells + w.length) (hrs : slots + pm_sz w1 ≤ R.slots + pm_sz w)
    (kk : ∀ (H' : Heap) (locs' : List Loc) (ls' : Array Slot) (cells' slots' : Nat), cells' + w.length = cells + w1.length → slots' + pm_sz w = slots + pm_sz w1 → pm_re D B K s w1 H' → lv_has ls' (pm_n k) (lv1.map (pm_e2 B K)) → (∀ x ∈ locs', B ≤ x.base) → W p l e R s m args below meth c H' locs' cells' slots' Q (F0 m pc1 ls' (st1.map (pm_e B K)))) : W p l e R s m args below meth c H locs cells slots Q (F0 m pc ls (st.map (pm_e B K))) := by
  obtain ⟨hx, hb, hml, hown, hts, hK, hlocks, hr, hnm, hstr, hk264⟩ := id C
  obtain ⟨x, y, r, rfl, rfl, rfl, rfl, rfl⟩ := pt_jj h
  exact lv_land hx hb hd (kk H locs ls cells slots rfl rfl hre hls hlo)
set_option maxHeartbeats 1000000 in
theorem pt_lor  {a b : Nat} {z : Int} (h : pm_step k (.lor, 1, a, b, z) pc lv st w = some (pc1, lv1, st1, w1)) (hd : decode (pm_c k) pc = .ok (.lor, 1)) (hlk : pm_lnk k pc (.lor, 1, a, b, z) = true) (C : pm_cx p s m args meth c k D B K) (hre : pm_re D B K s w H) (hls : lv_has ls (pm_n k) (lv.map (pm_e2 B K))) (hlo : ∀ x ∈ locs, B ≤ x.base) (hrc : cells + w1.length ≤ R.cells + w.length) (hrs : slots + pm_sz w1 ≤ R.slots + pm_sz w)
    (kk : ∀ (H' : Heap) (locs' : List Loc) (ls' : Array Slot) (cells' slots' : Nat), cells' + w.length = cells + w1.length → slots' + pm_sz w = slots + pm_sz w1 → pm_re D B K s w1 H' → lv_has ls' (pm_n k) (lv1.map (pm_e2 B K)) → (∀ x ∈ locs', B ≤ x.base) → W p l e R s m args below meth c H' locs' cells' slots' Q (F0 m pc1 ls' (st1.map (pm_e B K)))) : W p l e R s m args below meth c H locs cells slots Q (F0 m pc ls (st.map (pm_e B K))) := by
  obtain ⟨hx, hb, hml, hown, hts, hK, hlocks, hr, hnm, hstr, hk264⟩ := id C
  obtain ⟨x, y, r, rfl, rfl, rfl, rfl, rfl⟩ := pt_jj h
  exact lv_lor hx hb hd (kk H locs ls cells slots rfl rfl hre hls hlo)
set_option maxHeartbeats 1000000 in
theorem pt_idiv  {a b : Nat} {z : Int} (h : pm_step k (.idiv, 1, a, b, z) pc lv st w = some (pc1, lv1, st1, w1)) (hd : decode (pm_c k) pc = .ok (.idiv, 1)) (hlk : pm_lnk k pc (.idiv, 1, a, b, z) = true) (C : pm_cx p s m args meth c k D B K) (hre : pm_re D B K s w H) (hls : lv_has ls (pm_n k) (lv.map (pm_e2 B K))) (hlo : ∀ x ∈ locs, B ≤ x.base) (hrc : cells + w1.length ≤ R.cells + w.length) (hrs : slots + pm_sz w1 ≤ R.slots + pm_sz w)
    (kk : ∀ (H' : Heap) (locs' : List Loc) (ls' : Array Slot) (cells' slots' : Nat), cells' + w.length = cells + w1.length → slots' + pm_sz w = slots + pm_sz w1 → pm_re D B K s w1 H' → lv_has ls' (pm_n k) (lv1.map (pm_e2 B K)) → (∀ x ∈ locs', B ≤ x.base) → W p l e R s m args below meth c H' locs' cells' slots' Q (F0 m pc1 ls' (st1.map (pm_e B K)))) : W p l e R s m args below meth c H locs cells slots Q (F0 m pc ls (st.map (pm_e B K))) := by
  obtain ⟨hx, hb, hml, hown, hts, hK, hlocks, hr, hnm, hstr, hk264⟩ := id C
  have h1 : (match (generalizing := false) st with
    | .int y :: .int x :: r => if y = 0 then none else some (pc + 1, lv, .int (x / y) :: r, w)
    | _ => none) = some (pc1, lv1, st1, w1) := h
  split at h1
  · rename_i y x r
    by_cases hy : y = 0
    · rw [if_pos hy] at h1; cases h1
    · rw [if_neg hy] at h1; cases h1
      exact lv_idiv hx hb hd hy (kk H locs ls cells slots rfl rfl hre hls hlo)
  · cases h1
set_option maxHeartbeats 1000000 in
theorem pt_irem  {a b : Nat} {z : Int} (h : pm_step k (.irem, 1, a, b, z) pc lv st w = some (pc1, lv1, st1, w1)) (hd : decode (pm_c k) pc = .ok (.irem, 1)) (hlk : pm_lnk k pc (.irem, 1, a, b, z) = true) (C : pm_cx p s m args meth c k D B K) (hre : pm_re D B K s w H) (hls : lv_has ls (pm_n k) (lv.map (pm_e2 B K))) (hlo : ∀ x ∈ locs, B ≤ x.base) (hrc : cells + w1.length ≤ R.cells + w.length) (hrs : slots + pm_sz w1 ≤ R.slots + pm_sz w)
    (kk : ∀ (H' : Heap) (locs' : List Loc) (ls' : Array Slot) (cells' slots' : Nat), cells' + w.length = cells + w1.length → slots' + pm_sz w = slots + pm_sz w1 → pm_re D B K s w1 H' → lv_has ls' (pm_n k) (lv1.map (pm_e2 B K)) → (∀ x ∈ locs', B ≤ x.base) → W p l e R s m args below meth c H' locs' cells' slots' Q (F0 m pc1 ls' (st1.map (pm_e B K)))) : W p l e R s m args below meth c H locs cells slots Q (F0 m pc ls (st.map (pm_e B K))) := by
  obtain ⟨hx, hb, hml, hown, hts, hK, hlocks, hr, hnm, hstr, hk264⟩ := id C
  have h1 : (match (generalizing := false) st with
    | .int y :: .int x :: r => if y = 0 then none else some (pc + 1, lv, .int (x - x / y * y) :: r, w)
    | _ => none) = some (pc1, lv1, st1, w1) := h
  split at h1
  · rename_i y x r
    by_cases hy : y = 0
    · rw [if_pos hy] at h1; cases h1
    · rw [if_neg hy] at h1; cases h1
      exact lv_irem hx hb hd hy (kk H locs ls cells slots rfl rfl hre hls hlo)
  · cases h1
set_option maxHeartbeats 1000000 in
theorem pt_ldiv  {a b : Nat} {z : Int} (h : pm_step k (.ldiv, 1, a, b, z) pc lv st w = some (pc1, lv1, st1, w1)) (hd : decode (pm_c k) pc = .ok (.ldiv, 1)) (hlk : pm_lnk k pc (.ldiv, 1, a, b, z) = true) (C : pm_cx p s m args meth c k D B K) (hre : pm_re D B K s w H) (hls : lv_has ls (pm_n k) (lv.map (pm_e2 B K))) (hlo : ∀ x ∈ locs, B ≤ x.base) (hrc : cells + w1.length ≤ R.cells + w.length) (hrs : slots + pm_sz w1 ≤ R.slots + pm_sz w)
    (kk : ∀ (H' : Heap) (locs' : List Loc) (ls' : Array Slot) (cells' slots' : Nat), cells' + w.length = cells + w1.length → slots' + pm_sz w = slots + pm_sz w1 → pm_re D B K s w1 H' → lv_has ls' (pm_n k) (lv1.map (pm_e2 B K)) → (∀ x ∈ locs', B ≤ x.base) → W p l e R s m args below meth c H' locs' cells' slots' Q (F0 m pc1 ls' (st1.map (pm_e B K)))) : W p l e R s m args below meth c H locs cells slots Q (F0 m pc ls (st.map (pm_e B K))) := by
  obtain ⟨hx, hb, hml, hown, hts, hK, hlocks, hr, hnm, hstr, hk264⟩ := id C
  have h1 : (match (generalizing := false) st with
    | .long y :: .long x :: r => if y = 0 then none else some (pc + 1, lv, .long (x / y) :: r, w)
    | _ => none) = some (pc1, lv1, st1, w1) := h
  split at h1
  · rename_i y x r
    by_cases hy : y = 0
    · rw [if_pos hy] at h1; cases h1
    · rw [if_neg hy] at h1; cases h1
      exact lv_ldiv hx hb hd hy (kk H locs ls cells slots rfl rfl hre hls hlo)
  · cases h1
set_option maxHeartbeats 1000000 in
theorem pt_lrem  {a b : Nat} {z : Int} (h : pm_step k (.lrem, 1, a, b, z) pc lv st w = some (pc1, lv1, st1, w1)) (hd : decode (pm_c k) pc = .ok (.lrem, 1)) (hlk : pm_lnk k pc (.lrem, 1, a, b, z) = true) (C : pm_cx p s m args meth c k D B K) (hre : pm_re D B K s w H) (hls : lv_has ls (pm_n k) (lv.map (pm_e2 B K))) (hlo : ∀ x ∈ locs, B ≤ x.base) (hrc : cells + w1.length ≤ R.cells + w.length) (hrs : slots + pm_sz w1 ≤ R.slots + pm_sz w)
    (kk : ∀ (H' : Heap) (locs' : List Loc) (ls' : Array Slot) (cells' slots' : Nat), cells' + w.length = cells + w1.length → slots' + pm_sz w = slots + pm_sz w1 → pm_re D B K s w1 H' → lv_has ls' (pm_n k) (lv1.map (pm_e2 B K)) → (∀ x ∈ locs', B ≤ x.base) → W p l e R s m args below meth c H' locs' cells' slots' Q (F0 m pc1 ls' (st1.map (pm_e B K)))) : W p l e R s m args below meth c H locs cells slots Q (F0 m pc ls (st.map (pm_e B K))) := by
  obtain ⟨hx, hb, hml, hown, hts, hK, hlocks, hr, hnm, hstr, hk264⟩ := id C
  have h1 : (match (generalizing := false) st with
    | .long y :: .long x :: r => if y = 0 then none else some (pc + 1, lv, .long (x - x / y * y) :: r, w)
    | _ => none) = some (pc1, lv1, st1, w1) := h
  split at h1
  · rename_i y x r
    by_cases hy : y = 0
    · rw [if_pos hy] at h1; cases h1
    · rw [if_neg hy] at h1; cases h1
      exact lv_lrem hx hb hd hy (kk H locs ls cells slots rfl rfl hre hls hlo)
  · cases h1
set_option maxHeartbeats 1000000 in
theorem pt_ineg  {a b : Nat} {z : Int} (h : pm_step k (.ineg, 1, a, b, z) pc lv st w = some (pc1, lv1, st1, w1)) (hd : decode (pm_c k) pc = .ok (.ineg, 1)) (hlk : pm_lnk k pc (.ineg, 1, a, b, z) = true) (C : pm_cx p s m args meth c k D B K) (hre : pm_re D B K s w H) (hls : lv_has ls (pm_n k) (lv.map (pm_e2 B K))) (hlo : ∀ x ∈ locs, B ≤ x.base) (hrc : cells + w1.length ≤ R.cells + w.length) (hrs : slots + pm_sz w1 ≤ R.slots + pm_sz w)
    (kk : ∀ (H' : Heap) (locs' : List Loc) (ls' : Array Slot) (cells' slots' : Nat), cells' + w.length = cells + w1.length → slots' + pm_sz w = slots + pm_sz w1 → pm_re D B K s w1 H' → lv_has ls' (pm_n k) (lv1.map (pm_e2 B K)) → (∀ x ∈ locs', B ≤ x.base) → W p l e R s m args below meth c H' locs' cells' slots' Q (F0 m pc1 ls' (st1.map (pm_e B K)))) : W p l e R s m args below meth c H locs cells slots Q (F0 m pc ls (st.map (pm_e B K))) := by
  obtain ⟨hx, hb, hml, hown, hts, hK, hlocks, hr, hnm, hstr, hk264⟩ := id C
  have h1 : (match (generalizing := false) st with
    | .int x :: r => some (pc + 1, lv, .int (-x) :: r, w)
    | _ => none) = some (pc1, lv1, st1, w1) := h
  split at h1
  · cases h1
    exact lv_ineg hx hb hd (kk H locs ls cells slots rfl rfl hre hls hlo)
  · cases h1
set_option maxHeartbeats 1000000 in
theorem pt_lshl  {a b : Nat} {z : Int} (h : pm_step k (.lshl, 1, a, b, z) pc lv st w = some (pc1, lv1, st1, w1)) (hd : decode (pm_c k) pc = .ok (.lshl, 1)) (hlk : pm_lnk k pc (.lshl, 1, a, b, z) = true) (C : pm_cx p s m args meth c k D B K) (hre : pm_re D B K s w H) (hls : lv_has ls (pm_n k) (lv.map (pm_e2 B K))) (hlo : ∀ x ∈ locs, B ≤ x.base) (hrc : cells + w1.length ≤ R.cells + w.length) (hrs : slots + pm_sz w1 ≤ R.slots + pm_sz w)
    (kk : ∀ (H' : Heap) (locs' : List Loc) (ls' : Array Slot) (cells' slots' : Nat), cells' + w.length = cells + w1.length → slots' + pm_sz w = slots + pm_sz w1 → pm_re D B K s w1 H' → lv_has ls' (pm_n k) (lv1.map (pm_e2 B K)) → (∀ x ∈ locs', B ≤ x.base) → W p l e R s m args below meth c H' locs' cells' slots' Q (F0 m pc1 ls' (st1.map (pm_e B K)))) : W p l e R s m args below meth c H locs cells slots Q (F0 m pc ls (st.map (pm_e B K))) := by
  obtain ⟨hx, hb, hml, hown, hts, hK, hlocks, hr, hnm, hstr, hk264⟩ := id C
  have h1 : (match (generalizing := false) st with
    | .int y :: .long x :: r => some (pc + 1, lv, .long (x <<< (y.toInt64 &&& 63)) :: r, w)
    | _ => none) = some (pc1, lv1, st1, w1) := h
  split at h1
  · cases h1
    exact lv_lshl hx hb hd rfl (kk H locs ls cells slots rfl rfl hre hls hlo)
  · cases h1
set_option maxHeartbeats 1000000 in
theorem pt_lshr  {a b : Nat} {z : Int} (h : pm_step k (.lshr, 1, a, b, z) pc lv st w = some (pc1, lv1, st1, w1)) (hd : decode (pm_c k) pc = .ok (.lshr, 1)) (hlk : pm_lnk k pc (.lshr, 1, a, b, z) = true) (C : pm_cx p s m args meth c k D B K) (hre : pm_re D B K s w H) (hls : lv_has ls (pm_n k) (lv.map (pm_e2 B K))) (hlo : ∀ x ∈ locs, B ≤ x.base) (hrc : cells + w1.length ≤ R.cells + w.length) (hrs : slots + pm_sz w1 ≤ R.slots + pm_sz w)
    (kk : ∀ (H' : Heap) (locs' : List Loc) (ls' : Array Slot) (cells' slots' : Nat), cells' + w.length = cells + w1.length → slots' + pm_sz w = slots + pm_sz w1 → pm_re D B K s w1 H' → lv_has ls' (pm_n k) (lv1.map (pm_e2 B K)) → (∀ x ∈ locs', B ≤ x.base) → W p l e R s m args below meth c H' locs' cells' slots' Q (F0 m pc1 ls' (st1.map (pm_e B K)))) : W p l e R s m args below meth c H locs cells slots Q (F0 m pc ls (st.map (pm_e B K))) := by
  obtain ⟨hx, hb, hml, hown, hts, hK, hlocks, hr, hnm, hstr, hk264⟩ := id C
  have h1 : (match (generalizing := false) st with
    | .int y :: .long x :: r => some (pc + 1, lv, .long (x >>> (y.toInt64 &&& 63)) :: r, w)
    | _ => none) = some (pc1, lv1, st1, w1) := h
  split at h1
  · cases h1
    exact lv_lshr hx hb hd rfl (kk H locs ls cells slots rfl rfl hre hls hlo)
  · cases h1
set_option maxHeartbeats 1000000 in
theorem pt_lcmp  {a b : Nat} {z : Int} (h : pm_step k (.lcmp, 1, a, b, z) pc lv st w = some (pc1, lv1, st1, w1)) (hd : decode (pm_c k) pc = .ok (.lcmp, 1)) (hlk : pm_lnk k pc (.lcmp, 1, a, b, z) = true) (C : pm_cx p s m args meth c k D B K) (hre : pm_re D B K s w H) (hls : lv_has ls (pm_n k) (lv.map (pm_e2 B K))) (hlo : ∀ x ∈ locs, B ≤ x.base) (hrc : cells + w1.length ≤ R.cells + w.length) (hrs : slots + pm_sz w1 ≤ R.slots + pm_sz w)
    (kk : ∀ (H' : Heap) (locs' : List Loc) (ls' : Array Slot) (cells' slots' : Nat), cells' + w.length = cells + w1.length → slots' + pm_sz w = slots + pm_sz w1 → pm_re D B K s w1 H' → lv_has ls' (pm_n k) (lv1.map (pm_e2 B K)) → (∀ x ∈ locs', B ≤ x.base) → W p l e R s m args below meth c H' locs' cells' slots' Q (F0 m pc1 ls' (st1.map (pm_e B K)))) : W p l e R s m args below meth c H locs cells slots Q (F0 m pc ls (st.map (pm_e B K))) := by
  obtain ⟨hx, hb, hml, hown, hts, hK, hlocks, hr, hnm, hstr, hk264⟩ := id C
  have h1 : (match (generalizing := false) st with
    | .long y :: .long x :: r => some (pc + 1, lv, .int (lg_cmp x y) :: r, w)
    | _ => none) = some (pc1, lv1, st1, w1) := h
  split at h1
  · cases h1
    exact W.lcmp hx hb hd (kk H locs ls cells slots rfl rfl hre hls hlo)
  · cases h1
set_option maxHeartbeats 1000000 in
theorem pt_i2l  {a b : Nat} {z : Int} (h : pm_step k (.i2l, 1, a, b, z) pc lv st w = some (pc1, lv1, st1, w1)) (hd : decode (pm_c k) pc = .ok (.i2l, 1)) (hlk : pm_lnk k pc (.i2l, 1, a, b, z) = true) (C : pm_cx p s m args meth c k D B K) (hre : pm_re D B K s w H) (hls : lv_has ls (pm_n k) (lv.map (pm_e2 B K))) (hlo : ∀ x ∈ locs, B ≤ x.base) (hrc : cells + w1.length ≤ R.cells + w.length) (hrs : slots + pm_sz w1 ≤ R.slots + pm_sz w)
    (kk : ∀ (H' : Heap) (locs' : List Loc) (ls' : Array Slot) (cells' slots' : Nat), cells' + w.length = cells + w1.length → slots' + pm_sz w = slots + pm_sz w1 → pm_re D B K s w1 H' → lv_has ls' (pm_n k) (lv1.map (pm_e2 B K)) → (∀ x ∈ locs', B ≤ x.base) → W p l e R s m args below meth c H' locs' cells' slots' Q (F0 m pc1 ls' (st1.map (pm_e B K)))) : W p l e R s m args below meth c H locs cells slots Q (F0 m pc ls (st.map (pm_e B K))) := by
  obtain ⟨hx, hb, hml, hown, hts, hK, hlocks, hr, hnm, hstr, hk264⟩ := id C
  have h1 : (match (generalizing := false) st with
    | .int x :: r => some (pc + 1, lv, .long x.toInt64 :: r, w)
    | _ => none) = some (pc1, lv1, st1, w1) := h
  split at h1
  · cases h1
    exact lv_i2l hx hb hd rfl (kk H locs ls cells slots rfl rfl hre hls hlo)
  · cases h1
set_option maxHeartbeats 1000000 in
theorem pt_l2i  {a b : Nat} {z : Int} (h : pm_step k (.l2i, 1, a, b, z) pc lv st w = some (pc1, lv1, st1, w1)) (hd : decode (pm_c k) pc = .ok (.l2i, 1)) (hlk : pm_lnk k pc (.l2i, 1, a, b, z) = true) (C : pm_cx p s m args meth c k D B K) (hre : pm_re D B K s w H) (hls : lv_has ls (pm_n k) (lv.map (pm_e2 B K))) (hlo : ∀ x ∈ locs, B ≤ x.base) (hrc : cells + w1.length ≤ R.cells + w.length) (hrs : slots + pm_sz w1 ≤ R.slots + pm_sz w)
    (kk : ∀ (H' : Heap) (locs' : List Loc) (ls' : Array Slot) (cells' slots' : Nat), cells' + w.length = cells + w1.length → slots' + pm_sz w = slots + pm_sz w1 → pm_re D B K s w1 H' → lv_has ls' (pm_n k) (lv1.map (pm_e2 B K)) → (∀ x ∈ locs', B ≤ x.base) → W p l e R s m args below meth c H' locs' cells' slots' Q (F0 m pc1 ls' (st1.map (pm_e B K)))) : W p l e R s m args below meth c H locs cells slots Q (F0 m pc ls (st.map (pm_e B K))) := by
  obtain ⟨hx, hb, hml, hown, hts, hK, hlocks, hr, hnm, hstr, hk264⟩ := id C
  have h1 : (match (generalizing := false) st with
    | .long x :: r => some (pc + 1, lv, .int x.toInt32 :: r, w)
    | _ => none) = some (pc1, lv1, st1, w1) := h
  split at h1
  · cases h1
    exact lv_l2i hx hb hd rfl (kk H locs ls cells slots rfl rfl hre hls hlo)
  · cases h1
set_option maxHeartbeats 1000000 in
theorem pt_i2b  {a b : Nat} {z : Int} (h : pm_step k (.i2b, 1, a, b, z) pc lv st w = some (pc1, lv1, st1, w1)) (hd : decode (pm_c k) pc = .ok (.i2b, 1)) (hlk : pm_lnk k pc (.i2b, 1, a, b, z) = true) (C : pm_cx p s m args meth c k D B K) (hre : pm_re D B K s w H) (hls : lv_has ls (pm_n k) (lv.map (pm_e2 B K))) (hlo : ∀ x ∈ locs, B ≤ x.base) (hrc : cells + w1.length ≤ R.cells + w.length) (hrs : slots + pm_sz w1 ≤ R.slots + pm_sz w)
    (kk : ∀ (H' : Heap) (locs' : List Loc) (ls' : Array Slot) (cells' slots' : Nat), cells' + w.length = cells + w1.length → slots' + pm_sz w = slots + pm_sz w1 → pm_re D B K s w1 H' → lv_has ls' (pm_n k) (lv1.map (pm_e2 B K)) → (∀ x ∈ locs', B ≤ x.base) → W p l e R s m args below meth c H' locs' cells' slots' Q (F0 m pc1 ls' (st1.map (pm_e B K)))) : W p l e R s m args below meth c H locs cells slots Q (F0 m pc ls (st.map (pm_e B K))) := by
  obtain ⟨hx, hb, hml, hown, hts, hK, hlocks, hr, hnm, hstr, hk264⟩ := id C
  have h1 : (match (generalizing := false) st with
    | .int x :: r => some (pc + 1, lv, .int x.toInt8.toInt32 :: r, w)
    | _ => none) = some (pc1, lv1, st1, w1) := h
  split at h1
  · cases h1
    exact lv_i2b hx hb hd rfl (kk H locs ls cells slots rfl rfl hre hls hlo)
  · cases h1
set_option maxHeartbeats 1000000 in
theorem pt_i2c  {a b : Nat} {z : Int} (h : pm_step k (.i2c, 1, a, b, z) pc lv st w = some (pc1, lv1, st1, w1)) (hd : decode (pm_c k) pc = .ok (.i2c, 1)) (hlk : pm_lnk k pc (.i2c, 1, a, b, z) = true) (C : pm_cx p s m args meth c k D B K) (hre : pm_re D B K s w H) (hls : lv_has ls (pm_n k) (lv.map (pm_e2 B K))) (hlo : ∀ x ∈ locs, B ≤ x.base) (hrc : cells + w1.length ≤ R.cells + w.length) (hrs : slots + pm_sz w1 ≤ R.slots + pm_sz w)
    (kk : ∀ (H' : Heap) (locs' : List Loc) (ls' : Array Slot) (cells' slots' : Nat), cells' + w.length = cells + w1.length → slots' + pm_sz w = slots + pm_sz w1 → pm_re D B K s w1 H' → lv_has ls' (pm_n k) (lv1.map (pm_e2 B K)) → (∀ x ∈ locs', B ≤ x.base) → W p l e R s m args below meth c H' locs' cells' slots' Q (F0 m pc1 ls' (st1.map (pm_e B K)))) : W p l e R s m args below meth c H locs cells slots Q (F0 m pc ls (st.map (pm_e B K))) := by
  obtain ⟨hx, hb, hml, hown, hts, hK, hlocks, hr, hnm, hstr, hk264⟩ := id C
  have h1 : (match (generalizing := false) st with
    | .int x :: r => some (pc + 1, lv, .int (x.toUInt32 % 65536).toInt32 :: r, w)
    | _ => none) = some (pc1, lv1, st1, w1) := h
  split at h1
  · cases h1
    exact lv_i2c hx hb hd rfl (kk H locs ls cells slots rfl rfl hre hls hlo)
  · cases h1
set_option maxHeartbeats 1000000 in
theorem pt_dup  {a b : Nat} {z : Int} (h : pm_step k (.dup, 1, a, b, z) pc lv st w = some (pc1, lv1, st1, w1)) (hd : decode (pm_c k) pc = .ok (.dup, 1)) (hlk : pm_lnk k pc (.dup, 1, a, b, z) = true) (C : pm_cx p s m args meth c k D B K) (hre : pm_re D B K s w H) (hls : lv_has ls (pm_n k) (lv.map (pm_e2 B K))) (hlo : ∀ x ∈ locs, B ≤ x.base) (hrc : cells + w1.length ≤ R.cells + w.length) (hrs : slots + pm_sz w1 ≤ R.slots + pm_sz w)
    (kk : ∀ (H' : Heap) (locs' : List Loc) (ls' : Array Slot) (cells' slots' : Nat), cells' + w.length = cells + w1.length → slots' + pm_sz w = slots + pm_sz w1 → pm_re D B K s w1 H' → lv_has ls' (pm_n k) (lv1.map (pm_e2 B K)) → (∀ x ∈ locs', B ≤ x.base) → W p l e R s m args below meth c H' locs' cells' slots' Q (F0 m pc1 ls' (st1.map (pm_e B K)))) : W p l e R s m args below meth c H locs cells slots Q (F0 m pc ls (st.map (pm_e B K))) := by
  obtain ⟨hx, hb, hml, hown, hts, hK, hlocks, hr, hnm, hstr, hk264⟩ := id C
  have h1 : (match (generalizing := false) st with
    | v :: r => if v.category = 1 then some (pc + 1, lv, v :: v :: r, w) else none
    | _ => none) = some (pc1, lv1, st1, w1) := h
  split at h1
  · rename_i v r
    by_cases hv : v.category = 1
    · rw [if_pos hv] at h1; cases h1
      exact lv_dup hx hb hd ((pm_e_cat B K v).trans hv) (kk H locs ls cells slots rfl rfl hre hls hlo)
    · rw [if_neg hv] at h1; cases h1
  · cases h1
set_option maxHeartbeats 1000000 in
theorem pt_pop  {a b : Nat} {z : Int} (h : pm_step k (.pop, 1, a, b, z) pc lv st w = some (pc1, lv1, st1, w1)) (hd : decode (pm_c k) pc = .ok (.pop, 1)) (hlk : pm_lnk k pc (.pop, 1, a, b, z) = true) (C : pm_cx p s m args meth c k D B K) (hre : pm_re D B K s w H) (hls : lv_has ls (pm_n k) (lv.map (pm_e2 B K))) (hlo : ∀ x ∈ locs, B ≤ x.base) (hrc : cells + w1.length ≤ R.cells + w.length) (hrs : slots + pm_sz w1 ≤ R.slots + pm_sz w)
    (kk : ∀ (H' : Heap) (locs' : List Loc) (ls' : Array Slot) (cells' slots' : Nat), cells' + w.length = cells + w1.length → slots' + pm_sz w = slots + pm_sz w1 → pm_re D B K s w1 H' → lv_has ls' (pm_n k) (lv1.map (pm_e2 B K)) → (∀ x ∈ locs', B ≤ x.base) → W p l e R s m args below meth c H' locs' cells' slots' Q (F0 m pc1 ls' (st1.map (pm_e B K)))) : W p l e R s m args below meth c H locs cells slots Q (F0 m pc ls (st.map (pm_e B K))) := by
  obtain ⟨hx, hb, hml, hown, hts, hK, hlocks, hr, hnm, hstr, hk264⟩ := id C
  have h1 : (match (generalizing := false) st with
    | v :: r => if v.category = 1 then some (pc + 1, lv, r, w) else none
    | _ => none) = some (pc1, lv1, st1, w1) := h
  split at h1
  · rename_i v r
    by_cases hv : v.category = 1
    · rw [if_pos hv] at h1; cases h1
      exact lv_pop hx hb hd ((pm_e_cat B K v).trans hv) (kk H locs ls cells slots rfl rfl hre hls hlo)
    · rw [if_neg hv] at h1; cases h1
  · cases h1
set_option maxHeartbeats 1000000 in
theorem pt_dup2  {a b : Nat} {z : Int} (h : pm_step k (.dup2, 1, a, b, z) pc lv st w = some (pc1, lv1, st1, w1)) (hd : decode (pm_c k) pc = .ok (.dup2, 1)) (hlk : pm_lnk k pc (.dup2, 1, a, b, z) = true) (C : pm_cx p s m args meth c k D B K) (hre : pm_re D B K s w H) (hls : lv_has ls (pm_n k) (lv.map (pm_e2 B K))) (hlo : ∀ x ∈ locs, B ≤ x.base) (hrc : cells + w1.length ≤ R.cells + w.length) (hrs : slots + pm_sz w1 ≤ R.slots + pm_sz w)
    (kk : ∀ (H' : Heap) (locs' : List Loc) (ls' : Array Slot) (cells' slots' : Nat), cells' + w.length = cells + w1.length → slots' + pm_sz w = slots + pm_sz w1 → pm_re D B K s w1 H' → lv_has ls' (pm_n k) (lv1.map (pm_e2 B K)) → (∀ x ∈ locs', B ≤ x.base) → W p l e R s m args below meth c H' locs' cells' slots' Q (F0 m pc1 ls' (st1.map (pm_e B K)))) : W p l e R s m args below meth c H locs cells slots Q (F0 m pc ls (st.map (pm_e B K))) := by
  obtain ⟨hx, hb, hml, hown, hts, hK, hlocks, hr, hnm, hstr, hk264⟩ := id C
  have h1 : (match (generalizing := false) st with
    | v :: u :: r => if v.category = 1 ∧ u.category = 1 then some (pc + 1, lv, v :: u :: v :: u :: r, w) else none
    | _ => none) = some (pc1, lv1, st1, w1) := h
  split at h1
  · rename_i v u r
    by_cases hv : v.category = 1 ∧ u.category = 1
    · rw [if_pos hv] at h1; cases h1
      exact lv_dup2_11 hx hb hd ((pm_e_cat B K v).trans hv.1) ((pm_e_cat B K u).trans hv.2) (kk H locs ls cells slots rfl rfl hre hls hlo)
    · rw [if_neg hv] at h1; cases h1
  · cases h1
set_option maxHeartbeats 1000000 in
theorem pt_goto {o : Int} {a b : Nat} {z : Int} (h : pm_step k ((.goto o), 3, a, b, z) pc lv st w = some (pc1, lv1, st1, w1)) (hd : decode (pm_c k) pc = .ok ((.goto o), 3)) (hlk : pm_lnk k pc ((.goto o), 3, a, b, z) = true) (C : pm_cx p s m args meth c k D B K) (hre : pm_re D B K s w H) (hls : lv_has ls (pm_n k) (lv.map (pm_e2 B K))) (hlo : ∀ x ∈ locs, B ≤ x.base) (hrc : cells + w1.length ≤ R.cells + w.length) (hrs : slots + pm_sz w1 ≤ R.slots + pm_sz w)
    (kk : ∀ (H' : Heap) (locs' : List Loc) (ls' : Array Slot) (cells' slots' : Nat), cells' + w.length = cells + w1.length → slots' + pm_sz w = slots + pm_sz w1 → pm_re D B K s w1 H' → lv_has ls' (pm_n k) (lv1.map (pm_e2 B K)) → (∀ x ∈ locs', B ≤ x.base) → W p l e R s m args below meth c H' locs' cells' slots' Q (F0 m pc1 ls' (st1.map (pm_e B K)))) : W p l e R s m args below meth c H locs cells slots Q (F0 m pc ls (st.map (pm_e B K))) := by
  obtain ⟨hx, hb, hml, hown, hts, hK, hlocks, hr, hnm, hstr, hk264⟩ := id C
  cases h
  exact lv_goto hx hb hd (of_decide_eq_true hlk) (kk H locs ls cells slots rfl rfl hre hls hlo)
set_option maxHeartbeats 1000000 in
theorem pt_ifCond {cnd : ClassFile.Cond} {o : Int} {a b : Nat} {z : Int} (h : pm_step k ((.ifCond cnd o), 3, a, b, z) pc lv st w = some (pc1, lv1, st1, w1)) (hd : decode (pm_c k) pc = .ok ((.ifCond cnd o), 3)) (hlk : pm_lnk k pc ((.ifCond cnd o), 3, a, b, z) = true) (C : pm_cx p s m args meth c k D B K) (hre : pm_re D B K s w H) (hls : lv_has ls (pm_n k) (lv.map (pm_e2 B K))) (hlo : ∀ x ∈ locs, B ≤ x.base) (hrc : cells + w1.length ≤ R.cells + w.length) (hrs : slots + pm_sz w1 ≤ R.slots + pm_sz w)
    (kk : ∀ (H' : Heap) (locs' : List Loc) (ls' : Array Slot) (cells' slots' : Nat), cells' + w.length = cells + w1.length → slots' + pm_sz w = slots + pm_sz w1 → pm_re D B K s w1 H' → lv_has ls' (pm_n k) (lv1.map (pm_e2 B K)) → (∀ x ∈ locs', B ≤ x.base) → W p l e R s m args below meth c H' locs' cells' slots' Q (F0 m pc1 ls' (st1.map (pm_e B K)))) : W p l e R s m args below meth c H locs cells slots Q (F0 m pc ls (st.map (pm_e B K))) := by
  obtain ⟨hx, hb, hml, hown, hts, hK, hlocks, hr, hnm, hstr, hk264⟩ := id C
  have ht : (pc : Int) + o = (a : Int) := of_decide_eq_true hlk
  have h1 : (match (generalizing := false) st with
    | .int x :: r => if pm_cz cnd x 0 then some (a, lv, r, w) else some (pc + 3, lv, r, w)
    | _ => none) = some (pc1, lv1, st1, w1) := h
  split at h1
  · rename_i x r
    cases cnd
    · refine lv_if_eq hx hb hd ht (fun hc => ?_) (fun hc => ?_)
      · rw [if_pos (show pm_cz .eq x 0 = true by simpa [pm_cz] using hc)] at h1; cases h1; exact kk H locs ls cells slots rfl rfl hre hls hlo
      · rw [if_neg (show ¬ pm_cz .eq x 0 = true by simpa [pm_cz] using hc)] at h1; cases h1; exact kk H locs ls cells slots rfl rfl hre hls hlo
    · refine lv_if_ne hx hb hd ht (fun hc => ?_) (fun hc => ?_)
      · rw [if_pos (show pm_cz .ne x 0 = true by simpa [pm_cz] using hc)] at h1; cases h1; exact kk H locs ls cells slots rfl rfl hre hls hlo
      · rw [if_neg (show ¬ pm_cz .ne x 0 = true by simpa [pm_cz] using hc)] at h1; cases h1; exact kk H locs ls cells slots rfl rfl hre hls hlo
    · refine lv_if_lt hx hb hd ht (fun hc => ?_) (fun hc => ?_)
      · rw [if_pos (show pm_cz .lt x 0 = true by simpa [pm_cz] using hc)] at h1; cases h1; exact kk H locs ls cells slots rfl rfl hre hls hlo
      · rw [if_neg (show ¬ pm_cz .lt x 0 = true by simpa [pm_cz] using hc)] at h1; cases h1; exact kk H locs ls cells slots rfl rfl hre hls hlo
    · refine lv_if_ge hx hb hd ht (fun hc => ?_) (fun hc => ?_)
      · rw [if_pos (show pm_cz .ge x 0 = true by simpa [pm_cz] using hc)] at h1; cases h1; exact kk H locs ls cells slots rfl rfl hre hls hlo
      · rw [if_neg (show ¬ pm_cz .ge x 0 = true by simpa [pm_cz] using hc)] at h1; cases h1; exact kk H locs ls cells slots rfl rfl hre hls hlo
    · refine lv_if_gt hx hb hd ht (fun hc => ?_) (fun hc => ?_)
      · rw [if_pos (show pm_cz .gt x 0 = true by simpa [pm_cz] using hc)] at h1; cases h1; exact kk H locs ls cells slots rfl rfl hre hls hlo
      · rw [if_neg (show ¬ pm_cz .gt x 0 = true by simpa [pm_cz] using hc)] at h1; cases h1; exact kk H locs ls cells slots rfl rfl hre hls hlo
    · refine lv_if_le hx hb hd ht (fun hc => ?_) (fun hc => ?_)
      · rw [if_pos (show pm_cz .le x 0 = true by simpa [pm_cz] using hc)] at h1; cases h1; exact kk H locs ls cells slots rfl rfl hre hls hlo
      · rw [if_neg (show ¬ pm_cz .le x 0 = true by simpa [pm_cz] using hc)] at h1; cases h1; exact kk H locs ls cells slots rfl rfl hre hls hlo
  · cases h1
set_option maxHeartbeats 1000000 in
theorem pt_if_icmp {cnd : ClassFile.Cond} {o : Int} {a b : Nat} {z : Int} (h : pm_step k ((.if_icmp cnd o), 3, a, b, z) pc lv st w = some (pc1, lv1, st1, w1)) (hd : decode (pm_c k) pc = .ok ((.if_icmp cnd o), 3)) (hlk : pm_lnk k pc ((.if_icmp cnd o), 3, a, b, z) = true) (C : pm_cx p s m args meth c k D B K) (hre : pm_re D B K s w H) (hls : lv_has ls (pm_n k) (lv.map (pm_e2 B K))) (hlo : ∀ x ∈ locs, B ≤ x.base) (hrc : cells + w1.length ≤ R.cells + w.length) (hrs : slots + pm_sz w1 ≤ R.slots + pm_sz w)
    (kk : ∀ (H' : Heap) (locs' : List Loc) (ls' : Array Slot) (cells' slots' : Nat), cells' + w.length = cells + w1.length → slots' + pm_sz w = slots + pm_sz w1 → pm_re D B K s w1 H' → lv_has ls' (pm_n k) (lv1.map (pm_e2 B K)) → (∀ x ∈ locs', B ≤ x.base) → W p l e R s m args below meth c H' locs' cells' slots' Q (F0 m pc1 ls' (st1.map (pm_e B K)))) : W p l e R s m args below meth c H locs cells slots Q (F0 m pc ls (st.map (pm_e B K))) := by
  obtain ⟨hx, hb, hml, hown, hts, hK, hlocks, hr, hnm, hstr, hk264⟩ := id C
  have ht : (pc : Int) + o = (a : Int) := of_decide_eq_true hlk
  have h1 : (match (generalizing := false) st with
    | .int y :: .int x :: r => if pm_cz cnd x y then some (a, lv, r, w) else some (pc + 3, lv, r, w)
    | _ => none) = some (pc1, lv1, st1, w1) := h
  split at h1
  · rename_i y x r
    cases cnd
    · refine lv_icmp_eq hx hb hd ht (fun hc => ?_) (fun hc => ?_)
      · rw [if_pos (show pm_cz .eq x y = true by simpa [pm_cz] using hc)] at h1; cases h1; exact kk H locs ls cells slots rfl rfl hre hls hlo
      · rw [if_neg (show ¬ pm_cz .eq x y = true by simpa [pm_cz] using hc)] at h1; cases h1; exact kk H locs ls cells slots rfl rfl hre hls hlo
    · refine lv_icmp_ne hx hb hd ht (fun hc => ?_) (fun hc => ?_)
      · rw [if_pos (show pm_cz .ne x y = true by simpa [pm_cz] using hc)] at h1; cases h1; exact kk H locs ls cells slots rfl rfl hre hls hlo
      · rw [if_neg (show ¬ pm_cz .ne x y = true by simpa [pm_cz] using hc)] at h1; cases h1; exact kk H locs ls cells slots rfl rfl hre hls hlo
    · refine lv_icmp_lt hx hb hd ht (fun hc => ?_) (fun hc => ?_)
      · rw [if_pos (show pm_cz .lt x y = true by simpa [pm_cz] using hc)] at h1; cases h1; exact kk H locs ls cells slots rfl rfl hre hls hlo
      · rw [if_neg (show ¬ pm_cz .lt x y = true by simpa [pm_cz] using hc)] at h1; cases h1; exact kk H locs ls cells slots rfl rfl hre hls hlo
    · refine lv_icmp_ge hx hb hd ht (fun hc => ?_) (fun hc => ?_)
      · rw [if_pos (show pm_cz .ge x y = true by simpa [pm_cz] using hc)] at h1; cases h1; exact kk H locs ls cells slots rfl rfl hre hls hlo
      · rw [if_neg (show ¬ pm_cz .ge x y = true by simpa [pm_cz] using hc)] at h1; cases h1; exact kk H locs ls cells slots rfl rfl hre hls hlo
    · refine lv_icmp_gt hx hb hd ht (fun hc => ?_) (fun hc => ?_)
      · rw [if_pos (show pm_cz .gt x y = true by simpa [pm_cz] using hc)] at h1; cases h1; exact kk H locs ls cells slots rfl rfl hre hls hlo
      · rw [if_neg (show ¬ pm_cz .gt x y = true by simpa [pm_cz] using hc)] at h1; cases h1; exact kk H locs ls cells slots rfl rfl hre hls hlo
    · refine lv_icmp_le hx hb hd ht (fun hc => ?_) (fun hc => ?_)
      · rw [if_pos (show pm_cz .le x y = true by simpa [pm_cz] using hc)] at h1; cases h1; exact kk H locs ls cells slots rfl rfl hre hls hlo
      · rw [if_neg (show ¬ pm_cz .le x y = true by simpa [pm_cz] using hc)] at h1; cases h1; exact kk H locs ls cells slots rfl rfl hre hls hlo
  · cases h1
set_option maxHeartbeats 1000000 in
theorem pt_ifnull {o : Int} {a b : Nat} {z : Int} (h : pm_step k ((.ifnull o), 3, a, b, z) pc lv st w = some (pc1, lv1, st1, w1)) (hd : decode (pm_c k) pc = .ok ((.ifnull o), 3)) (hlk : pm_lnk k pc ((.ifnull o), 3, a, b, z) = true) (C : pm_cx p s m args meth c k D B K) (hre : pm_re D B K s w H) (hls : lv_has ls (pm_n k) (lv.map (pm_e2 B K))) (hlo : ∀ x ∈ locs, B ≤ x.base) (hrc : cells + w1.length ≤ R.cells + w.length) (hrs : slots + pm_sz w1 ≤ R.slots + pm_sz w)
    (kk : ∀ (H' : Heap) (locs' : List Loc) (ls' : Array Slot) (cells' slots' : Nat), cells' + w.length = cells + w1.length → slots' + pm_sz w = slots + pm_sz w1 → pm_re D B K s w1 H' → lv_has ls' (pm_n k) (lv1.map (pm_e2 B K)) → (∀ x ∈ locs', B ≤ x.base) → W p l e R s m args below meth c H' locs' cells' slots' Q (F0 m pc1 ls' (st1.map (pm_e B K)))) : W p l e R s m args below meth c H locs cells slots Q (F0 m pc ls (st.map (pm_e B K))) := by
  obtain ⟨hx, hb, hml, hown, hts, hK, hlocks, hr, hnm, hstr, hk264⟩ := id C
  have ht : (pc : Int) + o = (a : Int) := of_decide_eq_true hlk
  have h1 : (match (generalizing := false) st with
    | .null :: r => some (a, lv, r, w)
    | .ref _ :: r => some (pc + 3, lv, r, w)
    | _ => none) = some (pc1, lv1, st1, w1) := h
  split at h1
  · cases h1; exact lv_ifnullN hx hb hd ht (kk H locs ls cells slots rfl rfl hre hls hlo)
  · cases h1; exact lv_ifnull hx hb hd (kk H locs ls cells slots rfl rfl hre hls hlo)
  · cases h1
set_option maxHeartbeats 1000000 in
theorem pt_ifnonnull {o : Int} {a b : Nat} {z : Int} (h : pm_step k ((.ifnonnull o), 3, a, b, z) pc lv st w = some (pc1, lv1, st1, w1)) (hd : decode (pm_c k) pc = .ok ((.ifnonnull o), 3)) (hlk : pm_lnk k pc ((.ifnonnull o), 3, a, b, z) = true) (C : pm_cx p s m args meth c k D B K) (hre : pm_re D B K s w H) (hls : lv_has ls (pm_n k) (lv.map (pm_e2 B K))) (hlo : ∀ x ∈ locs, B ≤ x.base) (hrc : cells + w1.length ≤ R.cells + w.length) (hrs : slots + pm_sz w1 ≤ R.slots + pm_sz w)
    (kk : ∀ (H' : Heap) (locs' : List Loc) (ls' : Array Slot) (cells' slots' : Nat), cells' + w.length = cells + w1.length → slots' + pm_sz w = slots + pm_sz w1 → pm_re D B K s w1 H' → lv_has ls' (pm_n k) (lv1.map (pm_e2 B K)) → (∀ x ∈ locs', B ≤ x.base) → W p l e R s m args below meth c H' locs' cells' slots' Q (F0 m pc1 ls' (st1.map (pm_e B K)))) : W p l e R s m args below meth c H locs cells slots Q (F0 m pc ls (st.map (pm_e B K))) := by
  obtain ⟨hx, hb, hml, hown, hts, hK, hlocks, hr, hnm, hstr, hk264⟩ := id C
  have ht : (pc : Int) + o = (a : Int) := of_decide_eq_true hlk
  have h1 : (match (generalizing := false) st with
    | .null :: r => some (pc + 3, lv, r, w)
    | .ref _ :: r => some (a, lv, r, w)
    | _ => none) = some (pc1, lv1, st1, w1) := h
  split at h1
  · cases h1; exact lv_ifnonnullN hx hb hd (kk H locs ls cells slots rfl rfl hre hls hlo)
  · cases h1; exact lv_ifnonnull hx hb hd ht (kk H locs ls cells slots rfl rfl hre hls hlo)
  · cases h1
set_option maxHeartbeats 1000000 in
theorem pt_tableswitch {dflt lo hi : Int} {offs : Array Int} {n : Nat} {a b : Nat} {z : Int} (h : pm_step k (.tableswitch dflt lo hi offs, n, a, b, z) pc lv st w = some (pc1, lv1, st1, w1)) (hd : decode (pm_c k) pc = .ok (.tableswitch dflt lo hi offs, n)) (C : pm_cx p s m args meth c k D B K) (hre : pm_re D B K s w H) (hls : lv_has ls (pm_n k) (lv.map (pm_e2 B K))) (hlo : ∀ x ∈ locs, B ≤ x.base) (hrc : cells + w1.length ≤ R.cells + w.length) (hrs : slots + pm_sz w1 ≤ R.slots + pm_sz w)
    (kk : ∀ (H' : Heap) (locs' : List Loc) (ls' : Array Slot) (cells' slots' : Nat), cells' + w.length = cells + w1.length → slots' + pm_sz w = slots + pm_sz w1 → pm_re D B K s w1 H' → lv_has ls' (pm_n k) (lv1.map (pm_e2 B K)) → (∀ x ∈ locs', B ≤ x.base) → W p l e R s m args below meth c H' locs' cells' slots' Q (F0 m pc1 ls' (st1.map (pm_e B K)))) : W p l e R s m args below meth c H locs cells slots Q (F0 m pc ls (st.map (pm_e B K))) := by
  obtain ⟨hx, hb, hml, hown, hts, hK, hlocks, hr, hnm, hstr, hk264⟩ := id C
  have h1 : (match (generalizing := false) st with
    | .int x :: r =>
      if x.toInt < lo ∨ hi < x.toInt then (if 0 ≤ (pc : Int) + dflt then some (((pc : Int) + dflt).toNat, lv, r, w) else none)
      else match (generalizing := false) offs[(x.toInt - lo).toNat]? with
        | some o => if 0 ≤ (pc : Int) + o then some (((pc : Int) + o).toNat, lv, r, w) else none
        | none => none
    | _ => none) = some (pc1, lv1, st1, w1) := h
  split at h1
  · rename_i x r
    by_cases hc : x.toInt < lo ∨ hi < x.toInt
    · rw [if_pos hc] at h1
      by_cases h0 : 0 ≤ (pc : Int) + dflt
      · rw [if_pos h0] at h1; cases h1
        exact lv_tableOut hx hb hd hc (Int.toNat_of_nonneg h0).symm (kk H locs ls cells slots rfl rfl hre hls hlo)
      · rw [if_neg h0] at h1; cases h1
    · rw [if_neg hc] at h1
      split at h1
      · rename_i o ho
        by_cases h0 : 0 ≤ (pc : Int) + o
        · rw [if_pos h0] at h1; cases h1
          exact lv_tableIn hx hb hd (fun q => hc (Or.inl q)) (fun q => hc (Or.inr q)) ho (Int.toNat_of_nonneg h0).symm (kk H locs ls cells slots rfl rfl hre hls hlo)
        · rw [if_neg h0] at h1; cases h1
      · cases h1
  · cases h1
set_option maxHeartbeats 1000000 in
theorem pt_getfield {i : Nat} {a b : Nat} {z : Int} (h : pm_step k ((.getfield i), 3, a, b, z) pc lv st w = some (pc1, lv1, st1, w1)) (hd : decode (pm_c k) pc = .ok ((.getfield i), 3)) (hlk : pm_lnk k pc ((.getfield i), 3, a, b, z) = true) (C : pm_cx p s m args meth c k D B K) (hre : pm_re D B K s w H) (hls : lv_has ls (pm_n k) (lv.map (pm_e2 B K))) (hlo : ∀ x ∈ locs, B ≤ x.base) (hrc : cells + w1.length ≤ R.cells + w.length) (hrs : slots + pm_sz w1 ≤ R.slots + pm_sz w)
    (kk : ∀ (H' : Heap) (locs' : List Loc) (ls' : Array Slot) (cells' slots' : Nat), cells' + w.length = cells + w1.length → slots' + pm_sz w = slots + pm_sz w1 → pm_re D B K s w1 H' → lv_has ls' (pm_n k) (lv1.map (pm_e2 B K)) → (∀ x ∈ locs', B ≤ x.base) → W p l e R s m args below meth c H' locs' cells' slots' Q (F0 m pc1 ls' (st1.map (pm_e B K)))) : W p l e R s m args below meth c H locs cells slots Q (F0 m pc ls (st.map (pm_e B K))) := by
  obtain ⟨hx, hb, hml, hown, hts, hK, hlocks, hr, hnm, hstr, hk264⟩ := id C
  have h1 : (match (generalizing := false) st with
    | .ref y :: r => match (generalizing := false) w[y]? with
      | some (0, ci, fs) => if ci = a then (fs[b]?).map (fun v => (pc + 3, lv, v :: r, w)) else none
      | _ => none
    | _ => none) = some (pc1, lv1, st1, w1) := h
  split at h1
  · split at h1
    · rename_i y r ci fs hw
      by_cases hc : ci = a
      · rw [if_pos hc] at h1
        subst hc
        cases hv : fs[b]? with
        | none => rw [hv] at h1; cases h1
        | some v =>
          rw [hv] at h1; cases h1
          exact ps_get C hre hw hlk hv hd (kk H locs ls cells slots rfl rfl hre hls hlo)
      · rw [if_neg hc] at h1; cases h1
    · cases h1
  · cases h1
set_option maxHeartbeats 1000000 in
theorem pt_putfield {i : Nat} {a b : Nat} {z : Int} (h : pm_step k ((.putfield i), 3, a, b, z) pc lv st w = some (pc1, lv1, st1, w1)) (hd : decode (pm_c k) pc = .ok ((.putfield i), 3)) (hlk : pm_lnk k pc ((.putfield i), 3, a, b, z) = true) (C : pm_cx p s m args meth c k D B K) (hre : pm_re D B K s w H) (hls : lv_has ls (pm_n k) (lv.map (pm_e2 B K))) (hlo : ∀ x ∈ locs, B ≤ x.base) (hrc : cells + w1.length ≤ R.cells + w.length) (hrs : slots + pm_sz w1 ≤ R.slots + pm_sz w)
    (kk : ∀ (H' : Heap) (locs' : List Loc) (ls' : Array Slot) (cells' slots' : Nat), cells' + w.length = cells + w1.length → slots' + pm_sz w = slots + pm_sz w1 → pm_re D B K s w1 H' → lv_has ls' (pm_n k) (lv1.map (pm_e2 B K)) → (∀ x ∈ locs', B ≤ x.base) → W p l e R s m args below meth c H' locs' cells' slots' Q (F0 m pc1 ls' (st1.map (pm_e B K)))) : W p l e R s m args below meth c H locs cells slots Q (F0 m pc ls (st.map (pm_e B K))) := by
  obtain ⟨hx, hb, hml, hown, hts, hK, hlocks, hr, hnm, hstr, hk264⟩ := id C
  have h1 : (match (generalizing := false) st with
    | v :: .ref y :: r => match (generalizing := false) w[y]? with
      | some (0, ci, fs) => if ci = a ∧ b < fs.length ∧ pm_fit (pm_ft a b) v = true then some (pc + 3, lv, r, w.set y (0, ci, fs.set b v)) else none
      | _ => none
    | _ => none) = some (pc1, lv1, st1, w1) := h
  split at h1
  · rename_i v y r
    split at h1
    · rename_i ci fs hw
      by_cases hc : ci = a ∧ b < fs.length ∧ pm_fit (pm_ft a b) v = true
      · rw [if_pos hc] at h1
        obtain ⟨rfl, hl, hf⟩ := hc
        cases h1
        have hlk1 : ((pm_F.any fun x => x.1 == pm_o k && (x.2.1 == i && (x.2.2.1 == ci && x.2.2.2.1 == b))) && ((pm_fT ci b).2.2.2 == false || (pm_k k == 2 && ci == pm_o k))) = true := hlk
        simp only [Bool.and_eq_true, Bool.or_eq_true, beq_iff_eq] at hlk1
        refine ps_put C hre hw hlk1.1 ?_ hl hf hlo hd (fun H1 locs1 hr1 hl1 => kk H1 locs1 ls cells slots (by rw [List.length_set]) (by rw [pm_sz_set hw (by simp)]) hr1 hls hl1)
        rcases hlk1.2 with hz | ⟨hz1, hz2⟩
        · exact Or.inl hz
        · exact Or.inr ⟨ps_ini hk264 hz1, hz2⟩
      · rw [if_neg hc] at h1; cases h1
    · cases h1
  · cases h1
set_option maxHeartbeats 1000000 in
theorem pt_arraylength  {a b : Nat} {z : Int} (h : pm_step k (.arraylength, 1, a, b, z) pc lv st w = some (pc1, lv1, st1, w1)) (hd : decode (pm_c k) pc = .ok (.arraylength, 1)) (hlk : pm_lnk k pc (.arraylength, 1, a, b, z) = true) (C : pm_cx p s m args meth c k D B K) (hre : pm_re D B K s w H) (hls : lv_has ls (pm_n k) (lv.map (pm_e2 B K))) (hlo : ∀ x ∈ locs, B ≤ x.base) (hrc : cells + w1.length ≤ R.cells + w.length) (hrs : slots + pm_sz w1 ≤ R.slots + pm_sz w)
    (kk : ∀ (H' : Heap) (locs' : List Loc) (ls' : Array Slot) (cells' slots' : Nat), cells' + w.length = cells + w1.length → slots' + pm_sz w = slots + pm_sz w1 → pm_re D B K s w1 H' → lv_has ls' (pm_n k) (lv1.map (pm_e2 B K)) → (∀ x ∈ locs', B ≤ x.base) → W p l e R s m args below meth c H' locs' cells' slots' Q (F0 m pc1 ls' (st1.map (pm_e B K)))) : W p l e R s m args below meth c H locs cells slots Q (F0 m pc ls (st.map (pm_e B K))) := by
  obtain ⟨hx, hb, hml, hown, hts, hK, hlocks, hr, hnm, hstr, hk264⟩ := id C
  have h1 : (match (generalizing := false) st with
    | .ref y :: r => match (generalizing := false) w[y]? with
      | some (1, _, vs) => some (pc + 1, lv, Value.int (Int32.ofNat vs.length) :: r, w)
      | _ => none
    | _ => none) = some (pc1, lv1, st1, w1) := h
  split at h1
  · split at h1
    · rename_i y r t vs hw
      cases h1
      obtain ⟨⟨cA, g1, g2, g3⟩, -⟩ := ps_arr hre hw
      exact W.alen hx hb g3 (g1 _ _) (by rw [arrV_size]) rfl rfl hd (kk H locs ls cells slots rfl rfl hre hls hlo)
    · cases h1
  · cases h1
set_option maxHeartbeats 1000000 in
theorem pt_iaload  {a b : Nat} {z : Int} (h : pm_step k (.iaload, 1, a, b, z) pc lv st w = some (pc1, lv1, st1, w1)) (hd : decode (pm_c k) pc = .ok (.iaload, 1)) (hlk : pm_lnk k pc (.iaload, 1, a, b, z) = true) (C : pm_cx p s m args meth c k D B K) (hre : pm_re D B K s w H) (hls : lv_has ls (pm_n k) (lv.map (pm_e2 B K))) (hlo : ∀ x ∈ locs, B ≤ x.base) (hrc : cells + w1.length ≤ R.cells + w.length) (hrs : slots + pm_sz w1 ≤ R.slots + pm_sz w)
    (kk : ∀ (H' : Heap) (locs' : List Loc) (ls' : Array Slot) (cells' slots' : Nat), cells' + w.length = cells + w1.length → slots' + pm_sz w = slots + pm_sz w1 → pm_re D B K s w1 H' → lv_has ls' (pm_n k) (lv1.map (pm_e2 B K)) → (∀ x ∈ locs', B ≤ x.base) → W p l e R s m args below meth c H' locs' cells' slots' Q (F0 m pc1 ls' (st1.map (pm_e B K)))) : W p l e R s m args below meth c H locs cells slots Q (F0 m pc ls (st.map (pm_e B K))) := by
  obtain ⟨hx, hb, hml, hown, hts, hK, hlocks, hr, hnm, hstr, hk264⟩ := id C
  have h1 : (match (generalizing := false) st with
    | .int j :: .ref y :: r => (pm_rd w y 0 j).map fun v => (pc + 1, lv, v :: r, w)
    | _ => none) = some (pc1, lv1, st1, w1) := h
  split at h1
  · rename_i j y r
    cases hv : pm_rd w y 0 j with
    | none => rw [hv] at h1; cases h1
    | some v =>
      rw [hv] at h1; cases h1
      obtain ⟨vs, hw, h0, hv⟩ := ps_rd hv
      obtain ⟨⟨cA, g1, g2, g3⟩, -⟩ := ps_arr hre hw
      exact W.iald hx hb g3 (g1 _ _) (fun q => by cases q) (ps_in h0 (List.getElem?_eq_some_iff.mp hv).1) (ps_slot (a := y) (t := 0) hv) rfl rfl hd (kk H locs ls cells slots rfl rfl hre hls hlo)
  · cases h1
set_option maxHeartbeats 1000000 in
theorem pt_laload  {a b : Nat} {z : Int} (h : pm_step k (.laload, 1, a, b, z) pc lv st w = some (pc1, lv1, st1, w1)) (hd : decode (pm_c k) pc = .ok (.laload, 1)) (hlk : pm_lnk k pc (.laload, 1, a, b, z) = true) (C : pm_cx p s m args meth c k D B K) (hre : pm_re D B K s w H) (hls : lv_has ls (pm_n k) (lv.map (pm_e2 B K))) (hlo : ∀ x ∈ locs, B ≤ x.base) (hrc : cells + w1.length ≤ R.cells + w.length) (hrs : slots + pm_sz w1 ≤ R.slots + pm_sz w)
    (kk : ∀ (H' : Heap) (locs' : List Loc) (ls' : Array Slot) (cells' slots' : Nat), cells' + w.length = cells + w1.length → slots' + pm_sz w = slots + pm_sz w1 → pm_re D B K s w1 H' → lv_has ls' (pm_n k) (lv1.map (pm_e2 B K)) → (∀ x ∈ locs', B ≤ x.base) → W p l e R s m args below meth c H' locs' cells' slots' Q (F0 m pc1 ls' (st1.map (pm_e B K)))) : W p l e R s m args below meth c H locs cells slots Q (F0 m pc ls (st.map (pm_e B K))) := by
  obtain ⟨hx, hb, hml, hown, hts, hK, hlocks, hr, hnm, hstr, hk264⟩ := id C
  have h1 : (match (generalizing := false) st with
    | .int j :: .ref y :: r => (pm_rd w y 1 j).map fun v => (pc + 1, lv, v :: r, w)
    | _ => none) = some (pc1, lv1, st1, w1) := h
  split at h1
  · rename_i j y r
    cases hv : pm_rd w y 1 j with
    | none => rw [hv] at h1; cases h1
    | some v =>
      rw [hv] at h1; cases h1
      obtain ⟨vs, hw, h0, hv⟩ := ps_rd hv
      obtain ⟨⟨cA, g1, g2, g3⟩, -⟩ := ps_arr hre hw
      exact W.lald hx hb g3 (g1 _ _) (fun q => by cases q) (ps_in h0 (List.getElem?_eq_some_iff.mp hv).1) (ps_slot (a := y) (t := 1) hv) rfl rfl hd (kk H locs ls cells slots rfl rfl hre hls hlo)
  · cases h1
set_option maxHeartbeats 1000000 in
theorem pt_baload  {a b : Nat} {z : Int} (h : pm_step k (.baload, 1, a, b, z) pc lv st w = some (pc1, lv1, st1, w1)) (hd : decode (pm_c k) pc = .ok (.baload, 1)) (hlk : pm_lnk k pc (.baload, 1, a, b, z) = true) (C : pm_cx p s m args meth c k D B K) (hre : pm_re D B K s w H) (hls : lv_has ls (pm_n k) (lv.map (pm_e2 B K))) (hlo : ∀ x ∈ locs, B ≤ x.base) (hrc : cells + w1.length ≤ R.cells + w.length) (hrs : slots + pm_sz w1 ≤ R.slots + pm_sz w)
    (kk : ∀ (H' : Heap) (locs' : List Loc) (ls' : Array Slot) (cells' slots' : Nat), cells' + w.length = cells + w1.length → slots' + pm_sz w = slots + pm_sz w1 → pm_re D B K s w1 H' → lv_has ls' (pm_n k) (lv1.map (pm_e2 B K)) → (∀ x ∈ locs', B ≤ x.base) → W p l e R s m args below meth c H' locs' cells' slots' Q (F0 m pc1 ls' (st1.map (pm_e B K)))) : W p l e R s m args below meth c H locs cells slots Q (F0 m pc ls (st.map (pm_e B K))) := by
  obtain ⟨hx, hb, hml, hown, hts, hK, hlocks, hr, hnm, hstr, hk264⟩ := id C
  have h1 : (match (generalizing := false) st with
    | .int j :: .ref y :: r => match (generalizing := false) w[y]? with
      | some (1, 2, _) => (pm_rd w y 2 j).map fun v => (pc + 1, lv, v :: r, w)
      | _ => (pm_rd w y 3 j).map fun v => (pc + 1, lv, v :: r, w)
    | _ => none) = some (pc1, lv1, st1, w1) := h
  split at h1
  · rename_i j y r
    split at h1
    · cases hv : pm_rd w y 2 j with
      | none => rw [hv] at h1; cases h1
      | some v =>
        rw [hv] at h1; cases h1
        obtain ⟨vs, hw, h0, hv⟩ := ps_rd hv
        obtain ⟨⟨cA, g1, g2, g3⟩, -⟩ := ps_arr hre hw
        exact W.bald hx hb g3 (g1 _ _) (fun q => by cases q) (ps_in h0 (List.getElem?_eq_some_iff.mp hv).1) (ps_slot (a := y) (t := 2) hv) rfl rfl hd (kk H locs ls cells slots rfl rfl hre hls hlo)
    · cases hv : pm_rd w y 3 j with
      | none => rw [hv] at h1; cases h1
      | some v =>
        rw [hv] at h1; cases h1
        obtain ⟨vs, hw, h0, hv⟩ := ps_rd hv
        obtain ⟨⟨cA, g1, g2, g3⟩, -⟩ := ps_arr hre hw
        exact W.zald hx hb g3 (g1 _ _) (fun q => by cases q) (ps_in h0 (List.getElem?_eq_some_iff.mp hv).1) (ps_slot (a := y) (t := 3) hv) rfl rfl hd (kk H locs ls cells slots rfl rfl hre hls hlo)
  · cases h1
set_option maxHeartbeats 1000000 in
theorem pt_aaload  {a b : Nat} {z : Int} (h : pm_step k (.aaload, 1, a, b, z) pc lv st w = some (pc1, lv1, st1, w1)) (hd : decode (pm_c k) pc = .ok (.aaload, 1)) (hlk : pm_lnk k pc (.aaload, 1, a, b, z) = true) (C : pm_cx p s m args meth c k D B K) (hre : pm_re D B K s w H) (hls : lv_has ls (pm_n k) (lv.map (pm_e2 B K))) (hlo : ∀ x ∈ locs, B ≤ x.base) (hrc : cells + w1.length ≤ R.cells + w.length) (hrs : slots + pm_sz w1 ≤ R.slots + pm_sz w)
    (kk : ∀ (H' : Heap) (locs' : List Loc) (ls' : Array Slot) (cells' slots' : Nat), cells' + w.length = cells + w1.length → slots' + pm_sz w = slots + pm_sz w1 → pm_re D B K s w1 H' → lv_has ls' (pm_n k) (lv1.map (pm_e2 B K)) → (∀ x ∈ locs', B ≤ x.base) → W p l e R s m args below meth c H' locs' cells' slots' Q (F0 m pc1 ls' (st1.map (pm_e B K)))) : W p l e R s m args below meth c H locs cells slots Q (F0 m pc ls (st.map (pm_e B K))) := by
  obtain ⟨hx, hb, hml, hown, hts, hK, hlocks, hr, hnm, hstr, hk264⟩ := id C
  have h1 : (match (generalizing := false) st with
    | .int j :: .ref y :: r => match (generalizing := false) w[y]? with
      | some (1, t, _) => if 4 ≤ t then (pm_rd w y t j).map fun v => (pc + 1, lv, v :: r, w) else none
      | _ => none
    | _ => none) = some (pc1, lv1, st1, w1) := h
  split at h1
  · rename_i j y r
    split at h1
    · rename_i t vs0 hw0
      by_cases h4 : 4 ≤ t
      · rw [if_pos h4] at h1
        cases hv : pm_rd w y t j with
        | none => rw [hv] at h1; cases h1
        | some v =>
          rw [hv] at h1; cases h1
          obtain ⟨vs, hw, h0, hv⟩ := ps_rd hv
          obtain ⟨⟨cA, g1, g2, g3⟩, -⟩ := ps_arr hre hw
          refine W.aald hx hb g3 (g1 _ _) ?_ (fun q => by cases q) (ps_in h0 (List.getElem?_eq_some_iff.mp hv).1) (ps_slot (a := y) (t := t) hv) rfl rfl hd (kk H locs ls cells slots rfl rfl hre hls hlo)
          obtain ⟨u, rfl⟩ : ∃ u, t = u + 4 := ⟨t - 4, by omega⟩
          rfl
      · rw [if_neg h4] at h1; cases h1
    · cases h1
  · cases h1
set_option maxHeartbeats 1000000 in
theorem pt_iastore  {a b : Nat} {z : Int} (h : pm_step k (.iastore, 1, a, b, z) pc lv st w = some (pc1, lv1, st1, w1)) (hd : decode (pm_c k) pc = .ok (.iastore, 1)) (hlk : pm_lnk k pc (.iastore, 1, a, b, z) = true) (C : pm_cx p s m args meth c k D B K) (hre : pm_re D B K s w H) (hls : lv_has ls (pm_n k) (lv.map (pm_e2 B K))) (hlo : ∀ x ∈ locs, B ≤ x.base) (hrc : cells + w1.length ≤ R.cells + w.length) (hrs : slots + pm_sz w1 ≤ R.slots + pm_sz w)
    (kk : ∀ (H' : Heap) (locs' : List Loc) (ls' : Array Slot) (cells' slots' : Nat), cells' + w.length = cells + w1.length → slots' + pm_sz w = slots + pm_sz w1 → pm_re D B K s w1 H' → lv_has ls' (pm_n k) (lv1.map (pm_e2 B K)) → (∀ x ∈ locs', B ≤ x.base) → W p l e R s m args below meth c H' locs' cells' slots' Q (F0 m pc1 ls' (st1.map (pm_e B K)))) : W p l e R s m args below meth c H locs cells slots Q (F0 m pc ls (st.map (pm_e B K))) := by
  obtain ⟨hx, hb, hml, hown, hts, hK, hlocks, hr, hnm, hstr, hk264⟩ := id C
  have h1 : (match (generalizing := false) st with
    | .int x :: .int j :: .ref y :: r => (pm_wr w y 0 j (.int x)).map fun w2 => (pc + 1, lv, r, w2)
    | _ => none) = some (pc1, lv1, st1, w1) := h
  split at h1
  · rename_i x j y r
    cases hw1 : pm_wr w y 0 j (.int x) with
    | none => rw [hw1] at h1; cases h1
    | some w2 =>
      rw [hw1] at h1; cases h1
      obtain ⟨vs, hw, h0, hi, rfl⟩ := ps_wrr hw1
      obtain ⟨⟨cA, g1, g2, g3⟩, -⟩ := ps_arr hre hw
      exact W.iast hx hb g3 (g1 _ _) (fun q => by cases q) (ps_in h0 hi) rfl rfl hd fun H1 e1 e2 e3 => kk H1 _ ls cells slots (by rw [List.length_set]) (by rw [pm_sz_set hw (by simp)]) (ps_wr hre hw g1 g2 hi (fun _ => ⟨_, rfl⟩) e1 e2 e3) hls (ps_lo hlo)
  · cases h1
set_option maxHeartbeats 1000000 in
theorem pt_lastore  {a b : Nat} {z : Int} (h : pm_step k (.lastore, 1, a, b, z) pc lv st w = some (pc1, lv1, st1, w1)) (hd : decode (pm_c k) pc = .ok (.lastore, 1)) (hlk : pm_lnk k pc (.lastore, 1, a, b, z) = true) (C : pm_cx p s m args meth c k D B K) (hre : pm_re D B K s w H) (hls : lv_has ls (pm_n k) (lv.map (pm_e2 B K))) (hlo : ∀ x ∈ locs, B ≤ x.base) (hrc : cells + w1.length ≤ R.cells + w.length) (hrs : slots + pm_sz w1 ≤ R.slots + pm_sz w)
    (kk : ∀ (H' : Heap) (locs' : List Loc) (ls' : Array Slot) (cells' slots' : Nat), cells' + w.length = cells + w1.length → slots' + pm_sz w = slots + pm_sz w1 → pm_re D B K s w1 H' → lv_has ls' (pm_n k) (lv1.map (pm_e2 B K)) → (∀ x ∈ locs', B ≤ x.base) → W p l e R s m args below meth c H' locs' cells' slots' Q (F0 m pc1 ls' (st1.map (pm_e B K)))) : W p l e R s m args below meth c H locs cells slots Q (F0 m pc ls (st.map (pm_e B K))) := by
  obtain ⟨hx, hb, hml, hown, hts, hK, hlocks, hr, hnm, hstr, hk264⟩ := id C
  have h1 : (match (generalizing := false) st with
    | .long x :: .int j :: .ref y :: r => (pm_wr w y 1 j (.long x)).map fun w2 => (pc + 1, lv, r, w2)
    | _ => none) = some (pc1, lv1, st1, w1) := h
  split at h1
  · rename_i x j y r
    cases hw1 : pm_wr w y 1 j (.long x) with
    | none => rw [hw1] at h1; cases h1
    | some w2 =>
      rw [hw1] at h1; cases h1
      obtain ⟨vs, hw, h0, hi, rfl⟩ := ps_wrr hw1
      obtain ⟨⟨cA, g1, g2, g3⟩, -⟩ := ps_arr hre hw
      exact W.last hx hb g3 (g1 _ _) (fun q => by cases q) (ps_in h0 hi) rfl rfl hd fun H1 e1 e2 e3 => kk H1 _ ls cells slots (by rw [List.length_set]) (by rw [pm_sz_set hw (by simp)]) (ps_wr hre hw g1 g2 hi (fun hq => by cases hq) e1 e2 e3) hls (ps_lo hlo)
  · cases h1
set_option maxHeartbeats 1000000 in
theorem pt_bastore  {a b : Nat} {z : Int} (h : pm_step k (.bastore, 1, a, b, z) pc lv st w = some (pc1, lv1, st1, w1)) (hd : decode (pm_c k) pc = .ok (.bastore, 1)) (hlk : pm_lnk k pc (.bastore, 1, a, b, z) = true) (C : pm_cx p s m args meth c k D B K) (hre : pm_re D B K s w H) (hls : lv_has ls (pm_n k) (lv.map (pm_e2 B K))) (hlo : ∀ x ∈ locs, B ≤ x.base) (hrc : cells + w1.length ≤ R.cells + w.length) (hrs : slots + pm_sz w1 ≤ R.slots + pm_sz w)
    (kk : ∀ (H' : Heap) (locs' : List Loc) (ls' : Array Slot) (cells' slots' : Nat), cells' + w.length = cells + w1.length → slots' + pm_sz w = slots + pm_sz w1 → pm_re D B K s w1 H' → lv_has ls' (pm_n k) (lv1.map (pm_e2 B K)) → (∀ x ∈ locs', B ≤ x.base) → W p l e R s m args below meth c H' locs' cells' slots' Q (F0 m pc1 ls' (st1.map (pm_e B K)))) : W p l e R s m args below meth c H locs cells slots Q (F0 m pc ls (st.map (pm_e B K))) := by
  obtain ⟨hx, hb, hml, hown, hts, hK, hlocks, hr, hnm, hstr, hk264⟩ := id C
  have h1 : (match (generalizing := false) st with
    | .int x :: .int j :: .ref y :: r => match (generalizing := false) w[y]? with
      | some (1, 2, _) => (pm_wr w y 2 j (narrow .byte (.int x))).map fun w2 => (pc + 1, lv, r, w2)
      | _ => (pm_wr w y 3 j (narrow .boolean (.int x))).map fun w2 => (pc + 1, lv, r, w2)
    | _ => none) = some (pc1, lv1, st1, w1) := h
  split at h1
  · rename_i x j y r
    split at h1
    · cases hw1 : pm_wr w y 2 j (narrow .byte (.int x)) with
      | none => rw [hw1] at h1; cases h1
      | some w2 =>
        rw [hw1] at h1; cases h1
        obtain ⟨vs, hw, h0, hi, rfl⟩ := ps_wrr hw1
        obtain ⟨⟨cA, g1, g2, g3⟩, -⟩ := ps_arr hre hw
        exact W.bast hx hb g3 (g1 _ _) (fun q => by cases q) (ps_in h0 hi) rfl rfl hd fun H1 e1 e2 e3 => kk H1 _ ls cells slots (by rw [List.length_set]) (by rw [pm_sz_set hw (by simp)]) (ps_wr hre hw g1 g2 hi (fun hq => by cases hq) e1 e2 e3) hls (ps_lo hlo)
    · cases hw1 : pm_wr w y 3 j (narrow .boolean (.int x)) with
      | none => rw [hw1] at h1; cases h1
      | some w2 =>
        rw [hw1] at h1; cases h1
        obtain ⟨vs, hw, h0, hi, rfl⟩ := ps_wrr hw1
        obtain ⟨⟨cA, g1, g2, g3⟩, -⟩ := ps_arr hre hw
        exact W.zast hx hb g3 (g1 _ _) (fun q => by cases q) (ps_in h0 hi) rfl rfl hd fun H1 e1 e2 e3 => kk H1 _ ls cells slots (by rw [List.length_set]) (by rw [pm_sz_set hw (by simp)]) (ps_wr hre hw g1 g2 hi (fun hq => by cases hq) e1 e2 e3) hls (ps_lo hlo)
  · cases h1
set_option maxHeartbeats 1000000 in
theorem pt_aastore  {a b : Nat} {z : Int} (h : pm_step k (.aastore, 1, a, b, z) pc lv st w = some (pc1, lv1, st1, w1)) (hd : decode (pm_c k) pc = .ok (.aastore, 1)) (hlk : pm_lnk k pc (.aastore, 1, a, b, z) = true) (C : pm_cx p s m args meth c k D B K) (hre : pm_re D B K s w H) (hls : lv_has ls (pm_n k) (lv.map (pm_e2 B K))) (hlo : ∀ x ∈ locs, B ≤ x.base) (hrc : cells + w1.length ≤ R.cells + w.length) (hrs : slots + pm_sz w1 ≤ R.slots + pm_sz w)
    (kk : ∀ (H' : Heap) (locs' : List Loc) (ls' : Array Slot) (cells' slots' : Nat), cells' + w.length = cells + w1.length → slots' + pm_sz w = slots + pm_sz w1 → pm_re D B K s w1 H' → lv_has ls' (pm_n k) (lv1.map (pm_e2 B K)) → (∀ x ∈ locs', B ≤ x.base) → W p l e R s m args below meth c H' locs' cells' slots' Q (F0 m pc1 ls' (st1.map (pm_e B K)))) : W p l e R s m args below meth c H locs cells slots Q (F0 m pc ls (st.map (pm_e B K))) := by
  obtain ⟨hx, hb, hml, hown, hts, hK, hlocks, hr, hnm, hstr, hk264⟩ := id C
  have h1 : (match (generalizing := false) st with
    | .ref v :: .int j :: .ref y :: r => match (generalizing := false) w[v]? with
      | some (0, ci, _) => (pm_wr w y (4 + ci) j (.ref v)).map fun w2 => (pc + 1, lv, r, w2)
      | _ => none
    | _ => none) = some (pc1, lv1, st1, w1) := h
  split at h1
  · rename_i v j y r
    split at h1
    · rename_i ci fs hwv
      cases hw1 : pm_wr w y (4 + ci) j (.ref v) with
      | none => rw [hw1] at h1; cases h1
      | some w2 =>
        rw [hw1] at h1; cases h1
        obtain ⟨vs, hw, h0, hi, rfl⟩ := ps_wrr hw1
        obtain ⟨⟨cA, g1, g2, g3⟩, -⟩ := ps_arr hre hw
        obtain ⟨o1, o2, cellV, o3, o4, o5, -⟩ := ps_obj hre hwv
        have hcls := (hK.1 ci _ (pm_cl_at ci o1)).2
        have g2' : va_RA s cA (.object (pm_R ci)) := by rw [Nat.add_comm] at g2; exact g2
        obtain ⟨kA, comp, k1, k2, k3, -⟩ := g2'
        have hcomp : comp = D.1 ci := Option.some.inj (k3.symm.trans hcls.1)
        subst hcomp
        obtain ⟨kC, hkC, -⟩ := id hcls.2
        exact W.aast hx hb g3 (fun q h => by cases h) (fun h => by cases h) k1 k2 rfl hkC ⟨h0, by rw [arrV_size]; exact hi⟩ o3 (fun q h => by rw [o5] at h; cases h) (by rw [o4]; exact hkC) (by rw [o4]; exact va_assign hcls) rfl rfl hd fun H1 e1 e2 e3 => kk H1 _ ls cells slots (by rw [List.length_set]) (by rw [pm_sz_set hw (by simp)]) (ps_wr hre hw g1 g2 hi (fun hq => by omega) e1 e2 e3) hls (ps_lo hlo)
    · cases h1
  · cases h1
set_option maxHeartbeats 1000000 in
theorem pt_new {i : Nat} {a b : Nat} {z : Int} (h : pm_step k ((.new i), 3, a, b, z) pc lv st w = some (pc1, lv1, st1, w1)) (hd : decode (pm_c k) pc = .ok ((.new i), 3)) (hlk : pm_lnk k pc ((.new i), 3, a, b, z) = true) (C : pm_cx p s m args meth c k D B K) (hre : pm_re D B K s w H) (hls : lv_has ls (pm_n k) (lv.map (pm_e2 B K))) (hlo : ∀ x ∈ locs, B ≤ x.base) (hrc : cells + w1.length ≤ R.cells + w.length) (hrs : slots + pm_sz w1 ≤ R.slots + pm_sz w)
    (kk : ∀ (H' : Heap) (locs' : List Loc) (ls' : Array Slot) (cells' slots' : Nat), cells' + w.length = cells + w1.length → slots' + pm_sz w = slots + pm_sz w1 → pm_re D B K s w1 H' → lv_has ls' (pm_n k) (lv1.map (pm_e2 B K)) → (∀ x ∈ locs', B ≤ x.base) → W p l e R s m args below meth c H' locs' cells' slots' Q (F0 m pc1 ls' (st1.map (pm_e B K)))) : W p l e R s m args below meth c H locs cells slots Q (F0 m pc ls (st.map (pm_e B K))) := by
  obtain ⟨hx, hb, hml, hown, hts, hK, hlocks, hr, hnm, hstr, hk264⟩ := id C
  have h1 : (match (generalizing := false) pm_D[a]? with
    | some fs => some (pc + 3, lv, Value.ref w.length :: st, w ++ [(0, a, fs)])
    | none => none) = some (pc1, lv1, st1, w1) := h
  split at h1
  · rename_i fs hfs
    cases h1
    obtain ⟨g1, g2⟩ := pm_hkl hlk
    have hfs1 : pm_D.getD a [] = fs := by rw [List.getD_eq_getElem?_getD, hfs]; rfl
    have hlen : fs.length = pm_cN a := by rw [← hfs1]; exact pm_hlenD g2
    rw [List.length_append] at hrc
    rw [pm_sz_push] at hrs
    have hr1 : cells + 1 ≤ R.cells := by simp at hrc; omega
    have hr2 : slots + pm_cN a ≤ R.slots := by simp [hlen] at hrs; omega
    have hKn := hK.1 a _ (pm_cl_at a g2)
    refine W.newcK hx hb hown (hts _ g1) (hts _ (pm_hinst g2).1) (hts _ (pm_hinst g2).2) rfl hd hr1 hr2 hKn.2.1 rfl fun H1 kC hkC e1 z1 o1 => ?_
    have hk := kk H1 locs ls (cells + 1) (slots + pm_cN a) (by rw [List.length_append]; simp; omega) (by rw [pm_sz_push]; simp [hlen]; omega) (hre.push ⟨fun _ => ⟨g2, hlen, ?_⟩, (fun hq => by cases hq)⟩ z1 o1) hls hlo
    · rw [List.map_cons] at hk
      show W p l e R s m args below meth c H1 locs (cells + 1) (slots + pm_cN a) Q (F0 m (pc + 3) ls (.ref H.size :: st.map (pm_e B K)))
      rw [hre.1]
      exact hk
    · rw [← hre.1]
      refine (u_born (pm_ft a) hts (pm_hin g2) hKn hkC e1 (pm_hty g2)).to (fun j hj => ?_)
      show defaultValue (pm_ft a j) = pm_e B K (fs.getD j .null)
      rw [← hfs1, ← pm_hdv g2 j hj]
      exact (pm_e_dv _).symm
  · cases h1
theorem pt_rep (n : Nat) (v : Value) (hv : pm_e B K v = v) (j : Nat) (hj : j < n) : pm_e B K ((List.replicate n v).getD j .null) = v := by
  rw [List.getD_eq_getElem?_getD, List.getElem?_replicate, if_pos hj]
  exact hv
theorem pt_arrV {cA : ClassId} {n : Nat} {f g : Nat → Value} (h : ∀ j, j < n → f j = g j) : arrV cA n f = arrV cA n g := by
  unfold arrV
  congr 1
  apply Array.ext
  · simp
  · intro i h1 h2
    simp only [Array.getElem_ofFn]
    exact h i (by simpa using h1)
theorem pt_newa {t : ArrayType} {u : Nat} {z : Value} (h : pm_new t = some (u, z)) : newarray.typeOf t = pm_ty u ∧ defaultValue (pm_ty u) = z ∧ pm_e B K z = z ∧ (u = 0 → ∃ x, z = .int x) ∧ u < 4 ∧ componentBytes (pm_ty u) ≤ 8 ∧ Cond.arrayClass (pm_ty u) ∈ lw_g := by
  cases t <;> cases h <;> refine ⟨rfl, rfl, rfl, fun hq => ?_, by decide, by decide, ?_⟩ <;> first | exact ⟨_, rfl⟩ | cases hq | exact lw_g_in pm_ac_int rfl | exact lw_g_in pm_ac_long rfl | exact lw_g_in pm_ac_byte rfl | exact lw_g_in pm_ac_boolean rfl
set_option maxHeartbeats 1000000 in
theorem pt_newarray {t : ArrayType} {a b : Nat} {z : Int} (h : pm_step k ((.newarray t), 2, a, b, z) pc lv st w = some (pc1, lv1, st1, w1)) (hd : decode (pm_c k) pc = .ok ((.newarray t), 2)) (hlk : pm_lnk k pc ((.newarray t), 2, a, b, z) = true) (C : pm_cx p s m args meth c k D B K) (hre : pm_re D B K s w H) (hls : lv_has ls (pm_n k) (lv.map (pm_e2 B K))) (hlo : ∀ x ∈ locs, B ≤ x.base) (hrc : cells + w1.length ≤ R.cells + w.length) (hrs : slots + pm_sz w1 ≤ R.slots + pm_sz w)
    (kk : ∀ (H' : Heap) (locs' : List Loc) (ls' : Array Slot) (cells' slots' : Nat), cells' + w.length = cells + w1.length → slots' + pm_sz w = slots + pm_sz w1 → pm_re D B K s w1 H' → lv_has ls' (pm_n k) (lv1.map (pm_e2 B K)) → (∀ x ∈ locs', B ≤ x.base) → W p l e R s m args below meth c H' locs' cells' slots' Q (F0 m pc1 ls' (st1.map (pm_e B K)))) : W p l e R s m args below meth c H locs cells slots Q (F0 m pc ls (st.map (pm_e B K))) := by
  obtain ⟨hx, hb, hml, hown, hts, hK, hlocks, hr, hnm, hstr, hk264⟩ := id C
  have h1 : (match (generalizing := false) st with
    | .int n :: r => match (generalizing := false) pm_new t with
      | some (u, z) => if ¬ n < 0 ∧ n.toNatClampNeg ≤ 65536 then some (pc + 2, lv, Value.ref w.length :: r, w ++ [(1, u, List.replicate n.toNatClampNeg z)]) else none
      | none => none
    | _ => none) = some (pc1, lv1, st1, w1) := h
  split at h1
  · rename_i n r
    split at h1
    · rename_i u v hu
      by_cases hc : ¬ n < 0 ∧ n.toNatClampNeg ≤ 65536
      · rw [if_pos hc] at h1; cases h1
        obtain ⟨g1, g2, g3, g4, g5, g6, g7⟩ := pt_newa (B := B) (K := K) hu
        rw [List.length_append] at hrc
        rw [pm_sz_push] at hrs
        have hr1 : cells + 1 ≤ R.cells := by simp at hrc; omega
        have hr2 : slots + n.toNatClampNeg ≤ R.slots := by simp at hrs; omega
        refine va_newaK hx hb (by rw [g1]; exact hts _ g7) rfl hd rfl hc.1 rfl (by rw [g1]; exact Nat.le_trans (Nat.mul_le_mul hc.2 g6) (by decide)) hr1 hr2 rfl fun H1 cA e1 z1 o1 hAr hNm => ?_
        have hk := kk H1 locs ls (cells + 1) (slots + n.toNatClampNeg) (by rw [List.length_append]; simp; omega) (by rw [pm_sz_push]; simp; omega) (hre.push ⟨(fun hq => by cases hq), fun _ => ⟨⟨cA, by rw [← g1]; exact hAr, ?_, ?_⟩, ?_⟩⟩ z1 o1) hls hlo
        · rw [List.map_cons] at hk
          show W p l e R s m args below meth c H1 locs (cells + 1) (slots + n.toNatClampNeg) Q (F0 m (pc + 2) ls (.ref H.size :: r.map (pm_e B K)))
          rw [hre.1]
          exact hk
        · rw [g1] at hNm
          match u, g5, hNm with
          | 0, _, hNm => exact hNm
          | 1, _, hNm => exact hNm
          | 2, _, hNm => exact hNm
          | 3, _, hNm => exact hNm
        · rw [← hre.1, e1, g1, g2]
          show some _ = some (arrV cA (List.replicate n.toNatClampNeg v).length _)
          rw [List.length_replicate]
          exact congrArg some (pt_arrV fun j hj => (pt_rep _ v g3 j hj).symm)
        · intro hq x hx1
          rw [List.eq_of_mem_replicate hx1]
          exact g4 hq
      · rw [if_neg hc] at h1; cases h1
    · cases h1
  · cases h1
set_option maxHeartbeats 1000000 in
theorem pt_anewarray {i : Nat} {a b : Nat} {z : Int} (h : pm_step k ((.anewarray i), 3, a, b, z) pc lv st w = some (pc1, lv1, st1, w1)) (hd : decode (pm_c k) pc = .ok ((.anewarray i), 3)) (hlk : pm_lnk k pc ((.anewarray i), 3, a, b, z) = true) (hao : a = 0 ∨ a = 5 ∨ a = 7) (C : pm_cx p s m args meth c k D B K) (hre : pm_re D B K s w H) (hls : lv_has ls (pm_n k) (lv.map (pm_e2 B K))) (hlo : ∀ x ∈ locs, B ≤ x.base) (hrc : cells + w1.length ≤ R.cells + w.length) (hrs : slots + pm_sz w1 ≤ R.slots + pm_sz w)
    (kk : ∀ (H' : Heap) (locs' : List Loc) (ls' : Array Slot) (cells' slots' : Nat), cells' + w.length = cells + w1.length → slots' + pm_sz w = slots + pm_sz w1 → pm_re D B K s w1 H' → lv_has ls' (pm_n k) (lv1.map (pm_e2 B K)) → (∀ x ∈ locs', B ≤ x.base) → W p l e R s m args below meth c H' locs' cells' slots' Q (F0 m pc1 ls' (st1.map (pm_e B K)))) : W p l e R s m args below meth c H locs cells slots Q (F0 m pc ls (st.map (pm_e B K))) := by
  obtain ⟨hx, hb, hml, hown, hts, hK, hlocks, hr, hnm, hstr, hk264⟩ := id C
  have h1 : (match (generalizing := false) st with
    | .int n :: r => if ¬ n < 0 ∧ n.toNatClampNeg ≤ 65536 ∧ a < 13 then some (pc + 3, lv, Value.ref w.length :: r, w ++ [(1, 4 + a, List.replicate n.toNatClampNeg .null)]) else none
    | _ => none) = some (pc1, lv1, st1, w1) := h
  split at h1
  · rename_i n r
    by_cases hc : ¬ n < 0 ∧ n.toNatClampNeg ≤ 65536 ∧ a < 13
    · rw [if_pos hc] at h1; cases h1
      obtain ⟨g1, g2⟩ := pm_hkl hlk
      have hov := hstr.2.1 a hao
      rw [List.length_append] at hrc
      rw [pm_sz_push] at hrs
      have hr1 : cells + 1 ≤ R.cells := by simp at hrc; omega
      have hr2 : slots + n.toNatClampNeg ≤ R.slots := by simp at hrs; omega
      refine W.anew hx hb hown (hts _ g1) (va_AO.use hov) rfl hd rfl hc.1 (by omega) hr1 hr2 fun cA kA comp n1 n2 n3 n4 => ?_
      have hk := kk (H.push { cls := cA, slots := Array.replicate n.toNatClampNeg .null, vm := .none }) locs ls (cells + 1) (slots + n.toNatClampNeg) (by rw [List.length_append]; simp; omega) (by rw [pm_sz_push]; simp; omega) (hre.push ⟨(fun hq => by cases hq), fun _ => ⟨⟨cA, ?_, ?_, ?_⟩, (fun hq => by simp at hq)⟩⟩ (by simp) (fun q hq => by rw [Array.getElem?_push, if_neg (Nat.ne_of_lt hq)])) hls hlo
      · rw [List.map_cons] at hk
        show W p l e R s m args below meth c _ locs (cells + 1) (slots + n.toNatClampNeg) Q (F0 m (pc + 3) ls (.ref H.size :: r.map (pm_e B K)))
        rw [hre.1]
        exact hk
      · show ArrOfT s cA (pm_ty (4 + a))
        rw [Nat.add_comm]
        exact fun n z => ⟨fun k h => (by cases h), kA, n2, comp, n3⟩
      · show va_RA s cA (pm_ty (4 + a))
        rw [Nat.add_comm]
        exact ⟨kA, comp, n2, n3, n4, n1⟩
      · rw [← hre.1, arrV_new]
        show _ = some (arrV cA (List.replicate n.toNatClampNeg Value.null).length _)
        rw [List.length_replicate]
        simp only [Array.getElem?_push_size]
        exact congrArg some (pt_arrV fun j hj => (pt_rep _ .null rfl j hj).symm)
    · rw [if_neg hc] at h1; cases h1
  · cases h1
end PT
