/-! the machine's instructions over the heap as numbers -/
theorem rv0 (x : Int) : rv 0 x = .int (Int32.ofInt x) := rfl
theorem rv1 (x : Int) : rv 1 x = .long (Int64.ofInt x) := rfl
theorem rv2 (x : Int) : rv 2 x = .int (Int32.ofInt x) := rfl
theorem rv3 (x : Int) : rv 3 x = .int (Int32.ofInt x) := rfl
theorem rv4 {t : Nat} (h : 4 ≤ t) (x : Int) : rv t x = vR x := by
  unfold rv
  rw [if_neg (by omega), if_pos h]
theorem vR_n {x : Int} (h : x < 0) : vR x = .null := if_pos h
theorem vR_r {x : Int} (h : ¬ x < 0) : vR x = .ref x.toNat := if_neg h
def nz (x : Int) : Int := (Int32.ofInt x &&& 1).toInt
section WX
variable {d k pc : Nat} {lv : pm_L} {rest : List Value} {w w0 : pm_H} {ln a b ci o z kf n t r : Nat} {zz : Int} {P : Option Value → pm_H → Prop} {sh : Shp} {x : Nat} {s s1 : Hp} {fd : List (Nat × Nat)} {j v : Int} {i : Nat}
theorem wx_gi (hI : pm_I k pc = some (.getfield kf, ln, ci, b, zz)) (h : Rw sh w0 s w) (hq : sh x = some (r, 0, ci, fd)) (hb : fd[b]? = some (0, 0)) (kk : wp d k (pc + 3) lv (.int (Int32.ofInt (s x b)) :: rest) w P) : wp d k pc lv (.ref x :: rest) w P :=
  wp_get hI (h.1 _ _ hq) (by rw [fv_i x (s x) fd 0 b 0 hb, Nat.zero_add]) kk
theorem wx_gl (hI : pm_I k pc = some (.getfield kf, ln, ci, b, zz)) (h : Rw sh w0 s w) (hq : sh x = some (r, 0, ci, fd)) (hb : fd[b]? = some (1, 0)) (kk : wp d k (pc + 3) lv (.long (Int64.ofInt (s x b)) :: rest) w P) : wp d k pc lv (.ref x :: rest) w P :=
  wp_get hI (h.1 _ _ hq) (by rw [fv_l x (s x) fd 0 b 0 hb, Nat.zero_add]) kk
theorem wx_gr (hI : pm_I k pc = some (.getfield kf, ln, ci, b, zz)) (h : Rw sh w0 s w) (hq : sh x = some (r, 0, ci, fd)) (hb : fd[b]? = some (2, o)) (kk : wp d k (pc + 3) lv (.ref (x + o) :: rest) w P) : wp d k pc lv (.ref x :: rest) w P :=
  wp_get hI (h.1 _ _ hq) (fv_r x (s x) fd 0 b o hb) kk
theorem wx_pi (hI : pm_I k pc = some (.putfield kf, ln, ci, b, zz)) (h : Rw sh w0 s w) (hq : sh x = some (r, 0, ci, fd)) (hb : fd[b]? = some (0, 0)) (hf : pm_ft ci b = .int) (e : some (uh s x b v) = some s1) (K : ∀ w1, Rw sh w0 s1 w1 → wp d k (pc + 3) lv rest w1 P) : wp d k pc lv (.int (Int32.ofInt v) :: .ref x :: rest) w P := by
  cases e
  have h0 : w[x]? = some (0, ci, fv x (s x) 0 fd) := h.1 _ _ hq
  refine wp_put hI h0 (by rw [fv_len]; exact (List.getElem?_eq_some_iff.mp hb).1) (by rw [hf]; rfl) ?_
  rw [fv_si x (s x) v fd 0 b 0 hb, Nat.zero_add, ← uh_self]
  exact K _ (Rw_set (s1 := uh s x b v) h hq (fun p hp => uh_row hp))
theorem wx_pl (hI : pm_I k pc = some (.putfield kf, ln, ci, b, zz)) (h : Rw sh w0 s w) (hq : sh x = some (r, 0, ci, fd)) (hb : fd[b]? = some (1, 0)) (hf : pm_ft ci b = .long) (e : some (uh s x b v) = some s1) (K : ∀ w1, Rw sh w0 s1 w1 → wp d k (pc + 3) lv rest w1 P) : wp d k pc lv (.long (Int64.ofInt v) :: .ref x :: rest) w P := by
  cases e
  have h0 : w[x]? = some (0, ci, fv x (s x) 0 fd) := h.1 _ _ hq
  refine wp_put hI h0 (by rw [fv_len]; exact (List.getElem?_eq_some_iff.mp hb).1) (by rw [hf]; rfl) ?_
  rw [fv_sl x (s x) v fd 0 b 0 hb, Nat.zero_add, ← uh_self]
  exact K _ (Rw_set (s1 := uh s x b v) h hq (fun p hp => uh_row hp))
theorem wx_ra (hI : pm_I k pc = some (.iaload, ln, a, b, zz)) (h : Rw sh w0 s w) (hq : sh x = some (r, 1, 0, [(n, 0)])) (e : ix n j = some i) (kk : wp d k (pc + 1) lv (.int (Int32.ofInt (s x i)) :: rest) w P) : wp d k pc lv (.int (Int32.ofInt j) :: .ref x :: rest) w P := by
  obtain ⟨h1, h2, h3⟩ := ix_of e
  exact wp_ild hI (h.1 _ _ hq) h1 (by rw [h2]; exact ro_get h3) kk
theorem wx_rb (hI : pm_I k pc = some (.baload, ln, a, b, zz)) (h : Rw sh w0 s w) (hq : sh x = some (r, 1, 2, [(n, 0)])) (e : ix n j = some i) (kk : wp d k (pc + 1) lv (.int (Int32.ofInt (s x i)) :: rest) w P) : wp d k pc lv (.int (Int32.ofInt j) :: .ref x :: rest) w P := by
  obtain ⟨h1, h2, h3⟩ := ix_of e
  exact wp_bld hI (h.1 _ _ hq) h1 (by rw [h2]; exact ro_get h3) kk
theorem wx_rz (hI : pm_I k pc = some (.baload, ln, a, b, zz)) (h : Rw sh w0 s w) (hq : sh x = some (r, 1, 3, [(n, 0)])) (e : ix n j = some i) (kk : wp d k (pc + 1) lv (.int (Int32.ofInt (s x i)) :: rest) w P) : wp d k pc lv (.int (Int32.ofInt j) :: .ref x :: rest) w P := by
  obtain ⟨h1, h2, h3⟩ := ix_of e
  exact wp_zld hI (h.1 _ _ hq) h1 (by rw [h2]; exact ro_get h3) kk
theorem wx_rl (hI : pm_I k pc = some (.laload, ln, a, b, zz)) (h : Rw sh w0 s w) (hq : sh x = some (r, 1, 1, [(n, 0)])) (e : ix n j = some i) (kk : wp d k (pc + 1) lv (.long (Int64.ofInt (s x i)) :: rest) w P) : wp d k pc lv (.int (Int32.ofInt j) :: .ref x :: rest) w P := by
  obtain ⟨h1, h2, h3⟩ := ix_of e
  exact wp_lld hI (h.1 _ _ hq) h1 (by rw [h2]; exact ro_get h3) kk
theorem wx_rr (hI : pm_I k pc = some (.aaload, ln, a, b, zz)) (h : Rw sh w0 s w) (hq : sh x = some (r, 1, t, [(n, 0)])) (ht : 4 ≤ t) (e : ix n j = some i) (kk : wp d k (pc + 1) lv (vR (s x i) :: rest) w P) : wp d k pc lv (.int (Int32.ofInt j) :: .ref x :: rest) w P := by
  obtain ⟨h1, h2, h3⟩ := ix_of e
  exact wp_ald hI (h.1 _ _ hq) ht h1 (by rw [h2]; show (ro t n (s x))[i]? = _; rw [ro_get h3, rv4 ht]) kk
theorem wx_wa (hI : pm_I k pc = some (.iastore, ln, a, b, zz)) (h : Rw sh w0 s w) (hq : sh x = some (r, 1, 0, [(n, 0)])) (e : ix n j = some i) (es : some (uh s x i v) = some s1) (K : ∀ w1, Rw sh w0 s1 w1 → wp d k (pc + 1) lv rest w1 P) : wp d k pc lv (.int (Int32.ofInt v) :: .int (Int32.ofInt j) :: .ref x :: rest) w P := by
  cases es
  obtain ⟨h1, h2, h3⟩ := ix_of e
  have h0 : w[x]? = some (1, 0, ro 0 n (s x)) := h.1 _ _ hq
  refine wp_ist hI h0 h1 (by rw [h2, ro_len]; exact h3) ?_
  rw [h2, ← rv0, ro_set, ← uh_self]
  exact K _ (Rw_set (s1 := uh s x i v) h hq (fun p hp => uh_row hp))
theorem wx_wb (hI : pm_I k pc = some (.bastore, ln, a, b, zz)) (h : Rw sh w0 s w) (hq : sh x = some (r, 1, 2, [(n, 0)])) (e : ix n j = some i) (es : some (uh s x i (w8 v)) = some s1) (K : ∀ w1, Rw sh w0 s1 w1 → wp d k (pc + 1) lv rest w1 P) : wp d k pc lv (.int (Int32.ofInt v) :: .int (Int32.ofInt j) :: .ref x :: rest) w P := by
  cases es
  obtain ⟨h1, h2, h3⟩ := ix_of e
  have h0 : w[x]? = some (1, 2, ro 2 n (s x)) := h.1 _ _ hq
  refine wp_bst hI h0 h1 (by rw [h2, ro_len]; exact h3) ?_
  rw [h2, ← p_w8, ← rv2, ro_set, ← uh_self]
  exact K _ (Rw_set (s1 := uh s x i (w8 v)) h hq (fun p hp => uh_row hp))
theorem wx_wz (hI : pm_I k pc = some (.bastore, ln, a, b, zz)) (h : Rw sh w0 s w) (hq : sh x = some (r, 1, 3, [(n, 0)])) (e : ix n j = some i) (es : some (uh s x i (nz v)) = some s1) (K : ∀ w1, Rw sh w0 s1 w1 → wp d k (pc + 1) lv rest w1 P) : wp d k pc lv (.int (Int32.ofInt v) :: .int (Int32.ofInt j) :: .ref x :: rest) w P := by
  cases es
  obtain ⟨h1, h2, h3⟩ := ix_of e
  have h0 : w[x]? = some (1, 3, ro 3 n (s x)) := h.1 _ _ hq
  have h4 : wp d k (pc + 1) lv rest (w.set x (1, 3, (ro 3 n (s x)).set (Int32.ofInt j).toNatClampNeg (.int (Int32.ofInt v &&& 1)))) P := by
    rw [h2, show Value.int (Int32.ofInt v &&& 1) = rv 3 (nz v) by rw [rv3, nz, Int32.ofInt_toInt], ro_set, ← uh_self]
    exact K _ (Rw_set (s1 := uh s x i (nz v)) h hq (fun p hp => uh_row hp))
  refine wp_of (fun _ _ h5 => ev_st hI rfl rfl ?_ h5) h4
  show (match w[x]? with
      | some (1, 2, _) => (pm_wr w x 2 (Int32.ofInt j) (narrow .byte (.int (Int32.ofInt v)))).map fun w' => (pc + 1, lv, rest, w')
      | _ => (pm_wr w x 3 (Int32.ofInt j) (narrow .boolean (.int (Int32.ofInt v)))).map fun w' => (pc + 1, lv, rest, w')) = _
  rw [ev_wr h0 h1 (by rw [h2, ro_len]; exact h3), h0]
  rfl
theorem wx_wl (hI : pm_I k pc = some (.lastore, ln, a, b, zz)) (h : Rw sh w0 s w) (hq : sh x = some (r, 1, 1, [(n, 0)])) (e : ix n j = some i) (es : some (uh s x i v) = some s1) (K : ∀ w1, Rw sh w0 s1 w1 → wp d k (pc + 1) lv rest w1 P) : wp d k pc lv (.long (Int64.ofInt v) :: .int (Int32.ofInt j) :: .ref x :: rest) w P := by
  cases es
  obtain ⟨h1, h2, h3⟩ := ix_of e
  have h0 : w[x]? = some (1, 1, ro 1 n (s x)) := h.1 _ _ hq
  refine wp_lst hI h0 h1 (by rw [h2, ro_len]; exact h3) ?_
  rw [h2, ← rv1, ro_set, ← uh_self]
  exact K _ (Rw_set (s1 := uh s x i v) h hq (fun p hp => uh_row hp))
theorem wx_ln (hI : pm_I k pc = some (.arraylength, ln, a, b, zz)) (h : Rw sh w0 s w) (hq : sh x = some (r, 1, t, [(n, 0)])) (kk : wp d k (pc + 1) lv (.int (Int32.ofInt (n : Int)) :: rest) w P) : wp d k pc lv (.ref x :: rest) w P := by
  refine wp_len hI (h.1 _ _ hq) ?_
  rw [show (ro t ((([(n, 0)] : List (Nat × Nat)).headD (0, 0)).1) (s x)).length = n from ro_len _ _ _, ← Int32.ofInt_eq_ofNat]
  exact kk
/-! branches -/
variable {oo x1 y1 : Int}
theorem wx_eq (hI : pm_I k pc = some (.if_icmp .eq oo, ln, a, b, zz)) (kt : w32 x1 = w32 y1 → wp d k a lv rest w P) (kf : ¬ w32 x1 = w32 y1 → wp d k (pc + 3) lv rest w P) : wp d k pc lv (.int (Int32.ofInt y1) :: .int (Int32.ofInt x1) :: rest) w P := wp_icm hI (fun h => kt ((w_eq _ _).mp (of_decide_eq_true h))) (fun h => kf (fun q => of_decide_eq_false h ((w_eq _ _).mpr q)))
theorem wx_ne (hI : pm_I k pc = some (.if_icmp .ne oo, ln, a, b, zz)) (kt : ¬ w32 x1 = w32 y1 → wp d k a lv rest w P) (kf : w32 x1 = w32 y1 → wp d k (pc + 3) lv rest w P) : wp d k pc lv (.int (Int32.ofInt y1) :: .int (Int32.ofInt x1) :: rest) w P := wp_icm hI (fun h => kt (fun q => of_decide_eq_true h ((w_eq _ _).mpr q))) (fun h => kf ((w_eq _ _).mp (Classical.not_not.mp (of_decide_eq_false h))))
theorem wx_lt (hI : pm_I k pc = some (.if_icmp .lt oo, ln, a, b, zz)) (kt : w32 x1 < w32 y1 → wp d k a lv rest w P) (kf : ¬ w32 x1 < w32 y1 → wp d k (pc + 3) lv rest w P) : wp d k pc lv (.int (Int32.ofInt y1) :: .int (Int32.ofInt x1) :: rest) w P := wp_icm hI (fun h => kt ((w_lt _ _).mp (of_decide_eq_true h))) (fun h => kf (fun q => of_decide_eq_false h ((w_lt _ _).mpr q)))
theorem wx_ge (hI : pm_I k pc = some (.if_icmp .ge oo, ln, a, b, zz)) (kt : ¬ w32 x1 < w32 y1 → wp d k a lv rest w P) (kf : w32 x1 < w32 y1 → wp d k (pc + 3) lv rest w P) : wp d k pc lv (.int (Int32.ofInt y1) :: .int (Int32.ofInt x1) :: rest) w P := wp_icm hI (fun h => kt ((w_le _ _).mp (of_decide_eq_true h))) (fun h => kf (Classical.not_not.mp (fun q => of_decide_eq_false h ((w_le _ _).mpr q))))
theorem wx_gt (hI : pm_I k pc = some (.if_icmp .gt oo, ln, a, b, zz)) (kt : w32 y1 < w32 x1 → wp d k a lv rest w P) (kf : ¬ w32 y1 < w32 x1 → wp d k (pc + 3) lv rest w P) : wp d k pc lv (.int (Int32.ofInt y1) :: .int (Int32.ofInt x1) :: rest) w P := wp_icm hI (fun h => kt ((w_lt _ _).mp (of_decide_eq_true h))) (fun h => kf (fun q => of_decide_eq_false h ((w_lt _ _).mpr q)))
theorem wx_le (hI : pm_I k pc = some (.if_icmp .le oo, ln, a, b, zz)) (kt : ¬ w32 y1 < w32 x1 → wp d k a lv rest w P) (kf : w32 y1 < w32 x1 → wp d k (pc + 3) lv rest w P) : wp d k pc lv (.int (Int32.ofInt y1) :: .int (Int32.ofInt x1) :: rest) w P := wp_icm hI (fun h => kt ((w_le _ _).mp (of_decide_eq_true h))) (fun h => kf (Classical.not_not.mp (fun q => of_decide_eq_false h ((w_le _ _).mpr q))))
theorem z_eq (x : Int) : Int32.ofInt x = 0 ↔ w32 x = 0 := by
  rw [← Int32.toInt_inj]
  exact Iff.rfl
theorem z_lt (x : Int) : Int32.ofInt x < 0 ↔ w32 x < 0 := Int32.lt_iff_toInt_lt
theorem z_gt (x : Int) : 0 < Int32.ofInt x ↔ 0 < w32 x := Int32.lt_iff_toInt_lt
theorem z_le (x : Int) : Int32.ofInt x ≤ 0 ↔ ¬ 0 < w32 x := by rw [← Int32.not_lt, z_gt]
theorem z_ge (x : Int) : 0 ≤ Int32.ofInt x ↔ ¬ w32 x < 0 := by rw [← Int32.not_lt, z_lt]
theorem wz_eq (hI : pm_I k pc = some (.ifCond .eq oo, ln, a, b, zz)) (kt : w32 x1 = 0 → wp d k a lv rest w P) (kf : ¬ w32 x1 = 0 → wp d k (pc + 3) lv rest w P) : wp d k pc lv (.int (Int32.ofInt x1) :: rest) w P := wp_ifc hI (fun h => kt ((z_eq _).mp (of_decide_eq_true h))) (fun h => kf (fun q => of_decide_eq_false h ((z_eq _).mpr q)))
theorem wz_ne (hI : pm_I k pc = some (.ifCond .ne oo, ln, a, b, zz)) (kt : ¬ w32 x1 = 0 → wp d k a lv rest w P) (kf : w32 x1 = 0 → wp d k (pc + 3) lv rest w P) : wp d k pc lv (.int (Int32.ofInt x1) :: rest) w P := wp_ifc hI (fun h => kt (fun q => of_decide_eq_true h ((z_eq _).mpr q))) (fun h => kf ((z_eq _).mp (Classical.not_not.mp (of_decide_eq_false h))))
theorem wz_lt (hI : pm_I k pc = some (.ifCond .lt oo, ln, a, b, zz)) (kt : w32 x1 < 0 → wp d k a lv rest w P) (kf : ¬ w32 x1 < 0 → wp d k (pc + 3) lv rest w P) : wp d k pc lv (.int (Int32.ofInt x1) :: rest) w P := wp_ifc hI (fun h => kt ((z_lt _).mp (of_decide_eq_true h))) (fun h => kf (fun q => of_decide_eq_false h ((z_lt _).mpr q)))
theorem wz_ge (hI : pm_I k pc = some (.ifCond .ge oo, ln, a, b, zz)) (kt : ¬ w32 x1 < 0 → wp d k a lv rest w P) (kf : w32 x1 < 0 → wp d k (pc + 3) lv rest w P) : wp d k pc lv (.int (Int32.ofInt x1) :: rest) w P := wp_ifc hI (fun h => kt ((z_ge _).mp (of_decide_eq_true h))) (fun h => kf (Classical.not_not.mp (fun q => of_decide_eq_false h ((z_ge _).mpr q))))
theorem wz_gt (hI : pm_I k pc = some (.ifCond .gt oo, ln, a, b, zz)) (kt : 0 < w32 x1 → wp d k a lv rest w P) (kf : ¬ 0 < w32 x1 → wp d k (pc + 3) lv rest w P) : wp d k pc lv (.int (Int32.ofInt x1) :: rest) w P := wp_ifc hI (fun h => kt ((z_gt _).mp (of_decide_eq_true h))) (fun h => kf (fun q => of_decide_eq_false h ((z_gt _).mpr q)))
theorem wz_le (hI : pm_I k pc = some (.ifCond .le oo, ln, a, b, zz)) (kt : ¬ 0 < w32 x1 → wp d k a lv rest w P) (kf : 0 < w32 x1 → wp d k (pc + 3) lv rest w P) : wp d k pc lv (.int (Int32.ofInt x1) :: rest) w P := wp_ifc hI (fun h => kt ((z_le _).mp (of_decide_eq_true h))) (fun h => kf (Classical.not_not.mp (fun q => of_decide_eq_false h ((z_le _).mpr q))))
theorem lg_z (x2 y2 : Int) : (lg_cmp (Int64.ofInt x2) (Int64.ofInt y2) < 0 ↔ w64 x2 < w64 y2) ∧ (0 < lg_cmp (Int64.ofInt x2) (Int64.ofInt y2) ↔ w64 y2 < w64 x2) ∧ (lg_cmp (Int64.ofInt x2) (Int64.ofInt y2) = 0 ↔ w64 x2 = w64 y2) := by
  have h0 : (0 : Int32).toInt = 0 := by decide
  rw [Int32.lt_iff_toInt_lt, Int32.lt_iff_toInt_lt, ← Int32.toInt_inj, h0]
  unfold w64
  rcases lgc (Int64.ofInt x2) (Int64.ofInt y2) with h | h | h <;> refine ⟨?_, ?_, ?_⟩ <;> omega
theorem wl_eq (hI : pm_I k pc = some (.ifCond .eq oo, ln, a, b, zz)) (kt : w64 x1 = w64 y1 → wp d k a lv rest w P) (kf : ¬ w64 x1 = w64 y1 → wp d k (pc + 3) lv rest w P) : wp d k pc lv (.int (lg_cmp (Int64.ofInt x1) (Int64.ofInt y1)) :: rest) w P := wp_ifc hI (fun h => kt ((lg_z _ _).2.2.mp (of_decide_eq_true h))) (fun h => kf (fun q => of_decide_eq_false h ((lg_z _ _).2.2.mpr q)))
theorem wl_ne (hI : pm_I k pc = some (.ifCond .ne oo, ln, a, b, zz)) (kt : ¬ w64 x1 = w64 y1 → wp d k a lv rest w P) (kf : w64 x1 = w64 y1 → wp d k (pc + 3) lv rest w P) : wp d k pc lv (.int (lg_cmp (Int64.ofInt x1) (Int64.ofInt y1)) :: rest) w P := wp_ifc hI (fun h => kt (fun q => of_decide_eq_true h ((lg_z _ _).2.2.mpr q))) (fun h => kf ((lg_z _ _).2.2.mp (Classical.not_not.mp (of_decide_eq_false h))))
theorem wl_lt (hI : pm_I k pc = some (.ifCond .lt oo, ln, a, b, zz)) (kt : w64 x1 < w64 y1 → wp d k a lv rest w P) (kf : ¬ w64 x1 < w64 y1 → wp d k (pc + 3) lv rest w P) : wp d k pc lv (.int (lg_cmp (Int64.ofInt x1) (Int64.ofInt y1)) :: rest) w P := wp_ifc hI (fun h => kt ((lg_z _ _).1.mp (of_decide_eq_true h))) (fun h => kf (fun q => of_decide_eq_false h ((lg_z _ _).1.mpr q)))
theorem wl_ge (hI : pm_I k pc = some (.ifCond .ge oo, ln, a, b, zz)) (kt : ¬ w64 x1 < w64 y1 → wp d k a lv rest w P) (kf : w64 x1 < w64 y1 → wp d k (pc + 3) lv rest w P) : wp d k pc lv (.int (lg_cmp (Int64.ofInt x1) (Int64.ofInt y1)) :: rest) w P := wp_ifc hI (fun h => kt (fun q => Int32.not_lt.mpr (of_decide_eq_true h) ((lg_z _ _).1.mpr q))) (fun h => kf ((lg_z _ _).1.mp (Int32.not_le.mp (of_decide_eq_false h))))
theorem wl_gt (hI : pm_I k pc = some (.ifCond .gt oo, ln, a, b, zz)) (kt : w64 y1 < w64 x1 → wp d k a lv rest w P) (kf : ¬ w64 y1 < w64 x1 → wp d k (pc + 3) lv rest w P) : wp d k pc lv (.int (lg_cmp (Int64.ofInt x1) (Int64.ofInt y1)) :: rest) w P := wp_ifc hI (fun h => kt ((lg_z _ _).2.1.mp (of_decide_eq_true h))) (fun h => kf (fun q => of_decide_eq_false h ((lg_z _ _).2.1.mpr q)))
theorem wl_le (hI : pm_I k pc = some (.ifCond .le oo, ln, a, b, zz)) (kt : ¬ w64 y1 < w64 x1 → wp d k a lv rest w P) (kf : w64 y1 < w64 x1 → wp d k (pc + 3) lv rest w P) : wp d k pc lv (.int (lg_cmp (Int64.ofInt x1) (Int64.ofInt y1)) :: rest) w P := wp_ifc hI (fun h => kt (fun q => Int32.not_lt.mpr (of_decide_eq_true h) ((lg_z _ _).2.1.mpr q))) (fun h => kf ((lg_z _ _).2.1.mp (Int32.not_le.mp (of_decide_eq_false h))))
theorem wx_nn (hI : pm_I k pc = some (.ifnonnull oo, ln, a, b, zz)) (kt : ¬ x1 < 0 → wp d k a lv rest w P) (kf : x1 < 0 → wp d k (pc + 3) lv rest w P) : wp d k pc lv (vR x1 :: rest) w P := by
  by_cases h : x1 < 0
  · rw [vR_n h]
    exact wp_of (fun _ _ h3 => ev_st hI rfl rfl rfl h3) (kf h)
  · rw [vR_r h]
    exact wp_of (fun _ _ h3 => ev_st hI rfl rfl rfl h3) (kt h)
theorem wx_nu (hI : pm_I k pc = some (.ifnull oo, ln, a, b, zz)) (kt : x1 < 0 → wp d k a lv rest w P) (kf : ¬ x1 < 0 → wp d k (pc + 3) lv rest w P) : wp d k pc lv (vR x1 :: rest) w P := by
  by_cases h : x1 < 0
  · rw [vR_n h]
    exact wp_of (fun _ _ h3 => ev_st hI rfl rfl rfl h3) (kt h)
  · rw [vR_r h]
    exact wp_of (fun _ _ h3 => ev_st hI rfl rfl rfl h3) (kf h)
/-! divisions -/
theorem wx_dv (hI : pm_I k pc = some (.idiv, ln, a, b, zz)) (h : ¬ w32 y1 = 0) (kk : wp d k (pc + 1) lv (.int (Int32.ofInt (iDiv x1 y1)) :: rest) w P) : wp d k pc lv (.int (Int32.ofInt y1) :: .int (Int32.ofInt x1) :: rest) w P := by
  rw [p_div] at kk
  exact wp_of (fun _ _ h3 => ev_st hI rfl rfl (by show (if Int32.ofInt y1 = 0 then none else some _) = _; rw [if_neg (fun q => h ((z_eq _).mp q))]) h3) kk
theorem wx_rm (hI : pm_I k pc = some (.irem, ln, a, b, zz)) (h : ¬ w32 y1 = 0) (kk : wp d k (pc + 1) lv (.int (Int32.ofInt (iRem x1 y1)) :: rest) w P) : wp d k pc lv (.int (Int32.ofInt y1) :: .int (Int32.ofInt x1) :: rest) w P := by
  rw [p_rem] at kk
  exact wp_of (fun _ _ h3 => ev_st hI rfl rfl (by show (if Int32.ofInt y1 = 0 then none else some _) = _; rw [if_neg (fun q => h ((z_eq _).mp q))]) h3) kk
theorem y_eq (x : Int) : Int64.ofInt x = 0 ↔ w64 x = 0 := by
  rw [← Int64.toInt_inj]
  exact Iff.rfl
theorem wx_ld (hI : pm_I k pc = some (.ldiv, ln, a, b, zz)) (h : ¬ w64 y1 = 0) (kk : wp d k (pc + 1) lv (.long (Int64.ofInt (lDiv x1 y1)) :: rest) w P) : wp d k pc lv (.long (Int64.ofInt y1) :: .long (Int64.ofInt x1) :: rest) w P := by
  rw [q_div] at kk
  exact wp_of (fun _ _ h3 => ev_st hI rfl rfl (by show (if Int64.ofInt y1 = 0 then none else some _) = _; rw [if_neg (fun q => h ((y_eq _).mp q))]) h3) kk
theorem wx_lr (hI : pm_I k pc = some (.lrem, ln, a, b, zz)) (h : ¬ w64 y1 = 0) (kk : wp d k (pc + 1) lv (.long (Int64.ofInt (lRem x1 y1)) :: rest) w P) : wp d k pc lv (.long (Int64.ofInt y1) :: .long (Int64.ofInt x1) :: rest) w P := by
  rw [q_rem] at kk
  exact wp_of (fun _ _ h3 => ev_st hI rfl rfl (by show (if Int64.ofInt y1 = 0 then none else some _) = _; rw [if_neg (fun q => h ((y_eq _).mp q))]) h3) kk
/-! a switch -/
theorem wx_sw {dflt lo hi q : Int} {offs : Array Int} {tgt : Nat} (hI : pm_I k pc = some (.tableswitch dflt lo hi offs, ln, a, b, zz)) (e : w32 x1 = j) (hlo : lo ≤ j) (hhi : j ≤ hi) (ho : offs[(j - lo).toNat]? = some q) (ht : (pc : Int) + q = (tgt : Int)) (kk : wp d k tgt lv rest w P) : wp d k pc lv (.int (Int32.ofInt x1) :: rest) w P := by
  have e1 : (Int32.ofInt x1).toInt = j := e
  refine wp_of (fun _ _ h3 => ev_st hI rfl rfl ?_ h3) kk
  show (if (Int32.ofInt x1).toInt < lo ∨ hi < (Int32.ofInt x1).toInt then (if 0 ≤ (pc : Int) + dflt then some (((pc : Int) + dflt).toNat, lv, rest, w) else none)
      else match offs[((Int32.ofInt x1).toInt - lo).toNat]? with
        | some o => if 0 ≤ (pc : Int) + o then some (((pc : Int) + o).toNat, lv, rest, w) else none
        | none => none) = _
  rw [e1, if_neg (by omega), ho]
  show (if 0 ≤ (pc : Int) + q then some (((pc : Int) + q).toNat, lv, rest, w) else none) = _
  rw [ht, if_pos (Int.natCast_nonneg tgt)]
  rfl
theorem wx_sd {dflt lo hi : Int} {offs : Array Int} {tgt : Nat} (hI : pm_I k pc = some (.tableswitch dflt lo hi offs, ln, a, b, zz)) (h : w32 x1 < lo ∨ hi < w32 x1) (ht : (pc : Int) + dflt = (tgt : Int)) (kk : wp d k tgt lv rest w P) : wp d k pc lv (.int (Int32.ofInt x1) :: rest) w P := wp_swd hI h ht kk
end WX
theorem wx_sl {d k pc : Nat} {lv : pm_L} {rest : List Value} {w : pm_H} {ln b kf n : Nat} {zz v : Int} {P : Option Value → pm_H → Prop} (hI : pm_I k pc = some (.invokevirtual kf, ln, 1006, b, zz)) (e : sln n = some v) (hc : pm_cs rest ≤ 7) (hd : 5 ≤ d) (kk : wp (d + 1) k (pc + 3) lv (.int (Int32.ofInt v) :: rest) w P) : wp (d + 1) k pc lv (.retAddr n :: rest) w P := by
  unfold sln at e
  split at e
  · rename_i h
    cases e
    refine wp_lb (st1 := .int (nI (pm_Sl.getD n 0)) :: rest) (w1 := w) hI rfl rfl (by decide) (by show (if n < 7 then some _ else none) = _; rw [if_pos h]) ?_ hd ?_
    · show 1 + pm_cs rest ≤ 8
      omega
    · rw [Int32.ofInt_eq_ofNat] at kk
      exact kk
  · cases e
theorem wx_sc {d k pc : Nat} {lv : pm_L} {rest : List Value} {w : pm_H} {ln b kf n : Nat} {zz v j : Int} {P : Option Value → pm_H → Prop} (hI : pm_I k pc = some (.invokevirtual kf, ln, 1007, b, zz)) (e : sch n j = some v) (hc : pm_cs rest ≤ 7) (hd : 5 ≤ d) (kk : wp (d + 1) k (pc + 3) lv (.int (Int32.ofInt v) :: rest) w P) : wp (d + 1) k pc lv (.int (Int32.ofInt j) :: .retAddr n :: rest) w P := by
  unfold sch at e
  split at e
  · rename_i h
    cases e
    have h1 : (Int32.ofInt j).toNatClampNeg = (w32 j).toNat := rfl
    refine wp_lb (st1 := .int (pm_ch n (w32 j).toNat) :: rest) (w1 := w) hI rfl rfl (by decide) (by show (if n < 7 ∧ ¬ Int32.ofInt j < 0 ∧ (Int32.ofInt j).toNatClampNeg < pm_Sl.getD n 0 then some _ else none) = _; rw [if_pos ⟨h.1, fun q => by have := (z_lt _).mp q; omega, by rw [h1]; omega⟩, h1]) ?_ hd ?_
    · show 1 + pm_cs rest ≤ 8
      omega
    · rw [Int32.ofInt_toInt] at kk
      exact kk
  · cases e
theorem pm_cpy_ro {t n m : Nat} {f g : Nat → Int} (h : m ≤ n) {n1 : Nat} (h1 : m ≤ n1) : pm_cpy (ro t n1 f) (ro t n g) 0 0 m = ro t n (fun q => if q < m then f q else g q) := by
  unfold pm_cpy
  apply List.ext_getElem?
  intro j
  rw [List.take_zero, List.nil_append, List.drop_zero, Nat.zero_add]
  by_cases hj : j < m
  · rw [List.getElem?_append_left (by rw [List.length_take, ro_len]; omega), List.getElem?_take_of_lt hj, ro_get (by omega), ro_get (by omega), if_pos hj]
  · rw [List.getElem?_append_right (by rw [List.length_take, ro_len]; omega), List.length_take, ro_len, Nat.min_eq_left h1, List.getElem?_drop, show m + (j - m) = j by omega]
    by_cases hj2 : j < n
    · rw [ro_get hj2, ro_get hj2, if_neg hj]
    · rw [List.getElem?_eq_none (by rw [ro_len]; omega), List.getElem?_eq_none (by rw [ro_len]; omega)]
theorem uc_self (s : Hp) (a b n : Nat) : uc s a b n b = fun q => if q < n then s a q else s b q := by
  funext q
  by_cases h : q < n
  · exact (if_pos ⟨rfl, h⟩).trans (if_pos h).symm
  · exact (if_neg (fun e => h e.2)).trans (if_neg h).symm
/-- System.arraycopy from 0 to 0 -/
theorem wx_cp {d k pc : Nat} {lv : pm_L} {rest : List Value} {w w0 : pm_H} {ln b kf n n1 r r1 x y : Nat} {m : Int} {zz : Int} {P : Option Value → pm_H → Prop} {sh : Shp} {s s1 : Hp} (hI : pm_I k pc = some (.invokestatic kf, ln, 1005, b, zz)) (h : Rw sh w0 s w) (hx : sh x = some (r, 1, 0, [(n, 0)])) (hy : sh y = some (r1, 1, 0, [(n1, 0)])) (hxy : ¬ x = y) (h0 : 0 ≤ w32 m) (h1 : w32 m ≤ n) (h2 : w32 m ≤ n1) (es : some (uc s x y (w32 m).toNat) = some s1) (hc : pm_cs rest ≤ 8) (hd : 5 ≤ d) (K : ∀ w1, Rw sh w0 s1 w1 → wp (d + 1) k (pc + 3) lv rest w1 P) : wp (d + 1) k pc lv (.int (Int32.ofInt m) :: .int (Int32.ofInt 0) :: .ref y :: .int (Int32.ofInt 0) :: .ref x :: rest) w P := by
  cases es
  have g1 : w[x]? = some (1, 0, ro 0 n (s x)) := h.1 _ _ hx
  have g2 : w[y]? = some (1, 0, ro 0 n1 (s y)) := h.1 _ _ hy
  have e1 : (Int32.ofInt m).toNatClampNeg = (w32 m).toNat := rfl
  have e0 : (Int32.ofInt 0).toNatClampNeg = 0 := rfl
  have hm : ¬ Int32.ofInt m < 0 := fun q => by have := (z_lt _).mp q; omega
  have hz : ¬ Int32.ofInt 0 < 0 := by decide
  refine wp_lb (st1 := rest) (w1 := w.set y (1, 0, pm_cpy (ro 0 n (s x)) (ro 0 n1 (s y)) 0 0 (w32 m).toNat)) hI rfl rfl (by decide) ?_ hc hd ?_
  · show (match w[x]?, w[y]? with
      | some (1, 0, vs), some (1, 0, us) => if x ≠ y ∧ ¬ Int32.ofInt 0 < 0 ∧ ¬ Int32.ofInt 0 < 0 ∧ ¬ Int32.ofInt m < 0 ∧ (Int32.ofInt 0).toNatClampNeg + (Int32.ofInt m).toNatClampNeg ≤ vs.length ∧ (Int32.ofInt 0).toNatClampNeg + (Int32.ofInt m).toNatClampNeg ≤ us.length then some (rest, w.set y (1, 0, pm_cpy vs us (Int32.ofInt 0).toNatClampNeg (Int32.ofInt 0).toNatClampNeg (Int32.ofInt m).toNatClampNeg)) else none
      | _, _ => none) = _
    rw [g1, g2]
    show (if x ≠ y ∧ ¬ Int32.ofInt 0 < 0 ∧ ¬ Int32.ofInt 0 < 0 ∧ ¬ Int32.ofInt m < 0 ∧ (Int32.ofInt 0).toNatClampNeg + (Int32.ofInt m).toNatClampNeg ≤ (ro 0 n (s x)).length ∧ (Int32.ofInt 0).toNatClampNeg + (Int32.ofInt m).toNatClampNeg ≤ (ro 0 n1 (s y)).length then some (rest, w.set y (1, 0, pm_cpy (ro 0 n (s x)) (ro 0 n1 (s y)) (Int32.ofInt 0).toNatClampNeg (Int32.ofInt 0).toNatClampNeg (Int32.ofInt m).toNatClampNeg)) else none) = _
    rw [e0, e1, ro_len, ro_len, if_pos ⟨hxy, hz, hz, hm, by omega, by omega⟩]
  · rw [pm_cpy_ro (by omega) (by omega), ← uc_self]
    exact K _ (Rw_set (s1 := uc s x y (w32 m).toNat) h hy (fun p hp => uc_row hp))
