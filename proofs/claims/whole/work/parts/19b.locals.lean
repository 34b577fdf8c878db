/-! locals that are forgotten -/
def nd (lv : pm_L) : Prop := (lv.map Prod.fst).Nodup
def lsub (lv1 lv : pm_L) : Prop := nd lv1 ∧ nd lv ∧ ∀ q ∈ lv1, q ∈ lv
theorem nd_ld : ∀ {lv : pm_L} {i : Nat} {v : Value}, nd lv → (i, v) ∈ lv → pm_ld lv i = some v
  | [], _, _, _, h => absurd h List.not_mem_nil
  | (j, u) :: lv, i, v, hn, h => by
    have hn1 := List.nodup_cons.mp (show (j :: lv.map Prod.fst).Nodup from hn)
    by_cases hj : j = i
    · subst hj
      rcases List.mem_cons.mp h with h | h
      · cases h
        unfold pm_ld
        rw [List.find?_cons_of_pos (by simp)]
        rfl
      · exact absurd (List.mem_map.mpr ⟨(j, v), h, rfl⟩) hn1.1
    · rcases List.mem_cons.mp h with h | h
      · cases h; exact absurd rfl hj
      · have ih := nd_ld (lv := lv) hn1.2 h
        unfold pm_ld at ih ⊢
        rw [List.find?_cons_of_neg (by simp [hj])]
        exact ih
theorem lsub_ld {lv1 lv : pm_L} (h : lsub lv1 lv) {i : Nat} {v : Value} (hv : pm_ld lv1 i = some v) : pm_ld lv i = some v := nd_ld h.2.1 (h.2.2 _ (pm_ld_in hv))
theorem nd_filter {lv : pm_L} {p : Nat × Value → Bool} (h : nd lv) : nd (lv.filter p) := List.Nodup.sublist (List.Sublist.map _ (List.filter_sublist)) h
theorem nd_s1 {lv : pm_L} {i : Nat} {v : Value} (h : nd lv) : nd (pm_s1 lv i v) := by
  refine List.nodup_cons.mpr ⟨fun hm => ?_, nd_filter h⟩
  obtain ⟨q, hq, he⟩ := List.mem_map.mp hm
  have h2 := (List.mem_filter.mp hq).2
  simp at h2
  exact h2.1 he
theorem nd_s2 {lv : pm_L} {i : Nat} {v : Value} (h : nd lv) : nd (pm_s2 lv i v) := by
  refine List.nodup_cons.mpr ⟨fun hm => ?_, nd_filter h⟩
  obtain ⟨q, hq, he⟩ := List.mem_map.mp hm
  have h2 := (List.mem_filter.mp hq).2
  simp at h2
  exact h2.1 he
theorem lsub_s1 {lv1 lv : pm_L} {i : Nat} {v : Value} (h : lsub lv1 lv) : lsub (pm_s1 lv1 i v) (pm_s1 lv i v) := by
  refine ⟨nd_s1 h.1, nd_s1 h.2.1, fun q hq => ?_⟩
  rcases List.mem_cons.mp hq with rfl | hq
  · exact List.mem_cons_self
  · have h2 := List.mem_filter.mp hq
    exact List.mem_cons_of_mem _ (List.mem_filter.mpr ⟨h.2.2 q h2.1, h2.2⟩)
theorem lsub_s2 {lv1 lv : pm_L} {i : Nat} {v : Value} (h : lsub lv1 lv) : lsub (pm_s2 lv1 i v) (pm_s2 lv i v) := by
  refine ⟨nd_s2 h.1, nd_s2 h.2.1, fun q hq => ?_⟩
  rcases List.mem_cons.mp hq with rfl | hq
  · exact List.mem_cons_self
  · have h2 := List.mem_filter.mp hq
    exact List.mem_cons_of_mem _ (List.mem_filter.mpr ⟨h.2.2 q h2.1, h2.2⟩)
def lnone (i : Instr) : Bool := match i with
  | .iload _ => false
  | .iload_n _ => false
  | .lload _ => false
  | .lload_n _ => false
  | .aload _ => false
  | .aload_n _ => false
  | .istore _ => false
  | .istore_n _ => false
  | .lstore _ => false
  | .lstore_n _ => false
  | .astore _ => false
  | .astore_n _ => false
  | .iinc _ _ => false
  | _ => true
set_option maxHeartbeats 4000000 in
theorem lv_uni {k pc : Nat} {q : pm_Q} {lv lv1 : pm_L} {st : List Value} {w : pm_H} {x : pm_F1} (hi : lnone q.1 = true) (h : pm_step k q pc lv1 st w = some x) : pm_step k q pc lv st w = some (x.1, lv, x.2.2) ∧ x.2.1 = lv1 := by
  obtain ⟨i, ln, a, b, z⟩ := q
  obtain ⟨pc2, lv2, st2, w2⟩ := x
  cases i <;> first
    | cases hi; done
    | (cases h; exact ⟨rfl, rfl⟩)
    | (simp only [pm_step, pm_ii, pm_jj, Option.map_eq_some_iff] at h ⊢; (repeat' split at h) <;> first
        | cases h; done
        | (cases h; exact ⟨rfl, rfl⟩)
        | (cases h; refine ⟨?_, rfl⟩; rw [if_neg (by assumption)]; split <;> simp_all; done)
        | (cases h; simp_all; done)
        | (obtain ⟨v, hv, h⟩ := h; cases h; simp_all; done)
        | (obtain ⟨v, hv, h⟩ := Option.map_eq_some_iff.mp h; cases h; simp_all; done))
set_option maxHeartbeats 1000000 in
theorem lv_stp {k pc : Nat} {q : pm_Q} {lv lv1 : pm_L} {st : List Value} {w : pm_H} {x : pm_F1} (hl : lsub lv1 lv) (h : pm_step k q pc lv1 st w = some x) : ∃ lv2, pm_step k q pc lv st w = some (x.1, lv2, x.2.2) ∧ lsub x.2.1 lv2 := by
  by_cases hi : lnone q.1 = true
  · obtain ⟨h1, h2⟩ := lv_uni (lv := lv) hi h
    exact ⟨lv, h1, by rw [h2]; exact hl⟩
  · obtain ⟨i, ln, a, b, z⟩ := q
    obtain ⟨pc2, lv2, st2, w2⟩ := x
    cases i <;> first | exact absurd rfl hi | skip
    case iload i =>
      obtain ⟨y, hv, rfl, rfl, rfl, rfl⟩ := pt_li h
      exact ⟨lv, by show (pm_li lv i).map _ = _; unfold pm_li; rw [lsub_ld hl hv]; rfl, hl⟩
    case iload_n i =>
      obtain ⟨y, hv, rfl, rfl, rfl, rfl⟩ := pt_li h
      exact ⟨lv, by show (pm_li lv i).map _ = _; unfold pm_li; rw [lsub_ld hl hv]; rfl, hl⟩
    case lload i =>
      obtain ⟨y, hv, rfl, rfl, rfl, rfl⟩ := pt_ll h
      exact ⟨lv, by show (pm_ll lv i).map _ = _; unfold pm_ll; rw [lsub_ld hl hv]; rfl, hl⟩
    case lload_n i =>
      obtain ⟨y, hv, rfl, rfl, rfl, rfl⟩ := pt_ll h
      exact ⟨lv, by show (pm_ll lv i).map _ = _; unfold pm_ll; rw [lsub_ld hl hv]; rfl, hl⟩
    case aload i =>
      have h1 : (pm_la lv1 i).map (fun v => (pc + 2, lv1, v :: st, w)) = some (pc2, lv2, st2, w2) := h
      unfold pm_la at h1
      split at h1 <;> first | (rename_i hv; cases h1; exact ⟨lv, by show (pm_la lv i).map _ = _; unfold pm_la; rw [lsub_ld hl hv]; rfl, hl⟩) | cases h1
    case aload_n i =>
      have h1 : (pm_la lv1 i).map (fun v => (pc + 1, lv1, v :: st, w)) = some (pc2, lv2, st2, w2) := h
      unfold pm_la at h1
      split at h1 <;> first | (rename_i hv; cases h1; exact ⟨lv, by show (pm_la lv i).map _ = _; unfold pm_la; rw [lsub_ld hl hv]; rfl, hl⟩) | cases h1
    case istore i =>
      obtain ⟨y, r, rfl, hn, rfl, rfl, rfl, rfl⟩ := pt_si h
      exact ⟨pm_s1 lv i (.int y), by show (if i < pm_n k then some _ else none) = _; rw [if_pos hn], lsub_s1 hl⟩
    case istore_n i =>
      obtain ⟨y, r, rfl, hn, rfl, rfl, rfl, rfl⟩ := pt_si h
      exact ⟨pm_s1 lv i (.int y), by show (if (i : Nat) < pm_n k then some _ else none) = _; rw [if_pos hn], lsub_s1 hl⟩
    case lstore i =>
      obtain ⟨y, r, rfl, hn, rfl, rfl, rfl, rfl⟩ := pt_sl h
      exact ⟨pm_s2 lv i (.long y), by show (if i + 1 < pm_n k then some _ else none) = _; rw [if_pos hn], lsub_s2 hl⟩
    case lstore_n i =>
      obtain ⟨y, r, rfl, hn, rfl, rfl, rfl, rfl⟩ := pt_sl h
      exact ⟨pm_s2 lv i (.long y), by show (if (i : Nat) + 1 < pm_n k then some _ else none) = _; rw [if_pos hn], lsub_s2 hl⟩
    case astore i =>
      rcases pt_sa h with ⟨y, r, rfl, hn, rfl, rfl, rfl, rfl⟩ | ⟨r, rfl, hn, rfl, rfl, rfl, rfl⟩
      · exact ⟨pm_s1 lv i (.ref y), by show (if i < pm_n k then some _ else none) = _; rw [if_pos hn], lsub_s1 hl⟩
      · exact ⟨pm_s1 lv i .null, by show (if i < pm_n k then some _ else none) = _; rw [if_pos hn], lsub_s1 hl⟩
    case astore_n i =>
      rcases pt_sa h with ⟨y, r, rfl, hn, rfl, rfl, rfl, rfl⟩ | ⟨r, rfl, hn, rfl, rfl, rfl, rfl⟩
      · exact ⟨pm_s1 lv i (.ref y), by show (if (i : Nat) < pm_n k then some _ else none) = _; rw [if_pos hn], lsub_s1 hl⟩
      · exact ⟨pm_s1 lv i .null, by show (if (i : Nat) < pm_n k then some _ else none) = _; rw [if_pos hn], lsub_s1 hl⟩
    case iinc i n =>
      have h1 : (match (generalizing := false) pm_ld lv1 i with
        | some (.int x) => if i < pm_n k then some (pc + 3, pm_s1 lv1 i (.int (x + Int32.ofInt n)), st, w) else none
        | _ => none) = some (pc2, lv2, st2, w2) := h
      split at h1
      · rename_i y hv
        split at h1
        · rename_i hn
          cases h1
          refine ⟨pm_s1 lv i (.int (y + Int32.ofInt n)), ?_, lsub_s1 hl⟩
          show (match (generalizing := false) pm_ld lv i with
            | some (.int x) => if i < pm_n k then some (pc + 3, pm_s1 lv i (.int (x + Int32.ofInt n)), st, w) else none
            | _ => none) = _
          rw [lsub_ld hl hv]
          show (if i < pm_n k then some _ else none) = _
          rw [if_pos hn]
        · cases h1
      · cases h1
theorem lv_run : ∀ (f d k pc : Nat) (lv1 lv : pm_L) (st : List Value) (w : pm_H) (x : Option Value × pm_H), lsub lv1 lv → pm_run f d k pc lv1 st w = some x → pm_run f d k pc lv st w = some x := by
  intro f
  induction f with
  | zero => intro d k pc lv1 lv st w x _ h; cases h
  | succ f ih =>
    intro d k pc lv1 lv st w x hl h
    unfold pm_run at h ⊢
    split at h
    · cases h
    · rename_i q hq
      split at h
      · rename_i h1
        rw [if_pos h1]
        exact h
      · rename_i h1
        rw [if_neg h1]
        split at h
        · rename_i h2
          rw [if_pos h2]
          split at h
          · cases h
          · split at h
            · rename_i h3
              rw [if_pos h3]
              split at h
              · split at h
                · rename_i hcs
                  rw [if_pos hcs]
                  exact ih _ _ _ _ _ _ _ _ hl h
                · cases h
              · cases h
            · rename_i h3
              rw [if_neg h3]
              split at h
              · rename_i h4
                rw [if_pos h4]
                split at h
                · exact ih _ _ _ _ _ _ _ _ hl h
                · cases h
              · cases h
        · rename_i h2
          rw [if_neg h2]
          split at h
          · rename_i y hy
            obtain ⟨lv2, g1, g2⟩ := lv_stp hl hy
            rw [g1]
            exact ih _ _ _ _ _ _ _ _ g2 h
          · cases h
/-- what holds with fewer locals known holds with more -/
theorem wp_lv {d k pc : Nat} {lv1 lv : pm_L} {st : List Value} {w : pm_H} {P : Option Value → pm_H → Prop} (hl : lsub lv1 lv) (kk : wp d k pc lv1 st w P) : wp d k pc lv st w P := wp_of (fun _ _ h => by obtain ⟨f, hf⟩ := h; exact ⟨f, lv_run _ _ _ _ _ _ _ _ _ hl hf⟩) kk
