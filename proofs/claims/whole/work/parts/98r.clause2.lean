/-! one clause, whole -/
section CR2
variable {T : Nat → Int} {n : Nat} {s M : Hp}
/-- which clauses the class takes -/
abbrev okK (s : Hp) (k : Nat) (K : Int) : Prop := k < 40 ∧ ((k = 0 ∧ K = 0) ∨ (0 < k ∧ K ≠ 0 ∧ (K = 1 → s 4 1 < 4)))
theorem cj_34 {k : Nat} {i K : Int} (hk : k ≤ 40) (K0 : 0 ≤ K) (K4 : K ≤ 4) (hs : 0 < k → 0 ≤ s 4 1 ∧ s 4 1 ≤ 4) : xc_readClause_j34 s (k : Int) i K (if K = 0 then 1 else 0) = if okK s k K then xc_readClause_j104 s K else (xt_fail s i 4).bind fun o => some o := by
  unfold xc_readClause_j34
  rw [w32_eq (x := (k : Int)) (by omega) (by omega)]
  have j75a : xc_readClause_j75 s (k : Int) i K 1 0 = (xt_fail s i 4).bind fun o => some o := by
    unfold xc_readClause_j75
    rw [if_neg (by decide)]
  have j75b : xc_readClause_j75 s (k : Int) i K 1 1 = (xt_fail s i 4).bind fun o => some o := by
    unfold xc_readClause_j75
    rw [if_neg (by decide)]
  have j51a : xc_readClause_j51 s (k : Int) i K 1 = (xt_fail s i 4).bind fun o => some o := by
    unfold xc_readClause_j51
    split
    · split
      · exact j75a
      · exact j75b
    · exact j75a
  by_cases h0 : k = 0
  · subst h0
    rw [if_pos (by omega)]
    by_cases hK : K = 0
    · subst hK
      rw [if_pos (c := (0 : Int) = 0) rfl, if_pos rfl, if_pos (c := okK s 0 0) ⟨by omega, Or.inl ⟨rfl, rfl⟩⟩]
      unfold xc_readClause_j51
      rw [if_neg (by decide)]
      unfold xc_readClause_j75
      rw [if_pos (by decide), if_pos (by decide), if_neg (by decide)]
    · rw [if_neg (c := K = 0) hK, if_neg (c := w32 0 = w32 1) (by decide), if_neg (c := okK s 0 K) (fun q => by rcases q.2 with q | q <;> omega)]
      exact j51a
  · rw [if_neg (by omega)]
    obtain ⟨h41, h42⟩ := hs (by omega)
    by_cases hK : K = 0
    · subst hK
      rw [if_pos (c := (0 : Int) = 0) rfl, if_neg (c := w32 1 = w32 0) (by decide), if_neg (c := okK s k 0) (fun q => by rcases q.2 with q | q <;> omega)]
      exact j51a
    · rw [if_neg (c := K = 0) hK, if_pos rfl]
      unfold xc_readClause_j51
      rw [w32_eq (x := K) (by omega) (by omega), show w32 1 = 1 by decide, w32_eq (x := s 4 1) (by omega) (by omega), show w32 4 = 4 by decide]
      have j75c : ∀ f : Int, (f = 0 ∨ f = 1) → xc_readClause_j75 s (k : Int) i K 0 f = if k < 40 ∧ f = 0 then xc_readClause_j104 s K else (xt_fail s i 4).bind fun o => some o := by
        intro f hf
        unfold xc_readClause_j75
        rw [if_pos (by decide), w32_eq (x := (k : Int)) (by omega) (by omega), show w32 40 = 40 by decide]
        by_cases h40 : k < 40
        · rw [if_pos (by omega), if_pos (by omega)]
          rcases hf with rfl | rfl
          · rw [if_pos (by decide), if_pos ⟨h40, rfl⟩]
          · rw [if_neg (by decide), if_neg (fun q => by have := q.2; omega)]
        · rw [if_neg (by omega), if_neg (fun q => h40 q.1)]
      by_cases h1 : K = 1
      · rw [if_pos h1]
        by_cases h4 : s 4 1 < 4
        · rw [if_pos h4, j75c 0 (Or.inl rfl)]
          by_cases h40 : k < 40
          · rw [if_pos ⟨h40, rfl⟩, if_pos (c := okK s k K) ⟨h40, Or.inr ⟨by omega, hK, fun _ => h4⟩⟩]
          · rw [if_neg (fun q => h40 q.1), if_neg (c := okK s k K) (fun q => h40 q.1)]
        · rw [if_neg h4, j75c 1 (Or.inr rfl), if_neg (fun q => by have := q.2; omega), if_neg (c := okK s k K) (fun q => q.2.elim (fun q => by omega) (fun q => h4 (q.2.2 h1)))]
      · rw [if_neg h1, j75c 0 (Or.inl rfl)]
        by_cases h40 : k < 40
        · rw [if_pos ⟨h40, rfl⟩, if_pos (c := okK s k K) ⟨h40, Or.inr ⟨by omega, hK, fun q => absurd q h1⟩⟩]
        · rw [if_neg (fun q => h40 q.1), if_neg (c := okK s k K) (fun q => h40 q.1)]
end CR2
