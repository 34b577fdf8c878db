/-! a call, and the theorem -/
section PU
variable {p : Program} {l : Launch} {e : Env} {R : Room} {s : State} {m : MethodId} {args : Array Value} {below : List Frame} {meth : Method} {c : Code} {H : Heap} {locs : List Loc} {cells slots : Nat} {Q : State → Prop}
variable {k pc pc1 : Nat} {lv lv1 : pm_L} {st st1 : List Value} {w w1 : pm_H} {D : va_G} {B : Nat} {K : Nat → Nat} {ls : Array Slot}
theorem pu_rcv {t : Nat} {as : List Value} (h : pm_rcv t as w = true) : ∃ b fs As0, as = .ref b :: As0 ∧ w[b]? = some (0, pm_o t, fs) := by
  unfold pm_rcv at h
  split at h
  · rename_i b As0
    split at h
    · rename_i ci fs hw
      simp only [beq_iff_eq] at h
      subst h
      exact ⟨b, fs, As0, rfl, hw⟩
    · cases h
  · cases h
set_option maxHeartbeats 1000000 in
theorem pu_call {q : pm_Q} {r1 : Option Value} {d : Nat} (hI : pm_I k pc = some q) (hinv : pm_inv q.1 = true) (ha : ¬ 1000 ≤ q.2.2.1) (hok : pm_cok q.2.2.1 st w = true) (C : pm_cx p s m args meth c k D B K) (hre : pm_re D B K s w H) (hls : lv_has ls (pm_n k) (lv.map (pm_e2 B K))) (hlo : ∀ x ∈ locs, B ≤ x.base) (hfr : d + 1 ≤ R.frames) (hloc : 60 * (d + 1) ≤ R.locals) (hcc : cells + (w1.length - w.length) ≤ R.cells) (hss : slots + (pm_sz w1 - pm_sz w) ≤ R.slots)
    (hM : q.2.2.1 < 264 → (lg_sl (st.take (pm_na q.2.2.1)).reverse).length ≤ pm_n q.2.2.1 → Met l (pm_y q.2.2.1) (pr_ws q.2.2.1) ({ frames := d, cells := w1.length - w.length, slots := pm_sz w1 - pm_sz w, locals := 60 * d } : Room) (pr_P D B K w ((st.take (pm_na q.2.2.1)).reverse.map (pm_e B K))) (pr_Q D B K r1 w1) (w1.length - w.length) (pm_sz w1 - pm_sz w) (fun q => B ≤ q))
    (kk : ∀ (H' : Heap) (locs' : List Loc), pm_re D B K s w1 H' → (∀ x ∈ locs', B ≤ x.base) → W p l e R s m args below meth c H' locs' (cells + (w1.length - w.length)) (slots + (pm_sz w1 - pm_sz w)) Q (F0 m (pc + 3) ls ((r1.toList ++ st.drop (pm_na q.2.2.1)).map (pm_e B K)))) :
    W p l e R s m args below meth c H locs cells slots Q (F0 m pc ls (st.map (pm_e B K))) := by
  refine pl_with hlo (fun hS => ?_)
  obtain ⟨hx, hb, hml, hown, hts, hK, hlocks, hr, hnm, hstr, hk264⟩ := id C
  obtain ⟨hd, hln, hlk⟩ := pn_ck hI
  obtain ⟨i, hq, x, hxm, e1, e2, e3, e4, v1, v2, v3⟩ := pl_any hinv hlk
  have h2 := List.all_eq_true.mp pm_Gok x hxm
  have hln3 : q.2.1 = 3 := by
    rw [hln]
    rcases hq with hq | hq | hq <;> rw [hq] <;> rfl
  rw [hln3] at hd
  simp only [pm_cok, Bool.and_eq_true, Bool.or_eq_true, decide_eq_true_eq, beq_iff_eq] at hok
  obtain ⟨hn, hcs, hsl, hrcv⟩ := hok
  by_cases h9 : x.2.2.1 = 9
  · rw [if_pos h9, Bool.and_eq_true] at h2
    have := of_decide_eq_true h2.1
    omega
  rw [if_neg h9, Bool.and_eq_true, Bool.and_eq_true] at h2
  obtain ⟨h3, h4, h5⟩ := h2
  have ht : q.2.2.1 < 264 := by rw [← e4]; exact of_decide_eq_true h3
  have hM := hM ht hsl
  have h4 := of_decide_eq_true h4
  rw [e4] at h4 h5
  rw [e1, e2] at h5
  obtain ⟨g1, g2, g3, g4, g5, g6, g7, g8, g9⟩ := pn_mt ht
  generalize hqa : q.2.2.1 = a at *
  have hG := pn_gi ht
  have hR : d + 1 ≤ R.frames ∧ 8 + (pm_n a + 11) + 60 * d ≤ R.locals := ⟨hfr, by omega⟩
  have hcs8 : 2 * (F0 m pc ls (st.map (pm_e B K))).monitorRoom + (((st.drop (pm_na a)).map (pm_e B K)).map fun v => v.category).sum ≤ 8 := by
    rw [pm_cs_map]
    show 2 * 0 + _ ≤ 8
    omega
  have hlen : (st.take (pm_na a)).reverse.length = pm_na a := by rw [List.length_reverse, List.length_take]; omega
  have hpre : ∀ U : State, U.heap = H → s.WarmedH U.vm → pr_P D B K w ((st.take (pm_na a)).reverse.map (pm_e B K)) ((st.take (pm_na a)).reverse.map (pm_e B K)).toArray U := fun U hU hW => ⟨rfl, by rw [hU]; exact hre.moved hW.alike, va_K.moved hW.alike hK, hstr.warm hW (fun a h1 h2 => by rw [hU]; exact hS.2.1 a h1 h2)⟩
  have hfin : ∀ (u : State) (o : Outcome) (t : State) (z : Array Value), pr_Q D B K r1 w1 z u o t → o = .returned (r1.map (pm_e B K)) ∧ pm_re D B K t w1 t.heap := fun _ _ _ _ h => h
  have hkk : ∀ (H' : Heap) (locs' : List Loc), pm_re D B K s w1 H' → (∀ x ∈ locs', B ≤ x.base) → W p l e R s m args below meth c H' locs' (cells + (w1.length - w.length)) (slots + (pm_sz w1 - pm_sz w)) Q (F0 m (pc + 3) ls ((r1.map (pm_e B K)).toList ++ (st.drop (pm_na a)).map (pm_e B K))) := fun H1 locs1 hr1 hl1 => by
    rw [pn_ro]
    exact kk H1 locs1 hr1 hl1
  have hst := pn_list (B := B) (K := K) hn
  have obj : ∀ {b : Nat} {fs : List Value}, w[b]? = some (0, pm_o a, fs) → ∃ cellB : Cell, H[B + b]? = some cellB ∧ cellB.vm.isStatics = false ∧ s.vm.findClass (pm_y a).cls = some cellB.cls := by
    intro b fs hwb
    obtain ⟨o1, o2, cellV, o3, o4, o5, -⟩ := ps_obj hre hwb
    have hcls := (hK.1 (pm_o a) _ (pm_cl_at (pm_o a) o1)).2
    exact ⟨cellV, o3, by rw [o5]; rfl, by rw [g5, o4]; exact hcls.1⟩
  rcases hq with hq | hq | hq
  · -- invokevirtual
    rw [hq] at hd
    have k0 : x.2.2.1 = 0 := by rcases v1 hq with h0 | h0 <;> omega
    rw [k0] at h4
    have hka : pm_k a = 0 := h4
    have hna : pm_na a = pm_a a + 1 := by unfold pm_na; rw [hka]; rfl
    obtain ⟨b, fs, As0, hAL, hwb⟩ := pu_rcv (w := w) (by
      rcases hrcv with h | h
      · rw [hka] at h; cases h
      · exact h)
    rw [k0, if_neg (by decide)] at h5
    rw [hka, if_neg (by decide)] at g3
    rw [hAL] at hpre hst hM hlen
    refine pn_after (r1 := r1) (D := D) (w1 := w1) (va_runV (As := As0.map (pm_e B K)) (rest := (st.drop (pm_na a)).map (pm_e B K)) (b := B + b) ⟨hx, hb, hml, hown, hts⟩ hM ⟨callB_of (pm_a a) hts hG rfl rfl rfl (hts _ g2) (hts _ (lw_g_in (pm_w1_in h5) rfl)) g7 hR, hts _ g3, hts _ (g4 hka)⟩ ⟨pr_blind D B K w _, obj hwb, hpre⟩ rfl ?_ hls.1 ?_ hcs8 hd ⟨hcc, hss⟩) (fun u o t hh => hfin u o t _ hh) hlo hkk
    · rw [List.length_map]
      rw [List.length_cons] at hlen
      omega
    · show st.map (pm_e B K) = _
      rw [hst, List.map_cons, List.reverse_cons, List.append_assoc]
      rfl
  · -- invokespecial
    rw [hq] at hd
    have k0 : x.2.2.1 = 2 ∨ x.2.2.1 = 3 := by rcases v2 hq with h0 | h0 | h0 <;> omega
    have hka : pm_k a = 2 := by
      rcases k0 with k0 | k0 <;> rw [k0] at h4 <;> exact h4
    have hna : pm_na a = pm_a a + 1 := by unfold pm_na; rw [hka]; rfl
    obtain ⟨b, fs, As0, hAL, hwb⟩ := pu_rcv (w := w) (by
      rcases hrcv with h | h
      · rw [hka] at h; cases h
      · exact h)
    rw [hka, if_neg (by decide)] at g3
    rw [hAL] at hpre hst hM hlen
    have hrn := (g9 hka).2
    have hw1 : pr_ws a = Cond.code (pm_y a) (pm_c a) (pm_n a) none :: lw_g := by
      show Cond.code (pm_y a) (pm_c a) (pm_n a) (pm_r a) :: lw_g = _
      rw [hrn]
    have hl1 : (As0.map (pm_e B K)).length = pm_a a := by
      rw [List.length_map]
      rw [List.length_cons] at hlen
      omega
    have hs1 : (F0 m pc ls (st.map (pm_e B K))).stack = (As0.map (pm_e B K)).reverse ++ .ref (B + b) :: (st.drop (pm_na a)).map (pm_e B K) := by
      show st.map (pm_e B K) = _
      rw [hst, List.map_cons, List.reverse_cons, List.append_assoc]
      rfl
    rcases k0 with k0 | k0
    · rw [k0, if_neg (by decide)] at h5
      exact pn_after (r1 := r1) (D := D) (w1 := w1) (va_runI (As := As0.map (pm_e B K)) (rest := (st.drop (pm_na a)).map (pm_e B K)) (b := B + b) ⟨hx, hb, hml, hown, hts⟩ hM ⟨callB_of (pm_a a) hts hG hw1 rfl rfl (hts _ g2) (hts _ (lw_g_in (pm_w1_in h5) rfl)) g7 hR, (g9 hka).1, hts _ g3⟩ ⟨pr_blind D B K w _, hpre⟩ rfl hl1 hls.1 hs1 hcs8 hd ⟨hcc, hss⟩) (fun u o t hh => hfin u o t _ hh) hlo hkk
    · have hnw := hstr.2.2.1 x hxm (Or.inl k0)
      rw [e1, e2, e4] at hnw
      exact pn_after (r1 := r1) (D := D) (w1 := w1) (va_runIN (As := As0.map (pm_e B K)) (rest := (st.drop (pm_na a)).map (pm_e B K)) (b := B + b) ⟨hx, hb, hml, hown, hts⟩ hM ⟨va_cnB (pm_a a) hts hG hw1 rfl rfl hnw (hts _ g2) g7 hR, (g9 hka).1, hts _ g3⟩ ⟨pr_blind D B K w _, hpre⟩ rfl hl1 hls.1 hs1 hcs8 hd ⟨hcc, hss⟩) (fun u o t hh => hfin u o t _ hh) hlo hkk
  · -- invokestatic
    rw [hq] at hd
    have k0 : x.2.2.1 = 1 ∨ x.2.2.1 = 4 := by rcases v3 hq with h0 | h0 | h0 <;> omega
    have hka : pm_k a = 1 := by
      rcases k0 with k0 | k0 <;> rw [k0] at h4 <;> exact h4
    have hna : pm_na a = pm_a a := by unfold pm_na; rw [hka]; rfl
    rw [hka, if_pos rfl] at g3
    have hl1 : ((st.take (pm_na a)).reverse.map (pm_e B K)).length = pm_a a := by
      rw [List.length_map, hlen, hna]
    rcases k0 with k0 | k0
    · rw [k0, if_neg (by decide)] at h5
      exact pn_after (r1 := r1) (D := D) (w1 := w1) (va_runS (As := (st.take (pm_na a)).reverse.map (pm_e B K)) (rest := (st.drop (pm_na a)).map (pm_e B K)) ⟨hx, hb, hml, hown, hts⟩ hM ⟨callB_of (pm_a a) hts hG rfl rfl rfl (hts _ g2) (hts _ (lw_g_in (pm_w1_in h5) rfl)) g7 hR, hts _ g3⟩ ⟨pr_blind D B K w _, hpre⟩ rfl hl1 hls.1 hst hcs8 hd ⟨hcc, hss⟩) (fun u o t hh => hfin u o t _ hh) hlo hkk
    · have hnw := hstr.2.2.1 x hxm (Or.inr k0)
      rw [e1, e2, e4] at hnw
      exact pn_after (r1 := r1) (D := D) (w1 := w1) (va_runSN (As := (st.take (pm_na a)).reverse.map (pm_e B K)) (rest := (st.drop (pm_na a)).map (pm_e B K)) ⟨hx, hb, hml, hown, hts⟩ hM ⟨va_cnB (pm_a a) hts hG rfl rfl rfl hnw (hts _ g2) g7 hR, hts _ g3, trivial⟩ ⟨pr_blind D B K w _, hpre⟩ rfl hl1 hls.1 hst hcs8 hd ⟨hcc, hss⟩) (fun u o t hh => hfin u o t _ hh) hlo hkk
end PU
set_option maxHeartbeats 1000000 in
/-- THE PURE MACHINE IS SOUND -/
theorem pm_sound (l : Launch) (D : va_G) (B : Nat) (K : Nat → Nat) : ∀ (f d k pc : Nat) (lv : pm_L) (st : List Value) (w : pm_H) (r : Option Value) (w1 : pm_H), pm_run f d k pc lv st w = some (r, w1) →
    ∀ (p : Program) (e : Env) (R : Room) (s : State) (m : MethodId) (args : Array Value) (below : List Frame) (meth : Method) (c : Code) (H : Heap) (locs : List Loc) (ls : Array Slot) (cells slots CT ST : Nat), pm_cx p s m args meth c k D B K → pm_re D B K s w H → lv_has ls (pm_n k) (lv.map (pm_e2 B K)) → (∀ x ∈ locs, B ≤ x.base) → d ≤ R.frames → 60 * d ≤ R.locals → cells + w1.length = CT + w.length → slots + pm_sz w1 = ST + pm_sz w → CT ≤ R.cells → ST ≤ R.slots →
      W p l e R s m args below meth c H locs cells slots (MQ below (pr_Q D B K r w1) args s CT ST (fun q => B ≤ q)) (F0 m pc ls (st.map (pm_e B K))) := by
  intro f
  induction f with
  | zero => intro d k pc lv st w r w1 h; cases h
  | succ f ih =>
    intro d k pc lv st w r w1 h p e R s m args below meth c H locs ls cells slots CT ST C hre hls hlo hfr hloc hct hst hCT hST
    unfold pm_run at h
    split at h
    · cases h
    · rename_i q hq
      split at h
      · rename_i his
        obtain ⟨v, hv, h⟩ := Option.map_eq_some_iff.mp h
        cases h
        obtain rfl : CT = cells := by omega
        obtain rfl : ST = slots := by omega
        exact pr_ret hq his hv C hre hlo
      · rename_i his
        split at h
        · rename_i hinv
          split at h
          · cases h
          · rename_i d'
            split at h
            · rename_i ha
              split at h
              · rename_i st2 w2 hl
                split at h
                · rename_i hcs
                  obtain ⟨hd, hln, hlk⟩ := pn_ck hq
                  have hln3 : q.2.1 = 3 := by
                    rw [hln]
                    obtain ⟨i, hqi, -⟩ := pl_any hinv hlk
                    rcases hqi with hqi | hqi | hqi <;> rw [hqi] <;> rfl
                  rw [hln3] at hd
                  have hm := pn_mono _ _ _ _ _ _ _ _ _ h
                  obtain ⟨m1, m2⟩ := pn_lib hl
                  refine pl_lib C hre hls hlo (by omega) (by omega) (by omega) (by omega) hinv ha hlk hd hl hcs.1 (fun H1 locs1 z1 z2 hr1 hl1 => ?_)
                  exact ih _ _ _ _ _ _ _ _ h p e R s m args below meth c H1 locs1 ls cells slots CT ST C hr1 hls hl1 hfr hloc (by omega) (by omega) hCT hST
                · cases h
              · cases h
            · rename_i ha
              split at h
              · rename_i hok
                split at h
                · rename_i r2 w2 hc
                  have m1 := pn_mono _ _ _ _ _ _ _ _ _ hc
                  have m2 := pn_mono _ _ _ _ _ _ _ _ _ h
                  refine pu_call (w1 := w2) (r1 := r2) (d := d') hq hinv ha hok C hre hls hlo hfr (by omega) (by omega) (by omega) (fun ht hsl => ?_) (fun H1 locs1 hr1 hl1 => ?_)
                  · exact pr_met ht hsl m1 (fun p e R s m args below meth c H locs ls cells slots CT ST C1 hre1 hls1 hlo1 hfr1 hloc1 a1 a2 a3 a4 => ih _ _ _ _ _ _ _ _ hc p e R s m args below meth c H locs ls cells slots CT ST C1 hre1 hls1 hlo1 hfr1 hloc1 a1 a2 a3 a4)
                  · exact ih _ _ _ _ _ _ _ _ h p e R s m args below meth c H1 locs1 ls _ _ CT ST C hr1 hls hl1 hfr hloc (by omega) (by omega) hCT hST
                · cases h
              · cases h
        · split at h
          · rename_i x hx
            obtain ⟨pc1, lv1, st1, w2⟩ := x
            have m1 := pn_step hx
            have m2 := pn_mono _ _ _ _ _ _ _ _ _ h
            dsimp only at m1 m2 h
            refine pn_ss hq hx C hre hls hlo (by omega) (by omega) (fun H1 locs1 ls1 c1 s1 z1 z2 hr1 hls1 hl1 => ?_)
            exact ih _ _ _ _ _ _ _ _ h p e R s m args below meth c H1 locs1 ls1 c1 s1 CT ST C hr1 hls1 hl1 hfr hloc (by omega) (by omega) hCT hST
          · cases h
