/-! the call rule -/
theorem call_3 {n : Nat} {w : pm_H} (hn : n < 512) (h : Inv n w) (a1 a2 a3 a4 a5 : Int32) : ob_ok 3 [a1, a2, a3, a4, a5] w (Inv (n + 1)) := by
  obtain ⟨sh, ln, s, M, ib, ds, rel⟩ := h
  obtain ⟨r, s2, sh2, M2, ln2, e1, e2, e3, e4⟩ := k_rule (EN_of ib) ds rel
  exact ob_al (args := []) hn rfl rfl ib (fun P kr => xf_rule_ok ib.2.2.1 rfl ib.1 e1 (fun w1 h1 h2 => kr w1 h1 h2)) (fun w1 h1 P kr => xm_rule_ok (w0 := w1) StM_M ⟨h1, Fr_rf⟩ e2 (fun w2 h2 => kr w2 h2)) e3 e4
