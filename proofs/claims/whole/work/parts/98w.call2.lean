/-! the call cloth -/
theorem call_2 {n : Nat} {w : pm_H} (hn : n < 512) (h : Inv n w) (a1 a2 a3 a4 a5 : Int32) : ob_ok 2 [a1, a2, a3, a4, a5] w (Inv (n + 1)) := by
  obtain ⟨sh, ln, s, M, ib, ds, rel⟩ := h
  obtain ⟨r, s1, M1, e1, e2, e3, e4, e5, e6⟩ := k_cloth rel
  exact ob_na (args := []) hn rfl rfl ib (fun P kr => xf_cloth_ok (w0 := w) ib.2.2.1 ⟨ib.1, Fr_rf⟩ e1 (fun w1 h1 => kr w1 h1)) (fun w1 h1 P kr => xm_cloth_ok (w0 := w1) StM_M ⟨h1, Fr_rf⟩ e2 (fun w2 h2 => kr w2 h2)) (DS_cg ds e4 e5 e6) e3
