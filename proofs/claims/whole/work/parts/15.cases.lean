/-! the law, case by case: by program (wip/whole/gen4.py) -/
section LC
variable {p : Program} {l : Launch} {e : Env} {s : State} {m : MethodId} {below : List Frame} {meth : Method} {c : Code} {H : Heap} {locs : List Loc} {Q : State → Prop}
variable {pc b L : Nat} {xs : Nat → Int32} {w w1 : pm_H} {D : va_G} {K : Nat → Nat} {ls : Array Slot} {rest : List Value}
set_option maxHeartbeats 2000000 in
theorem lw_case_0 {n : Nat} {I : pm_H → Prop} (C : lw_cx p s m meth c b L xs D K) (hL : L ≤ 3072) (hi : 6 * n + 6 ≤ L) (hre : pm_re D s.heap.size K s w H) (hlo : ∀ x ∈ locs, s.heap.size ≤ x.base) (hls : lv_has ls 4 [(3, .int (nI (6 * n))), (2, .ref (s.heap.size + ob_aM)), (1, .ref (s.heap.size + 0)), (0, .ref b)]) (hrm : ob_rm w) (hI : ∀ w, I w → ob_rm w)
    (hok : ob_ok 0 [xs (6 * n + 1), xs (6 * n + 2), xs (6 * n + 3), xs (6 * n + 4), xs (6 * n + 5)] w I)
    (kk : ∀ (w2 : pm_H) (H2 : Heap) (locs2 : List Loc), I w2 → pm_re D s.heap.size K s w2 H2 → (∀ x ∈ locs2, s.heap.size ≤ x.base) → W p l e room_1 s m #[Value.ref b] below meth c H2 locs2 w2.length (pm_sz w2) Q (F0 m 1075 ls [])) : W p l e room_1 s m #[Value.ref b] below meth c H locs w.length (pm_sz w) Q (F0 m 172 ls []) := by
  have hN : L < 2 ^ 31 := by omega
  obtain ⟨hx, hb, hr, hml, hown, hts, hX, hbl, hlocks, hgv⟩ := id C.1
  obtain ⟨f, r, w1, w2, h1, h2, ⟨fs1, h3⟩, h4⟩ := hok
  obtain ⟨m1, m2, ⟨fs0, m3⟩, ⟨fs2, m4⟩⟩ := hrm
  obtain ⟨k1, k2, -, -⟩ := hI _ h4
  have q1 := pn_mono _ _ _ _ _ _ _ _ _ h1
  have q2 := pn_mono _ _ _ _ _ _ _ _ _ h2
  refine lv_aload_n hx hb dL_law_172 rfl (lv_at hls 2 rfl) ?_
  refine lv_aload_n hx hb dL_law_173 rfl (lv_at hls 3 rfl) ?_
  refine lv_iload_n hx hb dL_law_174 rfl (lv_at hls 0 rfl) ?_
  refine lv_iconst (v := nI 1) hx hb dL_law_175 (by decide) ?_
  refine lv_iadd hx hb dL_law_176 ?_
  rw [nI_add]
  refine lw_sld C hlo (by omega) hN dL_law_177 ?_
  refine lv_aload_n hx hb dL_law_178 rfl (lv_at hls 3 rfl) ?_
  refine lv_iload_n hx hb dL_law_179 rfl (lv_at hls 0 rfl) ?_
  refine lv_iconst (v := nI 2) hx hb dL_law_180 (by decide) ?_
  refine lv_iadd hx hb dL_law_181 ?_
  rw [nI_add]
  refine lw_sld C hlo (by omega) hN dL_law_182 ?_
  refine lv_aload_n hx hb dL_law_183 rfl (lv_at hls 3 rfl) ?_
  refine lv_iload_n hx hb dL_law_184 rfl (lv_at hls 0 rfl) ?_
  refine lv_iconst (v := nI 3) hx hb dL_law_185 (by decide) ?_
  refine lv_iadd hx hb dL_law_186 ?_
  rw [nI_add]
  refine lw_sld C hlo (by omega) hN dL_law_187 ?_
  refine lv_aload_n hx hb dL_law_188 rfl (lv_at hls 3 rfl) ?_
  refine lv_iload_n hx hb dL_law_189 rfl (lv_at hls 0 rfl) ?_
  refine lv_iconst (v := nI 4) hx hb dL_law_190 (by decide) ?_
  refine lv_iadd hx hb dL_law_191 ?_
  rw [nI_add]
  refine lw_sld C hlo (by omega) hN dL_law_192 ?_
  refine lv_aload_n hx hb dL_law_193 rfl (lv_at hls 3 rfl) ?_
  refine lv_iload_n hx hb dL_law_194 rfl (lv_at hls 0 rfl) ?_
  refine lv_iconst (v := nI 5) hx hb dL_law_195 (by decide) ?_
  refine lv_iadd hx hb dL_law_196 ?_
  rw [nI_add]
  refine lw_sld C hlo (by omega) hN dL_law_197 ?_
  refine lw_cal (k := 107) (a := 0) (As := [.int (xs (6 * n + 1)), .int (xs (6 * n + 2)), .int (xs (6 * n + 3)), .int (xs (6 * n + 4)), .int (xs (6 * n + 5))]) (rest := []) C hre hlo hls.1 (by decide) (by decide +kernel) (pm_w1_in (i := 467) (by decide +kernel)) h1 m3 (show (5 : Nat) = pm_a 107 by decide +kernel) (show (6 : Nat) ≤ pm_n 107 by decide +kernel) (by decide) (by omega) (by omega) dL_law_198 (fun H1 locs1 hre1 hlo1 => ?_)
  clear hre hlo
  have hre := hre1
  have hlo := hlo1
  refine lv_aload_n hx hb dL_law_201 rfl (lv_at hls 1 rfl) ?_
  refine lv_aload_n hx hb dL_law_202 rfl (lv_at hls 3 rfl) ?_
  refine lv_iload_n hx hb dL_law_203 rfl (lv_at hls 0 rfl) ?_
  refine lv_iconst (v := nI 1) hx hb dL_law_204 (by decide) ?_
  refine lv_iadd hx hb dL_law_205 ?_
  rw [nI_add]
  refine lw_sld C hlo (by omega) hN dL_law_206 ?_
  refine lv_aload_n hx hb dL_law_207 rfl (lv_at hls 3 rfl) ?_
  refine lv_iload_n hx hb dL_law_208 rfl (lv_at hls 0 rfl) ?_
  refine lv_iconst (v := nI 2) hx hb dL_law_209 (by decide) ?_
  refine lv_iadd hx hb dL_law_210 ?_
  rw [nI_add]
  refine lw_sld C hlo (by omega) hN dL_law_211 ?_
  refine lv_aload_n hx hb dL_law_212 rfl (lv_at hls 3 rfl) ?_
  refine lv_iload_n hx hb dL_law_213 rfl (lv_at hls 0 rfl) ?_
  refine lv_iconst (v := nI 3) hx hb dL_law_214 (by decide) ?_
  refine lv_iadd hx hb dL_law_215 ?_
  rw [nI_add]
  refine lw_sld C hlo (by omega) hN dL_law_216 ?_
  refine lv_aload_n hx hb dL_law_217 rfl (lv_at hls 3 rfl) ?_
  refine lv_iload_n hx hb dL_law_218 rfl (lv_at hls 0 rfl) ?_
  refine lv_iconst (v := nI 4) hx hb dL_law_219 (by decide) ?_
  refine lv_iadd hx hb dL_law_220 ?_
  rw [nI_add]
  refine lw_sld C hlo (by omega) hN dL_law_221 ?_
  refine lv_aload_n hx hb dL_law_222 rfl (lv_at hls 3 rfl) ?_
  refine lv_iload_n hx hb dL_law_223 rfl (lv_at hls 0 rfl) ?_
  refine lv_iconst (v := nI 5) hx hb dL_law_224 (by decide) ?_
  refine lv_iadd hx hb dL_law_225 ?_
  rw [nI_add]
  refine lw_sld C hlo (by omega) hN dL_law_226 ?_
  refine lw_cal (k := 150) (a := ob_aM) (As := [.int (xs (6 * n + 1)), .int (xs (6 * n + 2)), .int (xs (6 * n + 3)), .int (xs (6 * n + 4)), .int (xs (6 * n + 5))]) (rest := [.int r]) C hre hlo hls.1 (by decide) (by decide +kernel) (pm_w1_in (i := 1277) (by decide +kernel)) h2 h3 (show (5 : Nat) = pm_a 150 by decide +kernel) (show (6 : Nat) ≤ pm_n 150 by decide +kernel) (show (1 : Nat) ≤ 8 by decide) k1 k2 dL_law_227 (fun H2 locs2 hre2 hlo2 => ?_)
  refine lv_icmp_eq (tgt := 1075) hx hb dL_law_230 (by decide) (fun _ => ?_) (fun hne => absurd rfl hne)
  exact kk w2 H2 locs2 h4 hre2 hlo2
set_option maxHeartbeats 2000000 in
theorem lw_case_1 {n : Nat} {I : pm_H → Prop} (C : lw_cx p s m meth c b L xs D K) (hL : L ≤ 3072) (hi : 6 * n + 6 ≤ L) (hre : pm_re D s.heap.size K s w H) (hlo : ∀ x ∈ locs, s.heap.size ≤ x.base) (hls : lv_has ls 4 [(3, .int (nI (6 * n))), (2, .ref (s.heap.size + ob_aM)), (1, .ref (s.heap.size + 0)), (0, .ref b)]) (hrm : ob_rm w) (hI : ∀ w, I w → ob_rm w)
    (hok : ob_ok 1 [xs (6 * n + 1), xs (6 * n + 2), xs (6 * n + 3), xs (6 * n + 4), xs (6 * n + 5)] w I)
    (kk : ∀ (w2 : pm_H) (H2 : Heap) (locs2 : List Loc), I w2 → pm_re D s.heap.size K s w2 H2 → (∀ x ∈ locs2, s.heap.size ≤ x.base) → W p l e room_1 s m #[Value.ref b] below meth c H2 locs2 w2.length (pm_sz w2) Q (F0 m 1075 ls [])) : W p l e room_1 s m #[Value.ref b] below meth c H locs w.length (pm_sz w) Q (F0 m 235 ls []) := by
  have hN : L < 2 ^ 31 := by omega
  obtain ⟨hx, hb, hr, hml, hown, hts, hX, hbl, hlocks, hgv⟩ := id C.1
  obtain ⟨f, r, w1, w2, h1, h2, ⟨fs1, h3⟩, h4⟩ := hok
  obtain ⟨m1, m2, ⟨fs0, m3⟩, ⟨fs2, m4⟩⟩ := hrm
  obtain ⟨k1, k2, -, -⟩ := hI _ h4
  have q1 := pn_mono _ _ _ _ _ _ _ _ _ h1
  have q2 := pn_mono _ _ _ _ _ _ _ _ _ h2
  refine lv_aload_n hx hb dL_law_235 rfl (lv_at hls 2 rfl) ?_
  refine lv_aload_n hx hb dL_law_236 rfl (lv_at hls 3 rfl) ?_
  refine lv_iload_n hx hb dL_law_237 rfl (lv_at hls 0 rfl) ?_
  refine lv_iconst (v := nI 1) hx hb dL_law_238 (by decide) ?_
  refine lv_iadd hx hb dL_law_239 ?_
  rw [nI_add]
  refine lw_sld C hlo (by omega) hN dL_law_240 ?_
  refine lw_cal (k := 108) (a := 0) (As := [.int (xs (6 * n + 1))]) (rest := []) C hre hlo hls.1 (by decide) (by decide +kernel) (pm_w1_in (i := 475) (by decide +kernel)) h1 m3 (show (1 : Nat) = pm_a 108 by decide +kernel) (show (2 : Nat) ≤ pm_n 108 by decide +kernel) (by decide) (by omega) (by omega) dL_law_241 (fun H1 locs1 hre1 hlo1 => ?_)
  clear hre hlo
  have hre := hre1
  have hlo := hlo1
  refine lv_aload_n hx hb dL_law_244 rfl (lv_at hls 1 rfl) ?_
  refine lv_aload_n hx hb dL_law_245 rfl (lv_at hls 3 rfl) ?_
  refine lv_iload_n hx hb dL_law_246 rfl (lv_at hls 0 rfl) ?_
  refine lv_iconst (v := nI 1) hx hb dL_law_247 (by decide) ?_
  refine lv_iadd hx hb dL_law_248 ?_
  rw [nI_add]
  refine lw_sld C hlo (by omega) hN dL_law_249 ?_
  refine lw_cal (k := 151) (a := ob_aM) (As := [.int (xs (6 * n + 1))]) (rest := [.int r]) C hre hlo hls.1 (by decide) (by decide +kernel) (pm_w1_in (i := 1285) (by decide +kernel)) h2 h3 (show (1 : Nat) = pm_a 151 by decide +kernel) (show (2 : Nat) ≤ pm_n 151 by decide +kernel) (show (1 : Nat) ≤ 8 by decide) k1 k2 dL_law_250 (fun H2 locs2 hre2 hlo2 => ?_)
  refine lv_icmp_eq (tgt := 1075) hx hb dL_law_253 (by decide) (fun _ => ?_) (fun hne => absurd rfl hne)
  exact kk w2 H2 locs2 h4 hre2 hlo2
set_option maxHeartbeats 2000000 in
theorem lw_case_2 {n : Nat} {I : pm_H → Prop} (C : lw_cx p s m meth c b L xs D K) (hL : L ≤ 3072) (hi : 6 * n + 6 ≤ L) (hre : pm_re D s.heap.size K s w H) (hlo : ∀ x ∈ locs, s.heap.size ≤ x.base) (hls : lv_has ls 4 [(3, .int (nI (6 * n))), (2, .ref (s.heap.size + ob_aM)), (1, .ref (s.heap.size + 0)), (0, .ref b)]) (hrm : ob_rm w) (hI : ∀ w, I w → ob_rm w)
    (hok : ob_ok 2 [xs (6 * n + 1), xs (6 * n + 2), xs (6 * n + 3), xs (6 * n + 4), xs (6 * n + 5)] w I)
    (kk : ∀ (w2 : pm_H) (H2 : Heap) (locs2 : List Loc), I w2 → pm_re D s.heap.size K s w2 H2 → (∀ x ∈ locs2, s.heap.size ≤ x.base) → W p l e room_1 s m #[Value.ref b] below meth c H2 locs2 w2.length (pm_sz w2) Q (F0 m 1075 ls [])) : W p l e room_1 s m #[Value.ref b] below meth c H locs w.length (pm_sz w) Q (F0 m 258 ls []) := by
  have hN : L < 2 ^ 31 := by omega
  obtain ⟨hx, hb, hr, hml, hown, hts, hX, hbl, hlocks, hgv⟩ := id C.1
  obtain ⟨f, r, w1, w2, h1, h2, ⟨fs1, h3⟩, h4⟩ := hok
  obtain ⟨m1, m2, ⟨fs0, m3⟩, ⟨fs2, m4⟩⟩ := hrm
  obtain ⟨k1, k2, -, -⟩ := hI _ h4
  have q1 := pn_mono _ _ _ _ _ _ _ _ _ h1
  have q2 := pn_mono _ _ _ _ _ _ _ _ _ h2
  refine lv_aload_n hx hb dL_law_258 rfl (lv_at hls 2 rfl) ?_
  refine lw_cal (k := 109) (a := 0) (As := []) (rest := []) C hre hlo hls.1 (by decide) (by decide +kernel) (pm_w1_in (i := 479) (by decide +kernel)) h1 m3 (show (0 : Nat) = pm_a 109 by decide +kernel) (show (1 : Nat) ≤ pm_n 109 by decide +kernel) (by decide) (by omega) (by omega) dL_law_259 (fun H1 locs1 hre1 hlo1 => ?_)
  clear hre hlo
  have hre := hre1
  have hlo := hlo1
  refine lv_aload_n hx hb dL_law_262 rfl (lv_at hls 1 rfl) ?_
  refine lw_cal (k := 184) (a := ob_aM) (As := []) (rest := [.int r]) C hre hlo hls.1 (by decide) (by decide +kernel) (pm_w1_in (i := 1439) (by decide +kernel)) h2 h3 (show (0 : Nat) = pm_a 184 by decide +kernel) (show (1 : Nat) ≤ pm_n 184 by decide +kernel) (show (1 : Nat) ≤ 8 by decide) k1 k2 dL_law_263 (fun H2 locs2 hre2 hlo2 => ?_)
  refine lv_icmp_eq (tgt := 1075) hx hb dL_law_266 (by decide) (fun _ => ?_) (fun hne => absurd rfl hne)
  exact kk w2 H2 locs2 h4 hre2 hlo2
set_option maxHeartbeats 2000000 in
theorem lw_case_3 {n : Nat} {I : pm_H → Prop} (C : lw_cx p s m meth c b L xs D K) (hL : L ≤ 3072) (hi : 6 * n + 6 ≤ L) (hre : pm_re D s.heap.size K s w H) (hlo : ∀ x ∈ locs, s.heap.size ≤ x.base) (hls : lv_has ls 4 [(3, .int (nI (6 * n))), (2, .ref (s.heap.size + ob_aM)), (1, .ref (s.heap.size + 0)), (0, .ref b)]) (hrm : ob_rm w) (hI : ∀ w, I w → ob_rm w)
    (hok : ob_ok 3 [xs (6 * n + 1), xs (6 * n + 2), xs (6 * n + 3), xs (6 * n + 4), xs (6 * n + 5)] w I)
    (kk : ∀ (w2 : pm_H) (H2 : Heap) (locs2 : List Loc), I w2 → pm_re D s.heap.size K s w2 H2 → (∀ x ∈ locs2, s.heap.size ≤ x.base) → W p l e room_1 s m #[Value.ref b] below meth c H2 locs2 w2.length (pm_sz w2) Q (F0 m 1075 ls [])) : W p l e room_1 s m #[Value.ref b] below meth c H locs w.length (pm_sz w) Q (F0 m 271 ls []) := by
  have hN : L < 2 ^ 31 := by omega
  obtain ⟨hx, hb, hr, hml, hown, hts, hX, hbl, hlocks, hgv⟩ := id C.1
  obtain ⟨f, r, w1, w2, h1, h2, ⟨fs1, h3⟩, h4⟩ := hok
  obtain ⟨m1, m2, ⟨fs0, m3⟩, ⟨fs2, m4⟩⟩ := hrm
  obtain ⟨k1, k2, -, -⟩ := hI _ h4
  have q1 := pn_mono _ _ _ _ _ _ _ _ _ h1
  have q2 := pn_mono _ _ _ _ _ _ _ _ _ h2
  refine lv_aload_n hx hb dL_law_271 rfl (lv_at hls 2 rfl) ?_
  refine lw_cal (k := 110) (a := 0) (As := []) (rest := []) C hre hlo hls.1 (by decide) (by decide +kernel) (pm_w1_in (i := 637) (by decide +kernel)) h1 m3 (show (0 : Nat) = pm_a 110 by decide +kernel) (show (1 : Nat) ≤ pm_n 110 by decide +kernel) (by decide) (by omega) (by omega) dL_law_272 (fun H1 locs1 hre1 hlo1 => ?_)
  clear hre hlo
  have hre := hre1
  have hlo := hlo1
  refine lv_aload_n hx hb dL_law_275 rfl (lv_at hls 1 rfl) ?_
  refine lw_cal (k := 183) (a := ob_aM) (As := []) (rest := [.int r]) C hre hlo hls.1 (by decide) (by decide +kernel) (pm_w1_in (i := 1289) (by decide +kernel)) h2 h3 (show (0 : Nat) = pm_a 183 by decide +kernel) (show (1 : Nat) ≤ pm_n 183 by decide +kernel) (show (1 : Nat) ≤ 8 by decide) k1 k2 dL_law_276 (fun H2 locs2 hre2 hlo2 => ?_)
  refine lv_icmp_eq (tgt := 1075) hx hb dL_law_279 (by decide) (fun _ => ?_) (fun hne => absurd rfl hne)
  exact kk w2 H2 locs2 h4 hre2 hlo2
set_option maxHeartbeats 2000000 in
theorem lw_case_4 {n : Nat} {I : pm_H → Prop} (C : lw_cx p s m meth c b L xs D K) (hL : L ≤ 3072) (hi : 6 * n + 6 ≤ L) (hre : pm_re D s.heap.size K s w H) (hlo : ∀ x ∈ locs, s.heap.size ≤ x.base) (hls : lv_has ls 4 [(3, .int (nI (6 * n))), (2, .ref (s.heap.size + ob_aM)), (1, .ref (s.heap.size + 0)), (0, .ref b)]) (hrm : ob_rm w) (hI : ∀ w, I w → ob_rm w)
    (hok : ob_ok 4 [xs (6 * n + 1), xs (6 * n + 2), xs (6 * n + 3), xs (6 * n + 4), xs (6 * n + 5)] w I)
    (kk : ∀ (w2 : pm_H) (H2 : Heap) (locs2 : List Loc), I w2 → pm_re D s.heap.size K s w2 H2 → (∀ x ∈ locs2, s.heap.size ≤ x.base) → W p l e room_1 s m #[Value.ref b] below meth c H2 locs2 w2.length (pm_sz w2) Q (F0 m 1075 ls [])) : W p l e room_1 s m #[Value.ref b] below meth c H locs w.length (pm_sz w) Q (F0 m 284 ls []) := by
  have hN : L < 2 ^ 31 := by omega
  obtain ⟨hx, hb, hr, hml, hown, hts, hX, hbl, hlocks, hgv⟩ := id C.1
  obtain ⟨f, r, w1, w2, h1, h2, ⟨fs1, h3⟩, h4⟩ := hok
  obtain ⟨m1, m2, ⟨fs0, m3⟩, ⟨fs2, m4⟩⟩ := hrm
  obtain ⟨k1, k2, -, -⟩ := hI _ h4
  have q1 := pn_mono _ _ _ _ _ _ _ _ _ h1
  have q2 := pn_mono _ _ _ _ _ _ _ _ _ h2
  refine lv_aload_n hx hb dL_law_284 rfl (lv_at hls 2 rfl) ?_
  refine lv_aload_n hx hb dL_law_285 rfl (lv_at hls 3 rfl) ?_
  refine lv_iload_n hx hb dL_law_286 rfl (lv_at hls 0 rfl) ?_
  refine lv_iconst (v := nI 1) hx hb dL_law_287 (by decide) ?_
  refine lv_iadd hx hb dL_law_288 ?_
  rw [nI_add]
  refine lw_sld C hlo (by omega) hN dL_law_289 ?_
  refine lw_cal (k := 111) (a := 0) (As := [.int (xs (6 * n + 1))]) (rest := []) C hre hlo hls.1 (by decide) (by decide +kernel) (pm_w1_in (i := 735) (by decide +kernel)) h1 m3 (show (1 : Nat) = pm_a 111 by decide +kernel) (show (2 : Nat) ≤ pm_n 111 by decide +kernel) (by decide) (by omega) (by omega) dL_law_290 (fun H1 locs1 hre1 hlo1 => ?_)
  clear hre hlo
  have hre := hre1
  have hlo := hlo1
  refine lv_aload_n hx hb dL_law_293 rfl (lv_at hls 1 rfl) ?_
  refine lv_aload_n hx hb dL_law_294 rfl (lv_at hls 3 rfl) ?_
  refine lv_iload_n hx hb dL_law_295 rfl (lv_at hls 0 rfl) ?_
  refine lv_iconst (v := nI 1) hx hb dL_law_296 (by decide) ?_
  refine lv_iadd hx hb dL_law_297 ?_
  rw [nI_add]
  refine lw_sld C hlo (by omega) hN dL_law_298 ?_
  refine lw_cal (k := 199) (a := ob_aM) (As := [.int (xs (6 * n + 1))]) (rest := [.int r]) C hre hlo hls.1 (by decide) (by decide +kernel) (pm_w1_in (i := 1451) (by decide +kernel)) h2 h3 (show (1 : Nat) = pm_a 199 by decide +kernel) (show (2 : Nat) ≤ pm_n 199 by decide +kernel) (show (1 : Nat) ≤ 8 by decide) k1 k2 dL_law_299 (fun H2 locs2 hre2 hlo2 => ?_)
  refine lv_icmp_eq (tgt := 1075) hx hb dL_law_302 (by decide) (fun _ => ?_) (fun hne => absurd rfl hne)
  exact kk w2 H2 locs2 h4 hre2 hlo2
set_option maxHeartbeats 2000000 in
theorem lw_case_5 {n : Nat} {I : pm_H → Prop} (C : lw_cx p s m meth c b L xs D K) (hL : L ≤ 3072) (hi : 6 * n + 6 ≤ L) (hre : pm_re D s.heap.size K s w H) (hlo : ∀ x ∈ locs, s.heap.size ≤ x.base) (hls : lv_has ls 4 [(3, .int (nI (6 * n))), (2, .ref (s.heap.size + ob_aM)), (1, .ref (s.heap.size + 0)), (0, .ref b)]) (hrm : ob_rm w) (hI : ∀ w, I w → ob_rm w)
    (hok : ob_ok 5 [xs (6 * n + 1), xs (6 * n + 2), xs (6 * n + 3), xs (6 * n + 4), xs (6 * n + 5)] w I)
    (kk : ∀ (w2 : pm_H) (H2 : Heap) (locs2 : List Loc), I w2 → pm_re D s.heap.size K s w2 H2 → (∀ x ∈ locs2, s.heap.size ≤ x.base) → W p l e room_1 s m #[Value.ref b] below meth c H2 locs2 w2.length (pm_sz w2) Q (F0 m 1075 ls [])) : W p l e room_1 s m #[Value.ref b] below meth c H locs w.length (pm_sz w) Q (F0 m 307 ls []) := by
  have hN : L < 2 ^ 31 := by omega
  obtain ⟨hx, hb, hr, hml, hown, hts, hX, hbl, hlocks, hgv⟩ := id C.1
  obtain ⟨f, r, w1, w2, h1, h2, ⟨fs1, h3⟩, h4⟩ := hok
  obtain ⟨m1, m2, ⟨fs0, m3⟩, ⟨fs2, m4⟩⟩ := hrm
  obtain ⟨k1, k2, -, -⟩ := hI _ h4
  have q1 := pn_mono _ _ _ _ _ _ _ _ _ h1
  have q2 := pn_mono _ _ _ _ _ _ _ _ _ h2
  refine lv_aload_n hx hb dL_law_307 rfl (lv_at hls 2 rfl) ?_
  refine lv_aload_n hx hb dL_law_308 rfl (lv_at hls 3 rfl) ?_
  refine lv_iload_n hx hb dL_law_309 rfl (lv_at hls 0 rfl) ?_
  refine lv_iconst (v := nI 1) hx hb dL_law_310 (by decide) ?_
  refine lv_iadd hx hb dL_law_311 ?_
  rw [nI_add]
  refine lw_sld C hlo (by omega) hN dL_law_312 ?_
  refine lv_aload_n hx hb dL_law_313 rfl (lv_at hls 3 rfl) ?_
  refine lv_iload_n hx hb dL_law_314 rfl (lv_at hls 0 rfl) ?_
  refine lv_iconst (v := nI 2) hx hb dL_law_315 (by decide) ?_
  refine lv_iadd hx hb dL_law_316 ?_
  rw [nI_add]
  refine lw_sld C hlo (by omega) hN dL_law_317 ?_
  refine lw_cal (k := 112) (a := 0) (As := [.int (xs (6 * n + 1)), .int (xs (6 * n + 2))]) (rest := []) C hre hlo hls.1 (by decide) (by decide +kernel) (pm_w1_in (i := 739) (by decide +kernel)) h1 m3 (show (2 : Nat) = pm_a 112 by decide +kernel) (show (3 : Nat) ≤ pm_n 112 by decide +kernel) (by decide) (by omega) (by omega) dL_law_318 (fun H1 locs1 hre1 hlo1 => ?_)
  clear hre hlo
  have hre := hre1
  have hlo := hlo1
  refine lv_aload_n hx hb dL_law_321 rfl (lv_at hls 1 rfl) ?_
  refine lv_aload_n hx hb dL_law_322 rfl (lv_at hls 3 rfl) ?_
  refine lv_iload_n hx hb dL_law_323 rfl (lv_at hls 0 rfl) ?_
  refine lv_iconst (v := nI 1) hx hb dL_law_324 (by decide) ?_
  refine lv_iadd hx hb dL_law_325 ?_
  rw [nI_add]
  refine lw_sld C hlo (by omega) hN dL_law_326 ?_
  refine lv_aload_n hx hb dL_law_327 rfl (lv_at hls 3 rfl) ?_
  refine lv_iload_n hx hb dL_law_328 rfl (lv_at hls 0 rfl) ?_
  refine lv_iconst (v := nI 2) hx hb dL_law_329 (by decide) ?_
  refine lv_iadd hx hb dL_law_330 ?_
  rw [nI_add]
  refine lw_sld C hlo (by omega) hN dL_law_331 ?_
  refine lw_cal (k := 200) (a := ob_aM) (As := [.int (xs (6 * n + 1)), .int (xs (6 * n + 2))]) (rest := [.int r]) C hre hlo hls.1 (by decide) (by decide +kernel) (pm_w1_in (i := 1459) (by decide +kernel)) h2 h3 (show (2 : Nat) = pm_a 200 by decide +kernel) (show (3 : Nat) ≤ pm_n 200 by decide +kernel) (show (1 : Nat) ≤ 8 by decide) k1 k2 dL_law_332 (fun H2 locs2 hre2 hlo2 => ?_)
  refine lv_icmp_eq (tgt := 1075) hx hb dL_law_335 (by decide) (fun _ => ?_) (fun hne => absurd rfl hne)
  exact kk w2 H2 locs2 h4 hre2 hlo2
set_option maxHeartbeats 2000000 in
theorem lw_case_6 {n : Nat} {I : pm_H → Prop} (C : lw_cx p s m meth c b L xs D K) (hL : L ≤ 3072) (hi : 6 * n + 6 ≤ L) (hre : pm_re D s.heap.size K s w H) (hlo : ∀ x ∈ locs, s.heap.size ≤ x.base) (hls : lv_has ls 4 [(3, .int (nI (6 * n))), (2, .ref (s.heap.size + ob_aM)), (1, .ref (s.heap.size + 0)), (0, .ref b)]) (hrm : ob_rm w) (hI : ∀ w, I w → ob_rm w)
    (hok : ob_ok 6 [xs (6 * n + 1), xs (6 * n + 2), xs (6 * n + 3), xs (6 * n + 4), xs (6 * n + 5)] w I)
    (kk : ∀ (w2 : pm_H) (H2 : Heap) (locs2 : List Loc), I w2 → pm_re D s.heap.size K s w2 H2 → (∀ x ∈ locs2, s.heap.size ≤ x.base) → W p l e room_1 s m #[Value.ref b] below meth c H2 locs2 w2.length (pm_sz w2) Q (F0 m 1075 ls [])) : W p l e room_1 s m #[Value.ref b] below meth c H locs w.length (pm_sz w) Q (F0 m 340 ls []) := by
  have hN : L < 2 ^ 31 := by omega
  obtain ⟨hx, hb, hr, hml, hown, hts, hX, hbl, hlocks, hgv⟩ := id C.1
  obtain ⟨f, r, w1, w2, h1, h2, ⟨fs1, h3⟩, h4⟩ := hok
  obtain ⟨m1, m2, ⟨fs0, m3⟩, ⟨fs2, m4⟩⟩ := hrm
  obtain ⟨k1, k2, -, -⟩ := hI _ h4
  have q1 := pn_mono _ _ _ _ _ _ _ _ _ h1
  have q2 := pn_mono _ _ _ _ _ _ _ _ _ h2
  refine lv_aload_n hx hb dL_law_340 rfl (lv_at hls 2 rfl) ?_
  refine lv_aload_n hx hb dL_law_341 rfl (lv_at hls 3 rfl) ?_
  refine lv_iload_n hx hb dL_law_342 rfl (lv_at hls 0 rfl) ?_
  refine lv_iconst (v := nI 1) hx hb dL_law_343 (by decide) ?_
  refine lv_iadd hx hb dL_law_344 ?_
  rw [nI_add]
  refine lw_sld C hlo (by omega) hN dL_law_345 ?_
  refine lv_aload_n hx hb dL_law_346 rfl (lv_at hls 3 rfl) ?_
  refine lv_iload_n hx hb dL_law_347 rfl (lv_at hls 0 rfl) ?_
  refine lv_iconst (v := nI 2) hx hb dL_law_348 (by decide) ?_
  refine lv_iadd hx hb dL_law_349 ?_
  rw [nI_add]
  refine lw_sld C hlo (by omega) hN dL_law_350 ?_
  refine lw_cal (k := 113) (a := 0) (As := [.int (xs (6 * n + 1)), .int (xs (6 * n + 2))]) (rest := []) C hre hlo hls.1 (by decide) (by decide +kernel) (pm_w1_in (i := 744) (by decide +kernel)) h1 m3 (show (2 : Nat) = pm_a 113 by decide +kernel) (show (3 : Nat) ≤ pm_n 113 by decide +kernel) (by decide) (by omega) (by omega) dL_law_351 (fun H1 locs1 hre1 hlo1 => ?_)
  clear hre hlo
  have hre := hre1
  have hlo := hlo1
  refine lv_aload_n hx hb dL_law_354 rfl (lv_at hls 1 rfl) ?_
  refine lv_aload_n hx hb dL_law_355 rfl (lv_at hls 3 rfl) ?_
  refine lv_iload_n hx hb dL_law_356 rfl (lv_at hls 0 rfl) ?_
  refine lv_iconst (v := nI 1) hx hb dL_law_357 (by decide) ?_
  refine lv_iadd hx hb dL_law_358 ?_
  rw [nI_add]
  refine lw_sld C hlo (by omega) hN dL_law_359 ?_
  refine lv_aload_n hx hb dL_law_360 rfl (lv_at hls 3 rfl) ?_
  refine lv_iload_n hx hb dL_law_361 rfl (lv_at hls 0 rfl) ?_
  refine lv_iconst (v := nI 2) hx hb dL_law_362 (by decide) ?_
  refine lv_iadd hx hb dL_law_363 ?_
  rw [nI_add]
  refine lw_sld C hlo (by omega) hN dL_law_364 ?_
  refine lw_cal (k := 201) (a := ob_aM) (As := [.int (xs (6 * n + 1)), .int (xs (6 * n + 2))]) (rest := [.int r]) C hre hlo hls.1 (by decide) (by decide +kernel) (pm_w1_in (i := 1472) (by decide +kernel)) h2 h3 (show (2 : Nat) = pm_a 201 by decide +kernel) (show (3 : Nat) ≤ pm_n 201 by decide +kernel) (show (1 : Nat) ≤ 8 by decide) k1 k2 dL_law_365 (fun H2 locs2 hre2 hlo2 => ?_)
  refine lv_icmp_eq (tgt := 1075) hx hb dL_law_368 (by decide) (fun _ => ?_) (fun hne => absurd rfl hne)
  exact kk w2 H2 locs2 h4 hre2 hlo2
set_option maxHeartbeats 2000000 in
theorem lw_case_7 {n : Nat} {I : pm_H → Prop} (C : lw_cx p s m meth c b L xs D K) (hL : L ≤ 3072) (hi : 6 * n + 6 ≤ L) (hre : pm_re D s.heap.size K s w H) (hlo : ∀ x ∈ locs, s.heap.size ≤ x.base) (hls : lv_has ls 4 [(3, .int (nI (6 * n))), (2, .ref (s.heap.size + ob_aM)), (1, .ref (s.heap.size + 0)), (0, .ref b)]) (hrm : ob_rm w) (hI : ∀ w, I w → ob_rm w)
    (hok : ob_ok 7 [xs (6 * n + 1), xs (6 * n + 2), xs (6 * n + 3), xs (6 * n + 4), xs (6 * n + 5)] w I)
    (kk : ∀ (w2 : pm_H) (H2 : Heap) (locs2 : List Loc), I w2 → pm_re D s.heap.size K s w2 H2 → (∀ x ∈ locs2, s.heap.size ≤ x.base) → W p l e room_1 s m #[Value.ref b] below meth c H2 locs2 w2.length (pm_sz w2) Q (F0 m 1075 ls [])) : W p l e room_1 s m #[Value.ref b] below meth c H locs w.length (pm_sz w) Q (F0 m 373 ls []) := by
  have hN : L < 2 ^ 31 := by omega
  obtain ⟨hx, hb, hr, hml, hown, hts, hX, hbl, hlocks, hgv⟩ := id C.1
  obtain ⟨f, r, w1, w2, h1, h2, ⟨fs1, h3⟩, h4⟩ := hok
  obtain ⟨m1, m2, ⟨fs0, m3⟩, ⟨fs2, m4⟩⟩ := hrm
  obtain ⟨k1, k2, -, -⟩ := hI _ h4
  have q1 := pn_mono _ _ _ _ _ _ _ _ _ h1
  have q2 := pn_mono _ _ _ _ _ _ _ _ _ h2
  refine lv_aload_n hx hb dL_law_373 rfl (lv_at hls 2 rfl) ?_
  refine lv_aload_n hx hb dL_law_374 rfl (lv_at hls 3 rfl) ?_
  refine lv_iload_n hx hb dL_law_375 rfl (lv_at hls 0 rfl) ?_
  refine lv_iconst (v := nI 1) hx hb dL_law_376 (by decide) ?_
  refine lv_iadd hx hb dL_law_377 ?_
  rw [nI_add]
  refine lw_sld C hlo (by omega) hN dL_law_378 ?_
  refine lv_aload_n hx hb dL_law_379 rfl (lv_at hls 3 rfl) ?_
  refine lv_iload_n hx hb dL_law_380 rfl (lv_at hls 0 rfl) ?_
  refine lv_iconst (v := nI 2) hx hb dL_law_381 (by decide) ?_
  refine lv_iadd hx hb dL_law_382 ?_
  rw [nI_add]
  refine lw_sld C hlo (by omega) hN dL_law_383 ?_
  refine lw_cal (k := 114) (a := 0) (As := [.int (xs (6 * n + 1)), .int (xs (6 * n + 2))]) (rest := []) C hre hlo hls.1 (by decide) (by decide +kernel) (pm_w1_in (i := 752) (by decide +kernel)) h1 m3 (show (2 : Nat) = pm_a 114 by decide +kernel) (show (3 : Nat) ≤ pm_n 114 by decide +kernel) (by decide) (by omega) (by omega) dL_law_384 (fun H1 locs1 hre1 hlo1 => ?_)
  clear hre hlo
  have hre := hre1
  have hlo := hlo1
  refine lv_aload_n hx hb dL_law_387 rfl (lv_at hls 1 rfl) ?_
  refine lv_aload_n hx hb dL_law_388 rfl (lv_at hls 3 rfl) ?_
  refine lv_iload_n hx hb dL_law_389 rfl (lv_at hls 0 rfl) ?_
  refine lv_iconst (v := nI 1) hx hb dL_law_390 (by decide) ?_
  refine lv_iadd hx hb dL_law_391 ?_
  rw [nI_add]
  refine lw_sld C hlo (by omega) hN dL_law_392 ?_
  refine lv_aload_n hx hb dL_law_393 rfl (lv_at hls 3 rfl) ?_
  refine lv_iload_n hx hb dL_law_394 rfl (lv_at hls 0 rfl) ?_
  refine lv_iconst (v := nI 2) hx hb dL_law_395 (by decide) ?_
  refine lv_iadd hx hb dL_law_396 ?_
  rw [nI_add]
  refine lw_sld C hlo (by omega) hN dL_law_397 ?_
  refine lw_cal (k := 202) (a := ob_aM) (As := [.int (xs (6 * n + 1)), .int (xs (6 * n + 2))]) (rest := [.int r]) C hre hlo hls.1 (by decide) (by decide +kernel) (pm_w1_in (i := 1484) (by decide +kernel)) h2 h3 (show (2 : Nat) = pm_a 202 by decide +kernel) (show (3 : Nat) ≤ pm_n 202 by decide +kernel) (show (1 : Nat) ≤ 8 by decide) k1 k2 dL_law_398 (fun H2 locs2 hre2 hlo2 => ?_)
  refine lv_icmp_eq (tgt := 1075) hx hb dL_law_401 (by decide) (fun _ => ?_) (fun hne => absurd rfl hne)
  exact kk w2 H2 locs2 h4 hre2 hlo2
set_option maxHeartbeats 2000000 in
theorem lw_case_8 {n : Nat} {I : pm_H → Prop} (C : lw_cx p s m meth c b L xs D K) (hL : L ≤ 3072) (hi : 6 * n + 6 ≤ L) (hre : pm_re D s.heap.size K s w H) (hlo : ∀ x ∈ locs, s.heap.size ≤ x.base) (hls : lv_has ls 4 [(3, .int (nI (6 * n))), (2, .ref (s.heap.size + ob_aM)), (1, .ref (s.heap.size + 0)), (0, .ref b)]) (hrm : ob_rm w) (hI : ∀ w, I w → ob_rm w)
    (hok : ob_ok 8 [xs (6 * n + 1), xs (6 * n + 2), xs (6 * n + 3), xs (6 * n + 4), xs (6 * n + 5)] w I)
    (kk : ∀ (w2 : pm_H) (H2 : Heap) (locs2 : List Loc), I w2 → pm_re D s.heap.size K s w2 H2 → (∀ x ∈ locs2, s.heap.size ≤ x.base) → W p l e room_1 s m #[Value.ref b] below meth c H2 locs2 w2.length (pm_sz w2) Q (F0 m 1075 ls [])) : W p l e room_1 s m #[Value.ref b] below meth c H locs w.length (pm_sz w) Q (F0 m 406 ls []) := by
  have hN : L < 2 ^ 31 := by omega
  obtain ⟨hx, hb, hr, hml, hown, hts, hX, hbl, hlocks, hgv⟩ := id C.1
  obtain ⟨f, r, w1, w2, h1, h2, ⟨fs1, h3⟩, h4⟩ := hok
  obtain ⟨m1, m2, ⟨fs0, m3⟩, ⟨fs2, m4⟩⟩ := hrm
  obtain ⟨k1, k2, -, -⟩ := hI _ h4
  have q1 := pn_mono _ _ _ _ _ _ _ _ _ h1
  have q2 := pn_mono _ _ _ _ _ _ _ _ _ h2
  refine lv_aload_n hx hb dL_law_406 rfl (lv_at hls 2 rfl) ?_
  refine lv_aload_n hx hb dL_law_407 rfl (lv_at hls 3 rfl) ?_
  refine lv_iload_n hx hb dL_law_408 rfl (lv_at hls 0 rfl) ?_
  refine lv_iconst (v := nI 1) hx hb dL_law_409 (by decide) ?_
  refine lv_iadd hx hb dL_law_410 ?_
  rw [nI_add]
  refine lw_sld C hlo (by omega) hN dL_law_411 ?_
  refine lw_cal (k := 115) (a := 0) (As := [.int (xs (6 * n + 1))]) (rest := []) C hre hlo hls.1 (by decide) (by decide +kernel) (pm_w1_in (i := 764) (by decide +kernel)) h1 m3 (show (1 : Nat) = pm_a 115 by decide +kernel) (show (2 : Nat) ≤ pm_n 115 by decide +kernel) (by decide) (by omega) (by omega) dL_law_412 (fun H1 locs1 hre1 hlo1 => ?_)
  clear hre hlo
  have hre := hre1
  have hlo := hlo1
  refine lv_aload_n hx hb dL_law_415 rfl (lv_at hls 1 rfl) ?_
  refine lv_aload_n hx hb dL_law_416 rfl (lv_at hls 3 rfl) ?_
  refine lv_iload_n hx hb dL_law_417 rfl (lv_at hls 0 rfl) ?_
  refine lv_iconst (v := nI 1) hx hb dL_law_418 (by decide) ?_
  refine lv_iadd hx hb dL_law_419 ?_
  rw [nI_add]
  refine lw_sld C hlo (by omega) hN dL_law_420 ?_
  refine lw_cal (k := 203) (a := ob_aM) (As := [.int (xs (6 * n + 1))]) (rest := [.int r]) C hre hlo hls.1 (by decide) (by decide +kernel) (pm_w1_in (i := 1496) (by decide +kernel)) h2 h3 (show (1 : Nat) = pm_a 203 by decide +kernel) (show (2 : Nat) ≤ pm_n 203 by decide +kernel) (show (1 : Nat) ≤ 8 by decide) k1 k2 dL_law_421 (fun H2 locs2 hre2 hlo2 => ?_)
  refine lv_icmp_eq (tgt := 1075) hx hb dL_law_424 (by decide) (fun _ => ?_) (fun hne => absurd rfl hne)
  exact kk w2 H2 locs2 h4 hre2 hlo2
set_option maxHeartbeats 2000000 in
theorem lw_case_9 {n : Nat} {I : pm_H → Prop} (C : lw_cx p s m meth c b L xs D K) (hL : L ≤ 3072) (hi : 6 * n + 6 ≤ L) (hre : pm_re D s.heap.size K s w H) (hlo : ∀ x ∈ locs, s.heap.size ≤ x.base) (hls : lv_has ls 4 [(3, .int (nI (6 * n))), (2, .ref (s.heap.size + ob_aM)), (1, .ref (s.heap.size + 0)), (0, .ref b)]) (hrm : ob_rm w) (hI : ∀ w, I w → ob_rm w)
    (hok : ob_ok 9 [xs (6 * n + 1), xs (6 * n + 2), xs (6 * n + 3), xs (6 * n + 4), xs (6 * n + 5)] w I)
    (kk : ∀ (w2 : pm_H) (H2 : Heap) (locs2 : List Loc), I w2 → pm_re D s.heap.size K s w2 H2 → (∀ x ∈ locs2, s.heap.size ≤ x.base) → W p l e room_1 s m #[Value.ref b] below meth c H2 locs2 w2.length (pm_sz w2) Q (F0 m 1075 ls [])) : W p l e room_1 s m #[Value.ref b] below meth c H locs w.length (pm_sz w) Q (F0 m 429 ls []) := by
  have hN : L < 2 ^ 31 := by omega
  obtain ⟨hx, hb, hr, hml, hown, hts, hX, hbl, hlocks, hgv⟩ := id C.1
  obtain ⟨f, r, w1, w2, h1, h2, ⟨fs1, h3⟩, h4⟩ := hok
  obtain ⟨m1, m2, ⟨fs0, m3⟩, ⟨fs2, m4⟩⟩ := hrm
  obtain ⟨k1, k2, -, -⟩ := hI _ h4
  have q1 := pn_mono _ _ _ _ _ _ _ _ _ h1
  have q2 := pn_mono _ _ _ _ _ _ _ _ _ h2
  refine lv_aload_n hx hb dL_law_429 rfl (lv_at hls 2 rfl) ?_
  refine lv_aload_n hx hb dL_law_430 rfl (lv_at hls 3 rfl) ?_
  refine lv_iload_n hx hb dL_law_431 rfl (lv_at hls 0 rfl) ?_
  refine lv_iconst (v := nI 1) hx hb dL_law_432 (by decide) ?_
  refine lv_iadd hx hb dL_law_433 ?_
  rw [nI_add]
  refine lw_sld C hlo (by omega) hN dL_law_434 ?_
  refine lv_aload_n hx hb dL_law_435 rfl (lv_at hls 3 rfl) ?_
  refine lv_iload_n hx hb dL_law_436 rfl (lv_at hls 0 rfl) ?_
  refine lv_iconst (v := nI 2) hx hb dL_law_437 (by decide) ?_
  refine lv_iadd hx hb dL_law_438 ?_
  rw [nI_add]
  refine lw_sld C hlo (by omega) hN dL_law_439 ?_
  refine lv_aload_n hx hb dL_law_440 rfl (lv_at hls 3 rfl) ?_
  refine lv_iload_n hx hb dL_law_441 rfl (lv_at hls 0 rfl) ?_
  refine lv_iconst (v := nI 3) hx hb dL_law_442 (by decide) ?_
  refine lv_iadd hx hb dL_law_443 ?_
  rw [nI_add]
  refine lw_sld C hlo (by omega) hN dL_law_444 ?_
  refine lv_aload_n hx hb dL_law_445 rfl (lv_at hls 3 rfl) ?_
  refine lv_iload_n hx hb dL_law_446 rfl (lv_at hls 0 rfl) ?_
  refine lv_iconst (v := nI 4) hx hb dL_law_447 (by decide) ?_
  refine lv_iadd hx hb dL_law_448 ?_
  rw [nI_add]
  refine lw_sld C hlo (by omega) hN dL_law_449 ?_
  refine lw_cal (k := 116) (a := 0) (As := [.int (xs (6 * n + 1)), .int (xs (6 * n + 2)), .int (xs (6 * n + 3)), .int (xs (6 * n + 4))]) (rest := []) C hre hlo hls.1 (by decide) (by decide +kernel) (pm_w1_in (i := 768) (by decide +kernel)) h1 m3 (show (4 : Nat) = pm_a 116 by decide +kernel) (show (5 : Nat) ≤ pm_n 116 by decide +kernel) (by decide) (by omega) (by omega) dL_law_450 (fun H1 locs1 hre1 hlo1 => ?_)
  clear hre hlo
  have hre := hre1
  have hlo := hlo1
  refine lv_aload_n hx hb dL_law_453 rfl (lv_at hls 1 rfl) ?_
  refine lv_aload_n hx hb dL_law_454 rfl (lv_at hls 3 rfl) ?_
  refine lv_iload_n hx hb dL_law_455 rfl (lv_at hls 0 rfl) ?_
  refine lv_iconst (v := nI 1) hx hb dL_law_456 (by decide) ?_
  refine lv_iadd hx hb dL_law_457 ?_
  rw [nI_add]
  refine lw_sld C hlo (by omega) hN dL_law_458 ?_
  refine lv_aload_n hx hb dL_law_459 rfl (lv_at hls 3 rfl) ?_
  refine lv_iload_n hx hb dL_law_460 rfl (lv_at hls 0 rfl) ?_
  refine lv_iconst (v := nI 2) hx hb dL_law_461 (by decide) ?_
  refine lv_iadd hx hb dL_law_462 ?_
  rw [nI_add]
  refine lw_sld C hlo (by omega) hN dL_law_463 ?_
  refine lv_aload_n hx hb dL_law_464 rfl (lv_at hls 3 rfl) ?_
  refine lv_iload_n hx hb dL_law_465 rfl (lv_at hls 0 rfl) ?_
  refine lv_iconst (v := nI 3) hx hb dL_law_466 (by decide) ?_
  refine lv_iadd hx hb dL_law_467 ?_
  rw [nI_add]
  refine lw_sld C hlo (by omega) hN dL_law_468 ?_
  refine lv_aload_n hx hb dL_law_469 rfl (lv_at hls 3 rfl) ?_
  refine lv_iload_n hx hb dL_law_470 rfl (lv_at hls 0 rfl) ?_
  refine lv_iconst (v := nI 4) hx hb dL_law_471 (by decide) ?_
  refine lv_iadd hx hb dL_law_472 ?_
  rw [nI_add]
  refine lw_sld C hlo (by omega) hN dL_law_473 ?_
  refine lw_cal (k := 220) (a := ob_aM) (As := [.int (xs (6 * n + 1)), .int (xs (6 * n + 2)), .int (xs (6 * n + 3)), .int (xs (6 * n + 4))]) (rest := [.int r]) C hre hlo hls.1 (by decide) (by decide +kernel) (pm_w1_in (i := 1508) (by decide +kernel)) h2 h3 (show (4 : Nat) = pm_a 220 by decide +kernel) (show (5 : Nat) ≤ pm_n 220 by decide +kernel) (show (1 : Nat) ≤ 8 by decide) k1 k2 dL_law_474 (fun H2 locs2 hre2 hlo2 => ?_)
  refine lv_icmp_eq (tgt := 1075) hx hb dL_law_477 (by decide) (fun _ => ?_) (fun hne => absurd rfl hne)
  exact kk w2 H2 locs2 h4 hre2 hlo2
set_option maxHeartbeats 2000000 in
theorem lw_case_10 {n : Nat} {I : pm_H → Prop} (C : lw_cx p s m meth c b L xs D K) (hL : L ≤ 3072) (hi : 6 * n + 6 ≤ L) (hre : pm_re D s.heap.size K s w H) (hlo : ∀ x ∈ locs, s.heap.size ≤ x.base) (hls : lv_has ls 4 [(3, .int (nI (6 * n))), (2, .ref (s.heap.size + ob_aM)), (1, .ref (s.heap.size + 0)), (0, .ref b)]) (hrm : ob_rm w) (hI : ∀ w, I w → ob_rm w)
    (hok : ob_ok 10 [xs (6 * n + 1), xs (6 * n + 2), xs (6 * n + 3), xs (6 * n + 4), xs (6 * n + 5)] w I)
    (kk : ∀ (w2 : pm_H) (H2 : Heap) (locs2 : List Loc), I w2 → pm_re D s.heap.size K s w2 H2 → (∀ x ∈ locs2, s.heap.size ≤ x.base) → W p l e room_1 s m #[Value.ref b] below meth c H2 locs2 w2.length (pm_sz w2) Q (F0 m 1075 ls [])) : W p l e room_1 s m #[Value.ref b] below meth c H locs w.length (pm_sz w) Q (F0 m 482 ls []) := by
  have hN : L < 2 ^ 31 := by omega
  obtain ⟨hx, hb, hr, hml, hown, hts, hX, hbl, hlocks, hgv⟩ := id C.1
  obtain ⟨f, r, w1, w2, h1, h2, ⟨fs1, h3⟩, h4⟩ := hok
  obtain ⟨m1, m2, ⟨fs0, m3⟩, ⟨fs2, m4⟩⟩ := hrm
  obtain ⟨k1, k2, -, -⟩ := hI _ h4
  have q1 := pn_mono _ _ _ _ _ _ _ _ _ h1
  have q2 := pn_mono _ _ _ _ _ _ _ _ _ h2
  refine lv_aload_n hx hb dL_law_482 rfl (lv_at hls 2 rfl) ?_
  refine lw_cal (k := 117) (a := 0) (As := []) (rest := []) C hre hlo hls.1 (by decide) (by decide +kernel) (pm_w1_in (i := 867) (by decide +kernel)) h1 m3 (show (0 : Nat) = pm_a 117 by decide +kernel) (show (1 : Nat) ≤ pm_n 117 by decide +kernel) (by decide) (by omega) (by omega) dL_law_483 (fun H1 locs1 hre1 hlo1 => ?_)
  clear hre hlo
  have hre := hre1
  have hlo := hlo1
  refine lv_aload_n hx hb dL_law_486 rfl (lv_at hls 1 rfl) ?_
  refine lw_cal (k := 221) (a := ob_aM) (As := []) (rest := [.int r]) C hre hlo hls.1 (by decide) (by decide +kernel) (pm_w1_in (i := 1585) (by decide +kernel)) h2 h3 (show (0 : Nat) = pm_a 221 by decide +kernel) (show (1 : Nat) ≤ pm_n 221 by decide +kernel) (show (1 : Nat) ≤ 8 by decide) k1 k2 dL_law_487 (fun H2 locs2 hre2 hlo2 => ?_)
  refine lv_icmp_eq (tgt := 1075) hx hb dL_law_490 (by decide) (fun _ => ?_) (fun hne => absurd rfl hne)
  exact kk w2 H2 locs2 h4 hre2 hlo2
set_option maxHeartbeats 2000000 in
theorem lw_case_11 {n : Nat} {I : pm_H → Prop} (C : lw_cx p s m meth c b L xs D K) (hL : L ≤ 3072) (hi : 6 * n + 6 ≤ L) (hre : pm_re D s.heap.size K s w H) (hlo : ∀ x ∈ locs, s.heap.size ≤ x.base) (hls : lv_has ls 4 [(3, .int (nI (6 * n))), (2, .ref (s.heap.size + ob_aM)), (1, .ref (s.heap.size + 0)), (0, .ref b)]) (hrm : ob_rm w) (hI : ∀ w, I w → ob_rm w)
    (hok : ob_ok 11 [xs (6 * n + 1), xs (6 * n + 2), xs (6 * n + 3), xs (6 * n + 4), xs (6 * n + 5)] w I)
    (kk : ∀ (w2 : pm_H) (H2 : Heap) (locs2 : List Loc), I w2 → pm_re D s.heap.size K s w2 H2 → (∀ x ∈ locs2, s.heap.size ≤ x.base) → W p l e room_1 s m #[Value.ref b] below meth c H2 locs2 w2.length (pm_sz w2) Q (F0 m 1075 ls [])) : W p l e room_1 s m #[Value.ref b] below meth c H locs w.length (pm_sz w) Q (F0 m 495 ls []) := by
  have hN : L < 2 ^ 31 := by omega
  obtain ⟨hx, hb, hr, hml, hown, hts, hX, hbl, hlocks, hgv⟩ := id C.1
  obtain ⟨f, r, w1, w2, h1, h2, ⟨fs1, h3⟩, h4⟩ := hok
  obtain ⟨m1, m2, ⟨fs0, m3⟩, ⟨fs2, m4⟩⟩ := hrm
  obtain ⟨k1, k2, -, -⟩ := hI _ h4
  have q1 := pn_mono _ _ _ _ _ _ _ _ _ h1
  have q2 := pn_mono _ _ _ _ _ _ _ _ _ h2
  refine lv_aload_n hx hb dL_law_495 rfl (lv_at hls 2 rfl) ?_
  refine lv_aload_n hx hb dL_law_496 rfl (lv_at hls 3 rfl) ?_
  refine lv_iload_n hx hb dL_law_497 rfl (lv_at hls 0 rfl) ?_
  refine lv_iconst (v := nI 1) hx hb dL_law_498 (by decide) ?_
  refine lv_iadd hx hb dL_law_499 ?_
  rw [nI_add]
  refine lw_sld C hlo (by omega) hN dL_law_500 ?_
  refine lw_cal (k := 118) (a := 0) (As := [.int (xs (6 * n + 1))]) (rest := []) C hre hlo hls.1 (by decide) (by decide +kernel) (pm_w1_in (i := 876) (by decide +kernel)) h1 m3 (show (1 : Nat) = pm_a 118 by decide +kernel) (show (2 : Nat) ≤ pm_n 118 by decide +kernel) (by decide) (by omega) (by omega) dL_law_501 (fun H1 locs1 hre1 hlo1 => ?_)
  clear hre hlo
  have hre := hre1
  have hlo := hlo1
  refine lv_aload_n hx hb dL_law_504 rfl (lv_at hls 1 rfl) ?_
  refine lv_aload_n hx hb dL_law_505 rfl (lv_at hls 3 rfl) ?_
  refine lv_iload_n hx hb dL_law_506 rfl (lv_at hls 0 rfl) ?_
  refine lv_iconst (v := nI 1) hx hb dL_law_507 (by decide) ?_
  refine lv_iadd hx hb dL_law_508 ?_
  rw [nI_add]
  refine lw_sld C hlo (by omega) hN dL_law_509 ?_
  refine lw_cal (k := 222) (a := ob_aM) (As := [.int (xs (6 * n + 1))]) (rest := [.int r]) C hre hlo hls.1 (by decide) (by decide +kernel) (pm_w1_in (i := 1589) (by decide +kernel)) h2 h3 (show (1 : Nat) = pm_a 222 by decide +kernel) (show (2 : Nat) ≤ pm_n 222 by decide +kernel) (show (1 : Nat) ≤ 8 by decide) k1 k2 dL_law_510 (fun H2 locs2 hre2 hlo2 => ?_)
  refine lv_icmp_eq (tgt := 1075) hx hb dL_law_513 (by decide) (fun _ => ?_) (fun hne => absurd rfl hne)
  exact kk w2 H2 locs2 h4 hre2 hlo2
set_option maxHeartbeats 2000000 in
theorem lw_case_12 {n : Nat} {I : pm_H → Prop} (C : lw_cx p s m meth c b L xs D K) (hL : L ≤ 3072) (hi : 6 * n + 6 ≤ L) (hre : pm_re D s.heap.size K s w H) (hlo : ∀ x ∈ locs, s.heap.size ≤ x.base) (hls : lv_has ls 4 [(3, .int (nI (6 * n))), (2, .ref (s.heap.size + ob_aM)), (1, .ref (s.heap.size + 0)), (0, .ref b)]) (hrm : ob_rm w) (hI : ∀ w, I w → ob_rm w)
    (hok : ob_ok 12 [xs (6 * n + 1), xs (6 * n + 2), xs (6 * n + 3), xs (6 * n + 4), xs (6 * n + 5)] w I)
    (kk : ∀ (w2 : pm_H) (H2 : Heap) (locs2 : List Loc), I w2 → pm_re D s.heap.size K s w2 H2 → (∀ x ∈ locs2, s.heap.size ≤ x.base) → W p l e room_1 s m #[Value.ref b] below meth c H2 locs2 w2.length (pm_sz w2) Q (F0 m 1075 ls [])) : W p l e room_1 s m #[Value.ref b] below meth c H locs w.length (pm_sz w) Q (F0 m 518 ls []) := by
  have hN : L < 2 ^ 31 := by omega
  obtain ⟨hx, hb, hr, hml, hown, hts, hX, hbl, hlocks, hgv⟩ := id C.1
  obtain ⟨f, r, w1, w2, h1, h2, ⟨fs1, h3⟩, h4⟩ := hok
  obtain ⟨m1, m2, ⟨fs0, m3⟩, ⟨fs2, m4⟩⟩ := hrm
  obtain ⟨k1, k2, -, -⟩ := hI _ h4
  have q1 := pn_mono _ _ _ _ _ _ _ _ _ h1
  have q2 := pn_mono _ _ _ _ _ _ _ _ _ h2
  refine lv_aload_n hx hb dL_law_518 rfl (lv_at hls 2 rfl) ?_
  refine lv_aload_n hx hb dL_law_519 rfl (lv_at hls 3 rfl) ?_
  refine lv_iload_n hx hb dL_law_520 rfl (lv_at hls 0 rfl) ?_
  refine lv_iconst (v := nI 1) hx hb dL_law_521 (by decide) ?_
  refine lv_iadd hx hb dL_law_522 ?_
  rw [nI_add]
  refine lw_sld C hlo (by omega) hN dL_law_523 ?_
  refine lv_aload_n hx hb dL_law_524 rfl (lv_at hls 3 rfl) ?_
  refine lv_iload_n hx hb dL_law_525 rfl (lv_at hls 0 rfl) ?_
  refine lv_iconst (v := nI 2) hx hb dL_law_526 (by decide) ?_
  refine lv_iadd hx hb dL_law_527 ?_
  rw [nI_add]
  refine lw_sld C hlo (by omega) hN dL_law_528 ?_
  refine lw_cal (k := 119) (a := 0) (As := [.int (xs (6 * n + 1)), .int (xs (6 * n + 2))]) (rest := []) C hre hlo hls.1 (by decide) (by decide +kernel) (pm_w1_in (i := 880) (by decide +kernel)) h1 m3 (show (2 : Nat) = pm_a 119 by decide +kernel) (show (3 : Nat) ≤ pm_n 119 by decide +kernel) (by decide) (by omega) (by omega) dL_law_529 (fun H1 locs1 hre1 hlo1 => ?_)
  clear hre hlo
  have hre := hre1
  have hlo := hlo1
  refine lv_aload_n hx hb dL_law_532 rfl (lv_at hls 1 rfl) ?_
  refine lv_aload_n hx hb dL_law_533 rfl (lv_at hls 3 rfl) ?_
  refine lv_iload_n hx hb dL_law_534 rfl (lv_at hls 0 rfl) ?_
  refine lv_iconst (v := nI 1) hx hb dL_law_535 (by decide) ?_
  refine lv_iadd hx hb dL_law_536 ?_
  rw [nI_add]
  refine lw_sld C hlo (by omega) hN dL_law_537 ?_
  refine lv_aload_n hx hb dL_law_538 rfl (lv_at hls 3 rfl) ?_
  refine lv_iload_n hx hb dL_law_539 rfl (lv_at hls 0 rfl) ?_
  refine lv_iconst (v := nI 2) hx hb dL_law_540 (by decide) ?_
  refine lv_iadd hx hb dL_law_541 ?_
  rw [nI_add]
  refine lw_sld C hlo (by omega) hN dL_law_542 ?_
  refine lw_cal (k := 223) (a := ob_aM) (As := [.int (xs (6 * n + 1)), .int (xs (6 * n + 2))]) (rest := [.int r]) C hre hlo hls.1 (by decide) (by decide +kernel) (pm_w1_in (i := 1593) (by decide +kernel)) h2 h3 (show (2 : Nat) = pm_a 223 by decide +kernel) (show (3 : Nat) ≤ pm_n 223 by decide +kernel) (show (1 : Nat) ≤ 8 by decide) k1 k2 dL_law_543 (fun H2 locs2 hre2 hlo2 => ?_)
  refine lv_icmp_eq (tgt := 1075) hx hb dL_law_546 (by decide) (fun _ => ?_) (fun hne => absurd rfl hne)
  exact kk w2 H2 locs2 h4 hre2 hlo2
set_option maxHeartbeats 2000000 in
theorem lw_case_13 {n : Nat} {I : pm_H → Prop} (C : lw_cx p s m meth c b L xs D K) (hL : L ≤ 3072) (hi : 6 * n + 6 ≤ L) (hre : pm_re D s.heap.size K s w H) (hlo : ∀ x ∈ locs, s.heap.size ≤ x.base) (hls : lv_has ls 4 [(3, .int (nI (6 * n))), (2, .ref (s.heap.size + ob_aM)), (1, .ref (s.heap.size + 0)), (0, .ref b)]) (hrm : ob_rm w) (hI : ∀ w, I w → ob_rm w)
    (hok : ob_ok 13 [xs (6 * n + 1), xs (6 * n + 2), xs (6 * n + 3), xs (6 * n + 4), xs (6 * n + 5)] w I)
    (kk : ∀ (w2 : pm_H) (H2 : Heap) (locs2 : List Loc), I w2 → pm_re D s.heap.size K s w2 H2 → (∀ x ∈ locs2, s.heap.size ≤ x.base) → W p l e room_1 s m #[Value.ref b] below meth c H2 locs2 w2.length (pm_sz w2) Q (F0 m 1075 ls [])) : W p l e room_1 s m #[Value.ref b] below meth c H locs w.length (pm_sz w) Q (F0 m 551 ls []) := by
  have hN : L < 2 ^ 31 := by omega
  obtain ⟨hx, hb, hr, hml, hown, hts, hX, hbl, hlocks, hgv⟩ := id C.1
  obtain ⟨f, r, w1, w2, h1, h2, ⟨fs1, h3⟩, h4⟩ := hok
  obtain ⟨m1, m2, ⟨fs0, m3⟩, ⟨fs2, m4⟩⟩ := hrm
  obtain ⟨k1, k2, -, -⟩ := hI _ h4
  have q1 := pn_mono _ _ _ _ _ _ _ _ _ h1
  have q2 := pn_mono _ _ _ _ _ _ _ _ _ h2
  refine lv_aload_n hx hb dL_law_551 rfl (lv_at hls 2 rfl) ?_
  refine lw_cal (k := 120) (a := 0) (As := []) (rest := []) C hre hlo hls.1 (by decide) (by decide +kernel) (pm_w1_in (i := 884) (by decide +kernel)) h1 m3 (show (0 : Nat) = pm_a 120 by decide +kernel) (show (1 : Nat) ≤ pm_n 120 by decide +kernel) (by decide) (by omega) (by omega) dL_law_552 (fun H1 locs1 hre1 hlo1 => ?_)
  clear hre hlo
  have hre := hre1
  have hlo := hlo1
  refine lv_aload_n hx hb dL_law_555 rfl (lv_at hls 1 rfl) ?_
  refine lw_cal (k := 218) (a := ob_aM) (As := []) (rest := [.int r]) C hre hlo hls.1 (by decide) (by decide +kernel) (pm_w1_in (i := 1504) (by decide +kernel)) h2 h3 (show (0 : Nat) = pm_a 218 by decide +kernel) (show (1 : Nat) ≤ pm_n 218 by decide +kernel) (show (1 : Nat) ≤ 8 by decide) k1 k2 dL_law_556 (fun H2 locs2 hre2 hlo2 => ?_)
  refine lv_icmp_eq (tgt := 1075) hx hb dL_law_559 (by decide) (fun _ => ?_) (fun hne => absurd rfl hne)
  exact kk w2 H2 locs2 h4 hre2 hlo2
set_option maxHeartbeats 2000000 in
theorem lw_case_14 {n : Nat} {I : pm_H → Prop} (C : lw_cx p s m meth c b L xs D K) (hL : L ≤ 3072) (hi : 6 * n + 6 ≤ L) (hre : pm_re D s.heap.size K s w H) (hlo : ∀ x ∈ locs, s.heap.size ≤ x.base) (hls : lv_has ls 4 [(3, .int (nI (6 * n))), (2, .ref (s.heap.size + ob_aM)), (1, .ref (s.heap.size + 0)), (0, .ref b)]) (hrm : ob_rm w) (hI : ∀ w, I w → ob_rm w)
    (hok : ob_ok 14 [xs (6 * n + 1), xs (6 * n + 2), xs (6 * n + 3), xs (6 * n + 4), xs (6 * n + 5)] w I)
    (kk : ∀ (w2 : pm_H) (H2 : Heap) (locs2 : List Loc), I w2 → pm_re D s.heap.size K s w2 H2 → (∀ x ∈ locs2, s.heap.size ≤ x.base) → W p l e room_1 s m #[Value.ref b] below meth c H2 locs2 w2.length (pm_sz w2) Q (F0 m 1075 ls [])) : W p l e room_1 s m #[Value.ref b] below meth c H locs w.length (pm_sz w) Q (F0 m 564 ls []) := by
  have hN : L < 2 ^ 31 := by omega
  obtain ⟨hx, hb, hr, hml, hown, hts, hX, hbl, hlocks, hgv⟩ := id C.1
  obtain ⟨f, r, w1, w2, h1, h2, ⟨fs1, h3⟩, h4⟩ := hok
  obtain ⟨m1, m2, ⟨fs0, m3⟩, ⟨fs2, m4⟩⟩ := hrm
  obtain ⟨k1, k2, -, -⟩ := hI _ h4
  have q1 := pn_mono _ _ _ _ _ _ _ _ _ h1
  have q2 := pn_mono _ _ _ _ _ _ _ _ _ h2
  refine lv_aload_n hx hb dL_law_564 rfl (lv_at hls 2 rfl) ?_
  refine lv_aload_n hx hb dL_law_565 rfl (lv_at hls 3 rfl) ?_
  refine lv_iload_n hx hb dL_law_566 rfl (lv_at hls 0 rfl) ?_
  refine lv_iconst (v := nI 1) hx hb dL_law_567 (by decide) ?_
  refine lv_iadd hx hb dL_law_568 ?_
  rw [nI_add]
  refine lw_sld C hlo (by omega) hN dL_law_569 ?_
  refine lv_aload_n hx hb dL_law_570 rfl (lv_at hls 3 rfl) ?_
  refine lv_iload_n hx hb dL_law_571 rfl (lv_at hls 0 rfl) ?_
  refine lv_iconst (v := nI 2) hx hb dL_law_572 (by decide) ?_
  refine lv_iadd hx hb dL_law_573 ?_
  rw [nI_add]
  refine lw_sld C hlo (by omega) hN dL_law_574 ?_
  refine lv_aload_n hx hb dL_law_575 rfl (lv_at hls 3 rfl) ?_
  refine lv_iload_n hx hb dL_law_576 rfl (lv_at hls 0 rfl) ?_
  refine lv_iconst (v := nI 3) hx hb dL_law_577 (by decide) ?_
  refine lv_iadd hx hb dL_law_578 ?_
  rw [nI_add]
  refine lw_sld C hlo (by omega) hN dL_law_579 ?_
  refine lv_aload_n hx hb dL_law_580 rfl (lv_at hls 3 rfl) ?_
  refine lv_iload_n hx hb dL_law_581 rfl (lv_at hls 0 rfl) ?_
  refine lv_iconst (v := nI 4) hx hb dL_law_582 (by decide) ?_
  refine lv_iadd hx hb dL_law_583 ?_
  rw [nI_add]
  refine lw_sld C hlo (by omega) hN dL_law_584 ?_
  refine lw_cal (k := 121) (a := 0) (As := [.int (xs (6 * n + 1)), .int (xs (6 * n + 2)), .int (xs (6 * n + 3)), .int (xs (6 * n + 4))]) (rest := []) C hre hlo hls.1 (by decide) (by decide +kernel) (pm_w1_in (i := 892) (by decide +kernel)) h1 m3 (show (4 : Nat) = pm_a 121 by decide +kernel) (show (5 : Nat) ≤ pm_n 121 by decide +kernel) (by decide) (by omega) (by omega) dL_law_585 (fun H1 locs1 hre1 hlo1 => ?_)
  clear hre hlo
  have hre := hre1
  have hlo := hlo1
  refine lv_aload_n hx hb dL_law_588 rfl (lv_at hls 1 rfl) ?_
  refine lv_aload_n hx hb dL_law_589 rfl (lv_at hls 3 rfl) ?_
  refine lv_iload_n hx hb dL_law_590 rfl (lv_at hls 0 rfl) ?_
  refine lv_iconst (v := nI 1) hx hb dL_law_591 (by decide) ?_
  refine lv_iadd hx hb dL_law_592 ?_
  rw [nI_add]
  refine lw_sld C hlo (by omega) hN dL_law_593 ?_
  refine lv_aload_n hx hb dL_law_594 rfl (lv_at hls 3 rfl) ?_
  refine lv_iload_n hx hb dL_law_595 rfl (lv_at hls 0 rfl) ?_
  refine lv_iconst (v := nI 2) hx hb dL_law_596 (by decide) ?_
  refine lv_iadd hx hb dL_law_597 ?_
  rw [nI_add]
  refine lw_sld C hlo (by omega) hN dL_law_598 ?_
  refine lv_aload_n hx hb dL_law_599 rfl (lv_at hls 3 rfl) ?_
  refine lv_iload_n hx hb dL_law_600 rfl (lv_at hls 0 rfl) ?_
  refine lv_iconst (v := nI 3) hx hb dL_law_601 (by decide) ?_
  refine lv_iadd hx hb dL_law_602 ?_
  rw [nI_add]
  refine lw_sld C hlo (by omega) hN dL_law_603 ?_
  refine lv_aload_n hx hb dL_law_604 rfl (lv_at hls 3 rfl) ?_
  refine lv_iload_n hx hb dL_law_605 rfl (lv_at hls 0 rfl) ?_
  refine lv_iconst (v := nI 4) hx hb dL_law_606 (by decide) ?_
  refine lv_iadd hx hb dL_law_607 ?_
  rw [nI_add]
  refine lw_sld C hlo (by omega) hN dL_law_608 ?_
  refine lw_cal (k := 224) (a := ob_aM) (As := [.int (xs (6 * n + 1)), .int (xs (6 * n + 2)), .int (xs (6 * n + 3)), .int (xs (6 * n + 4))]) (rest := [.int r]) C hre hlo hls.1 (by decide) (by decide +kernel) (pm_w1_in (i := 1597) (by decide +kernel)) h2 h3 (show (4 : Nat) = pm_a 224 by decide +kernel) (show (5 : Nat) ≤ pm_n 224 by decide +kernel) (show (1 : Nat) ≤ 8 by decide) k1 k2 dL_law_609 (fun H2 locs2 hre2 hlo2 => ?_)
  refine lv_icmp_eq (tgt := 1075) hx hb dL_law_612 (by decide) (fun _ => ?_) (fun hne => absurd rfl hne)
  exact kk w2 H2 locs2 h4 hre2 hlo2
set_option maxHeartbeats 2000000 in
theorem lw_case_15 {n : Nat} {I : pm_H → Prop} (C : lw_cx p s m meth c b L xs D K) (hL : L ≤ 3072) (hi : 6 * n + 6 ≤ L) (hre : pm_re D s.heap.size K s w H) (hlo : ∀ x ∈ locs, s.heap.size ≤ x.base) (hls : lv_has ls 4 [(3, .int (nI (6 * n))), (2, .ref (s.heap.size + ob_aM)), (1, .ref (s.heap.size + 0)), (0, .ref b)]) (hrm : ob_rm w) (hI : ∀ w, I w → ob_rm w)
    (hok : ob_ok 15 [xs (6 * n + 1), xs (6 * n + 2), xs (6 * n + 3), xs (6 * n + 4), xs (6 * n + 5)] w I)
    (kk : ∀ (w2 : pm_H) (H2 : Heap) (locs2 : List Loc), I w2 → pm_re D s.heap.size K s w2 H2 → (∀ x ∈ locs2, s.heap.size ≤ x.base) → W p l e room_1 s m #[Value.ref b] below meth c H2 locs2 w2.length (pm_sz w2) Q (F0 m 1075 ls [])) : W p l e room_1 s m #[Value.ref b] below meth c H locs w.length (pm_sz w) Q (F0 m 617 ls []) := by
  have hN : L < 2 ^ 31 := by omega
  obtain ⟨hx, hb, hr, hml, hown, hts, hX, hbl, hlocks, hgv⟩ := id C.1
  obtain ⟨f, r, w1, w2, h1, h2, ⟨fs1, h3⟩, h4⟩ := hok
  obtain ⟨m1, m2, ⟨fs0, m3⟩, ⟨fs2, m4⟩⟩ := hrm
  obtain ⟨k1, k2, -, -⟩ := hI _ h4
  have q1 := pn_mono _ _ _ _ _ _ _ _ _ h1
  have q2 := pn_mono _ _ _ _ _ _ _ _ _ h2
  refine lv_aload_n hx hb dL_law_617 rfl (lv_at hls 2 rfl) ?_
  refine lv_aload_n hx hb dL_law_618 rfl (lv_at hls 3 rfl) ?_
  refine lv_iload_n hx hb dL_law_619 rfl (lv_at hls 0 rfl) ?_
  refine lv_iconst (v := nI 1) hx hb dL_law_620 (by decide) ?_
  refine lv_iadd hx hb dL_law_621 ?_
  rw [nI_add]
  refine lw_sld C hlo (by omega) hN dL_law_622 ?_
  refine lv_aload_n hx hb dL_law_623 rfl (lv_at hls 3 rfl) ?_
  refine lv_iload_n hx hb dL_law_624 rfl (lv_at hls 0 rfl) ?_
  refine lv_iconst (v := nI 2) hx hb dL_law_625 (by decide) ?_
  refine lv_iadd hx hb dL_law_626 ?_
  rw [nI_add]
  refine lw_sld C hlo (by omega) hN dL_law_627 ?_
  refine lw_cal (k := 122) (a := 0) (As := [.int (xs (6 * n + 1)), .int (xs (6 * n + 2))]) (rest := []) C hre hlo hls.1 (by decide) (by decide +kernel) (pm_w1_in (i := 896) (by decide +kernel)) h1 m3 (show (2 : Nat) = pm_a 122 by decide +kernel) (show (3 : Nat) ≤ pm_n 122 by decide +kernel) (by decide) (by omega) (by omega) dL_law_628 (fun H1 locs1 hre1 hlo1 => ?_)
  clear hre hlo
  have hre := hre1
  have hlo := hlo1
  refine lv_aload_n hx hb dL_law_631 rfl (lv_at hls 1 rfl) ?_
  refine lv_aload_n hx hb dL_law_632 rfl (lv_at hls 3 rfl) ?_
  refine lv_iload_n hx hb dL_law_633 rfl (lv_at hls 0 rfl) ?_
  refine lv_iconst (v := nI 1) hx hb dL_law_634 (by decide) ?_
  refine lv_iadd hx hb dL_law_635 ?_
  rw [nI_add]
  refine lw_sld C hlo (by omega) hN dL_law_636 ?_
  refine lv_aload_n hx hb dL_law_637 rfl (lv_at hls 3 rfl) ?_
  refine lv_iload_n hx hb dL_law_638 rfl (lv_at hls 0 rfl) ?_
  refine lv_iconst (v := nI 2) hx hb dL_law_639 (by decide) ?_
  refine lv_iadd hx hb dL_law_640 ?_
  rw [nI_add]
  refine lw_sld C hlo (by omega) hN dL_law_641 ?_
  refine lw_cal (k := 225) (a := ob_aM) (As := [.int (xs (6 * n + 1)), .int (xs (6 * n + 2))]) (rest := [.int r]) C hre hlo hls.1 (by decide) (by decide +kernel) (pm_w1_in (i := 1601) (by decide +kernel)) h2 h3 (show (2 : Nat) = pm_a 225 by decide +kernel) (show (3 : Nat) ≤ pm_n 225 by decide +kernel) (show (1 : Nat) ≤ 8 by decide) k1 k2 dL_law_642 (fun H2 locs2 hre2 hlo2 => ?_)
  refine lv_icmp_eq (tgt := 1075) hx hb dL_law_645 (by decide) (fun _ => ?_) (fun hne => absurd rfl hne)
  exact kk w2 H2 locs2 h4 hre2 hlo2
set_option maxHeartbeats 2000000 in
theorem lw_case_16 {n : Nat} {I : pm_H → Prop} (C : lw_cx p s m meth c b L xs D K) (hL : L ≤ 3072) (hi : 6 * n + 6 ≤ L) (hre : pm_re D s.heap.size K s w H) (hlo : ∀ x ∈ locs, s.heap.size ≤ x.base) (hls : lv_has ls 4 [(3, .int (nI (6 * n))), (2, .ref (s.heap.size + ob_aM)), (1, .ref (s.heap.size + 0)), (0, .ref b)]) (hrm : ob_rm w) (hI : ∀ w, I w → ob_rm w)
    (hok : ob_ok 16 [xs (6 * n + 1), xs (6 * n + 2), xs (6 * n + 3), xs (6 * n + 4), xs (6 * n + 5)] w I)
    (kk : ∀ (w2 : pm_H) (H2 : Heap) (locs2 : List Loc), I w2 → pm_re D s.heap.size K s w2 H2 → (∀ x ∈ locs2, s.heap.size ≤ x.base) → W p l e room_1 s m #[Value.ref b] below meth c H2 locs2 w2.length (pm_sz w2) Q (F0 m 1075 ls [])) : W p l e room_1 s m #[Value.ref b] below meth c H locs w.length (pm_sz w) Q (F0 m 650 ls []) := by
  have hN : L < 2 ^ 31 := by omega
  obtain ⟨hx, hb, hr, hml, hown, hts, hX, hbl, hlocks, hgv⟩ := id C.1
  obtain ⟨f, r, w1, w2, h1, h2, ⟨fs1, h3⟩, h4⟩ := hok
  obtain ⟨m1, m2, ⟨fs0, m3⟩, ⟨fs2, m4⟩⟩ := hrm
  obtain ⟨k1, k2, -, -⟩ := hI _ h4
  have q1 := pn_mono _ _ _ _ _ _ _ _ _ h1
  have q2 := pn_mono _ _ _ _ _ _ _ _ _ h2
  refine lv_aload_n hx hb dL_law_650 rfl (lv_at hls 2 rfl) ?_
  refine lv_aload_n hx hb dL_law_651 rfl (lv_at hls 3 rfl) ?_
  refine lv_iload_n hx hb dL_law_652 rfl (lv_at hls 0 rfl) ?_
  refine lv_iconst (v := nI 1) hx hb dL_law_653 (by decide) ?_
  refine lv_iadd hx hb dL_law_654 ?_
  rw [nI_add]
  refine lw_sld C hlo (by omega) hN dL_law_655 ?_
  refine lw_cal (k := 123) (a := 0) (As := [.int (xs (6 * n + 1))]) (rest := []) C hre hlo hls.1 (by decide) (by decide +kernel) (pm_w1_in (i := 900) (by decide +kernel)) h1 m3 (show (1 : Nat) = pm_a 123 by decide +kernel) (show (2 : Nat) ≤ pm_n 123 by decide +kernel) (by decide) (by omega) (by omega) dL_law_656 (fun H1 locs1 hre1 hlo1 => ?_)
  clear hre hlo
  have hre := hre1
  have hlo := hlo1
  refine lv_aload_n hx hb dL_law_659 rfl (lv_at hls 1 rfl) ?_
  refine lv_aload_n hx hb dL_law_660 rfl (lv_at hls 3 rfl) ?_
  refine lv_iload_n hx hb dL_law_661 rfl (lv_at hls 0 rfl) ?_
  refine lv_iconst (v := nI 1) hx hb dL_law_662 (by decide) ?_
  refine lv_iadd hx hb dL_law_663 ?_
  rw [nI_add]
  refine lw_sld C hlo (by omega) hN dL_law_664 ?_
  refine lw_cal (k := 236) (a := ob_aM) (As := [.int (xs (6 * n + 1))]) (rest := [.int r]) C hre hlo hls.1 (by decide) (by decide +kernel) (pm_w1_in (i := 1606) (by decide +kernel)) h2 h3 (show (1 : Nat) = pm_a 236 by decide +kernel) (show (2 : Nat) ≤ pm_n 236 by decide +kernel) (show (1 : Nat) ≤ 8 by decide) k1 k2 dL_law_665 (fun H2 locs2 hre2 hlo2 => ?_)
  refine lv_icmp_eq (tgt := 1075) hx hb dL_law_668 (by decide) (fun _ => ?_) (fun hne => absurd rfl hne)
  exact kk w2 H2 locs2 h4 hre2 hlo2
set_option maxHeartbeats 2000000 in
theorem lw_case_17 {n : Nat} {I : pm_H → Prop} (C : lw_cx p s m meth c b L xs D K) (hL : L ≤ 3072) (hi : 6 * n + 6 ≤ L) (hre : pm_re D s.heap.size K s w H) (hlo : ∀ x ∈ locs, s.heap.size ≤ x.base) (hls : lv_has ls 4 [(3, .int (nI (6 * n))), (2, .ref (s.heap.size + ob_aM)), (1, .ref (s.heap.size + 0)), (0, .ref b)]) (hrm : ob_rm w) (hI : ∀ w, I w → ob_rm w)
    (hok : ob_ok 17 [xs (6 * n + 1), xs (6 * n + 2), xs (6 * n + 3), xs (6 * n + 4), xs (6 * n + 5)] w I)
    (kk : ∀ (w2 : pm_H) (H2 : Heap) (locs2 : List Loc), I w2 → pm_re D s.heap.size K s w2 H2 → (∀ x ∈ locs2, s.heap.size ≤ x.base) → W p l e room_1 s m #[Value.ref b] below meth c H2 locs2 w2.length (pm_sz w2) Q (F0 m 1075 ls [])) : W p l e room_1 s m #[Value.ref b] below meth c H locs w.length (pm_sz w) Q (F0 m 673 ls []) := by
  have hN : L < 2 ^ 31 := by omega
  obtain ⟨hx, hb, hr, hml, hown, hts, hX, hbl, hlocks, hgv⟩ := id C.1
  obtain ⟨f, r, w1, w2, h1, h2, ⟨fs1, h3⟩, h4⟩ := hok
  obtain ⟨m1, m2, ⟨fs0, m3⟩, ⟨fs2, m4⟩⟩ := hrm
  obtain ⟨k1, k2, -, -⟩ := hI _ h4
  have q1 := pn_mono _ _ _ _ _ _ _ _ _ h1
  have q2 := pn_mono _ _ _ _ _ _ _ _ _ h2
  refine lv_aload_n hx hb dL_law_673 rfl (lv_at hls 2 rfl) ?_
  refine lv_aload_n hx hb dL_law_674 rfl (lv_at hls 3 rfl) ?_
  refine lv_iload_n hx hb dL_law_675 rfl (lv_at hls 0 rfl) ?_
  refine lv_iconst (v := nI 1) hx hb dL_law_676 (by decide) ?_
  refine lv_iadd hx hb dL_law_677 ?_
  rw [nI_add]
  refine lw_sld C hlo (by omega) hN dL_law_678 ?_
  refine lw_cal (k := 124) (a := 0) (As := [.int (xs (6 * n + 1))]) (rest := []) C hre hlo hls.1 (by decide) (by decide +kernel) (pm_w1_in (i := 935) (by decide +kernel)) h1 m3 (show (1 : Nat) = pm_a 124 by decide +kernel) (show (2 : Nat) ≤ pm_n 124 by decide +kernel) (by decide) (by omega) (by omega) dL_law_679 (fun H1 locs1 hre1 hlo1 => ?_)
  clear hre hlo
  have hre := hre1
  have hlo := hlo1
  refine lv_aload_n hx hb dL_law_682 rfl (lv_at hls 1 rfl) ?_
  refine lv_aload_n hx hb dL_law_683 rfl (lv_at hls 3 rfl) ?_
  refine lv_iload_n hx hb dL_law_684 rfl (lv_at hls 0 rfl) ?_
  refine lv_iconst (v := nI 1) hx hb dL_law_685 (by decide) ?_
  refine lv_iadd hx hb dL_law_686 ?_
  rw [nI_add]
  refine lw_sld C hlo (by omega) hN dL_law_687 ?_
  refine lw_cal (k := 245) (a := ob_aM) (As := [.int (xs (6 * n + 1))]) (rest := [.int r]) C hre hlo hls.1 (by decide) (by decide +kernel) (pm_w1_in (i := 1656) (by decide +kernel)) h2 h3 (show (1 : Nat) = pm_a 245 by decide +kernel) (show (2 : Nat) ≤ pm_n 245 by decide +kernel) (show (1 : Nat) ≤ 8 by decide) k1 k2 dL_law_688 (fun H2 locs2 hre2 hlo2 => ?_)
  refine lv_icmp_eq (tgt := 1075) hx hb dL_law_691 (by decide) (fun _ => ?_) (fun hne => absurd rfl hne)
  exact kk w2 H2 locs2 h4 hre2 hlo2
set_option maxHeartbeats 2000000 in
theorem lw_case_18 {n : Nat} {I : pm_H → Prop} (C : lw_cx p s m meth c b L xs D K) (hL : L ≤ 3072) (hi : 6 * n + 6 ≤ L) (hre : pm_re D s.heap.size K s w H) (hlo : ∀ x ∈ locs, s.heap.size ≤ x.base) (hls : lv_has ls 4 [(3, .int (nI (6 * n))), (2, .ref (s.heap.size + ob_aM)), (1, .ref (s.heap.size + 0)), (0, .ref b)]) (hrm : ob_rm w) (hI : ∀ w, I w → ob_rm w)
    (hok : ob_ok 18 [xs (6 * n + 1), xs (6 * n + 2), xs (6 * n + 3), xs (6 * n + 4), xs (6 * n + 5)] w I)
    (kk : ∀ (w2 : pm_H) (H2 : Heap) (locs2 : List Loc), I w2 → pm_re D s.heap.size K s w2 H2 → (∀ x ∈ locs2, s.heap.size ≤ x.base) → W p l e room_1 s m #[Value.ref b] below meth c H2 locs2 w2.length (pm_sz w2) Q (F0 m 1075 ls [])) : W p l e room_1 s m #[Value.ref b] below meth c H locs w.length (pm_sz w) Q (F0 m 696 ls []) := by
  have hN : L < 2 ^ 31 := by omega
  obtain ⟨hx, hb, hr, hml, hown, hts, hX, hbl, hlocks, hgv⟩ := id C.1
  obtain ⟨f, r, w1, w2, h1, h2, ⟨fs1, h3⟩, h4⟩ := hok
  obtain ⟨m1, m2, ⟨fs0, m3⟩, ⟨fs2, m4⟩⟩ := hrm
  obtain ⟨k1, k2, -, -⟩ := hI _ h4
  have q1 := pn_mono _ _ _ _ _ _ _ _ _ h1
  have q2 := pn_mono _ _ _ _ _ _ _ _ _ h2
  refine lv_aload_n hx hb dL_law_696 rfl (lv_at hls 2 rfl) ?_
  refine lv_aload_n hx hb dL_law_697 rfl (lv_at hls 3 rfl) ?_
  refine lv_iload_n hx hb dL_law_698 rfl (lv_at hls 0 rfl) ?_
  refine lv_iconst (v := nI 1) hx hb dL_law_699 (by decide) ?_
  refine lv_iadd hx hb dL_law_700 ?_
  rw [nI_add]
  refine lw_sld C hlo (by omega) hN dL_law_701 ?_
  refine lw_cal (k := 125) (a := 0) (As := [.int (xs (6 * n + 1))]) (rest := []) C hre hlo hls.1 (by decide) (by decide +kernel) (pm_w1_in (i := 999) (by decide +kernel)) h1 m3 (show (1 : Nat) = pm_a 125 by decide +kernel) (show (2 : Nat) ≤ pm_n 125 by decide +kernel) (by decide) (by omega) (by omega) dL_law_702 (fun H1 locs1 hre1 hlo1 => ?_)
  clear hre hlo
  have hre := hre1
  have hlo := hlo1
  refine lv_aload_n hx hb dL_law_705 rfl (lv_at hls 1 rfl) ?_
  refine lv_aload_n hx hb dL_law_706 rfl (lv_at hls 3 rfl) ?_
  refine lv_iload_n hx hb dL_law_707 rfl (lv_at hls 0 rfl) ?_
  refine lv_iconst (v := nI 1) hx hb dL_law_708 (by decide) ?_
  refine lv_iadd hx hb dL_law_709 ?_
  rw [nI_add]
  refine lw_sld C hlo (by omega) hN dL_law_710 ?_
  refine lw_cal (k := 246) (a := ob_aM) (As := [.int (xs (6 * n + 1))]) (rest := [.int r]) C hre hlo hls.1 (by decide) (by decide +kernel) (pm_w1_in (i := 1693) (by decide +kernel)) h2 h3 (show (1 : Nat) = pm_a 246 by decide +kernel) (show (2 : Nat) ≤ pm_n 246 by decide +kernel) (show (1 : Nat) ≤ 8 by decide) k1 k2 dL_law_711 (fun H2 locs2 hre2 hlo2 => ?_)
  refine lv_icmp_eq (tgt := 1075) hx hb dL_law_714 (by decide) (fun _ => ?_) (fun hne => absurd rfl hne)
  exact kk w2 H2 locs2 h4 hre2 hlo2
set_option maxHeartbeats 2000000 in
theorem lw_case_19 {n : Nat} {I : pm_H → Prop} (C : lw_cx p s m meth c b L xs D K) (hL : L ≤ 3072) (hi : 6 * n + 6 ≤ L) (hre : pm_re D s.heap.size K s w H) (hlo : ∀ x ∈ locs, s.heap.size ≤ x.base) (hls : lv_has ls 4 [(3, .int (nI (6 * n))), (2, .ref (s.heap.size + ob_aM)), (1, .ref (s.heap.size + 0)), (0, .ref b)]) (hrm : ob_rm w) (hI : ∀ w, I w → ob_rm w)
    (hok : ob_ok 19 [xs (6 * n + 1), xs (6 * n + 2), xs (6 * n + 3), xs (6 * n + 4), xs (6 * n + 5)] w I)
    (kk : ∀ (w2 : pm_H) (H2 : Heap) (locs2 : List Loc), I w2 → pm_re D s.heap.size K s w2 H2 → (∀ x ∈ locs2, s.heap.size ≤ x.base) → W p l e room_1 s m #[Value.ref b] below meth c H2 locs2 w2.length (pm_sz w2) Q (F0 m 1075 ls [])) : W p l e room_1 s m #[Value.ref b] below meth c H locs w.length (pm_sz w) Q (F0 m 719 ls []) := by
  have hN : L < 2 ^ 31 := by omega
  obtain ⟨hx, hb, hr, hml, hown, hts, hX, hbl, hlocks, hgv⟩ := id C.1
  obtain ⟨f, r, w1, w2, h1, h2, ⟨fs1, h3⟩, h4⟩ := hok
  obtain ⟨m1, m2, ⟨fs0, m3⟩, ⟨fs2, m4⟩⟩ := hrm
  obtain ⟨k1, k2, -, -⟩ := hI _ h4
  have q1 := pn_mono _ _ _ _ _ _ _ _ _ h1
  have q2 := pn_mono _ _ _ _ _ _ _ _ _ h2
  refine lv_aload_n hx hb dL_law_719 rfl (lv_at hls 2 rfl) ?_
  refine lv_aload_n hx hb dL_law_720 rfl (lv_at hls 3 rfl) ?_
  refine lv_iload_n hx hb dL_law_721 rfl (lv_at hls 0 rfl) ?_
  refine lv_iconst (v := nI 1) hx hb dL_law_722 (by decide) ?_
  refine lv_iadd hx hb dL_law_723 ?_
  rw [nI_add]
  refine lw_sld C hlo (by omega) hN dL_law_724 ?_
  refine lw_cal (k := 126) (a := 0) (As := [.int (xs (6 * n + 1))]) (rest := []) C hre hlo hls.1 (by decide) (by decide +kernel) (pm_w1_in (i := 1013) (by decide +kernel)) h1 m3 (show (1 : Nat) = pm_a 126 by decide +kernel) (show (2 : Nat) ≤ pm_n 126 by decide +kernel) (by decide) (by omega) (by omega) dL_law_725 (fun H1 locs1 hre1 hlo1 => ?_)
  clear hre hlo
  have hre := hre1
  have hlo := hlo1
  refine lv_aload_n hx hb dL_law_728 rfl (lv_at hls 1 rfl) ?_
  refine lv_aload_n hx hb dL_law_729 rfl (lv_at hls 3 rfl) ?_
  refine lv_iload_n hx hb dL_law_730 rfl (lv_at hls 0 rfl) ?_
  refine lv_iconst (v := nI 1) hx hb dL_law_731 (by decide) ?_
  refine lv_iadd hx hb dL_law_732 ?_
  rw [nI_add]
  refine lw_sld C hlo (by omega) hN dL_law_733 ?_
  refine lw_cal (k := 247) (a := ob_aM) (As := [.int (xs (6 * n + 1))]) (rest := [.int r]) C hre hlo hls.1 (by decide) (by decide +kernel) (pm_w1_in (i := 1697) (by decide +kernel)) h2 h3 (show (1 : Nat) = pm_a 247 by decide +kernel) (show (2 : Nat) ≤ pm_n 247 by decide +kernel) (show (1 : Nat) ≤ 8 by decide) k1 k2 dL_law_734 (fun H2 locs2 hre2 hlo2 => ?_)
  refine lv_icmp_eq (tgt := 1075) hx hb dL_law_737 (by decide) (fun _ => ?_) (fun hne => absurd rfl hne)
  exact kk w2 H2 locs2 h4 hre2 hlo2
set_option maxHeartbeats 2000000 in
theorem lw_case_20 {n : Nat} {I : pm_H → Prop} (C : lw_cx p s m meth c b L xs D K) (hL : L ≤ 3072) (hi : 6 * n + 6 ≤ L) (hre : pm_re D s.heap.size K s w H) (hlo : ∀ x ∈ locs, s.heap.size ≤ x.base) (hls : lv_has ls 4 [(3, .int (nI (6 * n))), (2, .ref (s.heap.size + ob_aM)), (1, .ref (s.heap.size + 0)), (0, .ref b)]) (hrm : ob_rm w) (hI : ∀ w, I w → ob_rm w)
    (hok : ob_ok 20 [xs (6 * n + 1), xs (6 * n + 2), xs (6 * n + 3), xs (6 * n + 4), xs (6 * n + 5)] w I)
    (kk : ∀ (w2 : pm_H) (H2 : Heap) (locs2 : List Loc), I w2 → pm_re D s.heap.size K s w2 H2 → (∀ x ∈ locs2, s.heap.size ≤ x.base) → W p l e room_1 s m #[Value.ref b] below meth c H2 locs2 w2.length (pm_sz w2) Q (F0 m 1075 ls [])) : W p l e room_1 s m #[Value.ref b] below meth c H locs w.length (pm_sz w) Q (F0 m 742 ls []) := by
  have hN : L < 2 ^ 31 := by omega
  obtain ⟨hx, hb, hr, hml, hown, hts, hX, hbl, hlocks, hgv⟩ := id C.1
  obtain ⟨f, r, w1, w2, h1, h2, ⟨fs1, h3⟩, h4⟩ := hok
  obtain ⟨m1, m2, ⟨fs0, m3⟩, ⟨fs2, m4⟩⟩ := hrm
  obtain ⟨k1, k2, -, -⟩ := hI _ h4
  have q1 := pn_mono _ _ _ _ _ _ _ _ _ h1
  have q2 := pn_mono _ _ _ _ _ _ _ _ _ h2
  refine lv_aload_n hx hb dL_law_742 rfl (lv_at hls 2 rfl) ?_
  refine lv_aload_n hx hb dL_law_743 rfl (lv_at hls 3 rfl) ?_
  refine lv_iload_n hx hb dL_law_744 rfl (lv_at hls 0 rfl) ?_
  refine lv_iconst (v := nI 1) hx hb dL_law_745 (by decide) ?_
  refine lv_iadd hx hb dL_law_746 ?_
  rw [nI_add]
  refine lw_sld C hlo (by omega) hN dL_law_747 ?_
  refine lv_aload_n hx hb dL_law_748 rfl (lv_at hls 3 rfl) ?_
  refine lv_iload_n hx hb dL_law_749 rfl (lv_at hls 0 rfl) ?_
  refine lv_iconst (v := nI 2) hx hb dL_law_750 (by decide) ?_
  refine lv_iadd hx hb dL_law_751 ?_
  rw [nI_add]
  refine lw_sld C hlo (by omega) hN dL_law_752 ?_
  refine lv_aload_n hx hb dL_law_753 rfl (lv_at hls 3 rfl) ?_
  refine lv_iload_n hx hb dL_law_754 rfl (lv_at hls 0 rfl) ?_
  refine lv_iconst (v := nI 3) hx hb dL_law_755 (by decide) ?_
  refine lv_iadd hx hb dL_law_756 ?_
  rw [nI_add]
  refine lw_sld C hlo (by omega) hN dL_law_757 ?_
  refine lw_cal (k := 127) (a := 0) (As := [.int (xs (6 * n + 1)), .int (xs (6 * n + 2)), .int (xs (6 * n + 3))]) (rest := []) C hre hlo hls.1 (by decide) (by decide +kernel) (pm_w1_in (i := 1022) (by decide +kernel)) h1 m3 (show (3 : Nat) = pm_a 127 by decide +kernel) (show (4 : Nat) ≤ pm_n 127 by decide +kernel) (by decide) (by omega) (by omega) dL_law_758 (fun H1 locs1 hre1 hlo1 => ?_)
  clear hre hlo
  have hre := hre1
  have hlo := hlo1
  refine lv_aload_n hx hb dL_law_761 rfl (lv_at hls 1 rfl) ?_
  refine lv_aload_n hx hb dL_law_762 rfl (lv_at hls 3 rfl) ?_
  refine lv_iload_n hx hb dL_law_763 rfl (lv_at hls 0 rfl) ?_
  refine lv_iconst (v := nI 1) hx hb dL_law_764 (by decide) ?_
  refine lv_iadd hx hb dL_law_765 ?_
  rw [nI_add]
  refine lw_sld C hlo (by omega) hN dL_law_766 ?_
  refine lv_aload_n hx hb dL_law_767 rfl (lv_at hls 3 rfl) ?_
  refine lv_iload_n hx hb dL_law_768 rfl (lv_at hls 0 rfl) ?_
  refine lv_iconst (v := nI 2) hx hb dL_law_769 (by decide) ?_
  refine lv_iadd hx hb dL_law_770 ?_
  rw [nI_add]
  refine lw_sld C hlo (by omega) hN dL_law_771 ?_
  refine lv_aload_n hx hb dL_law_772 rfl (lv_at hls 3 rfl) ?_
  refine lv_iload_n hx hb dL_law_773 rfl (lv_at hls 0 rfl) ?_
  refine lv_iconst (v := nI 3) hx hb dL_law_774 (by decide) ?_
  refine lv_iadd hx hb dL_law_775 ?_
  rw [nI_add]
  refine lw_sld C hlo (by omega) hN dL_law_776 ?_
  refine lw_cal (k := 237) (a := ob_aM) (As := [.int (xs (6 * n + 1)), .int (xs (6 * n + 2)), .int (xs (6 * n + 3))]) (rest := [.int r]) C hre hlo hls.1 (by decide) (by decide +kernel) (pm_w1_in (i := 1652) (by decide +kernel)) h2 h3 (show (3 : Nat) = pm_a 237 by decide +kernel) (show (4 : Nat) ≤ pm_n 237 by decide +kernel) (show (1 : Nat) ≤ 8 by decide) k1 k2 dL_law_777 (fun H2 locs2 hre2 hlo2 => ?_)
  refine lv_icmp_eq (tgt := 1075) hx hb dL_law_780 (by decide) (fun _ => ?_) (fun hne => absurd rfl hne)
  exact kk w2 H2 locs2 h4 hre2 hlo2
set_option maxHeartbeats 2000000 in
theorem lw_case_21 {n : Nat} {I : pm_H → Prop} (C : lw_cx p s m meth c b L xs D K) (hL : L ≤ 3072) (hi : 6 * n + 6 ≤ L) (hre : pm_re D s.heap.size K s w H) (hlo : ∀ x ∈ locs, s.heap.size ≤ x.base) (hls : lv_has ls 4 [(3, .int (nI (6 * n))), (2, .ref (s.heap.size + ob_aM)), (1, .ref (s.heap.size + 0)), (0, .ref b)]) (hrm : ob_rm w) (hI : ∀ w, I w → ob_rm w)
    (hok : ob_ok 21 [xs (6 * n + 1), xs (6 * n + 2), xs (6 * n + 3), xs (6 * n + 4), xs (6 * n + 5)] w I)
    (kk : ∀ (w2 : pm_H) (H2 : Heap) (locs2 : List Loc), I w2 → pm_re D s.heap.size K s w2 H2 → (∀ x ∈ locs2, s.heap.size ≤ x.base) → W p l e room_1 s m #[Value.ref b] below meth c H2 locs2 w2.length (pm_sz w2) Q (F0 m 1075 ls [])) : W p l e room_1 s m #[Value.ref b] below meth c H locs w.length (pm_sz w) Q (F0 m 785 ls []) := by
  have hN : L < 2 ^ 31 := by omega
  obtain ⟨hx, hb, hr, hml, hown, hts, hX, hbl, hlocks, hgv⟩ := id C.1
  obtain ⟨f, r, w1, w2, h1, h2, ⟨fs1, h3⟩, h4⟩ := hok
  obtain ⟨m1, m2, ⟨fs0, m3⟩, ⟨fs2, m4⟩⟩ := hrm
  obtain ⟨k1, k2, -, -⟩ := hI _ h4
  have q1 := pn_mono _ _ _ _ _ _ _ _ _ h1
  have q2 := pn_mono _ _ _ _ _ _ _ _ _ h2
  refine lv_aload_n hx hb dL_law_785 rfl (lv_at hls 2 rfl) ?_
  refine lv_aload_n hx hb dL_law_786 rfl (lv_at hls 3 rfl) ?_
  refine lv_iload_n hx hb dL_law_787 rfl (lv_at hls 0 rfl) ?_
  refine lv_iconst (v := nI 1) hx hb dL_law_788 (by decide) ?_
  refine lv_iadd hx hb dL_law_789 ?_
  rw [nI_add]
  refine lw_sld C hlo (by omega) hN dL_law_790 ?_
  refine lw_cal (k := 128) (a := 0) (As := [.int (xs (6 * n + 1))]) (rest := []) C hre hlo hls.1 (by decide) (by decide +kernel) (pm_w1_in (i := 1039) (by decide +kernel)) h1 m3 (show (1 : Nat) = pm_a 128 by decide +kernel) (show (2 : Nat) ≤ pm_n 128 by decide +kernel) (by decide) (by omega) (by omega) dL_law_791 (fun H1 locs1 hre1 hlo1 => ?_)
  clear hre hlo
  have hre := hre1
  have hlo := hlo1
  refine lv_aload_n hx hb dL_law_794 rfl (lv_at hls 1 rfl) ?_
  refine lv_aload_n hx hb dL_law_795 rfl (lv_at hls 3 rfl) ?_
  refine lv_iload_n hx hb dL_law_796 rfl (lv_at hls 0 rfl) ?_
  refine lv_iconst (v := nI 1) hx hb dL_law_797 (by decide) ?_
  refine lv_iadd hx hb dL_law_798 ?_
  rw [nI_add]
  refine lw_sld C hlo (by omega) hN dL_law_799 ?_
  refine lw_cal (k := 248) (a := ob_aM) (As := [.int (xs (6 * n + 1))]) (rest := [.int r]) C hre hlo hls.1 (by decide) (by decide +kernel) (pm_w1_in (i := 1701) (by decide +kernel)) h2 h3 (show (1 : Nat) = pm_a 248 by decide +kernel) (show (2 : Nat) ≤ pm_n 248 by decide +kernel) (show (1 : Nat) ≤ 8 by decide) k1 k2 dL_law_800 (fun H2 locs2 hre2 hlo2 => ?_)
  refine lv_icmp_eq (tgt := 1075) hx hb dL_law_803 (by decide) (fun _ => ?_) (fun hne => absurd rfl hne)
  exact kk w2 H2 locs2 h4 hre2 hlo2
set_option maxHeartbeats 2000000 in
theorem lw_case_22 {n : Nat} {I : pm_H → Prop} (C : lw_cx p s m meth c b L xs D K) (hL : L ≤ 3072) (hi : 6 * n + 6 ≤ L) (hre : pm_re D s.heap.size K s w H) (hlo : ∀ x ∈ locs, s.heap.size ≤ x.base) (hls : lv_has ls 4 [(3, .int (nI (6 * n))), (2, .ref (s.heap.size + ob_aM)), (1, .ref (s.heap.size + 0)), (0, .ref b)]) (hrm : ob_rm w) (hI : ∀ w, I w → ob_rm w)
    (hok : ob_ok 22 [xs (6 * n + 1), xs (6 * n + 2), xs (6 * n + 3), xs (6 * n + 4), xs (6 * n + 5)] w I)
    (kk : ∀ (w2 : pm_H) (H2 : Heap) (locs2 : List Loc), I w2 → pm_re D s.heap.size K s w2 H2 → (∀ x ∈ locs2, s.heap.size ≤ x.base) → W p l e room_1 s m #[Value.ref b] below meth c H2 locs2 w2.length (pm_sz w2) Q (F0 m 1075 ls [])) : W p l e room_1 s m #[Value.ref b] below meth c H locs w.length (pm_sz w) Q (F0 m 808 ls []) := by
  have hN : L < 2 ^ 31 := by omega
  obtain ⟨hx, hb, hr, hml, hown, hts, hX, hbl, hlocks, hgv⟩ := id C.1
  obtain ⟨f, r, w1, w2, h1, h2, ⟨fs1, h3⟩, h4⟩ := hok
  obtain ⟨m1, m2, ⟨fs0, m3⟩, ⟨fs2, m4⟩⟩ := hrm
  obtain ⟨k1, k2, -, -⟩ := hI _ h4
  have q1 := pn_mono _ _ _ _ _ _ _ _ _ h1
  have q2 := pn_mono _ _ _ _ _ _ _ _ _ h2
  refine lv_aload_n hx hb dL_law_808 rfl (lv_at hls 2 rfl) ?_
  refine lv_aload_n hx hb dL_law_809 rfl (lv_at hls 3 rfl) ?_
  refine lv_iload_n hx hb dL_law_810 rfl (lv_at hls 0 rfl) ?_
  refine lv_iconst (v := nI 1) hx hb dL_law_811 (by decide) ?_
  refine lv_iadd hx hb dL_law_812 ?_
  rw [nI_add]
  refine lw_sld C hlo (by omega) hN dL_law_813 ?_
  refine lv_aload_n hx hb dL_law_814 rfl (lv_at hls 3 rfl) ?_
  refine lv_iload_n hx hb dL_law_815 rfl (lv_at hls 0 rfl) ?_
  refine lv_iconst (v := nI 2) hx hb dL_law_816 (by decide) ?_
  refine lv_iadd hx hb dL_law_817 ?_
  rw [nI_add]
  refine lw_sld C hlo (by omega) hN dL_law_818 ?_
  refine lw_cal (k := 129) (a := 0) (As := [.int (xs (6 * n + 1)), .int (xs (6 * n + 2))]) (rest := []) C hre hlo hls.1 (by decide) (by decide +kernel) (pm_w1_in (i := 1047) (by decide +kernel)) h1 m3 (show (2 : Nat) = pm_a 129 by decide +kernel) (show (3 : Nat) ≤ pm_n 129 by decide +kernel) (by decide) (by omega) (by omega) dL_law_819 (fun H1 locs1 hre1 hlo1 => ?_)
  clear hre hlo
  have hre := hre1
  have hlo := hlo1
  refine lv_aload_n hx hb dL_law_822 rfl (lv_at hls 1 rfl) ?_
  refine lv_aload_n hx hb dL_law_823 rfl (lv_at hls 3 rfl) ?_
  refine lv_iload_n hx hb dL_law_824 rfl (lv_at hls 0 rfl) ?_
  refine lv_iconst (v := nI 1) hx hb dL_law_825 (by decide) ?_
  refine lv_iadd hx hb dL_law_826 ?_
  rw [nI_add]
  refine lw_sld C hlo (by omega) hN dL_law_827 ?_
  refine lv_aload_n hx hb dL_law_828 rfl (lv_at hls 3 rfl) ?_
  refine lv_iload_n hx hb dL_law_829 rfl (lv_at hls 0 rfl) ?_
  refine lv_iconst (v := nI 2) hx hb dL_law_830 (by decide) ?_
  refine lv_iadd hx hb dL_law_831 ?_
  rw [nI_add]
  refine lw_sld C hlo (by omega) hN dL_law_832 ?_
  refine lw_cal (k := 249) (a := ob_aM) (As := [.int (xs (6 * n + 1)), .int (xs (6 * n + 2))]) (rest := [.int r]) C hre hlo hls.1 (by decide) (by decide +kernel) (pm_w1_in (i := 1705) (by decide +kernel)) h2 h3 (show (2 : Nat) = pm_a 249 by decide +kernel) (show (3 : Nat) ≤ pm_n 249 by decide +kernel) (show (1 : Nat) ≤ 8 by decide) k1 k2 dL_law_833 (fun H2 locs2 hre2 hlo2 => ?_)
  refine lv_icmp_eq (tgt := 1075) hx hb dL_law_836 (by decide) (fun _ => ?_) (fun hne => absurd rfl hne)
  exact kk w2 H2 locs2 h4 hre2 hlo2
set_option maxHeartbeats 2000000 in
theorem lw_case_23 {n : Nat} {I : pm_H → Prop} (C : lw_cx p s m meth c b L xs D K) (hL : L ≤ 3072) (hi : 6 * n + 6 ≤ L) (hre : pm_re D s.heap.size K s w H) (hlo : ∀ x ∈ locs, s.heap.size ≤ x.base) (hls : lv_has ls 4 [(3, .int (nI (6 * n))), (2, .ref (s.heap.size + ob_aM)), (1, .ref (s.heap.size + 0)), (0, .ref b)]) (hrm : ob_rm w) (hI : ∀ w, I w → ob_rm w)
    (hok : ob_ok 23 [xs (6 * n + 1), xs (6 * n + 2), xs (6 * n + 3), xs (6 * n + 4), xs (6 * n + 5)] w I)
    (kk : ∀ (w2 : pm_H) (H2 : Heap) (locs2 : List Loc), I w2 → pm_re D s.heap.size K s w2 H2 → (∀ x ∈ locs2, s.heap.size ≤ x.base) → W p l e room_1 s m #[Value.ref b] below meth c H2 locs2 w2.length (pm_sz w2) Q (F0 m 1075 ls [])) : W p l e room_1 s m #[Value.ref b] below meth c H locs w.length (pm_sz w) Q (F0 m 841 ls []) := by
  have hN : L < 2 ^ 31 := by omega
  obtain ⟨hx, hb, hr, hml, hown, hts, hX, hbl, hlocks, hgv⟩ := id C.1
  obtain ⟨f, r, w1, w2, h1, h2, ⟨fs1, h3⟩, h4⟩ := hok
  obtain ⟨m1, m2, ⟨fs0, m3⟩, ⟨fs2, m4⟩⟩ := hrm
  obtain ⟨k1, k2, -, -⟩ := hI _ h4
  have q1 := pn_mono _ _ _ _ _ _ _ _ _ h1
  have q2 := pn_mono _ _ _ _ _ _ _ _ _ h2
  refine lv_aload_n hx hb dL_law_841 rfl (lv_at hls 2 rfl) ?_
  refine lv_aload_n hx hb dL_law_842 rfl (lv_at hls 3 rfl) ?_
  refine lv_iload_n hx hb dL_law_843 rfl (lv_at hls 0 rfl) ?_
  refine lv_iconst (v := nI 1) hx hb dL_law_844 (by decide) ?_
  refine lv_iadd hx hb dL_law_845 ?_
  rw [nI_add]
  refine lw_sld C hlo (by omega) hN dL_law_846 ?_
  refine lv_aload_n hx hb dL_law_847 rfl (lv_at hls 3 rfl) ?_
  refine lv_iload_n hx hb dL_law_848 rfl (lv_at hls 0 rfl) ?_
  refine lv_iconst (v := nI 2) hx hb dL_law_849 (by decide) ?_
  refine lv_iadd hx hb dL_law_850 ?_
  rw [nI_add]
  refine lw_sld C hlo (by omega) hN dL_law_851 ?_
  refine lv_aload_n hx hb dL_law_852 rfl (lv_at hls 3 rfl) ?_
  refine lv_iload_n hx hb dL_law_853 rfl (lv_at hls 0 rfl) ?_
  refine lv_iconst (v := nI 3) hx hb dL_law_854 (by decide) ?_
  refine lv_iadd hx hb dL_law_855 ?_
  rw [nI_add]
  refine lw_sld C hlo (by omega) hN dL_law_856 ?_
  refine lv_aload_n hx hb dL_law_857 rfl (lv_at hls 3 rfl) ?_
  refine lv_iload_n hx hb dL_law_858 rfl (lv_at hls 0 rfl) ?_
  refine lv_iconst (v := nI 4) hx hb dL_law_859 (by decide) ?_
  refine lv_iadd hx hb dL_law_860 ?_
  rw [nI_add]
  refine lw_sld C hlo (by omega) hN dL_law_861 ?_
  refine lw_cal (k := 130) (a := 0) (As := [.int (xs (6 * n + 1)), .int (xs (6 * n + 2)), .int (xs (6 * n + 3)), .int (xs (6 * n + 4))]) (rest := []) C hre hlo hls.1 (by decide) (by decide +kernel) (pm_w1_in (i := 1052) (by decide +kernel)) h1 m3 (show (4 : Nat) = pm_a 130 by decide +kernel) (show (5 : Nat) ≤ pm_n 130 by decide +kernel) (by decide) (by omega) (by omega) dL_law_862 (fun H1 locs1 hre1 hlo1 => ?_)
  clear hre hlo
  have hre := hre1
  have hlo := hlo1
  refine lv_aload_n hx hb dL_law_865 rfl (lv_at hls 1 rfl) ?_
  refine lv_aload_n hx hb dL_law_866 rfl (lv_at hls 3 rfl) ?_
  refine lv_iload_n hx hb dL_law_867 rfl (lv_at hls 0 rfl) ?_
  refine lv_iconst (v := nI 1) hx hb dL_law_868 (by decide) ?_
  refine lv_iadd hx hb dL_law_869 ?_
  rw [nI_add]
  refine lw_sld C hlo (by omega) hN dL_law_870 ?_
  refine lv_aload_n hx hb dL_law_871 rfl (lv_at hls 3 rfl) ?_
  refine lv_iload_n hx hb dL_law_872 rfl (lv_at hls 0 rfl) ?_
  refine lv_iconst (v := nI 2) hx hb dL_law_873 (by decide) ?_
  refine lv_iadd hx hb dL_law_874 ?_
  rw [nI_add]
  refine lw_sld C hlo (by omega) hN dL_law_875 ?_
  refine lv_aload_n hx hb dL_law_876 rfl (lv_at hls 3 rfl) ?_
  refine lv_iload_n hx hb dL_law_877 rfl (lv_at hls 0 rfl) ?_
  refine lv_iconst (v := nI 3) hx hb dL_law_878 (by decide) ?_
  refine lv_iadd hx hb dL_law_879 ?_
  rw [nI_add]
  refine lw_sld C hlo (by omega) hN dL_law_880 ?_
  refine lv_aload_n hx hb dL_law_881 rfl (lv_at hls 3 rfl) ?_
  refine lv_iload_n hx hb dL_law_882 rfl (lv_at hls 0 rfl) ?_
  refine lv_iconst (v := nI 4) hx hb dL_law_883 (by decide) ?_
  refine lv_iadd hx hb dL_law_884 ?_
  rw [nI_add]
  refine lw_sld C hlo (by omega) hN dL_law_885 ?_
  refine lw_cal (k := 250) (a := ob_aM) (As := [.int (xs (6 * n + 1)), .int (xs (6 * n + 2)), .int (xs (6 * n + 3)), .int (xs (6 * n + 4))]) (rest := [.int r]) C hre hlo hls.1 (by decide) (by decide +kernel) (pm_w1_in (i := 1709) (by decide +kernel)) h2 h3 (show (4 : Nat) = pm_a 250 by decide +kernel) (show (5 : Nat) ≤ pm_n 250 by decide +kernel) (show (1 : Nat) ≤ 8 by decide) k1 k2 dL_law_886 (fun H2 locs2 hre2 hlo2 => ?_)
  refine lv_icmp_eq (tgt := 1075) hx hb dL_law_889 (by decide) (fun _ => ?_) (fun hne => absurd rfl hne)
  exact kk w2 H2 locs2 h4 hre2 hlo2
set_option maxHeartbeats 2000000 in
theorem lw_case_24 {n : Nat} {I : pm_H → Prop} (C : lw_cx p s m meth c b L xs D K) (hL : L ≤ 3072) (hi : 6 * n + 6 ≤ L) (hre : pm_re D s.heap.size K s w H) (hlo : ∀ x ∈ locs, s.heap.size ≤ x.base) (hls : lv_has ls 4 [(3, .int (nI (6 * n))), (2, .ref (s.heap.size + ob_aM)), (1, .ref (s.heap.size + 0)), (0, .ref b)]) (hrm : ob_rm w) (hI : ∀ w, I w → ob_rm w)
    (hok : ob_ok 24 [xs (6 * n + 1), xs (6 * n + 2), xs (6 * n + 3), xs (6 * n + 4), xs (6 * n + 5)] w I)
    (kk : ∀ (w2 : pm_H) (H2 : Heap) (locs2 : List Loc), I w2 → pm_re D s.heap.size K s w2 H2 → (∀ x ∈ locs2, s.heap.size ≤ x.base) → W p l e room_1 s m #[Value.ref b] below meth c H2 locs2 w2.length (pm_sz w2) Q (F0 m 1075 ls [])) : W p l e room_1 s m #[Value.ref b] below meth c H locs w.length (pm_sz w) Q (F0 m 894 ls []) := by
  have hN : L < 2 ^ 31 := by omega
  obtain ⟨hx, hb, hr, hml, hown, hts, hX, hbl, hlocks, hgv⟩ := id C.1
  obtain ⟨f, r, w1, w2, h1, h2, ⟨fs1, h3⟩, h4⟩ := hok
  obtain ⟨m1, m2, ⟨fs0, m3⟩, ⟨fs2, m4⟩⟩ := hrm
  obtain ⟨k1, k2, -, -⟩ := hI _ h4
  have q1 := pn_mono _ _ _ _ _ _ _ _ _ h1
  have q2 := pn_mono _ _ _ _ _ _ _ _ _ h2
  refine lv_aload_n hx hb dL_law_894 rfl (lv_at hls 2 rfl) ?_
  refine lv_aload_n hx hb dL_law_895 rfl (lv_at hls 3 rfl) ?_
  refine lv_iload_n hx hb dL_law_896 rfl (lv_at hls 0 rfl) ?_
  refine lv_iconst (v := nI 1) hx hb dL_law_897 (by decide) ?_
  refine lv_iadd hx hb dL_law_898 ?_
  rw [nI_add]
  refine lw_sld C hlo (by omega) hN dL_law_899 ?_
  refine lw_cal (k := 131) (a := 0) (As := [.int (xs (6 * n + 1))]) (rest := []) C hre hlo hls.1 (by decide) (by decide +kernel) (pm_w1_in (i := 1056) (by decide +kernel)) h1 m3 (show (1 : Nat) = pm_a 131 by decide +kernel) (show (2 : Nat) ≤ pm_n 131 by decide +kernel) (by decide) (by omega) (by omega) dL_law_900 (fun H1 locs1 hre1 hlo1 => ?_)
  clear hre hlo
  have hre := hre1
  have hlo := hlo1
  refine lv_aload_n hx hb dL_law_903 rfl (lv_at hls 1 rfl) ?_
  refine lv_aload_n hx hb dL_law_904 rfl (lv_at hls 3 rfl) ?_
  refine lv_iload_n hx hb dL_law_905 rfl (lv_at hls 0 rfl) ?_
  refine lv_iconst (v := nI 1) hx hb dL_law_906 (by decide) ?_
  refine lv_iadd hx hb dL_law_907 ?_
  rw [nI_add]
  refine lw_sld C hlo (by omega) hN dL_law_908 ?_
  refine lw_cal (k := 253) (a := ob_aM) (As := [.int (xs (6 * n + 1))]) (rest := [.int r]) C hre hlo hls.1 (by decide) (by decide +kernel) (pm_w1_in (i := 1714) (by decide +kernel)) h2 h3 (show (1 : Nat) = pm_a 253 by decide +kernel) (show (2 : Nat) ≤ pm_n 253 by decide +kernel) (show (1 : Nat) ≤ 8 by decide) k1 k2 dL_law_909 (fun H2 locs2 hre2 hlo2 => ?_)
  refine lv_icmp_eq (tgt := 1075) hx hb dL_law_912 (by decide) (fun _ => ?_) (fun hne => absurd rfl hne)
  exact kk w2 H2 locs2 h4 hre2 hlo2
set_option maxHeartbeats 2000000 in
theorem lw_case_25 {n : Nat} {I : pm_H → Prop} (C : lw_cx p s m meth c b L xs D K) (hL : L ≤ 3072) (hi : 6 * n + 6 ≤ L) (hre : pm_re D s.heap.size K s w H) (hlo : ∀ x ∈ locs, s.heap.size ≤ x.base) (hls : lv_has ls 4 [(3, .int (nI (6 * n))), (2, .ref (s.heap.size + ob_aM)), (1, .ref (s.heap.size + 0)), (0, .ref b)]) (hrm : ob_rm w) (hI : ∀ w, I w → ob_rm w)
    (hok : ob_ok 25 [xs (6 * n + 1), xs (6 * n + 2), xs (6 * n + 3), xs (6 * n + 4), xs (6 * n + 5)] w I)
    (kk : ∀ (w2 : pm_H) (H2 : Heap) (locs2 : List Loc), I w2 → pm_re D s.heap.size K s w2 H2 → (∀ x ∈ locs2, s.heap.size ≤ x.base) → W p l e room_1 s m #[Value.ref b] below meth c H2 locs2 w2.length (pm_sz w2) Q (F0 m 1075 ls [])) : W p l e room_1 s m #[Value.ref b] below meth c H locs w.length (pm_sz w) Q (F0 m 917 ls []) := by
  have hN : L < 2 ^ 31 := by omega
  obtain ⟨hx, hb, hr, hml, hown, hts, hX, hbl, hlocks, hgv⟩ := id C.1
  obtain ⟨f, r, w1, w2, h1, h2, ⟨fs1, h3⟩, h4⟩ := hok
  obtain ⟨m1, m2, ⟨fs0, m3⟩, ⟨fs2, m4⟩⟩ := hrm
  obtain ⟨k1, k2, -, -⟩ := hI _ h4
  have q1 := pn_mono _ _ _ _ _ _ _ _ _ h1
  have q2 := pn_mono _ _ _ _ _ _ _ _ _ h2
  refine lv_aload_n hx hb dL_law_917 rfl (lv_at hls 2 rfl) ?_
  refine lv_aload_n hx hb dL_law_918 rfl (lv_at hls 3 rfl) ?_
  refine lv_iload_n hx hb dL_law_919 rfl (lv_at hls 0 rfl) ?_
  refine lv_iconst (v := nI 1) hx hb dL_law_920 (by decide) ?_
  refine lv_iadd hx hb dL_law_921 ?_
  rw [nI_add]
  refine lw_sld C hlo (by omega) hN dL_law_922 ?_
  refine lw_cal (k := 132) (a := 0) (As := [.int (xs (6 * n + 1))]) (rest := []) C hre hlo hls.1 (by decide) (by decide +kernel) (pm_w1_in (i := 1068) (by decide +kernel)) h1 m3 (show (1 : Nat) = pm_a 132 by decide +kernel) (show (2 : Nat) ≤ pm_n 132 by decide +kernel) (by decide) (by omega) (by omega) dL_law_923 (fun H1 locs1 hre1 hlo1 => ?_)
  clear hre hlo
  have hre := hre1
  have hlo := hlo1
  refine lv_aload_n hx hb dL_law_926 rfl (lv_at hls 1 rfl) ?_
  refine lv_aload_n hx hb dL_law_927 rfl (lv_at hls 3 rfl) ?_
  refine lv_iload_n hx hb dL_law_928 rfl (lv_at hls 0 rfl) ?_
  refine lv_iconst (v := nI 1) hx hb dL_law_929 (by decide) ?_
  refine lv_iadd hx hb dL_law_930 ?_
  rw [nI_add]
  refine lw_sld C hlo (by omega) hN dL_law_931 ?_
  refine lw_cal (k := 255) (a := ob_aM) (As := [.int (xs (6 * n + 1))]) (rest := [.int r]) C hre hlo hls.1 (by decide) (by decide +kernel) (pm_w1_in (i := 1726) (by decide +kernel)) h2 h3 (show (1 : Nat) = pm_a 255 by decide +kernel) (show (2 : Nat) ≤ pm_n 255 by decide +kernel) (show (1 : Nat) ≤ 8 by decide) k1 k2 dL_law_932 (fun H2 locs2 hre2 hlo2 => ?_)
  refine lv_icmp_eq (tgt := 1075) hx hb dL_law_935 (by decide) (fun _ => ?_) (fun hne => absurd rfl hne)
  exact kk w2 H2 locs2 h4 hre2 hlo2
set_option maxHeartbeats 2000000 in
theorem lw_case_26 {n : Nat} {I : pm_H → Prop} (C : lw_cx p s m meth c b L xs D K) (hL : L ≤ 3072) (hi : 6 * n + 6 ≤ L) (hre : pm_re D s.heap.size K s w H) (hlo : ∀ x ∈ locs, s.heap.size ≤ x.base) (hls : lv_has ls 4 [(3, .int (nI (6 * n))), (2, .ref (s.heap.size + ob_aM)), (1, .ref (s.heap.size + 0)), (0, .ref b)]) (hrm : ob_rm w) (hI : ∀ w, I w → ob_rm w)
    (hok : ob_ok 26 [xs (6 * n + 1), xs (6 * n + 2), xs (6 * n + 3), xs (6 * n + 4), xs (6 * n + 5)] w I)
    (kk : ∀ (w2 : pm_H) (H2 : Heap) (locs2 : List Loc), I w2 → pm_re D s.heap.size K s w2 H2 → (∀ x ∈ locs2, s.heap.size ≤ x.base) → W p l e room_1 s m #[Value.ref b] below meth c H2 locs2 w2.length (pm_sz w2) Q (F0 m 1075 ls [])) : W p l e room_1 s m #[Value.ref b] below meth c H locs w.length (pm_sz w) Q (F0 m 940 ls []) := by
  have hN : L < 2 ^ 31 := by omega
  obtain ⟨hx, hb, hr, hml, hown, hts, hX, hbl, hlocks, hgv⟩ := id C.1
  obtain ⟨f, r, w1, w2, h1, h2, ⟨fs1, h3⟩, h4⟩ := hok
  obtain ⟨m1, m2, ⟨fs0, m3⟩, ⟨fs2, m4⟩⟩ := hrm
  obtain ⟨k1, k2, -, -⟩ := hI _ h4
  have q1 := pn_mono _ _ _ _ _ _ _ _ _ h1
  have q2 := pn_mono _ _ _ _ _ _ _ _ _ h2
  refine lv_aload_n hx hb dL_law_940 rfl (lv_at hls 2 rfl) ?_
  refine lv_aload_n hx hb dL_law_941 rfl (lv_at hls 3 rfl) ?_
  refine lv_iload_n hx hb dL_law_942 rfl (lv_at hls 0 rfl) ?_
  refine lv_iconst (v := nI 1) hx hb dL_law_943 (by decide) ?_
  refine lv_iadd hx hb dL_law_944 ?_
  rw [nI_add]
  refine lw_sld C hlo (by omega) hN dL_law_945 ?_
  refine lw_cal (k := 133) (a := 0) (As := [.int (xs (6 * n + 1))]) (rest := []) C hre hlo hls.1 (by decide) (by decide +kernel) (pm_w1_in (i := 1080) (by decide +kernel)) h1 m3 (show (1 : Nat) = pm_a 133 by decide +kernel) (show (2 : Nat) ≤ pm_n 133 by decide +kernel) (by decide) (by omega) (by omega) dL_law_946 (fun H1 locs1 hre1 hlo1 => ?_)
  clear hre hlo
  have hre := hre1
  have hlo := hlo1
  refine lv_aload_n hx hb dL_law_949 rfl (lv_at hls 1 rfl) ?_
  refine lv_aload_n hx hb dL_law_950 rfl (lv_at hls 3 rfl) ?_
  refine lv_iload_n hx hb dL_law_951 rfl (lv_at hls 0 rfl) ?_
  refine lv_iconst (v := nI 1) hx hb dL_law_952 (by decide) ?_
  refine lv_iadd hx hb dL_law_953 ?_
  rw [nI_add]
  refine lw_sld C hlo (by omega) hN dL_law_954 ?_
  refine lw_cal (k := 256) (a := ob_aM) (As := [.int (xs (6 * n + 1))]) (rest := [.int r]) C hre hlo hls.1 (by decide) (by decide +kernel) (pm_w1_in (i := 1734) (by decide +kernel)) h2 h3 (show (1 : Nat) = pm_a 256 by decide +kernel) (show (2 : Nat) ≤ pm_n 256 by decide +kernel) (show (1 : Nat) ≤ 8 by decide) k1 k2 dL_law_955 (fun H2 locs2 hre2 hlo2 => ?_)
  refine lv_icmp_eq (tgt := 1075) hx hb dL_law_958 (by decide) (fun _ => ?_) (fun hne => absurd rfl hne)
  exact kk w2 H2 locs2 h4 hre2 hlo2
set_option maxHeartbeats 2000000 in
theorem lw_case_27 {n : Nat} {I : pm_H → Prop} (C : lw_cx p s m meth c b L xs D K) (hL : L ≤ 3072) (hi : 6 * n + 6 ≤ L) (hre : pm_re D s.heap.size K s w H) (hlo : ∀ x ∈ locs, s.heap.size ≤ x.base) (hls : lv_has ls 4 [(3, .int (nI (6 * n))), (2, .ref (s.heap.size + ob_aM)), (1, .ref (s.heap.size + 0)), (0, .ref b)]) (hrm : ob_rm w) (hI : ∀ w, I w → ob_rm w)
    (hok : ob_ok 27 [xs (6 * n + 1), xs (6 * n + 2), xs (6 * n + 3), xs (6 * n + 4), xs (6 * n + 5)] w I)
    (kk : ∀ (w2 : pm_H) (H2 : Heap) (locs2 : List Loc), I w2 → pm_re D s.heap.size K s w2 H2 → (∀ x ∈ locs2, s.heap.size ≤ x.base) → W p l e room_1 s m #[Value.ref b] below meth c H2 locs2 w2.length (pm_sz w2) Q (F0 m 1075 ls [])) : W p l e room_1 s m #[Value.ref b] below meth c H locs w.length (pm_sz w) Q (F0 m 963 ls []) := by
  have hN : L < 2 ^ 31 := by omega
  obtain ⟨hx, hb, hr, hml, hown, hts, hX, hbl, hlocks, hgv⟩ := id C.1
  obtain ⟨f, r, w1, w2, h1, h2, ⟨fs1, h3⟩, h4⟩ := hok
  obtain ⟨m1, m2, ⟨fs0, m3⟩, ⟨fs2, m4⟩⟩ := hrm
  obtain ⟨k1, k2, -, -⟩ := hI _ h4
  have q1 := pn_mono _ _ _ _ _ _ _ _ _ h1
  have q2 := pn_mono _ _ _ _ _ _ _ _ _ h2
  refine lv_aload_n hx hb dL_law_963 rfl (lv_at hls 2 rfl) ?_
  refine lv_aload_n hx hb dL_law_964 rfl (lv_at hls 3 rfl) ?_
  refine lv_iload_n hx hb dL_law_965 rfl (lv_at hls 0 rfl) ?_
  refine lv_iconst (v := nI 1) hx hb dL_law_966 (by decide) ?_
  refine lv_iadd hx hb dL_law_967 ?_
  rw [nI_add]
  refine lw_sld C hlo (by omega) hN dL_law_968 ?_
  refine lv_aload_n hx hb dL_law_969 rfl (lv_at hls 3 rfl) ?_
  refine lv_iload_n hx hb dL_law_970 rfl (lv_at hls 0 rfl) ?_
  refine lv_iconst (v := nI 2) hx hb dL_law_971 (by decide) ?_
  refine lv_iadd hx hb dL_law_972 ?_
  rw [nI_add]
  refine lw_sld C hlo (by omega) hN dL_law_973 ?_
  refine lv_aload_n hx hb dL_law_974 rfl (lv_at hls 3 rfl) ?_
  refine lv_iload_n hx hb dL_law_975 rfl (lv_at hls 0 rfl) ?_
  refine lv_iconst (v := nI 3) hx hb dL_law_976 (by decide) ?_
  refine lv_iadd hx hb dL_law_977 ?_
  rw [nI_add]
  refine lw_sld C hlo (by omega) hN dL_law_978 ?_
  refine lw_cal (k := 134) (a := 0) (As := [.int (xs (6 * n + 1)), .int (xs (6 * n + 2)), .int (xs (6 * n + 3))]) (rest := []) C hre hlo hls.1 (by decide) (by decide +kernel) (pm_w1_in (i := 1084) (by decide +kernel)) h1 m3 (show (3 : Nat) = pm_a 134 by decide +kernel) (show (4 : Nat) ≤ pm_n 134 by decide +kernel) (by decide) (by omega) (by omega) dL_law_979 (fun H1 locs1 hre1 hlo1 => ?_)
  clear hre hlo
  have hre := hre1
  have hlo := hlo1
  refine lv_aload_n hx hb dL_law_982 rfl (lv_at hls 1 rfl) ?_
  refine lv_aload_n hx hb dL_law_983 rfl (lv_at hls 3 rfl) ?_
  refine lv_iload_n hx hb dL_law_984 rfl (lv_at hls 0 rfl) ?_
  refine lv_iconst (v := nI 1) hx hb dL_law_985 (by decide) ?_
  refine lv_iadd hx hb dL_law_986 ?_
  rw [nI_add]
  refine lw_sld C hlo (by omega) hN dL_law_987 ?_
  refine lv_aload_n hx hb dL_law_988 rfl (lv_at hls 3 rfl) ?_
  refine lv_iload_n hx hb dL_law_989 rfl (lv_at hls 0 rfl) ?_
  refine lv_iconst (v := nI 2) hx hb dL_law_990 (by decide) ?_
  refine lv_iadd hx hb dL_law_991 ?_
  rw [nI_add]
  refine lw_sld C hlo (by omega) hN dL_law_992 ?_
  refine lv_aload_n hx hb dL_law_993 rfl (lv_at hls 3 rfl) ?_
  refine lv_iload_n hx hb dL_law_994 rfl (lv_at hls 0 rfl) ?_
  refine lv_iconst (v := nI 3) hx hb dL_law_995 (by decide) ?_
  refine lv_iadd hx hb dL_law_996 ?_
  rw [nI_add]
  refine lw_sld C hlo (by omega) hN dL_law_997 ?_
  refine lw_cal (k := 259) (a := ob_aM) (As := [.int (xs (6 * n + 1)), .int (xs (6 * n + 2)), .int (xs (6 * n + 3))]) (rest := [.int r]) C hre hlo hls.1 (by decide) (by decide +kernel) (pm_w1_in (i := 1738) (by decide +kernel)) h2 h3 (show (3 : Nat) = pm_a 259 by decide +kernel) (show (4 : Nat) ≤ pm_n 259 by decide +kernel) (show (1 : Nat) ≤ 8 by decide) k1 k2 dL_law_998 (fun H2 locs2 hre2 hlo2 => ?_)
  refine lv_icmp_eq (tgt := 1075) hx hb dL_law_1001 (by decide) (fun _ => ?_) (fun hne => absurd rfl hne)
  exact kk w2 H2 locs2 h4 hre2 hlo2
set_option maxHeartbeats 2000000 in
theorem lw_case_28 {n : Nat} {I : pm_H → Prop} (C : lw_cx p s m meth c b L xs D K) (hL : L ≤ 3072) (hi : 6 * n + 6 ≤ L) (hre : pm_re D s.heap.size K s w H) (hlo : ∀ x ∈ locs, s.heap.size ≤ x.base) (hls : lv_has ls 4 [(3, .int (nI (6 * n))), (2, .ref (s.heap.size + ob_aM)), (1, .ref (s.heap.size + 0)), (0, .ref b)]) (hrm : ob_rm w) (hI : ∀ w, I w → ob_rm w)
    (hok : ob_ok 28 [xs (6 * n + 1), xs (6 * n + 2), xs (6 * n + 3), xs (6 * n + 4), xs (6 * n + 5)] w I)
    (kk : ∀ (w2 : pm_H) (H2 : Heap) (locs2 : List Loc), I w2 → pm_re D s.heap.size K s w2 H2 → (∀ x ∈ locs2, s.heap.size ≤ x.base) → W p l e room_1 s m #[Value.ref b] below meth c H2 locs2 w2.length (pm_sz w2) Q (F0 m 1075 ls [])) : W p l e room_1 s m #[Value.ref b] below meth c H locs w.length (pm_sz w) Q (F0 m 1006 ls []) := by
  have hN : L < 2 ^ 31 := by omega
  obtain ⟨hx, hb, hr, hml, hown, hts, hX, hbl, hlocks, hgv⟩ := id C.1
  obtain ⟨f, r, w1, w2, h1, h2, ⟨fs1, h3⟩, h4⟩ := hok
  obtain ⟨m1, m2, ⟨fs0, m3⟩, ⟨fs2, m4⟩⟩ := hrm
  obtain ⟨k1, k2, -, -⟩ := hI _ h4
  have q1 := pn_mono _ _ _ _ _ _ _ _ _ h1
  have q2 := pn_mono _ _ _ _ _ _ _ _ _ h2
  refine lv_aload_n hx hb dL_law_1006 rfl (lv_at hls 2 rfl) ?_
  refine lv_aload_n hx hb dL_law_1007 rfl (lv_at hls 3 rfl) ?_
  refine lv_iload_n hx hb dL_law_1008 rfl (lv_at hls 0 rfl) ?_
  refine lv_iconst (v := nI 1) hx hb dL_law_1009 (by decide) ?_
  refine lv_iadd hx hb dL_law_1010 ?_
  rw [nI_add]
  refine lw_sld C hlo (by omega) hN dL_law_1011 ?_
  refine lw_cal (k := 135) (a := 0) (As := [.int (xs (6 * n + 1))]) (rest := []) C hre hlo hls.1 (by decide) (by decide +kernel) (pm_w1_in (i := 1111) (by decide +kernel)) h1 m3 (show (1 : Nat) = pm_a 135 by decide +kernel) (show (2 : Nat) ≤ pm_n 135 by decide +kernel) (by decide) (by omega) (by omega) dL_law_1012 (fun H1 locs1 hre1 hlo1 => ?_)
  clear hre hlo
  have hre := hre1
  have hlo := hlo1
  refine lv_aload_n hx hb dL_law_1015 rfl (lv_at hls 1 rfl) ?_
  refine lv_aload_n hx hb dL_law_1016 rfl (lv_at hls 3 rfl) ?_
  refine lv_iload_n hx hb dL_law_1017 rfl (lv_at hls 0 rfl) ?_
  refine lv_iconst (v := nI 1) hx hb dL_law_1018 (by decide) ?_
  refine lv_iadd hx hb dL_law_1019 ?_
  rw [nI_add]
  refine lw_sld C hlo (by omega) hN dL_law_1020 ?_
  refine lw_cal (k := 260) (a := ob_aM) (As := [.int (xs (6 * n + 1))]) (rest := [.int r]) C hre hlo hls.1 (by decide) (by decide +kernel) (pm_w1_in (i := 1755) (by decide +kernel)) h2 h3 (show (1 : Nat) = pm_a 260 by decide +kernel) (show (2 : Nat) ≤ pm_n 260 by decide +kernel) (show (1 : Nat) ≤ 8 by decide) k1 k2 dL_law_1021 (fun H2 locs2 hre2 hlo2 => ?_)
  refine lv_icmp_eq (tgt := 1075) hx hb dL_law_1024 (by decide) (fun _ => ?_) (fun hne => absurd rfl hne)
  exact kk w2 H2 locs2 h4 hre2 hlo2
set_option maxHeartbeats 2000000 in
theorem lw_case_29 {n : Nat} {I : pm_H → Prop} (C : lw_cx p s m meth c b L xs D K) (hL : L ≤ 3072) (hi : 6 * n + 6 ≤ L) (hre : pm_re D s.heap.size K s w H) (hlo : ∀ x ∈ locs, s.heap.size ≤ x.base) (hls : lv_has ls 4 [(3, .int (nI (6 * n))), (2, .ref (s.heap.size + ob_aM)), (1, .ref (s.heap.size + 0)), (0, .ref b)]) (hrm : ob_rm w) (hI : ∀ w, I w → ob_rm w)
    (hok : ob_ok 29 [xs (6 * n + 1), xs (6 * n + 2), xs (6 * n + 3), xs (6 * n + 4), xs (6 * n + 5)] w I)
    (kk : ∀ (w2 : pm_H) (H2 : Heap) (locs2 : List Loc), I w2 → pm_re D s.heap.size K s w2 H2 → (∀ x ∈ locs2, s.heap.size ≤ x.base) → W p l e room_1 s m #[Value.ref b] below meth c H2 locs2 w2.length (pm_sz w2) Q (F0 m 1075 ls [])) : W p l e room_1 s m #[Value.ref b] below meth c H locs w.length (pm_sz w) Q (F0 m 1029 ls []) := by
  have hN : L < 2 ^ 31 := by omega
  obtain ⟨hx, hb, hr, hml, hown, hts, hX, hbl, hlocks, hgv⟩ := id C.1
  obtain ⟨f, r, w1, w2, h1, h2, ⟨fs1, h3⟩, h4⟩ := hok
  obtain ⟨m1, m2, ⟨fs0, m3⟩, ⟨fs2, m4⟩⟩ := hrm
  obtain ⟨k1, k2, -, -⟩ := hI _ h4
  have q1 := pn_mono _ _ _ _ _ _ _ _ _ h1
  have q2 := pn_mono _ _ _ _ _ _ _ _ _ h2
  refine lv_aload_n hx hb dL_law_1029 rfl (lv_at hls 2 rfl) ?_
  refine lv_aload_n hx hb dL_law_1030 rfl (lv_at hls 3 rfl) ?_
  refine lv_iload_n hx hb dL_law_1031 rfl (lv_at hls 0 rfl) ?_
  refine lv_iconst (v := nI 1) hx hb dL_law_1032 (by decide) ?_
  refine lv_iadd hx hb dL_law_1033 ?_
  rw [nI_add]
  refine lw_sld C hlo (by omega) hN dL_law_1034 ?_
  refine lw_cal (k := 136) (a := 0) (As := [.int (xs (6 * n + 1))]) (rest := []) C hre hlo hls.1 (by decide) (by decide +kernel) (pm_w1_in (i := 1119) (by decide +kernel)) h1 m3 (show (1 : Nat) = pm_a 136 by decide +kernel) (show (2 : Nat) ≤ pm_n 136 by decide +kernel) (by decide) (by omega) (by omega) dL_law_1035 (fun H1 locs1 hre1 hlo1 => ?_)
  clear hre hlo
  have hre := hre1
  have hlo := hlo1
  refine lv_aload_n hx hb dL_law_1038 rfl (lv_at hls 1 rfl) ?_
  refine lv_aload_n hx hb dL_law_1039 rfl (lv_at hls 3 rfl) ?_
  refine lv_iload_n hx hb dL_law_1040 rfl (lv_at hls 0 rfl) ?_
  refine lv_iconst (v := nI 1) hx hb dL_law_1041 (by decide) ?_
  refine lv_iadd hx hb dL_law_1042 ?_
  rw [nI_add]
  refine lw_sld C hlo (by omega) hN dL_law_1043 ?_
  refine lw_cal (k := 261) (a := ob_aM) (As := [.int (xs (6 * n + 1))]) (rest := [.int r]) C hre hlo hls.1 (by decide) (by decide +kernel) (pm_w1_in (i := 1759) (by decide +kernel)) h2 h3 (show (1 : Nat) = pm_a 261 by decide +kernel) (show (2 : Nat) ≤ pm_n 261 by decide +kernel) (show (1 : Nat) ≤ 8 by decide) k1 k2 dL_law_1044 (fun H2 locs2 hre2 hlo2 => ?_)
  refine lv_icmp_eq (tgt := 1075) hx hb dL_law_1047 (by decide) (fun _ => ?_) (fun hne => absurd rfl hne)
  exact kk w2 H2 locs2 h4 hre2 hlo2
set_option maxHeartbeats 2000000 in
theorem lw_case_30 {n : Nat} {I : pm_H → Prop} (C : lw_cx p s m meth c b L xs D K) (hL : L ≤ 3072) (hi : 6 * n + 6 ≤ L) (hre : pm_re D s.heap.size K s w H) (hlo : ∀ x ∈ locs, s.heap.size ≤ x.base) (hls : lv_has ls 4 [(3, .int (nI (6 * n))), (2, .ref (s.heap.size + ob_aM)), (1, .ref (s.heap.size + 0)), (0, .ref b)]) (hrm : ob_rm w) (hI : ∀ w, I w → ob_rm w)
    (hok : ob_ok 30 [xs (6 * n + 1), xs (6 * n + 2), xs (6 * n + 3), xs (6 * n + 4), xs (6 * n + 5)] w I)
    (kk : ∀ (w2 : pm_H) (H2 : Heap) (locs2 : List Loc), I w2 → pm_re D s.heap.size K s w2 H2 → (∀ x ∈ locs2, s.heap.size ≤ x.base) → W p l e room_1 s m #[Value.ref b] below meth c H2 locs2 w2.length (pm_sz w2) Q (F0 m 1075 ls [])) : W p l e room_1 s m #[Value.ref b] below meth c H locs w.length (pm_sz w) Q (F0 m 1052 ls []) := by
  have hN : L < 2 ^ 31 := by omega
  obtain ⟨hx, hb, hr, hml, hown, hts, hX, hbl, hlocks, hgv⟩ := id C.1
  obtain ⟨f, r, w1, w2, h1, h2, ⟨fs1, h3⟩, h4⟩ := hok
  obtain ⟨m1, m2, ⟨fs0, m3⟩, ⟨fs2, m4⟩⟩ := hrm
  obtain ⟨k1, k2, -, -⟩ := hI _ h4
  have q1 := pn_mono _ _ _ _ _ _ _ _ _ h1
  have q2 := pn_mono _ _ _ _ _ _ _ _ _ h2
  refine lv_aload_n hx hb dL_law_1052 rfl (lv_at hls 2 rfl) ?_
  refine lv_aload_n hx hb dL_law_1053 rfl (lv_at hls 3 rfl) ?_
  refine lv_iload_n hx hb dL_law_1054 rfl (lv_at hls 0 rfl) ?_
  refine lv_iconst (v := nI 1) hx hb dL_law_1055 (by decide) ?_
  refine lv_iadd hx hb dL_law_1056 ?_
  rw [nI_add]
  refine lw_sld C hlo (by omega) hN dL_law_1057 ?_
  refine lw_cal (k := 137) (a := 0) (As := [.int (xs (6 * n + 1))]) (rest := []) C hre hlo hls.1 (by decide) (by decide +kernel) (pm_w1_in (i := 1128) (by decide +kernel)) h1 m3 (show (1 : Nat) = pm_a 137 by decide +kernel) (show (2 : Nat) ≤ pm_n 137 by decide +kernel) (by decide) (by omega) (by omega) dL_law_1058 (fun H1 locs1 hre1 hlo1 => ?_)
  clear hre hlo
  have hre := hre1
  have hlo := hlo1
  refine lv_aload_n hx hb dL_law_1061 rfl (lv_at hls 1 rfl) ?_
  refine lv_aload_n hx hb dL_law_1062 rfl (lv_at hls 3 rfl) ?_
  refine lv_iload_n hx hb dL_law_1063 rfl (lv_at hls 0 rfl) ?_
  refine lv_iconst (v := nI 1) hx hb dL_law_1064 (by decide) ?_
  refine lv_iadd hx hb dL_law_1065 ?_
  rw [nI_add]
  refine lw_sld C hlo (by omega) hN dL_law_1066 ?_
  refine lw_cal (k := 262) (a := ob_aM) (As := [.int (xs (6 * n + 1))]) (rest := [.int r]) C hre hlo hls.1 (by decide) (by decide +kernel) (pm_w1_in (i := 1764) (by decide +kernel)) h2 h3 (show (1 : Nat) = pm_a 262 by decide +kernel) (show (2 : Nat) ≤ pm_n 262 by decide +kernel) (show (1 : Nat) ≤ 8 by decide) k1 k2 dL_law_1067 (fun H2 locs2 hre2 hlo2 => ?_)
  refine lv_icmp_eq (tgt := 1075) hx hb dL_law_1070 (by decide) (fun _ => ?_) (fun hne => absurd rfl hne)
  exact kk w2 H2 locs2 h4 hre2 hlo2
end LC
