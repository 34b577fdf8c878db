/-! THE CLAIM OUT OF ONE WALK OF THE LAW'S BODY. Your part is whole_start (and what it stands on); all else here is the same for every law, but numbers. -/
def R_law : String := "FoldDeedsLaw"
def lw_P (b : Addr) (xs : List Int32) (args : Array Value) (s : State) : Prop := args = #[.ref b] ∧ s.IntsAt b xs ∧ xs.length ≤ 3072 ∧ (Jvm.Cond.and given_1 narrow_1).before args s = true
def lw_Q (_ : Array Value) (s : State) (o : Outcome) (t : State) : Prop := o = .returned (some (.int 1)) ∧ Framed s o t [] 600000 7302249
def lw_Z (below : List Frame) (a : Array Value) (s : State) : State → Prop := fun t => ∃ o, t.status = .running ∧ Ended t below o ∧ lw_Q a s o t
/-- the law's own end, with 1 on the stack, nothing written that was there before, its room as the claim has it -/
theorem lw_ret {p : Program} {l : Launch} {e : Env} {s : State} {m : MethodId} {below : List Frame} {meth : Method} {c : Code} {b : Nat} (hx : p.tables.exec = Jvm.exec) (hb : c.code = code) (hr : meth.sig.returnType = ret) (hlocks : meth.locks = false) {pc : Nat} {H : Heap} {ls : Array Slot} (hdg : decode code pc = .ok (.ireturn, 1)) : W p l e room_1 s m #[Value.ref b] below meth c H [] 600000 7302249 (lw_Z below #[Value.ref b] s) (F0 m pc ls [.int 1]) := by
  intro T hT X
  obtain ⟨fs, hret, hrun, hended, hW, hframe⟩ := X.leave (v := some (.int 1)) (hlocks := hlocks) (fun h => by rw [hr] at h; cases h)
  have hmeth' : T.vm.method? m = some meth := X.method'
  refine ⟨T.setFrames fs, ?_, .returned (some (.int 1)), hrun, hended, rfl, ⟨_, rfl⟩, hW, hframe⟩
  jvm_step X.here [X.here.top, hx, hb, hdg, hmeth', hr, ret, narrow_b1]
  (try refine ⟨rfl, ?_⟩); (try refine ⟨rfl, ?_⟩)
  first | (intro acts; rw [hret _ acts rfl rfl rfl]) | rw [hret _ _ rfl rfl rfl]
  exact Steps.refl _
/-- what holds at the law's entry: the machine, the code, the tables' words (any of lw_tbl by 'hts w (by decide +kernel)'), the script of L ints xs at the cell b, what the Statement gives of the start (any of its parts by flat_of_before) -/
def lw_At (p : Program) (s : State) (m : MethodId) (meth : Method) (c : Code) (b L : Nat) (xs : Nat → Int32) : Prop :=
  p.tables.exec = Jvm.exec ∧ c.code = code ∧ meth.sig.returnType = ret ∧ c.maxLocals = 4 ∧ s.vm.findClass R_law = some m.cls ∧ (∀ w ∈ lw_tbl, w.before #[Value.ref b] s = true) ∧ va_X b L xs s s.heap ∧ b < s.heap.size ∧ meth.locks = false ∧ (Jvm.Cond.and given_1 narrow_1).before #[Value.ref b] s = true
theorem dL_law_0 : decode code 0 = .ok (.new 7, 3) := by decide +kernel
theorem dL_law_3 : decode code 3 = .ok (.dup, 1) := by decide +kernel
theorem dL_law_4 : decode code 4 = .ok (.invokespecial 9, 3) := by decide +kernel
theorem dL_law_7 : decode code 7 = .ok (.astore_n 1, 1) := by decide +kernel
theorem dL_law_8 : decode code 8 = .ok (.new 10, 3) := by decide +kernel
theorem dL_law_11 : decode code 11 = .ok (.dup, 1) := by decide +kernel
theorem dL_law_12 : decode code 12 = .ok (.invokespecial 12, 3) := by decide +kernel
theorem dL_law_15 : decode code 15 = .ok (.astore_n 2, 1) := by decide +kernel
theorem dL_law_16 : decode code 16 = .ok (.iconst 0, 1) := by decide +kernel
theorem dL_law_17 : decode code 17 = .ok (.istore_n 3, 1) := by decide +kernel
theorem dL_law_18 : decode code 18 = .ok (.iload_n 3, 1) := by decide +kernel
theorem dL_law_19 : decode code 19 = .ok (.aload_n 0, 1) := by decide +kernel
theorem dL_law_20 : decode code 20 = .ok (.arraylength, 1) := by decide +kernel
theorem dL_law_21 : decode code 21 = .ok (.bipush 6, 2) := by decide +kernel
theorem dL_law_23 : decode code 23 = .ok (.isub, 1) := by decide +kernel
theorem dL_law_24 : decode code 24 = .ok (.if_icmp .gt 1057, 3) := by decide +kernel
theorem dL_law_27 : decode code 27 = .ok (.aload_n 0, 1) := by decide +kernel
theorem dL_law_28 : decode code 28 = .ok (.iload_n 3, 1) := by decide +kernel
theorem dL_law_29 : decode code 29 = .ok (.iaload, 1) := by decide +kernel
theorem dL_law_30 : decode code 30 = .ok (.bipush 31, 2) := by decide +kernel
theorem dL_law_32 : decode code 32 = .ok (.iand, 1) := by decide +kernel
theorem dL_law_33 : decode code 33 = .ok (.tableswitch 1042 0 30 #[139, 202, 225, 238, 251, 274, 307, 340, 373, 396, 449, 462, 485, 518, 531, 584, 617, 640, 663, 686, 709, 752, 775, 808, 861, 884, 907, 930, 973, 996, 1019], 139) := by decide +kernel
theorem dL_law_172 : decode code 172 = .ok (.aload_n 1, 1) := by decide +kernel
theorem dL_law_173 : decode code 173 = .ok (.aload_n 0, 1) := by decide +kernel
theorem dL_law_174 : decode code 174 = .ok (.iload_n 3, 1) := by decide +kernel
theorem dL_law_175 : decode code 175 = .ok (.iconst 1, 1) := by decide +kernel
theorem dL_law_176 : decode code 176 = .ok (.iadd, 1) := by decide +kernel
theorem dL_law_177 : decode code 177 = .ok (.iaload, 1) := by decide +kernel
theorem dL_law_178 : decode code 178 = .ok (.aload_n 0, 1) := by decide +kernel
theorem dL_law_179 : decode code 179 = .ok (.iload_n 3, 1) := by decide +kernel
theorem dL_law_180 : decode code 180 = .ok (.iconst 2, 1) := by decide +kernel
theorem dL_law_181 : decode code 181 = .ok (.iadd, 1) := by decide +kernel
theorem dL_law_182 : decode code 182 = .ok (.iaload, 1) := by decide +kernel
theorem dL_law_183 : decode code 183 = .ok (.aload_n 0, 1) := by decide +kernel
theorem dL_law_184 : decode code 184 = .ok (.iload_n 3, 1) := by decide +kernel
theorem dL_law_185 : decode code 185 = .ok (.iconst 3, 1) := by decide +kernel
theorem dL_law_186 : decode code 186 = .ok (.iadd, 1) := by decide +kernel
theorem dL_law_187 : decode code 187 = .ok (.iaload, 1) := by decide +kernel
theorem dL_law_188 : decode code 188 = .ok (.aload_n 0, 1) := by decide +kernel
theorem dL_law_189 : decode code 189 = .ok (.iload_n 3, 1) := by decide +kernel
theorem dL_law_190 : decode code 190 = .ok (.iconst 4, 1) := by decide +kernel
theorem dL_law_191 : decode code 191 = .ok (.iadd, 1) := by decide +kernel
theorem dL_law_192 : decode code 192 = .ok (.iaload, 1) := by decide +kernel
theorem dL_law_193 : decode code 193 = .ok (.aload_n 0, 1) := by decide +kernel
theorem dL_law_194 : decode code 194 = .ok (.iload_n 3, 1) := by decide +kernel
theorem dL_law_195 : decode code 195 = .ok (.iconst 5, 1) := by decide +kernel
theorem dL_law_196 : decode code 196 = .ok (.iadd, 1) := by decide +kernel
theorem dL_law_197 : decode code 197 = .ok (.iaload, 1) := by decide +kernel
theorem dL_law_198 : decode code 198 = .ok (.invokevirtual 13, 3) := by decide +kernel
theorem dL_law_201 : decode code 201 = .ok (.aload_n 2, 1) := by decide +kernel
theorem dL_law_202 : decode code 202 = .ok (.aload_n 0, 1) := by decide +kernel
theorem dL_law_203 : decode code 203 = .ok (.iload_n 3, 1) := by decide +kernel
theorem dL_law_204 : decode code 204 = .ok (.iconst 1, 1) := by decide +kernel
theorem dL_law_205 : decode code 205 = .ok (.iadd, 1) := by decide +kernel
theorem dL_law_206 : decode code 206 = .ok (.iaload, 1) := by decide +kernel
theorem dL_law_207 : decode code 207 = .ok (.aload_n 0, 1) := by decide +kernel
theorem dL_law_208 : decode code 208 = .ok (.iload_n 3, 1) := by decide +kernel
theorem dL_law_209 : decode code 209 = .ok (.iconst 2, 1) := by decide +kernel
theorem dL_law_210 : decode code 210 = .ok (.iadd, 1) := by decide +kernel
theorem dL_law_211 : decode code 211 = .ok (.iaload, 1) := by decide +kernel
theorem dL_law_212 : decode code 212 = .ok (.aload_n 0, 1) := by decide +kernel
theorem dL_law_213 : decode code 213 = .ok (.iload_n 3, 1) := by decide +kernel
theorem dL_law_214 : decode code 214 = .ok (.iconst 3, 1) := by decide +kernel
theorem dL_law_215 : decode code 215 = .ok (.iadd, 1) := by decide +kernel
theorem dL_law_216 : decode code 216 = .ok (.iaload, 1) := by decide +kernel
theorem dL_law_217 : decode code 217 = .ok (.aload_n 0, 1) := by decide +kernel
theorem dL_law_218 : decode code 218 = .ok (.iload_n 3, 1) := by decide +kernel
theorem dL_law_219 : decode code 219 = .ok (.iconst 4, 1) := by decide +kernel
theorem dL_law_220 : decode code 220 = .ok (.iadd, 1) := by decide +kernel
theorem dL_law_221 : decode code 221 = .ok (.iaload, 1) := by decide +kernel
theorem dL_law_222 : decode code 222 = .ok (.aload_n 0, 1) := by decide +kernel
theorem dL_law_223 : decode code 223 = .ok (.iload_n 3, 1) := by decide +kernel
theorem dL_law_224 : decode code 224 = .ok (.iconst 5, 1) := by decide +kernel
theorem dL_law_225 : decode code 225 = .ok (.iadd, 1) := by decide +kernel
theorem dL_law_226 : decode code 226 = .ok (.iaload, 1) := by decide +kernel
theorem dL_law_227 : decode code 227 = .ok (.invokevirtual 17, 3) := by decide +kernel
theorem dL_law_230 : decode code 230 = .ok (.if_icmp .eq 845, 3) := by decide +kernel
theorem dL_law_233 : decode code 233 = .ok (.iconst 0, 1) := by decide +kernel
theorem dL_law_234 : decode code 234 = .ok (.ireturn, 1) := by decide +kernel
theorem dL_law_235 : decode code 235 = .ok (.aload_n 1, 1) := by decide +kernel
theorem dL_law_236 : decode code 236 = .ok (.aload_n 0, 1) := by decide +kernel
theorem dL_law_237 : decode code 237 = .ok (.iload_n 3, 1) := by decide +kernel
theorem dL_law_238 : decode code 238 = .ok (.iconst 1, 1) := by decide +kernel
theorem dL_law_239 : decode code 239 = .ok (.iadd, 1) := by decide +kernel
theorem dL_law_240 : decode code 240 = .ok (.iaload, 1) := by decide +kernel
theorem dL_law_241 : decode code 241 = .ok (.invokevirtual 18, 3) := by decide +kernel
theorem dL_law_244 : decode code 244 = .ok (.aload_n 2, 1) := by decide +kernel
theorem dL_law_245 : decode code 245 = .ok (.aload_n 0, 1) := by decide +kernel
theorem dL_law_246 : decode code 246 = .ok (.iload_n 3, 1) := by decide +kernel
theorem dL_law_247 : decode code 247 = .ok (.iconst 1, 1) := by decide +kernel
theorem dL_law_248 : decode code 248 = .ok (.iadd, 1) := by decide +kernel
theorem dL_law_249 : decode code 249 = .ok (.iaload, 1) := by decide +kernel
theorem dL_law_250 : decode code 250 = .ok (.invokevirtual 22, 3) := by decide +kernel
theorem dL_law_253 : decode code 253 = .ok (.if_icmp .eq 822, 3) := by decide +kernel
theorem dL_law_256 : decode code 256 = .ok (.iconst 0, 1) := by decide +kernel
theorem dL_law_257 : decode code 257 = .ok (.ireturn, 1) := by decide +kernel
theorem dL_law_258 : decode code 258 = .ok (.aload_n 1, 1) := by decide +kernel
theorem dL_law_259 : decode code 259 = .ok (.invokevirtual 23, 3) := by decide +kernel
theorem dL_law_262 : decode code 262 = .ok (.aload_n 2, 1) := by decide +kernel
theorem dL_law_263 : decode code 263 = .ok (.invokevirtual 27, 3) := by decide +kernel
theorem dL_law_266 : decode code 266 = .ok (.if_icmp .eq 809, 3) := by decide +kernel
theorem dL_law_269 : decode code 269 = .ok (.iconst 0, 1) := by decide +kernel
theorem dL_law_270 : decode code 270 = .ok (.ireturn, 1) := by decide +kernel
theorem dL_law_271 : decode code 271 = .ok (.aload_n 1, 1) := by decide +kernel
theorem dL_law_272 : decode code 272 = .ok (.invokevirtual 28, 3) := by decide +kernel
theorem dL_law_275 : decode code 275 = .ok (.aload_n 2, 1) := by decide +kernel
theorem dL_law_276 : decode code 276 = .ok (.invokevirtual 31, 3) := by decide +kernel
theorem dL_law_279 : decode code 279 = .ok (.if_icmp .eq 796, 3) := by decide +kernel
theorem dL_law_282 : decode code 282 = .ok (.iconst 0, 1) := by decide +kernel
theorem dL_law_283 : decode code 283 = .ok (.ireturn, 1) := by decide +kernel
theorem dL_law_284 : decode code 284 = .ok (.aload_n 1, 1) := by decide +kernel
theorem dL_law_285 : decode code 285 = .ok (.aload_n 0, 1) := by decide +kernel
theorem dL_law_286 : decode code 286 = .ok (.iload_n 3, 1) := by decide +kernel
theorem dL_law_287 : decode code 287 = .ok (.iconst 1, 1) := by decide +kernel
theorem dL_law_288 : decode code 288 = .ok (.iadd, 1) := by decide +kernel
theorem dL_law_289 : decode code 289 = .ok (.iaload, 1) := by decide +kernel
theorem dL_law_290 : decode code 290 = .ok (.invokevirtual 32, 3) := by decide +kernel
theorem dL_law_293 : decode code 293 = .ok (.aload_n 2, 1) := by decide +kernel
theorem dL_law_294 : decode code 294 = .ok (.aload_n 0, 1) := by decide +kernel
theorem dL_law_295 : decode code 295 = .ok (.iload_n 3, 1) := by decide +kernel
theorem dL_law_296 : decode code 296 = .ok (.iconst 1, 1) := by decide +kernel
theorem dL_law_297 : decode code 297 = .ok (.iadd, 1) := by decide +kernel
theorem dL_law_298 : decode code 298 = .ok (.iaload, 1) := by decide +kernel
theorem dL_law_299 : decode code 299 = .ok (.invokevirtual 35, 3) := by decide +kernel
theorem dL_law_302 : decode code 302 = .ok (.if_icmp .eq 773, 3) := by decide +kernel
theorem dL_law_305 : decode code 305 = .ok (.iconst 0, 1) := by decide +kernel
theorem dL_law_306 : decode code 306 = .ok (.ireturn, 1) := by decide +kernel
theorem dL_law_307 : decode code 307 = .ok (.aload_n 1, 1) := by decide +kernel
theorem dL_law_308 : decode code 308 = .ok (.aload_n 0, 1) := by decide +kernel
theorem dL_law_309 : decode code 309 = .ok (.iload_n 3, 1) := by decide +kernel
theorem dL_law_310 : decode code 310 = .ok (.iconst 1, 1) := by decide +kernel
theorem dL_law_311 : decode code 311 = .ok (.iadd, 1) := by decide +kernel
theorem dL_law_312 : decode code 312 = .ok (.iaload, 1) := by decide +kernel
theorem dL_law_313 : decode code 313 = .ok (.aload_n 0, 1) := by decide +kernel
theorem dL_law_314 : decode code 314 = .ok (.iload_n 3, 1) := by decide +kernel
theorem dL_law_315 : decode code 315 = .ok (.iconst 2, 1) := by decide +kernel
theorem dL_law_316 : decode code 316 = .ok (.iadd, 1) := by decide +kernel
theorem dL_law_317 : decode code 317 = .ok (.iaload, 1) := by decide +kernel
theorem dL_law_318 : decode code 318 = .ok (.invokevirtual 36, 3) := by decide +kernel
theorem dL_law_321 : decode code 321 = .ok (.aload_n 2, 1) := by decide +kernel
theorem dL_law_322 : decode code 322 = .ok (.aload_n 0, 1) := by decide +kernel
theorem dL_law_323 : decode code 323 = .ok (.iload_n 3, 1) := by decide +kernel
theorem dL_law_324 : decode code 324 = .ok (.iconst 1, 1) := by decide +kernel
theorem dL_law_325 : decode code 325 = .ok (.iadd, 1) := by decide +kernel
theorem dL_law_326 : decode code 326 = .ok (.iaload, 1) := by decide +kernel
theorem dL_law_327 : decode code 327 = .ok (.aload_n 0, 1) := by decide +kernel
theorem dL_law_328 : decode code 328 = .ok (.iload_n 3, 1) := by decide +kernel
theorem dL_law_329 : decode code 329 = .ok (.iconst 2, 1) := by decide +kernel
theorem dL_law_330 : decode code 330 = .ok (.iadd, 1) := by decide +kernel
theorem dL_law_331 : decode code 331 = .ok (.iaload, 1) := by decide +kernel
theorem dL_law_332 : decode code 332 = .ok (.invokevirtual 40, 3) := by decide +kernel
theorem dL_law_335 : decode code 335 = .ok (.if_icmp .eq 740, 3) := by decide +kernel
theorem dL_law_338 : decode code 338 = .ok (.iconst 0, 1) := by decide +kernel
theorem dL_law_339 : decode code 339 = .ok (.ireturn, 1) := by decide +kernel
theorem dL_law_340 : decode code 340 = .ok (.aload_n 1, 1) := by decide +kernel
theorem dL_law_341 : decode code 341 = .ok (.aload_n 0, 1) := by decide +kernel
theorem dL_law_342 : decode code 342 = .ok (.iload_n 3, 1) := by decide +kernel
theorem dL_law_343 : decode code 343 = .ok (.iconst 1, 1) := by decide +kernel
theorem dL_law_344 : decode code 344 = .ok (.iadd, 1) := by decide +kernel
theorem dL_law_345 : decode code 345 = .ok (.iaload, 1) := by decide +kernel
theorem dL_law_346 : decode code 346 = .ok (.aload_n 0, 1) := by decide +kernel
theorem dL_law_347 : decode code 347 = .ok (.iload_n 3, 1) := by decide +kernel
theorem dL_law_348 : decode code 348 = .ok (.iconst 2, 1) := by decide +kernel
theorem dL_law_349 : decode code 349 = .ok (.iadd, 1) := by decide +kernel
theorem dL_law_350 : decode code 350 = .ok (.iaload, 1) := by decide +kernel
theorem dL_law_351 : decode code 351 = .ok (.invokevirtual 41, 3) := by decide +kernel
theorem dL_law_354 : decode code 354 = .ok (.aload_n 2, 1) := by decide +kernel
theorem dL_law_355 : decode code 355 = .ok (.aload_n 0, 1) := by decide +kernel
theorem dL_law_356 : decode code 356 = .ok (.iload_n 3, 1) := by decide +kernel
theorem dL_law_357 : decode code 357 = .ok (.iconst 1, 1) := by decide +kernel
theorem dL_law_358 : decode code 358 = .ok (.iadd, 1) := by decide +kernel
theorem dL_law_359 : decode code 359 = .ok (.iaload, 1) := by decide +kernel
theorem dL_law_360 : decode code 360 = .ok (.aload_n 0, 1) := by decide +kernel
theorem dL_law_361 : decode code 361 = .ok (.iload_n 3, 1) := by decide +kernel
theorem dL_law_362 : decode code 362 = .ok (.iconst 2, 1) := by decide +kernel
theorem dL_law_363 : decode code 363 = .ok (.iadd, 1) := by decide +kernel
theorem dL_law_364 : decode code 364 = .ok (.iaload, 1) := by decide +kernel
theorem dL_law_365 : decode code 365 = .ok (.invokevirtual 44, 3) := by decide +kernel
theorem dL_law_368 : decode code 368 = .ok (.if_icmp .eq 707, 3) := by decide +kernel
theorem dL_law_371 : decode code 371 = .ok (.iconst 0, 1) := by decide +kernel
theorem dL_law_372 : decode code 372 = .ok (.ireturn, 1) := by decide +kernel
theorem dL_law_373 : decode code 373 = .ok (.aload_n 1, 1) := by decide +kernel
theorem dL_law_374 : decode code 374 = .ok (.aload_n 0, 1) := by decide +kernel
theorem dL_law_375 : decode code 375 = .ok (.iload_n 3, 1) := by decide +kernel
theorem dL_law_376 : decode code 376 = .ok (.iconst 1, 1) := by decide +kernel
theorem dL_law_377 : decode code 377 = .ok (.iadd, 1) := by decide +kernel
theorem dL_law_378 : decode code 378 = .ok (.iaload, 1) := by decide +kernel
theorem dL_law_379 : decode code 379 = .ok (.aload_n 0, 1) := by decide +kernel
theorem dL_law_380 : decode code 380 = .ok (.iload_n 3, 1) := by decide +kernel
theorem dL_law_381 : decode code 381 = .ok (.iconst 2, 1) := by decide +kernel
theorem dL_law_382 : decode code 382 = .ok (.iadd, 1) := by decide +kernel
theorem dL_law_383 : decode code 383 = .ok (.iaload, 1) := by decide +kernel
theorem dL_law_384 : decode code 384 = .ok (.invokevirtual 45, 3) := by decide +kernel
theorem dL_law_387 : decode code 387 = .ok (.aload_n 2, 1) := by decide +kernel
theorem dL_law_388 : decode code 388 = .ok (.aload_n 0, 1) := by decide +kernel
theorem dL_law_389 : decode code 389 = .ok (.iload_n 3, 1) := by decide +kernel
theorem dL_law_390 : decode code 390 = .ok (.iconst 1, 1) := by decide +kernel
theorem dL_law_391 : decode code 391 = .ok (.iadd, 1) := by decide +kernel
theorem dL_law_392 : decode code 392 = .ok (.iaload, 1) := by decide +kernel
theorem dL_law_393 : decode code 393 = .ok (.aload_n 0, 1) := by decide +kernel
theorem dL_law_394 : decode code 394 = .ok (.iload_n 3, 1) := by decide +kernel
theorem dL_law_395 : decode code 395 = .ok (.iconst 2, 1) := by decide +kernel
theorem dL_law_396 : decode code 396 = .ok (.iadd, 1) := by decide +kernel
theorem dL_law_397 : decode code 397 = .ok (.iaload, 1) := by decide +kernel
theorem dL_law_398 : decode code 398 = .ok (.invokevirtual 48, 3) := by decide +kernel
theorem dL_law_401 : decode code 401 = .ok (.if_icmp .eq 674, 3) := by decide +kernel
theorem dL_law_404 : decode code 404 = .ok (.iconst 0, 1) := by decide +kernel
theorem dL_law_405 : decode code 405 = .ok (.ireturn, 1) := by decide +kernel
theorem dL_law_406 : decode code 406 = .ok (.aload_n 1, 1) := by decide +kernel
theorem dL_law_407 : decode code 407 = .ok (.aload_n 0, 1) := by decide +kernel
theorem dL_law_408 : decode code 408 = .ok (.iload_n 3, 1) := by decide +kernel
theorem dL_law_409 : decode code 409 = .ok (.iconst 1, 1) := by decide +kernel
theorem dL_law_410 : decode code 410 = .ok (.iadd, 1) := by decide +kernel
theorem dL_law_411 : decode code 411 = .ok (.iaload, 1) := by decide +kernel
theorem dL_law_412 : decode code 412 = .ok (.invokevirtual 49, 3) := by decide +kernel
theorem dL_law_415 : decode code 415 = .ok (.aload_n 2, 1) := by decide +kernel
theorem dL_law_416 : decode code 416 = .ok (.aload_n 0, 1) := by decide +kernel
theorem dL_law_417 : decode code 417 = .ok (.iload_n 3, 1) := by decide +kernel
theorem dL_law_418 : decode code 418 = .ok (.iconst 1, 1) := by decide +kernel
theorem dL_law_419 : decode code 419 = .ok (.iadd, 1) := by decide +kernel
theorem dL_law_420 : decode code 420 = .ok (.iaload, 1) := by decide +kernel
theorem dL_law_421 : decode code 421 = .ok (.invokevirtual 52, 3) := by decide +kernel
theorem dL_law_424 : decode code 424 = .ok (.if_icmp .eq 651, 3) := by decide +kernel
theorem dL_law_427 : decode code 427 = .ok (.iconst 0, 1) := by decide +kernel
theorem dL_law_428 : decode code 428 = .ok (.ireturn, 1) := by decide +kernel
theorem dL_law_429 : decode code 429 = .ok (.aload_n 1, 1) := by decide +kernel
theorem dL_law_430 : decode code 430 = .ok (.aload_n 0, 1) := by decide +kernel
theorem dL_law_431 : decode code 431 = .ok (.iload_n 3, 1) := by decide +kernel
theorem dL_law_432 : decode code 432 = .ok (.iconst 1, 1) := by decide +kernel
theorem dL_law_433 : decode code 433 = .ok (.iadd, 1) := by decide +kernel
theorem dL_law_434 : decode code 434 = .ok (.iaload, 1) := by decide +kernel
theorem dL_law_435 : decode code 435 = .ok (.aload_n 0, 1) := by decide +kernel
theorem dL_law_436 : decode code 436 = .ok (.iload_n 3, 1) := by decide +kernel
theorem dL_law_437 : decode code 437 = .ok (.iconst 2, 1) := by decide +kernel
theorem dL_law_438 : decode code 438 = .ok (.iadd, 1) := by decide +kernel
theorem dL_law_439 : decode code 439 = .ok (.iaload, 1) := by decide +kernel
theorem dL_law_440 : decode code 440 = .ok (.aload_n 0, 1) := by decide +kernel
theorem dL_law_441 : decode code 441 = .ok (.iload_n 3, 1) := by decide +kernel
theorem dL_law_442 : decode code 442 = .ok (.iconst 3, 1) := by decide +kernel
theorem dL_law_443 : decode code 443 = .ok (.iadd, 1) := by decide +kernel
theorem dL_law_444 : decode code 444 = .ok (.iaload, 1) := by decide +kernel
theorem dL_law_445 : decode code 445 = .ok (.aload_n 0, 1) := by decide +kernel
theorem dL_law_446 : decode code 446 = .ok (.iload_n 3, 1) := by decide +kernel
theorem dL_law_447 : decode code 447 = .ok (.iconst 4, 1) := by decide +kernel
theorem dL_law_448 : decode code 448 = .ok (.iadd, 1) := by decide +kernel
theorem dL_law_449 : decode code 449 = .ok (.iaload, 1) := by decide +kernel
theorem dL_law_450 : decode code 450 = .ok (.invokevirtual 53, 3) := by decide +kernel
theorem dL_law_453 : decode code 453 = .ok (.aload_n 2, 1) := by decide +kernel
theorem dL_law_454 : decode code 454 = .ok (.aload_n 0, 1) := by decide +kernel
theorem dL_law_455 : decode code 455 = .ok (.iload_n 3, 1) := by decide +kernel
theorem dL_law_456 : decode code 456 = .ok (.iconst 1, 1) := by decide +kernel
theorem dL_law_457 : decode code 457 = .ok (.iadd, 1) := by decide +kernel
theorem dL_law_458 : decode code 458 = .ok (.iaload, 1) := by decide +kernel
theorem dL_law_459 : decode code 459 = .ok (.aload_n 0, 1) := by decide +kernel
theorem dL_law_460 : decode code 460 = .ok (.iload_n 3, 1) := by decide +kernel
theorem dL_law_461 : decode code 461 = .ok (.iconst 2, 1) := by decide +kernel
theorem dL_law_462 : decode code 462 = .ok (.iadd, 1) := by decide +kernel
theorem dL_law_463 : decode code 463 = .ok (.iaload, 1) := by decide +kernel
theorem dL_law_464 : decode code 464 = .ok (.aload_n 0, 1) := by decide +kernel
theorem dL_law_465 : decode code 465 = .ok (.iload_n 3, 1) := by decide +kernel
theorem dL_law_466 : decode code 466 = .ok (.iconst 3, 1) := by decide +kernel
theorem dL_law_467 : decode code 467 = .ok (.iadd, 1) := by decide +kernel
theorem dL_law_468 : decode code 468 = .ok (.iaload, 1) := by decide +kernel
theorem dL_law_469 : decode code 469 = .ok (.aload_n 0, 1) := by decide +kernel
theorem dL_law_470 : decode code 470 = .ok (.iload_n 3, 1) := by decide +kernel
theorem dL_law_471 : decode code 471 = .ok (.iconst 4, 1) := by decide +kernel
theorem dL_law_472 : decode code 472 = .ok (.iadd, 1) := by decide +kernel
theorem dL_law_473 : decode code 473 = .ok (.iaload, 1) := by decide +kernel
theorem dL_law_474 : decode code 474 = .ok (.invokevirtual 57, 3) := by decide +kernel
theorem dL_law_477 : decode code 477 = .ok (.if_icmp .eq 598, 3) := by decide +kernel
theorem dL_law_480 : decode code 480 = .ok (.iconst 0, 1) := by decide +kernel
theorem dL_law_481 : decode code 481 = .ok (.ireturn, 1) := by decide +kernel
theorem dL_law_482 : decode code 482 = .ok (.aload_n 1, 1) := by decide +kernel
theorem dL_law_483 : decode code 483 = .ok (.invokevirtual 58, 3) := by decide +kernel
theorem dL_law_486 : decode code 486 = .ok (.aload_n 2, 1) := by decide +kernel
theorem dL_law_487 : decode code 487 = .ok (.invokevirtual 61, 3) := by decide +kernel
theorem dL_law_490 : decode code 490 = .ok (.if_icmp .eq 585, 3) := by decide +kernel
theorem dL_law_493 : decode code 493 = .ok (.iconst 0, 1) := by decide +kernel
theorem dL_law_494 : decode code 494 = .ok (.ireturn, 1) := by decide +kernel
theorem dL_law_495 : decode code 495 = .ok (.aload_n 1, 1) := by decide +kernel
theorem dL_law_496 : decode code 496 = .ok (.aload_n 0, 1) := by decide +kernel
theorem dL_law_497 : decode code 497 = .ok (.iload_n 3, 1) := by decide +kernel
theorem dL_law_498 : decode code 498 = .ok (.iconst 1, 1) := by decide +kernel
theorem dL_law_499 : decode code 499 = .ok (.iadd, 1) := by decide +kernel
theorem dL_law_500 : decode code 500 = .ok (.iaload, 1) := by decide +kernel
theorem dL_law_501 : decode code 501 = .ok (.invokevirtual 62, 3) := by decide +kernel
theorem dL_law_504 : decode code 504 = .ok (.aload_n 2, 1) := by decide +kernel
theorem dL_law_505 : decode code 505 = .ok (.aload_n 0, 1) := by decide +kernel
theorem dL_law_506 : decode code 506 = .ok (.iload_n 3, 1) := by decide +kernel
theorem dL_law_507 : decode code 507 = .ok (.iconst 1, 1) := by decide +kernel
theorem dL_law_508 : decode code 508 = .ok (.iadd, 1) := by decide +kernel
theorem dL_law_509 : decode code 509 = .ok (.iaload, 1) := by decide +kernel
theorem dL_law_510 : decode code 510 = .ok (.invokevirtual 65, 3) := by decide +kernel
theorem dL_law_513 : decode code 513 = .ok (.if_icmp .eq 562, 3) := by decide +kernel
theorem dL_law_516 : decode code 516 = .ok (.iconst 0, 1) := by decide +kernel
theorem dL_law_517 : decode code 517 = .ok (.ireturn, 1) := by decide +kernel
theorem dL_law_518 : decode code 518 = .ok (.aload_n 1, 1) := by decide +kernel
theorem dL_law_519 : decode code 519 = .ok (.aload_n 0, 1) := by decide +kernel
theorem dL_law_520 : decode code 520 = .ok (.iload_n 3, 1) := by decide +kernel
theorem dL_law_521 : decode code 521 = .ok (.iconst 1, 1) := by decide +kernel
theorem dL_law_522 : decode code 522 = .ok (.iadd, 1) := by decide +kernel
theorem dL_law_523 : decode code 523 = .ok (.iaload, 1) := by decide +kernel
theorem dL_law_524 : decode code 524 = .ok (.aload_n 0, 1) := by decide +kernel
theorem dL_law_525 : decode code 525 = .ok (.iload_n 3, 1) := by decide +kernel
theorem dL_law_526 : decode code 526 = .ok (.iconst 2, 1) := by decide +kernel
theorem dL_law_527 : decode code 527 = .ok (.iadd, 1) := by decide +kernel
theorem dL_law_528 : decode code 528 = .ok (.iaload, 1) := by decide +kernel
theorem dL_law_529 : decode code 529 = .ok (.invokevirtual 66, 3) := by decide +kernel
theorem dL_law_532 : decode code 532 = .ok (.aload_n 2, 1) := by decide +kernel
theorem dL_law_533 : decode code 533 = .ok (.aload_n 0, 1) := by decide +kernel
theorem dL_law_534 : decode code 534 = .ok (.iload_n 3, 1) := by decide +kernel
theorem dL_law_535 : decode code 535 = .ok (.iconst 1, 1) := by decide +kernel
theorem dL_law_536 : decode code 536 = .ok (.iadd, 1) := by decide +kernel
theorem dL_law_537 : decode code 537 = .ok (.iaload, 1) := by decide +kernel
theorem dL_law_538 : decode code 538 = .ok (.aload_n 0, 1) := by decide +kernel
theorem dL_law_539 : decode code 539 = .ok (.iload_n 3, 1) := by decide +kernel
theorem dL_law_540 : decode code 540 = .ok (.iconst 2, 1) := by decide +kernel
theorem dL_law_541 : decode code 541 = .ok (.iadd, 1) := by decide +kernel
theorem dL_law_542 : decode code 542 = .ok (.iaload, 1) := by decide +kernel
theorem dL_law_543 : decode code 543 = .ok (.invokevirtual 69, 3) := by decide +kernel
theorem dL_law_546 : decode code 546 = .ok (.if_icmp .eq 529, 3) := by decide +kernel
theorem dL_law_549 : decode code 549 = .ok (.iconst 0, 1) := by decide +kernel
theorem dL_law_550 : decode code 550 = .ok (.ireturn, 1) := by decide +kernel
theorem dL_law_551 : decode code 551 = .ok (.aload_n 1, 1) := by decide +kernel
theorem dL_law_552 : decode code 552 = .ok (.invokevirtual 70, 3) := by decide +kernel
theorem dL_law_555 : decode code 555 = .ok (.aload_n 2, 1) := by decide +kernel
theorem dL_law_556 : decode code 556 = .ok (.invokevirtual 73, 3) := by decide +kernel
theorem dL_law_559 : decode code 559 = .ok (.if_icmp .eq 516, 3) := by decide +kernel
theorem dL_law_562 : decode code 562 = .ok (.iconst 0, 1) := by decide +kernel
theorem dL_law_563 : decode code 563 = .ok (.ireturn, 1) := by decide +kernel
theorem dL_law_564 : decode code 564 = .ok (.aload_n 1, 1) := by decide +kernel
theorem dL_law_565 : decode code 565 = .ok (.aload_n 0, 1) := by decide +kernel
theorem dL_law_566 : decode code 566 = .ok (.iload_n 3, 1) := by decide +kernel
theorem dL_law_567 : decode code 567 = .ok (.iconst 1, 1) := by decide +kernel
theorem dL_law_568 : decode code 568 = .ok (.iadd, 1) := by decide +kernel
theorem dL_law_569 : decode code 569 = .ok (.iaload, 1) := by decide +kernel
theorem dL_law_570 : decode code 570 = .ok (.aload_n 0, 1) := by decide +kernel
theorem dL_law_571 : decode code 571 = .ok (.iload_n 3, 1) := by decide +kernel
theorem dL_law_572 : decode code 572 = .ok (.iconst 2, 1) := by decide +kernel
theorem dL_law_573 : decode code 573 = .ok (.iadd, 1) := by decide +kernel
theorem dL_law_574 : decode code 574 = .ok (.iaload, 1) := by decide +kernel
theorem dL_law_575 : decode code 575 = .ok (.aload_n 0, 1) := by decide +kernel
theorem dL_law_576 : decode code 576 = .ok (.iload_n 3, 1) := by decide +kernel
theorem dL_law_577 : decode code 577 = .ok (.iconst 3, 1) := by decide +kernel
theorem dL_law_578 : decode code 578 = .ok (.iadd, 1) := by decide +kernel
theorem dL_law_579 : decode code 579 = .ok (.iaload, 1) := by decide +kernel
theorem dL_law_580 : decode code 580 = .ok (.aload_n 0, 1) := by decide +kernel
theorem dL_law_581 : decode code 581 = .ok (.iload_n 3, 1) := by decide +kernel
theorem dL_law_582 : decode code 582 = .ok (.iconst 4, 1) := by decide +kernel
theorem dL_law_583 : decode code 583 = .ok (.iadd, 1) := by decide +kernel
theorem dL_law_584 : decode code 584 = .ok (.iaload, 1) := by decide +kernel
theorem dL_law_585 : decode code 585 = .ok (.invokevirtual 74, 3) := by decide +kernel
theorem dL_law_588 : decode code 588 = .ok (.aload_n 2, 1) := by decide +kernel
theorem dL_law_589 : decode code 589 = .ok (.aload_n 0, 1) := by decide +kernel
theorem dL_law_590 : decode code 590 = .ok (.iload_n 3, 1) := by decide +kernel
theorem dL_law_591 : decode code 591 = .ok (.iconst 1, 1) := by decide +kernel
theorem dL_law_592 : decode code 592 = .ok (.iadd, 1) := by decide +kernel
theorem dL_law_593 : decode code 593 = .ok (.iaload, 1) := by decide +kernel
theorem dL_law_594 : decode code 594 = .ok (.aload_n 0, 1) := by decide +kernel
theorem dL_law_595 : decode code 595 = .ok (.iload_n 3, 1) := by decide +kernel
theorem dL_law_596 : decode code 596 = .ok (.iconst 2, 1) := by decide +kernel
theorem dL_law_597 : decode code 597 = .ok (.iadd, 1) := by decide +kernel
theorem dL_law_598 : decode code 598 = .ok (.iaload, 1) := by decide +kernel
theorem dL_law_599 : decode code 599 = .ok (.aload_n 0, 1) := by decide +kernel
theorem dL_law_600 : decode code 600 = .ok (.iload_n 3, 1) := by decide +kernel
theorem dL_law_601 : decode code 601 = .ok (.iconst 3, 1) := by decide +kernel
theorem dL_law_602 : decode code 602 = .ok (.iadd, 1) := by decide +kernel
theorem dL_law_603 : decode code 603 = .ok (.iaload, 1) := by decide +kernel
theorem dL_law_604 : decode code 604 = .ok (.aload_n 0, 1) := by decide +kernel
theorem dL_law_605 : decode code 605 = .ok (.iload_n 3, 1) := by decide +kernel
theorem dL_law_606 : decode code 606 = .ok (.iconst 4, 1) := by decide +kernel
theorem dL_law_607 : decode code 607 = .ok (.iadd, 1) := by decide +kernel
theorem dL_law_608 : decode code 608 = .ok (.iaload, 1) := by decide +kernel
theorem dL_law_609 : decode code 609 = .ok (.invokevirtual 77, 3) := by decide +kernel
theorem dL_law_612 : decode code 612 = .ok (.if_icmp .eq 463, 3) := by decide +kernel
theorem dL_law_615 : decode code 615 = .ok (.iconst 0, 1) := by decide +kernel
theorem dL_law_616 : decode code 616 = .ok (.ireturn, 1) := by decide +kernel
theorem dL_law_617 : decode code 617 = .ok (.aload_n 1, 1) := by decide +kernel
theorem dL_law_618 : decode code 618 = .ok (.aload_n 0, 1) := by decide +kernel
theorem dL_law_619 : decode code 619 = .ok (.iload_n 3, 1) := by decide +kernel
theorem dL_law_620 : decode code 620 = .ok (.iconst 1, 1) := by decide +kernel
theorem dL_law_621 : decode code 621 = .ok (.iadd, 1) := by decide +kernel
theorem dL_law_622 : decode code 622 = .ok (.iaload, 1) := by decide +kernel
theorem dL_law_623 : decode code 623 = .ok (.aload_n 0, 1) := by decide +kernel
theorem dL_law_624 : decode code 624 = .ok (.iload_n 3, 1) := by decide +kernel
theorem dL_law_625 : decode code 625 = .ok (.iconst 2, 1) := by decide +kernel
theorem dL_law_626 : decode code 626 = .ok (.iadd, 1) := by decide +kernel
theorem dL_law_627 : decode code 627 = .ok (.iaload, 1) := by decide +kernel
theorem dL_law_628 : decode code 628 = .ok (.invokevirtual 78, 3) := by decide +kernel
theorem dL_law_631 : decode code 631 = .ok (.aload_n 2, 1) := by decide +kernel
theorem dL_law_632 : decode code 632 = .ok (.aload_n 0, 1) := by decide +kernel
theorem dL_law_633 : decode code 633 = .ok (.iload_n 3, 1) := by decide +kernel
theorem dL_law_634 : decode code 634 = .ok (.iconst 1, 1) := by decide +kernel
theorem dL_law_635 : decode code 635 = .ok (.iadd, 1) := by decide +kernel
theorem dL_law_636 : decode code 636 = .ok (.iaload, 1) := by decide +kernel
theorem dL_law_637 : decode code 637 = .ok (.aload_n 0, 1) := by decide +kernel
theorem dL_law_638 : decode code 638 = .ok (.iload_n 3, 1) := by decide +kernel
theorem dL_law_639 : decode code 639 = .ok (.iconst 2, 1) := by decide +kernel
theorem dL_law_640 : decode code 640 = .ok (.iadd, 1) := by decide +kernel
theorem dL_law_641 : decode code 641 = .ok (.iaload, 1) := by decide +kernel
theorem dL_law_642 : decode code 642 = .ok (.invokevirtual 81, 3) := by decide +kernel
theorem dL_law_645 : decode code 645 = .ok (.if_icmp .eq 430, 3) := by decide +kernel
theorem dL_law_648 : decode code 648 = .ok (.iconst 0, 1) := by decide +kernel
theorem dL_law_649 : decode code 649 = .ok (.ireturn, 1) := by decide +kernel
theorem dL_law_650 : decode code 650 = .ok (.aload_n 1, 1) := by decide +kernel
theorem dL_law_651 : decode code 651 = .ok (.aload_n 0, 1) := by decide +kernel
theorem dL_law_652 : decode code 652 = .ok (.iload_n 3, 1) := by decide +kernel
theorem dL_law_653 : decode code 653 = .ok (.iconst 1, 1) := by decide +kernel
theorem dL_law_654 : decode code 654 = .ok (.iadd, 1) := by decide +kernel
theorem dL_law_655 : decode code 655 = .ok (.iaload, 1) := by decide +kernel
theorem dL_law_656 : decode code 656 = .ok (.invokevirtual 82, 3) := by decide +kernel
theorem dL_law_659 : decode code 659 = .ok (.aload_n 2, 1) := by decide +kernel
theorem dL_law_660 : decode code 660 = .ok (.aload_n 0, 1) := by decide +kernel
theorem dL_law_661 : decode code 661 = .ok (.iload_n 3, 1) := by decide +kernel
theorem dL_law_662 : decode code 662 = .ok (.iconst 1, 1) := by decide +kernel
theorem dL_law_663 : decode code 663 = .ok (.iadd, 1) := by decide +kernel
theorem dL_law_664 : decode code 664 = .ok (.iaload, 1) := by decide +kernel
theorem dL_law_665 : decode code 665 = .ok (.invokevirtual 85, 3) := by decide +kernel
theorem dL_law_668 : decode code 668 = .ok (.if_icmp .eq 407, 3) := by decide +kernel
theorem dL_law_671 : decode code 671 = .ok (.iconst 0, 1) := by decide +kernel
theorem dL_law_672 : decode code 672 = .ok (.ireturn, 1) := by decide +kernel
theorem dL_law_673 : decode code 673 = .ok (.aload_n 1, 1) := by decide +kernel
theorem dL_law_674 : decode code 674 = .ok (.aload_n 0, 1) := by decide +kernel
theorem dL_law_675 : decode code 675 = .ok (.iload_n 3, 1) := by decide +kernel
theorem dL_law_676 : decode code 676 = .ok (.iconst 1, 1) := by decide +kernel
theorem dL_law_677 : decode code 677 = .ok (.iadd, 1) := by decide +kernel
theorem dL_law_678 : decode code 678 = .ok (.iaload, 1) := by decide +kernel
theorem dL_law_679 : decode code 679 = .ok (.invokevirtual 86, 3) := by decide +kernel
theorem dL_law_682 : decode code 682 = .ok (.aload_n 2, 1) := by decide +kernel
theorem dL_law_683 : decode code 683 = .ok (.aload_n 0, 1) := by decide +kernel
theorem dL_law_684 : decode code 684 = .ok (.iload_n 3, 1) := by decide +kernel
theorem dL_law_685 : decode code 685 = .ok (.iconst 1, 1) := by decide +kernel
theorem dL_law_686 : decode code 686 = .ok (.iadd, 1) := by decide +kernel
theorem dL_law_687 : decode code 687 = .ok (.iaload, 1) := by decide +kernel
theorem dL_law_688 : decode code 688 = .ok (.invokevirtual 89, 3) := by decide +kernel
theorem dL_law_691 : decode code 691 = .ok (.if_icmp .eq 384, 3) := by decide +kernel
theorem dL_law_694 : decode code 694 = .ok (.iconst 0, 1) := by decide +kernel
theorem dL_law_695 : decode code 695 = .ok (.ireturn, 1) := by decide +kernel
theorem dL_law_696 : decode code 696 = .ok (.aload_n 1, 1) := by decide +kernel
theorem dL_law_697 : decode code 697 = .ok (.aload_n 0, 1) := by decide +kernel
theorem dL_law_698 : decode code 698 = .ok (.iload_n 3, 1) := by decide +kernel
theorem dL_law_699 : decode code 699 = .ok (.iconst 1, 1) := by decide +kernel
theorem dL_law_700 : decode code 700 = .ok (.iadd, 1) := by decide +kernel
theorem dL_law_701 : decode code 701 = .ok (.iaload, 1) := by decide +kernel
theorem dL_law_702 : decode code 702 = .ok (.invokevirtual 90, 3) := by decide +kernel
theorem dL_law_705 : decode code 705 = .ok (.aload_n 2, 1) := by decide +kernel
theorem dL_law_706 : decode code 706 = .ok (.aload_n 0, 1) := by decide +kernel
theorem dL_law_707 : decode code 707 = .ok (.iload_n 3, 1) := by decide +kernel
theorem dL_law_708 : decode code 708 = .ok (.iconst 1, 1) := by decide +kernel
theorem dL_law_709 : decode code 709 = .ok (.iadd, 1) := by decide +kernel
theorem dL_law_710 : decode code 710 = .ok (.iaload, 1) := by decide +kernel
theorem dL_law_711 : decode code 711 = .ok (.invokevirtual 93, 3) := by decide +kernel
theorem dL_law_714 : decode code 714 = .ok (.if_icmp .eq 361, 3) := by decide +kernel
theorem dL_law_717 : decode code 717 = .ok (.iconst 0, 1) := by decide +kernel
theorem dL_law_718 : decode code 718 = .ok (.ireturn, 1) := by decide +kernel
theorem dL_law_719 : decode code 719 = .ok (.aload_n 1, 1) := by decide +kernel
theorem dL_law_720 : decode code 720 = .ok (.aload_n 0, 1) := by decide +kernel
theorem dL_law_721 : decode code 721 = .ok (.iload_n 3, 1) := by decide +kernel
theorem dL_law_722 : decode code 722 = .ok (.iconst 1, 1) := by decide +kernel
theorem dL_law_723 : decode code 723 = .ok (.iadd, 1) := by decide +kernel
theorem dL_law_724 : decode code 724 = .ok (.iaload, 1) := by decide +kernel
theorem dL_law_725 : decode code 725 = .ok (.invokevirtual 94, 3) := by decide +kernel
theorem dL_law_728 : decode code 728 = .ok (.aload_n 2, 1) := by decide +kernel
theorem dL_law_729 : decode code 729 = .ok (.aload_n 0, 1) := by decide +kernel
theorem dL_law_730 : decode code 730 = .ok (.iload_n 3, 1) := by decide +kernel
theorem dL_law_731 : decode code 731 = .ok (.iconst 1, 1) := by decide +kernel
theorem dL_law_732 : decode code 732 = .ok (.iadd, 1) := by decide +kernel
theorem dL_law_733 : decode code 733 = .ok (.iaload, 1) := by decide +kernel
theorem dL_law_734 : decode code 734 = .ok (.invokevirtual 97, 3) := by decide +kernel
theorem dL_law_737 : decode code 737 = .ok (.if_icmp .eq 338, 3) := by decide +kernel
theorem dL_law_740 : decode code 740 = .ok (.iconst 0, 1) := by decide +kernel
theorem dL_law_741 : decode code 741 = .ok (.ireturn, 1) := by decide +kernel
theorem dL_law_742 : decode code 742 = .ok (.aload_n 1, 1) := by decide +kernel
theorem dL_law_743 : decode code 743 = .ok (.aload_n 0, 1) := by decide +kernel
theorem dL_law_744 : decode code 744 = .ok (.iload_n 3, 1) := by decide +kernel
theorem dL_law_745 : decode code 745 = .ok (.iconst 1, 1) := by decide +kernel
theorem dL_law_746 : decode code 746 = .ok (.iadd, 1) := by decide +kernel
theorem dL_law_747 : decode code 747 = .ok (.iaload, 1) := by decide +kernel
theorem dL_law_748 : decode code 748 = .ok (.aload_n 0, 1) := by decide +kernel
theorem dL_law_749 : decode code 749 = .ok (.iload_n 3, 1) := by decide +kernel
theorem dL_law_750 : decode code 750 = .ok (.iconst 2, 1) := by decide +kernel
theorem dL_law_751 : decode code 751 = .ok (.iadd, 1) := by decide +kernel
theorem dL_law_752 : decode code 752 = .ok (.iaload, 1) := by decide +kernel
theorem dL_law_753 : decode code 753 = .ok (.aload_n 0, 1) := by decide +kernel
theorem dL_law_754 : decode code 754 = .ok (.iload_n 3, 1) := by decide +kernel
theorem dL_law_755 : decode code 755 = .ok (.iconst 3, 1) := by decide +kernel
theorem dL_law_756 : decode code 756 = .ok (.iadd, 1) := by decide +kernel
theorem dL_law_757 : decode code 757 = .ok (.iaload, 1) := by decide +kernel
theorem dL_law_758 : decode code 758 = .ok (.invokevirtual 98, 3) := by decide +kernel
theorem dL_law_761 : decode code 761 = .ok (.aload_n 2, 1) := by decide +kernel
theorem dL_law_762 : decode code 762 = .ok (.aload_n 0, 1) := by decide +kernel
theorem dL_law_763 : decode code 763 = .ok (.iload_n 3, 1) := by decide +kernel
theorem dL_law_764 : decode code 764 = .ok (.iconst 1, 1) := by decide +kernel
theorem dL_law_765 : decode code 765 = .ok (.iadd, 1) := by decide +kernel
theorem dL_law_766 : decode code 766 = .ok (.iaload, 1) := by decide +kernel
theorem dL_law_767 : decode code 767 = .ok (.aload_n 0, 1) := by decide +kernel
theorem dL_law_768 : decode code 768 = .ok (.iload_n 3, 1) := by decide +kernel
theorem dL_law_769 : decode code 769 = .ok (.iconst 2, 1) := by decide +kernel
theorem dL_law_770 : decode code 770 = .ok (.iadd, 1) := by decide +kernel
theorem dL_law_771 : decode code 771 = .ok (.iaload, 1) := by decide +kernel
theorem dL_law_772 : decode code 772 = .ok (.aload_n 0, 1) := by decide +kernel
theorem dL_law_773 : decode code 773 = .ok (.iload_n 3, 1) := by decide +kernel
theorem dL_law_774 : decode code 774 = .ok (.iconst 3, 1) := by decide +kernel
theorem dL_law_775 : decode code 775 = .ok (.iadd, 1) := by decide +kernel
theorem dL_law_776 : decode code 776 = .ok (.iaload, 1) := by decide +kernel
theorem dL_law_777 : decode code 777 = .ok (.invokevirtual 102, 3) := by decide +kernel
theorem dL_law_780 : decode code 780 = .ok (.if_icmp .eq 295, 3) := by decide +kernel
theorem dL_law_783 : decode code 783 = .ok (.iconst 0, 1) := by decide +kernel
theorem dL_law_784 : decode code 784 = .ok (.ireturn, 1) := by decide +kernel
theorem dL_law_785 : decode code 785 = .ok (.aload_n 1, 1) := by decide +kernel
theorem dL_law_786 : decode code 786 = .ok (.aload_n 0, 1) := by decide +kernel
theorem dL_law_787 : decode code 787 = .ok (.iload_n 3, 1) := by decide +kernel
theorem dL_law_788 : decode code 788 = .ok (.iconst 1, 1) := by decide +kernel
theorem dL_law_789 : decode code 789 = .ok (.iadd, 1) := by decide +kernel
theorem dL_law_790 : decode code 790 = .ok (.iaload, 1) := by decide +kernel
theorem dL_law_791 : decode code 791 = .ok (.invokevirtual 103, 3) := by decide +kernel
theorem dL_law_794 : decode code 794 = .ok (.aload_n 2, 1) := by decide +kernel
theorem dL_law_795 : decode code 795 = .ok (.aload_n 0, 1) := by decide +kernel
theorem dL_law_796 : decode code 796 = .ok (.iload_n 3, 1) := by decide +kernel
theorem dL_law_797 : decode code 797 = .ok (.iconst 1, 1) := by decide +kernel
theorem dL_law_798 : decode code 798 = .ok (.iadd, 1) := by decide +kernel
theorem dL_law_799 : decode code 799 = .ok (.iaload, 1) := by decide +kernel
theorem dL_law_800 : decode code 800 = .ok (.invokevirtual 106, 3) := by decide +kernel
theorem dL_law_803 : decode code 803 = .ok (.if_icmp .eq 272, 3) := by decide +kernel
theorem dL_law_806 : decode code 806 = .ok (.iconst 0, 1) := by decide +kernel
theorem dL_law_807 : decode code 807 = .ok (.ireturn, 1) := by decide +kernel
theorem dL_law_808 : decode code 808 = .ok (.aload_n 1, 1) := by decide +kernel
theorem dL_law_809 : decode code 809 = .ok (.aload_n 0, 1) := by decide +kernel
theorem dL_law_810 : decode code 810 = .ok (.iload_n 3, 1) := by decide +kernel
theorem dL_law_811 : decode code 811 = .ok (.iconst 1, 1) := by decide +kernel
theorem dL_law_812 : decode code 812 = .ok (.iadd, 1) := by decide +kernel
theorem dL_law_813 : decode code 813 = .ok (.iaload, 1) := by decide +kernel
theorem dL_law_814 : decode code 814 = .ok (.aload_n 0, 1) := by decide +kernel
theorem dL_law_815 : decode code 815 = .ok (.iload_n 3, 1) := by decide +kernel
theorem dL_law_816 : decode code 816 = .ok (.iconst 2, 1) := by decide +kernel
theorem dL_law_817 : decode code 817 = .ok (.iadd, 1) := by decide +kernel
theorem dL_law_818 : decode code 818 = .ok (.iaload, 1) := by decide +kernel
theorem dL_law_819 : decode code 819 = .ok (.invokevirtual 107, 3) := by decide +kernel
theorem dL_law_822 : decode code 822 = .ok (.aload_n 2, 1) := by decide +kernel
theorem dL_law_823 : decode code 823 = .ok (.aload_n 0, 1) := by decide +kernel
theorem dL_law_824 : decode code 824 = .ok (.iload_n 3, 1) := by decide +kernel
theorem dL_law_825 : decode code 825 = .ok (.iconst 1, 1) := by decide +kernel
theorem dL_law_826 : decode code 826 = .ok (.iadd, 1) := by decide +kernel
theorem dL_law_827 : decode code 827 = .ok (.iaload, 1) := by decide +kernel
theorem dL_law_828 : decode code 828 = .ok (.aload_n 0, 1) := by decide +kernel
theorem dL_law_829 : decode code 829 = .ok (.iload_n 3, 1) := by decide +kernel
theorem dL_law_830 : decode code 830 = .ok (.iconst 2, 1) := by decide +kernel
theorem dL_law_831 : decode code 831 = .ok (.iadd, 1) := by decide +kernel
theorem dL_law_832 : decode code 832 = .ok (.iaload, 1) := by decide +kernel
theorem dL_law_833 : decode code 833 = .ok (.invokevirtual 110, 3) := by decide +kernel
theorem dL_law_836 : decode code 836 = .ok (.if_icmp .eq 239, 3) := by decide +kernel
theorem dL_law_839 : decode code 839 = .ok (.iconst 0, 1) := by decide +kernel
theorem dL_law_840 : decode code 840 = .ok (.ireturn, 1) := by decide +kernel
theorem dL_law_841 : decode code 841 = .ok (.aload_n 1, 1) := by decide +kernel
theorem dL_law_842 : decode code 842 = .ok (.aload_n 0, 1) := by decide +kernel
theorem dL_law_843 : decode code 843 = .ok (.iload_n 3, 1) := by decide +kernel
theorem dL_law_844 : decode code 844 = .ok (.iconst 1, 1) := by decide +kernel
theorem dL_law_845 : decode code 845 = .ok (.iadd, 1) := by decide +kernel
theorem dL_law_846 : decode code 846 = .ok (.iaload, 1) := by decide +kernel
theorem dL_law_847 : decode code 847 = .ok (.aload_n 0, 1) := by decide +kernel
theorem dL_law_848 : decode code 848 = .ok (.iload_n 3, 1) := by decide +kernel
theorem dL_law_849 : decode code 849 = .ok (.iconst 2, 1) := by decide +kernel
theorem dL_law_850 : decode code 850 = .ok (.iadd, 1) := by decide +kernel
theorem dL_law_851 : decode code 851 = .ok (.iaload, 1) := by decide +kernel
theorem dL_law_852 : decode code 852 = .ok (.aload_n 0, 1) := by decide +kernel
theorem dL_law_853 : decode code 853 = .ok (.iload_n 3, 1) := by decide +kernel
theorem dL_law_854 : decode code 854 = .ok (.iconst 3, 1) := by decide +kernel
theorem dL_law_855 : decode code 855 = .ok (.iadd, 1) := by decide +kernel
theorem dL_law_856 : decode code 856 = .ok (.iaload, 1) := by decide +kernel
theorem dL_law_857 : decode code 857 = .ok (.aload_n 0, 1) := by decide +kernel
theorem dL_law_858 : decode code 858 = .ok (.iload_n 3, 1) := by decide +kernel
theorem dL_law_859 : decode code 859 = .ok (.iconst 4, 1) := by decide +kernel
theorem dL_law_860 : decode code 860 = .ok (.iadd, 1) := by decide +kernel
theorem dL_law_861 : decode code 861 = .ok (.iaload, 1) := by decide +kernel
theorem dL_law_862 : decode code 862 = .ok (.invokevirtual 111, 3) := by decide +kernel
theorem dL_law_865 : decode code 865 = .ok (.aload_n 2, 1) := by decide +kernel
theorem dL_law_866 : decode code 866 = .ok (.aload_n 0, 1) := by decide +kernel
theorem dL_law_867 : decode code 867 = .ok (.iload_n 3, 1) := by decide +kernel
theorem dL_law_868 : decode code 868 = .ok (.iconst 1, 1) := by decide +kernel
theorem dL_law_869 : decode code 869 = .ok (.iadd, 1) := by decide +kernel
theorem dL_law_870 : decode code 870 = .ok (.iaload, 1) := by decide +kernel
theorem dL_law_871 : decode code 871 = .ok (.aload_n 0, 1) := by decide +kernel
theorem dL_law_872 : decode code 872 = .ok (.iload_n 3, 1) := by decide +kernel
theorem dL_law_873 : decode code 873 = .ok (.iconst 2, 1) := by decide +kernel
theorem dL_law_874 : decode code 874 = .ok (.iadd, 1) := by decide +kernel
theorem dL_law_875 : decode code 875 = .ok (.iaload, 1) := by decide +kernel
theorem dL_law_876 : decode code 876 = .ok (.aload_n 0, 1) := by decide +kernel
theorem dL_law_877 : decode code 877 = .ok (.iload_n 3, 1) := by decide +kernel
theorem dL_law_878 : decode code 878 = .ok (.iconst 3, 1) := by decide +kernel
theorem dL_law_879 : decode code 879 = .ok (.iadd, 1) := by decide +kernel
theorem dL_law_880 : decode code 880 = .ok (.iaload, 1) := by decide +kernel
theorem dL_law_881 : decode code 881 = .ok (.aload_n 0, 1) := by decide +kernel
theorem dL_law_882 : decode code 882 = .ok (.iload_n 3, 1) := by decide +kernel
theorem dL_law_883 : decode code 883 = .ok (.iconst 4, 1) := by decide +kernel
theorem dL_law_884 : decode code 884 = .ok (.iadd, 1) := by decide +kernel
theorem dL_law_885 : decode code 885 = .ok (.iaload, 1) := by decide +kernel
theorem dL_law_886 : decode code 886 = .ok (.invokevirtual 114, 3) := by decide +kernel
theorem dL_law_889 : decode code 889 = .ok (.if_icmp .eq 186, 3) := by decide +kernel
theorem dL_law_892 : decode code 892 = .ok (.iconst 0, 1) := by decide +kernel
theorem dL_law_893 : decode code 893 = .ok (.ireturn, 1) := by decide +kernel
theorem dL_law_894 : decode code 894 = .ok (.aload_n 1, 1) := by decide +kernel
theorem dL_law_895 : decode code 895 = .ok (.aload_n 0, 1) := by decide +kernel
theorem dL_law_896 : decode code 896 = .ok (.iload_n 3, 1) := by decide +kernel
theorem dL_law_897 : decode code 897 = .ok (.iconst 1, 1) := by decide +kernel
theorem dL_law_898 : decode code 898 = .ok (.iadd, 1) := by decide +kernel
theorem dL_law_899 : decode code 899 = .ok (.iaload, 1) := by decide +kernel
theorem dL_law_900 : decode code 900 = .ok (.invokevirtual 115, 3) := by decide +kernel
theorem dL_law_903 : decode code 903 = .ok (.aload_n 2, 1) := by decide +kernel
theorem dL_law_904 : decode code 904 = .ok (.aload_n 0, 1) := by decide +kernel
theorem dL_law_905 : decode code 905 = .ok (.iload_n 3, 1) := by decide +kernel
theorem dL_law_906 : decode code 906 = .ok (.iconst 1, 1) := by decide +kernel
theorem dL_law_907 : decode code 907 = .ok (.iadd, 1) := by decide +kernel
theorem dL_law_908 : decode code 908 = .ok (.iaload, 1) := by decide +kernel
theorem dL_law_909 : decode code 909 = .ok (.invokevirtual 118, 3) := by decide +kernel
theorem dL_law_912 : decode code 912 = .ok (.if_icmp .eq 163, 3) := by decide +kernel
theorem dL_law_915 : decode code 915 = .ok (.iconst 0, 1) := by decide +kernel
theorem dL_law_916 : decode code 916 = .ok (.ireturn, 1) := by decide +kernel
theorem dL_law_917 : decode code 917 = .ok (.aload_n 1, 1) := by decide +kernel
theorem dL_law_918 : decode code 918 = .ok (.aload_n 0, 1) := by decide +kernel
theorem dL_law_919 : decode code 919 = .ok (.iload_n 3, 1) := by decide +kernel
theorem dL_law_920 : decode code 920 = .ok (.iconst 1, 1) := by decide +kernel
theorem dL_law_921 : decode code 921 = .ok (.iadd, 1) := by decide +kernel
theorem dL_law_922 : decode code 922 = .ok (.iaload, 1) := by decide +kernel
theorem dL_law_923 : decode code 923 = .ok (.invokevirtual 119, 3) := by decide +kernel
theorem dL_law_926 : decode code 926 = .ok (.aload_n 2, 1) := by decide +kernel
theorem dL_law_927 : decode code 927 = .ok (.aload_n 0, 1) := by decide +kernel
theorem dL_law_928 : decode code 928 = .ok (.iload_n 3, 1) := by decide +kernel
theorem dL_law_929 : decode code 929 = .ok (.iconst 1, 1) := by decide +kernel
theorem dL_law_930 : decode code 930 = .ok (.iadd, 1) := by decide +kernel
theorem dL_law_931 : decode code 931 = .ok (.iaload, 1) := by decide +kernel
theorem dL_law_932 : decode code 932 = .ok (.invokevirtual 122, 3) := by decide +kernel
theorem dL_law_935 : decode code 935 = .ok (.if_icmp .eq 140, 3) := by decide +kernel
theorem dL_law_938 : decode code 938 = .ok (.iconst 0, 1) := by decide +kernel
theorem dL_law_939 : decode code 939 = .ok (.ireturn, 1) := by decide +kernel
theorem dL_law_940 : decode code 940 = .ok (.aload_n 1, 1) := by decide +kernel
theorem dL_law_941 : decode code 941 = .ok (.aload_n 0, 1) := by decide +kernel
theorem dL_law_942 : decode code 942 = .ok (.iload_n 3, 1) := by decide +kernel
theorem dL_law_943 : decode code 943 = .ok (.iconst 1, 1) := by decide +kernel
theorem dL_law_944 : decode code 944 = .ok (.iadd, 1) := by decide +kernel
theorem dL_law_945 : decode code 945 = .ok (.iaload, 1) := by decide +kernel
theorem dL_law_946 : decode code 946 = .ok (.invokevirtual 123, 3) := by decide +kernel
theorem dL_law_949 : decode code 949 = .ok (.aload_n 2, 1) := by decide +kernel
theorem dL_law_950 : decode code 950 = .ok (.aload_n 0, 1) := by decide +kernel
theorem dL_law_951 : decode code 951 = .ok (.iload_n 3, 1) := by decide +kernel
theorem dL_law_952 : decode code 952 = .ok (.iconst 1, 1) := by decide +kernel
theorem dL_law_953 : decode code 953 = .ok (.iadd, 1) := by decide +kernel
theorem dL_law_954 : decode code 954 = .ok (.iaload, 1) := by decide +kernel
theorem dL_law_955 : decode code 955 = .ok (.invokevirtual 126, 3) := by decide +kernel
theorem dL_law_958 : decode code 958 = .ok (.if_icmp .eq 117, 3) := by decide +kernel
theorem dL_law_961 : decode code 961 = .ok (.iconst 0, 1) := by decide +kernel
theorem dL_law_962 : decode code 962 = .ok (.ireturn, 1) := by decide +kernel
theorem dL_law_963 : decode code 963 = .ok (.aload_n 1, 1) := by decide +kernel
theorem dL_law_964 : decode code 964 = .ok (.aload_n 0, 1) := by decide +kernel
theorem dL_law_965 : decode code 965 = .ok (.iload_n 3, 1) := by decide +kernel
theorem dL_law_966 : decode code 966 = .ok (.iconst 1, 1) := by decide +kernel
theorem dL_law_967 : decode code 967 = .ok (.iadd, 1) := by decide +kernel
theorem dL_law_968 : decode code 968 = .ok (.iaload, 1) := by decide +kernel
theorem dL_law_969 : decode code 969 = .ok (.aload_n 0, 1) := by decide +kernel
theorem dL_law_970 : decode code 970 = .ok (.iload_n 3, 1) := by decide +kernel
theorem dL_law_971 : decode code 971 = .ok (.iconst 2, 1) := by decide +kernel
theorem dL_law_972 : decode code 972 = .ok (.iadd, 1) := by decide +kernel
theorem dL_law_973 : decode code 973 = .ok (.iaload, 1) := by decide +kernel
theorem dL_law_974 : decode code 974 = .ok (.aload_n 0, 1) := by decide +kernel
theorem dL_law_975 : decode code 975 = .ok (.iload_n 3, 1) := by decide +kernel
theorem dL_law_976 : decode code 976 = .ok (.iconst 3, 1) := by decide +kernel
theorem dL_law_977 : decode code 977 = .ok (.iadd, 1) := by decide +kernel
theorem dL_law_978 : decode code 978 = .ok (.iaload, 1) := by decide +kernel
theorem dL_law_979 : decode code 979 = .ok (.invokevirtual 127, 3) := by decide +kernel
theorem dL_law_982 : decode code 982 = .ok (.aload_n 2, 1) := by decide +kernel
theorem dL_law_983 : decode code 983 = .ok (.aload_n 0, 1) := by decide +kernel
theorem dL_law_984 : decode code 984 = .ok (.iload_n 3, 1) := by decide +kernel
theorem dL_law_985 : decode code 985 = .ok (.iconst 1, 1) := by decide +kernel
theorem dL_law_986 : decode code 986 = .ok (.iadd, 1) := by decide +kernel
theorem dL_law_987 : decode code 987 = .ok (.iaload, 1) := by decide +kernel
theorem dL_law_988 : decode code 988 = .ok (.aload_n 0, 1) := by decide +kernel
theorem dL_law_989 : decode code 989 = .ok (.iload_n 3, 1) := by decide +kernel
theorem dL_law_990 : decode code 990 = .ok (.iconst 2, 1) := by decide +kernel
theorem dL_law_991 : decode code 991 = .ok (.iadd, 1) := by decide +kernel
theorem dL_law_992 : decode code 992 = .ok (.iaload, 1) := by decide +kernel
theorem dL_law_993 : decode code 993 = .ok (.aload_n 0, 1) := by decide +kernel
theorem dL_law_994 : decode code 994 = .ok (.iload_n 3, 1) := by decide +kernel
theorem dL_law_995 : decode code 995 = .ok (.iconst 3, 1) := by decide +kernel
theorem dL_law_996 : decode code 996 = .ok (.iadd, 1) := by decide +kernel
theorem dL_law_997 : decode code 997 = .ok (.iaload, 1) := by decide +kernel
theorem dL_law_998 : decode code 998 = .ok (.invokevirtual 130, 3) := by decide +kernel
theorem dL_law_1001 : decode code 1001 = .ok (.if_icmp .eq 74, 3) := by decide +kernel
theorem dL_law_1004 : decode code 1004 = .ok (.iconst 0, 1) := by decide +kernel
theorem dL_law_1005 : decode code 1005 = .ok (.ireturn, 1) := by decide +kernel
theorem dL_law_1006 : decode code 1006 = .ok (.aload_n 1, 1) := by decide +kernel
theorem dL_law_1007 : decode code 1007 = .ok (.aload_n 0, 1) := by decide +kernel
theorem dL_law_1008 : decode code 1008 = .ok (.iload_n 3, 1) := by decide +kernel
theorem dL_law_1009 : decode code 1009 = .ok (.iconst 1, 1) := by decide +kernel
theorem dL_law_1010 : decode code 1010 = .ok (.iadd, 1) := by decide +kernel
theorem dL_law_1011 : decode code 1011 = .ok (.iaload, 1) := by decide +kernel
theorem dL_law_1012 : decode code 1012 = .ok (.invokevirtual 131, 3) := by decide +kernel
theorem dL_law_1015 : decode code 1015 = .ok (.aload_n 2, 1) := by decide +kernel
theorem dL_law_1016 : decode code 1016 = .ok (.aload_n 0, 1) := by decide +kernel
theorem dL_law_1017 : decode code 1017 = .ok (.iload_n 3, 1) := by decide +kernel
theorem dL_law_1018 : decode code 1018 = .ok (.iconst 1, 1) := by decide +kernel
theorem dL_law_1019 : decode code 1019 = .ok (.iadd, 1) := by decide +kernel
theorem dL_law_1020 : decode code 1020 = .ok (.iaload, 1) := by decide +kernel
theorem dL_law_1021 : decode code 1021 = .ok (.invokevirtual 134, 3) := by decide +kernel
theorem dL_law_1024 : decode code 1024 = .ok (.if_icmp .eq 51, 3) := by decide +kernel
theorem dL_law_1027 : decode code 1027 = .ok (.iconst 0, 1) := by decide +kernel
theorem dL_law_1028 : decode code 1028 = .ok (.ireturn, 1) := by decide +kernel
theorem dL_law_1029 : decode code 1029 = .ok (.aload_n 1, 1) := by decide +kernel
theorem dL_law_1030 : decode code 1030 = .ok (.aload_n 0, 1) := by decide +kernel
theorem dL_law_1031 : decode code 1031 = .ok (.iload_n 3, 1) := by decide +kernel
theorem dL_law_1032 : decode code 1032 = .ok (.iconst 1, 1) := by decide +kernel
theorem dL_law_1033 : decode code 1033 = .ok (.iadd, 1) := by decide +kernel
theorem dL_law_1034 : decode code 1034 = .ok (.iaload, 1) := by decide +kernel
theorem dL_law_1035 : decode code 1035 = .ok (.invokevirtual 135, 3) := by decide +kernel
theorem dL_law_1038 : decode code 1038 = .ok (.aload_n 2, 1) := by decide +kernel
theorem dL_law_1039 : decode code 1039 = .ok (.aload_n 0, 1) := by decide +kernel
theorem dL_law_1040 : decode code 1040 = .ok (.iload_n 3, 1) := by decide +kernel
theorem dL_law_1041 : decode code 1041 = .ok (.iconst 1, 1) := by decide +kernel
theorem dL_law_1042 : decode code 1042 = .ok (.iadd, 1) := by decide +kernel
theorem dL_law_1043 : decode code 1043 = .ok (.iaload, 1) := by decide +kernel
theorem dL_law_1044 : decode code 1044 = .ok (.invokevirtual 138, 3) := by decide +kernel
theorem dL_law_1047 : decode code 1047 = .ok (.if_icmp .eq 28, 3) := by decide +kernel
theorem dL_law_1050 : decode code 1050 = .ok (.iconst 0, 1) := by decide +kernel
theorem dL_law_1051 : decode code 1051 = .ok (.ireturn, 1) := by decide +kernel
theorem dL_law_1052 : decode code 1052 = .ok (.aload_n 1, 1) := by decide +kernel
theorem dL_law_1053 : decode code 1053 = .ok (.aload_n 0, 1) := by decide +kernel
theorem dL_law_1054 : decode code 1054 = .ok (.iload_n 3, 1) := by decide +kernel
theorem dL_law_1055 : decode code 1055 = .ok (.iconst 1, 1) := by decide +kernel
theorem dL_law_1056 : decode code 1056 = .ok (.iadd, 1) := by decide +kernel
theorem dL_law_1057 : decode code 1057 = .ok (.iaload, 1) := by decide +kernel
theorem dL_law_1058 : decode code 1058 = .ok (.invokevirtual 139, 3) := by decide +kernel
theorem dL_law_1061 : decode code 1061 = .ok (.aload_n 2, 1) := by decide +kernel
theorem dL_law_1062 : decode code 1062 = .ok (.aload_n 0, 1) := by decide +kernel
theorem dL_law_1063 : decode code 1063 = .ok (.iload_n 3, 1) := by decide +kernel
theorem dL_law_1064 : decode code 1064 = .ok (.iconst 1, 1) := by decide +kernel
theorem dL_law_1065 : decode code 1065 = .ok (.iadd, 1) := by decide +kernel
theorem dL_law_1066 : decode code 1066 = .ok (.iaload, 1) := by decide +kernel
theorem dL_law_1067 : decode code 1067 = .ok (.invokevirtual 142, 3) := by decide +kernel
theorem dL_law_1070 : decode code 1070 = .ok (.if_icmp .eq 5, 3) := by decide +kernel
theorem dL_law_1073 : decode code 1073 = .ok (.iconst 0, 1) := by decide +kernel
theorem dL_law_1074 : decode code 1074 = .ok (.ireturn, 1) := by decide +kernel
theorem dL_law_1075 : decode code 1075 = .ok (.iinc 3 6, 3) := by decide +kernel
theorem dL_law_1078 : decode code 1078 = .ok (.goto (-1060), 3) := by decide +kernel
theorem dL_law_1081 : decode code 1081 = .ok (.iconst 1, 1) := by decide +kernel
theorem dL_law_1082 : decode code 1082 = .ok (.ireturn, 1) := by decide +kernel
/-- the heap behind the constructor of FoldDeeds -/
def ob_wX : pm_H := [(0, 11, [.ref 1, .ref 3, .ref 13, .ref 15, .int 0, .ref 16, .ref 38, .ref 39, .ref 41, .ref 54, .ref 130, .ref 134, .ref 144, .ref 145]),
  (0, 9, [.ref 2, .int 0, .int 0, .int 0]),
  (1, 0, List.replicate 400 (.int 0)),
  (0, 1, [.ref 4]),
  (0, 0, [.int 0, .int 0, .int 0, .int 0, .ref 5, .ref 6, .ref 7, .ref 8, .ref 9, .ref 10, .ref 11, .ref 12]),
  (1, 0, List.replicate 8 (.int 0)),
  (1, 0, List.replicate 8 (.int 0)),
  (1, 0, List.replicate 8 (.int 0)),
  (1, 0, List.replicate 8 (.int 0)),
  (1, 0, List.replicate 8 (.int 0)),
  (1, 0, List.replicate 8 (.int 0)),
  (1, 0, List.replicate 8 (.int 0)),
  (1, 0, List.replicate 4 (.int 0)),
  (0, 6, [.ref 14, .int 0, .int 0]),
  (1, 0, List.replicate 400 (.int 0)),
  (1, 9, List.replicate 6 (.null)),
  (0, 7, [.ref 17, .ref 26, .ref 35, .ref 36, .ref 37, .int 0, .int (-1), .int 0]),
  (0, 0, [.int 0, .int 0, .int 0, .int 0, .ref 18, .ref 19, .ref 20, .ref 21, .ref 22, .ref 23, .ref 24, .ref 25]),
  (1, 0, List.replicate 8 (.int 0)),
  (1, 0, List.replicate 8 (.int 0)),
  (1, 0, List.replicate 8 (.int 0)),
  (1, 0, List.replicate 8 (.int 0)),
  (1, 0, List.replicate 8 (.int 0)),
  (1, 0, List.replicate 8 (.int 0)),
  (1, 0, List.replicate 8 (.int 0)),
  (1, 0, List.replicate 4 (.int 0)),
  (0, 0, [.int 0, .int 0, .int 0, .int 0, .ref 27, .ref 28, .ref 29, .ref 30, .ref 31, .ref 32, .ref 33, .ref 34]),
  (1, 0, List.replicate 8 (.int 0)),
  (1, 0, List.replicate 8 (.int 0)),
  (1, 0, List.replicate 8 (.int 0)),
  (1, 0, List.replicate 8 (.int 0)),
  (1, 0, List.replicate 8 (.int 0)),
  (1, 0, List.replicate 8 (.int 0)),
  (1, 0, List.replicate 8 (.int 0)),
  (1, 0, List.replicate 4 (.int 0)),
  (1, 0, List.replicate 8 (.int 0)),
  (1, 0, List.replicate 10 (.int 0)),
  (1, 0, List.replicate 10 (.int 0)),
  (1, 11, List.replicate 4 (.null)),
  (0, 4, [.ref 40, .int 0, .int 0]),
  (1, 4, List.replicate 20 (.null)),
  (0, 3, [.ref 42, .ref 51, .ref 52, .ref 53]),
  (0, 0, [.int 0, .int 0, .int 0, .int 0, .ref 43, .ref 44, .ref 45, .ref 46, .ref 47, .ref 48, .ref 49, .ref 50]),
  (1, 0, List.replicate 8 (.int 0)),
  (1, 0, List.replicate 8 (.int 0)),
  (1, 0, List.replicate 8 (.int 0)),
  (1, 0, List.replicate 8 (.int 0)),
  (1, 0, List.replicate 8 (.int 0)),
  (1, 0, List.replicate 8 (.int 0)),
  (1, 0, List.replicate 8 (.int 0)),
  (1, 0, List.replicate 4 (.int 0)),
  (1, 0, List.replicate 8 (.int 0)),
  (1, 1, List.replicate 11 (.long 0)),
  (1, 1, List.replicate 32 (.long 0)),
  (0, 2, [.ref 55, .ref 56, .ref 57, .int (-1)]),
  (1, 4, [.ref 58, .ref 67, .ref 76, .ref 85, .ref 94, .ref 103, .ref 112, .ref 121]),
  (1, 0, List.replicate 8 (.int 0)),
  (1, 0, List.replicate 8 (.int 0)),
  (0, 0, [.int 0, .int 0, .int 0, .int 0, .ref 59, .ref 60, .ref 61, .ref 62, .ref 63, .ref 64, .ref 65, .ref 66]),
  (1, 0, List.replicate 8 (.int 0)),
  (1, 0, List.replicate 8 (.int 0)),
  (1, 0, List.replicate 8 (.int 0)),
  (1, 0, List.replicate 8 (.int 0)),
  (1, 0, List.replicate 8 (.int 0)),
  (1, 0, List.replicate 8 (.int 0)),
  (1, 0, List.replicate 8 (.int 0)),
  (1, 0, List.replicate 4 (.int 0)),
  (0, 0, [.int 0, .int 0, .int 0, .int 0, .ref 68, .ref 69, .ref 70, .ref 71, .ref 72, .ref 73, .ref 74, .ref 75]),
  (1, 0, List.replicate 8 (.int 0)),
  (1, 0, List.replicate 8 (.int 0)),
  (1, 0, List.replicate 8 (.int 0)),
  (1, 0, List.replicate 8 (.int 0)),
  (1, 0, List.replicate 8 (.int 0)),
  (1, 0, List.replicate 8 (.int 0)),
  (1, 0, List.replicate 8 (.int 0)),
  (1, 0, List.replicate 4 (.int 0)),
  (0, 0, [.int 0, .int 0, .int 0, .int 0, .ref 77, .ref 78, .ref 79, .ref 80, .ref 81, .ref 82, .ref 83, .ref 84]),
  (1, 0, List.replicate 8 (.int 0)),
  (1, 0, List.replicate 8 (.int 0)),
  (1, 0, List.replicate 8 (.int 0)),
  (1, 0, List.replicate 8 (.int 0)),
  (1, 0, List.replicate 8 (.int 0)),
  (1, 0, List.replicate 8 (.int 0)),
  (1, 0, List.replicate 8 (.int 0)),
  (1, 0, List.replicate 4 (.int 0)),
  (0, 0, [.int 0, .int 0, .int 0, .int 0, .ref 86, .ref 87, .ref 88, .ref 89, .ref 90, .ref 91, .ref 92, .ref 93]),
  (1, 0, List.replicate 8 (.int 0)),
  (1, 0, List.replicate 8 (.int 0)),
  (1, 0, List.replicate 8 (.int 0)),
  (1, 0, List.replicate 8 (.int 0)),
  (1, 0, List.replicate 8 (.int 0)),
  (1, 0, List.replicate 8 (.int 0)),
  (1, 0, List.replicate 8 (.int 0)),
  (1, 0, List.replicate 4 (.int 0)),
  (0, 0, [.int 0, .int 0, .int 0, .int 0, .ref 95, .ref 96, .ref 97, .ref 98, .ref 99, .ref 100, .ref 101, .ref 102]),
  (1, 0, List.replicate 8 (.int 0)),
  (1, 0, List.replicate 8 (.int 0)),
  (1, 0, List.replicate 8 (.int 0)),
  (1, 0, List.replicate 8 (.int 0)),
  (1, 0, List.replicate 8 (.int 0)),
  (1, 0, List.replicate 8 (.int 0)),
  (1, 0, List.replicate 8 (.int 0)),
  (1, 0, List.replicate 4 (.int 0)),
  (0, 0, [.int 0, .int 0, .int 0, .int 0, .ref 104, .ref 105, .ref 106, .ref 107, .ref 108, .ref 109, .ref 110, .ref 111]),
  (1, 0, List.replicate 8 (.int 0)),
  (1, 0, List.replicate 8 (.int 0)),
  (1, 0, List.replicate 8 (.int 0)),
  (1, 0, List.replicate 8 (.int 0)),
  (1, 0, List.replicate 8 (.int 0)),
  (1, 0, List.replicate 8 (.int 0)),
  (1, 0, List.replicate 8 (.int 0)),
  (1, 0, List.replicate 4 (.int 0)),
  (0, 0, [.int 0, .int 0, .int 0, .int 0, .ref 113, .ref 114, .ref 115, .ref 116, .ref 117, .ref 118, .ref 119, .ref 120]),
  (1, 0, List.replicate 8 (.int 0)),
  (1, 0, List.replicate 8 (.int 0)),
  (1, 0, List.replicate 8 (.int 0)),
  (1, 0, List.replicate 8 (.int 0)),
  (1, 0, List.replicate 8 (.int 0)),
  (1, 0, List.replicate 8 (.int 0)),
  (1, 0, List.replicate 8 (.int 0)),
  (1, 0, List.replicate 4 (.int 0)),
  (0, 0, [.int 0, .int 0, .int 0, .int 0, .ref 122, .ref 123, .ref 124, .ref 125, .ref 126, .ref 127, .ref 128, .ref 129]),
  (1, 0, List.replicate 8 (.int 0)),
  (1, 0, List.replicate 8 (.int 0)),
  (1, 0, List.replicate 8 (.int 0)),
  (1, 0, List.replicate 8 (.int 0)),
  (1, 0, List.replicate 8 (.int 0)),
  (1, 0, List.replicate 8 (.int 0)),
  (1, 0, List.replicate 8 (.int 0)),
  (1, 0, List.replicate 4 (.int 0)),
  (0, 8, [.ref 131, .int 0, .int 0, .ref 132, .ref 133, .int 0, .int 0]),
  (1, 0, List.replicate 1392 (.int 0)),
  (1, 0, List.replicate 8 (.int 0)),
  (1, 0, List.replicate 128 (.int 0)),
  (0, 10, [.ref 135, .long 0, .int 0, .int 0]),
  (0, 0, [.int 0, .int 0, .int 0, .int 0, .ref 136, .ref 137, .ref 138, .ref 139, .ref 140, .ref 141, .ref 142, .ref 143]),
  (1, 0, List.replicate 8 (.int 0)),
  (1, 0, List.replicate 8 (.int 0)),
  (1, 0, List.replicate 8 (.int 0)),
  (1, 0, List.replicate 8 (.int 0)),
  (1, 0, List.replicate 8 (.int 0)),
  (1, 0, List.replicate 8 (.int 0)),
  (1, 0, List.replicate 8 (.int 0)),
  (1, 0, List.replicate 4 (.int 0)),
  (1, 3, List.replicate 7 (.int 0)),
  (1, 0, List.replicate 7 (.int 0))]
def ob_wM : pm_H := [(0, 12, [.ref 147, .int 0, .int 0, .ref 148, .ref 149, .ref 150, .ref 151, .ref 152, .int 0, .int 0, .int 0, .int 0, .int 0, .int 0, .int 0, .ref 153, .int 0, .ref 154, .int 0, .ref 155, .ref 156, .int (-1), .int 0, .ref 157, .ref 158, .ref 159, .int 0, .ref 160, .ref 161, .ref 162, .int 0, .ref 163, .ref 164, .int 0, .ref 165, .ref 166, .ref 167, .ref 168, .ref 169, .ref 170, .long 0, .int 0, .ref 171, .ref 172, .ref 173, .ref 174]),
  (1, 2, List.replicate 400 (.int 0)),
  (1, 0, List.replicate 2400 (.int 0)),
  (1, 0, List.replicate 7 (.int 0)),
  (1, 0, List.replicate 288 (.int 0)),
  (1, 0, List.replicate 6 (.int 0)),
  (1, 0, List.replicate 82 (.int 0)),
  (1, 0, List.replicate 400 (.int 0)),
  (1, 1, List.replicate 64 (.long 0)),
  (1, 1, List.replicate 11 (.long 0)),
  (1, 0, List.replicate 130 (.int 0)),
  (1, 0, List.replicate 8 (.int 0)),
  (1, 0, List.replicate 8 (.int 0)),
  (1, 0, List.replicate 900 (.int 0)),
  (1, 0, List.replicate 45 (.int 0)),
  (1, 0, List.replicate 9 (.int 0)),
  (1, 0, List.replicate 405 (.int 0)),
  (1, 0, List.replicate 8 (.int 0)),
  (1, 0, List.replicate 8 (.int 0)),
  (1, 0, List.replicate 8 (.int 0)),
  (1, 0, List.replicate 64 (.int 0)),
  (1, 0, List.replicate 128 (.int 0)),
  (1, 0, List.replicate 9 (.int 0)),
  (1, 3, List.replicate 7 (.int 0)),
  (1, 0, List.replicate 56 (.int 0)),
  (1, 0, List.replicate 520 (.int 0)),
  (1, 0, List.replicate 4 (.int 0)),
  (1, 0, List.replicate 4 (.int 0)),
  (1, 3, List.replicate 4 (.int 0))]
/-- the heap as both are made -/
def ob_w0 : pm_H := ob_wX ++ ob_wM
theorem ob_iX : pm_run 1500 1000 106 0 (lv_args 0 [.ref 0]) [] [(0, 11, pm_D.getD 11 [])] = some (none, ob_wX) := by decide +kernel
theorem ob_iM : pm_run 1500 1000 146 0 (lv_args 0 [.ref 146]) [] (ob_wX ++ [(0, 12, pm_D.getD 12 [])]) = some (none, ob_w0) := by decide +kernel
