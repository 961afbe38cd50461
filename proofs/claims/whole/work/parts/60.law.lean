/-! THE LAW: words of the skeleton; rows of the script; decode rows -/
def R_law : String := "UnlikeNeighboursLaw"
def lw_P (b : Addr) (xs : List Int32) (args : Array Value) (s : State) : Prop := args = #[.ref b] ∧ s.IntsAt b xs ∧ xs.length ≤ 2560 ∧ (Jvm.Cond.and given_1 narrow_1).before args s = true
def lw_Q (_ : Array Value) (s : State) (o : Outcome) (t : State) : Prop := o = .returned (some (.int 1)) ∧ Framed s o t [] 600000 7302250
def lw_Z (below : List Frame) (a : Array Value) (s : State) : State → Prop := fun t => ∃ o, t.status = .running ∧ Ended t below o ∧ lw_Q a s o t
/-- the law's own end, with 1 on the stack, nothing written that was there before, its room as the claim has it -/
theorem lw_ret {p : Program} {l : Launch} {e : Env} {s : State} {m : MethodId} {below : List Frame} {meth : Method} {c : Code} {b : Nat} (hx : p.tables.exec = Jvm.exec) (hb : c.code = code) (hr : meth.sig.returnType = ret) (hlocks : meth.locks = false) {pc : Nat} {H : Heap} {ls : Array Slot} (hdg : decode code pc = .ok (.ireturn, 1)) : W p l e room_1 s m #[Value.ref b] below meth c H [] 600000 7302250 (lw_Z below #[Value.ref b] s) (F0 m pc ls [.int 1]) := by
  intro T hT X
  obtain ⟨fs, hret, hrun, hended, hW, hframe⟩ := X.leave (v := some (.int 1)) (hlocks := hlocks) (fun h => by rw [hr] at h; cases h)
  have hmeth' : T.vm.method? m = some meth := X.method'
  refine ⟨T.setFrames fs, ?_, .returned (some (.int 1)), hrun, hended, rfl, ⟨_, rfl⟩, hW, hframe⟩
  jvm_step X.here [X.here.top, hx, hb, hdg, hmeth', hr, ret, narrow_b1]
  (try refine ⟨rfl, ?_⟩); (try refine ⟨rfl, ?_⟩)
  first | (intro acts; rw [hret _ acts rfl rfl rfl]) | rw [hret _ _ rfl rfl rfl]
  exact Steps.refl _
/-- what holds at the law's entry: the machine, the code, the tables' words (any of lw_tbl by 'hts w (by decide +kernel)'), the script of L ints xs at the cell b, what the Statement gives of the start (any of its parts by flat_of_before) -/
def lw_At (p : Program) (s : State) (m : MethodId) (meth : Method) (c : Code) (b L : Nat) (xs : Nat → Int32) : Prop :=
  p.tables.exec = Jvm.exec ∧ c.code = code ∧ meth.sig.returnType = ret ∧ c.maxLocals = 4 ∧ s.vm.findClass R_law = some m.cls ∧ (∀ w ∈ lw_tbl, w.before #[Value.ref b] s = true) ∧ va_X b L xs s s.heap ∧ b < s.heap.size ∧ meth.locks = false ∧ (Jvm.Cond.and given_1 narrow_1).before #[Value.ref b] s = true
def scok (L : Nat) (i : Int32) : Bool := decide (¬ (i < 0 ∨ L ≤ i.toNatClampNeg))
theorem k_slen {E : Ev} {own : String} {cc : ByteArray} {nL : Nat} {p : Program} {l : Launch} {e : Env} {Rm : Room} {s : State} {m : MethodId} {args : Array Value} {below : List Frame} {meth : Method} {c : Code} {cells slots : Nat} {Q : State → Prop} {pc : Nat} {Lc : List (Nat × Value)} {st : List Value} {S : Sh} {R : Rw} {I : Iw} {b L : Nat} {xs : Nat → Int32} (C : Cx E own cc nL p s m c) (hE : E.2.2.2.2.1 = s) (hX : va_X b L xs s s.heap) (hbl : b < E.1) (d : decode cc pc = .ok (.arraylength, 1)) (k : Wk E nL p l e Rm s m args below meth c cells slots Q (pc + 1) Lc (.int (nI L) :: st) S R I) : Wk E nL p l e Rm s m args below meth c cells slots Q (pc) Lc (.ref b :: st) S R I := by
  intro H locs ls hR hl hL
  obtain ⟨scr, h1, h2, h3, h4, h5⟩ := hX
  exact W.alen (n := nI L) C.1 C.2.1 (by rw [hR.2.1 b hbl, hE]; exact h1) h2 (by rw [h4]; rfl) rfl rfl d (k H locs ls hR hl hL)
theorem k_sld {E : Ev} {own : String} {cc : ByteArray} {nL : Nat} {p : Program} {l : Launch} {e : Env} {Rm : Room} {s : State} {m : MethodId} {args : Array Value} {below : List Frame} {meth : Method} {c : Code} {cells slots : Nat} {Q : State → Prop} {pc : Nat} {Lc : List (Nat × Value)} {st : List Value} {S : Sh} {R : Rw} {I : Iw} {b L : Nat} {xs : Nat → Int32} (C : Cx E own cc nL p s m c) (hE : E.2.2.2.2.1 = s) (hX : va_X b L xs s s.heap) (hbl : b < E.1) {i : Int32} (h : scok L i = true) (d : decode cc pc = .ok (.iaload, 1)) (k : Wk E nL p l e Rm s m args below meth c cells slots Q (pc + 1) Lc (.int (xs i.toNatClampNeg) :: st) S R I) : Wk E nL p l e Rm s m args below meth c cells slots Q (pc) Lc (.int i :: .ref b :: st) S R I := by
  intro H locs ls hR hl hL
  have hin : ¬ (i < 0 ∨ L ≤ i.toNatClampNeg) := of_decide_eq_true h
  obtain ⟨scr, h1, h2, h3, h4, h5⟩ := hX
  exact W.iald (v := .int (xs i.toNatClampNeg)) C.1 C.2.1 (by rw [hR.2.1 b hbl, hE]; exact h1) h2 h3 (by rw [h4]; exact hin) (h5 _ (Nat.not_le.mp fun q => hin (Or.inr q))) rfl rfl d (k H locs ls hR hl hL)
theorem k_lret {E : Ev} {nL : Nat} {p : Program} {l : Launch} {e : Env} {s : State} {m : MethodId} {below : List Frame} {meth : Method} {c : Code} {ce sl pc : Nat} {Lc : List (Nat × Value)} {S : Sh} {R : Rw} {I : Iw} {b : Nat} (C : Cx E RL code nL p s m c) (hE : E.2.2.2.2.1 = s) (hr : meth.sig.returnType = ret) (hk : meth.locks = false) (h1 : ce ≤ 600000) (h2 : sl ≤ 7302250) (d : decode code pc = .ok (.ireturn, 1)) : Wk E nL p l e room_1 s m #[Value.ref b] below meth c ce sl (lw_Z below #[Value.ref b] s) pc Lc [.int 1] S R I := by
  intro H locs ls hR hl hL
  have hz : E.1 = s.heap.size := by rw [← hE]; exact C.2.2.2.2.2.2.1
  refine W.widen (k := 600000) (n := 7302250) h1 h2 ?_
  have hf := W.forget (p := p) (l := l) (e := e) (R := room_1) (s := s) (m := m) (args := #[Value.ref b]) (below := below) (meth := meth) (c := c) (H := H) (locs := []) (cells := 600000) (slots := 7302250) (Q := lw_Z below #[Value.ref b] s) (L := locs) (g := F0 m pc ls [.int 1]) (fun q hq => by rw [← hz]; exact hl q hq) (lw_ret C.1 C.2.1 hr hk d)
  simpa using hf
theorem dL_law_0 : decode code 0 = .ok (.new 7, 3) := by decide +kernel
theorem dL_law_3 : decode code 3 = .ok (.dup, 1) := by decide +kernel
theorem dL_law_4 : decode code 4 = .ok (.invokespecial 9, 3) := by decide +kernel
theorem dL_law_7 : decode code 7 = .ok (.astore_n 1, 1) := by decide +kernel
theorem dL_law_8 : decode code 8 = .ok (.new 10, 3) := by decide +kernel
theorem dL_law_11 : decode code 11 = .ok (.dup, 1) := by decide +kernel
theorem dL_law_12 : decode code 12 = .ok (.invokespecial 12, 3) := by decide +kernel
theorem dL_law_15 : decode code 15 = .ok (.astore_n 2, 1) := by decide +kernel
theorem dL_law_16 : decode code 16 = .ok (.iconst 0, 1) := by decide +kernel
theorem dL_law_17 : decode code 17 = .ok (.istore_n 3, 1) := by decide +kernel
theorem dL_law_18 : decode code 18 = .ok (.iload_n 3, 1) := by decide +kernel
theorem dL_law_19 : decode code 19 = .ok (.aload_n 0, 1) := by decide +kernel
theorem dL_law_20 : decode code 20 = .ok (.arraylength, 1) := by decide +kernel
theorem dL_law_21 : decode code 21 = .ok (.iconst 5, 1) := by decide +kernel
theorem dL_law_22 : decode code 22 = .ok (.isub, 1) := by decide +kernel
theorem dL_law_23 : decode code 23 = .ok (.if_icmp .gt 1491, 3) := by decide +kernel
theorem dL_law_26 : decode code 26 = .ok (.aload_n 0, 1) := by decide +kernel
theorem dL_law_27 : decode code 27 = .ok (.iload_n 3, 1) := by decide +kernel
theorem dL_law_28 : decode code 28 = .ok (.iaload, 1) := by decide +kernel
theorem dL_law_29 : decode code 29 = .ok (.bipush 63, 2) := by decide +kernel
theorem dL_law_31 : decode code 31 = .ok (.iand, 1) := by decide +kernel
theorem dL_law_32 : decode code 32 = .ok (.tableswitch 1476 0 49 #[216, 269, 302, 345, 378, 411, 474, 487, 520, 543, 556, 569, 592, 605, 628, 641, 654, 677, 690, 713, 726, 749, 762, 775, 788, 801, 814, 827, 860, 873, 896, 909, 932, 945, 968, 981, 1014, 1057, 1070, 1113, 1156, 1199, 1242, 1285, 1328, 1361, 1404, 1427, 1450, 1463], 216) := by decide +kernel
theorem dL_law_248 : decode code 248 = .ok (.aload_n 1, 1) := by decide +kernel
theorem dL_law_249 : decode code 249 = .ok (.aload_n 0, 1) := by decide +kernel
theorem dL_law_250 : decode code 250 = .ok (.iload_n 3, 1) := by decide +kernel
theorem dL_law_251 : decode code 251 = .ok (.iconst 1, 1) := by decide +kernel
theorem dL_law_252 : decode code 252 = .ok (.iadd, 1) := by decide +kernel
theorem dL_law_253 : decode code 253 = .ok (.iaload, 1) := by decide +kernel
theorem dL_law_254 : decode code 254 = .ok (.aload_n 0, 1) := by decide +kernel
theorem dL_law_255 : decode code 255 = .ok (.iload_n 3, 1) := by decide +kernel
theorem dL_law_256 : decode code 256 = .ok (.iconst 2, 1) := by decide +kernel
theorem dL_law_257 : decode code 257 = .ok (.iadd, 1) := by decide +kernel
theorem dL_law_258 : decode code 258 = .ok (.iaload, 1) := by decide +kernel
theorem dL_law_259 : decode code 259 = .ok (.aload_n 0, 1) := by decide +kernel
theorem dL_law_260 : decode code 260 = .ok (.iload_n 3, 1) := by decide +kernel
theorem dL_law_261 : decode code 261 = .ok (.iconst 3, 1) := by decide +kernel
theorem dL_law_262 : decode code 262 = .ok (.iadd, 1) := by decide +kernel
theorem dL_law_263 : decode code 263 = .ok (.iaload, 1) := by decide +kernel
theorem dL_law_264 : decode code 264 = .ok (.aload_n 0, 1) := by decide +kernel
theorem dL_law_265 : decode code 265 = .ok (.iload_n 3, 1) := by decide +kernel
theorem dL_law_266 : decode code 266 = .ok (.iconst 4, 1) := by decide +kernel
theorem dL_law_267 : decode code 267 = .ok (.iadd, 1) := by decide +kernel
theorem dL_law_268 : decode code 268 = .ok (.iaload, 1) := by decide +kernel
theorem dL_law_269 : decode code 269 = .ok (.invokevirtual 13, 3) := by decide +kernel
theorem dL_law_272 : decode code 272 = .ok (.aload_n 2, 1) := by decide +kernel
theorem dL_law_273 : decode code 273 = .ok (.aload_n 0, 1) := by decide +kernel
theorem dL_law_274 : decode code 274 = .ok (.iload_n 3, 1) := by decide +kernel
theorem dL_law_275 : decode code 275 = .ok (.iconst 1, 1) := by decide +kernel
theorem dL_law_276 : decode code 276 = .ok (.iadd, 1) := by decide +kernel
theorem dL_law_277 : decode code 277 = .ok (.iaload, 1) := by decide +kernel
theorem dL_law_278 : decode code 278 = .ok (.aload_n 0, 1) := by decide +kernel
theorem dL_law_279 : decode code 279 = .ok (.iload_n 3, 1) := by decide +kernel
theorem dL_law_280 : decode code 280 = .ok (.iconst 2, 1) := by decide +kernel
theorem dL_law_281 : decode code 281 = .ok (.iadd, 1) := by decide +kernel
theorem dL_law_282 : decode code 282 = .ok (.iaload, 1) := by decide +kernel
theorem dL_law_283 : decode code 283 = .ok (.aload_n 0, 1) := by decide +kernel
theorem dL_law_284 : decode code 284 = .ok (.iload_n 3, 1) := by decide +kernel
theorem dL_law_285 : decode code 285 = .ok (.iconst 3, 1) := by decide +kernel
theorem dL_law_286 : decode code 286 = .ok (.iadd, 1) := by decide +kernel
theorem dL_law_287 : decode code 287 = .ok (.iaload, 1) := by decide +kernel
theorem dL_law_288 : decode code 288 = .ok (.aload_n 0, 1) := by decide +kernel
theorem dL_law_289 : decode code 289 = .ok (.iload_n 3, 1) := by decide +kernel
theorem dL_law_290 : decode code 290 = .ok (.iconst 4, 1) := by decide +kernel
theorem dL_law_291 : decode code 291 = .ok (.iadd, 1) := by decide +kernel
theorem dL_law_292 : decode code 292 = .ok (.iaload, 1) := by decide +kernel
theorem dL_law_293 : decode code 293 = .ok (.invokevirtual 17, 3) := by decide +kernel
theorem dL_law_296 : decode code 296 = .ok (.if_icmp .eq 1212, 3) := by decide +kernel
theorem dL_law_299 : decode code 299 = .ok (.iconst 0, 1) := by decide +kernel
theorem dL_law_300 : decode code 300 = .ok (.ireturn, 1) := by decide +kernel
theorem dL_law_301 : decode code 301 = .ok (.aload_n 1, 1) := by decide +kernel
theorem dL_law_302 : decode code 302 = .ok (.aload_n 0, 1) := by decide +kernel
theorem dL_law_303 : decode code 303 = .ok (.iload_n 3, 1) := by decide +kernel
theorem dL_law_304 : decode code 304 = .ok (.iconst 1, 1) := by decide +kernel
theorem dL_law_305 : decode code 305 = .ok (.iadd, 1) := by decide +kernel
theorem dL_law_306 : decode code 306 = .ok (.iaload, 1) := by decide +kernel
theorem dL_law_307 : decode code 307 = .ok (.aload_n 0, 1) := by decide +kernel
theorem dL_law_308 : decode code 308 = .ok (.iload_n 3, 1) := by decide +kernel
theorem dL_law_309 : decode code 309 = .ok (.iconst 2, 1) := by decide +kernel
theorem dL_law_310 : decode code 310 = .ok (.iadd, 1) := by decide +kernel
theorem dL_law_311 : decode code 311 = .ok (.iaload, 1) := by decide +kernel
theorem dL_law_312 : decode code 312 = .ok (.invokevirtual 18, 3) := by decide +kernel
theorem dL_law_315 : decode code 315 = .ok (.aload_n 2, 1) := by decide +kernel
theorem dL_law_316 : decode code 316 = .ok (.aload_n 0, 1) := by decide +kernel
theorem dL_law_317 : decode code 317 = .ok (.iload_n 3, 1) := by decide +kernel
theorem dL_law_318 : decode code 318 = .ok (.iconst 1, 1) := by decide +kernel
theorem dL_law_319 : decode code 319 = .ok (.iadd, 1) := by decide +kernel
theorem dL_law_320 : decode code 320 = .ok (.iaload, 1) := by decide +kernel
theorem dL_law_321 : decode code 321 = .ok (.aload_n 0, 1) := by decide +kernel
theorem dL_law_322 : decode code 322 = .ok (.iload_n 3, 1) := by decide +kernel
theorem dL_law_323 : decode code 323 = .ok (.iconst 2, 1) := by decide +kernel
theorem dL_law_324 : decode code 324 = .ok (.iadd, 1) := by decide +kernel
theorem dL_law_325 : decode code 325 = .ok (.iaload, 1) := by decide +kernel
theorem dL_law_326 : decode code 326 = .ok (.invokevirtual 22, 3) := by decide +kernel
theorem dL_law_329 : decode code 329 = .ok (.if_icmp .eq 1179, 3) := by decide +kernel
theorem dL_law_332 : decode code 332 = .ok (.iconst 0, 1) := by decide +kernel
theorem dL_law_333 : decode code 333 = .ok (.ireturn, 1) := by decide +kernel
theorem dL_law_334 : decode code 334 = .ok (.aload_n 1, 1) := by decide +kernel
theorem dL_law_335 : decode code 335 = .ok (.aload_n 0, 1) := by decide +kernel
theorem dL_law_336 : decode code 336 = .ok (.iload_n 3, 1) := by decide +kernel
theorem dL_law_337 : decode code 337 = .ok (.iconst 1, 1) := by decide +kernel
theorem dL_law_338 : decode code 338 = .ok (.iadd, 1) := by decide +kernel
theorem dL_law_339 : decode code 339 = .ok (.iaload, 1) := by decide +kernel
theorem dL_law_340 : decode code 340 = .ok (.aload_n 0, 1) := by decide +kernel
theorem dL_law_341 : decode code 341 = .ok (.iload_n 3, 1) := by decide +kernel
theorem dL_law_342 : decode code 342 = .ok (.iconst 2, 1) := by decide +kernel
theorem dL_law_343 : decode code 343 = .ok (.iadd, 1) := by decide +kernel
theorem dL_law_344 : decode code 344 = .ok (.iaload, 1) := by decide +kernel
theorem dL_law_345 : decode code 345 = .ok (.aload_n 0, 1) := by decide +kernel
theorem dL_law_346 : decode code 346 = .ok (.iload_n 3, 1) := by decide +kernel
theorem dL_law_347 : decode code 347 = .ok (.iconst 3, 1) := by decide +kernel
theorem dL_law_348 : decode code 348 = .ok (.iadd, 1) := by decide +kernel
theorem dL_law_349 : decode code 349 = .ok (.iaload, 1) := by decide +kernel
theorem dL_law_350 : decode code 350 = .ok (.invokevirtual 23, 3) := by decide +kernel
theorem dL_law_353 : decode code 353 = .ok (.aload_n 2, 1) := by decide +kernel
theorem dL_law_354 : decode code 354 = .ok (.aload_n 0, 1) := by decide +kernel
theorem dL_law_355 : decode code 355 = .ok (.iload_n 3, 1) := by decide +kernel
theorem dL_law_356 : decode code 356 = .ok (.iconst 1, 1) := by decide +kernel
theorem dL_law_357 : decode code 357 = .ok (.iadd, 1) := by decide +kernel
theorem dL_law_358 : decode code 358 = .ok (.iaload, 1) := by decide +kernel
theorem dL_law_359 : decode code 359 = .ok (.aload_n 0, 1) := by decide +kernel
theorem dL_law_360 : decode code 360 = .ok (.iload_n 3, 1) := by decide +kernel
theorem dL_law_361 : decode code 361 = .ok (.iconst 2, 1) := by decide +kernel
theorem dL_law_362 : decode code 362 = .ok (.iadd, 1) := by decide +kernel
theorem dL_law_363 : decode code 363 = .ok (.iaload, 1) := by decide +kernel
theorem dL_law_364 : decode code 364 = .ok (.aload_n 0, 1) := by decide +kernel
theorem dL_law_365 : decode code 365 = .ok (.iload_n 3, 1) := by decide +kernel
theorem dL_law_366 : decode code 366 = .ok (.iconst 3, 1) := by decide +kernel
theorem dL_law_367 : decode code 367 = .ok (.iadd, 1) := by decide +kernel
theorem dL_law_368 : decode code 368 = .ok (.iaload, 1) := by decide +kernel
theorem dL_law_369 : decode code 369 = .ok (.invokevirtual 27, 3) := by decide +kernel
theorem dL_law_372 : decode code 372 = .ok (.if_icmp .eq 1136, 3) := by decide +kernel
theorem dL_law_375 : decode code 375 = .ok (.iconst 0, 1) := by decide +kernel
theorem dL_law_376 : decode code 376 = .ok (.ireturn, 1) := by decide +kernel
theorem dL_law_377 : decode code 377 = .ok (.aload_n 1, 1) := by decide +kernel
theorem dL_law_378 : decode code 378 = .ok (.aload_n 0, 1) := by decide +kernel
theorem dL_law_379 : decode code 379 = .ok (.iload_n 3, 1) := by decide +kernel
theorem dL_law_380 : decode code 380 = .ok (.iconst 1, 1) := by decide +kernel
theorem dL_law_381 : decode code 381 = .ok (.iadd, 1) := by decide +kernel
theorem dL_law_382 : decode code 382 = .ok (.iaload, 1) := by decide +kernel
theorem dL_law_383 : decode code 383 = .ok (.aload_n 0, 1) := by decide +kernel
theorem dL_law_384 : decode code 384 = .ok (.iload_n 3, 1) := by decide +kernel
theorem dL_law_385 : decode code 385 = .ok (.iconst 2, 1) := by decide +kernel
theorem dL_law_386 : decode code 386 = .ok (.iadd, 1) := by decide +kernel
theorem dL_law_387 : decode code 387 = .ok (.iaload, 1) := by decide +kernel
theorem dL_law_388 : decode code 388 = .ok (.invokevirtual 28, 3) := by decide +kernel
theorem dL_law_391 : decode code 391 = .ok (.aload_n 2, 1) := by decide +kernel
theorem dL_law_392 : decode code 392 = .ok (.aload_n 0, 1) := by decide +kernel
theorem dL_law_393 : decode code 393 = .ok (.iload_n 3, 1) := by decide +kernel
theorem dL_law_394 : decode code 394 = .ok (.iconst 1, 1) := by decide +kernel
theorem dL_law_395 : decode code 395 = .ok (.iadd, 1) := by decide +kernel
theorem dL_law_396 : decode code 396 = .ok (.iaload, 1) := by decide +kernel
theorem dL_law_397 : decode code 397 = .ok (.aload_n 0, 1) := by decide +kernel
theorem dL_law_398 : decode code 398 = .ok (.iload_n 3, 1) := by decide +kernel
theorem dL_law_399 : decode code 399 = .ok (.iconst 2, 1) := by decide +kernel
theorem dL_law_400 : decode code 400 = .ok (.iadd, 1) := by decide +kernel
theorem dL_law_401 : decode code 401 = .ok (.iaload, 1) := by decide +kernel
theorem dL_law_402 : decode code 402 = .ok (.invokevirtual 31, 3) := by decide +kernel
theorem dL_law_405 : decode code 405 = .ok (.if_icmp .eq 1103, 3) := by decide +kernel
theorem dL_law_408 : decode code 408 = .ok (.iconst 0, 1) := by decide +kernel
theorem dL_law_409 : decode code 409 = .ok (.ireturn, 1) := by decide +kernel
theorem dL_law_410 : decode code 410 = .ok (.aload_n 1, 1) := by decide +kernel
theorem dL_law_411 : decode code 411 = .ok (.aload_n 0, 1) := by decide +kernel
theorem dL_law_412 : decode code 412 = .ok (.iload_n 3, 1) := by decide +kernel
theorem dL_law_413 : decode code 413 = .ok (.iconst 1, 1) := by decide +kernel
theorem dL_law_414 : decode code 414 = .ok (.iadd, 1) := by decide +kernel
theorem dL_law_415 : decode code 415 = .ok (.iaload, 1) := by decide +kernel
theorem dL_law_416 : decode code 416 = .ok (.aload_n 0, 1) := by decide +kernel
theorem dL_law_417 : decode code 417 = .ok (.iload_n 3, 1) := by decide +kernel
theorem dL_law_418 : decode code 418 = .ok (.iconst 2, 1) := by decide +kernel
theorem dL_law_419 : decode code 419 = .ok (.iadd, 1) := by decide +kernel
theorem dL_law_420 : decode code 420 = .ok (.iaload, 1) := by decide +kernel
theorem dL_law_421 : decode code 421 = .ok (.invokevirtual 32, 3) := by decide +kernel
theorem dL_law_424 : decode code 424 = .ok (.aload_n 2, 1) := by decide +kernel
theorem dL_law_425 : decode code 425 = .ok (.aload_n 0, 1) := by decide +kernel
theorem dL_law_426 : decode code 426 = .ok (.iload_n 3, 1) := by decide +kernel
theorem dL_law_427 : decode code 427 = .ok (.iconst 1, 1) := by decide +kernel
theorem dL_law_428 : decode code 428 = .ok (.iadd, 1) := by decide +kernel
theorem dL_law_429 : decode code 429 = .ok (.iaload, 1) := by decide +kernel
theorem dL_law_430 : decode code 430 = .ok (.aload_n 0, 1) := by decide +kernel
theorem dL_law_431 : decode code 431 = .ok (.iload_n 3, 1) := by decide +kernel
theorem dL_law_432 : decode code 432 = .ok (.iconst 2, 1) := by decide +kernel
theorem dL_law_433 : decode code 433 = .ok (.iadd, 1) := by decide +kernel
theorem dL_law_434 : decode code 434 = .ok (.iaload, 1) := by decide +kernel
theorem dL_law_435 : decode code 435 = .ok (.invokevirtual 35, 3) := by decide +kernel
theorem dL_law_438 : decode code 438 = .ok (.if_icmp .eq 1070, 3) := by decide +kernel
theorem dL_law_441 : decode code 441 = .ok (.iconst 0, 1) := by decide +kernel
theorem dL_law_442 : decode code 442 = .ok (.ireturn, 1) := by decide +kernel
theorem dL_law_443 : decode code 443 = .ok (.aload_n 1, 1) := by decide +kernel
theorem dL_law_444 : decode code 444 = .ok (.aload_n 0, 1) := by decide +kernel
theorem dL_law_445 : decode code 445 = .ok (.iload_n 3, 1) := by decide +kernel
theorem dL_law_446 : decode code 446 = .ok (.iconst 1, 1) := by decide +kernel
theorem dL_law_447 : decode code 447 = .ok (.iadd, 1) := by decide +kernel
theorem dL_law_448 : decode code 448 = .ok (.iaload, 1) := by decide +kernel
theorem dL_law_449 : decode code 449 = .ok (.i2l, 1) := by decide +kernel
theorem dL_law_450 : decode code 450 = .ok (.bipush 32, 2) := by decide +kernel
theorem dL_law_452 : decode code 452 = .ok (.lshl, 1) := by decide +kernel
theorem dL_law_453 : decode code 453 = .ok (.aload_n 0, 1) := by decide +kernel
theorem dL_law_454 : decode code 454 = .ok (.iload_n 3, 1) := by decide +kernel
theorem dL_law_455 : decode code 455 = .ok (.iconst 2, 1) := by decide +kernel
theorem dL_law_456 : decode code 456 = .ok (.iadd, 1) := by decide +kernel
theorem dL_law_457 : decode code 457 = .ok (.iaload, 1) := by decide +kernel
theorem dL_law_458 : decode code 458 = .ok (.i2l, 1) := by decide +kernel
theorem dL_law_459 : decode code 459 = .ok (.ldc2_w 36, 3) := by decide +kernel
theorem dL_law_462 : decode code 462 = .ok (.land, 1) := by decide +kernel
theorem dL_law_463 : decode code 463 = .ok (.lor, 1) := by decide +kernel
theorem dL_law_464 : decode code 464 = .ok (.aload_n 0, 1) := by decide +kernel
theorem dL_law_465 : decode code 465 = .ok (.iload_n 3, 1) := by decide +kernel
theorem dL_law_466 : decode code 466 = .ok (.iconst 3, 1) := by decide +kernel
theorem dL_law_467 : decode code 467 = .ok (.iadd, 1) := by decide +kernel
theorem dL_law_468 : decode code 468 = .ok (.iaload, 1) := by decide +kernel
theorem dL_law_469 : decode code 469 = .ok (.invokevirtual 38, 3) := by decide +kernel
theorem dL_law_472 : decode code 472 = .ok (.aload_n 2, 1) := by decide +kernel
theorem dL_law_473 : decode code 473 = .ok (.aload_n 0, 1) := by decide +kernel
theorem dL_law_474 : decode code 474 = .ok (.iload_n 3, 1) := by decide +kernel
theorem dL_law_475 : decode code 475 = .ok (.iconst 1, 1) := by decide +kernel
theorem dL_law_476 : decode code 476 = .ok (.iadd, 1) := by decide +kernel
theorem dL_law_477 : decode code 477 = .ok (.iaload, 1) := by decide +kernel
theorem dL_law_478 : decode code 478 = .ok (.i2l, 1) := by decide +kernel
theorem dL_law_479 : decode code 479 = .ok (.bipush 32, 2) := by decide +kernel
theorem dL_law_481 : decode code 481 = .ok (.lshl, 1) := by decide +kernel
theorem dL_law_482 : decode code 482 = .ok (.aload_n 0, 1) := by decide +kernel
theorem dL_law_483 : decode code 483 = .ok (.iload_n 3, 1) := by decide +kernel
theorem dL_law_484 : decode code 484 = .ok (.iconst 2, 1) := by decide +kernel
theorem dL_law_485 : decode code 485 = .ok (.iadd, 1) := by decide +kernel
theorem dL_law_486 : decode code 486 = .ok (.iaload, 1) := by decide +kernel
theorem dL_law_487 : decode code 487 = .ok (.i2l, 1) := by decide +kernel
theorem dL_law_488 : decode code 488 = .ok (.ldc2_w 36, 3) := by decide +kernel
theorem dL_law_491 : decode code 491 = .ok (.land, 1) := by decide +kernel
theorem dL_law_492 : decode code 492 = .ok (.lor, 1) := by decide +kernel
theorem dL_law_493 : decode code 493 = .ok (.aload_n 0, 1) := by decide +kernel
theorem dL_law_494 : decode code 494 = .ok (.iload_n 3, 1) := by decide +kernel
theorem dL_law_495 : decode code 495 = .ok (.iconst 3, 1) := by decide +kernel
theorem dL_law_496 : decode code 496 = .ok (.iadd, 1) := by decide +kernel
theorem dL_law_497 : decode code 497 = .ok (.iaload, 1) := by decide +kernel
theorem dL_law_498 : decode code 498 = .ok (.invokevirtual 42, 3) := by decide +kernel
theorem dL_law_501 : decode code 501 = .ok (.if_icmp .eq 1007, 3) := by decide +kernel
theorem dL_law_504 : decode code 504 = .ok (.iconst 0, 1) := by decide +kernel
theorem dL_law_505 : decode code 505 = .ok (.ireturn, 1) := by decide +kernel
theorem dL_law_506 : decode code 506 = .ok (.aload_n 1, 1) := by decide +kernel
theorem dL_law_507 : decode code 507 = .ok (.invokevirtual 43, 3) := by decide +kernel
theorem dL_law_510 : decode code 510 = .ok (.aload_n 2, 1) := by decide +kernel
theorem dL_law_511 : decode code 511 = .ok (.invokevirtual 47, 3) := by decide +kernel
theorem dL_law_514 : decode code 514 = .ok (.if_icmp .eq 994, 3) := by decide +kernel
theorem dL_law_517 : decode code 517 = .ok (.iconst 0, 1) := by decide +kernel
theorem dL_law_518 : decode code 518 = .ok (.ireturn, 1) := by decide +kernel
theorem dL_law_519 : decode code 519 = .ok (.aload_n 1, 1) := by decide +kernel
theorem dL_law_520 : decode code 520 = .ok (.aload_n 0, 1) := by decide +kernel
theorem dL_law_521 : decode code 521 = .ok (.iload_n 3, 1) := by decide +kernel
theorem dL_law_522 : decode code 522 = .ok (.iconst 1, 1) := by decide +kernel
theorem dL_law_523 : decode code 523 = .ok (.iadd, 1) := by decide +kernel
theorem dL_law_524 : decode code 524 = .ok (.iaload, 1) := by decide +kernel
theorem dL_law_525 : decode code 525 = .ok (.aload_n 0, 1) := by decide +kernel
theorem dL_law_526 : decode code 526 = .ok (.iload_n 3, 1) := by decide +kernel
theorem dL_law_527 : decode code 527 = .ok (.iconst 2, 1) := by decide +kernel
theorem dL_law_528 : decode code 528 = .ok (.iadd, 1) := by decide +kernel
theorem dL_law_529 : decode code 529 = .ok (.iaload, 1) := by decide +kernel
theorem dL_law_530 : decode code 530 = .ok (.invokevirtual 48, 3) := by decide +kernel
theorem dL_law_533 : decode code 533 = .ok (.aload_n 2, 1) := by decide +kernel
theorem dL_law_534 : decode code 534 = .ok (.aload_n 0, 1) := by decide +kernel
theorem dL_law_535 : decode code 535 = .ok (.iload_n 3, 1) := by decide +kernel
theorem dL_law_536 : decode code 536 = .ok (.iconst 1, 1) := by decide +kernel
theorem dL_law_537 : decode code 537 = .ok (.iadd, 1) := by decide +kernel
theorem dL_law_538 : decode code 538 = .ok (.iaload, 1) := by decide +kernel
theorem dL_law_539 : decode code 539 = .ok (.aload_n 0, 1) := by decide +kernel
theorem dL_law_540 : decode code 540 = .ok (.iload_n 3, 1) := by decide +kernel
theorem dL_law_541 : decode code 541 = .ok (.iconst 2, 1) := by decide +kernel
theorem dL_law_542 : decode code 542 = .ok (.iadd, 1) := by decide +kernel
theorem dL_law_543 : decode code 543 = .ok (.iaload, 1) := by decide +kernel
theorem dL_law_544 : decode code 544 = .ok (.invokevirtual 51, 3) := by decide +kernel
theorem dL_law_547 : decode code 547 = .ok (.if_icmp .eq 961, 3) := by decide +kernel
theorem dL_law_550 : decode code 550 = .ok (.iconst 0, 1) := by decide +kernel
theorem dL_law_551 : decode code 551 = .ok (.ireturn, 1) := by decide +kernel
theorem dL_law_552 : decode code 552 = .ok (.aload_n 1, 1) := by decide +kernel
theorem dL_law_553 : decode code 553 = .ok (.aload_n 0, 1) := by decide +kernel
theorem dL_law_554 : decode code 554 = .ok (.iload_n 3, 1) := by decide +kernel
theorem dL_law_555 : decode code 555 = .ok (.iconst 1, 1) := by decide +kernel
theorem dL_law_556 : decode code 556 = .ok (.iadd, 1) := by decide +kernel
theorem dL_law_557 : decode code 557 = .ok (.iaload, 1) := by decide +kernel
theorem dL_law_558 : decode code 558 = .ok (.invokevirtual 52, 3) := by decide +kernel
theorem dL_law_561 : decode code 561 = .ok (.aload_n 2, 1) := by decide +kernel
theorem dL_law_562 : decode code 562 = .ok (.aload_n 0, 1) := by decide +kernel
theorem dL_law_563 : decode code 563 = .ok (.iload_n 3, 1) := by decide +kernel
theorem dL_law_564 : decode code 564 = .ok (.iconst 1, 1) := by decide +kernel
theorem dL_law_565 : decode code 565 = .ok (.iadd, 1) := by decide +kernel
theorem dL_law_566 : decode code 566 = .ok (.iaload, 1) := by decide +kernel
theorem dL_law_567 : decode code 567 = .ok (.invokevirtual 56, 3) := by decide +kernel
theorem dL_law_570 : decode code 570 = .ok (.if_icmp .eq 938, 3) := by decide +kernel
theorem dL_law_573 : decode code 573 = .ok (.iconst 0, 1) := by decide +kernel
theorem dL_law_574 : decode code 574 = .ok (.ireturn, 1) := by decide +kernel
theorem dL_law_575 : decode code 575 = .ok (.aload_n 1, 1) := by decide +kernel
theorem dL_law_576 : decode code 576 = .ok (.invokevirtual 57, 3) := by decide +kernel
theorem dL_law_579 : decode code 579 = .ok (.aload_n 2, 1) := by decide +kernel
theorem dL_law_580 : decode code 580 = .ok (.invokevirtual 60, 3) := by decide +kernel
theorem dL_law_583 : decode code 583 = .ok (.if_icmp .eq 925, 3) := by decide +kernel
theorem dL_law_586 : decode code 586 = .ok (.iconst 0, 1) := by decide +kernel
theorem dL_law_587 : decode code 587 = .ok (.ireturn, 1) := by decide +kernel
theorem dL_law_588 : decode code 588 = .ok (.aload_n 1, 1) := by decide +kernel
theorem dL_law_589 : decode code 589 = .ok (.invokevirtual 61, 3) := by decide +kernel
theorem dL_law_592 : decode code 592 = .ok (.aload_n 2, 1) := by decide +kernel
theorem dL_law_593 : decode code 593 = .ok (.invokevirtual 64, 3) := by decide +kernel
theorem dL_law_596 : decode code 596 = .ok (.if_icmp .eq 912, 3) := by decide +kernel
theorem dL_law_599 : decode code 599 = .ok (.iconst 0, 1) := by decide +kernel
theorem dL_law_600 : decode code 600 = .ok (.ireturn, 1) := by decide +kernel
theorem dL_law_601 : decode code 601 = .ok (.aload_n 1, 1) := by decide +kernel
theorem dL_law_602 : decode code 602 = .ok (.aload_n 0, 1) := by decide +kernel
theorem dL_law_603 : decode code 603 = .ok (.iload_n 3, 1) := by decide +kernel
theorem dL_law_604 : decode code 604 = .ok (.iconst 1, 1) := by decide +kernel
theorem dL_law_605 : decode code 605 = .ok (.iadd, 1) := by decide +kernel
theorem dL_law_606 : decode code 606 = .ok (.iaload, 1) := by decide +kernel
theorem dL_law_607 : decode code 607 = .ok (.invokevirtual 65, 3) := by decide +kernel
theorem dL_law_610 : decode code 610 = .ok (.aload_n 2, 1) := by decide +kernel
theorem dL_law_611 : decode code 611 = .ok (.aload_n 0, 1) := by decide +kernel
theorem dL_law_612 : decode code 612 = .ok (.iload_n 3, 1) := by decide +kernel
theorem dL_law_613 : decode code 613 = .ok (.iconst 1, 1) := by decide +kernel
theorem dL_law_614 : decode code 614 = .ok (.iadd, 1) := by decide +kernel
theorem dL_law_615 : decode code 615 = .ok (.iaload, 1) := by decide +kernel
theorem dL_law_616 : decode code 616 = .ok (.invokevirtual 68, 3) := by decide +kernel
theorem dL_law_619 : decode code 619 = .ok (.if_icmp .eq 889, 3) := by decide +kernel
theorem dL_law_622 : decode code 622 = .ok (.iconst 0, 1) := by decide +kernel
theorem dL_law_623 : decode code 623 = .ok (.ireturn, 1) := by decide +kernel
theorem dL_law_624 : decode code 624 = .ok (.aload_n 1, 1) := by decide +kernel
theorem dL_law_625 : decode code 625 = .ok (.invokevirtual 69, 3) := by decide +kernel
theorem dL_law_628 : decode code 628 = .ok (.aload_n 2, 1) := by decide +kernel
theorem dL_law_629 : decode code 629 = .ok (.invokevirtual 72, 3) := by decide +kernel
theorem dL_law_632 : decode code 632 = .ok (.if_icmp .eq 876, 3) := by decide +kernel
theorem dL_law_635 : decode code 635 = .ok (.iconst 0, 1) := by decide +kernel
theorem dL_law_636 : decode code 636 = .ok (.ireturn, 1) := by decide +kernel
theorem dL_law_637 : decode code 637 = .ok (.aload_n 1, 1) := by decide +kernel
theorem dL_law_638 : decode code 638 = .ok (.aload_n 0, 1) := by decide +kernel
theorem dL_law_639 : decode code 639 = .ok (.iload_n 3, 1) := by decide +kernel
theorem dL_law_640 : decode code 640 = .ok (.iconst 1, 1) := by decide +kernel
theorem dL_law_641 : decode code 641 = .ok (.iadd, 1) := by decide +kernel
theorem dL_law_642 : decode code 642 = .ok (.iaload, 1) := by decide +kernel
theorem dL_law_643 : decode code 643 = .ok (.invokevirtual 73, 3) := by decide +kernel
theorem dL_law_646 : decode code 646 = .ok (.aload_n 2, 1) := by decide +kernel
theorem dL_law_647 : decode code 647 = .ok (.aload_n 0, 1) := by decide +kernel
theorem dL_law_648 : decode code 648 = .ok (.iload_n 3, 1) := by decide +kernel
theorem dL_law_649 : decode code 649 = .ok (.iconst 1, 1) := by decide +kernel
theorem dL_law_650 : decode code 650 = .ok (.iadd, 1) := by decide +kernel
theorem dL_law_651 : decode code 651 = .ok (.iaload, 1) := by decide +kernel
theorem dL_law_652 : decode code 652 = .ok (.invokevirtual 76, 3) := by decide +kernel
theorem dL_law_655 : decode code 655 = .ok (.if_icmp .eq 853, 3) := by decide +kernel
theorem dL_law_658 : decode code 658 = .ok (.iconst 0, 1) := by decide +kernel
theorem dL_law_659 : decode code 659 = .ok (.ireturn, 1) := by decide +kernel
theorem dL_law_660 : decode code 660 = .ok (.aload_n 1, 1) := by decide +kernel
theorem dL_law_661 : decode code 661 = .ok (.invokevirtual 77, 3) := by decide +kernel
theorem dL_law_664 : decode code 664 = .ok (.aload_n 2, 1) := by decide +kernel
theorem dL_law_665 : decode code 665 = .ok (.invokevirtual 80, 3) := by decide +kernel
theorem dL_law_668 : decode code 668 = .ok (.if_icmp .eq 840, 3) := by decide +kernel
theorem dL_law_671 : decode code 671 = .ok (.iconst 0, 1) := by decide +kernel
theorem dL_law_672 : decode code 672 = .ok (.ireturn, 1) := by decide +kernel
theorem dL_law_673 : decode code 673 = .ok (.aload_n 1, 1) := by decide +kernel
theorem dL_law_674 : decode code 674 = .ok (.invokevirtual 81, 3) := by decide +kernel
theorem dL_law_677 : decode code 677 = .ok (.aload_n 2, 1) := by decide +kernel
theorem dL_law_678 : decode code 678 = .ok (.invokevirtual 84, 3) := by decide +kernel
theorem dL_law_681 : decode code 681 = .ok (.if_icmp .eq 827, 3) := by decide +kernel
theorem dL_law_684 : decode code 684 = .ok (.iconst 0, 1) := by decide +kernel
theorem dL_law_685 : decode code 685 = .ok (.ireturn, 1) := by decide +kernel
theorem dL_law_686 : decode code 686 = .ok (.aload_n 1, 1) := by decide +kernel
theorem dL_law_687 : decode code 687 = .ok (.aload_n 0, 1) := by decide +kernel
theorem dL_law_688 : decode code 688 = .ok (.iload_n 3, 1) := by decide +kernel
theorem dL_law_689 : decode code 689 = .ok (.iconst 1, 1) := by decide +kernel
theorem dL_law_690 : decode code 690 = .ok (.iadd, 1) := by decide +kernel
theorem dL_law_691 : decode code 691 = .ok (.iaload, 1) := by decide +kernel
theorem dL_law_692 : decode code 692 = .ok (.invokevirtual 85, 3) := by decide +kernel
theorem dL_law_695 : decode code 695 = .ok (.aload_n 2, 1) := by decide +kernel
theorem dL_law_696 : decode code 696 = .ok (.aload_n 0, 1) := by decide +kernel
theorem dL_law_697 : decode code 697 = .ok (.iload_n 3, 1) := by decide +kernel
theorem dL_law_698 : decode code 698 = .ok (.iconst 1, 1) := by decide +kernel
theorem dL_law_699 : decode code 699 = .ok (.iadd, 1) := by decide +kernel
theorem dL_law_700 : decode code 700 = .ok (.iaload, 1) := by decide +kernel
theorem dL_law_701 : decode code 701 = .ok (.invokevirtual 88, 3) := by decide +kernel
theorem dL_law_704 : decode code 704 = .ok (.if_icmp .eq 804, 3) := by decide +kernel
theorem dL_law_707 : decode code 707 = .ok (.iconst 0, 1) := by decide +kernel
theorem dL_law_708 : decode code 708 = .ok (.ireturn, 1) := by decide +kernel
theorem dL_law_709 : decode code 709 = .ok (.aload_n 1, 1) := by decide +kernel
theorem dL_law_710 : decode code 710 = .ok (.invokevirtual 89, 3) := by decide +kernel
theorem dL_law_713 : decode code 713 = .ok (.aload_n 2, 1) := by decide +kernel
theorem dL_law_714 : decode code 714 = .ok (.invokevirtual 92, 3) := by decide +kernel
theorem dL_law_717 : decode code 717 = .ok (.if_icmp .eq 791, 3) := by decide +kernel
theorem dL_law_720 : decode code 720 = .ok (.iconst 0, 1) := by decide +kernel
theorem dL_law_721 : decode code 721 = .ok (.ireturn, 1) := by decide +kernel
theorem dL_law_722 : decode code 722 = .ok (.aload_n 1, 1) := by decide +kernel
theorem dL_law_723 : decode code 723 = .ok (.aload_n 0, 1) := by decide +kernel
theorem dL_law_724 : decode code 724 = .ok (.iload_n 3, 1) := by decide +kernel
theorem dL_law_725 : decode code 725 = .ok (.iconst 1, 1) := by decide +kernel
theorem dL_law_726 : decode code 726 = .ok (.iadd, 1) := by decide +kernel
theorem dL_law_727 : decode code 727 = .ok (.iaload, 1) := by decide +kernel
theorem dL_law_728 : decode code 728 = .ok (.invokevirtual 93, 3) := by decide +kernel
theorem dL_law_731 : decode code 731 = .ok (.aload_n 2, 1) := by decide +kernel
theorem dL_law_732 : decode code 732 = .ok (.aload_n 0, 1) := by decide +kernel
theorem dL_law_733 : decode code 733 = .ok (.iload_n 3, 1) := by decide +kernel
theorem dL_law_734 : decode code 734 = .ok (.iconst 1, 1) := by decide +kernel
theorem dL_law_735 : decode code 735 = .ok (.iadd, 1) := by decide +kernel
theorem dL_law_736 : decode code 736 = .ok (.iaload, 1) := by decide +kernel
theorem dL_law_737 : decode code 737 = .ok (.invokevirtual 96, 3) := by decide +kernel
theorem dL_law_740 : decode code 740 = .ok (.if_icmp .eq 768, 3) := by decide +kernel
theorem dL_law_743 : decode code 743 = .ok (.iconst 0, 1) := by decide +kernel
theorem dL_law_744 : decode code 744 = .ok (.ireturn, 1) := by decide +kernel
theorem dL_law_745 : decode code 745 = .ok (.aload_n 1, 1) := by decide +kernel
theorem dL_law_746 : decode code 746 = .ok (.invokevirtual 97, 3) := by decide +kernel
theorem dL_law_749 : decode code 749 = .ok (.aload_n 2, 1) := by decide +kernel
theorem dL_law_750 : decode code 750 = .ok (.invokevirtual 100, 3) := by decide +kernel
theorem dL_law_753 : decode code 753 = .ok (.if_icmp .eq 755, 3) := by decide +kernel
theorem dL_law_756 : decode code 756 = .ok (.iconst 0, 1) := by decide +kernel
theorem dL_law_757 : decode code 757 = .ok (.ireturn, 1) := by decide +kernel
theorem dL_law_758 : decode code 758 = .ok (.aload_n 1, 1) := by decide +kernel
theorem dL_law_759 : decode code 759 = .ok (.aload_n 0, 1) := by decide +kernel
theorem dL_law_760 : decode code 760 = .ok (.iload_n 3, 1) := by decide +kernel
theorem dL_law_761 : decode code 761 = .ok (.iconst 1, 1) := by decide +kernel
theorem dL_law_762 : decode code 762 = .ok (.iadd, 1) := by decide +kernel
theorem dL_law_763 : decode code 763 = .ok (.iaload, 1) := by decide +kernel
theorem dL_law_764 : decode code 764 = .ok (.invokevirtual 101, 3) := by decide +kernel
theorem dL_law_767 : decode code 767 = .ok (.aload_n 2, 1) := by decide +kernel
theorem dL_law_768 : decode code 768 = .ok (.aload_n 0, 1) := by decide +kernel
theorem dL_law_769 : decode code 769 = .ok (.iload_n 3, 1) := by decide +kernel
theorem dL_law_770 : decode code 770 = .ok (.iconst 1, 1) := by decide +kernel
theorem dL_law_771 : decode code 771 = .ok (.iadd, 1) := by decide +kernel
theorem dL_law_772 : decode code 772 = .ok (.iaload, 1) := by decide +kernel
theorem dL_law_773 : decode code 773 = .ok (.invokevirtual 104, 3) := by decide +kernel
theorem dL_law_776 : decode code 776 = .ok (.if_icmp .eq 732, 3) := by decide +kernel
theorem dL_law_779 : decode code 779 = .ok (.iconst 0, 1) := by decide +kernel
theorem dL_law_780 : decode code 780 = .ok (.ireturn, 1) := by decide +kernel
theorem dL_law_781 : decode code 781 = .ok (.aload_n 1, 1) := by decide +kernel
theorem dL_law_782 : decode code 782 = .ok (.invokevirtual 105, 3) := by decide +kernel
theorem dL_law_785 : decode code 785 = .ok (.aload_n 2, 1) := by decide +kernel
theorem dL_law_786 : decode code 786 = .ok (.invokevirtual 108, 3) := by decide +kernel
theorem dL_law_789 : decode code 789 = .ok (.if_icmp .eq 719, 3) := by decide +kernel
theorem dL_law_792 : decode code 792 = .ok (.iconst 0, 1) := by decide +kernel
theorem dL_law_793 : decode code 793 = .ok (.ireturn, 1) := by decide +kernel
theorem dL_law_794 : decode code 794 = .ok (.aload_n 1, 1) := by decide +kernel
theorem dL_law_795 : decode code 795 = .ok (.invokevirtual 109, 3) := by decide +kernel
theorem dL_law_798 : decode code 798 = .ok (.aload_n 2, 1) := by decide +kernel
theorem dL_law_799 : decode code 799 = .ok (.invokevirtual 112, 3) := by decide +kernel
theorem dL_law_802 : decode code 802 = .ok (.if_icmp .eq 706, 3) := by decide +kernel
theorem dL_law_805 : decode code 805 = .ok (.iconst 0, 1) := by decide +kernel
theorem dL_law_806 : decode code 806 = .ok (.ireturn, 1) := by decide +kernel
theorem dL_law_807 : decode code 807 = .ok (.aload_n 1, 1) := by decide +kernel
theorem dL_law_808 : decode code 808 = .ok (.invokevirtual 113, 3) := by decide +kernel
theorem dL_law_811 : decode code 811 = .ok (.aload_n 2, 1) := by decide +kernel
theorem dL_law_812 : decode code 812 = .ok (.invokevirtual 116, 3) := by decide +kernel
theorem dL_law_815 : decode code 815 = .ok (.if_icmp .eq 693, 3) := by decide +kernel
theorem dL_law_818 : decode code 818 = .ok (.iconst 0, 1) := by decide +kernel
theorem dL_law_819 : decode code 819 = .ok (.ireturn, 1) := by decide +kernel
theorem dL_law_820 : decode code 820 = .ok (.aload_n 1, 1) := by decide +kernel
theorem dL_law_821 : decode code 821 = .ok (.invokevirtual 117, 3) := by decide +kernel
theorem dL_law_824 : decode code 824 = .ok (.aload_n 2, 1) := by decide +kernel
theorem dL_law_825 : decode code 825 = .ok (.invokevirtual 120, 3) := by decide +kernel
theorem dL_law_828 : decode code 828 = .ok (.if_icmp .eq 680, 3) := by decide +kernel
theorem dL_law_831 : decode code 831 = .ok (.iconst 0, 1) := by decide +kernel
theorem dL_law_832 : decode code 832 = .ok (.ireturn, 1) := by decide +kernel
theorem dL_law_833 : decode code 833 = .ok (.aload_n 1, 1) := by decide +kernel
theorem dL_law_834 : decode code 834 = .ok (.invokevirtual 121, 3) := by decide +kernel
theorem dL_law_837 : decode code 837 = .ok (.aload_n 2, 1) := by decide +kernel
theorem dL_law_838 : decode code 838 = .ok (.invokevirtual 124, 3) := by decide +kernel
theorem dL_law_841 : decode code 841 = .ok (.if_icmp .eq 667, 3) := by decide +kernel
theorem dL_law_844 : decode code 844 = .ok (.iconst 0, 1) := by decide +kernel
theorem dL_law_845 : decode code 845 = .ok (.ireturn, 1) := by decide +kernel
theorem dL_law_846 : decode code 846 = .ok (.aload_n 1, 1) := by decide +kernel
theorem dL_law_847 : decode code 847 = .ok (.invokevirtual 125, 3) := by decide +kernel
theorem dL_law_850 : decode code 850 = .ok (.aload_n 2, 1) := by decide +kernel
theorem dL_law_851 : decode code 851 = .ok (.invokevirtual 128, 3) := by decide +kernel
theorem dL_law_854 : decode code 854 = .ok (.if_icmp .eq 654, 3) := by decide +kernel
theorem dL_law_857 : decode code 857 = .ok (.iconst 0, 1) := by decide +kernel
theorem dL_law_858 : decode code 858 = .ok (.ireturn, 1) := by decide +kernel
theorem dL_law_859 : decode code 859 = .ok (.aload_n 1, 1) := by decide +kernel
theorem dL_law_860 : decode code 860 = .ok (.aload_n 0, 1) := by decide +kernel
theorem dL_law_861 : decode code 861 = .ok (.iload_n 3, 1) := by decide +kernel
theorem dL_law_862 : decode code 862 = .ok (.iconst 1, 1) := by decide +kernel
theorem dL_law_863 : decode code 863 = .ok (.iadd, 1) := by decide +kernel
theorem dL_law_864 : decode code 864 = .ok (.iaload, 1) := by decide +kernel
theorem dL_law_865 : decode code 865 = .ok (.aload_n 0, 1) := by decide +kernel
theorem dL_law_866 : decode code 866 = .ok (.iload_n 3, 1) := by decide +kernel
theorem dL_law_867 : decode code 867 = .ok (.iconst 2, 1) := by decide +kernel
theorem dL_law_868 : decode code 868 = .ok (.iadd, 1) := by decide +kernel
theorem dL_law_869 : decode code 869 = .ok (.iaload, 1) := by decide +kernel
theorem dL_law_870 : decode code 870 = .ok (.invokevirtual 129, 3) := by decide +kernel
theorem dL_law_873 : decode code 873 = .ok (.aload_n 2, 1) := by decide +kernel
theorem dL_law_874 : decode code 874 = .ok (.aload_n 0, 1) := by decide +kernel
theorem dL_law_875 : decode code 875 = .ok (.iload_n 3, 1) := by decide +kernel
theorem dL_law_876 : decode code 876 = .ok (.iconst 1, 1) := by decide +kernel
theorem dL_law_877 : decode code 877 = .ok (.iadd, 1) := by decide +kernel
theorem dL_law_878 : decode code 878 = .ok (.iaload, 1) := by decide +kernel
theorem dL_law_879 : decode code 879 = .ok (.aload_n 0, 1) := by decide +kernel
theorem dL_law_880 : decode code 880 = .ok (.iload_n 3, 1) := by decide +kernel
theorem dL_law_881 : decode code 881 = .ok (.iconst 2, 1) := by decide +kernel
theorem dL_law_882 : decode code 882 = .ok (.iadd, 1) := by decide +kernel
theorem dL_law_883 : decode code 883 = .ok (.iaload, 1) := by decide +kernel
theorem dL_law_884 : decode code 884 = .ok (.invokevirtual 132, 3) := by decide +kernel
theorem dL_law_887 : decode code 887 = .ok (.if_icmp .eq 621, 3) := by decide +kernel
theorem dL_law_890 : decode code 890 = .ok (.iconst 0, 1) := by decide +kernel
theorem dL_law_891 : decode code 891 = .ok (.ireturn, 1) := by decide +kernel
theorem dL_law_892 : decode code 892 = .ok (.aload_n 1, 1) := by decide +kernel
theorem dL_law_893 : decode code 893 = .ok (.invokevirtual 133, 3) := by decide +kernel
theorem dL_law_896 : decode code 896 = .ok (.aload_n 2, 1) := by decide +kernel
theorem dL_law_897 : decode code 897 = .ok (.invokevirtual 136, 3) := by decide +kernel
theorem dL_law_900 : decode code 900 = .ok (.if_icmp .eq 608, 3) := by decide +kernel
theorem dL_law_903 : decode code 903 = .ok (.iconst 0, 1) := by decide +kernel
theorem dL_law_904 : decode code 904 = .ok (.ireturn, 1) := by decide +kernel
theorem dL_law_905 : decode code 905 = .ok (.aload_n 1, 1) := by decide +kernel
theorem dL_law_906 : decode code 906 = .ok (.aload_n 0, 1) := by decide +kernel
theorem dL_law_907 : decode code 907 = .ok (.iload_n 3, 1) := by decide +kernel
theorem dL_law_908 : decode code 908 = .ok (.iconst 1, 1) := by decide +kernel
theorem dL_law_909 : decode code 909 = .ok (.iadd, 1) := by decide +kernel
theorem dL_law_910 : decode code 910 = .ok (.iaload, 1) := by decide +kernel
theorem dL_law_911 : decode code 911 = .ok (.invokevirtual 137, 3) := by decide +kernel
theorem dL_law_914 : decode code 914 = .ok (.aload_n 2, 1) := by decide +kernel
theorem dL_law_915 : decode code 915 = .ok (.aload_n 0, 1) := by decide +kernel
theorem dL_law_916 : decode code 916 = .ok (.iload_n 3, 1) := by decide +kernel
theorem dL_law_917 : decode code 917 = .ok (.iconst 1, 1) := by decide +kernel
theorem dL_law_918 : decode code 918 = .ok (.iadd, 1) := by decide +kernel
theorem dL_law_919 : decode code 919 = .ok (.iaload, 1) := by decide +kernel
theorem dL_law_920 : decode code 920 = .ok (.invokevirtual 140, 3) := by decide +kernel
theorem dL_law_923 : decode code 923 = .ok (.if_icmp .eq 585, 3) := by decide +kernel
theorem dL_law_926 : decode code 926 = .ok (.iconst 0, 1) := by decide +kernel
theorem dL_law_927 : decode code 927 = .ok (.ireturn, 1) := by decide +kernel
theorem dL_law_928 : decode code 928 = .ok (.aload_n 1, 1) := by decide +kernel
theorem dL_law_929 : decode code 929 = .ok (.invokevirtual 141, 3) := by decide +kernel
theorem dL_law_932 : decode code 932 = .ok (.aload_n 2, 1) := by decide +kernel
theorem dL_law_933 : decode code 933 = .ok (.invokevirtual 144, 3) := by decide +kernel
theorem dL_law_936 : decode code 936 = .ok (.if_icmp .eq 572, 3) := by decide +kernel
theorem dL_law_939 : decode code 939 = .ok (.iconst 0, 1) := by decide +kernel
theorem dL_law_940 : decode code 940 = .ok (.ireturn, 1) := by decide +kernel
theorem dL_law_941 : decode code 941 = .ok (.aload_n 1, 1) := by decide +kernel
theorem dL_law_942 : decode code 942 = .ok (.aload_n 0, 1) := by decide +kernel
theorem dL_law_943 : decode code 943 = .ok (.iload_n 3, 1) := by decide +kernel
theorem dL_law_944 : decode code 944 = .ok (.iconst 1, 1) := by decide +kernel
theorem dL_law_945 : decode code 945 = .ok (.iadd, 1) := by decide +kernel
theorem dL_law_946 : decode code 946 = .ok (.iaload, 1) := by decide +kernel
theorem dL_law_947 : decode code 947 = .ok (.invokevirtual 145, 3) := by decide +kernel
theorem dL_law_950 : decode code 950 = .ok (.aload_n 2, 1) := by decide +kernel
theorem dL_law_951 : decode code 951 = .ok (.aload_n 0, 1) := by decide +kernel
theorem dL_law_952 : decode code 952 = .ok (.iload_n 3, 1) := by decide +kernel
theorem dL_law_953 : decode code 953 = .ok (.iconst 1, 1) := by decide +kernel
theorem dL_law_954 : decode code 954 = .ok (.iadd, 1) := by decide +kernel
theorem dL_law_955 : decode code 955 = .ok (.iaload, 1) := by decide +kernel
theorem dL_law_956 : decode code 956 = .ok (.invokevirtual 148, 3) := by decide +kernel
theorem dL_law_959 : decode code 959 = .ok (.if_icmp .eq 549, 3) := by decide +kernel
theorem dL_law_962 : decode code 962 = .ok (.iconst 0, 1) := by decide +kernel
theorem dL_law_963 : decode code 963 = .ok (.ireturn, 1) := by decide +kernel
theorem dL_law_964 : decode code 964 = .ok (.aload_n 1, 1) := by decide +kernel
theorem dL_law_965 : decode code 965 = .ok (.invokevirtual 149, 3) := by decide +kernel
theorem dL_law_968 : decode code 968 = .ok (.aload_n 2, 1) := by decide +kernel
theorem dL_law_969 : decode code 969 = .ok (.invokevirtual 152, 3) := by decide +kernel
theorem dL_law_972 : decode code 972 = .ok (.if_icmp .eq 536, 3) := by decide +kernel
theorem dL_law_975 : decode code 975 = .ok (.iconst 0, 1) := by decide +kernel
theorem dL_law_976 : decode code 976 = .ok (.ireturn, 1) := by decide +kernel
theorem dL_law_977 : decode code 977 = .ok (.aload_n 1, 1) := by decide +kernel
theorem dL_law_978 : decode code 978 = .ok (.aload_n 0, 1) := by decide +kernel
theorem dL_law_979 : decode code 979 = .ok (.iload_n 3, 1) := by decide +kernel
theorem dL_law_980 : decode code 980 = .ok (.iconst 1, 1) := by decide +kernel
theorem dL_law_981 : decode code 981 = .ok (.iadd, 1) := by decide +kernel
theorem dL_law_982 : decode code 982 = .ok (.iaload, 1) := by decide +kernel
theorem dL_law_983 : decode code 983 = .ok (.invokevirtual 153, 3) := by decide +kernel
theorem dL_law_986 : decode code 986 = .ok (.aload_n 2, 1) := by decide +kernel
theorem dL_law_987 : decode code 987 = .ok (.aload_n 0, 1) := by decide +kernel
theorem dL_law_988 : decode code 988 = .ok (.iload_n 3, 1) := by decide +kernel
theorem dL_law_989 : decode code 989 = .ok (.iconst 1, 1) := by decide +kernel
theorem dL_law_990 : decode code 990 = .ok (.iadd, 1) := by decide +kernel
theorem dL_law_991 : decode code 991 = .ok (.iaload, 1) := by decide +kernel
theorem dL_law_992 : decode code 992 = .ok (.invokevirtual 156, 3) := by decide +kernel
theorem dL_law_995 : decode code 995 = .ok (.if_icmp .eq 513, 3) := by decide +kernel
theorem dL_law_998 : decode code 998 = .ok (.iconst 0, 1) := by decide +kernel
theorem dL_law_999 : decode code 999 = .ok (.ireturn, 1) := by decide +kernel
theorem dL_law_1000 : decode code 1000 = .ok (.aload_n 1, 1) := by decide +kernel
theorem dL_law_1001 : decode code 1001 = .ok (.invokevirtual 157, 3) := by decide +kernel
theorem dL_law_1004 : decode code 1004 = .ok (.aload_n 2, 1) := by decide +kernel
theorem dL_law_1005 : decode code 1005 = .ok (.invokevirtual 160, 3) := by decide +kernel
theorem dL_law_1008 : decode code 1008 = .ok (.if_icmp .eq 500, 3) := by decide +kernel
theorem dL_law_1011 : decode code 1011 = .ok (.iconst 0, 1) := by decide +kernel
theorem dL_law_1012 : decode code 1012 = .ok (.ireturn, 1) := by decide +kernel
theorem dL_law_1013 : decode code 1013 = .ok (.aload_n 1, 1) := by decide +kernel
theorem dL_law_1014 : decode code 1014 = .ok (.aload_n 0, 1) := by decide +kernel
theorem dL_law_1015 : decode code 1015 = .ok (.iload_n 3, 1) := by decide +kernel
theorem dL_law_1016 : decode code 1016 = .ok (.iconst 1, 1) := by decide +kernel
theorem dL_law_1017 : decode code 1017 = .ok (.iadd, 1) := by decide +kernel
theorem dL_law_1018 : decode code 1018 = .ok (.iaload, 1) := by decide +kernel
theorem dL_law_1019 : decode code 1019 = .ok (.aload_n 0, 1) := by decide +kernel
theorem dL_law_1020 : decode code 1020 = .ok (.iload_n 3, 1) := by decide +kernel
theorem dL_law_1021 : decode code 1021 = .ok (.iconst 2, 1) := by decide +kernel
theorem dL_law_1022 : decode code 1022 = .ok (.iadd, 1) := by decide +kernel
theorem dL_law_1023 : decode code 1023 = .ok (.iaload, 1) := by decide +kernel
theorem dL_law_1024 : decode code 1024 = .ok (.invokevirtual 161, 3) := by decide +kernel
theorem dL_law_1027 : decode code 1027 = .ok (.aload_n 2, 1) := by decide +kernel
theorem dL_law_1028 : decode code 1028 = .ok (.aload_n 0, 1) := by decide +kernel
theorem dL_law_1029 : decode code 1029 = .ok (.iload_n 3, 1) := by decide +kernel
theorem dL_law_1030 : decode code 1030 = .ok (.iconst 1, 1) := by decide +kernel
theorem dL_law_1031 : decode code 1031 = .ok (.iadd, 1) := by decide +kernel
theorem dL_law_1032 : decode code 1032 = .ok (.iaload, 1) := by decide +kernel
theorem dL_law_1033 : decode code 1033 = .ok (.aload_n 0, 1) := by decide +kernel
theorem dL_law_1034 : decode code 1034 = .ok (.iload_n 3, 1) := by decide +kernel
theorem dL_law_1035 : decode code 1035 = .ok (.iconst 2, 1) := by decide +kernel
theorem dL_law_1036 : decode code 1036 = .ok (.iadd, 1) := by decide +kernel
theorem dL_law_1037 : decode code 1037 = .ok (.iaload, 1) := by decide +kernel
theorem dL_law_1038 : decode code 1038 = .ok (.invokevirtual 164, 3) := by decide +kernel
theorem dL_law_1041 : decode code 1041 = .ok (.if_icmp .eq 467, 3) := by decide +kernel
theorem dL_law_1044 : decode code 1044 = .ok (.iconst 0, 1) := by decide +kernel
theorem dL_law_1045 : decode code 1045 = .ok (.ireturn, 1) := by decide +kernel
theorem dL_law_1046 : decode code 1046 = .ok (.aload_n 1, 1) := by decide +kernel
theorem dL_law_1047 : decode code 1047 = .ok (.aload_n 0, 1) := by decide +kernel
theorem dL_law_1048 : decode code 1048 = .ok (.iload_n 3, 1) := by decide +kernel
theorem dL_law_1049 : decode code 1049 = .ok (.iconst 1, 1) := by decide +kernel
theorem dL_law_1050 : decode code 1050 = .ok (.iadd, 1) := by decide +kernel
theorem dL_law_1051 : decode code 1051 = .ok (.iaload, 1) := by decide +kernel
theorem dL_law_1052 : decode code 1052 = .ok (.aload_n 0, 1) := by decide +kernel
theorem dL_law_1053 : decode code 1053 = .ok (.iload_n 3, 1) := by decide +kernel
theorem dL_law_1054 : decode code 1054 = .ok (.iconst 2, 1) := by decide +kernel
theorem dL_law_1055 : decode code 1055 = .ok (.iadd, 1) := by decide +kernel
theorem dL_law_1056 : decode code 1056 = .ok (.iaload, 1) := by decide +kernel
theorem dL_law_1057 : decode code 1057 = .ok (.aload_n 0, 1) := by decide +kernel
theorem dL_law_1058 : decode code 1058 = .ok (.iload_n 3, 1) := by decide +kernel
theorem dL_law_1059 : decode code 1059 = .ok (.iconst 3, 1) := by decide +kernel
theorem dL_law_1060 : decode code 1060 = .ok (.iadd, 1) := by decide +kernel
theorem dL_law_1061 : decode code 1061 = .ok (.iaload, 1) := by decide +kernel
theorem dL_law_1062 : decode code 1062 = .ok (.invokevirtual 165, 3) := by decide +kernel
theorem dL_law_1065 : decode code 1065 = .ok (.aload_n 2, 1) := by decide +kernel
theorem dL_law_1066 : decode code 1066 = .ok (.aload_n 0, 1) := by decide +kernel
theorem dL_law_1067 : decode code 1067 = .ok (.iload_n 3, 1) := by decide +kernel
theorem dL_law_1068 : decode code 1068 = .ok (.iconst 1, 1) := by decide +kernel
theorem dL_law_1069 : decode code 1069 = .ok (.iadd, 1) := by decide +kernel
theorem dL_law_1070 : decode code 1070 = .ok (.iaload, 1) := by decide +kernel
theorem dL_law_1071 : decode code 1071 = .ok (.aload_n 0, 1) := by decide +kernel
theorem dL_law_1072 : decode code 1072 = .ok (.iload_n 3, 1) := by decide +kernel
theorem dL_law_1073 : decode code 1073 = .ok (.iconst 2, 1) := by decide +kernel
theorem dL_law_1074 : decode code 1074 = .ok (.iadd, 1) := by decide +kernel
theorem dL_law_1075 : decode code 1075 = .ok (.iaload, 1) := by decide +kernel
theorem dL_law_1076 : decode code 1076 = .ok (.aload_n 0, 1) := by decide +kernel
theorem dL_law_1077 : decode code 1077 = .ok (.iload_n 3, 1) := by decide +kernel
theorem dL_law_1078 : decode code 1078 = .ok (.iconst 3, 1) := by decide +kernel
theorem dL_law_1079 : decode code 1079 = .ok (.iadd, 1) := by decide +kernel
theorem dL_law_1080 : decode code 1080 = .ok (.iaload, 1) := by decide +kernel
theorem dL_law_1081 : decode code 1081 = .ok (.invokevirtual 168, 3) := by decide +kernel
theorem dL_law_1084 : decode code 1084 = .ok (.if_icmp .eq 424, 3) := by decide +kernel
theorem dL_law_1087 : decode code 1087 = .ok (.iconst 0, 1) := by decide +kernel
theorem dL_law_1088 : decode code 1088 = .ok (.ireturn, 1) := by decide +kernel
theorem dL_law_1089 : decode code 1089 = .ok (.aload_n 1, 1) := by decide +kernel
theorem dL_law_1090 : decode code 1090 = .ok (.invokevirtual 169, 3) := by decide +kernel
theorem dL_law_1093 : decode code 1093 = .ok (.aload_n 2, 1) := by decide +kernel
theorem dL_law_1094 : decode code 1094 = .ok (.invokevirtual 172, 3) := by decide +kernel
theorem dL_law_1097 : decode code 1097 = .ok (.if_icmp .eq 411, 3) := by decide +kernel
theorem dL_law_1100 : decode code 1100 = .ok (.iconst 0, 1) := by decide +kernel
theorem dL_law_1101 : decode code 1101 = .ok (.ireturn, 1) := by decide +kernel
theorem dL_law_1102 : decode code 1102 = .ok (.aload_n 1, 1) := by decide +kernel
theorem dL_law_1103 : decode code 1103 = .ok (.aload_n 0, 1) := by decide +kernel
theorem dL_law_1104 : decode code 1104 = .ok (.iload_n 3, 1) := by decide +kernel
theorem dL_law_1105 : decode code 1105 = .ok (.iconst 1, 1) := by decide +kernel
theorem dL_law_1106 : decode code 1106 = .ok (.iadd, 1) := by decide +kernel
theorem dL_law_1107 : decode code 1107 = .ok (.iaload, 1) := by decide +kernel
theorem dL_law_1108 : decode code 1108 = .ok (.aload_n 0, 1) := by decide +kernel
theorem dL_law_1109 : decode code 1109 = .ok (.iload_n 3, 1) := by decide +kernel
theorem dL_law_1110 : decode code 1110 = .ok (.iconst 2, 1) := by decide +kernel
theorem dL_law_1111 : decode code 1111 = .ok (.iadd, 1) := by decide +kernel
theorem dL_law_1112 : decode code 1112 = .ok (.iaload, 1) := by decide +kernel
theorem dL_law_1113 : decode code 1113 = .ok (.aload_n 0, 1) := by decide +kernel
theorem dL_law_1114 : decode code 1114 = .ok (.iload_n 3, 1) := by decide +kernel
theorem dL_law_1115 : decode code 1115 = .ok (.iconst 3, 1) := by decide +kernel
theorem dL_law_1116 : decode code 1116 = .ok (.iadd, 1) := by decide +kernel
theorem dL_law_1117 : decode code 1117 = .ok (.iaload, 1) := by decide +kernel
theorem dL_law_1118 : decode code 1118 = .ok (.invokevirtual 173, 3) := by decide +kernel
theorem dL_law_1121 : decode code 1121 = .ok (.aload_n 2, 1) := by decide +kernel
theorem dL_law_1122 : decode code 1122 = .ok (.aload_n 0, 1) := by decide +kernel
theorem dL_law_1123 : decode code 1123 = .ok (.iload_n 3, 1) := by decide +kernel
theorem dL_law_1124 : decode code 1124 = .ok (.iconst 1, 1) := by decide +kernel
theorem dL_law_1125 : decode code 1125 = .ok (.iadd, 1) := by decide +kernel
theorem dL_law_1126 : decode code 1126 = .ok (.iaload, 1) := by decide +kernel
theorem dL_law_1127 : decode code 1127 = .ok (.aload_n 0, 1) := by decide +kernel
theorem dL_law_1128 : decode code 1128 = .ok (.iload_n 3, 1) := by decide +kernel
theorem dL_law_1129 : decode code 1129 = .ok (.iconst 2, 1) := by decide +kernel
theorem dL_law_1130 : decode code 1130 = .ok (.iadd, 1) := by decide +kernel
theorem dL_law_1131 : decode code 1131 = .ok (.iaload, 1) := by decide +kernel
theorem dL_law_1132 : decode code 1132 = .ok (.aload_n 0, 1) := by decide +kernel
theorem dL_law_1133 : decode code 1133 = .ok (.iload_n 3, 1) := by decide +kernel
theorem dL_law_1134 : decode code 1134 = .ok (.iconst 3, 1) := by decide +kernel
theorem dL_law_1135 : decode code 1135 = .ok (.iadd, 1) := by decide +kernel
theorem dL_law_1136 : decode code 1136 = .ok (.iaload, 1) := by decide +kernel
theorem dL_law_1137 : decode code 1137 = .ok (.invokevirtual 176, 3) := by decide +kernel
theorem dL_law_1140 : decode code 1140 = .ok (.if_icmp .eq 368, 3) := by decide +kernel
theorem dL_law_1143 : decode code 1143 = .ok (.iconst 0, 1) := by decide +kernel
theorem dL_law_1144 : decode code 1144 = .ok (.ireturn, 1) := by decide +kernel
theorem dL_law_1145 : decode code 1145 = .ok (.aload_n 1, 1) := by decide +kernel
theorem dL_law_1146 : decode code 1146 = .ok (.aload_n 0, 1) := by decide +kernel
theorem dL_law_1147 : decode code 1147 = .ok (.iload_n 3, 1) := by decide +kernel
theorem dL_law_1148 : decode code 1148 = .ok (.iconst 1, 1) := by decide +kernel
theorem dL_law_1149 : decode code 1149 = .ok (.iadd, 1) := by decide +kernel
theorem dL_law_1150 : decode code 1150 = .ok (.iaload, 1) := by decide +kernel
theorem dL_law_1151 : decode code 1151 = .ok (.aload_n 0, 1) := by decide +kernel
theorem dL_law_1152 : decode code 1152 = .ok (.iload_n 3, 1) := by decide +kernel
theorem dL_law_1153 : decode code 1153 = .ok (.iconst 2, 1) := by decide +kernel
theorem dL_law_1154 : decode code 1154 = .ok (.iadd, 1) := by decide +kernel
theorem dL_law_1155 : decode code 1155 = .ok (.iaload, 1) := by decide +kernel
theorem dL_law_1156 : decode code 1156 = .ok (.aload_n 0, 1) := by decide +kernel
theorem dL_law_1157 : decode code 1157 = .ok (.iload_n 3, 1) := by decide +kernel
theorem dL_law_1158 : decode code 1158 = .ok (.iconst 3, 1) := by decide +kernel
theorem dL_law_1159 : decode code 1159 = .ok (.iadd, 1) := by decide +kernel
theorem dL_law_1160 : decode code 1160 = .ok (.iaload, 1) := by decide +kernel
theorem dL_law_1161 : decode code 1161 = .ok (.invokevirtual 177, 3) := by decide +kernel
theorem dL_law_1164 : decode code 1164 = .ok (.aload_n 2, 1) := by decide +kernel
theorem dL_law_1165 : decode code 1165 = .ok (.aload_n 0, 1) := by decide +kernel
theorem dL_law_1166 : decode code 1166 = .ok (.iload_n 3, 1) := by decide +kernel
theorem dL_law_1167 : decode code 1167 = .ok (.iconst 1, 1) := by decide +kernel
theorem dL_law_1168 : decode code 1168 = .ok (.iadd, 1) := by decide +kernel
theorem dL_law_1169 : decode code 1169 = .ok (.iaload, 1) := by decide +kernel
theorem dL_law_1170 : decode code 1170 = .ok (.aload_n 0, 1) := by decide +kernel
theorem dL_law_1171 : decode code 1171 = .ok (.iload_n 3, 1) := by decide +kernel
theorem dL_law_1172 : decode code 1172 = .ok (.iconst 2, 1) := by decide +kernel
theorem dL_law_1173 : decode code 1173 = .ok (.iadd, 1) := by decide +kernel
theorem dL_law_1174 : decode code 1174 = .ok (.iaload, 1) := by decide +kernel
theorem dL_law_1175 : decode code 1175 = .ok (.aload_n 0, 1) := by decide +kernel
theorem dL_law_1176 : decode code 1176 = .ok (.iload_n 3, 1) := by decide +kernel
theorem dL_law_1177 : decode code 1177 = .ok (.iconst 3, 1) := by decide +kernel
theorem dL_law_1178 : decode code 1178 = .ok (.iadd, 1) := by decide +kernel
theorem dL_law_1179 : decode code 1179 = .ok (.iaload, 1) := by decide +kernel
theorem dL_law_1180 : decode code 1180 = .ok (.invokevirtual 180, 3) := by decide +kernel
theorem dL_law_1183 : decode code 1183 = .ok (.if_icmp .eq 325, 3) := by decide +kernel
theorem dL_law_1186 : decode code 1186 = .ok (.iconst 0, 1) := by decide +kernel
theorem dL_law_1187 : decode code 1187 = .ok (.ireturn, 1) := by decide +kernel
theorem dL_law_1188 : decode code 1188 = .ok (.aload_n 1, 1) := by decide +kernel
theorem dL_law_1189 : decode code 1189 = .ok (.aload_n 0, 1) := by decide +kernel
theorem dL_law_1190 : decode code 1190 = .ok (.iload_n 3, 1) := by decide +kernel
theorem dL_law_1191 : decode code 1191 = .ok (.iconst 1, 1) := by decide +kernel
theorem dL_law_1192 : decode code 1192 = .ok (.iadd, 1) := by decide +kernel
theorem dL_law_1193 : decode code 1193 = .ok (.iaload, 1) := by decide +kernel
theorem dL_law_1194 : decode code 1194 = .ok (.aload_n 0, 1) := by decide +kernel
theorem dL_law_1195 : decode code 1195 = .ok (.iload_n 3, 1) := by decide +kernel
theorem dL_law_1196 : decode code 1196 = .ok (.iconst 2, 1) := by decide +kernel
theorem dL_law_1197 : decode code 1197 = .ok (.iadd, 1) := by decide +kernel
theorem dL_law_1198 : decode code 1198 = .ok (.iaload, 1) := by decide +kernel
theorem dL_law_1199 : decode code 1199 = .ok (.aload_n 0, 1) := by decide +kernel
theorem dL_law_1200 : decode code 1200 = .ok (.iload_n 3, 1) := by decide +kernel
theorem dL_law_1201 : decode code 1201 = .ok (.iconst 3, 1) := by decide +kernel
theorem dL_law_1202 : decode code 1202 = .ok (.iadd, 1) := by decide +kernel
theorem dL_law_1203 : decode code 1203 = .ok (.iaload, 1) := by decide +kernel
theorem dL_law_1204 : decode code 1204 = .ok (.invokevirtual 181, 3) := by decide +kernel
theorem dL_law_1207 : decode code 1207 = .ok (.aload_n 2, 1) := by decide +kernel
theorem dL_law_1208 : decode code 1208 = .ok (.aload_n 0, 1) := by decide +kernel
theorem dL_law_1209 : decode code 1209 = .ok (.iload_n 3, 1) := by decide +kernel
theorem dL_law_1210 : decode code 1210 = .ok (.iconst 1, 1) := by decide +kernel
theorem dL_law_1211 : decode code 1211 = .ok (.iadd, 1) := by decide +kernel
theorem dL_law_1212 : decode code 1212 = .ok (.iaload, 1) := by decide +kernel
theorem dL_law_1213 : decode code 1213 = .ok (.aload_n 0, 1) := by decide +kernel
theorem dL_law_1214 : decode code 1214 = .ok (.iload_n 3, 1) := by decide +kernel
theorem dL_law_1215 : decode code 1215 = .ok (.iconst 2, 1) := by decide +kernel
theorem dL_law_1216 : decode code 1216 = .ok (.iadd, 1) := by decide +kernel
theorem dL_law_1217 : decode code 1217 = .ok (.iaload, 1) := by decide +kernel
theorem dL_law_1218 : decode code 1218 = .ok (.aload_n 0, 1) := by decide +kernel
theorem dL_law_1219 : decode code 1219 = .ok (.iload_n 3, 1) := by decide +kernel
theorem dL_law_1220 : decode code 1220 = .ok (.iconst 3, 1) := by decide +kernel
theorem dL_law_1221 : decode code 1221 = .ok (.iadd, 1) := by decide +kernel
theorem dL_law_1222 : decode code 1222 = .ok (.iaload, 1) := by decide +kernel
theorem dL_law_1223 : decode code 1223 = .ok (.invokevirtual 184, 3) := by decide +kernel
theorem dL_law_1226 : decode code 1226 = .ok (.if_icmp .eq 282, 3) := by decide +kernel
theorem dL_law_1229 : decode code 1229 = .ok (.iconst 0, 1) := by decide +kernel
theorem dL_law_1230 : decode code 1230 = .ok (.ireturn, 1) := by decide +kernel
theorem dL_law_1231 : decode code 1231 = .ok (.aload_n 1, 1) := by decide +kernel
theorem dL_law_1232 : decode code 1232 = .ok (.aload_n 0, 1) := by decide +kernel
theorem dL_law_1233 : decode code 1233 = .ok (.iload_n 3, 1) := by decide +kernel
theorem dL_law_1234 : decode code 1234 = .ok (.iconst 1, 1) := by decide +kernel
theorem dL_law_1235 : decode code 1235 = .ok (.iadd, 1) := by decide +kernel
theorem dL_law_1236 : decode code 1236 = .ok (.iaload, 1) := by decide +kernel
theorem dL_law_1237 : decode code 1237 = .ok (.aload_n 0, 1) := by decide +kernel
theorem dL_law_1238 : decode code 1238 = .ok (.iload_n 3, 1) := by decide +kernel
theorem dL_law_1239 : decode code 1239 = .ok (.iconst 2, 1) := by decide +kernel
theorem dL_law_1240 : decode code 1240 = .ok (.iadd, 1) := by decide +kernel
theorem dL_law_1241 : decode code 1241 = .ok (.iaload, 1) := by decide +kernel
theorem dL_law_1242 : decode code 1242 = .ok (.aload_n 0, 1) := by decide +kernel
theorem dL_law_1243 : decode code 1243 = .ok (.iload_n 3, 1) := by decide +kernel
theorem dL_law_1244 : decode code 1244 = .ok (.iconst 3, 1) := by decide +kernel
theorem dL_law_1245 : decode code 1245 = .ok (.iadd, 1) := by decide +kernel
theorem dL_law_1246 : decode code 1246 = .ok (.iaload, 1) := by decide +kernel
theorem dL_law_1247 : decode code 1247 = .ok (.invokevirtual 185, 3) := by decide +kernel
theorem dL_law_1250 : decode code 1250 = .ok (.aload_n 2, 1) := by decide +kernel
theorem dL_law_1251 : decode code 1251 = .ok (.aload_n 0, 1) := by decide +kernel
theorem dL_law_1252 : decode code 1252 = .ok (.iload_n 3, 1) := by decide +kernel
theorem dL_law_1253 : decode code 1253 = .ok (.iconst 1, 1) := by decide +kernel
theorem dL_law_1254 : decode code 1254 = .ok (.iadd, 1) := by decide +kernel
theorem dL_law_1255 : decode code 1255 = .ok (.iaload, 1) := by decide +kernel
theorem dL_law_1256 : decode code 1256 = .ok (.aload_n 0, 1) := by decide +kernel
theorem dL_law_1257 : decode code 1257 = .ok (.iload_n 3, 1) := by decide +kernel
theorem dL_law_1258 : decode code 1258 = .ok (.iconst 2, 1) := by decide +kernel
theorem dL_law_1259 : decode code 1259 = .ok (.iadd, 1) := by decide +kernel
theorem dL_law_1260 : decode code 1260 = .ok (.iaload, 1) := by decide +kernel
theorem dL_law_1261 : decode code 1261 = .ok (.aload_n 0, 1) := by decide +kernel
theorem dL_law_1262 : decode code 1262 = .ok (.iload_n 3, 1) := by decide +kernel
theorem dL_law_1263 : decode code 1263 = .ok (.iconst 3, 1) := by decide +kernel
theorem dL_law_1264 : decode code 1264 = .ok (.iadd, 1) := by decide +kernel
theorem dL_law_1265 : decode code 1265 = .ok (.iaload, 1) := by decide +kernel
theorem dL_law_1266 : decode code 1266 = .ok (.invokevirtual 188, 3) := by decide +kernel
theorem dL_law_1269 : decode code 1269 = .ok (.if_icmp .eq 239, 3) := by decide +kernel
theorem dL_law_1272 : decode code 1272 = .ok (.iconst 0, 1) := by decide +kernel
theorem dL_law_1273 : decode code 1273 = .ok (.ireturn, 1) := by decide +kernel
theorem dL_law_1274 : decode code 1274 = .ok (.aload_n 1, 1) := by decide +kernel
theorem dL_law_1275 : decode code 1275 = .ok (.aload_n 0, 1) := by decide +kernel
theorem dL_law_1276 : decode code 1276 = .ok (.iload_n 3, 1) := by decide +kernel
theorem dL_law_1277 : decode code 1277 = .ok (.iconst 1, 1) := by decide +kernel
theorem dL_law_1278 : decode code 1278 = .ok (.iadd, 1) := by decide +kernel
theorem dL_law_1279 : decode code 1279 = .ok (.iaload, 1) := by decide +kernel
theorem dL_law_1280 : decode code 1280 = .ok (.aload_n 0, 1) := by decide +kernel
theorem dL_law_1281 : decode code 1281 = .ok (.iload_n 3, 1) := by decide +kernel
theorem dL_law_1282 : decode code 1282 = .ok (.iconst 2, 1) := by decide +kernel
theorem dL_law_1283 : decode code 1283 = .ok (.iadd, 1) := by decide +kernel
theorem dL_law_1284 : decode code 1284 = .ok (.iaload, 1) := by decide +kernel
theorem dL_law_1285 : decode code 1285 = .ok (.aload_n 0, 1) := by decide +kernel
theorem dL_law_1286 : decode code 1286 = .ok (.iload_n 3, 1) := by decide +kernel
theorem dL_law_1287 : decode code 1287 = .ok (.iconst 3, 1) := by decide +kernel
theorem dL_law_1288 : decode code 1288 = .ok (.iadd, 1) := by decide +kernel
theorem dL_law_1289 : decode code 1289 = .ok (.iaload, 1) := by decide +kernel
theorem dL_law_1290 : decode code 1290 = .ok (.invokevirtual 189, 3) := by decide +kernel
theorem dL_law_1293 : decode code 1293 = .ok (.aload_n 2, 1) := by decide +kernel
theorem dL_law_1294 : decode code 1294 = .ok (.aload_n 0, 1) := by decide +kernel
theorem dL_law_1295 : decode code 1295 = .ok (.iload_n 3, 1) := by decide +kernel
theorem dL_law_1296 : decode code 1296 = .ok (.iconst 1, 1) := by decide +kernel
theorem dL_law_1297 : decode code 1297 = .ok (.iadd, 1) := by decide +kernel
theorem dL_law_1298 : decode code 1298 = .ok (.iaload, 1) := by decide +kernel
theorem dL_law_1299 : decode code 1299 = .ok (.aload_n 0, 1) := by decide +kernel
theorem dL_law_1300 : decode code 1300 = .ok (.iload_n 3, 1) := by decide +kernel
theorem dL_law_1301 : decode code 1301 = .ok (.iconst 2, 1) := by decide +kernel
theorem dL_law_1302 : decode code 1302 = .ok (.iadd, 1) := by decide +kernel
theorem dL_law_1303 : decode code 1303 = .ok (.iaload, 1) := by decide +kernel
theorem dL_law_1304 : decode code 1304 = .ok (.aload_n 0, 1) := by decide +kernel
theorem dL_law_1305 : decode code 1305 = .ok (.iload_n 3, 1) := by decide +kernel
theorem dL_law_1306 : decode code 1306 = .ok (.iconst 3, 1) := by decide +kernel
theorem dL_law_1307 : decode code 1307 = .ok (.iadd, 1) := by decide +kernel
theorem dL_law_1308 : decode code 1308 = .ok (.iaload, 1) := by decide +kernel
theorem dL_law_1309 : decode code 1309 = .ok (.invokevirtual 192, 3) := by decide +kernel
theorem dL_law_1312 : decode code 1312 = .ok (.if_icmp .eq 196, 3) := by decide +kernel
theorem dL_law_1315 : decode code 1315 = .ok (.iconst 0, 1) := by decide +kernel
theorem dL_law_1316 : decode code 1316 = .ok (.ireturn, 1) := by decide +kernel
theorem dL_law_1317 : decode code 1317 = .ok (.aload_n 1, 1) := by decide +kernel
theorem dL_law_1318 : decode code 1318 = .ok (.aload_n 0, 1) := by decide +kernel
theorem dL_law_1319 : decode code 1319 = .ok (.iload_n 3, 1) := by decide +kernel
theorem dL_law_1320 : decode code 1320 = .ok (.iconst 1, 1) := by decide +kernel
theorem dL_law_1321 : decode code 1321 = .ok (.iadd, 1) := by decide +kernel
theorem dL_law_1322 : decode code 1322 = .ok (.iaload, 1) := by decide +kernel
theorem dL_law_1323 : decode code 1323 = .ok (.aload_n 0, 1) := by decide +kernel
theorem dL_law_1324 : decode code 1324 = .ok (.iload_n 3, 1) := by decide +kernel
theorem dL_law_1325 : decode code 1325 = .ok (.iconst 2, 1) := by decide +kernel
theorem dL_law_1326 : decode code 1326 = .ok (.iadd, 1) := by decide +kernel
theorem dL_law_1327 : decode code 1327 = .ok (.iaload, 1) := by decide +kernel
theorem dL_law_1328 : decode code 1328 = .ok (.aload_n 0, 1) := by decide +kernel
theorem dL_law_1329 : decode code 1329 = .ok (.iload_n 3, 1) := by decide +kernel
theorem dL_law_1330 : decode code 1330 = .ok (.iconst 3, 1) := by decide +kernel
theorem dL_law_1331 : decode code 1331 = .ok (.iadd, 1) := by decide +kernel
theorem dL_law_1332 : decode code 1332 = .ok (.iaload, 1) := by decide +kernel
theorem dL_law_1333 : decode code 1333 = .ok (.invokevirtual 193, 3) := by decide +kernel
theorem dL_law_1336 : decode code 1336 = .ok (.aload_n 2, 1) := by decide +kernel
theorem dL_law_1337 : decode code 1337 = .ok (.aload_n 0, 1) := by decide +kernel
theorem dL_law_1338 : decode code 1338 = .ok (.iload_n 3, 1) := by decide +kernel
theorem dL_law_1339 : decode code 1339 = .ok (.iconst 1, 1) := by decide +kernel
theorem dL_law_1340 : decode code 1340 = .ok (.iadd, 1) := by decide +kernel
theorem dL_law_1341 : decode code 1341 = .ok (.iaload, 1) := by decide +kernel
theorem dL_law_1342 : decode code 1342 = .ok (.aload_n 0, 1) := by decide +kernel
theorem dL_law_1343 : decode code 1343 = .ok (.iload_n 3, 1) := by decide +kernel
theorem dL_law_1344 : decode code 1344 = .ok (.iconst 2, 1) := by decide +kernel
theorem dL_law_1345 : decode code 1345 = .ok (.iadd, 1) := by decide +kernel
theorem dL_law_1346 : decode code 1346 = .ok (.iaload, 1) := by decide +kernel
theorem dL_law_1347 : decode code 1347 = .ok (.aload_n 0, 1) := by decide +kernel
theorem dL_law_1348 : decode code 1348 = .ok (.iload_n 3, 1) := by decide +kernel
theorem dL_law_1349 : decode code 1349 = .ok (.iconst 3, 1) := by decide +kernel
theorem dL_law_1350 : decode code 1350 = .ok (.iadd, 1) := by decide +kernel
theorem dL_law_1351 : decode code 1351 = .ok (.iaload, 1) := by decide +kernel
theorem dL_law_1352 : decode code 1352 = .ok (.invokevirtual 196, 3) := by decide +kernel
theorem dL_law_1355 : decode code 1355 = .ok (.if_icmp .eq 153, 3) := by decide +kernel
theorem dL_law_1358 : decode code 1358 = .ok (.iconst 0, 1) := by decide +kernel
theorem dL_law_1359 : decode code 1359 = .ok (.ireturn, 1) := by decide +kernel
theorem dL_law_1360 : decode code 1360 = .ok (.aload_n 1, 1) := by decide +kernel
theorem dL_law_1361 : decode code 1361 = .ok (.aload_n 0, 1) := by decide +kernel
theorem dL_law_1362 : decode code 1362 = .ok (.iload_n 3, 1) := by decide +kernel
theorem dL_law_1363 : decode code 1363 = .ok (.iconst 1, 1) := by decide +kernel
theorem dL_law_1364 : decode code 1364 = .ok (.iadd, 1) := by decide +kernel
theorem dL_law_1365 : decode code 1365 = .ok (.iaload, 1) := by decide +kernel
theorem dL_law_1366 : decode code 1366 = .ok (.aload_n 0, 1) := by decide +kernel
theorem dL_law_1367 : decode code 1367 = .ok (.iload_n 3, 1) := by decide +kernel
theorem dL_law_1368 : decode code 1368 = .ok (.iconst 2, 1) := by decide +kernel
theorem dL_law_1369 : decode code 1369 = .ok (.iadd, 1) := by decide +kernel
theorem dL_law_1370 : decode code 1370 = .ok (.iaload, 1) := by decide +kernel
theorem dL_law_1371 : decode code 1371 = .ok (.invokevirtual 197, 3) := by decide +kernel
theorem dL_law_1374 : decode code 1374 = .ok (.aload_n 2, 1) := by decide +kernel
theorem dL_law_1375 : decode code 1375 = .ok (.aload_n 0, 1) := by decide +kernel
theorem dL_law_1376 : decode code 1376 = .ok (.iload_n 3, 1) := by decide +kernel
theorem dL_law_1377 : decode code 1377 = .ok (.iconst 1, 1) := by decide +kernel
theorem dL_law_1378 : decode code 1378 = .ok (.iadd, 1) := by decide +kernel
theorem dL_law_1379 : decode code 1379 = .ok (.iaload, 1) := by decide +kernel
theorem dL_law_1380 : decode code 1380 = .ok (.aload_n 0, 1) := by decide +kernel
theorem dL_law_1381 : decode code 1381 = .ok (.iload_n 3, 1) := by decide +kernel
theorem dL_law_1382 : decode code 1382 = .ok (.iconst 2, 1) := by decide +kernel
theorem dL_law_1383 : decode code 1383 = .ok (.iadd, 1) := by decide +kernel
theorem dL_law_1384 : decode code 1384 = .ok (.iaload, 1) := by decide +kernel
theorem dL_law_1385 : decode code 1385 = .ok (.invokevirtual 200, 3) := by decide +kernel
theorem dL_law_1388 : decode code 1388 = .ok (.if_icmp .eq 120, 3) := by decide +kernel
theorem dL_law_1391 : decode code 1391 = .ok (.iconst 0, 1) := by decide +kernel
theorem dL_law_1392 : decode code 1392 = .ok (.ireturn, 1) := by decide +kernel
theorem dL_law_1393 : decode code 1393 = .ok (.aload_n 1, 1) := by decide +kernel
theorem dL_law_1394 : decode code 1394 = .ok (.aload_n 0, 1) := by decide +kernel
theorem dL_law_1395 : decode code 1395 = .ok (.iload_n 3, 1) := by decide +kernel
theorem dL_law_1396 : decode code 1396 = .ok (.iconst 1, 1) := by decide +kernel
theorem dL_law_1397 : decode code 1397 = .ok (.iadd, 1) := by decide +kernel
theorem dL_law_1398 : decode code 1398 = .ok (.iaload, 1) := by decide +kernel
theorem dL_law_1399 : decode code 1399 = .ok (.aload_n 0, 1) := by decide +kernel
theorem dL_law_1400 : decode code 1400 = .ok (.iload_n 3, 1) := by decide +kernel
theorem dL_law_1401 : decode code 1401 = .ok (.iconst 2, 1) := by decide +kernel
theorem dL_law_1402 : decode code 1402 = .ok (.iadd, 1) := by decide +kernel
theorem dL_law_1403 : decode code 1403 = .ok (.iaload, 1) := by decide +kernel
theorem dL_law_1404 : decode code 1404 = .ok (.aload_n 0, 1) := by decide +kernel
theorem dL_law_1405 : decode code 1405 = .ok (.iload_n 3, 1) := by decide +kernel
theorem dL_law_1406 : decode code 1406 = .ok (.iconst 3, 1) := by decide +kernel
theorem dL_law_1407 : decode code 1407 = .ok (.iadd, 1) := by decide +kernel
theorem dL_law_1408 : decode code 1408 = .ok (.iaload, 1) := by decide +kernel
theorem dL_law_1409 : decode code 1409 = .ok (.invokevirtual 201, 3) := by decide +kernel
theorem dL_law_1412 : decode code 1412 = .ok (.aload_n 2, 1) := by decide +kernel
theorem dL_law_1413 : decode code 1413 = .ok (.aload_n 0, 1) := by decide +kernel
theorem dL_law_1414 : decode code 1414 = .ok (.iload_n 3, 1) := by decide +kernel
theorem dL_law_1415 : decode code 1415 = .ok (.iconst 1, 1) := by decide +kernel
theorem dL_law_1416 : decode code 1416 = .ok (.iadd, 1) := by decide +kernel
theorem dL_law_1417 : decode code 1417 = .ok (.iaload, 1) := by decide +kernel
theorem dL_law_1418 : decode code 1418 = .ok (.aload_n 0, 1) := by decide +kernel
theorem dL_law_1419 : decode code 1419 = .ok (.iload_n 3, 1) := by decide +kernel
theorem dL_law_1420 : decode code 1420 = .ok (.iconst 2, 1) := by decide +kernel
theorem dL_law_1421 : decode code 1421 = .ok (.iadd, 1) := by decide +kernel
theorem dL_law_1422 : decode code 1422 = .ok (.iaload, 1) := by decide +kernel
theorem dL_law_1423 : decode code 1423 = .ok (.aload_n 0, 1) := by decide +kernel
theorem dL_law_1424 : decode code 1424 = .ok (.iload_n 3, 1) := by decide +kernel
theorem dL_law_1425 : decode code 1425 = .ok (.iconst 3, 1) := by decide +kernel
theorem dL_law_1426 : decode code 1426 = .ok (.iadd, 1) := by decide +kernel
theorem dL_law_1427 : decode code 1427 = .ok (.iaload, 1) := by decide +kernel
theorem dL_law_1428 : decode code 1428 = .ok (.invokevirtual 204, 3) := by decide +kernel
theorem dL_law_1431 : decode code 1431 = .ok (.if_icmp .eq 77, 3) := by decide +kernel
theorem dL_law_1434 : decode code 1434 = .ok (.iconst 0, 1) := by decide +kernel
theorem dL_law_1435 : decode code 1435 = .ok (.ireturn, 1) := by decide +kernel
theorem dL_law_1436 : decode code 1436 = .ok (.aload_n 1, 1) := by decide +kernel
theorem dL_law_1437 : decode code 1437 = .ok (.aload_n 0, 1) := by decide +kernel
theorem dL_law_1438 : decode code 1438 = .ok (.iload_n 3, 1) := by decide +kernel
theorem dL_law_1439 : decode code 1439 = .ok (.iconst 1, 1) := by decide +kernel
theorem dL_law_1440 : decode code 1440 = .ok (.iadd, 1) := by decide +kernel
theorem dL_law_1441 : decode code 1441 = .ok (.iaload, 1) := by decide +kernel
theorem dL_law_1442 : decode code 1442 = .ok (.invokevirtual 205, 3) := by decide +kernel
theorem dL_law_1445 : decode code 1445 = .ok (.aload_n 2, 1) := by decide +kernel
theorem dL_law_1446 : decode code 1446 = .ok (.aload_n 0, 1) := by decide +kernel
theorem dL_law_1447 : decode code 1447 = .ok (.iload_n 3, 1) := by decide +kernel
theorem dL_law_1448 : decode code 1448 = .ok (.iconst 1, 1) := by decide +kernel
theorem dL_law_1449 : decode code 1449 = .ok (.iadd, 1) := by decide +kernel
theorem dL_law_1450 : decode code 1450 = .ok (.iaload, 1) := by decide +kernel
theorem dL_law_1451 : decode code 1451 = .ok (.invokevirtual 208, 3) := by decide +kernel
theorem dL_law_1454 : decode code 1454 = .ok (.if_icmp .eq 54, 3) := by decide +kernel
theorem dL_law_1457 : decode code 1457 = .ok (.iconst 0, 1) := by decide +kernel
theorem dL_law_1458 : decode code 1458 = .ok (.ireturn, 1) := by decide +kernel
theorem dL_law_1459 : decode code 1459 = .ok (.aload_n 1, 1) := by decide +kernel
theorem dL_law_1460 : decode code 1460 = .ok (.aload_n 0, 1) := by decide +kernel
theorem dL_law_1461 : decode code 1461 = .ok (.iload_n 3, 1) := by decide +kernel
theorem dL_law_1462 : decode code 1462 = .ok (.iconst 1, 1) := by decide +kernel
theorem dL_law_1463 : decode code 1463 = .ok (.iadd, 1) := by decide +kernel
theorem dL_law_1464 : decode code 1464 = .ok (.iaload, 1) := by decide +kernel
theorem dL_law_1465 : decode code 1465 = .ok (.invokevirtual 209, 3) := by decide +kernel
theorem dL_law_1468 : decode code 1468 = .ok (.aload_n 2, 1) := by decide +kernel
theorem dL_law_1469 : decode code 1469 = .ok (.aload_n 0, 1) := by decide +kernel
theorem dL_law_1470 : decode code 1470 = .ok (.iload_n 3, 1) := by decide +kernel
theorem dL_law_1471 : decode code 1471 = .ok (.iconst 1, 1) := by decide +kernel
theorem dL_law_1472 : decode code 1472 = .ok (.iadd, 1) := by decide +kernel
theorem dL_law_1473 : decode code 1473 = .ok (.iaload, 1) := by decide +kernel
theorem dL_law_1474 : decode code 1474 = .ok (.invokevirtual 212, 3) := by decide +kernel
theorem dL_law_1477 : decode code 1477 = .ok (.if_icmp .eq 31, 3) := by decide +kernel
theorem dL_law_1480 : decode code 1480 = .ok (.iconst 0, 1) := by decide +kernel
theorem dL_law_1481 : decode code 1481 = .ok (.ireturn, 1) := by decide +kernel
theorem dL_law_1482 : decode code 1482 = .ok (.aload_n 1, 1) := by decide +kernel
theorem dL_law_1483 : decode code 1483 = .ok (.invokevirtual 213, 3) := by decide +kernel
theorem dL_law_1486 : decode code 1486 = .ok (.aload_n 2, 1) := by decide +kernel
theorem dL_law_1487 : decode code 1487 = .ok (.invokevirtual 216, 3) := by decide +kernel
theorem dL_law_1490 : decode code 1490 = .ok (.if_icmp .eq 18, 3) := by decide +kernel
theorem dL_law_1493 : decode code 1493 = .ok (.iconst 0, 1) := by decide +kernel
theorem dL_law_1494 : decode code 1494 = .ok (.ireturn, 1) := by decide +kernel
theorem dL_law_1495 : decode code 1495 = .ok (.aload_n 1, 1) := by decide +kernel
theorem dL_law_1496 : decode code 1496 = .ok (.invokevirtual 217, 3) := by decide +kernel
theorem dL_law_1499 : decode code 1499 = .ok (.aload_n 2, 1) := by decide +kernel
theorem dL_law_1500 : decode code 1500 = .ok (.invokevirtual 220, 3) := by decide +kernel
theorem dL_law_1503 : decode code 1503 = .ok (.if_icmp .eq 5, 3) := by decide +kernel
theorem dL_law_1506 : decode code 1506 = .ok (.iconst 0, 1) := by decide +kernel
theorem dL_law_1507 : decode code 1507 = .ok (.ireturn, 1) := by decide +kernel
theorem dL_law_1508 : decode code 1508 = .ok (.iinc 3 5, 3) := by decide +kernel
theorem dL_law_1511 : decode code 1511 = .ok (.goto (-1493), 3) := by decide +kernel
theorem dL_law_1514 : decode code 1514 = .ok (.iconst 1, 1) := by decide +kernel
theorem dL_law_1515 : decode code 1515 = .ok (.ireturn, 1) := by decide +kernel
theorem lkN_RL_7 : LkN RL 7 11 12 := ⟨RX11, TX11, fc11, ⟨tyX11, tyX11_ok, by decide +kernel⟩, (t1_in 21 (by decide +kernel) rfl), (t1_in 22 (by decide +kernel) rfl), (t1_in 1 (by decide +kernel) rfl)⟩
theorem lkI_RL_9 : LkI RL 9 yX11_init cX11_init 2 0 := ⟨(t1_in 23 (by decide +kernel) rfl), (t1_in 24 (by decide +kernel) rfl), (t1_in 25 (by decide +kernel) rfl), (t1_in 1 (by decide +kernel) rfl), rfl, by decide, by decide +kernel⟩
theorem lkN_RL_10 : LkN RL 10 12 34 := ⟨RX12, TX12, fc12, ⟨tyX12, tyX12_ok, by decide +kernel⟩, (t5_in 62 (by decide +kernel) rfl), (t5_in 63 (by decide +kernel) rfl), (t1_in 7 (by decide +kernel) rfl)⟩
theorem lkI_RL_12 : LkI RL 12 yX12_init cX12_init 2 0 := ⟨(t5_in 64 (by decide +kernel) rfl), (t5_in 65 (by decide +kernel) rfl), (t5_in 66 (by decide +kernel) rfl), (t1_in 7 (by decide +kernel) rfl), rfl, by decide, by decide +kernel⟩
theorem lkV_RL_13 : LkV RL 13 RX11 yX11_good cX11_good 5 (some .int) 4 := ⟨(t2_in 30 (by decide +kernel) rfl), (t2_in 31 (by decide +kernel) rfl), (t2_in 32 (by decide +kernel) rfl), (t2_in 33 (by decide +kernel) rfl), (t1_in 1 (by decide +kernel) rfl), by decide, by decide +kernel⟩
theorem lkV_RL_17 : LkV RL 17 RX12 yX12_good cX12_good 6 (some .int) 4 := ⟨(t6_in 21 (by decide +kernel) rfl), (t6_in 22 (by decide +kernel) rfl), (t6_in 23 (by decide +kernel) rfl), (t6_in 24 (by decide +kernel) rfl), (t1_in 7 (by decide +kernel) rfl), by decide, by decide +kernel⟩
theorem lkV_RL_18 : LkV RL 18 RX11 yX11_goodOf cX11_goodOf 3 (some .int) 2 := ⟨(t2_in 60 (by decide +kernel) rfl), (t2_in 61 (by decide +kernel) rfl), (t2_in 62 (by decide +kernel) rfl), (t2_in 63 (by decide +kernel) rfl), (t1_in 1 (by decide +kernel) rfl), by decide, by decide +kernel⟩
theorem lkV_RL_22 : LkV RL 22 RX12 yX12_goodOf cX12_goodOf 3 (some .int) 2 := ⟨(t6_in 28 (by decide +kernel) rfl), (t6_in 29 (by decide +kernel) rfl), (t6_in 30 (by decide +kernel) rfl), (t6_in 31 (by decide +kernel) rfl), (t1_in 7 (by decide +kernel) rfl), by decide, by decide +kernel⟩
theorem lkV_RL_23 : LkV RL 23 RX11 yX11_change cX11_change 5 (some .int) 3 := ⟨(t2_in 121 (by decide +kernel) rfl), (t2_in 122 (by decide +kernel) rfl), (t2_in 123 (by decide +kernel) rfl), (t2_in 124 (by decide +kernel) rfl), (t1_in 1 (by decide +kernel) rfl), by decide, by decide +kernel⟩
theorem lkV_RL_27 : LkV RL 27 RX12 yX12_change cX12_change 5 (some .int) 3 := ⟨(t6_in 90 (by decide +kernel) rfl), (t6_in 91 (by decide +kernel) rfl), (t6_in 92 (by decide +kernel) rfl), (t6_in 93 (by decide +kernel) rfl), (t1_in 7 (by decide +kernel) rfl), by decide, by decide +kernel⟩
theorem lkV_RL_28 : LkV RL 28 RX11 yX11_remake cX11_remake 4 (some .int) 2 := ⟨(t2_in 126 (by decide +kernel) rfl), (t2_in 127 (by decide +kernel) rfl), (t2_in 128 (by decide +kernel) rfl), (t2_in 129 (by decide +kernel) rfl), (t1_in 1 (by decide +kernel) rfl), by decide, by decide +kernel⟩
theorem lkV_RL_31 : LkV RL 31 RX12 yX12_remake cX12_remake 3 (some .int) 2 := ⟨(t6_in 98 (by decide +kernel) rfl), (t6_in 99 (by decide +kernel) rfl), (t6_in 100 (by decide +kernel) rfl), (t6_in 101 (by decide +kernel) rfl), (t1_in 7 (by decide +kernel) rfl), by decide, by decide +kernel⟩
theorem lkV_RL_32 : LkV RL 32 RX11 yX11_let cX11_let 4 (some .int) 2 := ⟨(t2_in 134 (by decide +kernel) rfl), (t2_in 135 (by decide +kernel) rfl), (t2_in 136 (by decide +kernel) rfl), (t2_in 137 (by decide +kernel) rfl), (t1_in 1 (by decide +kernel) rfl), by decide, by decide +kernel⟩
theorem lkV_RL_35 : LkV RL 35 RX12 yX12_let cX12_let 3 (some .int) 2 := ⟨(t6_in 102 (by decide +kernel) rfl), (t6_in 103 (by decide +kernel) rfl), (t6_in 104 (by decide +kernel) rfl), (t6_in 105 (by decide +kernel) rfl), (t1_in 7 (by decide +kernel) rfl), by decide, by decide +kernel⟩
theorem lkV_RL_38 : LkV RL 38 RX11 yX11_feed cX11_feed 4 (some .int) 2 := ⟨(t2_in 142 (by decide +kernel) rfl), (t2_in 143 (by decide +kernel) rfl), (t2_in 144 (by decide +kernel) rfl), (t2_in 145 (by decide +kernel) rfl), (t1_in 1 (by decide +kernel) rfl), by decide, by decide +kernel⟩
theorem lkV_RL_42 : LkV RL 42 RX12 yX12_feed cX12_feed 5 (some .int) 2 := ⟨(t5_in 184 (by decide +kernel) rfl), (t5_in 185 (by decide +kernel) rfl), (t5_in 186 (by decide +kernel) rfl), (t5_in 187 (by decide +kernel) rfl), (t1_in 7 (by decide +kernel) rfl), by decide, by decide +kernel⟩
theorem lkV_RL_43 : LkV RL 43 RX11 yX11_rules cX11_rules 1 (some .int) 0 := ⟨(t2_in 150 (by decide +kernel) rfl), (t2_in 151 (by decide +kernel) rfl), (t2_in 152 (by decide +kernel) rfl), (t2_in 153 (by decide +kernel) rfl), (t1_in 1 (by decide +kernel) rfl), by decide, by decide +kernel⟩
theorem lkV_RL_47 : LkV RL 47 RX12 yX12_rules cX12_rules 3 (some .int) 0 := ⟨(t5_in 192 (by decide +kernel) rfl), (t5_in 193 (by decide +kernel) rfl), (t5_in 194 (by decide +kernel) rfl), (t5_in 195 (by decide +kernel) rfl), (t1_in 7 (by decide +kernel) rfl), by decide, by decide +kernel⟩
theorem lkV_RL_48 : LkV RL 48 RX11 yX11_beside cX11_beside 3 (some .int) 2 := ⟨(t3_in 37 (by decide +kernel) rfl), (t3_in 38 (by decide +kernel) rfl), (t3_in 39 (by decide +kernel) rfl), (t3_in 40 (by decide +kernel) rfl), (t1_in 1 (by decide +kernel) rfl), by decide, by decide +kernel⟩
theorem lkV_RL_51 : LkV RL 51 RX12 yX12_beside cX12_beside 3 (some .int) 2 := ⟨(t6_in 106 (by decide +kernel) rfl), (t6_in 107 (by decide +kernel) rfl), (t6_in 108 (by decide +kernel) rfl), (t6_in 109 (by decide +kernel) rfl), (t1_in 7 (by decide +kernel) rfl), by decide, by decide +kernel⟩
theorem lkV_RL_52 : LkV RL 52 RX11 yX11_mates cX11_mates 2 (some .int) 1 := ⟨(t3_in 41 (by decide +kernel) rfl), (t3_in 42 (by decide +kernel) rfl), (t3_in 43 (by decide +kernel) rfl), (t3_in 44 (by decide +kernel) rfl), (t1_in 1 (by decide +kernel) rfl), by decide, by decide +kernel⟩
theorem lkV_RL_56 : LkV RL 56 RX12 yX12_mates cX12_mates 4 (some .int) 1 := ⟨(t6_in 110 (by decide +kernel) rfl), (t6_in 111 (by decide +kernel) rfl), (t6_in 112 (by decide +kernel) rfl), (t6_in 113 (by decide +kernel) rfl), (t1_in 7 (by decide +kernel) rfl), by decide, by decide +kernel⟩
theorem lkV_RL_57 : LkV RL 57 RX11 yX11_may cX11_may 1 (some .int) 0 := ⟨(t3_in 45 (by decide +kernel) rfl), (t3_in 46 (by decide +kernel) rfl), (t3_in 47 (by decide +kernel) rfl), (t3_in 48 (by decide +kernel) rfl), (t1_in 1 (by decide +kernel) rfl), by decide, by decide +kernel⟩
theorem lkV_RL_60 : LkV RL 60 RX12 yX12_may cX12_may 3 (some .int) 0 := ⟨(t6_in 114 (by decide +kernel) rfl), (t6_in 115 (by decide +kernel) rfl), (t6_in 116 (by decide +kernel) rfl), (t6_in 117 (by decide +kernel) rfl), (t1_in 7 (by decide +kernel) rfl), by decide, by decide +kernel⟩
theorem lkV_RL_61 : LkV RL 61 RX11 yX11_tops cX11_tops 1 (some .int) 0 := ⟨(t3_in 49 (by decide +kernel) rfl), (t3_in 50 (by decide +kernel) rfl), (t3_in 51 (by decide +kernel) rfl), (t3_in 52 (by decide +kernel) rfl), (t1_in 1 (by decide +kernel) rfl), by decide, by decide +kernel⟩
theorem lkV_RL_64 : LkV RL 64 RX12 yX12_tops cX12_tops 3 (some .int) 0 := ⟨(t6_in 118 (by decide +kernel) rfl), (t6_in 119 (by decide +kernel) rfl), (t6_in 120 (by decide +kernel) rfl), (t6_in 121 (by decide +kernel) rfl), (t1_in 7 (by decide +kernel) rfl), by decide, by decide +kernel⟩
theorem lkV_RL_65 : LkV RL 65 RX11 yX11_go cX11_go 2 (some .int) 1 := ⟨(t3_in 53 (by decide +kernel) rfl), (t3_in 54 (by decide +kernel) rfl), (t3_in 55 (by decide +kernel) rfl), (t3_in 56 (by decide +kernel) rfl), (t1_in 1 (by decide +kernel) rfl), by decide, by decide +kernel⟩
theorem lkV_RL_68 : LkV RL 68 RX12 yX12_go cX12_go 2 (some .int) 1 := ⟨(t6_in 122 (by decide +kernel) rfl), (t6_in 123 (by decide +kernel) rfl), (t6_in 124 (by decide +kernel) rfl), (t6_in 125 (by decide +kernel) rfl), (t1_in 7 (by decide +kernel) rfl), by decide, by decide +kernel⟩
theorem lkV_RL_69 : LkV RL 69 RX11 yX11_come cX11_come 1 (some .int) 0 := ⟨(t3_in 65 (by decide +kernel) rfl), (t3_in 66 (by decide +kernel) rfl), (t3_in 67 (by decide +kernel) rfl), (t3_in 68 (by decide +kernel) rfl), (t1_in 1 (by decide +kernel) rfl), by decide, by decide +kernel⟩
theorem lkV_RL_72 : LkV RL 72 RX12 yX12_come cX12_come 1 (some .int) 0 := ⟨(t6_in 134 (by decide +kernel) rfl), (t6_in 135 (by decide +kernel) rfl), (t6_in 136 (by decide +kernel) rfl), (t6_in 137 (by decide +kernel) rfl), (t1_in 7 (by decide +kernel) rfl), by decide, by decide +kernel⟩
theorem lkV_RL_73 : LkV RL 73 RX11 yX11_line cX11_line 2 (some .int) 1 := ⟨(t3_in 74 (by decide +kernel) rfl), (t3_in 75 (by decide +kernel) rfl), (t3_in 76 (by decide +kernel) rfl), (t3_in 77 (by decide +kernel) rfl), (t1_in 1 (by decide +kernel) rfl), by decide, by decide +kernel⟩
theorem lkV_RL_76 : LkV RL 76 RX12 yX12_line cX12_line 2 (some .int) 1 := ⟨(t6_in 142 (by decide +kernel) rfl), (t6_in 143 (by decide +kernel) rfl), (t6_in 144 (by decide +kernel) rfl), (t6_in 145 (by decide +kernel) rfl), (t1_in 7 (by decide +kernel) rfl), by decide, by decide +kernel⟩
theorem lkV_RL_77 : LkV RL 77 RX11 yX11_paid cX11_paid 3 (some .int) 0 := ⟨(t3_in 78 (by decide +kernel) rfl), (t3_in 79 (by decide +kernel) rfl), (t3_in 80 (by decide +kernel) rfl), (t3_in 81 (by decide +kernel) rfl), (t1_in 1 (by decide +kernel) rfl), by decide, by decide +kernel⟩
theorem lkV_RL_80 : LkV RL 80 RX12 yX12_paid cX12_paid 3 (some .int) 0 := ⟨(t6_in 146 (by decide +kernel) rfl), (t6_in 147 (by decide +kernel) rfl), (t6_in 148 (by decide +kernel) rfl), (t6_in 149 (by decide +kernel) rfl), (t1_in 7 (by decide +kernel) rfl), by decide, by decide +kernel⟩
theorem lkV_RL_81 : LkV RL 81 RX11 yX11_ways cX11_ways 1 (some .int) 0 := ⟨(t3_in 82 (by decide +kernel) rfl), (t3_in 83 (by decide +kernel) rfl), (t3_in 84 (by decide +kernel) rfl), (t3_in 85 (by decide +kernel) rfl), (t1_in 1 (by decide +kernel) rfl), by decide, by decide +kernel⟩
theorem lkV_RL_84 : LkV RL 84 RX12 yX12_ways cX12_ways 1 (some .int) 0 := ⟨(t6_in 150 (by decide +kernel) rfl), (t6_in 151 (by decide +kernel) rfl), (t6_in 152 (by decide +kernel) rfl), (t6_in 153 (by decide +kernel) rfl), (t1_in 7 (by decide +kernel) rfl), by decide, by decide +kernel⟩
theorem lkV_RL_85 : LkV RL 85 RX11 yX11_way cX11_way 2 (some .int) 1 := ⟨(t3_in 126 (by decide +kernel) rfl), (t3_in 127 (by decide +kernel) rfl), (t3_in 128 (by decide +kernel) rfl), (t3_in 129 (by decide +kernel) rfl), (t1_in 1 (by decide +kernel) rfl), by decide, by decide +kernel⟩
theorem lkV_RL_88 : LkV RL 88 RX12 yX12_way cX12_way 2 (some .int) 1 := ⟨(t6_in 162 (by decide +kernel) rfl), (t6_in 163 (by decide +kernel) rfl), (t6_in 164 (by decide +kernel) rfl), (t6_in 165 (by decide +kernel) rfl), (t1_in 7 (by decide +kernel) rfl), by decide, by decide +kernel⟩
theorem lkV_RL_89 : LkV RL 89 RX11 yX11_longest cX11_longest 1 (some .int) 0 := ⟨(t3_in 146 (by decide +kernel) rfl), (t3_in 147 (by decide +kernel) rfl), (t3_in 148 (by decide +kernel) rfl), (t3_in 149 (by decide +kernel) rfl), (t1_in 1 (by decide +kernel) rfl), by decide, by decide +kernel⟩
theorem lkV_RL_92 : LkV RL 92 RX12 yX12_longest cX12_longest 1 (some .int) 0 := ⟨(t6_in 186 (by decide +kernel) rfl), (t6_in 187 (by decide +kernel) rfl), (t6_in 188 (by decide +kernel) rfl), (t6_in 189 (by decide +kernel) rfl), (t1_in 7 (by decide +kernel) rfl), by decide, by decide +kernel⟩
theorem lkV_RL_93 : LkV RL 93 RX11 yX11_far cX11_far 2 (some .int) 1 := ⟨(t3_in 150 (by decide +kernel) rfl), (t3_in 151 (by decide +kernel) rfl), (t3_in 152 (by decide +kernel) rfl), (t3_in 153 (by decide +kernel) rfl), (t1_in 1 (by decide +kernel) rfl), by decide, by decide +kernel⟩
theorem lkV_RL_96 : LkV RL 96 RX12 yX12_far cX12_far 2 (some .int) 1 := ⟨(t6_in 190 (by decide +kernel) rfl), (t6_in 191 (by decide +kernel) rfl), (t6_in 192 (by decide +kernel) rfl), (t6_in 193 (by decide +kernel) rfl), (t1_in 7 (by decide +kernel) rfl), by decide, by decide +kernel⟩
theorem lkV_RL_97 : LkV RL 97 RX11 yX11_cheapest cX11_cheapest 1 (some .int) 0 := ⟨(t3_in 154 (by decide +kernel) rfl), (t3_in 155 (by decide +kernel) rfl), (t3_in 156 (by decide +kernel) rfl), (t3_in 157 (by decide +kernel) rfl), (t1_in 1 (by decide +kernel) rfl), by decide, by decide +kernel⟩
theorem lkV_RL_100 : LkV RL 100 RX12 yX12_cheapest cX12_cheapest 2 (some .int) 0 := ⟨(t6_in 194 (by decide +kernel) rfl), (t6_in 195 (by decide +kernel) rfl), (t6_in 196 (by decide +kernel) rfl), (t6_in 197 (by decide +kernel) rfl), (t1_in 7 (by decide +kernel) rfl), by decide, by decide +kernel⟩
theorem lkV_RL_101 : LkV RL 101 RX11 yX11_cheap cX11_cheap 2 (some .int) 1 := ⟨(t3_in 162 (by decide +kernel) rfl), (t3_in 163 (by decide +kernel) rfl), (t3_in 164 (by decide +kernel) rfl), (t3_in 165 (by decide +kernel) rfl), (t1_in 1 (by decide +kernel) rfl), by decide, by decide +kernel⟩
theorem lkV_RL_104 : LkV RL 104 RX12 yX12_cheap cX12_cheap 2 (some .int) 1 := ⟨(t6_in 198 (by decide +kernel) rfl), (t6_in 199 (by decide +kernel) rfl), (t6_in 200 (by decide +kernel) rfl), (t6_in 201 (by decide +kernel) rfl), (t1_in 7 (by decide +kernel) rfl), by decide, by decide +kernel⟩
theorem lkV_RL_105 : LkV RL 105 RX11 yX11_never cX11_never 1 (some .int) 0 := ⟨(t3_in 166 (by decide +kernel) rfl), (t3_in 167 (by decide +kernel) rfl), (t3_in 168 (by decide +kernel) rfl), (t3_in 169 (by decide +kernel) rfl), (t1_in 1 (by decide +kernel) rfl), by decide, by decide +kernel⟩
theorem lkV_RL_108 : LkV RL 108 RX12 yX12_never cX12_never 3 (some .int) 0 := ⟨(t6_in 202 (by decide +kernel) rfl), (t6_in 203 (by decide +kernel) rfl), (t6_in 204 (by decide +kernel) rfl), (t6_in 205 (by decide +kernel) rfl), (t1_in 7 (by decide +kernel) rfl), by decide, by decide +kernel⟩
theorem lkV_RL_109 : LkV RL 109 RX11 yX11_best cX11_best 6 (some .int) 0 := ⟨(t3_in 170 (by decide +kernel) rfl), (t3_in 171 (by decide +kernel) rfl), (t3_in 172 (by decide +kernel) rfl), (t3_in 173 (by decide +kernel) rfl), (t1_in 1 (by decide +kernel) rfl), by decide, by decide +kernel⟩
theorem lkV_RL_112 : LkV RL 112 RX12 yX12_best cX12_best 5 (some .int) 0 := ⟨(t6_in 210 (by decide +kernel) rfl), (t6_in 211 (by decide +kernel) rfl), (t6_in 212 (by decide +kernel) rfl), (t6_in 213 (by decide +kernel) rfl), (t1_in 7 (by decide +kernel) rfl), by decide, by decide +kernel⟩
theorem lkV_RL_113 : LkV RL 113 RX11 yX11_goat cX11_goat 6 (some .int) 0 := ⟨(t3_in 176 (by decide +kernel) rfl), (t3_in 177 (by decide +kernel) rfl), (t3_in 178 (by decide +kernel) rfl), (t3_in 179 (by decide +kernel) rfl), (t1_in 1 (by decide +kernel) rfl), by decide, by decide +kernel⟩
theorem lkV_RL_116 : LkV RL 116 RX12 yX12_goat cX12_goat 6 (some .int) 0 := ⟨(t6_in 214 (by decide +kernel) rfl), (t6_in 215 (by decide +kernel) rfl), (t6_in 216 (by decide +kernel) rfl), (t6_in 217 (by decide +kernel) rfl), (t1_in 7 (by decide +kernel) rfl), by decide, by decide +kernel⟩
theorem lkV_RL_117 : LkV RL 117 RX11 yX11_gapFor cX11_gapFor 4 (some .int) 0 := ⟨(t3_in 180 (by decide +kernel) rfl), (t3_in 181 (by decide +kernel) rfl), (t3_in 182 (by decide +kernel) rfl), (t3_in 183 (by decide +kernel) rfl), (t1_in 1 (by decide +kernel) rfl), by decide, by decide +kernel⟩
theorem lkV_RL_120 : LkV RL 120 RX12 yX12_gapFor cX12_gapFor 4 (some .int) 0 := ⟨(t6_in 218 (by decide +kernel) rfl), (t6_in 219 (by decide +kernel) rfl), (t6_in 220 (by decide +kernel) rfl), (t6_in 221 (by decide +kernel) rfl), (t1_in 7 (by decide +kernel) rfl), by decide, by decide +kernel⟩
theorem lkV_RL_121 : LkV RL 121 RX11 yX11_game cX11_game 1 (some .int) 0 := ⟨(t3_in 184 (by decide +kernel) rfl), (t3_in 185 (by decide +kernel) rfl), (t3_in 186 (by decide +kernel) rfl), (t3_in 187 (by decide +kernel) rfl), (t1_in 1 (by decide +kernel) rfl), by decide, by decide +kernel⟩
theorem lkV_RL_124 : LkV RL 124 RX12 yX12_game cX12_game 1 (some .int) 0 := ⟨(t6_in 222 (by decide +kernel) rfl), (t6_in 223 (by decide +kernel) rfl), (t6_in 224 (by decide +kernel) rfl), (t6_in 225 (by decide +kernel) rfl), (t1_in 7 (by decide +kernel) rfl), by decide, by decide +kernel⟩
theorem lkV_RL_125 : LkV RL 125 RX11 yX11_play cX11_play 3 (some .int) 0 := ⟨(t3_in 192 (by decide +kernel) rfl), (t3_in 193 (by decide +kernel) rfl), (t3_in 194 (by decide +kernel) rfl), (t3_in 195 (by decide +kernel) rfl), (t1_in 1 (by decide +kernel) rfl), by decide, by decide +kernel⟩
theorem lkV_RL_128 : LkV RL 128 RX12 yX12_play cX12_play 3 (some .int) 0 := ⟨(t6_in 230 (by decide +kernel) rfl), (t6_in 231 (by decide +kernel) rfl), (t6_in 232 (by decide +kernel) rfl), (t6_in 233 (by decide +kernel) rfl), (t1_in 7 (by decide +kernel) rfl), by decide, by decide +kernel⟩
theorem lkV_RL_129 : LkV RL 129 RX11 yX11_report cX11_report 3 (some .int) 2 := ⟨(t3_in 196 (by decide +kernel) rfl), (t3_in 197 (by decide +kernel) rfl), (t3_in 198 (by decide +kernel) rfl), (t3_in 199 (by decide +kernel) rfl), (t1_in 1 (by decide +kernel) rfl), by decide, by decide +kernel⟩
theorem lkV_RL_132 : LkV RL 132 RX12 yX12_report cX12_report 4 (some .int) 2 := ⟨(t6_in 234 (by decide +kernel) rfl), (t6_in 235 (by decide +kernel) rfl), (t6_in 236 (by decide +kernel) rfl), (t6_in 237 (by decide +kernel) rfl), (t1_in 7 (by decide +kernel) rfl), by decide, by decide +kernel⟩
theorem lkV_RL_133 : LkV RL 133 RX11 yX11_forget cX11_forget 2 (some .int) 0 := ⟨(t3_in 204 (by decide +kernel) rfl), (t3_in 205 (by decide +kernel) rfl), (t3_in 206 (by decide +kernel) rfl), (t3_in 207 (by decide +kernel) rfl), (t1_in 1 (by decide +kernel) rfl), by decide, by decide +kernel⟩
theorem lkV_RL_136 : LkV RL 136 RX12 yX12_forget cX12_forget 1 (some .int) 0 := ⟨(t6_in 238 (by decide +kernel) rfl), (t6_in 239 (by decide +kernel) rfl), (t7_in 0 (by decide +kernel) rfl), (t7_in 1 (by decide +kernel) rfl), (t1_in 7 (by decide +kernel) rfl), by decide, by decide +kernel⟩
theorem lkV_RL_137 : LkV RL 137 RX11 yX11_span cX11_span 5 (some .int) 1 := ⟨(t3_in 208 (by decide +kernel) rfl), (t3_in 209 (by decide +kernel) rfl), (t3_in 210 (by decide +kernel) rfl), (t3_in 211 (by decide +kernel) rfl), (t1_in 1 (by decide +kernel) rfl), by decide, by decide +kernel⟩
theorem lkV_RL_140 : LkV RL 140 RX12 yX12_span cX12_span 7 (some .int) 1 := ⟨(t7_in 2 (by decide +kernel) rfl), (t7_in 3 (by decide +kernel) rfl), (t7_in 4 (by decide +kernel) rfl), (t7_in 5 (by decide +kernel) rfl), (t1_in 7 (by decide +kernel) rfl), by decide, by decide +kernel⟩
theorem lkV_RL_141 : LkV RL 141 RX11 yX11_liar cX11_liar 2 (some .int) 0 := ⟨(t3_in 225 (by decide +kernel) rfl), (t3_in 226 (by decide +kernel) rfl), (t3_in 227 (by decide +kernel) rfl), (t3_in 228 (by decide +kernel) rfl), (t1_in 1 (by decide +kernel) rfl), by decide, by decide +kernel⟩
theorem lkV_RL_144 : LkV RL 144 RX12 yX12_liar cX12_liar 4 (some .int) 0 := ⟨(t7_in 18 (by decide +kernel) rfl), (t7_in 19 (by decide +kernel) rfl), (t7_in 20 (by decide +kernel) rfl), (t7_in 21 (by decide +kernel) rfl), (t1_in 7 (by decide +kernel) rfl), by decide, by decide +kernel⟩
theorem lkV_RL_145 : LkV RL 145 RX11 yX11_seed cX11_seed 3 (some .int) 1 := ⟨(t3_in 229 (by decide +kernel) rfl), (t3_in 230 (by decide +kernel) rfl), (t3_in 231 (by decide +kernel) rfl), (t3_in 232 (by decide +kernel) rfl), (t1_in 1 (by decide +kernel) rfl), by decide, by decide +kernel⟩
theorem lkV_RL_148 : LkV RL 148 RX12 yX12_seed cX12_seed 2 (some .int) 1 := ⟨(t7_in 22 (by decide +kernel) rfl), (t7_in 23 (by decide +kernel) rfl), (t7_in 24 (by decide +kernel) rfl), (t7_in 25 (by decide +kernel) rfl), (t1_in 7 (by decide +kernel) rfl), by decide, by decide +kernel⟩
theorem lkV_RL_149 : LkV RL 149 RX11 yX11_draw cX11_draw 3 (some .int) 0 := ⟨(t3_in 233 (by decide +kernel) rfl), (t3_in 234 (by decide +kernel) rfl), (t3_in 235 (by decide +kernel) rfl), (t3_in 236 (by decide +kernel) rfl), (t1_in 1 (by decide +kernel) rfl), by decide, by decide +kernel⟩
theorem lkV_RL_152 : LkV RL 152 RX12 yX12_draw cX12_draw 1 (some .int) 0 := ⟨(t7_in 26 (by decide +kernel) rfl), (t7_in 27 (by decide +kernel) rfl), (t7_in 28 (by decide +kernel) rfl), (t7_in 29 (by decide +kernel) rfl), (t1_in 7 (by decide +kernel) rfl), by decide, by decide +kernel⟩
theorem lkV_RL_153 : LkV RL 153 RX11 yX11_often cX11_often 9 (some .int) 1 := ⟨(t4_in 4 (by decide +kernel) rfl), (t4_in 5 (by decide +kernel) rfl), (t4_in 6 (by decide +kernel) rfl), (t4_in 7 (by decide +kernel) rfl), (t1_in 1 (by decide +kernel) rfl), by decide, by decide +kernel⟩
theorem lkV_RL_156 : LkV RL 156 RX12 yX12_often cX12_often 6 (some .int) 1 := ⟨(t7_in 36 (by decide +kernel) rfl), (t7_in 37 (by decide +kernel) rfl), (t7_in 38 (by decide +kernel) rfl), (t7_in 39 (by decide +kernel) rfl), (t1_in 7 (by decide +kernel) rfl), by decide, by decide +kernel⟩
theorem lkV_RL_157 : LkV RL 157 RX11 yX11_prove cX11_prove 4 (some .int) 0 := ⟨(t4_in 8 (by decide +kernel) rfl), (t4_in 9 (by decide +kernel) rfl), (t4_in 10 (by decide +kernel) rfl), (t4_in 11 (by decide +kernel) rfl), (t1_in 1 (by decide +kernel) rfl), by decide, by decide +kernel⟩
theorem lkV_RL_160 : LkV RL 160 RX12 yX12_prove cX12_prove 2 (some .int) 0 := ⟨(t7_in 47 (by decide +kernel) rfl), (t7_in 48 (by decide +kernel) rfl), (t7_in 49 (by decide +kernel) rfl), (t7_in 50 (by decide +kernel) rfl), (t1_in 7 (by decide +kernel) rfl), by decide, by decide +kernel⟩
theorem lkV_RL_161 : LkV RL 161 RX11 yX11_row cX11_row 3 (some .int) 2 := ⟨(t4_in 12 (by decide +kernel) rfl), (t4_in 13 (by decide +kernel) rfl), (t4_in 14 (by decide +kernel) rfl), (t4_in 15 (by decide +kernel) rfl), (t1_in 1 (by decide +kernel) rfl), by decide, by decide +kernel⟩
theorem lkV_RL_164 : LkV RL 164 RX12 yX12_row cX12_row 3 (some .int) 2 := ⟨(t7_in 51 (by decide +kernel) rfl), (t7_in 52 (by decide +kernel) rfl), (t7_in 53 (by decide +kernel) rfl), (t7_in 54 (by decide +kernel) rfl), (t1_in 7 (by decide +kernel) rfl), by decide, by decide +kernel⟩
theorem lkV_RL_165 : LkV RL 165 RX11 yX11_alterRow cX11_alterRow 5 (some .int) 3 := ⟨(t4_in 20 (by decide +kernel) rfl), (t4_in 21 (by decide +kernel) rfl), (t4_in 22 (by decide +kernel) rfl), (t4_in 23 (by decide +kernel) rfl), (t1_in 1 (by decide +kernel) rfl), by decide, by decide +kernel⟩
theorem lkV_RL_168 : LkV RL 168 RX12 yX12_alterRow cX12_alterRow 5 (some .int) 3 := ⟨(t7_in 59 (by decide +kernel) rfl), (t7_in 60 (by decide +kernel) rfl), (t7_in 61 (by decide +kernel) rfl), (t7_in 62 (by decide +kernel) rfl), (t1_in 7 (by decide +kernel) rfl), by decide, by decide +kernel⟩
theorem lkV_RL_169 : LkV RL 169 RX11 yX11_judge cX11_judge 5 (some .int) 0 := ⟨(t4_in 24 (by decide +kernel) rfl), (t4_in 25 (by decide +kernel) rfl), (t4_in 26 (by decide +kernel) rfl), (t4_in 27 (by decide +kernel) rfl), (t1_in 1 (by decide +kernel) rfl), by decide, by decide +kernel⟩
theorem lkV_RL_172 : LkV RL 172 RX12 yX12_judge cX12_judge 5 (some .int) 0 := ⟨(t7_in 63 (by decide +kernel) rfl), (t7_in 64 (by decide +kernel) rfl), (t7_in 65 (by decide +kernel) rfl), (t7_in 66 (by decide +kernel) rfl), (t1_in 7 (by decide +kernel) rfl), by decide, by decide +kernel⟩
theorem lkV_RL_173 : LkV RL 173 RX11 yX11_sheet cX11_sheet 4 (some .int) 3 := ⟨(t4_in 28 (by decide +kernel) rfl), (t4_in 29 (by decide +kernel) rfl), (t4_in 30 (by decide +kernel) rfl), (t4_in 31 (by decide +kernel) rfl), (t1_in 1 (by decide +kernel) rfl), by decide, by decide +kernel⟩
theorem lkV_RL_176 : LkV RL 176 RX12 yX12_sheet cX12_sheet 5 (some .int) 3 := ⟨(t7_in 67 (by decide +kernel) rfl), (t7_in 68 (by decide +kernel) rfl), (t7_in 69 (by decide +kernel) rfl), (t7_in 70 (by decide +kernel) rfl), (t1_in 7 (by decide +kernel) rfl), by decide, by decide +kernel⟩
theorem lkV_RL_177 : LkV RL 177 RX11 yX11_write cX11_write 5 (some .int) 3 := ⟨(t4_in 39 (by decide +kernel) rfl), (t4_in 40 (by decide +kernel) rfl), (t4_in 41 (by decide +kernel) rfl), (t4_in 42 (by decide +kernel) rfl), (t1_in 1 (by decide +kernel) rfl), by decide, by decide +kernel⟩
theorem lkV_RL_180 : LkV RL 180 RX12 yX12_write cX12_write 5 (some .int) 3 := ⟨(t7_in 74 (by decide +kernel) rfl), (t7_in 75 (by decide +kernel) rfl), (t7_in 76 (by decide +kernel) rfl), (t7_in 77 (by decide +kernel) rfl), (t1_in 7 (by decide +kernel) rfl), by decide, by decide +kernel⟩
theorem lkV_RL_181 : LkV RL 181 RX11 yX11_item cX11_item 6 (some .int) 3 := ⟨(t4_in 51 (by decide +kernel) rfl), (t4_in 52 (by decide +kernel) rfl), (t4_in 53 (by decide +kernel) rfl), (t4_in 54 (by decide +kernel) rfl), (t1_in 1 (by decide +kernel) rfl), by decide, by decide +kernel⟩
theorem lkV_RL_184 : LkV RL 184 RX12 yX12_item cX12_item 5 (some .int) 3 := ⟨(t7_in 78 (by decide +kernel) rfl), (t7_in 79 (by decide +kernel) rfl), (t7_in 80 (by decide +kernel) rfl), (t7_in 81 (by decide +kernel) rfl), (t1_in 7 (by decide +kernel) rfl), by decide, by decide +kernel⟩
theorem lkV_RL_185 : LkV RL 185 RX11 yX11_goes cX11_goes 9 (some .int) 3 := ⟨(t4_in 59 (by decide +kernel) rfl), (t4_in 60 (by decide +kernel) rfl), (t4_in 61 (by decide +kernel) rfl), (t4_in 62 (by decide +kernel) rfl), (t1_in 1 (by decide +kernel) rfl), by decide, by decide +kernel⟩
theorem lkV_RL_188 : LkV RL 188 RX12 yX12_goes cX12_goes 9 (some .int) 3 := ⟨(t7_in 86 (by decide +kernel) rfl), (t7_in 87 (by decide +kernel) rfl), (t7_in 88 (by decide +kernel) rfl), (t7_in 89 (by decide +kernel) rfl), (t1_in 7 (by decide +kernel) rfl), by decide, by decide +kernel⟩
theorem lkV_RL_189 : LkV RL 189 RX11 yX11_goats cX11_goats 11 (some .int) 3 := ⟨(t4_in 63 (by decide +kernel) rfl), (t4_in 64 (by decide +kernel) rfl), (t4_in 65 (by decide +kernel) rfl), (t4_in 66 (by decide +kernel) rfl), (t1_in 1 (by decide +kernel) rfl), by decide, by decide +kernel⟩
theorem lkV_RL_192 : LkV RL 192 RX12 yX12_goats cX12_goats 10 (some .int) 3 := ⟨(t7_in 91 (by decide +kernel) rfl), (t7_in 92 (by decide +kernel) rfl), (t7_in 93 (by decide +kernel) rfl), (t7_in 94 (by decide +kernel) rfl), (t1_in 7 (by decide +kernel) rfl), by decide, by decide +kernel⟩
theorem lkV_RL_193 : LkV RL 193 RX11 yX11_shelf cX11_shelf 4 (some .int) 3 := ⟨(t4_in 67 (by decide +kernel) rfl), (t4_in 68 (by decide +kernel) rfl), (t4_in 69 (by decide +kernel) rfl), (t4_in 70 (by decide +kernel) rfl), (t1_in 1 (by decide +kernel) rfl), by decide, by decide +kernel⟩
theorem lkV_RL_196 : LkV RL 196 RX12 yX12_shelf cX12_shelf 4 (some .int) 3 := ⟨(t7_in 95 (by decide +kernel) rfl), (t7_in 96 (by decide +kernel) rfl), (t7_in 97 (by decide +kernel) rfl), (t7_in 98 (by decide +kernel) rfl), (t1_in 7 (by decide +kernel) rfl), by decide, by decide +kernel⟩
theorem lkV_RL_197 : LkV RL 197 RX11 yX11_taken cX11_taken 4 (some .int) 2 := ⟨(t4_in 75 (by decide +kernel) rfl), (t4_in 76 (by decide +kernel) rfl), (t4_in 77 (by decide +kernel) rfl), (t4_in 78 (by decide +kernel) rfl), (t1_in 1 (by decide +kernel) rfl), by decide, by decide +kernel⟩
theorem lkV_RL_200 : LkV RL 200 RX12 yX12_taken cX12_taken 4 (some .int) 2 := ⟨(t7_in 99 (by decide +kernel) rfl), (t7_in 100 (by decide +kernel) rfl), (t7_in 101 (by decide +kernel) rfl), (t7_in 102 (by decide +kernel) rfl), (t1_in 7 (by decide +kernel) rfl), by decide, by decide +kernel⟩
theorem lkV_RL_201 : LkV RL 201 RX11 yX11_act cX11_act 5 (some .int) 3 := ⟨(t4_in 80 (by decide +kernel) rfl), (t4_in 81 (by decide +kernel) rfl), (t4_in 82 (by decide +kernel) rfl), (t4_in 83 (by decide +kernel) rfl), (t1_in 1 (by decide +kernel) rfl), by decide, by decide +kernel⟩
theorem lkV_RL_204 : LkV RL 204 RX12 yX12_act cX12_act 5 (some .int) 3 := ⟨(t7_in 111 (by decide +kernel) rfl), (t7_in 112 (by decide +kernel) rfl), (t7_in 113 (by decide +kernel) rfl), (t7_in 114 (by decide +kernel) rfl), (t1_in 7 (by decide +kernel) rfl), by decide, by decide +kernel⟩
theorem lkV_RL_205 : LkV RL 205 RX11 yX11_trace cX11_trace 2 (some .int) 1 := ⟨(t5_in 40 (by decide +kernel) rfl), (t5_in 41 (by decide +kernel) rfl), (t5_in 42 (by decide +kernel) rfl), (t5_in 43 (by decide +kernel) rfl), (t1_in 1 (by decide +kernel) rfl), by decide, by decide +kernel⟩
theorem lkV_RL_208 : LkV RL 208 RX12 yX12_trace cX12_trace 2 (some .int) 1 := ⟨(t7_in 134 (by decide +kernel) rfl), (t7_in 135 (by decide +kernel) rfl), (t7_in 136 (by decide +kernel) rfl), (t7_in 137 (by decide +kernel) rfl), (t1_in 7 (by decide +kernel) rfl), by decide, by decide +kernel⟩
theorem lkV_RL_209 : LkV RL 209 RX11 yX11_many cX11_many 2 (some .int) 1 := ⟨(t5_in 44 (by decide +kernel) rfl), (t5_in 45 (by decide +kernel) rfl), (t5_in 46 (by decide +kernel) rfl), (t5_in 47 (by decide +kernel) rfl), (t1_in 1 (by decide +kernel) rfl), by decide, by decide +kernel⟩
theorem lkV_RL_212 : LkV RL 212 RX12 yX12_many cX12_many 2 (some .int) 1 := ⟨(t7_in 138 (by decide +kernel) rfl), (t7_in 139 (by decide +kernel) rfl), (t7_in 140 (by decide +kernel) rfl), (t7_in 141 (by decide +kernel) rfl), (t1_in 7 (by decide +kernel) rfl), by decide, by decide +kernel⟩
theorem lkV_RL_213 : LkV RL 213 RX11 yX11_keep cX11_keep 1 (some .int) 0 := ⟨(t5_in 48 (by decide +kernel) rfl), (t5_in 49 (by decide +kernel) rfl), (t5_in 50 (by decide +kernel) rfl), (t5_in 51 (by decide +kernel) rfl), (t1_in 1 (by decide +kernel) rfl), by decide, by decide +kernel⟩
theorem lkV_RL_216 : LkV RL 216 RX12 yX12_keep cX12_keep 1 (some .int) 0 := ⟨(t7_in 142 (by decide +kernel) rfl), (t7_in 143 (by decide +kernel) rfl), (t7_in 144 (by decide +kernel) rfl), (t7_in 145 (by decide +kernel) rfl), (t1_in 7 (by decide +kernel) rfl), by decide, by decide +kernel⟩
theorem lkV_RL_217 : LkV RL 217 RX11 yX11_again cX11_again 1 (some .int) 0 := ⟨(t5_in 58 (by decide +kernel) rfl), (t5_in 59 (by decide +kernel) rfl), (t5_in 60 (by decide +kernel) rfl), (t5_in 61 (by decide +kernel) rfl), (t1_in 1 (by decide +kernel) rfl), by decide, by decide +kernel⟩
theorem lkV_RL_220 : LkV RL 220 RX12 yX12_again cX12_again 1 (some .int) 0 := ⟨(t7_in 146 (by decide +kernel) rfl), (t7_in 147 (by decide +kernel) rfl), (t7_in 148 (by decide +kernel) rfl), (t7_in 149 (by decide +kernel) rfl), (t1_in 7 (by decide +kernel) rfl), by decide, by decide +kernel⟩
