/-! THE LAW, walked -/
def f_L_248 (L : Nat) (xs : Nat → Int32) (ko : Sh → Rw → Iw → Nat → Nat → Int32 → Option Int32) (S : Sh) (R : Rw) (I : Iw) (a1 a2 : Nat) (x3 : Int32) : Option Int32 := gp (scok L (x3 + (1 : Int32))) (gp (scok L (x3 + (2 : Int32))) (gp (scok L (x3 + (3 : Int32))) (gp (scok L (x3 + (4 : Int32))) (gp (sok S a1 11 12) (bd (f_X11_good S R I a1 (xs (x3 + (1 : Int32)).toNatClampNeg) (xs (x3 + (2 : Int32)).toNatClampNeg) (xs (x3 + (3 : Int32)).toNatClampNeg) (xs (x3 + (4 : Int32)).toNatClampNeg)) (fun r20 => gp (scok L (x3 + (1 : Int32))) (gp (scok L (x3 + (2 : Int32))) (gp (scok L (x3 + (3 : Int32))) (gp (scok L (x3 + (4 : Int32))) (gp (sok S a2 12 34) (bd (f_X12_good S R r20.1 a2 (xs (x3 + (1 : Int32)).toNatClampNeg) (xs (x3 + (2 : Int32)).toNatClampNeg) (xs (x3 + (3 : Int32)).toNatClampNeg) (xs (x3 + (4 : Int32)).toNatClampNeg)) (fun r26 => (if r20.2 = r26.2 then ko S R r26.1 a1 a2 (x3 + (5 : Int32)) else some (0 : Int32))))))))))))))
set_option maxHeartbeats 8000000 in
theorem b_L_248 {E : Ev} {p : Program} {l : Launch} {e : Env} {s : State} {m : MethodId} {below : List Frame} {meth : Method} {c : Code} {b L : Nat} {xs : Nat → Int32} (C : Cx E RL code 4 p s m c) (hr : meth.sig.returnType = ret) (hk : meth.locks = false) (hE : E.2.2.2.2.1 = s) (hX : va_X b L xs s s.heap) (hbl : b < E.1) {ko : Sh → Rw → Iw → Nat → Nat → Int32 → Option Int32} {n : Nat} (hko : ∀ (S : Sh) (R : Rw) (I : Iw) (a1 a2 : Nat) (x3 : Int32) (ce sl : Nat), ce + 2 * n ≤ 600000 → sl + 35 * n ≤ 7302250 → ko S R I a1 a2 x3 = some 1 → Wk E 4 p l e room_1 s m #[Value.ref b] below meth c ce sl (lw_Z below #[Value.ref b] s) 18 [(0, .ref b), (1, .ref (E.1 + a1)), (2, .ref (E.1 + a2)), (3, .int x3)] [] S R I) (S : Sh) (R : Rw) (I : Iw) (a1 a2 : Nat) (x3 : Int32) (ce sl : Nat) (hce : ce + 2 * (n + 1) ≤ 600000) (hsl : sl + 35 * (n + 1) ≤ 7302250) (h : f_L_248 L xs ko S R I a1 a2 x3 = some 1) : Wk E 4 p l e room_1 s m #[Value.ref b] below meth c ce sl (lw_Z below #[Value.ref b] s) 248 [(0, .ref b), (1, .ref (E.1 + a1)), (2, .ref (E.1 + a2)), (3, .int x3)] [] S R I := by
  rw [f_L_248] at h
  refine k_aloadn (pc := 248) C dL_law_248 (i := 1) rfl 1 rfl ?_
  refine k_aloadn (pc := 249) C dL_law_249 (i := 0) rfl 0 rfl ?_
  refine k_iloadn (pc := 250) C dL_law_250 (i := 3) rfl 3 rfl ?_
  refine k_iconst (pc := 251) C (v := (1 : Int32)) dL_law_251 (by decide) ?_
  refine k_iadd (pc := 252) C dL_law_252 ?_
  obtain ⟨ha15, h⟩ := gp_e h
  refine k_sld (pc := 253) C hE hX hbl ha15 dL_law_253 ?_
  refine k_aloadn (pc := 254) C dL_law_254 (i := 0) rfl 0 rfl ?_
  refine k_iloadn (pc := 255) C dL_law_255 (i := 3) rfl 3 rfl ?_
  refine k_iconst (pc := 256) C (v := (2 : Int32)) dL_law_256 (by decide) ?_
  refine k_iadd (pc := 257) C dL_law_257 ?_
  obtain ⟨ha16, h⟩ := gp_e h
  refine k_sld (pc := 258) C hE hX hbl ha16 dL_law_258 ?_
  refine k_aloadn (pc := 259) C dL_law_259 (i := 0) rfl 0 rfl ?_
  refine k_iloadn (pc := 260) C dL_law_260 (i := 3) rfl 3 rfl ?_
  refine k_iconst (pc := 261) C (v := (3 : Int32)) dL_law_261 (by decide) ?_
  refine k_iadd (pc := 262) C dL_law_262 ?_
  obtain ⟨ha17, h⟩ := gp_e h
  refine k_sld (pc := 263) C hE hX hbl ha17 dL_law_263 ?_
  refine k_aloadn (pc := 264) C dL_law_264 (i := 0) rfl 0 rfl ?_
  refine k_iloadn (pc := 265) C dL_law_265 (i := 3) rfl 3 rfl ?_
  refine k_iconst (pc := 266) C (v := (4 : Int32)) dL_law_266 (by decide) ?_
  refine k_iadd (pc := 267) C dL_law_267 ?_
  obtain ⟨ha18, h⟩ := gp_e h
  refine k_sld (pc := 268) C hE hX hbl ha18 dL_law_268 ?_
  obtain ⟨hs190, h⟩ := gp_e h
  have hs19 := sok_e hs190
  obtain ⟨r20, hr20, h⟩ := bd_e h
  refine k_V (pc := 269) (st := []) C (c_X11_good hr20) lkV_RL_13 hs19 rfl rfl rfl (Nat.le_of_ble_eq_true rfl) (Nat.le_of_ble_eq_true rfl) (Nat.le_of_ble_eq_true rfl) (by show ce + 0 ≤ 600000; omega) (by show sl + 0 ≤ 7302250; omega) dL_law_269 ?_
  refine k_nf (cells2 := ce) (slots2 := sl) (st2 := [.int r20.2]) rfl rfl rfl ?_
  refine k_aloadn (pc := 272) C dL_law_272 (i := 2) rfl 2 rfl ?_
  refine k_aloadn (pc := 273) C dL_law_273 (i := 0) rfl 0 rfl ?_
  refine k_iloadn (pc := 274) C dL_law_274 (i := 3) rfl 3 rfl ?_
  refine k_iconst (pc := 275) C (v := (1 : Int32)) dL_law_275 (by decide) ?_
  refine k_iadd (pc := 276) C dL_law_276 ?_
  obtain ⟨ha21, h⟩ := gp_e h
  refine k_sld (pc := 277) C hE hX hbl ha21 dL_law_277 ?_
  refine k_aloadn (pc := 278) C dL_law_278 (i := 0) rfl 0 rfl ?_
  refine k_iloadn (pc := 279) C dL_law_279 (i := 3) rfl 3 rfl ?_
  refine k_iconst (pc := 280) C (v := (2 : Int32)) dL_law_280 (by decide) ?_
  refine k_iadd (pc := 281) C dL_law_281 ?_
  obtain ⟨ha22, h⟩ := gp_e h
  refine k_sld (pc := 282) C hE hX hbl ha22 dL_law_282 ?_
  refine k_aloadn (pc := 283) C dL_law_283 (i := 0) rfl 0 rfl ?_
  refine k_iloadn (pc := 284) C dL_law_284 (i := 3) rfl 3 rfl ?_
  refine k_iconst (pc := 285) C (v := (3 : Int32)) dL_law_285 (by decide) ?_
  refine k_iadd (pc := 286) C dL_law_286 ?_
  obtain ⟨ha23, h⟩ := gp_e h
  refine k_sld (pc := 287) C hE hX hbl ha23 dL_law_287 ?_
  refine k_aloadn (pc := 288) C dL_law_288 (i := 0) rfl 0 rfl ?_
  refine k_iloadn (pc := 289) C dL_law_289 (i := 3) rfl 3 rfl ?_
  refine k_iconst (pc := 290) C (v := (4 : Int32)) dL_law_290 (by decide) ?_
  refine k_iadd (pc := 291) C dL_law_291 ?_
  obtain ⟨ha24, h⟩ := gp_e h
  refine k_sld (pc := 292) C hE hX hbl ha24 dL_law_292 ?_
  obtain ⟨hs250, h⟩ := gp_e h
  have hs25 := sok_e hs250
  obtain ⟨r26, hr26, h⟩ := bd_e h
  refine k_V (pc := 293) (st := [.int r20.2]) C (c_X12_good hr26) lkV_RL_17 hs25 rfl rfl rfl (Nat.le_of_ble_eq_true rfl) (Nat.le_of_ble_eq_true rfl) (Nat.le_of_ble_eq_true rfl) (by show ce + 0 ≤ 600000; omega) (by show sl + 0 ≤ 7302250; omega) dL_law_293 ?_
  refine k_nf (cells2 := ce) (slots2 := sl) (st2 := [.int r26.2, .int r20.2]) rfl rfl rfl ?_
  refine k_icmp_eq (pc := 296) C dL_law_296 (tgt := 1508) (by decide) (fun hc27 => ?_) (fun hc27 => ?_)
  · rw [if_pos hc27] at h
    refine k_iinc (pc := 1508) C dL_law_1508 3 rfl (v := x3 + (5 : Int32)) (by rfl) (by decide) (L2 := [(0, .ref b), (1, .ref (E.1 + a1)), (2, .ref (E.1 + a2)), (3, .int (x3 + (5 : Int32)))]) rfl ?_
    refine k_goto (pc := 1511) C dL_law_1511 (tgt := 18) (by decide) ?_
    exact hko _ _ _ _ _ _ _ _ (by omega) (by omega) h
  · rw [if_neg hc27] at h
    refine k_iconst (pc := 299) C (v := (0 : Int32)) dL_law_299 (by decide) ?_
    exact absurd h (by decide)
def f_L_301 (L : Nat) (xs : Nat → Int32) (ko : Sh → Rw → Iw → Nat → Nat → Int32 → Option Int32) (S : Sh) (R : Rw) (I : Iw) (a1 a2 : Nat) (x3 : Int32) : Option Int32 := gp (scok L (x3 + (1 : Int32))) (gp (scok L (x3 + (2 : Int32))) (gp (sok S a1 11 12) (bd (f_X11_goodOf S R I a1 (xs (x3 + (1 : Int32)).toNatClampNeg) (xs (x3 + (2 : Int32)).toNatClampNeg)) (fun r31 => gp (scok L (x3 + (1 : Int32))) (gp (scok L (x3 + (2 : Int32))) (gp (sok S a2 12 34) (bd (f_X12_goodOf S R I a2 (xs (x3 + (1 : Int32)).toNatClampNeg) (xs (x3 + (2 : Int32)).toNatClampNeg)) (fun r35 => (if r31 = r35.2 then ko S R r35.1 a1 a2 (x3 + (5 : Int32)) else some (0 : Int32))))))))))
set_option maxHeartbeats 8000000 in
theorem b_L_301 {E : Ev} {p : Program} {l : Launch} {e : Env} {s : State} {m : MethodId} {below : List Frame} {meth : Method} {c : Code} {b L : Nat} {xs : Nat → Int32} (C : Cx E RL code 4 p s m c) (hr : meth.sig.returnType = ret) (hk : meth.locks = false) (hE : E.2.2.2.2.1 = s) (hX : va_X b L xs s s.heap) (hbl : b < E.1) {ko : Sh → Rw → Iw → Nat → Nat → Int32 → Option Int32} {n : Nat} (hko : ∀ (S : Sh) (R : Rw) (I : Iw) (a1 a2 : Nat) (x3 : Int32) (ce sl : Nat), ce + 2 * n ≤ 600000 → sl + 35 * n ≤ 7302250 → ko S R I a1 a2 x3 = some 1 → Wk E 4 p l e room_1 s m #[Value.ref b] below meth c ce sl (lw_Z below #[Value.ref b] s) 18 [(0, .ref b), (1, .ref (E.1 + a1)), (2, .ref (E.1 + a2)), (3, .int x3)] [] S R I) (S : Sh) (R : Rw) (I : Iw) (a1 a2 : Nat) (x3 : Int32) (ce sl : Nat) (hce : ce + 2 * (n + 1) ≤ 600000) (hsl : sl + 35 * (n + 1) ≤ 7302250) (h : f_L_301 L xs ko S R I a1 a2 x3 = some 1) : Wk E 4 p l e room_1 s m #[Value.ref b] below meth c ce sl (lw_Z below #[Value.ref b] s) 301 [(0, .ref b), (1, .ref (E.1 + a1)), (2, .ref (E.1 + a2)), (3, .int x3)] [] S R I := by
  rw [f_L_301] at h
  refine k_aloadn (pc := 301) C dL_law_301 (i := 1) rfl 1 rfl ?_
  refine k_aloadn (pc := 302) C dL_law_302 (i := 0) rfl 0 rfl ?_
  refine k_iloadn (pc := 303) C dL_law_303 (i := 3) rfl 3 rfl ?_
  refine k_iconst (pc := 304) C (v := (1 : Int32)) dL_law_304 (by decide) ?_
  refine k_iadd (pc := 305) C dL_law_305 ?_
  obtain ⟨ha28, h⟩ := gp_e h
  refine k_sld (pc := 306) C hE hX hbl ha28 dL_law_306 ?_
  refine k_aloadn (pc := 307) C dL_law_307 (i := 0) rfl 0 rfl ?_
  refine k_iloadn (pc := 308) C dL_law_308 (i := 3) rfl 3 rfl ?_
  refine k_iconst (pc := 309) C (v := (2 : Int32)) dL_law_309 (by decide) ?_
  refine k_iadd (pc := 310) C dL_law_310 ?_
  obtain ⟨ha29, h⟩ := gp_e h
  refine k_sld (pc := 311) C hE hX hbl ha29 dL_law_311 ?_
  obtain ⟨hs300, h⟩ := gp_e h
  have hs30 := sok_e hs300
  obtain ⟨r31, hr31, h⟩ := bd_e h
  refine k_V (pc := 312) (st := []) C (c_X11_goodOf hr31) lkV_RL_18 hs30 rfl rfl rfl (Nat.le_of_ble_eq_true rfl) (Nat.le_of_ble_eq_true rfl) (Nat.le_of_ble_eq_true rfl) (by show ce + 0 ≤ 600000; omega) (by show sl + 0 ≤ 7302250; omega) dL_law_312 ?_
  refine k_nf (cells2 := ce) (slots2 := sl) (st2 := [.int r31]) rfl rfl rfl ?_
  refine k_aloadn (pc := 315) C dL_law_315 (i := 2) rfl 2 rfl ?_
  refine k_aloadn (pc := 316) C dL_law_316 (i := 0) rfl 0 rfl ?_
  refine k_iloadn (pc := 317) C dL_law_317 (i := 3) rfl 3 rfl ?_
  refine k_iconst (pc := 318) C (v := (1 : Int32)) dL_law_318 (by decide) ?_
  refine k_iadd (pc := 319) C dL_law_319 ?_
  obtain ⟨ha32, h⟩ := gp_e h
  refine k_sld (pc := 320) C hE hX hbl ha32 dL_law_320 ?_
  refine k_aloadn (pc := 321) C dL_law_321 (i := 0) rfl 0 rfl ?_
  refine k_iloadn (pc := 322) C dL_law_322 (i := 3) rfl 3 rfl ?_
  refine k_iconst (pc := 323) C (v := (2 : Int32)) dL_law_323 (by decide) ?_
  refine k_iadd (pc := 324) C dL_law_324 ?_
  obtain ⟨ha33, h⟩ := gp_e h
  refine k_sld (pc := 325) C hE hX hbl ha33 dL_law_325 ?_
  obtain ⟨hs340, h⟩ := gp_e h
  have hs34 := sok_e hs340
  obtain ⟨r35, hr35, h⟩ := bd_e h
  refine k_V (pc := 326) (st := [.int r31]) C (c_X12_goodOf hr35) lkV_RL_22 hs34 rfl rfl rfl (Nat.le_of_ble_eq_true rfl) (Nat.le_of_ble_eq_true rfl) (Nat.le_of_ble_eq_true rfl) (by show ce + 0 ≤ 600000; omega) (by show sl + 0 ≤ 7302250; omega) dL_law_326 ?_
  refine k_nf (cells2 := ce) (slots2 := sl) (st2 := [.int r35.2, .int r31]) rfl rfl rfl ?_
  refine k_icmp_eq (pc := 329) C dL_law_329 (tgt := 1508) (by decide) (fun hc36 => ?_) (fun hc36 => ?_)
  · rw [if_pos hc36] at h
    refine k_iinc (pc := 1508) C dL_law_1508 3 rfl (v := x3 + (5 : Int32)) (by rfl) (by decide) (L2 := [(0, .ref b), (1, .ref (E.1 + a1)), (2, .ref (E.1 + a2)), (3, .int (x3 + (5 : Int32)))]) rfl ?_
    refine k_goto (pc := 1511) C dL_law_1511 (tgt := 18) (by decide) ?_
    exact hko _ _ _ _ _ _ _ _ (by omega) (by omega) h
  · rw [if_neg hc36] at h
    refine k_iconst (pc := 332) C (v := (0 : Int32)) dL_law_332 (by decide) ?_
    exact absurd h (by decide)
def f_L_334 (L : Nat) (xs : Nat → Int32) (ko : Sh → Rw → Iw → Nat → Nat → Int32 → Option Int32) (S : Sh) (R : Rw) (I : Iw) (a1 a2 : Nat) (x3 : Int32) : Option Int32 := gp (scok L (x3 + (1 : Int32))) (gp (scok L (x3 + (2 : Int32))) (gp (scok L (x3 + (3 : Int32))) (gp (sok S a1 11 12) (bd (f_X11_change S R I a1 (xs (x3 + (1 : Int32)).toNatClampNeg) (xs (x3 + (2 : Int32)).toNatClampNeg) (xs (x3 + (3 : Int32)).toNatClampNeg)) (fun r41 => gp (scok L (x3 + (1 : Int32))) (gp (scok L (x3 + (2 : Int32))) (gp (scok L (x3 + (3 : Int32))) (gp (sok S a2 12 34) (bd (f_X12_change S R r41.1 a2 (xs (x3 + (1 : Int32)).toNatClampNeg) (xs (x3 + (2 : Int32)).toNatClampNeg) (xs (x3 + (3 : Int32)).toNatClampNeg)) (fun r46 => (if r41.2 = r46.2 then ko S R r46.1 a1 a2 (x3 + (5 : Int32)) else some (0 : Int32))))))))))))
set_option maxHeartbeats 8000000 in
theorem b_L_334 {E : Ev} {p : Program} {l : Launch} {e : Env} {s : State} {m : MethodId} {below : List Frame} {meth : Method} {c : Code} {b L : Nat} {xs : Nat → Int32} (C : Cx E RL code 4 p s m c) (hr : meth.sig.returnType = ret) (hk : meth.locks = false) (hE : E.2.2.2.2.1 = s) (hX : va_X b L xs s s.heap) (hbl : b < E.1) {ko : Sh → Rw → Iw → Nat → Nat → Int32 → Option Int32} {n : Nat} (hko : ∀ (S : Sh) (R : Rw) (I : Iw) (a1 a2 : Nat) (x3 : Int32) (ce sl : Nat), ce + 2 * n ≤ 600000 → sl + 35 * n ≤ 7302250 → ko S R I a1 a2 x3 = some 1 → Wk E 4 p l e room_1 s m #[Value.ref b] below meth c ce sl (lw_Z below #[Value.ref b] s) 18 [(0, .ref b), (1, .ref (E.1 + a1)), (2, .ref (E.1 + a2)), (3, .int x3)] [] S R I) (S : Sh) (R : Rw) (I : Iw) (a1 a2 : Nat) (x3 : Int32) (ce sl : Nat) (hce : ce + 2 * (n + 1) ≤ 600000) (hsl : sl + 35 * (n + 1) ≤ 7302250) (h : f_L_334 L xs ko S R I a1 a2 x3 = some 1) : Wk E 4 p l e room_1 s m #[Value.ref b] below meth c ce sl (lw_Z below #[Value.ref b] s) 334 [(0, .ref b), (1, .ref (E.1 + a1)), (2, .ref (E.1 + a2)), (3, .int x3)] [] S R I := by
  rw [f_L_334] at h
  refine k_aloadn (pc := 334) C dL_law_334 (i := 1) rfl 1 rfl ?_
  refine k_aloadn (pc := 335) C dL_law_335 (i := 0) rfl 0 rfl ?_
  refine k_iloadn (pc := 336) C dL_law_336 (i := 3) rfl 3 rfl ?_
  refine k_iconst (pc := 337) C (v := (1 : Int32)) dL_law_337 (by decide) ?_
  refine k_iadd (pc := 338) C dL_law_338 ?_
  obtain ⟨ha37, h⟩ := gp_e h
  refine k_sld (pc := 339) C hE hX hbl ha37 dL_law_339 ?_
  refine k_aloadn (pc := 340) C dL_law_340 (i := 0) rfl 0 rfl ?_
  refine k_iloadn (pc := 341) C dL_law_341 (i := 3) rfl 3 rfl ?_
  refine k_iconst (pc := 342) C (v := (2 : Int32)) dL_law_342 (by decide) ?_
  refine k_iadd (pc := 343) C dL_law_343 ?_
  obtain ⟨ha38, h⟩ := gp_e h
  refine k_sld (pc := 344) C hE hX hbl ha38 dL_law_344 ?_
  refine k_aloadn (pc := 345) C dL_law_345 (i := 0) rfl 0 rfl ?_
  refine k_iloadn (pc := 346) C dL_law_346 (i := 3) rfl 3 rfl ?_
  refine k_iconst (pc := 347) C (v := (3 : Int32)) dL_law_347 (by decide) ?_
  refine k_iadd (pc := 348) C dL_law_348 ?_
  obtain ⟨ha39, h⟩ := gp_e h
  refine k_sld (pc := 349) C hE hX hbl ha39 dL_law_349 ?_
  obtain ⟨hs400, h⟩ := gp_e h
  have hs40 := sok_e hs400
  obtain ⟨r41, hr41, h⟩ := bd_e h
  refine k_V (pc := 350) (st := []) C (c_X11_change hr41) lkV_RL_23 hs40 rfl rfl rfl (Nat.le_of_ble_eq_true rfl) (Nat.le_of_ble_eq_true rfl) (Nat.le_of_ble_eq_true rfl) (by show ce + 0 ≤ 600000; omega) (by show sl + 0 ≤ 7302250; omega) dL_law_350 ?_
  refine k_nf (cells2 := ce) (slots2 := sl) (st2 := [.int r41.2]) rfl rfl rfl ?_
  refine k_aloadn (pc := 353) C dL_law_353 (i := 2) rfl 2 rfl ?_
  refine k_aloadn (pc := 354) C dL_law_354 (i := 0) rfl 0 rfl ?_
  refine k_iloadn (pc := 355) C dL_law_355 (i := 3) rfl 3 rfl ?_
  refine k_iconst (pc := 356) C (v := (1 : Int32)) dL_law_356 (by decide) ?_
  refine k_iadd (pc := 357) C dL_law_357 ?_
  obtain ⟨ha42, h⟩ := gp_e h
  refine k_sld (pc := 358) C hE hX hbl ha42 dL_law_358 ?_
  refine k_aloadn (pc := 359) C dL_law_359 (i := 0) rfl 0 rfl ?_
  refine k_iloadn (pc := 360) C dL_law_360 (i := 3) rfl 3 rfl ?_
  refine k_iconst (pc := 361) C (v := (2 : Int32)) dL_law_361 (by decide) ?_
  refine k_iadd (pc := 362) C dL_law_362 ?_
  obtain ⟨ha43, h⟩ := gp_e h
  refine k_sld (pc := 363) C hE hX hbl ha43 dL_law_363 ?_
  refine k_aloadn (pc := 364) C dL_law_364 (i := 0) rfl 0 rfl ?_
  refine k_iloadn (pc := 365) C dL_law_365 (i := 3) rfl 3 rfl ?_
  refine k_iconst (pc := 366) C (v := (3 : Int32)) dL_law_366 (by decide) ?_
  refine k_iadd (pc := 367) C dL_law_367 ?_
  obtain ⟨ha44, h⟩ := gp_e h
  refine k_sld (pc := 368) C hE hX hbl ha44 dL_law_368 ?_
  obtain ⟨hs450, h⟩ := gp_e h
  have hs45 := sok_e hs450
  obtain ⟨r46, hr46, h⟩ := bd_e h
  refine k_V (pc := 369) (st := [.int r41.2]) C (c_X12_change hr46) lkV_RL_27 hs45 rfl rfl rfl (Nat.le_of_ble_eq_true rfl) (Nat.le_of_ble_eq_true rfl) (Nat.le_of_ble_eq_true rfl) (by show ce + 0 ≤ 600000; omega) (by show sl + 0 ≤ 7302250; omega) dL_law_369 ?_
  refine k_nf (cells2 := ce) (slots2 := sl) (st2 := [.int r46.2, .int r41.2]) rfl rfl rfl ?_
  refine k_icmp_eq (pc := 372) C dL_law_372 (tgt := 1508) (by decide) (fun hc47 => ?_) (fun hc47 => ?_)
  · rw [if_pos hc47] at h
    refine k_iinc (pc := 1508) C dL_law_1508 3 rfl (v := x3 + (5 : Int32)) (by rfl) (by decide) (L2 := [(0, .ref b), (1, .ref (E.1 + a1)), (2, .ref (E.1 + a2)), (3, .int (x3 + (5 : Int32)))]) rfl ?_
    refine k_goto (pc := 1511) C dL_law_1511 (tgt := 18) (by decide) ?_
    exact hko _ _ _ _ _ _ _ _ (by omega) (by omega) h
  · rw [if_neg hc47] at h
    refine k_iconst (pc := 375) C (v := (0 : Int32)) dL_law_375 (by decide) ?_
    exact absurd h (by decide)
def f_L_377 (L : Nat) (xs : Nat → Int32) (ko : Sh → Rw → Iw → Nat → Nat → Int32 → Option Int32) (S : Sh) (R : Rw) (I : Iw) (a1 a2 : Nat) (x3 : Int32) : Option Int32 := gp (scok L (x3 + (1 : Int32))) (gp (scok L (x3 + (2 : Int32))) (gp (sok S a1 11 12) (bd (f_X11_remake S R I a1 (xs (x3 + (1 : Int32)).toNatClampNeg) (xs (x3 + (2 : Int32)).toNatClampNeg)) (fun r51 => gp (scok L (x3 + (1 : Int32))) (gp (scok L (x3 + (2 : Int32))) (gp (sok S a2 12 34) (bd (f_X12_remake S R r51.1 a2 (xs (x3 + (1 : Int32)).toNatClampNeg) (xs (x3 + (2 : Int32)).toNatClampNeg)) (fun r55 => (if r51.2 = r55.2 then ko S R r55.1 a1 a2 (x3 + (5 : Int32)) else some (0 : Int32))))))))))
set_option maxHeartbeats 8000000 in
theorem b_L_377 {E : Ev} {p : Program} {l : Launch} {e : Env} {s : State} {m : MethodId} {below : List Frame} {meth : Method} {c : Code} {b L : Nat} {xs : Nat → Int32} (C : Cx E RL code 4 p s m c) (hr : meth.sig.returnType = ret) (hk : meth.locks = false) (hE : E.2.2.2.2.1 = s) (hX : va_X b L xs s s.heap) (hbl : b < E.1) {ko : Sh → Rw → Iw → Nat → Nat → Int32 → Option Int32} {n : Nat} (hko : ∀ (S : Sh) (R : Rw) (I : Iw) (a1 a2 : Nat) (x3 : Int32) (ce sl : Nat), ce + 2 * n ≤ 600000 → sl + 35 * n ≤ 7302250 → ko S R I a1 a2 x3 = some 1 → Wk E 4 p l e room_1 s m #[Value.ref b] below meth c ce sl (lw_Z below #[Value.ref b] s) 18 [(0, .ref b), (1, .ref (E.1 + a1)), (2, .ref (E.1 + a2)), (3, .int x3)] [] S R I) (S : Sh) (R : Rw) (I : Iw) (a1 a2 : Nat) (x3 : Int32) (ce sl : Nat) (hce : ce + 2 * (n + 1) ≤ 600000) (hsl : sl + 35 * (n + 1) ≤ 7302250) (h : f_L_377 L xs ko S R I a1 a2 x3 = some 1) : Wk E 4 p l e room_1 s m #[Value.ref b] below meth c ce sl (lw_Z below #[Value.ref b] s) 377 [(0, .ref b), (1, .ref (E.1 + a1)), (2, .ref (E.1 + a2)), (3, .int x3)] [] S R I := by
  rw [f_L_377] at h
  refine k_aloadn (pc := 377) C dL_law_377 (i := 1) rfl 1 rfl ?_
  refine k_aloadn (pc := 378) C dL_law_378 (i := 0) rfl 0 rfl ?_
  refine k_iloadn (pc := 379) C dL_law_379 (i := 3) rfl 3 rfl ?_
  refine k_iconst (pc := 380) C (v := (1 : Int32)) dL_law_380 (by decide) ?_
  refine k_iadd (pc := 381) C dL_law_381 ?_
  obtain ⟨ha48, h⟩ := gp_e h
  refine k_sld (pc := 382) C hE hX hbl ha48 dL_law_382 ?_
  refine k_aloadn (pc := 383) C dL_law_383 (i := 0) rfl 0 rfl ?_
  refine k_iloadn (pc := 384) C dL_law_384 (i := 3) rfl 3 rfl ?_
  refine k_iconst (pc := 385) C (v := (2 : Int32)) dL_law_385 (by decide) ?_
  refine k_iadd (pc := 386) C dL_law_386 ?_
  obtain ⟨ha49, h⟩ := gp_e h
  refine k_sld (pc := 387) C hE hX hbl ha49 dL_law_387 ?_
  obtain ⟨hs500, h⟩ := gp_e h
  have hs50 := sok_e hs500
  obtain ⟨r51, hr51, h⟩ := bd_e h
  refine k_V (pc := 388) (st := []) C (c_X11_remake hr51) lkV_RL_28 hs50 rfl rfl rfl (Nat.le_of_ble_eq_true rfl) (Nat.le_of_ble_eq_true rfl) (Nat.le_of_ble_eq_true rfl) (by show ce + 0 ≤ 600000; omega) (by show sl + 0 ≤ 7302250; omega) dL_law_388 ?_
  refine k_nf (cells2 := ce) (slots2 := sl) (st2 := [.int r51.2]) rfl rfl rfl ?_
  refine k_aloadn (pc := 391) C dL_law_391 (i := 2) rfl 2 rfl ?_
  refine k_aloadn (pc := 392) C dL_law_392 (i := 0) rfl 0 rfl ?_
  refine k_iloadn (pc := 393) C dL_law_393 (i := 3) rfl 3 rfl ?_
  refine k_iconst (pc := 394) C (v := (1 : Int32)) dL_law_394 (by decide) ?_
  refine k_iadd (pc := 395) C dL_law_395 ?_
  obtain ⟨ha52, h⟩ := gp_e h
  refine k_sld (pc := 396) C hE hX hbl ha52 dL_law_396 ?_
  refine k_aloadn (pc := 397) C dL_law_397 (i := 0) rfl 0 rfl ?_
  refine k_iloadn (pc := 398) C dL_law_398 (i := 3) rfl 3 rfl ?_
  refine k_iconst (pc := 399) C (v := (2 : Int32)) dL_law_399 (by decide) ?_
  refine k_iadd (pc := 400) C dL_law_400 ?_
  obtain ⟨ha53, h⟩ := gp_e h
  refine k_sld (pc := 401) C hE hX hbl ha53 dL_law_401 ?_
  obtain ⟨hs540, h⟩ := gp_e h
  have hs54 := sok_e hs540
  obtain ⟨r55, hr55, h⟩ := bd_e h
  refine k_V (pc := 402) (st := [.int r51.2]) C (c_X12_remake hr55) lkV_RL_31 hs54 rfl rfl rfl (Nat.le_of_ble_eq_true rfl) (Nat.le_of_ble_eq_true rfl) (Nat.le_of_ble_eq_true rfl) (by show ce + 0 ≤ 600000; omega) (by show sl + 0 ≤ 7302250; omega) dL_law_402 ?_
  refine k_nf (cells2 := ce) (slots2 := sl) (st2 := [.int r55.2, .int r51.2]) rfl rfl rfl ?_
  refine k_icmp_eq (pc := 405) C dL_law_405 (tgt := 1508) (by decide) (fun hc56 => ?_) (fun hc56 => ?_)
  · rw [if_pos hc56] at h
    refine k_iinc (pc := 1508) C dL_law_1508 3 rfl (v := x3 + (5 : Int32)) (by rfl) (by decide) (L2 := [(0, .ref b), (1, .ref (E.1 + a1)), (2, .ref (E.1 + a2)), (3, .int (x3 + (5 : Int32)))]) rfl ?_
    refine k_goto (pc := 1511) C dL_law_1511 (tgt := 18) (by decide) ?_
    exact hko _ _ _ _ _ _ _ _ (by omega) (by omega) h
  · rw [if_neg hc56] at h
    refine k_iconst (pc := 408) C (v := (0 : Int32)) dL_law_408 (by decide) ?_
    exact absurd h (by decide)
def f_L_410 (L : Nat) (xs : Nat → Int32) (ko : Sh → Rw → Iw → Nat → Nat → Int32 → Option Int32) (S : Sh) (R : Rw) (I : Iw) (a1 a2 : Nat) (x3 : Int32) : Option Int32 := gp (scok L (x3 + (1 : Int32))) (gp (scok L (x3 + (2 : Int32))) (gp (sok S a1 11 12) (bd (f_X11_let S R I a1 (xs (x3 + (1 : Int32)).toNatClampNeg) (xs (x3 + (2 : Int32)).toNatClampNeg)) (fun r60 => gp (scok L (x3 + (1 : Int32))) (gp (scok L (x3 + (2 : Int32))) (gp (sok S a2 12 34) (bd (f_X12_let S R r60.1 a2 (xs (x3 + (1 : Int32)).toNatClampNeg) (xs (x3 + (2 : Int32)).toNatClampNeg)) (fun r64 => (if r60.2 = r64.2 then ko S R r64.1 a1 a2 (x3 + (5 : Int32)) else some (0 : Int32))))))))))
set_option maxHeartbeats 8000000 in
theorem b_L_410 {E : Ev} {p : Program} {l : Launch} {e : Env} {s : State} {m : MethodId} {below : List Frame} {meth : Method} {c : Code} {b L : Nat} {xs : Nat → Int32} (C : Cx E RL code 4 p s m c) (hr : meth.sig.returnType = ret) (hk : meth.locks = false) (hE : E.2.2.2.2.1 = s) (hX : va_X b L xs s s.heap) (hbl : b < E.1) {ko : Sh → Rw → Iw → Nat → Nat → Int32 → Option Int32} {n : Nat} (hko : ∀ (S : Sh) (R : Rw) (I : Iw) (a1 a2 : Nat) (x3 : Int32) (ce sl : Nat), ce + 2 * n ≤ 600000 → sl + 35 * n ≤ 7302250 → ko S R I a1 a2 x3 = some 1 → Wk E 4 p l e room_1 s m #[Value.ref b] below meth c ce sl (lw_Z below #[Value.ref b] s) 18 [(0, .ref b), (1, .ref (E.1 + a1)), (2, .ref (E.1 + a2)), (3, .int x3)] [] S R I) (S : Sh) (R : Rw) (I : Iw) (a1 a2 : Nat) (x3 : Int32) (ce sl : Nat) (hce : ce + 2 * (n + 1) ≤ 600000) (hsl : sl + 35 * (n + 1) ≤ 7302250) (h : f_L_410 L xs ko S R I a1 a2 x3 = some 1) : Wk E 4 p l e room_1 s m #[Value.ref b] below meth c ce sl (lw_Z below #[Value.ref b] s) 410 [(0, .ref b), (1, .ref (E.1 + a1)), (2, .ref (E.1 + a2)), (3, .int x3)] [] S R I := by
  rw [f_L_410] at h
  refine k_aloadn (pc := 410) C dL_law_410 (i := 1) rfl 1 rfl ?_
  refine k_aloadn (pc := 411) C dL_law_411 (i := 0) rfl 0 rfl ?_
  refine k_iloadn (pc := 412) C dL_law_412 (i := 3) rfl 3 rfl ?_
  refine k_iconst (pc := 413) C (v := (1 : Int32)) dL_law_413 (by decide) ?_
  refine k_iadd (pc := 414) C dL_law_414 ?_
  obtain ⟨ha57, h⟩ := gp_e h
  refine k_sld (pc := 415) C hE hX hbl ha57 dL_law_415 ?_
  refine k_aloadn (pc := 416) C dL_law_416 (i := 0) rfl 0 rfl ?_
  refine k_iloadn (pc := 417) C dL_law_417 (i := 3) rfl 3 rfl ?_
  refine k_iconst (pc := 418) C (v := (2 : Int32)) dL_law_418 (by decide) ?_
  refine k_iadd (pc := 419) C dL_law_419 ?_
  obtain ⟨ha58, h⟩ := gp_e h
  refine k_sld (pc := 420) C hE hX hbl ha58 dL_law_420 ?_
  obtain ⟨hs590, h⟩ := gp_e h
  have hs59 := sok_e hs590
  obtain ⟨r60, hr60, h⟩ := bd_e h
  refine k_V (pc := 421) (st := []) C (c_X11_let hr60) lkV_RL_32 hs59 rfl rfl rfl (Nat.le_of_ble_eq_true rfl) (Nat.le_of_ble_eq_true rfl) (Nat.le_of_ble_eq_true rfl) (by show ce + 0 ≤ 600000; omega) (by show sl + 0 ≤ 7302250; omega) dL_law_421 ?_
  refine k_nf (cells2 := ce) (slots2 := sl) (st2 := [.int r60.2]) rfl rfl rfl ?_
  refine k_aloadn (pc := 424) C dL_law_424 (i := 2) rfl 2 rfl ?_
  refine k_aloadn (pc := 425) C dL_law_425 (i := 0) rfl 0 rfl ?_
  refine k_iloadn (pc := 426) C dL_law_426 (i := 3) rfl 3 rfl ?_
  refine k_iconst (pc := 427) C (v := (1 : Int32)) dL_law_427 (by decide) ?_
  refine k_iadd (pc := 428) C dL_law_428 ?_
  obtain ⟨ha61, h⟩ := gp_e h
  refine k_sld (pc := 429) C hE hX hbl ha61 dL_law_429 ?_
  refine k_aloadn (pc := 430) C dL_law_430 (i := 0) rfl 0 rfl ?_
  refine k_iloadn (pc := 431) C dL_law_431 (i := 3) rfl 3 rfl ?_
  refine k_iconst (pc := 432) C (v := (2 : Int32)) dL_law_432 (by decide) ?_
  refine k_iadd (pc := 433) C dL_law_433 ?_
  obtain ⟨ha62, h⟩ := gp_e h
  refine k_sld (pc := 434) C hE hX hbl ha62 dL_law_434 ?_
  obtain ⟨hs630, h⟩ := gp_e h
  have hs63 := sok_e hs630
  obtain ⟨r64, hr64, h⟩ := bd_e h
  refine k_V (pc := 435) (st := [.int r60.2]) C (c_X12_let hr64) lkV_RL_35 hs63 rfl rfl rfl (Nat.le_of_ble_eq_true rfl) (Nat.le_of_ble_eq_true rfl) (Nat.le_of_ble_eq_true rfl) (by show ce + 0 ≤ 600000; omega) (by show sl + 0 ≤ 7302250; omega) dL_law_435 ?_
  refine k_nf (cells2 := ce) (slots2 := sl) (st2 := [.int r64.2, .int r60.2]) rfl rfl rfl ?_
  refine k_icmp_eq (pc := 438) C dL_law_438 (tgt := 1508) (by decide) (fun hc65 => ?_) (fun hc65 => ?_)
  · rw [if_pos hc65] at h
    refine k_iinc (pc := 1508) C dL_law_1508 3 rfl (v := x3 + (5 : Int32)) (by rfl) (by decide) (L2 := [(0, .ref b), (1, .ref (E.1 + a1)), (2, .ref (E.1 + a2)), (3, .int (x3 + (5 : Int32)))]) rfl ?_
    refine k_goto (pc := 1511) C dL_law_1511 (tgt := 18) (by decide) ?_
    exact hko _ _ _ _ _ _ _ _ (by omega) (by omega) h
  · rw [if_neg hc65] at h
    refine k_iconst (pc := 441) C (v := (0 : Int32)) dL_law_441 (by decide) ?_
    exact absurd h (by decide)
def f_L_443 (L : Nat) (xs : Nat → Int32) (ko : Sh → Rw → Iw → Nat → Nat → Int32 → Option Int32) (S : Sh) (R : Rw) (I : Iw) (a1 a2 : Nat) (x3 : Int32) : Option Int32 := gp (scok L (x3 + (1 : Int32))) (gp (scok L (x3 + (2 : Int32))) (gp (scok L (x3 + (3 : Int32))) (gp (sok S a1 11 12) (bd (f_X11_feed S R I a1 ((((xs (x3 + (1 : Int32)).toNatClampNeg).toInt64) <<< ((32 : Int32).toInt64 &&& 63)) ||| (((xs (x3 + (2 : Int32)).toNatClampNeg).toInt64) &&& (4294967295 : Int64))) (xs (x3 + (3 : Int32)).toNatClampNeg)) (fun r70 => gp (scok L (x3 + (1 : Int32))) (gp (scok L (x3 + (2 : Int32))) (gp (scok L (x3 + (3 : Int32))) (gp (sok S a2 12 34) (bd (f_X12_feed S R r70.1 a2 ((((xs (x3 + (1 : Int32)).toNatClampNeg).toInt64) <<< ((32 : Int32).toInt64 &&& 63)) ||| (((xs (x3 + (2 : Int32)).toNatClampNeg).toInt64) &&& (4294967295 : Int64))) (xs (x3 + (3 : Int32)).toNatClampNeg)) (fun r75 => (if r70.2 = r75.2 then ko S R r75.1 a1 a2 (x3 + (5 : Int32)) else some (0 : Int32))))))))))))
set_option maxHeartbeats 8000000 in
theorem b_L_443 {E : Ev} {p : Program} {l : Launch} {e : Env} {s : State} {m : MethodId} {below : List Frame} {meth : Method} {c : Code} {b L : Nat} {xs : Nat → Int32} (C : Cx E RL code 4 p s m c) (hr : meth.sig.returnType = ret) (hk : meth.locks = false) (hE : E.2.2.2.2.1 = s) (hX : va_X b L xs s s.heap) (hbl : b < E.1) {ko : Sh → Rw → Iw → Nat → Nat → Int32 → Option Int32} {n : Nat} (hko : ∀ (S : Sh) (R : Rw) (I : Iw) (a1 a2 : Nat) (x3 : Int32) (ce sl : Nat), ce + 2 * n ≤ 600000 → sl + 35 * n ≤ 7302250 → ko S R I a1 a2 x3 = some 1 → Wk E 4 p l e room_1 s m #[Value.ref b] below meth c ce sl (lw_Z below #[Value.ref b] s) 18 [(0, .ref b), (1, .ref (E.1 + a1)), (2, .ref (E.1 + a2)), (3, .int x3)] [] S R I) (S : Sh) (R : Rw) (I : Iw) (a1 a2 : Nat) (x3 : Int32) (ce sl : Nat) (hce : ce + 2 * (n + 1) ≤ 600000) (hsl : sl + 35 * (n + 1) ≤ 7302250) (h : f_L_443 L xs ko S R I a1 a2 x3 = some 1) : Wk E 4 p l e room_1 s m #[Value.ref b] below meth c ce sl (lw_Z below #[Value.ref b] s) 443 [(0, .ref b), (1, .ref (E.1 + a1)), (2, .ref (E.1 + a2)), (3, .int x3)] [] S R I := by
  rw [f_L_443] at h
  refine k_aloadn (pc := 443) C dL_law_443 (i := 1) rfl 1 rfl ?_
  refine k_aloadn (pc := 444) C dL_law_444 (i := 0) rfl 0 rfl ?_
  refine k_iloadn (pc := 445) C dL_law_445 (i := 3) rfl 3 rfl ?_
  refine k_iconst (pc := 446) C (v := (1 : Int32)) dL_law_446 (by decide) ?_
  refine k_iadd (pc := 447) C dL_law_447 ?_
  obtain ⟨ha66, h⟩ := gp_e h
  refine k_sld (pc := 448) C hE hX hbl ha66 dL_law_448 ?_
  refine k_i2l (pc := 449) C dL_law_449 ?_
  refine k_bipush (pc := 450) C (v := (32 : Int32)) dL_law_450 (by decide) ?_
  refine k_lshl (pc := 452) C dL_law_452 ?_
  refine k_aloadn (pc := 453) C dL_law_453 (i := 0) rfl 0 rfl ?_
  refine k_iloadn (pc := 454) C dL_law_454 (i := 3) rfl 3 rfl ?_
  refine k_iconst (pc := 455) C (v := (2 : Int32)) dL_law_455 (by decide) ?_
  refine k_iadd (pc := 456) C dL_law_456 ?_
  obtain ⟨ha67, h⟩ := gp_e h
  refine k_sld (pc := 457) C hE hX hbl ha67 dL_law_457 ?_
  refine k_i2l (pc := 458) C dL_law_458 ?_
  refine k_ldc2 (pc := 459) C (v := (4294967295 : Int64)) dL_law_459 (t7_in 150 (by decide +kernel) rfl) ?_
  refine k_land (pc := 462) C dL_law_462 ?_
  refine k_lor (pc := 463) C dL_law_463 ?_
  refine k_aloadn (pc := 464) C dL_law_464 (i := 0) rfl 0 rfl ?_
  refine k_iloadn (pc := 465) C dL_law_465 (i := 3) rfl 3 rfl ?_
  refine k_iconst (pc := 466) C (v := (3 : Int32)) dL_law_466 (by decide) ?_
  refine k_iadd (pc := 467) C dL_law_467 ?_
  obtain ⟨ha68, h⟩ := gp_e h
  refine k_sld (pc := 468) C hE hX hbl ha68 dL_law_468 ?_
  obtain ⟨hs690, h⟩ := gp_e h
  have hs69 := sok_e hs690
  obtain ⟨r70, hr70, h⟩ := bd_e h
  refine k_V (pc := 469) (st := []) C (c_X11_feed hr70) lkV_RL_38 hs69 rfl rfl rfl (Nat.le_of_ble_eq_true rfl) (Nat.le_of_ble_eq_true rfl) (Nat.le_of_ble_eq_true rfl) (by show ce + 0 ≤ 600000; omega) (by show sl + 0 ≤ 7302250; omega) dL_law_469 ?_
  refine k_nf (cells2 := ce) (slots2 := sl) (st2 := [.int r70.2]) rfl rfl rfl ?_
  refine k_aloadn (pc := 472) C dL_law_472 (i := 2) rfl 2 rfl ?_
  refine k_aloadn (pc := 473) C dL_law_473 (i := 0) rfl 0 rfl ?_
  refine k_iloadn (pc := 474) C dL_law_474 (i := 3) rfl 3 rfl ?_
  refine k_iconst (pc := 475) C (v := (1 : Int32)) dL_law_475 (by decide) ?_
  refine k_iadd (pc := 476) C dL_law_476 ?_
  obtain ⟨ha71, h⟩ := gp_e h
  refine k_sld (pc := 477) C hE hX hbl ha71 dL_law_477 ?_
  refine k_i2l (pc := 478) C dL_law_478 ?_
  refine k_bipush (pc := 479) C (v := (32 : Int32)) dL_law_479 (by decide) ?_
  refine k_lshl (pc := 481) C dL_law_481 ?_
  refine k_aloadn (pc := 482) C dL_law_482 (i := 0) rfl 0 rfl ?_
  refine k_iloadn (pc := 483) C dL_law_483 (i := 3) rfl 3 rfl ?_
  refine k_iconst (pc := 484) C (v := (2 : Int32)) dL_law_484 (by decide) ?_
  refine k_iadd (pc := 485) C dL_law_485 ?_
  obtain ⟨ha72, h⟩ := gp_e h
  refine k_sld (pc := 486) C hE hX hbl ha72 dL_law_486 ?_
  refine k_i2l (pc := 487) C dL_law_487 ?_
  refine k_ldc2 (pc := 488) C (v := (4294967295 : Int64)) dL_law_488 (t7_in 150 (by decide +kernel) rfl) ?_
  refine k_land (pc := 491) C dL_law_491 ?_
  refine k_lor (pc := 492) C dL_law_492 ?_
  refine k_aloadn (pc := 493) C dL_law_493 (i := 0) rfl 0 rfl ?_
  refine k_iloadn (pc := 494) C dL_law_494 (i := 3) rfl 3 rfl ?_
  refine k_iconst (pc := 495) C (v := (3 : Int32)) dL_law_495 (by decide) ?_
  refine k_iadd (pc := 496) C dL_law_496 ?_
  obtain ⟨ha73, h⟩ := gp_e h
  refine k_sld (pc := 497) C hE hX hbl ha73 dL_law_497 ?_
  obtain ⟨hs740, h⟩ := gp_e h
  have hs74 := sok_e hs740
  obtain ⟨r75, hr75, h⟩ := bd_e h
  refine k_V (pc := 498) (st := [.int r70.2]) C (c_X12_feed hr75) lkV_RL_42 hs74 rfl rfl rfl (Nat.le_of_ble_eq_true rfl) (Nat.le_of_ble_eq_true rfl) (Nat.le_of_ble_eq_true rfl) (by show ce + 0 ≤ 600000; omega) (by show sl + 0 ≤ 7302250; omega) dL_law_498 ?_
  refine k_nf (cells2 := ce) (slots2 := sl) (st2 := [.int r75.2, .int r70.2]) rfl rfl rfl ?_
  refine k_icmp_eq (pc := 501) C dL_law_501 (tgt := 1508) (by decide) (fun hc76 => ?_) (fun hc76 => ?_)
  · rw [if_pos hc76] at h
    refine k_iinc (pc := 1508) C dL_law_1508 3 rfl (v := x3 + (5 : Int32)) (by rfl) (by decide) (L2 := [(0, .ref b), (1, .ref (E.1 + a1)), (2, .ref (E.1 + a2)), (3, .int (x3 + (5 : Int32)))]) rfl ?_
    refine k_goto (pc := 1511) C dL_law_1511 (tgt := 18) (by decide) ?_
    exact hko _ _ _ _ _ _ _ _ (by omega) (by omega) h
  · rw [if_neg hc76] at h
    refine k_iconst (pc := 504) C (v := (0 : Int32)) dL_law_504 (by decide) ?_
    exact absurd h (by decide)
def f_L_506 (L : Nat) (xs : Nat → Int32) (ko : Sh → Rw → Iw → Nat → Nat → Int32 → Option Int32) (S : Sh) (R : Rw) (I : Iw) (a1 a2 : Nat) (x3 : Int32) : Option Int32 := gp (sok S a1 11 12) (bd (f_X11_rules S R I a1) (fun r78 => gp (sok S a2 12 34) (bd (f_X12_rules S R r78.1 a2) (fun r80 => (if r78.2 = r80.2 then ko S R r80.1 a1 a2 (x3 + (5 : Int32)) else some (0 : Int32))))))
set_option maxHeartbeats 8000000 in
theorem b_L_506 {E : Ev} {p : Program} {l : Launch} {e : Env} {s : State} {m : MethodId} {below : List Frame} {meth : Method} {c : Code} {b L : Nat} {xs : Nat → Int32} (C : Cx E RL code 4 p s m c) (hr : meth.sig.returnType = ret) (hk : meth.locks = false) (hE : E.2.2.2.2.1 = s) (hX : va_X b L xs s s.heap) (hbl : b < E.1) {ko : Sh → Rw → Iw → Nat → Nat → Int32 → Option Int32} {n : Nat} (hko : ∀ (S : Sh) (R : Rw) (I : Iw) (a1 a2 : Nat) (x3 : Int32) (ce sl : Nat), ce + 2 * n ≤ 600000 → sl + 35 * n ≤ 7302250 → ko S R I a1 a2 x3 = some 1 → Wk E 4 p l e room_1 s m #[Value.ref b] below meth c ce sl (lw_Z below #[Value.ref b] s) 18 [(0, .ref b), (1, .ref (E.1 + a1)), (2, .ref (E.1 + a2)), (3, .int x3)] [] S R I) (S : Sh) (R : Rw) (I : Iw) (a1 a2 : Nat) (x3 : Int32) (ce sl : Nat) (hce : ce + 2 * (n + 1) ≤ 600000) (hsl : sl + 35 * (n + 1) ≤ 7302250) (h : f_L_506 L xs ko S R I a1 a2 x3 = some 1) : Wk E 4 p l e room_1 s m #[Value.ref b] below meth c ce sl (lw_Z below #[Value.ref b] s) 506 [(0, .ref b), (1, .ref (E.1 + a1)), (2, .ref (E.1 + a2)), (3, .int x3)] [] S R I := by
  rw [f_L_506] at h
  refine k_aloadn (pc := 506) C dL_law_506 (i := 1) rfl 1 rfl ?_
  obtain ⟨hs770, h⟩ := gp_e h
  have hs77 := sok_e hs770
  obtain ⟨r78, hr78, h⟩ := bd_e h
  refine k_V (pc := 507) (st := []) C (c_X11_rules hr78) lkV_RL_43 hs77 rfl rfl rfl (Nat.le_of_ble_eq_true rfl) (Nat.le_of_ble_eq_true rfl) (Nat.le_of_ble_eq_true rfl) (by show ce + 0 ≤ 600000; omega) (by show sl + 0 ≤ 7302250; omega) dL_law_507 ?_
  refine k_nf (cells2 := ce) (slots2 := sl) (st2 := [.int r78.2]) rfl rfl rfl ?_
  refine k_aloadn (pc := 510) C dL_law_510 (i := 2) rfl 2 rfl ?_
  obtain ⟨hs790, h⟩ := gp_e h
  have hs79 := sok_e hs790
  obtain ⟨r80, hr80, h⟩ := bd_e h
  refine k_V (pc := 511) (st := [.int r78.2]) C (c_X12_rules hr80) lkV_RL_47 hs79 rfl rfl rfl (Nat.le_of_ble_eq_true rfl) (Nat.le_of_ble_eq_true rfl) (Nat.le_of_ble_eq_true rfl) (by show ce + 0 ≤ 600000; omega) (by show sl + 0 ≤ 7302250; omega) dL_law_511 ?_
  refine k_nf (cells2 := ce) (slots2 := sl) (st2 := [.int r80.2, .int r78.2]) rfl rfl rfl ?_
  refine k_icmp_eq (pc := 514) C dL_law_514 (tgt := 1508) (by decide) (fun hc81 => ?_) (fun hc81 => ?_)
  · rw [if_pos hc81] at h
    refine k_iinc (pc := 1508) C dL_law_1508 3 rfl (v := x3 + (5 : Int32)) (by rfl) (by decide) (L2 := [(0, .ref b), (1, .ref (E.1 + a1)), (2, .ref (E.1 + a2)), (3, .int (x3 + (5 : Int32)))]) rfl ?_
    refine k_goto (pc := 1511) C dL_law_1511 (tgt := 18) (by decide) ?_
    exact hko _ _ _ _ _ _ _ _ (by omega) (by omega) h
  · rw [if_neg hc81] at h
    refine k_iconst (pc := 517) C (v := (0 : Int32)) dL_law_517 (by decide) ?_
    exact absurd h (by decide)
def f_L_519 (L : Nat) (xs : Nat → Int32) (ko : Sh → Rw → Iw → Nat → Nat → Int32 → Option Int32) (S : Sh) (R : Rw) (I : Iw) (a1 a2 : Nat) (x3 : Int32) : Option Int32 := gp (scok L (x3 + (1 : Int32))) (gp (scok L (x3 + (2 : Int32))) (gp (sok S a1 11 12) (bd (f_X11_beside S R I a1 (xs (x3 + (1 : Int32)).toNatClampNeg) (xs (x3 + (2 : Int32)).toNatClampNeg)) (fun r85 => gp (scok L (x3 + (1 : Int32))) (gp (scok L (x3 + (2 : Int32))) (gp (sok S a2 12 34) (bd (f_X12_beside S R I a2 (xs (x3 + (1 : Int32)).toNatClampNeg) (xs (x3 + (2 : Int32)).toNatClampNeg)) (fun r89 => (if r85 = r89 then ko S R I a1 a2 (x3 + (5 : Int32)) else some (0 : Int32))))))))))
set_option maxHeartbeats 8000000 in
theorem b_L_519 {E : Ev} {p : Program} {l : Launch} {e : Env} {s : State} {m : MethodId} {below : List Frame} {meth : Method} {c : Code} {b L : Nat} {xs : Nat → Int32} (C : Cx E RL code 4 p s m c) (hr : meth.sig.returnType = ret) (hk : meth.locks = false) (hE : E.2.2.2.2.1 = s) (hX : va_X b L xs s s.heap) (hbl : b < E.1) {ko : Sh → Rw → Iw → Nat → Nat → Int32 → Option Int32} {n : Nat} (hko : ∀ (S : Sh) (R : Rw) (I : Iw) (a1 a2 : Nat) (x3 : Int32) (ce sl : Nat), ce + 2 * n ≤ 600000 → sl + 35 * n ≤ 7302250 → ko S R I a1 a2 x3 = some 1 → Wk E 4 p l e room_1 s m #[Value.ref b] below meth c ce sl (lw_Z below #[Value.ref b] s) 18 [(0, .ref b), (1, .ref (E.1 + a1)), (2, .ref (E.1 + a2)), (3, .int x3)] [] S R I) (S : Sh) (R : Rw) (I : Iw) (a1 a2 : Nat) (x3 : Int32) (ce sl : Nat) (hce : ce + 2 * (n + 1) ≤ 600000) (hsl : sl + 35 * (n + 1) ≤ 7302250) (h : f_L_519 L xs ko S R I a1 a2 x3 = some 1) : Wk E 4 p l e room_1 s m #[Value.ref b] below meth c ce sl (lw_Z below #[Value.ref b] s) 519 [(0, .ref b), (1, .ref (E.1 + a1)), (2, .ref (E.1 + a2)), (3, .int x3)] [] S R I := by
  rw [f_L_519] at h
  refine k_aloadn (pc := 519) C dL_law_519 (i := 1) rfl 1 rfl ?_
  refine k_aloadn (pc := 520) C dL_law_520 (i := 0) rfl 0 rfl ?_
  refine k_iloadn (pc := 521) C dL_law_521 (i := 3) rfl 3 rfl ?_
  refine k_iconst (pc := 522) C (v := (1 : Int32)) dL_law_522 (by decide) ?_
  refine k_iadd (pc := 523) C dL_law_523 ?_
  obtain ⟨ha82, h⟩ := gp_e h
  refine k_sld (pc := 524) C hE hX hbl ha82 dL_law_524 ?_
  refine k_aloadn (pc := 525) C dL_law_525 (i := 0) rfl 0 rfl ?_
  refine k_iloadn (pc := 526) C dL_law_526 (i := 3) rfl 3 rfl ?_
  refine k_iconst (pc := 527) C (v := (2 : Int32)) dL_law_527 (by decide) ?_
  refine k_iadd (pc := 528) C dL_law_528 ?_
  obtain ⟨ha83, h⟩ := gp_e h
  refine k_sld (pc := 529) C hE hX hbl ha83 dL_law_529 ?_
  obtain ⟨hs840, h⟩ := gp_e h
  have hs84 := sok_e hs840
  obtain ⟨r85, hr85, h⟩ := bd_e h
  refine k_V (pc := 530) (st := []) C (c_X11_beside hr85) lkV_RL_48 hs84 rfl rfl rfl (Nat.le_of_ble_eq_true rfl) (Nat.le_of_ble_eq_true rfl) (Nat.le_of_ble_eq_true rfl) (by show ce + 0 ≤ 600000; omega) (by show sl + 0 ≤ 7302250; omega) dL_law_530 ?_
  refine k_nf (cells2 := ce) (slots2 := sl) (st2 := [.int r85]) rfl rfl rfl ?_
  refine k_aloadn (pc := 533) C dL_law_533 (i := 2) rfl 2 rfl ?_
  refine k_aloadn (pc := 534) C dL_law_534 (i := 0) rfl 0 rfl ?_
  refine k_iloadn (pc := 535) C dL_law_535 (i := 3) rfl 3 rfl ?_
  refine k_iconst (pc := 536) C (v := (1 : Int32)) dL_law_536 (by decide) ?_
  refine k_iadd (pc := 537) C dL_law_537 ?_
  obtain ⟨ha86, h⟩ := gp_e h
  refine k_sld (pc := 538) C hE hX hbl ha86 dL_law_538 ?_
  refine k_aloadn (pc := 539) C dL_law_539 (i := 0) rfl 0 rfl ?_
  refine k_iloadn (pc := 540) C dL_law_540 (i := 3) rfl 3 rfl ?_
  refine k_iconst (pc := 541) C (v := (2 : Int32)) dL_law_541 (by decide) ?_
  refine k_iadd (pc := 542) C dL_law_542 ?_
  obtain ⟨ha87, h⟩ := gp_e h
  refine k_sld (pc := 543) C hE hX hbl ha87 dL_law_543 ?_
  obtain ⟨hs880, h⟩ := gp_e h
  have hs88 := sok_e hs880
  obtain ⟨r89, hr89, h⟩ := bd_e h
  refine k_V (pc := 544) (st := [.int r85]) C (c_X12_beside hr89) lkV_RL_51 hs88 rfl rfl rfl (Nat.le_of_ble_eq_true rfl) (Nat.le_of_ble_eq_true rfl) (Nat.le_of_ble_eq_true rfl) (by show ce + 0 ≤ 600000; omega) (by show sl + 0 ≤ 7302250; omega) dL_law_544 ?_
  refine k_nf (cells2 := ce) (slots2 := sl) (st2 := [.int r89, .int r85]) rfl rfl rfl ?_
  refine k_icmp_eq (pc := 547) C dL_law_547 (tgt := 1508) (by decide) (fun hc90 => ?_) (fun hc90 => ?_)
  · rw [if_pos hc90] at h
    refine k_iinc (pc := 1508) C dL_law_1508 3 rfl (v := x3 + (5 : Int32)) (by rfl) (by decide) (L2 := [(0, .ref b), (1, .ref (E.1 + a1)), (2, .ref (E.1 + a2)), (3, .int (x3 + (5 : Int32)))]) rfl ?_
    refine k_goto (pc := 1511) C dL_law_1511 (tgt := 18) (by decide) ?_
    exact hko _ _ _ _ _ _ _ _ (by omega) (by omega) h
  · rw [if_neg hc90] at h
    refine k_iconst (pc := 550) C (v := (0 : Int32)) dL_law_550 (by decide) ?_
    exact absurd h (by decide)
def f_L_552 (L : Nat) (xs : Nat → Int32) (ko : Sh → Rw → Iw → Nat → Nat → Int32 → Option Int32) (S : Sh) (R : Rw) (I : Iw) (a1 a2 : Nat) (x3 : Int32) : Option Int32 := gp (scok L (x3 + (1 : Int32))) (gp (sok S a1 11 12) (bd (f_X11_mates S R I a1 (xs (x3 + (1 : Int32)).toNatClampNeg)) (fun r93 => gp (scok L (x3 + (1 : Int32))) (gp (sok S a2 12 34) (bd (f_X12_mates S R I a2 (xs (x3 + (1 : Int32)).toNatClampNeg)) (fun r96 => (if r93 = r96 then ko S R I a1 a2 (x3 + (5 : Int32)) else some (0 : Int32))))))))
set_option maxHeartbeats 8000000 in
theorem b_L_552 {E : Ev} {p : Program} {l : Launch} {e : Env} {s : State} {m : MethodId} {below : List Frame} {meth : Method} {c : Code} {b L : Nat} {xs : Nat → Int32} (C : Cx E RL code 4 p s m c) (hr : meth.sig.returnType = ret) (hk : meth.locks = false) (hE : E.2.2.2.2.1 = s) (hX : va_X b L xs s s.heap) (hbl : b < E.1) {ko : Sh → Rw → Iw → Nat → Nat → Int32 → Option Int32} {n : Nat} (hko : ∀ (S : Sh) (R : Rw) (I : Iw) (a1 a2 : Nat) (x3 : Int32) (ce sl : Nat), ce + 2 * n ≤ 600000 → sl + 35 * n ≤ 7302250 → ko S R I a1 a2 x3 = some 1 → Wk E 4 p l e room_1 s m #[Value.ref b] below meth c ce sl (lw_Z below #[Value.ref b] s) 18 [(0, .ref b), (1, .ref (E.1 + a1)), (2, .ref (E.1 + a2)), (3, .int x3)] [] S R I) (S : Sh) (R : Rw) (I : Iw) (a1 a2 : Nat) (x3 : Int32) (ce sl : Nat) (hce : ce + 2 * (n + 1) ≤ 600000) (hsl : sl + 35 * (n + 1) ≤ 7302250) (h : f_L_552 L xs ko S R I a1 a2 x3 = some 1) : Wk E 4 p l e room_1 s m #[Value.ref b] below meth c ce sl (lw_Z below #[Value.ref b] s) 552 [(0, .ref b), (1, .ref (E.1 + a1)), (2, .ref (E.1 + a2)), (3, .int x3)] [] S R I := by
  rw [f_L_552] at h
  refine k_aloadn (pc := 552) C dL_law_552 (i := 1) rfl 1 rfl ?_
  refine k_aloadn (pc := 553) C dL_law_553 (i := 0) rfl 0 rfl ?_
  refine k_iloadn (pc := 554) C dL_law_554 (i := 3) rfl 3 rfl ?_
  refine k_iconst (pc := 555) C (v := (1 : Int32)) dL_law_555 (by decide) ?_
  refine k_iadd (pc := 556) C dL_law_556 ?_
  obtain ⟨ha91, h⟩ := gp_e h
  refine k_sld (pc := 557) C hE hX hbl ha91 dL_law_557 ?_
  obtain ⟨hs920, h⟩ := gp_e h
  have hs92 := sok_e hs920
  obtain ⟨r93, hr93, h⟩ := bd_e h
  refine k_V (pc := 558) (st := []) C (c_X11_mates hr93) lkV_RL_52 hs92 rfl rfl rfl (Nat.le_of_ble_eq_true rfl) (Nat.le_of_ble_eq_true rfl) (Nat.le_of_ble_eq_true rfl) (by show ce + 0 ≤ 600000; omega) (by show sl + 0 ≤ 7302250; omega) dL_law_558 ?_
  refine k_nf (cells2 := ce) (slots2 := sl) (st2 := [.int r93]) rfl rfl rfl ?_
  refine k_aloadn (pc := 561) C dL_law_561 (i := 2) rfl 2 rfl ?_
  refine k_aloadn (pc := 562) C dL_law_562 (i := 0) rfl 0 rfl ?_
  refine k_iloadn (pc := 563) C dL_law_563 (i := 3) rfl 3 rfl ?_
  refine k_iconst (pc := 564) C (v := (1 : Int32)) dL_law_564 (by decide) ?_
  refine k_iadd (pc := 565) C dL_law_565 ?_
  obtain ⟨ha94, h⟩ := gp_e h
  refine k_sld (pc := 566) C hE hX hbl ha94 dL_law_566 ?_
  obtain ⟨hs950, h⟩ := gp_e h
  have hs95 := sok_e hs950
  obtain ⟨r96, hr96, h⟩ := bd_e h
  refine k_V (pc := 567) (st := [.int r93]) C (c_X12_mates hr96) lkV_RL_56 hs95 rfl rfl rfl (Nat.le_of_ble_eq_true rfl) (Nat.le_of_ble_eq_true rfl) (Nat.le_of_ble_eq_true rfl) (by show ce + 0 ≤ 600000; omega) (by show sl + 0 ≤ 7302250; omega) dL_law_567 ?_
  refine k_nf (cells2 := ce) (slots2 := sl) (st2 := [.int r96, .int r93]) rfl rfl rfl ?_
  refine k_icmp_eq (pc := 570) C dL_law_570 (tgt := 1508) (by decide) (fun hc97 => ?_) (fun hc97 => ?_)
  · rw [if_pos hc97] at h
    refine k_iinc (pc := 1508) C dL_law_1508 3 rfl (v := x3 + (5 : Int32)) (by rfl) (by decide) (L2 := [(0, .ref b), (1, .ref (E.1 + a1)), (2, .ref (E.1 + a2)), (3, .int (x3 + (5 : Int32)))]) rfl ?_
    refine k_goto (pc := 1511) C dL_law_1511 (tgt := 18) (by decide) ?_
    exact hko _ _ _ _ _ _ _ _ (by omega) (by omega) h
  · rw [if_neg hc97] at h
    refine k_iconst (pc := 573) C (v := (0 : Int32)) dL_law_573 (by decide) ?_
    exact absurd h (by decide)
def f_L_575 (L : Nat) (xs : Nat → Int32) (ko : Sh → Rw → Iw → Nat → Nat → Int32 → Option Int32) (S : Sh) (R : Rw) (I : Iw) (a1 a2 : Nat) (x3 : Int32) : Option Int32 := gp (sok S a1 11 12) (bd (f_X11_may S R I a1) (fun r99 => gp (sok S a2 12 34) (bd (f_X12_may S R I a2) (fun r101 => (if r99 = r101 then ko S R I a1 a2 (x3 + (5 : Int32)) else some (0 : Int32))))))
set_option maxHeartbeats 8000000 in
theorem b_L_575 {E : Ev} {p : Program} {l : Launch} {e : Env} {s : State} {m : MethodId} {below : List Frame} {meth : Method} {c : Code} {b L : Nat} {xs : Nat → Int32} (C : Cx E RL code 4 p s m c) (hr : meth.sig.returnType = ret) (hk : meth.locks = false) (hE : E.2.2.2.2.1 = s) (hX : va_X b L xs s s.heap) (hbl : b < E.1) {ko : Sh → Rw → Iw → Nat → Nat → Int32 → Option Int32} {n : Nat} (hko : ∀ (S : Sh) (R : Rw) (I : Iw) (a1 a2 : Nat) (x3 : Int32) (ce sl : Nat), ce + 2 * n ≤ 600000 → sl + 35 * n ≤ 7302250 → ko S R I a1 a2 x3 = some 1 → Wk E 4 p l e room_1 s m #[Value.ref b] below meth c ce sl (lw_Z below #[Value.ref b] s) 18 [(0, .ref b), (1, .ref (E.1 + a1)), (2, .ref (E.1 + a2)), (3, .int x3)] [] S R I) (S : Sh) (R : Rw) (I : Iw) (a1 a2 : Nat) (x3 : Int32) (ce sl : Nat) (hce : ce + 2 * (n + 1) ≤ 600000) (hsl : sl + 35 * (n + 1) ≤ 7302250) (h : f_L_575 L xs ko S R I a1 a2 x3 = some 1) : Wk E 4 p l e room_1 s m #[Value.ref b] below meth c ce sl (lw_Z below #[Value.ref b] s) 575 [(0, .ref b), (1, .ref (E.1 + a1)), (2, .ref (E.1 + a2)), (3, .int x3)] [] S R I := by
  rw [f_L_575] at h
  refine k_aloadn (pc := 575) C dL_law_575 (i := 1) rfl 1 rfl ?_
  obtain ⟨hs980, h⟩ := gp_e h
  have hs98 := sok_e hs980
  obtain ⟨r99, hr99, h⟩ := bd_e h
  refine k_V (pc := 576) (st := []) C (c_X11_may hr99) lkV_RL_57 hs98 rfl rfl rfl (Nat.le_of_ble_eq_true rfl) (Nat.le_of_ble_eq_true rfl) (Nat.le_of_ble_eq_true rfl) (by show ce + 0 ≤ 600000; omega) (by show sl + 0 ≤ 7302250; omega) dL_law_576 ?_
  refine k_nf (cells2 := ce) (slots2 := sl) (st2 := [.int r99]) rfl rfl rfl ?_
  refine k_aloadn (pc := 579) C dL_law_579 (i := 2) rfl 2 rfl ?_
  obtain ⟨hs1000, h⟩ := gp_e h
  have hs100 := sok_e hs1000
  obtain ⟨r101, hr101, h⟩ := bd_e h
  refine k_V (pc := 580) (st := [.int r99]) C (c_X12_may hr101) lkV_RL_60 hs100 rfl rfl rfl (Nat.le_of_ble_eq_true rfl) (Nat.le_of_ble_eq_true rfl) (Nat.le_of_ble_eq_true rfl) (by show ce + 0 ≤ 600000; omega) (by show sl + 0 ≤ 7302250; omega) dL_law_580 ?_
  refine k_nf (cells2 := ce) (slots2 := sl) (st2 := [.int r101, .int r99]) rfl rfl rfl ?_
  refine k_icmp_eq (pc := 583) C dL_law_583 (tgt := 1508) (by decide) (fun hc102 => ?_) (fun hc102 => ?_)
  · rw [if_pos hc102] at h
    refine k_iinc (pc := 1508) C dL_law_1508 3 rfl (v := x3 + (5 : Int32)) (by rfl) (by decide) (L2 := [(0, .ref b), (1, .ref (E.1 + a1)), (2, .ref (E.1 + a2)), (3, .int (x3 + (5 : Int32)))]) rfl ?_
    refine k_goto (pc := 1511) C dL_law_1511 (tgt := 18) (by decide) ?_
    exact hko _ _ _ _ _ _ _ _ (by omega) (by omega) h
  · rw [if_neg hc102] at h
    refine k_iconst (pc := 586) C (v := (0 : Int32)) dL_law_586 (by decide) ?_
    exact absurd h (by decide)
def f_L_588 (L : Nat) (xs : Nat → Int32) (ko : Sh → Rw → Iw → Nat → Nat → Int32 → Option Int32) (S : Sh) (R : Rw) (I : Iw) (a1 a2 : Nat) (x3 : Int32) : Option Int32 := gp (sok S a1 11 12) (bd (f_X11_tops S R I a1) (fun r104 => gp (sok S a2 12 34) (bd (f_X12_tops S R I a2) (fun r106 => (if r104 = r106 then ko S R I a1 a2 (x3 + (5 : Int32)) else some (0 : Int32))))))
set_option maxHeartbeats 8000000 in
theorem b_L_588 {E : Ev} {p : Program} {l : Launch} {e : Env} {s : State} {m : MethodId} {below : List Frame} {meth : Method} {c : Code} {b L : Nat} {xs : Nat → Int32} (C : Cx E RL code 4 p s m c) (hr : meth.sig.returnType = ret) (hk : meth.locks = false) (hE : E.2.2.2.2.1 = s) (hX : va_X b L xs s s.heap) (hbl : b < E.1) {ko : Sh → Rw → Iw → Nat → Nat → Int32 → Option Int32} {n : Nat} (hko : ∀ (S : Sh) (R : Rw) (I : Iw) (a1 a2 : Nat) (x3 : Int32) (ce sl : Nat), ce + 2 * n ≤ 600000 → sl + 35 * n ≤ 7302250 → ko S R I a1 a2 x3 = some 1 → Wk E 4 p l e room_1 s m #[Value.ref b] below meth c ce sl (lw_Z below #[Value.ref b] s) 18 [(0, .ref b), (1, .ref (E.1 + a1)), (2, .ref (E.1 + a2)), (3, .int x3)] [] S R I) (S : Sh) (R : Rw) (I : Iw) (a1 a2 : Nat) (x3 : Int32) (ce sl : Nat) (hce : ce + 2 * (n + 1) ≤ 600000) (hsl : sl + 35 * (n + 1) ≤ 7302250) (h : f_L_588 L xs ko S R I a1 a2 x3 = some 1) : Wk E 4 p l e room_1 s m #[Value.ref b] below meth c ce sl (lw_Z below #[Value.ref b] s) 588 [(0, .ref b), (1, .ref (E.1 + a1)), (2, .ref (E.1 + a2)), (3, .int x3)] [] S R I := by
  rw [f_L_588] at h
  refine k_aloadn (pc := 588) C dL_law_588 (i := 1) rfl 1 rfl ?_
  obtain ⟨hs1030, h⟩ := gp_e h
  have hs103 := sok_e hs1030
  obtain ⟨r104, hr104, h⟩ := bd_e h
  refine k_V (pc := 589) (st := []) C (c_X11_tops hr104) lkV_RL_61 hs103 rfl rfl rfl (Nat.le_of_ble_eq_true rfl) (Nat.le_of_ble_eq_true rfl) (Nat.le_of_ble_eq_true rfl) (by show ce + 0 ≤ 600000; omega) (by show sl + 0 ≤ 7302250; omega) dL_law_589 ?_
  refine k_nf (cells2 := ce) (slots2 := sl) (st2 := [.int r104]) rfl rfl rfl ?_
  refine k_aloadn (pc := 592) C dL_law_592 (i := 2) rfl 2 rfl ?_
  obtain ⟨hs1050, h⟩ := gp_e h
  have hs105 := sok_e hs1050
  obtain ⟨r106, hr106, h⟩ := bd_e h
  refine k_V (pc := 593) (st := [.int r104]) C (c_X12_tops hr106) lkV_RL_64 hs105 rfl rfl rfl (Nat.le_of_ble_eq_true rfl) (Nat.le_of_ble_eq_true rfl) (Nat.le_of_ble_eq_true rfl) (by show ce + 0 ≤ 600000; omega) (by show sl + 0 ≤ 7302250; omega) dL_law_593 ?_
  refine k_nf (cells2 := ce) (slots2 := sl) (st2 := [.int r106, .int r104]) rfl rfl rfl ?_
  refine k_icmp_eq (pc := 596) C dL_law_596 (tgt := 1508) (by decide) (fun hc107 => ?_) (fun hc107 => ?_)
  · rw [if_pos hc107] at h
    refine k_iinc (pc := 1508) C dL_law_1508 3 rfl (v := x3 + (5 : Int32)) (by rfl) (by decide) (L2 := [(0, .ref b), (1, .ref (E.1 + a1)), (2, .ref (E.1 + a2)), (3, .int (x3 + (5 : Int32)))]) rfl ?_
    refine k_goto (pc := 1511) C dL_law_1511 (tgt := 18) (by decide) ?_
    exact hko _ _ _ _ _ _ _ _ (by omega) (by omega) h
  · rw [if_neg hc107] at h
    refine k_iconst (pc := 599) C (v := (0 : Int32)) dL_law_599 (by decide) ?_
    exact absurd h (by decide)
def f_L_601 (L : Nat) (xs : Nat → Int32) (ko : Sh → Rw → Iw → Nat → Nat → Int32 → Option Int32) (S : Sh) (R : Rw) (I : Iw) (a1 a2 : Nat) (x3 : Int32) : Option Int32 := gp (scok L (x3 + (1 : Int32))) (gp (sok S a1 11 12) (bd (f_X11_go S R I a1 (xs (x3 + (1 : Int32)).toNatClampNeg)) (fun r110 => gp (scok L (x3 + (1 : Int32))) (gp (sok S a2 12 34) (bd (f_X12_go S R r110.1 a2 (xs (x3 + (1 : Int32)).toNatClampNeg)) (fun r113 => (if r110.2 = r113.2 then ko S R r113.1 a1 a2 (x3 + (5 : Int32)) else some (0 : Int32))))))))
set_option maxHeartbeats 8000000 in
theorem b_L_601 {E : Ev} {p : Program} {l : Launch} {e : Env} {s : State} {m : MethodId} {below : List Frame} {meth : Method} {c : Code} {b L : Nat} {xs : Nat → Int32} (C : Cx E RL code 4 p s m c) (hr : meth.sig.returnType = ret) (hk : meth.locks = false) (hE : E.2.2.2.2.1 = s) (hX : va_X b L xs s s.heap) (hbl : b < E.1) {ko : Sh → Rw → Iw → Nat → Nat → Int32 → Option Int32} {n : Nat} (hko : ∀ (S : Sh) (R : Rw) (I : Iw) (a1 a2 : Nat) (x3 : Int32) (ce sl : Nat), ce + 2 * n ≤ 600000 → sl + 35 * n ≤ 7302250 → ko S R I a1 a2 x3 = some 1 → Wk E 4 p l e room_1 s m #[Value.ref b] below meth c ce sl (lw_Z below #[Value.ref b] s) 18 [(0, .ref b), (1, .ref (E.1 + a1)), (2, .ref (E.1 + a2)), (3, .int x3)] [] S R I) (S : Sh) (R : Rw) (I : Iw) (a1 a2 : Nat) (x3 : Int32) (ce sl : Nat) (hce : ce + 2 * (n + 1) ≤ 600000) (hsl : sl + 35 * (n + 1) ≤ 7302250) (h : f_L_601 L xs ko S R I a1 a2 x3 = some 1) : Wk E 4 p l e room_1 s m #[Value.ref b] below meth c ce sl (lw_Z below #[Value.ref b] s) 601 [(0, .ref b), (1, .ref (E.1 + a1)), (2, .ref (E.1 + a2)), (3, .int x3)] [] S R I := by
  rw [f_L_601] at h
  refine k_aloadn (pc := 601) C dL_law_601 (i := 1) rfl 1 rfl ?_
  refine k_aloadn (pc := 602) C dL_law_602 (i := 0) rfl 0 rfl ?_
  refine k_iloadn (pc := 603) C dL_law_603 (i := 3) rfl 3 rfl ?_
  refine k_iconst (pc := 604) C (v := (1 : Int32)) dL_law_604 (by decide) ?_
  refine k_iadd (pc := 605) C dL_law_605 ?_
  obtain ⟨ha108, h⟩ := gp_e h
  refine k_sld (pc := 606) C hE hX hbl ha108 dL_law_606 ?_
  obtain ⟨hs1090, h⟩ := gp_e h
  have hs109 := sok_e hs1090
  obtain ⟨r110, hr110, h⟩ := bd_e h
  refine k_V (pc := 607) (st := []) C (c_X11_go hr110) lkV_RL_65 hs109 rfl rfl rfl (Nat.le_of_ble_eq_true rfl) (Nat.le_of_ble_eq_true rfl) (Nat.le_of_ble_eq_true rfl) (by show ce + 0 ≤ 600000; omega) (by show sl + 0 ≤ 7302250; omega) dL_law_607 ?_
  refine k_nf (cells2 := ce) (slots2 := sl) (st2 := [.int r110.2]) rfl rfl rfl ?_
  refine k_aloadn (pc := 610) C dL_law_610 (i := 2) rfl 2 rfl ?_
  refine k_aloadn (pc := 611) C dL_law_611 (i := 0) rfl 0 rfl ?_
  refine k_iloadn (pc := 612) C dL_law_612 (i := 3) rfl 3 rfl ?_
  refine k_iconst (pc := 613) C (v := (1 : Int32)) dL_law_613 (by decide) ?_
  refine k_iadd (pc := 614) C dL_law_614 ?_
  obtain ⟨ha111, h⟩ := gp_e h
  refine k_sld (pc := 615) C hE hX hbl ha111 dL_law_615 ?_
  obtain ⟨hs1120, h⟩ := gp_e h
  have hs112 := sok_e hs1120
  obtain ⟨r113, hr113, h⟩ := bd_e h
  refine k_V (pc := 616) (st := [.int r110.2]) C (c_X12_go hr113) lkV_RL_68 hs112 rfl rfl rfl (Nat.le_of_ble_eq_true rfl) (Nat.le_of_ble_eq_true rfl) (Nat.le_of_ble_eq_true rfl) (by show ce + 0 ≤ 600000; omega) (by show sl + 0 ≤ 7302250; omega) dL_law_616 ?_
  refine k_nf (cells2 := ce) (slots2 := sl) (st2 := [.int r113.2, .int r110.2]) rfl rfl rfl ?_
  refine k_icmp_eq (pc := 619) C dL_law_619 (tgt := 1508) (by decide) (fun hc114 => ?_) (fun hc114 => ?_)
  · rw [if_pos hc114] at h
    refine k_iinc (pc := 1508) C dL_law_1508 3 rfl (v := x3 + (5 : Int32)) (by rfl) (by decide) (L2 := [(0, .ref b), (1, .ref (E.1 + a1)), (2, .ref (E.1 + a2)), (3, .int (x3 + (5 : Int32)))]) rfl ?_
    refine k_goto (pc := 1511) C dL_law_1511 (tgt := 18) (by decide) ?_
    exact hko _ _ _ _ _ _ _ _ (by omega) (by omega) h
  · rw [if_neg hc114] at h
    refine k_iconst (pc := 622) C (v := (0 : Int32)) dL_law_622 (by decide) ?_
    exact absurd h (by decide)
def f_L_624 (L : Nat) (xs : Nat → Int32) (ko : Sh → Rw → Iw → Nat → Nat → Int32 → Option Int32) (S : Sh) (R : Rw) (I : Iw) (a1 a2 : Nat) (x3 : Int32) : Option Int32 := gp (sok S a1 11 12) (bd (f_X11_come S R I a1) (fun r116 => gp (sok S a2 12 34) (bd (f_X12_come S R r116.1 a2) (fun r118 => (if r116.2 = r118.2 then ko S R r118.1 a1 a2 (x3 + (5 : Int32)) else some (0 : Int32))))))
set_option maxHeartbeats 8000000 in
theorem b_L_624 {E : Ev} {p : Program} {l : Launch} {e : Env} {s : State} {m : MethodId} {below : List Frame} {meth : Method} {c : Code} {b L : Nat} {xs : Nat → Int32} (C : Cx E RL code 4 p s m c) (hr : meth.sig.returnType = ret) (hk : meth.locks = false) (hE : E.2.2.2.2.1 = s) (hX : va_X b L xs s s.heap) (hbl : b < E.1) {ko : Sh → Rw → Iw → Nat → Nat → Int32 → Option Int32} {n : Nat} (hko : ∀ (S : Sh) (R : Rw) (I : Iw) (a1 a2 : Nat) (x3 : Int32) (ce sl : Nat), ce + 2 * n ≤ 600000 → sl + 35 * n ≤ 7302250 → ko S R I a1 a2 x3 = some 1 → Wk E 4 p l e room_1 s m #[Value.ref b] below meth c ce sl (lw_Z below #[Value.ref b] s) 18 [(0, .ref b), (1, .ref (E.1 + a1)), (2, .ref (E.1 + a2)), (3, .int x3)] [] S R I) (S : Sh) (R : Rw) (I : Iw) (a1 a2 : Nat) (x3 : Int32) (ce sl : Nat) (hce : ce + 2 * (n + 1) ≤ 600000) (hsl : sl + 35 * (n + 1) ≤ 7302250) (h : f_L_624 L xs ko S R I a1 a2 x3 = some 1) : Wk E 4 p l e room_1 s m #[Value.ref b] below meth c ce sl (lw_Z below #[Value.ref b] s) 624 [(0, .ref b), (1, .ref (E.1 + a1)), (2, .ref (E.1 + a2)), (3, .int x3)] [] S R I := by
  rw [f_L_624] at h
  refine k_aloadn (pc := 624) C dL_law_624 (i := 1) rfl 1 rfl ?_
  obtain ⟨hs1150, h⟩ := gp_e h
  have hs115 := sok_e hs1150
  obtain ⟨r116, hr116, h⟩ := bd_e h
  refine k_V (pc := 625) (st := []) C (c_X11_come hr116) lkV_RL_69 hs115 rfl rfl rfl (Nat.le_of_ble_eq_true rfl) (Nat.le_of_ble_eq_true rfl) (Nat.le_of_ble_eq_true rfl) (by show ce + 0 ≤ 600000; omega) (by show sl + 0 ≤ 7302250; omega) dL_law_625 ?_
  refine k_nf (cells2 := ce) (slots2 := sl) (st2 := [.int r116.2]) rfl rfl rfl ?_
  refine k_aloadn (pc := 628) C dL_law_628 (i := 2) rfl 2 rfl ?_
  obtain ⟨hs1170, h⟩ := gp_e h
  have hs117 := sok_e hs1170
  obtain ⟨r118, hr118, h⟩ := bd_e h
  refine k_V (pc := 629) (st := [.int r116.2]) C (c_X12_come hr118) lkV_RL_72 hs117 rfl rfl rfl (Nat.le_of_ble_eq_true rfl) (Nat.le_of_ble_eq_true rfl) (Nat.le_of_ble_eq_true rfl) (by show ce + 0 ≤ 600000; omega) (by show sl + 0 ≤ 7302250; omega) dL_law_629 ?_
  refine k_nf (cells2 := ce) (slots2 := sl) (st2 := [.int r118.2, .int r116.2]) rfl rfl rfl ?_
  refine k_icmp_eq (pc := 632) C dL_law_632 (tgt := 1508) (by decide) (fun hc119 => ?_) (fun hc119 => ?_)
  · rw [if_pos hc119] at h
    refine k_iinc (pc := 1508) C dL_law_1508 3 rfl (v := x3 + (5 : Int32)) (by rfl) (by decide) (L2 := [(0, .ref b), (1, .ref (E.1 + a1)), (2, .ref (E.1 + a2)), (3, .int (x3 + (5 : Int32)))]) rfl ?_
    refine k_goto (pc := 1511) C dL_law_1511 (tgt := 18) (by decide) ?_
    exact hko _ _ _ _ _ _ _ _ (by omega) (by omega) h
  · rw [if_neg hc119] at h
    refine k_iconst (pc := 635) C (v := (0 : Int32)) dL_law_635 (by decide) ?_
    exact absurd h (by decide)
def f_L_637 (L : Nat) (xs : Nat → Int32) (ko : Sh → Rw → Iw → Nat → Nat → Int32 → Option Int32) (S : Sh) (R : Rw) (I : Iw) (a1 a2 : Nat) (x3 : Int32) : Option Int32 := gp (scok L (x3 + (1 : Int32))) (gp (sok S a1 11 12) (bd (f_X11_line S R I a1 (xs (x3 + (1 : Int32)).toNatClampNeg)) (fun r122 => gp (scok L (x3 + (1 : Int32))) (gp (sok S a2 12 34) (bd (f_X12_line S R I a2 (xs (x3 + (1 : Int32)).toNatClampNeg)) (fun r125 => (if r122 = r125 then ko S R I a1 a2 (x3 + (5 : Int32)) else some (0 : Int32))))))))
set_option maxHeartbeats 8000000 in
theorem b_L_637 {E : Ev} {p : Program} {l : Launch} {e : Env} {s : State} {m : MethodId} {below : List Frame} {meth : Method} {c : Code} {b L : Nat} {xs : Nat → Int32} (C : Cx E RL code 4 p s m c) (hr : meth.sig.returnType = ret) (hk : meth.locks = false) (hE : E.2.2.2.2.1 = s) (hX : va_X b L xs s s.heap) (hbl : b < E.1) {ko : Sh → Rw → Iw → Nat → Nat → Int32 → Option Int32} {n : Nat} (hko : ∀ (S : Sh) (R : Rw) (I : Iw) (a1 a2 : Nat) (x3 : Int32) (ce sl : Nat), ce + 2 * n ≤ 600000 → sl + 35 * n ≤ 7302250 → ko S R I a1 a2 x3 = some 1 → Wk E 4 p l e room_1 s m #[Value.ref b] below meth c ce sl (lw_Z below #[Value.ref b] s) 18 [(0, .ref b), (1, .ref (E.1 + a1)), (2, .ref (E.1 + a2)), (3, .int x3)] [] S R I) (S : Sh) (R : Rw) (I : Iw) (a1 a2 : Nat) (x3 : Int32) (ce sl : Nat) (hce : ce + 2 * (n + 1) ≤ 600000) (hsl : sl + 35 * (n + 1) ≤ 7302250) (h : f_L_637 L xs ko S R I a1 a2 x3 = some 1) : Wk E 4 p l e room_1 s m #[Value.ref b] below meth c ce sl (lw_Z below #[Value.ref b] s) 637 [(0, .ref b), (1, .ref (E.1 + a1)), (2, .ref (E.1 + a2)), (3, .int x3)] [] S R I := by
  rw [f_L_637] at h
  refine k_aloadn (pc := 637) C dL_law_637 (i := 1) rfl 1 rfl ?_
  refine k_aloadn (pc := 638) C dL_law_638 (i := 0) rfl 0 rfl ?_
  refine k_iloadn (pc := 639) C dL_law_639 (i := 3) rfl 3 rfl ?_
  refine k_iconst (pc := 640) C (v := (1 : Int32)) dL_law_640 (by decide) ?_
  refine k_iadd (pc := 641) C dL_law_641 ?_
  obtain ⟨ha120, h⟩ := gp_e h
  refine k_sld (pc := 642) C hE hX hbl ha120 dL_law_642 ?_
  obtain ⟨hs1210, h⟩ := gp_e h
  have hs121 := sok_e hs1210
  obtain ⟨r122, hr122, h⟩ := bd_e h
  refine k_V (pc := 643) (st := []) C (c_X11_line hr122) lkV_RL_73 hs121 rfl rfl rfl (Nat.le_of_ble_eq_true rfl) (Nat.le_of_ble_eq_true rfl) (Nat.le_of_ble_eq_true rfl) (by show ce + 0 ≤ 600000; omega) (by show sl + 0 ≤ 7302250; omega) dL_law_643 ?_
  refine k_nf (cells2 := ce) (slots2 := sl) (st2 := [.int r122]) rfl rfl rfl ?_
  refine k_aloadn (pc := 646) C dL_law_646 (i := 2) rfl 2 rfl ?_
  refine k_aloadn (pc := 647) C dL_law_647 (i := 0) rfl 0 rfl ?_
  refine k_iloadn (pc := 648) C dL_law_648 (i := 3) rfl 3 rfl ?_
  refine k_iconst (pc := 649) C (v := (1 : Int32)) dL_law_649 (by decide) ?_
  refine k_iadd (pc := 650) C dL_law_650 ?_
  obtain ⟨ha123, h⟩ := gp_e h
  refine k_sld (pc := 651) C hE hX hbl ha123 dL_law_651 ?_
  obtain ⟨hs1240, h⟩ := gp_e h
  have hs124 := sok_e hs1240
  obtain ⟨r125, hr125, h⟩ := bd_e h
  refine k_V (pc := 652) (st := [.int r122]) C (c_X12_line hr125) lkV_RL_76 hs124 rfl rfl rfl (Nat.le_of_ble_eq_true rfl) (Nat.le_of_ble_eq_true rfl) (Nat.le_of_ble_eq_true rfl) (by show ce + 0 ≤ 600000; omega) (by show sl + 0 ≤ 7302250; omega) dL_law_652 ?_
  refine k_nf (cells2 := ce) (slots2 := sl) (st2 := [.int r125, .int r122]) rfl rfl rfl ?_
  refine k_icmp_eq (pc := 655) C dL_law_655 (tgt := 1508) (by decide) (fun hc126 => ?_) (fun hc126 => ?_)
  · rw [if_pos hc126] at h
    refine k_iinc (pc := 1508) C dL_law_1508 3 rfl (v := x3 + (5 : Int32)) (by rfl) (by decide) (L2 := [(0, .ref b), (1, .ref (E.1 + a1)), (2, .ref (E.1 + a2)), (3, .int (x3 + (5 : Int32)))]) rfl ?_
    refine k_goto (pc := 1511) C dL_law_1511 (tgt := 18) (by decide) ?_
    exact hko _ _ _ _ _ _ _ _ (by omega) (by omega) h
  · rw [if_neg hc126] at h
    refine k_iconst (pc := 658) C (v := (0 : Int32)) dL_law_658 (by decide) ?_
    exact absurd h (by decide)
def f_L_660 (L : Nat) (xs : Nat → Int32) (ko : Sh → Rw → Iw → Nat → Nat → Int32 → Option Int32) (S : Sh) (R : Rw) (I : Iw) (a1 a2 : Nat) (x3 : Int32) : Option Int32 := gp (sok S a1 11 12) (bd (f_X11_paid S R I a1) (fun r128 => gp (sok S a2 12 34) (bd (f_X12_paid S R I a2) (fun r130 => (if r128 = r130.2 then ko S R r130.1 a1 a2 (x3 + (5 : Int32)) else some (0 : Int32))))))
set_option maxHeartbeats 8000000 in
theorem b_L_660 {E : Ev} {p : Program} {l : Launch} {e : Env} {s : State} {m : MethodId} {below : List Frame} {meth : Method} {c : Code} {b L : Nat} {xs : Nat → Int32} (C : Cx E RL code 4 p s m c) (hr : meth.sig.returnType = ret) (hk : meth.locks = false) (hE : E.2.2.2.2.1 = s) (hX : va_X b L xs s s.heap) (hbl : b < E.1) {ko : Sh → Rw → Iw → Nat → Nat → Int32 → Option Int32} {n : Nat} (hko : ∀ (S : Sh) (R : Rw) (I : Iw) (a1 a2 : Nat) (x3 : Int32) (ce sl : Nat), ce + 2 * n ≤ 600000 → sl + 35 * n ≤ 7302250 → ko S R I a1 a2 x3 = some 1 → Wk E 4 p l e room_1 s m #[Value.ref b] below meth c ce sl (lw_Z below #[Value.ref b] s) 18 [(0, .ref b), (1, .ref (E.1 + a1)), (2, .ref (E.1 + a2)), (3, .int x3)] [] S R I) (S : Sh) (R : Rw) (I : Iw) (a1 a2 : Nat) (x3 : Int32) (ce sl : Nat) (hce : ce + 2 * (n + 1) ≤ 600000) (hsl : sl + 35 * (n + 1) ≤ 7302250) (h : f_L_660 L xs ko S R I a1 a2 x3 = some 1) : Wk E 4 p l e room_1 s m #[Value.ref b] below meth c ce sl (lw_Z below #[Value.ref b] s) 660 [(0, .ref b), (1, .ref (E.1 + a1)), (2, .ref (E.1 + a2)), (3, .int x3)] [] S R I := by
  rw [f_L_660] at h
  refine k_aloadn (pc := 660) C dL_law_660 (i := 1) rfl 1 rfl ?_
  obtain ⟨hs1270, h⟩ := gp_e h
  have hs127 := sok_e hs1270
  obtain ⟨r128, hr128, h⟩ := bd_e h
  refine k_V (pc := 661) (st := []) C (c_X11_paid hr128) lkV_RL_77 hs127 rfl rfl rfl (Nat.le_of_ble_eq_true rfl) (Nat.le_of_ble_eq_true rfl) (Nat.le_of_ble_eq_true rfl) (by show ce + 0 ≤ 600000; omega) (by show sl + 0 ≤ 7302250; omega) dL_law_661 ?_
  refine k_nf (cells2 := ce) (slots2 := sl) (st2 := [.int r128]) rfl rfl rfl ?_
  refine k_aloadn (pc := 664) C dL_law_664 (i := 2) rfl 2 rfl ?_
  obtain ⟨hs1290, h⟩ := gp_e h
  have hs129 := sok_e hs1290
  obtain ⟨r130, hr130, h⟩ := bd_e h
  refine k_V (pc := 665) (st := [.int r128]) C (c_X12_paid hr130) lkV_RL_80 hs129 rfl rfl rfl (Nat.le_of_ble_eq_true rfl) (Nat.le_of_ble_eq_true rfl) (Nat.le_of_ble_eq_true rfl) (by show ce + 0 ≤ 600000; omega) (by show sl + 0 ≤ 7302250; omega) dL_law_665 ?_
  refine k_nf (cells2 := ce) (slots2 := sl) (st2 := [.int r130.2, .int r128]) rfl rfl rfl ?_
  refine k_icmp_eq (pc := 668) C dL_law_668 (tgt := 1508) (by decide) (fun hc131 => ?_) (fun hc131 => ?_)
  · rw [if_pos hc131] at h
    refine k_iinc (pc := 1508) C dL_law_1508 3 rfl (v := x3 + (5 : Int32)) (by rfl) (by decide) (L2 := [(0, .ref b), (1, .ref (E.1 + a1)), (2, .ref (E.1 + a2)), (3, .int (x3 + (5 : Int32)))]) rfl ?_
    refine k_goto (pc := 1511) C dL_law_1511 (tgt := 18) (by decide) ?_
    exact hko _ _ _ _ _ _ _ _ (by omega) (by omega) h
  · rw [if_neg hc131] at h
    refine k_iconst (pc := 671) C (v := (0 : Int32)) dL_law_671 (by decide) ?_
    exact absurd h (by decide)
def f_L_673 (L : Nat) (xs : Nat → Int32) (ko : Sh → Rw → Iw → Nat → Nat → Int32 → Option Int32) (S : Sh) (R : Rw) (I : Iw) (a1 a2 : Nat) (x3 : Int32) : Option Int32 := gp (sok S a1 11 12) (bd (f_X11_ways S R I a1) (fun r133 => gp (sok S a2 12 34) (bd (f_X12_ways S R r133.1 a2) (fun r135 => (if r133.2 = r135.2 then ko S R r135.1 a1 a2 (x3 + (5 : Int32)) else some (0 : Int32))))))
set_option maxHeartbeats 8000000 in
theorem b_L_673 {E : Ev} {p : Program} {l : Launch} {e : Env} {s : State} {m : MethodId} {below : List Frame} {meth : Method} {c : Code} {b L : Nat} {xs : Nat → Int32} (C : Cx E RL code 4 p s m c) (hr : meth.sig.returnType = ret) (hk : meth.locks = false) (hE : E.2.2.2.2.1 = s) (hX : va_X b L xs s s.heap) (hbl : b < E.1) {ko : Sh → Rw → Iw → Nat → Nat → Int32 → Option Int32} {n : Nat} (hko : ∀ (S : Sh) (R : Rw) (I : Iw) (a1 a2 : Nat) (x3 : Int32) (ce sl : Nat), ce + 2 * n ≤ 600000 → sl + 35 * n ≤ 7302250 → ko S R I a1 a2 x3 = some 1 → Wk E 4 p l e room_1 s m #[Value.ref b] below meth c ce sl (lw_Z below #[Value.ref b] s) 18 [(0, .ref b), (1, .ref (E.1 + a1)), (2, .ref (E.1 + a2)), (3, .int x3)] [] S R I) (S : Sh) (R : Rw) (I : Iw) (a1 a2 : Nat) (x3 : Int32) (ce sl : Nat) (hce : ce + 2 * (n + 1) ≤ 600000) (hsl : sl + 35 * (n + 1) ≤ 7302250) (h : f_L_673 L xs ko S R I a1 a2 x3 = some 1) : Wk E 4 p l e room_1 s m #[Value.ref b] below meth c ce sl (lw_Z below #[Value.ref b] s) 673 [(0, .ref b), (1, .ref (E.1 + a1)), (2, .ref (E.1 + a2)), (3, .int x3)] [] S R I := by
  rw [f_L_673] at h
  refine k_aloadn (pc := 673) C dL_law_673 (i := 1) rfl 1 rfl ?_
  obtain ⟨hs1320, h⟩ := gp_e h
  have hs132 := sok_e hs1320
  obtain ⟨r133, hr133, h⟩ := bd_e h
  refine k_V (pc := 674) (st := []) C (c_X11_ways hr133) lkV_RL_81 hs132 rfl rfl rfl (Nat.le_of_ble_eq_true rfl) (Nat.le_of_ble_eq_true rfl) (Nat.le_of_ble_eq_true rfl) (by show ce + 0 ≤ 600000; omega) (by show sl + 0 ≤ 7302250; omega) dL_law_674 ?_
  refine k_nf (cells2 := ce) (slots2 := sl) (st2 := [.int r133.2]) rfl rfl rfl ?_
  refine k_aloadn (pc := 677) C dL_law_677 (i := 2) rfl 2 rfl ?_
  obtain ⟨hs1340, h⟩ := gp_e h
  have hs134 := sok_e hs1340
  obtain ⟨r135, hr135, h⟩ := bd_e h
  refine k_V (pc := 678) (st := [.int r133.2]) C (c_X12_ways hr135) lkV_RL_84 hs134 rfl rfl rfl (Nat.le_of_ble_eq_true rfl) (Nat.le_of_ble_eq_true rfl) (Nat.le_of_ble_eq_true rfl) (by show ce + 0 ≤ 600000; omega) (by show sl + 0 ≤ 7302250; omega) dL_law_678 ?_
  refine k_nf (cells2 := ce) (slots2 := sl) (st2 := [.int r135.2, .int r133.2]) rfl rfl rfl ?_
  refine k_icmp_eq (pc := 681) C dL_law_681 (tgt := 1508) (by decide) (fun hc136 => ?_) (fun hc136 => ?_)
  · rw [if_pos hc136] at h
    refine k_iinc (pc := 1508) C dL_law_1508 3 rfl (v := x3 + (5 : Int32)) (by rfl) (by decide) (L2 := [(0, .ref b), (1, .ref (E.1 + a1)), (2, .ref (E.1 + a2)), (3, .int (x3 + (5 : Int32)))]) rfl ?_
    refine k_goto (pc := 1511) C dL_law_1511 (tgt := 18) (by decide) ?_
    exact hko _ _ _ _ _ _ _ _ (by omega) (by omega) h
  · rw [if_neg hc136] at h
    refine k_iconst (pc := 684) C (v := (0 : Int32)) dL_law_684 (by decide) ?_
    exact absurd h (by decide)
def f_L_686 (L : Nat) (xs : Nat → Int32) (ko : Sh → Rw → Iw → Nat → Nat → Int32 → Option Int32) (S : Sh) (R : Rw) (I : Iw) (a1 a2 : Nat) (x3 : Int32) : Option Int32 := gp (scok L (x3 + (1 : Int32))) (gp (sok S a1 11 12) (bd (f_X11_way S R I a1 (xs (x3 + (1 : Int32)).toNatClampNeg)) (fun r139 => gp (scok L (x3 + (1 : Int32))) (gp (sok S a2 12 34) (bd (f_X12_way S R r139.1 a2 (xs (x3 + (1 : Int32)).toNatClampNeg)) (fun r142 => (if r139.2 = r142.2 then ko S R r142.1 a1 a2 (x3 + (5 : Int32)) else some (0 : Int32))))))))
set_option maxHeartbeats 8000000 in
theorem b_L_686 {E : Ev} {p : Program} {l : Launch} {e : Env} {s : State} {m : MethodId} {below : List Frame} {meth : Method} {c : Code} {b L : Nat} {xs : Nat → Int32} (C : Cx E RL code 4 p s m c) (hr : meth.sig.returnType = ret) (hk : meth.locks = false) (hE : E.2.2.2.2.1 = s) (hX : va_X b L xs s s.heap) (hbl : b < E.1) {ko : Sh → Rw → Iw → Nat → Nat → Int32 → Option Int32} {n : Nat} (hko : ∀ (S : Sh) (R : Rw) (I : Iw) (a1 a2 : Nat) (x3 : Int32) (ce sl : Nat), ce + 2 * n ≤ 600000 → sl + 35 * n ≤ 7302250 → ko S R I a1 a2 x3 = some 1 → Wk E 4 p l e room_1 s m #[Value.ref b] below meth c ce sl (lw_Z below #[Value.ref b] s) 18 [(0, .ref b), (1, .ref (E.1 + a1)), (2, .ref (E.1 + a2)), (3, .int x3)] [] S R I) (S : Sh) (R : Rw) (I : Iw) (a1 a2 : Nat) (x3 : Int32) (ce sl : Nat) (hce : ce + 2 * (n + 1) ≤ 600000) (hsl : sl + 35 * (n + 1) ≤ 7302250) (h : f_L_686 L xs ko S R I a1 a2 x3 = some 1) : Wk E 4 p l e room_1 s m #[Value.ref b] below meth c ce sl (lw_Z below #[Value.ref b] s) 686 [(0, .ref b), (1, .ref (E.1 + a1)), (2, .ref (E.1 + a2)), (3, .int x3)] [] S R I := by
  rw [f_L_686] at h
  refine k_aloadn (pc := 686) C dL_law_686 (i := 1) rfl 1 rfl ?_
  refine k_aloadn (pc := 687) C dL_law_687 (i := 0) rfl 0 rfl ?_
  refine k_iloadn (pc := 688) C dL_law_688 (i := 3) rfl 3 rfl ?_
  refine k_iconst (pc := 689) C (v := (1 : Int32)) dL_law_689 (by decide) ?_
  refine k_iadd (pc := 690) C dL_law_690 ?_
  obtain ⟨ha137, h⟩ := gp_e h
  refine k_sld (pc := 691) C hE hX hbl ha137 dL_law_691 ?_
  obtain ⟨hs1380, h⟩ := gp_e h
  have hs138 := sok_e hs1380
  obtain ⟨r139, hr139, h⟩ := bd_e h
  refine k_V (pc := 692) (st := []) C (c_X11_way hr139) lkV_RL_85 hs138 rfl rfl rfl (Nat.le_of_ble_eq_true rfl) (Nat.le_of_ble_eq_true rfl) (Nat.le_of_ble_eq_true rfl) (by show ce + 0 ≤ 600000; omega) (by show sl + 0 ≤ 7302250; omega) dL_law_692 ?_
  refine k_nf (cells2 := ce) (slots2 := sl) (st2 := [.int r139.2]) rfl rfl rfl ?_
  refine k_aloadn (pc := 695) C dL_law_695 (i := 2) rfl 2 rfl ?_
  refine k_aloadn (pc := 696) C dL_law_696 (i := 0) rfl 0 rfl ?_
  refine k_iloadn (pc := 697) C dL_law_697 (i := 3) rfl 3 rfl ?_
  refine k_iconst (pc := 698) C (v := (1 : Int32)) dL_law_698 (by decide) ?_
  refine k_iadd (pc := 699) C dL_law_699 ?_
  obtain ⟨ha140, h⟩ := gp_e h
  refine k_sld (pc := 700) C hE hX hbl ha140 dL_law_700 ?_
  obtain ⟨hs1410, h⟩ := gp_e h
  have hs141 := sok_e hs1410
  obtain ⟨r142, hr142, h⟩ := bd_e h
  refine k_V (pc := 701) (st := [.int r139.2]) C (c_X12_way hr142) lkV_RL_88 hs141 rfl rfl rfl (Nat.le_of_ble_eq_true rfl) (Nat.le_of_ble_eq_true rfl) (Nat.le_of_ble_eq_true rfl) (by show ce + 0 ≤ 600000; omega) (by show sl + 0 ≤ 7302250; omega) dL_law_701 ?_
  refine k_nf (cells2 := ce) (slots2 := sl) (st2 := [.int r142.2, .int r139.2]) rfl rfl rfl ?_
  refine k_icmp_eq (pc := 704) C dL_law_704 (tgt := 1508) (by decide) (fun hc143 => ?_) (fun hc143 => ?_)
  · rw [if_pos hc143] at h
    refine k_iinc (pc := 1508) C dL_law_1508 3 rfl (v := x3 + (5 : Int32)) (by rfl) (by decide) (L2 := [(0, .ref b), (1, .ref (E.1 + a1)), (2, .ref (E.1 + a2)), (3, .int (x3 + (5 : Int32)))]) rfl ?_
    refine k_goto (pc := 1511) C dL_law_1511 (tgt := 18) (by decide) ?_
    exact hko _ _ _ _ _ _ _ _ (by omega) (by omega) h
  · rw [if_neg hc143] at h
    refine k_iconst (pc := 707) C (v := (0 : Int32)) dL_law_707 (by decide) ?_
    exact absurd h (by decide)
def f_L_709 (L : Nat) (xs : Nat → Int32) (ko : Sh → Rw → Iw → Nat → Nat → Int32 → Option Int32) (S : Sh) (R : Rw) (I : Iw) (a1 a2 : Nat) (x3 : Int32) : Option Int32 := gp (sok S a1 11 12) (bd (f_X11_longest S R I a1) (fun r145 => gp (sok S a2 12 34) (bd (f_X12_longest S R r145.1 a2) (fun r147 => (if r145.2 = r147.2 then ko S R r147.1 a1 a2 (x3 + (5 : Int32)) else some (0 : Int32))))))
set_option maxHeartbeats 8000000 in
theorem b_L_709 {E : Ev} {p : Program} {l : Launch} {e : Env} {s : State} {m : MethodId} {below : List Frame} {meth : Method} {c : Code} {b L : Nat} {xs : Nat → Int32} (C : Cx E RL code 4 p s m c) (hr : meth.sig.returnType = ret) (hk : meth.locks = false) (hE : E.2.2.2.2.1 = s) (hX : va_X b L xs s s.heap) (hbl : b < E.1) {ko : Sh → Rw → Iw → Nat → Nat → Int32 → Option Int32} {n : Nat} (hko : ∀ (S : Sh) (R : Rw) (I : Iw) (a1 a2 : Nat) (x3 : Int32) (ce sl : Nat), ce + 2 * n ≤ 600000 → sl + 35 * n ≤ 7302250 → ko S R I a1 a2 x3 = some 1 → Wk E 4 p l e room_1 s m #[Value.ref b] below meth c ce sl (lw_Z below #[Value.ref b] s) 18 [(0, .ref b), (1, .ref (E.1 + a1)), (2, .ref (E.1 + a2)), (3, .int x3)] [] S R I) (S : Sh) (R : Rw) (I : Iw) (a1 a2 : Nat) (x3 : Int32) (ce sl : Nat) (hce : ce + 2 * (n + 1) ≤ 600000) (hsl : sl + 35 * (n + 1) ≤ 7302250) (h : f_L_709 L xs ko S R I a1 a2 x3 = some 1) : Wk E 4 p l e room_1 s m #[Value.ref b] below meth c ce sl (lw_Z below #[Value.ref b] s) 709 [(0, .ref b), (1, .ref (E.1 + a1)), (2, .ref (E.1 + a2)), (3, .int x3)] [] S R I := by
  rw [f_L_709] at h
  refine k_aloadn (pc := 709) C dL_law_709 (i := 1) rfl 1 rfl ?_
  obtain ⟨hs1440, h⟩ := gp_e h
  have hs144 := sok_e hs1440
  obtain ⟨r145, hr145, h⟩ := bd_e h
  refine k_V (pc := 710) (st := []) C (c_X11_longest hr145) lkV_RL_89 hs144 rfl rfl rfl (Nat.le_of_ble_eq_true rfl) (Nat.le_of_ble_eq_true rfl) (Nat.le_of_ble_eq_true rfl) (by show ce + 0 ≤ 600000; omega) (by show sl + 0 ≤ 7302250; omega) dL_law_710 ?_
  refine k_nf (cells2 := ce) (slots2 := sl) (st2 := [.int r145.2]) rfl rfl rfl ?_
  refine k_aloadn (pc := 713) C dL_law_713 (i := 2) rfl 2 rfl ?_
  obtain ⟨hs1460, h⟩ := gp_e h
  have hs146 := sok_e hs1460
  obtain ⟨r147, hr147, h⟩ := bd_e h
  refine k_V (pc := 714) (st := [.int r145.2]) C (c_X12_longest hr147) lkV_RL_92 hs146 rfl rfl rfl (Nat.le_of_ble_eq_true rfl) (Nat.le_of_ble_eq_true rfl) (Nat.le_of_ble_eq_true rfl) (by show ce + 0 ≤ 600000; omega) (by show sl + 0 ≤ 7302250; omega) dL_law_714 ?_
  refine k_nf (cells2 := ce) (slots2 := sl) (st2 := [.int r147.2, .int r145.2]) rfl rfl rfl ?_
  refine k_icmp_eq (pc := 717) C dL_law_717 (tgt := 1508) (by decide) (fun hc148 => ?_) (fun hc148 => ?_)
  · rw [if_pos hc148] at h
    refine k_iinc (pc := 1508) C dL_law_1508 3 rfl (v := x3 + (5 : Int32)) (by rfl) (by decide) (L2 := [(0, .ref b), (1, .ref (E.1 + a1)), (2, .ref (E.1 + a2)), (3, .int (x3 + (5 : Int32)))]) rfl ?_
    refine k_goto (pc := 1511) C dL_law_1511 (tgt := 18) (by decide) ?_
    exact hko _ _ _ _ _ _ _ _ (by omega) (by omega) h
  · rw [if_neg hc148] at h
    refine k_iconst (pc := 720) C (v := (0 : Int32)) dL_law_720 (by decide) ?_
    exact absurd h (by decide)
def f_L_722 (L : Nat) (xs : Nat → Int32) (ko : Sh → Rw → Iw → Nat → Nat → Int32 → Option Int32) (S : Sh) (R : Rw) (I : Iw) (a1 a2 : Nat) (x3 : Int32) : Option Int32 := gp (scok L (x3 + (1 : Int32))) (gp (sok S a1 11 12) (bd (f_X11_far S R I a1 (xs (x3 + (1 : Int32)).toNatClampNeg)) (fun r151 => gp (scok L (x3 + (1 : Int32))) (gp (sok S a2 12 34) (bd (f_X12_far S R r151.1 a2 (xs (x3 + (1 : Int32)).toNatClampNeg)) (fun r154 => (if r151.2 = r154.2 then ko S R r154.1 a1 a2 (x3 + (5 : Int32)) else some (0 : Int32))))))))
set_option maxHeartbeats 8000000 in
theorem b_L_722 {E : Ev} {p : Program} {l : Launch} {e : Env} {s : State} {m : MethodId} {below : List Frame} {meth : Method} {c : Code} {b L : Nat} {xs : Nat → Int32} (C : Cx E RL code 4 p s m c) (hr : meth.sig.returnType = ret) (hk : meth.locks = false) (hE : E.2.2.2.2.1 = s) (hX : va_X b L xs s s.heap) (hbl : b < E.1) {ko : Sh → Rw → Iw → Nat → Nat → Int32 → Option Int32} {n : Nat} (hko : ∀ (S : Sh) (R : Rw) (I : Iw) (a1 a2 : Nat) (x3 : Int32) (ce sl : Nat), ce + 2 * n ≤ 600000 → sl + 35 * n ≤ 7302250 → ko S R I a1 a2 x3 = some 1 → Wk E 4 p l e room_1 s m #[Value.ref b] below meth c ce sl (lw_Z below #[Value.ref b] s) 18 [(0, .ref b), (1, .ref (E.1 + a1)), (2, .ref (E.1 + a2)), (3, .int x3)] [] S R I) (S : Sh) (R : Rw) (I : Iw) (a1 a2 : Nat) (x3 : Int32) (ce sl : Nat) (hce : ce + 2 * (n + 1) ≤ 600000) (hsl : sl + 35 * (n + 1) ≤ 7302250) (h : f_L_722 L xs ko S R I a1 a2 x3 = some 1) : Wk E 4 p l e room_1 s m #[Value.ref b] below meth c ce sl (lw_Z below #[Value.ref b] s) 722 [(0, .ref b), (1, .ref (E.1 + a1)), (2, .ref (E.1 + a2)), (3, .int x3)] [] S R I := by
  rw [f_L_722] at h
  refine k_aloadn (pc := 722) C dL_law_722 (i := 1) rfl 1 rfl ?_
  refine k_aloadn (pc := 723) C dL_law_723 (i := 0) rfl 0 rfl ?_
  refine k_iloadn (pc := 724) C dL_law_724 (i := 3) rfl 3 rfl ?_
  refine k_iconst (pc := 725) C (v := (1 : Int32)) dL_law_725 (by decide) ?_
  refine k_iadd (pc := 726) C dL_law_726 ?_
  obtain ⟨ha149, h⟩ := gp_e h
  refine k_sld (pc := 727) C hE hX hbl ha149 dL_law_727 ?_
  obtain ⟨hs1500, h⟩ := gp_e h
  have hs150 := sok_e hs1500
  obtain ⟨r151, hr151, h⟩ := bd_e h
  refine k_V (pc := 728) (st := []) C (c_X11_far hr151) lkV_RL_93 hs150 rfl rfl rfl (Nat.le_of_ble_eq_true rfl) (Nat.le_of_ble_eq_true rfl) (Nat.le_of_ble_eq_true rfl) (by show ce + 0 ≤ 600000; omega) (by show sl + 0 ≤ 7302250; omega) dL_law_728 ?_
  refine k_nf (cells2 := ce) (slots2 := sl) (st2 := [.int r151.2]) rfl rfl rfl ?_
  refine k_aloadn (pc := 731) C dL_law_731 (i := 2) rfl 2 rfl ?_
  refine k_aloadn (pc := 732) C dL_law_732 (i := 0) rfl 0 rfl ?_
  refine k_iloadn (pc := 733) C dL_law_733 (i := 3) rfl 3 rfl ?_
  refine k_iconst (pc := 734) C (v := (1 : Int32)) dL_law_734 (by decide) ?_
  refine k_iadd (pc := 735) C dL_law_735 ?_
  obtain ⟨ha152, h⟩ := gp_e h
  refine k_sld (pc := 736) C hE hX hbl ha152 dL_law_736 ?_
  obtain ⟨hs1530, h⟩ := gp_e h
  have hs153 := sok_e hs1530
  obtain ⟨r154, hr154, h⟩ := bd_e h
  refine k_V (pc := 737) (st := [.int r151.2]) C (c_X12_far hr154) lkV_RL_96 hs153 rfl rfl rfl (Nat.le_of_ble_eq_true rfl) (Nat.le_of_ble_eq_true rfl) (Nat.le_of_ble_eq_true rfl) (by show ce + 0 ≤ 600000; omega) (by show sl + 0 ≤ 7302250; omega) dL_law_737 ?_
  refine k_nf (cells2 := ce) (slots2 := sl) (st2 := [.int r154.2, .int r151.2]) rfl rfl rfl ?_
  refine k_icmp_eq (pc := 740) C dL_law_740 (tgt := 1508) (by decide) (fun hc155 => ?_) (fun hc155 => ?_)
  · rw [if_pos hc155] at h
    refine k_iinc (pc := 1508) C dL_law_1508 3 rfl (v := x3 + (5 : Int32)) (by rfl) (by decide) (L2 := [(0, .ref b), (1, .ref (E.1 + a1)), (2, .ref (E.1 + a2)), (3, .int (x3 + (5 : Int32)))]) rfl ?_
    refine k_goto (pc := 1511) C dL_law_1511 (tgt := 18) (by decide) ?_
    exact hko _ _ _ _ _ _ _ _ (by omega) (by omega) h
  · rw [if_neg hc155] at h
    refine k_iconst (pc := 743) C (v := (0 : Int32)) dL_law_743 (by decide) ?_
    exact absurd h (by decide)
def f_L_745 (L : Nat) (xs : Nat → Int32) (ko : Sh → Rw → Iw → Nat → Nat → Int32 → Option Int32) (S : Sh) (R : Rw) (I : Iw) (a1 a2 : Nat) (x3 : Int32) : Option Int32 := gp (sok S a1 11 12) (bd (f_X11_cheapest S R I a1) (fun r157 => gp (sok S a2 12 34) (bd (f_X12_cheapest S R r157.1 a2) (fun r159 => (if r157.2 = r159.2 then ko S R r159.1 a1 a2 (x3 + (5 : Int32)) else some (0 : Int32))))))
set_option maxHeartbeats 8000000 in
theorem b_L_745 {E : Ev} {p : Program} {l : Launch} {e : Env} {s : State} {m : MethodId} {below : List Frame} {meth : Method} {c : Code} {b L : Nat} {xs : Nat → Int32} (C : Cx E RL code 4 p s m c) (hr : meth.sig.returnType = ret) (hk : meth.locks = false) (hE : E.2.2.2.2.1 = s) (hX : va_X b L xs s s.heap) (hbl : b < E.1) {ko : Sh → Rw → Iw → Nat → Nat → Int32 → Option Int32} {n : Nat} (hko : ∀ (S : Sh) (R : Rw) (I : Iw) (a1 a2 : Nat) (x3 : Int32) (ce sl : Nat), ce + 2 * n ≤ 600000 → sl + 35 * n ≤ 7302250 → ko S R I a1 a2 x3 = some 1 → Wk E 4 p l e room_1 s m #[Value.ref b] below meth c ce sl (lw_Z below #[Value.ref b] s) 18 [(0, .ref b), (1, .ref (E.1 + a1)), (2, .ref (E.1 + a2)), (3, .int x3)] [] S R I) (S : Sh) (R : Rw) (I : Iw) (a1 a2 : Nat) (x3 : Int32) (ce sl : Nat) (hce : ce + 2 * (n + 1) ≤ 600000) (hsl : sl + 35 * (n + 1) ≤ 7302250) (h : f_L_745 L xs ko S R I a1 a2 x3 = some 1) : Wk E 4 p l e room_1 s m #[Value.ref b] below meth c ce sl (lw_Z below #[Value.ref b] s) 745 [(0, .ref b), (1, .ref (E.1 + a1)), (2, .ref (E.1 + a2)), (3, .int x3)] [] S R I := by
  rw [f_L_745] at h
  refine k_aloadn (pc := 745) C dL_law_745 (i := 1) rfl 1 rfl ?_
  obtain ⟨hs1560, h⟩ := gp_e h
  have hs156 := sok_e hs1560
  obtain ⟨r157, hr157, h⟩ := bd_e h
  refine k_V (pc := 746) (st := []) C (c_X11_cheapest hr157) lkV_RL_97 hs156 rfl rfl rfl (Nat.le_of_ble_eq_true rfl) (Nat.le_of_ble_eq_true rfl) (Nat.le_of_ble_eq_true rfl) (by show ce + 0 ≤ 600000; omega) (by show sl + 0 ≤ 7302250; omega) dL_law_746 ?_
  refine k_nf (cells2 := ce) (slots2 := sl) (st2 := [.int r157.2]) rfl rfl rfl ?_
  refine k_aloadn (pc := 749) C dL_law_749 (i := 2) rfl 2 rfl ?_
  obtain ⟨hs1580, h⟩ := gp_e h
  have hs158 := sok_e hs1580
  obtain ⟨r159, hr159, h⟩ := bd_e h
  refine k_V (pc := 750) (st := [.int r157.2]) C (c_X12_cheapest hr159) lkV_RL_100 hs158 rfl rfl rfl (Nat.le_of_ble_eq_true rfl) (Nat.le_of_ble_eq_true rfl) (Nat.le_of_ble_eq_true rfl) (by show ce + 0 ≤ 600000; omega) (by show sl + 0 ≤ 7302250; omega) dL_law_750 ?_
  refine k_nf (cells2 := ce) (slots2 := sl) (st2 := [.int r159.2, .int r157.2]) rfl rfl rfl ?_
  refine k_icmp_eq (pc := 753) C dL_law_753 (tgt := 1508) (by decide) (fun hc160 => ?_) (fun hc160 => ?_)
  · rw [if_pos hc160] at h
    refine k_iinc (pc := 1508) C dL_law_1508 3 rfl (v := x3 + (5 : Int32)) (by rfl) (by decide) (L2 := [(0, .ref b), (1, .ref (E.1 + a1)), (2, .ref (E.1 + a2)), (3, .int (x3 + (5 : Int32)))]) rfl ?_
    refine k_goto (pc := 1511) C dL_law_1511 (tgt := 18) (by decide) ?_
    exact hko _ _ _ _ _ _ _ _ (by omega) (by omega) h
  · rw [if_neg hc160] at h
    refine k_iconst (pc := 756) C (v := (0 : Int32)) dL_law_756 (by decide) ?_
    exact absurd h (by decide)
def f_L_758 (L : Nat) (xs : Nat → Int32) (ko : Sh → Rw → Iw → Nat → Nat → Int32 → Option Int32) (S : Sh) (R : Rw) (I : Iw) (a1 a2 : Nat) (x3 : Int32) : Option Int32 := gp (scok L (x3 + (1 : Int32))) (gp (sok S a1 11 12) (bd (f_X11_cheap S R I a1 (xs (x3 + (1 : Int32)).toNatClampNeg)) (fun r163 => gp (scok L (x3 + (1 : Int32))) (gp (sok S a2 12 34) (bd (f_X12_cheap S R r163.1 a2 (xs (x3 + (1 : Int32)).toNatClampNeg)) (fun r166 => (if r163.2 = r166.2 then ko S R r166.1 a1 a2 (x3 + (5 : Int32)) else some (0 : Int32))))))))
set_option maxHeartbeats 8000000 in
theorem b_L_758 {E : Ev} {p : Program} {l : Launch} {e : Env} {s : State} {m : MethodId} {below : List Frame} {meth : Method} {c : Code} {b L : Nat} {xs : Nat → Int32} (C : Cx E RL code 4 p s m c) (hr : meth.sig.returnType = ret) (hk : meth.locks = false) (hE : E.2.2.2.2.1 = s) (hX : va_X b L xs s s.heap) (hbl : b < E.1) {ko : Sh → Rw → Iw → Nat → Nat → Int32 → Option Int32} {n : Nat} (hko : ∀ (S : Sh) (R : Rw) (I : Iw) (a1 a2 : Nat) (x3 : Int32) (ce sl : Nat), ce + 2 * n ≤ 600000 → sl + 35 * n ≤ 7302250 → ko S R I a1 a2 x3 = some 1 → Wk E 4 p l e room_1 s m #[Value.ref b] below meth c ce sl (lw_Z below #[Value.ref b] s) 18 [(0, .ref b), (1, .ref (E.1 + a1)), (2, .ref (E.1 + a2)), (3, .int x3)] [] S R I) (S : Sh) (R : Rw) (I : Iw) (a1 a2 : Nat) (x3 : Int32) (ce sl : Nat) (hce : ce + 2 * (n + 1) ≤ 600000) (hsl : sl + 35 * (n + 1) ≤ 7302250) (h : f_L_758 L xs ko S R I a1 a2 x3 = some 1) : Wk E 4 p l e room_1 s m #[Value.ref b] below meth c ce sl (lw_Z below #[Value.ref b] s) 758 [(0, .ref b), (1, .ref (E.1 + a1)), (2, .ref (E.1 + a2)), (3, .int x3)] [] S R I := by
  rw [f_L_758] at h
  refine k_aloadn (pc := 758) C dL_law_758 (i := 1) rfl 1 rfl ?_
  refine k_aloadn (pc := 759) C dL_law_759 (i := 0) rfl 0 rfl ?_
  refine k_iloadn (pc := 760) C dL_law_760 (i := 3) rfl 3 rfl ?_
  refine k_iconst (pc := 761) C (v := (1 : Int32)) dL_law_761 (by decide) ?_
  refine k_iadd (pc := 762) C dL_law_762 ?_
  obtain ⟨ha161, h⟩ := gp_e h
  refine k_sld (pc := 763) C hE hX hbl ha161 dL_law_763 ?_
  obtain ⟨hs1620, h⟩ := gp_e h
  have hs162 := sok_e hs1620
  obtain ⟨r163, hr163, h⟩ := bd_e h
  refine k_V (pc := 764) (st := []) C (c_X11_cheap hr163) lkV_RL_101 hs162 rfl rfl rfl (Nat.le_of_ble_eq_true rfl) (Nat.le_of_ble_eq_true rfl) (Nat.le_of_ble_eq_true rfl) (by show ce + 0 ≤ 600000; omega) (by show sl + 0 ≤ 7302250; omega) dL_law_764 ?_
  refine k_nf (cells2 := ce) (slots2 := sl) (st2 := [.int r163.2]) rfl rfl rfl ?_
  refine k_aloadn (pc := 767) C dL_law_767 (i := 2) rfl 2 rfl ?_
  refine k_aloadn (pc := 768) C dL_law_768 (i := 0) rfl 0 rfl ?_
  refine k_iloadn (pc := 769) C dL_law_769 (i := 3) rfl 3 rfl ?_
  refine k_iconst (pc := 770) C (v := (1 : Int32)) dL_law_770 (by decide) ?_
  refine k_iadd (pc := 771) C dL_law_771 ?_
  obtain ⟨ha164, h⟩ := gp_e h
  refine k_sld (pc := 772) C hE hX hbl ha164 dL_law_772 ?_
  obtain ⟨hs1650, h⟩ := gp_e h
  have hs165 := sok_e hs1650
  obtain ⟨r166, hr166, h⟩ := bd_e h
  refine k_V (pc := 773) (st := [.int r163.2]) C (c_X12_cheap hr166) lkV_RL_104 hs165 rfl rfl rfl (Nat.le_of_ble_eq_true rfl) (Nat.le_of_ble_eq_true rfl) (Nat.le_of_ble_eq_true rfl) (by show ce + 0 ≤ 600000; omega) (by show sl + 0 ≤ 7302250; omega) dL_law_773 ?_
  refine k_nf (cells2 := ce) (slots2 := sl) (st2 := [.int r166.2, .int r163.2]) rfl rfl rfl ?_
  refine k_icmp_eq (pc := 776) C dL_law_776 (tgt := 1508) (by decide) (fun hc167 => ?_) (fun hc167 => ?_)
  · rw [if_pos hc167] at h
    refine k_iinc (pc := 1508) C dL_law_1508 3 rfl (v := x3 + (5 : Int32)) (by rfl) (by decide) (L2 := [(0, .ref b), (1, .ref (E.1 + a1)), (2, .ref (E.1 + a2)), (3, .int (x3 + (5 : Int32)))]) rfl ?_
    refine k_goto (pc := 1511) C dL_law_1511 (tgt := 18) (by decide) ?_
    exact hko _ _ _ _ _ _ _ _ (by omega) (by omega) h
  · rw [if_neg hc167] at h
    refine k_iconst (pc := 779) C (v := (0 : Int32)) dL_law_779 (by decide) ?_
    exact absurd h (by decide)
def f_L_781 (L : Nat) (xs : Nat → Int32) (ko : Sh → Rw → Iw → Nat → Nat → Int32 → Option Int32) (S : Sh) (R : Rw) (I : Iw) (a1 a2 : Nat) (x3 : Int32) : Option Int32 := gp (sok S a1 11 12) (bd (f_X11_never S R I a1) (fun r169 => gp (sok S a2 12 34) (bd (f_X12_never S R r169.1 a2) (fun r171 => (if r169.2 = r171.2 then ko S R r171.1 a1 a2 (x3 + (5 : Int32)) else some (0 : Int32))))))
set_option maxHeartbeats 8000000 in
theorem b_L_781 {E : Ev} {p : Program} {l : Launch} {e : Env} {s : State} {m : MethodId} {below : List Frame} {meth : Method} {c : Code} {b L : Nat} {xs : Nat → Int32} (C : Cx E RL code 4 p s m c) (hr : meth.sig.returnType = ret) (hk : meth.locks = false) (hE : E.2.2.2.2.1 = s) (hX : va_X b L xs s s.heap) (hbl : b < E.1) {ko : Sh → Rw → Iw → Nat → Nat → Int32 → Option Int32} {n : Nat} (hko : ∀ (S : Sh) (R : Rw) (I : Iw) (a1 a2 : Nat) (x3 : Int32) (ce sl : Nat), ce + 2 * n ≤ 600000 → sl + 35 * n ≤ 7302250 → ko S R I a1 a2 x3 = some 1 → Wk E 4 p l e room_1 s m #[Value.ref b] below meth c ce sl (lw_Z below #[Value.ref b] s) 18 [(0, .ref b), (1, .ref (E.1 + a1)), (2, .ref (E.1 + a2)), (3, .int x3)] [] S R I) (S : Sh) (R : Rw) (I : Iw) (a1 a2 : Nat) (x3 : Int32) (ce sl : Nat) (hce : ce + 2 * (n + 1) ≤ 600000) (hsl : sl + 35 * (n + 1) ≤ 7302250) (h : f_L_781 L xs ko S R I a1 a2 x3 = some 1) : Wk E 4 p l e room_1 s m #[Value.ref b] below meth c ce sl (lw_Z below #[Value.ref b] s) 781 [(0, .ref b), (1, .ref (E.1 + a1)), (2, .ref (E.1 + a2)), (3, .int x3)] [] S R I := by
  rw [f_L_781] at h
  refine k_aloadn (pc := 781) C dL_law_781 (i := 1) rfl 1 rfl ?_
  obtain ⟨hs1680, h⟩ := gp_e h
  have hs168 := sok_e hs1680
  obtain ⟨r169, hr169, h⟩ := bd_e h
  refine k_V (pc := 782) (st := []) C (c_X11_never hr169) lkV_RL_105 hs168 rfl rfl rfl (Nat.le_of_ble_eq_true rfl) (Nat.le_of_ble_eq_true rfl) (Nat.le_of_ble_eq_true rfl) (by show ce + 0 ≤ 600000; omega) (by show sl + 0 ≤ 7302250; omega) dL_law_782 ?_
  refine k_nf (cells2 := ce) (slots2 := sl) (st2 := [.int r169.2]) rfl rfl rfl ?_
  refine k_aloadn (pc := 785) C dL_law_785 (i := 2) rfl 2 rfl ?_
  obtain ⟨hs1700, h⟩ := gp_e h
  have hs170 := sok_e hs1700
  obtain ⟨r171, hr171, h⟩ := bd_e h
  refine k_V (pc := 786) (st := [.int r169.2]) C (c_X12_never hr171) lkV_RL_108 hs170 rfl rfl rfl (Nat.le_of_ble_eq_true rfl) (Nat.le_of_ble_eq_true rfl) (Nat.le_of_ble_eq_true rfl) (by show ce + 0 ≤ 600000; omega) (by show sl + 0 ≤ 7302250; omega) dL_law_786 ?_
  refine k_nf (cells2 := ce) (slots2 := sl) (st2 := [.int r171.2, .int r169.2]) rfl rfl rfl ?_
  refine k_icmp_eq (pc := 789) C dL_law_789 (tgt := 1508) (by decide) (fun hc172 => ?_) (fun hc172 => ?_)
  · rw [if_pos hc172] at h
    refine k_iinc (pc := 1508) C dL_law_1508 3 rfl (v := x3 + (5 : Int32)) (by rfl) (by decide) (L2 := [(0, .ref b), (1, .ref (E.1 + a1)), (2, .ref (E.1 + a2)), (3, .int (x3 + (5 : Int32)))]) rfl ?_
    refine k_goto (pc := 1511) C dL_law_1511 (tgt := 18) (by decide) ?_
    exact hko _ _ _ _ _ _ _ _ (by omega) (by omega) h
  · rw [if_neg hc172] at h
    refine k_iconst (pc := 792) C (v := (0 : Int32)) dL_law_792 (by decide) ?_
    exact absurd h (by decide)
def f_L_794 (L : Nat) (xs : Nat → Int32) (ko : Sh → Rw → Iw → Nat → Nat → Int32 → Option Int32) (S : Sh) (R : Rw) (I : Iw) (a1 a2 : Nat) (x3 : Int32) : Option Int32 := gp (sok S a1 11 12) (bd (f_X11_best S R I a1) (fun r174 => gp (sok S a2 12 34) (bd (f_X12_best S R r174.1 a2) (fun r176 => (if r174.2 = r176.2 then ko S R r176.1 a1 a2 (x3 + (5 : Int32)) else some (0 : Int32))))))
set_option maxHeartbeats 8000000 in
theorem b_L_794 {E : Ev} {p : Program} {l : Launch} {e : Env} {s : State} {m : MethodId} {below : List Frame} {meth : Method} {c : Code} {b L : Nat} {xs : Nat → Int32} (C : Cx E RL code 4 p s m c) (hr : meth.sig.returnType = ret) (hk : meth.locks = false) (hE : E.2.2.2.2.1 = s) (hX : va_X b L xs s s.heap) (hbl : b < E.1) {ko : Sh → Rw → Iw → Nat → Nat → Int32 → Option Int32} {n : Nat} (hko : ∀ (S : Sh) (R : Rw) (I : Iw) (a1 a2 : Nat) (x3 : Int32) (ce sl : Nat), ce + 2 * n ≤ 600000 → sl + 35 * n ≤ 7302250 → ko S R I a1 a2 x3 = some 1 → Wk E 4 p l e room_1 s m #[Value.ref b] below meth c ce sl (lw_Z below #[Value.ref b] s) 18 [(0, .ref b), (1, .ref (E.1 + a1)), (2, .ref (E.1 + a2)), (3, .int x3)] [] S R I) (S : Sh) (R : Rw) (I : Iw) (a1 a2 : Nat) (x3 : Int32) (ce sl : Nat) (hce : ce + 2 * (n + 1) ≤ 600000) (hsl : sl + 35 * (n + 1) ≤ 7302250) (h : f_L_794 L xs ko S R I a1 a2 x3 = some 1) : Wk E 4 p l e room_1 s m #[Value.ref b] below meth c ce sl (lw_Z below #[Value.ref b] s) 794 [(0, .ref b), (1, .ref (E.1 + a1)), (2, .ref (E.1 + a2)), (3, .int x3)] [] S R I := by
  rw [f_L_794] at h
  refine k_aloadn (pc := 794) C dL_law_794 (i := 1) rfl 1 rfl ?_
  obtain ⟨hs1730, h⟩ := gp_e h
  have hs173 := sok_e hs1730
  obtain ⟨r174, hr174, h⟩ := bd_e h
  refine k_V (pc := 795) (st := []) C (c_X11_best hr174) lkV_RL_109 hs173 rfl rfl rfl (Nat.le_of_ble_eq_true rfl) (Nat.le_of_ble_eq_true rfl) (Nat.le_of_ble_eq_true rfl) (by show ce + 0 ≤ 600000; omega) (by show sl + 0 ≤ 7302250; omega) dL_law_795 ?_
  refine k_nf (cells2 := ce) (slots2 := sl) (st2 := [.int r174.2]) rfl rfl rfl ?_
  refine k_aloadn (pc := 798) C dL_law_798 (i := 2) rfl 2 rfl ?_
  obtain ⟨hs1750, h⟩ := gp_e h
  have hs175 := sok_e hs1750
  obtain ⟨r176, hr176, h⟩ := bd_e h
  refine k_V (pc := 799) (st := [.int r174.2]) C (c_X12_best hr176) lkV_RL_112 hs175 rfl rfl rfl (Nat.le_of_ble_eq_true rfl) (Nat.le_of_ble_eq_true rfl) (Nat.le_of_ble_eq_true rfl) (by show ce + 0 ≤ 600000; omega) (by show sl + 0 ≤ 7302250; omega) dL_law_799 ?_
  refine k_nf (cells2 := ce) (slots2 := sl) (st2 := [.int r176.2, .int r174.2]) rfl rfl rfl ?_
  refine k_icmp_eq (pc := 802) C dL_law_802 (tgt := 1508) (by decide) (fun hc177 => ?_) (fun hc177 => ?_)
  · rw [if_pos hc177] at h
    refine k_iinc (pc := 1508) C dL_law_1508 3 rfl (v := x3 + (5 : Int32)) (by rfl) (by decide) (L2 := [(0, .ref b), (1, .ref (E.1 + a1)), (2, .ref (E.1 + a2)), (3, .int (x3 + (5 : Int32)))]) rfl ?_
    refine k_goto (pc := 1511) C dL_law_1511 (tgt := 18) (by decide) ?_
    exact hko _ _ _ _ _ _ _ _ (by omega) (by omega) h
  · rw [if_neg hc177] at h
    refine k_iconst (pc := 805) C (v := (0 : Int32)) dL_law_805 (by decide) ?_
    exact absurd h (by decide)
def f_L_807 (L : Nat) (xs : Nat → Int32) (ko : Sh → Rw → Iw → Nat → Nat → Int32 → Option Int32) (S : Sh) (R : Rw) (I : Iw) (a1 a2 : Nat) (x3 : Int32) : Option Int32 := gp (sok S a1 11 12) (bd (f_X11_goat S R I a1) (fun r179 => gp (sok S a2 12 34) (bd (f_X12_goat S R r179.1 a2) (fun r181 => (if r179.2 = r181.2 then ko S R r181.1 a1 a2 (x3 + (5 : Int32)) else some (0 : Int32))))))
set_option maxHeartbeats 8000000 in
theorem b_L_807 {E : Ev} {p : Program} {l : Launch} {e : Env} {s : State} {m : MethodId} {below : List Frame} {meth : Method} {c : Code} {b L : Nat} {xs : Nat → Int32} (C : Cx E RL code 4 p s m c) (hr : meth.sig.returnType = ret) (hk : meth.locks = false) (hE : E.2.2.2.2.1 = s) (hX : va_X b L xs s s.heap) (hbl : b < E.1) {ko : Sh → Rw → Iw → Nat → Nat → Int32 → Option Int32} {n : Nat} (hko : ∀ (S : Sh) (R : Rw) (I : Iw) (a1 a2 : Nat) (x3 : Int32) (ce sl : Nat), ce + 2 * n ≤ 600000 → sl + 35 * n ≤ 7302250 → ko S R I a1 a2 x3 = some 1 → Wk E 4 p l e room_1 s m #[Value.ref b] below meth c ce sl (lw_Z below #[Value.ref b] s) 18 [(0, .ref b), (1, .ref (E.1 + a1)), (2, .ref (E.1 + a2)), (3, .int x3)] [] S R I) (S : Sh) (R : Rw) (I : Iw) (a1 a2 : Nat) (x3 : Int32) (ce sl : Nat) (hce : ce + 2 * (n + 1) ≤ 600000) (hsl : sl + 35 * (n + 1) ≤ 7302250) (h : f_L_807 L xs ko S R I a1 a2 x3 = some 1) : Wk E 4 p l e room_1 s m #[Value.ref b] below meth c ce sl (lw_Z below #[Value.ref b] s) 807 [(0, .ref b), (1, .ref (E.1 + a1)), (2, .ref (E.1 + a2)), (3, .int x3)] [] S R I := by
  rw [f_L_807] at h
  refine k_aloadn (pc := 807) C dL_law_807 (i := 1) rfl 1 rfl ?_
  obtain ⟨hs1780, h⟩ := gp_e h
  have hs178 := sok_e hs1780
  obtain ⟨r179, hr179, h⟩ := bd_e h
  refine k_V (pc := 808) (st := []) C (c_X11_goat hr179) lkV_RL_113 hs178 rfl rfl rfl (Nat.le_of_ble_eq_true rfl) (Nat.le_of_ble_eq_true rfl) (Nat.le_of_ble_eq_true rfl) (by show ce + 0 ≤ 600000; omega) (by show sl + 0 ≤ 7302250; omega) dL_law_808 ?_
  refine k_nf (cells2 := ce) (slots2 := sl) (st2 := [.int r179.2]) rfl rfl rfl ?_
  refine k_aloadn (pc := 811) C dL_law_811 (i := 2) rfl 2 rfl ?_
  obtain ⟨hs1800, h⟩ := gp_e h
  have hs180 := sok_e hs1800
  obtain ⟨r181, hr181, h⟩ := bd_e h
  refine k_V (pc := 812) (st := [.int r179.2]) C (c_X12_goat hr181) lkV_RL_116 hs180 rfl rfl rfl (Nat.le_of_ble_eq_true rfl) (Nat.le_of_ble_eq_true rfl) (Nat.le_of_ble_eq_true rfl) (by show ce + 0 ≤ 600000; omega) (by show sl + 0 ≤ 7302250; omega) dL_law_812 ?_
  refine k_nf (cells2 := ce) (slots2 := sl) (st2 := [.int r181.2, .int r179.2]) rfl rfl rfl ?_
  refine k_icmp_eq (pc := 815) C dL_law_815 (tgt := 1508) (by decide) (fun hc182 => ?_) (fun hc182 => ?_)
  · rw [if_pos hc182] at h
    refine k_iinc (pc := 1508) C dL_law_1508 3 rfl (v := x3 + (5 : Int32)) (by rfl) (by decide) (L2 := [(0, .ref b), (1, .ref (E.1 + a1)), (2, .ref (E.1 + a2)), (3, .int (x3 + (5 : Int32)))]) rfl ?_
    refine k_goto (pc := 1511) C dL_law_1511 (tgt := 18) (by decide) ?_
    exact hko _ _ _ _ _ _ _ _ (by omega) (by omega) h
  · rw [if_neg hc182] at h
    refine k_iconst (pc := 818) C (v := (0 : Int32)) dL_law_818 (by decide) ?_
    exact absurd h (by decide)
def f_L_820 (L : Nat) (xs : Nat → Int32) (ko : Sh → Rw → Iw → Nat → Nat → Int32 → Option Int32) (S : Sh) (R : Rw) (I : Iw) (a1 a2 : Nat) (x3 : Int32) : Option Int32 := gp (sok S a1 11 12) (bd (f_X11_gapFor S R I a1) (fun r184 => gp (sok S a2 12 34) (bd (f_X12_gapFor S R r184.1 a2) (fun r186 => (if r184.2 = r186.2 then ko S R r186.1 a1 a2 (x3 + (5 : Int32)) else some (0 : Int32))))))
set_option maxHeartbeats 8000000 in
theorem b_L_820 {E : Ev} {p : Program} {l : Launch} {e : Env} {s : State} {m : MethodId} {below : List Frame} {meth : Method} {c : Code} {b L : Nat} {xs : Nat → Int32} (C : Cx E RL code 4 p s m c) (hr : meth.sig.returnType = ret) (hk : meth.locks = false) (hE : E.2.2.2.2.1 = s) (hX : va_X b L xs s s.heap) (hbl : b < E.1) {ko : Sh → Rw → Iw → Nat → Nat → Int32 → Option Int32} {n : Nat} (hko : ∀ (S : Sh) (R : Rw) (I : Iw) (a1 a2 : Nat) (x3 : Int32) (ce sl : Nat), ce + 2 * n ≤ 600000 → sl + 35 * n ≤ 7302250 → ko S R I a1 a2 x3 = some 1 → Wk E 4 p l e room_1 s m #[Value.ref b] below meth c ce sl (lw_Z below #[Value.ref b] s) 18 [(0, .ref b), (1, .ref (E.1 + a1)), (2, .ref (E.1 + a2)), (3, .int x3)] [] S R I) (S : Sh) (R : Rw) (I : Iw) (a1 a2 : Nat) (x3 : Int32) (ce sl : Nat) (hce : ce + 2 * (n + 1) ≤ 600000) (hsl : sl + 35 * (n + 1) ≤ 7302250) (h : f_L_820 L xs ko S R I a1 a2 x3 = some 1) : Wk E 4 p l e room_1 s m #[Value.ref b] below meth c ce sl (lw_Z below #[Value.ref b] s) 820 [(0, .ref b), (1, .ref (E.1 + a1)), (2, .ref (E.1 + a2)), (3, .int x3)] [] S R I := by
  rw [f_L_820] at h
  refine k_aloadn (pc := 820) C dL_law_820 (i := 1) rfl 1 rfl ?_
  obtain ⟨hs1830, h⟩ := gp_e h
  have hs183 := sok_e hs1830
  obtain ⟨r184, hr184, h⟩ := bd_e h
  refine k_V (pc := 821) (st := []) C (c_X11_gapFor hr184) lkV_RL_117 hs183 rfl rfl rfl (Nat.le_of_ble_eq_true rfl) (Nat.le_of_ble_eq_true rfl) (Nat.le_of_ble_eq_true rfl) (by show ce + 0 ≤ 600000; omega) (by show sl + 0 ≤ 7302250; omega) dL_law_821 ?_
  refine k_nf (cells2 := ce) (slots2 := sl) (st2 := [.int r184.2]) rfl rfl rfl ?_
  refine k_aloadn (pc := 824) C dL_law_824 (i := 2) rfl 2 rfl ?_
  obtain ⟨hs1850, h⟩ := gp_e h
  have hs185 := sok_e hs1850
  obtain ⟨r186, hr186, h⟩ := bd_e h
  refine k_V (pc := 825) (st := [.int r184.2]) C (c_X12_gapFor hr186) lkV_RL_120 hs185 rfl rfl rfl (Nat.le_of_ble_eq_true rfl) (Nat.le_of_ble_eq_true rfl) (Nat.le_of_ble_eq_true rfl) (by show ce + 0 ≤ 600000; omega) (by show sl + 0 ≤ 7302250; omega) dL_law_825 ?_
  refine k_nf (cells2 := ce) (slots2 := sl) (st2 := [.int r186.2, .int r184.2]) rfl rfl rfl ?_
  refine k_icmp_eq (pc := 828) C dL_law_828 (tgt := 1508) (by decide) (fun hc187 => ?_) (fun hc187 => ?_)
  · rw [if_pos hc187] at h
    refine k_iinc (pc := 1508) C dL_law_1508 3 rfl (v := x3 + (5 : Int32)) (by rfl) (by decide) (L2 := [(0, .ref b), (1, .ref (E.1 + a1)), (2, .ref (E.1 + a2)), (3, .int (x3 + (5 : Int32)))]) rfl ?_
    refine k_goto (pc := 1511) C dL_law_1511 (tgt := 18) (by decide) ?_
    exact hko _ _ _ _ _ _ _ _ (by omega) (by omega) h
  · rw [if_neg hc187] at h
    refine k_iconst (pc := 831) C (v := (0 : Int32)) dL_law_831 (by decide) ?_
    exact absurd h (by decide)
def f_L_833 (L : Nat) (xs : Nat → Int32) (ko : Sh → Rw → Iw → Nat → Nat → Int32 → Option Int32) (S : Sh) (R : Rw) (I : Iw) (a1 a2 : Nat) (x3 : Int32) : Option Int32 := gp (sok S a1 11 12) (bd (f_X11_game S R I a1) (fun r189 => gp (sok S a2 12 34) (bd (f_X12_game S R r189.1 a2) (fun r191 => (if r189.2 = r191.2 then ko S R r191.1 a1 a2 (x3 + (5 : Int32)) else some (0 : Int32))))))
set_option maxHeartbeats 8000000 in
theorem b_L_833 {E : Ev} {p : Program} {l : Launch} {e : Env} {s : State} {m : MethodId} {below : List Frame} {meth : Method} {c : Code} {b L : Nat} {xs : Nat → Int32} (C : Cx E RL code 4 p s m c) (hr : meth.sig.returnType = ret) (hk : meth.locks = false) (hE : E.2.2.2.2.1 = s) (hX : va_X b L xs s s.heap) (hbl : b < E.1) {ko : Sh → Rw → Iw → Nat → Nat → Int32 → Option Int32} {n : Nat} (hko : ∀ (S : Sh) (R : Rw) (I : Iw) (a1 a2 : Nat) (x3 : Int32) (ce sl : Nat), ce + 2 * n ≤ 600000 → sl + 35 * n ≤ 7302250 → ko S R I a1 a2 x3 = some 1 → Wk E 4 p l e room_1 s m #[Value.ref b] below meth c ce sl (lw_Z below #[Value.ref b] s) 18 [(0, .ref b), (1, .ref (E.1 + a1)), (2, .ref (E.1 + a2)), (3, .int x3)] [] S R I) (S : Sh) (R : Rw) (I : Iw) (a1 a2 : Nat) (x3 : Int32) (ce sl : Nat) (hce : ce + 2 * (n + 1) ≤ 600000) (hsl : sl + 35 * (n + 1) ≤ 7302250) (h : f_L_833 L xs ko S R I a1 a2 x3 = some 1) : Wk E 4 p l e room_1 s m #[Value.ref b] below meth c ce sl (lw_Z below #[Value.ref b] s) 833 [(0, .ref b), (1, .ref (E.1 + a1)), (2, .ref (E.1 + a2)), (3, .int x3)] [] S R I := by
  rw [f_L_833] at h
  refine k_aloadn (pc := 833) C dL_law_833 (i := 1) rfl 1 rfl ?_
  obtain ⟨hs1880, h⟩ := gp_e h
  have hs188 := sok_e hs1880
  obtain ⟨r189, hr189, h⟩ := bd_e h
  refine k_V (pc := 834) (st := []) C (c_X11_game hr189) lkV_RL_121 hs188 rfl rfl rfl (Nat.le_of_ble_eq_true rfl) (Nat.le_of_ble_eq_true rfl) (Nat.le_of_ble_eq_true rfl) (by show ce + 0 ≤ 600000; omega) (by show sl + 0 ≤ 7302250; omega) dL_law_834 ?_
  refine k_nf (cells2 := ce) (slots2 := sl) (st2 := [.int r189.2]) rfl rfl rfl ?_
  refine k_aloadn (pc := 837) C dL_law_837 (i := 2) rfl 2 rfl ?_
  obtain ⟨hs1900, h⟩ := gp_e h
  have hs190 := sok_e hs1900
  obtain ⟨r191, hr191, h⟩ := bd_e h
  refine k_V (pc := 838) (st := [.int r189.2]) C (c_X12_game hr191) lkV_RL_124 hs190 rfl rfl rfl (Nat.le_of_ble_eq_true rfl) (Nat.le_of_ble_eq_true rfl) (Nat.le_of_ble_eq_true rfl) (by show ce + 0 ≤ 600000; omega) (by show sl + 0 ≤ 7302250; omega) dL_law_838 ?_
  refine k_nf (cells2 := ce) (slots2 := sl) (st2 := [.int r191.2, .int r189.2]) rfl rfl rfl ?_
  refine k_icmp_eq (pc := 841) C dL_law_841 (tgt := 1508) (by decide) (fun hc192 => ?_) (fun hc192 => ?_)
  · rw [if_pos hc192] at h
    refine k_iinc (pc := 1508) C dL_law_1508 3 rfl (v := x3 + (5 : Int32)) (by rfl) (by decide) (L2 := [(0, .ref b), (1, .ref (E.1 + a1)), (2, .ref (E.1 + a2)), (3, .int (x3 + (5 : Int32)))]) rfl ?_
    refine k_goto (pc := 1511) C dL_law_1511 (tgt := 18) (by decide) ?_
    exact hko _ _ _ _ _ _ _ _ (by omega) (by omega) h
  · rw [if_neg hc192] at h
    refine k_iconst (pc := 844) C (v := (0 : Int32)) dL_law_844 (by decide) ?_
    exact absurd h (by decide)
def f_L_846 (L : Nat) (xs : Nat → Int32) (ko : Sh → Rw → Iw → Nat → Nat → Int32 → Option Int32) (S : Sh) (R : Rw) (I : Iw) (a1 a2 : Nat) (x3 : Int32) : Option Int32 := gp (sok S a1 11 12) (bd (f_X11_play S R I a1) (fun r194 => gp (sok S a2 12 34) (bd (f_X12_play S R r194.1 a2) (fun r196 => (if r194.2 = r196.2 then ko S R r196.1 a1 a2 (x3 + (5 : Int32)) else some (0 : Int32))))))
set_option maxHeartbeats 8000000 in
theorem b_L_846 {E : Ev} {p : Program} {l : Launch} {e : Env} {s : State} {m : MethodId} {below : List Frame} {meth : Method} {c : Code} {b L : Nat} {xs : Nat → Int32} (C : Cx E RL code 4 p s m c) (hr : meth.sig.returnType = ret) (hk : meth.locks = false) (hE : E.2.2.2.2.1 = s) (hX : va_X b L xs s s.heap) (hbl : b < E.1) {ko : Sh → Rw → Iw → Nat → Nat → Int32 → Option Int32} {n : Nat} (hko : ∀ (S : Sh) (R : Rw) (I : Iw) (a1 a2 : Nat) (x3 : Int32) (ce sl : Nat), ce + 2 * n ≤ 600000 → sl + 35 * n ≤ 7302250 → ko S R I a1 a2 x3 = some 1 → Wk E 4 p l e room_1 s m #[Value.ref b] below meth c ce sl (lw_Z below #[Value.ref b] s) 18 [(0, .ref b), (1, .ref (E.1 + a1)), (2, .ref (E.1 + a2)), (3, .int x3)] [] S R I) (S : Sh) (R : Rw) (I : Iw) (a1 a2 : Nat) (x3 : Int32) (ce sl : Nat) (hce : ce + 2 * (n + 1) ≤ 600000) (hsl : sl + 35 * (n + 1) ≤ 7302250) (h : f_L_846 L xs ko S R I a1 a2 x3 = some 1) : Wk E 4 p l e room_1 s m #[Value.ref b] below meth c ce sl (lw_Z below #[Value.ref b] s) 846 [(0, .ref b), (1, .ref (E.1 + a1)), (2, .ref (E.1 + a2)), (3, .int x3)] [] S R I := by
  rw [f_L_846] at h
  refine k_aloadn (pc := 846) C dL_law_846 (i := 1) rfl 1 rfl ?_
  obtain ⟨hs1930, h⟩ := gp_e h
  have hs193 := sok_e hs1930
  obtain ⟨r194, hr194, h⟩ := bd_e h
  refine k_V (pc := 847) (st := []) C (c_X11_play hr194) lkV_RL_125 hs193 rfl rfl rfl (Nat.le_of_ble_eq_true rfl) (Nat.le_of_ble_eq_true rfl) (Nat.le_of_ble_eq_true rfl) (by show ce + 0 ≤ 600000; omega) (by show sl + 0 ≤ 7302250; omega) dL_law_847 ?_
  refine k_nf (cells2 := ce) (slots2 := sl) (st2 := [.int r194.2]) rfl rfl rfl ?_
  refine k_aloadn (pc := 850) C dL_law_850 (i := 2) rfl 2 rfl ?_
  obtain ⟨hs1950, h⟩ := gp_e h
  have hs195 := sok_e hs1950
  obtain ⟨r196, hr196, h⟩ := bd_e h
  refine k_V (pc := 851) (st := [.int r194.2]) C (c_X12_play hr196) lkV_RL_128 hs195 rfl rfl rfl (Nat.le_of_ble_eq_true rfl) (Nat.le_of_ble_eq_true rfl) (Nat.le_of_ble_eq_true rfl) (by show ce + 0 ≤ 600000; omega) (by show sl + 0 ≤ 7302250; omega) dL_law_851 ?_
  refine k_nf (cells2 := ce) (slots2 := sl) (st2 := [.int r196.2, .int r194.2]) rfl rfl rfl ?_
  refine k_icmp_eq (pc := 854) C dL_law_854 (tgt := 1508) (by decide) (fun hc197 => ?_) (fun hc197 => ?_)
  · rw [if_pos hc197] at h
    refine k_iinc (pc := 1508) C dL_law_1508 3 rfl (v := x3 + (5 : Int32)) (by rfl) (by decide) (L2 := [(0, .ref b), (1, .ref (E.1 + a1)), (2, .ref (E.1 + a2)), (3, .int (x3 + (5 : Int32)))]) rfl ?_
    refine k_goto (pc := 1511) C dL_law_1511 (tgt := 18) (by decide) ?_
    exact hko _ _ _ _ _ _ _ _ (by omega) (by omega) h
  · rw [if_neg hc197] at h
    refine k_iconst (pc := 857) C (v := (0 : Int32)) dL_law_857 (by decide) ?_
    exact absurd h (by decide)
def f_L_859 (L : Nat) (xs : Nat → Int32) (ko : Sh → Rw → Iw → Nat → Nat → Int32 → Option Int32) (S : Sh) (R : Rw) (I : Iw) (a1 a2 : Nat) (x3 : Int32) : Option Int32 := gp (scok L (x3 + (1 : Int32))) (gp (scok L (x3 + (2 : Int32))) (gp (sok S a1 11 12) (bd (f_X11_report S R I a1 (xs (x3 + (1 : Int32)).toNatClampNeg) (xs (x3 + (2 : Int32)).toNatClampNeg)) (fun r201 => gp (scok L (x3 + (1 : Int32))) (gp (scok L (x3 + (2 : Int32))) (gp (sok S a2 12 34) (bd (f_X12_report S R r201.1 a2 (xs (x3 + (1 : Int32)).toNatClampNeg) (xs (x3 + (2 : Int32)).toNatClampNeg)) (fun r205 => (if r201.2 = r205.2 then ko S R r205.1 a1 a2 (x3 + (5 : Int32)) else some (0 : Int32))))))))))
set_option maxHeartbeats 8000000 in
theorem b_L_859 {E : Ev} {p : Program} {l : Launch} {e : Env} {s : State} {m : MethodId} {below : List Frame} {meth : Method} {c : Code} {b L : Nat} {xs : Nat → Int32} (C : Cx E RL code 4 p s m c) (hr : meth.sig.returnType = ret) (hk : meth.locks = false) (hE : E.2.2.2.2.1 = s) (hX : va_X b L xs s s.heap) (hbl : b < E.1) {ko : Sh → Rw → Iw → Nat → Nat → Int32 → Option Int32} {n : Nat} (hko : ∀ (S : Sh) (R : Rw) (I : Iw) (a1 a2 : Nat) (x3 : Int32) (ce sl : Nat), ce + 2 * n ≤ 600000 → sl + 35 * n ≤ 7302250 → ko S R I a1 a2 x3 = some 1 → Wk E 4 p l e room_1 s m #[Value.ref b] below meth c ce sl (lw_Z below #[Value.ref b] s) 18 [(0, .ref b), (1, .ref (E.1 + a1)), (2, .ref (E.1 + a2)), (3, .int x3)] [] S R I) (S : Sh) (R : Rw) (I : Iw) (a1 a2 : Nat) (x3 : Int32) (ce sl : Nat) (hce : ce + 2 * (n + 1) ≤ 600000) (hsl : sl + 35 * (n + 1) ≤ 7302250) (h : f_L_859 L xs ko S R I a1 a2 x3 = some 1) : Wk E 4 p l e room_1 s m #[Value.ref b] below meth c ce sl (lw_Z below #[Value.ref b] s) 859 [(0, .ref b), (1, .ref (E.1 + a1)), (2, .ref (E.1 + a2)), (3, .int x3)] [] S R I := by
  rw [f_L_859] at h
  refine k_aloadn (pc := 859) C dL_law_859 (i := 1) rfl 1 rfl ?_
  refine k_aloadn (pc := 860) C dL_law_860 (i := 0) rfl 0 rfl ?_
  refine k_iloadn (pc := 861) C dL_law_861 (i := 3) rfl 3 rfl ?_
  refine k_iconst (pc := 862) C (v := (1 : Int32)) dL_law_862 (by decide) ?_
  refine k_iadd (pc := 863) C dL_law_863 ?_
  obtain ⟨ha198, h⟩ := gp_e h
  refine k_sld (pc := 864) C hE hX hbl ha198 dL_law_864 ?_
  refine k_aloadn (pc := 865) C dL_law_865 (i := 0) rfl 0 rfl ?_
  refine k_iloadn (pc := 866) C dL_law_866 (i := 3) rfl 3 rfl ?_
  refine k_iconst (pc := 867) C (v := (2 : Int32)) dL_law_867 (by decide) ?_
  refine k_iadd (pc := 868) C dL_law_868 ?_
  obtain ⟨ha199, h⟩ := gp_e h
  refine k_sld (pc := 869) C hE hX hbl ha199 dL_law_869 ?_
  obtain ⟨hs2000, h⟩ := gp_e h
  have hs200 := sok_e hs2000
  obtain ⟨r201, hr201, h⟩ := bd_e h
  refine k_V (pc := 870) (st := []) C (c_X11_report hr201) lkV_RL_129 hs200 rfl rfl rfl (Nat.le_of_ble_eq_true rfl) (Nat.le_of_ble_eq_true rfl) (Nat.le_of_ble_eq_true rfl) (by show ce + 0 ≤ 600000; omega) (by show sl + 0 ≤ 7302250; omega) dL_law_870 ?_
  refine k_nf (cells2 := ce) (slots2 := sl) (st2 := [.int r201.2]) rfl rfl rfl ?_
  refine k_aloadn (pc := 873) C dL_law_873 (i := 2) rfl 2 rfl ?_
  refine k_aloadn (pc := 874) C dL_law_874 (i := 0) rfl 0 rfl ?_
  refine k_iloadn (pc := 875) C dL_law_875 (i := 3) rfl 3 rfl ?_
  refine k_iconst (pc := 876) C (v := (1 : Int32)) dL_law_876 (by decide) ?_
  refine k_iadd (pc := 877) C dL_law_877 ?_
  obtain ⟨ha202, h⟩ := gp_e h
  refine k_sld (pc := 878) C hE hX hbl ha202 dL_law_878 ?_
  refine k_aloadn (pc := 879) C dL_law_879 (i := 0) rfl 0 rfl ?_
  refine k_iloadn (pc := 880) C dL_law_880 (i := 3) rfl 3 rfl ?_
  refine k_iconst (pc := 881) C (v := (2 : Int32)) dL_law_881 (by decide) ?_
  refine k_iadd (pc := 882) C dL_law_882 ?_
  obtain ⟨ha203, h⟩ := gp_e h
  refine k_sld (pc := 883) C hE hX hbl ha203 dL_law_883 ?_
  obtain ⟨hs2040, h⟩ := gp_e h
  have hs204 := sok_e hs2040
  obtain ⟨r205, hr205, h⟩ := bd_e h
  refine k_V (pc := 884) (st := [.int r201.2]) C (c_X12_report hr205) lkV_RL_132 hs204 rfl rfl rfl (Nat.le_of_ble_eq_true rfl) (Nat.le_of_ble_eq_true rfl) (Nat.le_of_ble_eq_true rfl) (by show ce + 0 ≤ 600000; omega) (by show sl + 0 ≤ 7302250; omega) dL_law_884 ?_
  refine k_nf (cells2 := ce) (slots2 := sl) (st2 := [.int r205.2, .int r201.2]) rfl rfl rfl ?_
  refine k_icmp_eq (pc := 887) C dL_law_887 (tgt := 1508) (by decide) (fun hc206 => ?_) (fun hc206 => ?_)
  · rw [if_pos hc206] at h
    refine k_iinc (pc := 1508) C dL_law_1508 3 rfl (v := x3 + (5 : Int32)) (by rfl) (by decide) (L2 := [(0, .ref b), (1, .ref (E.1 + a1)), (2, .ref (E.1 + a2)), (3, .int (x3 + (5 : Int32)))]) rfl ?_
    refine k_goto (pc := 1511) C dL_law_1511 (tgt := 18) (by decide) ?_
    exact hko _ _ _ _ _ _ _ _ (by omega) (by omega) h
  · rw [if_neg hc206] at h
    refine k_iconst (pc := 890) C (v := (0 : Int32)) dL_law_890 (by decide) ?_
    exact absurd h (by decide)
def f_L_892 (L : Nat) (xs : Nat → Int32) (ko : Sh → Rw → Iw → Nat → Nat → Int32 → Option Int32) (S : Sh) (R : Rw) (I : Iw) (a1 a2 : Nat) (x3 : Int32) : Option Int32 := gp (sok S a1 11 12) (bd (f_X11_forget S R I a1) (fun r208 => gp (sok S a2 12 34) (bd (f_X12_forget S R r208.1 a2) (fun r210 => (if r208.2 = r210.2 then ko S R r210.1 a1 a2 (x3 + (5 : Int32)) else some (0 : Int32))))))
set_option maxHeartbeats 8000000 in
theorem b_L_892 {E : Ev} {p : Program} {l : Launch} {e : Env} {s : State} {m : MethodId} {below : List Frame} {meth : Method} {c : Code} {b L : Nat} {xs : Nat → Int32} (C : Cx E RL code 4 p s m c) (hr : meth.sig.returnType = ret) (hk : meth.locks = false) (hE : E.2.2.2.2.1 = s) (hX : va_X b L xs s s.heap) (hbl : b < E.1) {ko : Sh → Rw → Iw → Nat → Nat → Int32 → Option Int32} {n : Nat} (hko : ∀ (S : Sh) (R : Rw) (I : Iw) (a1 a2 : Nat) (x3 : Int32) (ce sl : Nat), ce + 2 * n ≤ 600000 → sl + 35 * n ≤ 7302250 → ko S R I a1 a2 x3 = some 1 → Wk E 4 p l e room_1 s m #[Value.ref b] below meth c ce sl (lw_Z below #[Value.ref b] s) 18 [(0, .ref b), (1, .ref (E.1 + a1)), (2, .ref (E.1 + a2)), (3, .int x3)] [] S R I) (S : Sh) (R : Rw) (I : Iw) (a1 a2 : Nat) (x3 : Int32) (ce sl : Nat) (hce : ce + 2 * (n + 1) ≤ 600000) (hsl : sl + 35 * (n + 1) ≤ 7302250) (h : f_L_892 L xs ko S R I a1 a2 x3 = some 1) : Wk E 4 p l e room_1 s m #[Value.ref b] below meth c ce sl (lw_Z below #[Value.ref b] s) 892 [(0, .ref b), (1, .ref (E.1 + a1)), (2, .ref (E.1 + a2)), (3, .int x3)] [] S R I := by
  rw [f_L_892] at h
  refine k_aloadn (pc := 892) C dL_law_892 (i := 1) rfl 1 rfl ?_
  obtain ⟨hs2070, h⟩ := gp_e h
  have hs207 := sok_e hs2070
  obtain ⟨r208, hr208, h⟩ := bd_e h
  refine k_V (pc := 893) (st := []) C (c_X11_forget hr208) lkV_RL_133 hs207 rfl rfl rfl (Nat.le_of_ble_eq_true rfl) (Nat.le_of_ble_eq_true rfl) (Nat.le_of_ble_eq_true rfl) (by show ce + 0 ≤ 600000; omega) (by show sl + 0 ≤ 7302250; omega) dL_law_893 ?_
  refine k_nf (cells2 := ce) (slots2 := sl) (st2 := [.int r208.2]) rfl rfl rfl ?_
  refine k_aloadn (pc := 896) C dL_law_896 (i := 2) rfl 2 rfl ?_
  obtain ⟨hs2090, h⟩ := gp_e h
  have hs209 := sok_e hs2090
  obtain ⟨r210, hr210, h⟩ := bd_e h
  refine k_V (pc := 897) (st := [.int r208.2]) C (c_X12_forget hr210) lkV_RL_136 hs209 rfl rfl rfl (Nat.le_of_ble_eq_true rfl) (Nat.le_of_ble_eq_true rfl) (Nat.le_of_ble_eq_true rfl) (by show ce + 0 ≤ 600000; omega) (by show sl + 0 ≤ 7302250; omega) dL_law_897 ?_
  refine k_nf (cells2 := ce) (slots2 := sl) (st2 := [.int r210.2, .int r208.2]) rfl rfl rfl ?_
  refine k_icmp_eq (pc := 900) C dL_law_900 (tgt := 1508) (by decide) (fun hc211 => ?_) (fun hc211 => ?_)
  · rw [if_pos hc211] at h
    refine k_iinc (pc := 1508) C dL_law_1508 3 rfl (v := x3 + (5 : Int32)) (by rfl) (by decide) (L2 := [(0, .ref b), (1, .ref (E.1 + a1)), (2, .ref (E.1 + a2)), (3, .int (x3 + (5 : Int32)))]) rfl ?_
    refine k_goto (pc := 1511) C dL_law_1511 (tgt := 18) (by decide) ?_
    exact hko _ _ _ _ _ _ _ _ (by omega) (by omega) h
  · rw [if_neg hc211] at h
    refine k_iconst (pc := 903) C (v := (0 : Int32)) dL_law_903 (by decide) ?_
    exact absurd h (by decide)
def f_L_905 (L : Nat) (xs : Nat → Int32) (ko : Sh → Rw → Iw → Nat → Nat → Int32 → Option Int32) (S : Sh) (R : Rw) (I : Iw) (a1 a2 : Nat) (x3 : Int32) : Option Int32 := gp (scok L (x3 + (1 : Int32))) (gp (sok S a1 11 12) (bd (f_X11_span S R I a1 (xs (x3 + (1 : Int32)).toNatClampNeg)) (fun r214 => gp (scok L (x3 + (1 : Int32))) (gp (sok S a2 12 34) (bd (f_X12_span S R I a2 (xs (x3 + (1 : Int32)).toNatClampNeg)) (fun r217 => (if r214 = r217 then ko S R I a1 a2 (x3 + (5 : Int32)) else some (0 : Int32))))))))
set_option maxHeartbeats 8000000 in
theorem b_L_905 {E : Ev} {p : Program} {l : Launch} {e : Env} {s : State} {m : MethodId} {below : List Frame} {meth : Method} {c : Code} {b L : Nat} {xs : Nat → Int32} (C : Cx E RL code 4 p s m c) (hr : meth.sig.returnType = ret) (hk : meth.locks = false) (hE : E.2.2.2.2.1 = s) (hX : va_X b L xs s s.heap) (hbl : b < E.1) {ko : Sh → Rw → Iw → Nat → Nat → Int32 → Option Int32} {n : Nat} (hko : ∀ (S : Sh) (R : Rw) (I : Iw) (a1 a2 : Nat) (x3 : Int32) (ce sl : Nat), ce + 2 * n ≤ 600000 → sl + 35 * n ≤ 7302250 → ko S R I a1 a2 x3 = some 1 → Wk E 4 p l e room_1 s m #[Value.ref b] below meth c ce sl (lw_Z below #[Value.ref b] s) 18 [(0, .ref b), (1, .ref (E.1 + a1)), (2, .ref (E.1 + a2)), (3, .int x3)] [] S R I) (S : Sh) (R : Rw) (I : Iw) (a1 a2 : Nat) (x3 : Int32) (ce sl : Nat) (hce : ce + 2 * (n + 1) ≤ 600000) (hsl : sl + 35 * (n + 1) ≤ 7302250) (h : f_L_905 L xs ko S R I a1 a2 x3 = some 1) : Wk E 4 p l e room_1 s m #[Value.ref b] below meth c ce sl (lw_Z below #[Value.ref b] s) 905 [(0, .ref b), (1, .ref (E.1 + a1)), (2, .ref (E.1 + a2)), (3, .int x3)] [] S R I := by
  rw [f_L_905] at h
  refine k_aloadn (pc := 905) C dL_law_905 (i := 1) rfl 1 rfl ?_
  refine k_aloadn (pc := 906) C dL_law_906 (i := 0) rfl 0 rfl ?_
  refine k_iloadn (pc := 907) C dL_law_907 (i := 3) rfl 3 rfl ?_
  refine k_iconst (pc := 908) C (v := (1 : Int32)) dL_law_908 (by decide) ?_
  refine k_iadd (pc := 909) C dL_law_909 ?_
  obtain ⟨ha212, h⟩ := gp_e h
  refine k_sld (pc := 910) C hE hX hbl ha212 dL_law_910 ?_
  obtain ⟨hs2130, h⟩ := gp_e h
  have hs213 := sok_e hs2130
  obtain ⟨r214, hr214, h⟩ := bd_e h
  refine k_V (pc := 911) (st := []) C (c_X11_span hr214) lkV_RL_137 hs213 rfl rfl rfl (Nat.le_of_ble_eq_true rfl) (Nat.le_of_ble_eq_true rfl) (Nat.le_of_ble_eq_true rfl) (by show ce + 0 ≤ 600000; omega) (by show sl + 0 ≤ 7302250; omega) dL_law_911 ?_
  refine k_nf (cells2 := ce) (slots2 := sl) (st2 := [.int r214]) rfl rfl rfl ?_
  refine k_aloadn (pc := 914) C dL_law_914 (i := 2) rfl 2 rfl ?_
  refine k_aloadn (pc := 915) C dL_law_915 (i := 0) rfl 0 rfl ?_
  refine k_iloadn (pc := 916) C dL_law_916 (i := 3) rfl 3 rfl ?_
  refine k_iconst (pc := 917) C (v := (1 : Int32)) dL_law_917 (by decide) ?_
  refine k_iadd (pc := 918) C dL_law_918 ?_
  obtain ⟨ha215, h⟩ := gp_e h
  refine k_sld (pc := 919) C hE hX hbl ha215 dL_law_919 ?_
  obtain ⟨hs2160, h⟩ := gp_e h
  have hs216 := sok_e hs2160
  obtain ⟨r217, hr217, h⟩ := bd_e h
  refine k_V (pc := 920) (st := [.int r214]) C (c_X12_span hr217) lkV_RL_140 hs216 rfl rfl rfl (Nat.le_of_ble_eq_true rfl) (Nat.le_of_ble_eq_true rfl) (Nat.le_of_ble_eq_true rfl) (by show ce + 0 ≤ 600000; omega) (by show sl + 0 ≤ 7302250; omega) dL_law_920 ?_
  refine k_nf (cells2 := ce) (slots2 := sl) (st2 := [.int r217, .int r214]) rfl rfl rfl ?_
  refine k_icmp_eq (pc := 923) C dL_law_923 (tgt := 1508) (by decide) (fun hc218 => ?_) (fun hc218 => ?_)
  · rw [if_pos hc218] at h
    refine k_iinc (pc := 1508) C dL_law_1508 3 rfl (v := x3 + (5 : Int32)) (by rfl) (by decide) (L2 := [(0, .ref b), (1, .ref (E.1 + a1)), (2, .ref (E.1 + a2)), (3, .int (x3 + (5 : Int32)))]) rfl ?_
    refine k_goto (pc := 1511) C dL_law_1511 (tgt := 18) (by decide) ?_
    exact hko _ _ _ _ _ _ _ _ (by omega) (by omega) h
  · rw [if_neg hc218] at h
    refine k_iconst (pc := 926) C (v := (0 : Int32)) dL_law_926 (by decide) ?_
    exact absurd h (by decide)
def f_L_928 (L : Nat) (xs : Nat → Int32) (ko : Sh → Rw → Iw → Nat → Nat → Int32 → Option Int32) (S : Sh) (R : Rw) (I : Iw) (a1 a2 : Nat) (x3 : Int32) : Option Int32 := gp (sok S a1 11 12) (bd (f_X11_liar S R I a1) (fun r220 => gp (sok S a2 12 34) (bd (f_X12_liar S R I a2) (fun r222 => (if r220 = r222 then ko S R I a1 a2 (x3 + (5 : Int32)) else some (0 : Int32))))))
set_option maxHeartbeats 8000000 in
theorem b_L_928 {E : Ev} {p : Program} {l : Launch} {e : Env} {s : State} {m : MethodId} {below : List Frame} {meth : Method} {c : Code} {b L : Nat} {xs : Nat → Int32} (C : Cx E RL code 4 p s m c) (hr : meth.sig.returnType = ret) (hk : meth.locks = false) (hE : E.2.2.2.2.1 = s) (hX : va_X b L xs s s.heap) (hbl : b < E.1) {ko : Sh → Rw → Iw → Nat → Nat → Int32 → Option Int32} {n : Nat} (hko : ∀ (S : Sh) (R : Rw) (I : Iw) (a1 a2 : Nat) (x3 : Int32) (ce sl : Nat), ce + 2 * n ≤ 600000 → sl + 35 * n ≤ 7302250 → ko S R I a1 a2 x3 = some 1 → Wk E 4 p l e room_1 s m #[Value.ref b] below meth c ce sl (lw_Z below #[Value.ref b] s) 18 [(0, .ref b), (1, .ref (E.1 + a1)), (2, .ref (E.1 + a2)), (3, .int x3)] [] S R I) (S : Sh) (R : Rw) (I : Iw) (a1 a2 : Nat) (x3 : Int32) (ce sl : Nat) (hce : ce + 2 * (n + 1) ≤ 600000) (hsl : sl + 35 * (n + 1) ≤ 7302250) (h : f_L_928 L xs ko S R I a1 a2 x3 = some 1) : Wk E 4 p l e room_1 s m #[Value.ref b] below meth c ce sl (lw_Z below #[Value.ref b] s) 928 [(0, .ref b), (1, .ref (E.1 + a1)), (2, .ref (E.1 + a2)), (3, .int x3)] [] S R I := by
  rw [f_L_928] at h
  refine k_aloadn (pc := 928) C dL_law_928 (i := 1) rfl 1 rfl ?_
  obtain ⟨hs2190, h⟩ := gp_e h
  have hs219 := sok_e hs2190
  obtain ⟨r220, hr220, h⟩ := bd_e h
  refine k_V (pc := 929) (st := []) C (c_X11_liar hr220) lkV_RL_141 hs219 rfl rfl rfl (Nat.le_of_ble_eq_true rfl) (Nat.le_of_ble_eq_true rfl) (Nat.le_of_ble_eq_true rfl) (by show ce + 0 ≤ 600000; omega) (by show sl + 0 ≤ 7302250; omega) dL_law_929 ?_
  refine k_nf (cells2 := ce) (slots2 := sl) (st2 := [.int r220]) rfl rfl rfl ?_
  refine k_aloadn (pc := 932) C dL_law_932 (i := 2) rfl 2 rfl ?_
  obtain ⟨hs2210, h⟩ := gp_e h
  have hs221 := sok_e hs2210
  obtain ⟨r222, hr222, h⟩ := bd_e h
  refine k_V (pc := 933) (st := [.int r220]) C (c_X12_liar hr222) lkV_RL_144 hs221 rfl rfl rfl (Nat.le_of_ble_eq_true rfl) (Nat.le_of_ble_eq_true rfl) (Nat.le_of_ble_eq_true rfl) (by show ce + 0 ≤ 600000; omega) (by show sl + 0 ≤ 7302250; omega) dL_law_933 ?_
  refine k_nf (cells2 := ce) (slots2 := sl) (st2 := [.int r222, .int r220]) rfl rfl rfl ?_
  refine k_icmp_eq (pc := 936) C dL_law_936 (tgt := 1508) (by decide) (fun hc223 => ?_) (fun hc223 => ?_)
  · rw [if_pos hc223] at h
    refine k_iinc (pc := 1508) C dL_law_1508 3 rfl (v := x3 + (5 : Int32)) (by rfl) (by decide) (L2 := [(0, .ref b), (1, .ref (E.1 + a1)), (2, .ref (E.1 + a2)), (3, .int (x3 + (5 : Int32)))]) rfl ?_
    refine k_goto (pc := 1511) C dL_law_1511 (tgt := 18) (by decide) ?_
    exact hko _ _ _ _ _ _ _ _ (by omega) (by omega) h
  · rw [if_neg hc223] at h
    refine k_iconst (pc := 939) C (v := (0 : Int32)) dL_law_939 (by decide) ?_
    exact absurd h (by decide)
def f_L_941 (L : Nat) (xs : Nat → Int32) (ko : Sh → Rw → Iw → Nat → Nat → Int32 → Option Int32) (S : Sh) (R : Rw) (I : Iw) (a1 a2 : Nat) (x3 : Int32) : Option Int32 := gp (scok L (x3 + (1 : Int32))) (gp (sok S a1 11 12) (bd (f_X11_seed S R I a1 (xs (x3 + (1 : Int32)).toNatClampNeg)) (fun r226 => gp (scok L (x3 + (1 : Int32))) (gp (sok S a2 12 34) (bd (f_X12_seed S R r226.1 a2 (xs (x3 + (1 : Int32)).toNatClampNeg)) (fun r229 => (if r226.2 = r229.2 then ko S R r229.1 a1 a2 (x3 + (5 : Int32)) else some (0 : Int32))))))))
set_option maxHeartbeats 8000000 in
theorem b_L_941 {E : Ev} {p : Program} {l : Launch} {e : Env} {s : State} {m : MethodId} {below : List Frame} {meth : Method} {c : Code} {b L : Nat} {xs : Nat → Int32} (C : Cx E RL code 4 p s m c) (hr : meth.sig.returnType = ret) (hk : meth.locks = false) (hE : E.2.2.2.2.1 = s) (hX : va_X b L xs s s.heap) (hbl : b < E.1) {ko : Sh → Rw → Iw → Nat → Nat → Int32 → Option Int32} {n : Nat} (hko : ∀ (S : Sh) (R : Rw) (I : Iw) (a1 a2 : Nat) (x3 : Int32) (ce sl : Nat), ce + 2 * n ≤ 600000 → sl + 35 * n ≤ 7302250 → ko S R I a1 a2 x3 = some 1 → Wk E 4 p l e room_1 s m #[Value.ref b] below meth c ce sl (lw_Z below #[Value.ref b] s) 18 [(0, .ref b), (1, .ref (E.1 + a1)), (2, .ref (E.1 + a2)), (3, .int x3)] [] S R I) (S : Sh) (R : Rw) (I : Iw) (a1 a2 : Nat) (x3 : Int32) (ce sl : Nat) (hce : ce + 2 * (n + 1) ≤ 600000) (hsl : sl + 35 * (n + 1) ≤ 7302250) (h : f_L_941 L xs ko S R I a1 a2 x3 = some 1) : Wk E 4 p l e room_1 s m #[Value.ref b] below meth c ce sl (lw_Z below #[Value.ref b] s) 941 [(0, .ref b), (1, .ref (E.1 + a1)), (2, .ref (E.1 + a2)), (3, .int x3)] [] S R I := by
  rw [f_L_941] at h
  refine k_aloadn (pc := 941) C dL_law_941 (i := 1) rfl 1 rfl ?_
  refine k_aloadn (pc := 942) C dL_law_942 (i := 0) rfl 0 rfl ?_
  refine k_iloadn (pc := 943) C dL_law_943 (i := 3) rfl 3 rfl ?_
  refine k_iconst (pc := 944) C (v := (1 : Int32)) dL_law_944 (by decide) ?_
  refine k_iadd (pc := 945) C dL_law_945 ?_
  obtain ⟨ha224, h⟩ := gp_e h
  refine k_sld (pc := 946) C hE hX hbl ha224 dL_law_946 ?_
  obtain ⟨hs2250, h⟩ := gp_e h
  have hs225 := sok_e hs2250
  obtain ⟨r226, hr226, h⟩ := bd_e h
  refine k_V (pc := 947) (st := []) C (c_X11_seed hr226) lkV_RL_145 hs225 rfl rfl rfl (Nat.le_of_ble_eq_true rfl) (Nat.le_of_ble_eq_true rfl) (Nat.le_of_ble_eq_true rfl) (by show ce + 0 ≤ 600000; omega) (by show sl + 0 ≤ 7302250; omega) dL_law_947 ?_
  refine k_nf (cells2 := ce) (slots2 := sl) (st2 := [.int r226.2]) rfl rfl rfl ?_
  refine k_aloadn (pc := 950) C dL_law_950 (i := 2) rfl 2 rfl ?_
  refine k_aloadn (pc := 951) C dL_law_951 (i := 0) rfl 0 rfl ?_
  refine k_iloadn (pc := 952) C dL_law_952 (i := 3) rfl 3 rfl ?_
  refine k_iconst (pc := 953) C (v := (1 : Int32)) dL_law_953 (by decide) ?_
  refine k_iadd (pc := 954) C dL_law_954 ?_
  obtain ⟨ha227, h⟩ := gp_e h
  refine k_sld (pc := 955) C hE hX hbl ha227 dL_law_955 ?_
  obtain ⟨hs2280, h⟩ := gp_e h
  have hs228 := sok_e hs2280
  obtain ⟨r229, hr229, h⟩ := bd_e h
  refine k_V (pc := 956) (st := [.int r226.2]) C (c_X12_seed hr229) lkV_RL_148 hs228 rfl rfl rfl (Nat.le_of_ble_eq_true rfl) (Nat.le_of_ble_eq_true rfl) (Nat.le_of_ble_eq_true rfl) (by show ce + 0 ≤ 600000; omega) (by show sl + 0 ≤ 7302250; omega) dL_law_956 ?_
  refine k_nf (cells2 := ce) (slots2 := sl) (st2 := [.int r229.2, .int r226.2]) rfl rfl rfl ?_
  refine k_icmp_eq (pc := 959) C dL_law_959 (tgt := 1508) (by decide) (fun hc230 => ?_) (fun hc230 => ?_)
  · rw [if_pos hc230] at h
    refine k_iinc (pc := 1508) C dL_law_1508 3 rfl (v := x3 + (5 : Int32)) (by rfl) (by decide) (L2 := [(0, .ref b), (1, .ref (E.1 + a1)), (2, .ref (E.1 + a2)), (3, .int (x3 + (5 : Int32)))]) rfl ?_
    refine k_goto (pc := 1511) C dL_law_1511 (tgt := 18) (by decide) ?_
    exact hko _ _ _ _ _ _ _ _ (by omega) (by omega) h
  · rw [if_neg hc230] at h
    refine k_iconst (pc := 962) C (v := (0 : Int32)) dL_law_962 (by decide) ?_
    exact absurd h (by decide)
def f_L_964 (L : Nat) (xs : Nat → Int32) (ko : Sh → Rw → Iw → Nat → Nat → Int32 → Option Int32) (S : Sh) (R : Rw) (I : Iw) (a1 a2 : Nat) (x3 : Int32) : Option Int32 := gp (sok S a1 11 12) (bd (f_X11_draw S R I a1) (fun r232 => gp (sok S a2 12 34) (bd (f_X12_draw S R r232.1 a2) (fun r234 => (if r232.2 = r234.2 then ko S R r234.1 a1 a2 (x3 + (5 : Int32)) else some (0 : Int32))))))
set_option maxHeartbeats 8000000 in
theorem b_L_964 {E : Ev} {p : Program} {l : Launch} {e : Env} {s : State} {m : MethodId} {below : List Frame} {meth : Method} {c : Code} {b L : Nat} {xs : Nat → Int32} (C : Cx E RL code 4 p s m c) (hr : meth.sig.returnType = ret) (hk : meth.locks = false) (hE : E.2.2.2.2.1 = s) (hX : va_X b L xs s s.heap) (hbl : b < E.1) {ko : Sh → Rw → Iw → Nat → Nat → Int32 → Option Int32} {n : Nat} (hko : ∀ (S : Sh) (R : Rw) (I : Iw) (a1 a2 : Nat) (x3 : Int32) (ce sl : Nat), ce + 2 * n ≤ 600000 → sl + 35 * n ≤ 7302250 → ko S R I a1 a2 x3 = some 1 → Wk E 4 p l e room_1 s m #[Value.ref b] below meth c ce sl (lw_Z below #[Value.ref b] s) 18 [(0, .ref b), (1, .ref (E.1 + a1)), (2, .ref (E.1 + a2)), (3, .int x3)] [] S R I) (S : Sh) (R : Rw) (I : Iw) (a1 a2 : Nat) (x3 : Int32) (ce sl : Nat) (hce : ce + 2 * (n + 1) ≤ 600000) (hsl : sl + 35 * (n + 1) ≤ 7302250) (h : f_L_964 L xs ko S R I a1 a2 x3 = some 1) : Wk E 4 p l e room_1 s m #[Value.ref b] below meth c ce sl (lw_Z below #[Value.ref b] s) 964 [(0, .ref b), (1, .ref (E.1 + a1)), (2, .ref (E.1 + a2)), (3, .int x3)] [] S R I := by
  rw [f_L_964] at h
  refine k_aloadn (pc := 964) C dL_law_964 (i := 1) rfl 1 rfl ?_
  obtain ⟨hs2310, h⟩ := gp_e h
  have hs231 := sok_e hs2310
  obtain ⟨r232, hr232, h⟩ := bd_e h
  refine k_V (pc := 965) (st := []) C (c_X11_draw hr232) lkV_RL_149 hs231 rfl rfl rfl (Nat.le_of_ble_eq_true rfl) (Nat.le_of_ble_eq_true rfl) (Nat.le_of_ble_eq_true rfl) (by show ce + 0 ≤ 600000; omega) (by show sl + 0 ≤ 7302250; omega) dL_law_965 ?_
  refine k_nf (cells2 := ce) (slots2 := sl) (st2 := [.int r232.2]) rfl rfl rfl ?_
  refine k_aloadn (pc := 968) C dL_law_968 (i := 2) rfl 2 rfl ?_
  obtain ⟨hs2330, h⟩ := gp_e h
  have hs233 := sok_e hs2330
  obtain ⟨r234, hr234, h⟩ := bd_e h
  refine k_V (pc := 969) (st := [.int r232.2]) C (c_X12_draw hr234) lkV_RL_152 hs233 rfl rfl rfl (Nat.le_of_ble_eq_true rfl) (Nat.le_of_ble_eq_true rfl) (Nat.le_of_ble_eq_true rfl) (by show ce + 0 ≤ 600000; omega) (by show sl + 0 ≤ 7302250; omega) dL_law_969 ?_
  refine k_nf (cells2 := ce) (slots2 := sl) (st2 := [.int r234.2, .int r232.2]) rfl rfl rfl ?_
  refine k_icmp_eq (pc := 972) C dL_law_972 (tgt := 1508) (by decide) (fun hc235 => ?_) (fun hc235 => ?_)
  · rw [if_pos hc235] at h
    refine k_iinc (pc := 1508) C dL_law_1508 3 rfl (v := x3 + (5 : Int32)) (by rfl) (by decide) (L2 := [(0, .ref b), (1, .ref (E.1 + a1)), (2, .ref (E.1 + a2)), (3, .int (x3 + (5 : Int32)))]) rfl ?_
    refine k_goto (pc := 1511) C dL_law_1511 (tgt := 18) (by decide) ?_
    exact hko _ _ _ _ _ _ _ _ (by omega) (by omega) h
  · rw [if_neg hc235] at h
    refine k_iconst (pc := 975) C (v := (0 : Int32)) dL_law_975 (by decide) ?_
    exact absurd h (by decide)
def f_L_977 (L : Nat) (xs : Nat → Int32) (ko : Sh → Rw → Iw → Nat → Nat → Int32 → Option Int32) (S : Sh) (R : Rw) (I : Iw) (a1 a2 : Nat) (x3 : Int32) : Option Int32 := gp (scok L (x3 + (1 : Int32))) (gp (sok S a1 11 12) (bd (f_X11_often S R I a1 (xs (x3 + (1 : Int32)).toNatClampNeg)) (fun r238 => gp (scok L (x3 + (1 : Int32))) (gp (sok S a2 12 34) (bd (f_X12_often S R I a2 (xs (x3 + (1 : Int32)).toNatClampNeg)) (fun r241 => (if r238 = r241.2 then ko S R r241.1 a1 a2 (x3 + (5 : Int32)) else some (0 : Int32))))))))
set_option maxHeartbeats 8000000 in
theorem b_L_977 {E : Ev} {p : Program} {l : Launch} {e : Env} {s : State} {m : MethodId} {below : List Frame} {meth : Method} {c : Code} {b L : Nat} {xs : Nat → Int32} (C : Cx E RL code 4 p s m c) (hr : meth.sig.returnType = ret) (hk : meth.locks = false) (hE : E.2.2.2.2.1 = s) (hX : va_X b L xs s s.heap) (hbl : b < E.1) {ko : Sh → Rw → Iw → Nat → Nat → Int32 → Option Int32} {n : Nat} (hko : ∀ (S : Sh) (R : Rw) (I : Iw) (a1 a2 : Nat) (x3 : Int32) (ce sl : Nat), ce + 2 * n ≤ 600000 → sl + 35 * n ≤ 7302250 → ko S R I a1 a2 x3 = some 1 → Wk E 4 p l e room_1 s m #[Value.ref b] below meth c ce sl (lw_Z below #[Value.ref b] s) 18 [(0, .ref b), (1, .ref (E.1 + a1)), (2, .ref (E.1 + a2)), (3, .int x3)] [] S R I) (S : Sh) (R : Rw) (I : Iw) (a1 a2 : Nat) (x3 : Int32) (ce sl : Nat) (hce : ce + 2 * (n + 1) ≤ 600000) (hsl : sl + 35 * (n + 1) ≤ 7302250) (h : f_L_977 L xs ko S R I a1 a2 x3 = some 1) : Wk E 4 p l e room_1 s m #[Value.ref b] below meth c ce sl (lw_Z below #[Value.ref b] s) 977 [(0, .ref b), (1, .ref (E.1 + a1)), (2, .ref (E.1 + a2)), (3, .int x3)] [] S R I := by
  rw [f_L_977] at h
  refine k_aloadn (pc := 977) C dL_law_977 (i := 1) rfl 1 rfl ?_
  refine k_aloadn (pc := 978) C dL_law_978 (i := 0) rfl 0 rfl ?_
  refine k_iloadn (pc := 979) C dL_law_979 (i := 3) rfl 3 rfl ?_
  refine k_iconst (pc := 980) C (v := (1 : Int32)) dL_law_980 (by decide) ?_
  refine k_iadd (pc := 981) C dL_law_981 ?_
  obtain ⟨ha236, h⟩ := gp_e h
  refine k_sld (pc := 982) C hE hX hbl ha236 dL_law_982 ?_
  obtain ⟨hs2370, h⟩ := gp_e h
  have hs237 := sok_e hs2370
  obtain ⟨r238, hr238, h⟩ := bd_e h
  refine k_V (pc := 983) (st := []) C (c_X11_often hr238) lkV_RL_153 hs237 rfl rfl rfl (Nat.le_of_ble_eq_true rfl) (Nat.le_of_ble_eq_true rfl) (Nat.le_of_ble_eq_true rfl) (by show ce + 0 ≤ 600000; omega) (by show sl + 0 ≤ 7302250; omega) dL_law_983 ?_
  refine k_nf (cells2 := ce) (slots2 := sl) (st2 := [.int r238]) rfl rfl rfl ?_
  refine k_aloadn (pc := 986) C dL_law_986 (i := 2) rfl 2 rfl ?_
  refine k_aloadn (pc := 987) C dL_law_987 (i := 0) rfl 0 rfl ?_
  refine k_iloadn (pc := 988) C dL_law_988 (i := 3) rfl 3 rfl ?_
  refine k_iconst (pc := 989) C (v := (1 : Int32)) dL_law_989 (by decide) ?_
  refine k_iadd (pc := 990) C dL_law_990 ?_
  obtain ⟨ha239, h⟩ := gp_e h
  refine k_sld (pc := 991) C hE hX hbl ha239 dL_law_991 ?_
  obtain ⟨hs2400, h⟩ := gp_e h
  have hs240 := sok_e hs2400
  obtain ⟨r241, hr241, h⟩ := bd_e h
  refine k_V (pc := 992) (st := [.int r238]) C (c_X12_often hr241) lkV_RL_156 hs240 rfl rfl rfl (Nat.le_of_ble_eq_true rfl) (Nat.le_of_ble_eq_true rfl) (Nat.le_of_ble_eq_true rfl) (by show ce + 0 ≤ 600000; omega) (by show sl + 0 ≤ 7302250; omega) dL_law_992 ?_
  refine k_nf (cells2 := ce) (slots2 := sl) (st2 := [.int r241.2, .int r238]) rfl rfl rfl ?_
  refine k_icmp_eq (pc := 995) C dL_law_995 (tgt := 1508) (by decide) (fun hc242 => ?_) (fun hc242 => ?_)
  · rw [if_pos hc242] at h
    refine k_iinc (pc := 1508) C dL_law_1508 3 rfl (v := x3 + (5 : Int32)) (by rfl) (by decide) (L2 := [(0, .ref b), (1, .ref (E.1 + a1)), (2, .ref (E.1 + a2)), (3, .int (x3 + (5 : Int32)))]) rfl ?_
    refine k_goto (pc := 1511) C dL_law_1511 (tgt := 18) (by decide) ?_
    exact hko _ _ _ _ _ _ _ _ (by omega) (by omega) h
  · rw [if_neg hc242] at h
    refine k_iconst (pc := 998) C (v := (0 : Int32)) dL_law_998 (by decide) ?_
    exact absurd h (by decide)
def f_L_1000 (L : Nat) (xs : Nat → Int32) (ko : Sh → Rw → Iw → Nat → Nat → Int32 → Option Int32) (S : Sh) (R : Rw) (I : Iw) (a1 a2 : Nat) (x3 : Int32) : Option Int32 := gp (sok S a1 11 12) (bd (f_X11_prove S R I a1) (fun r244 => gp (sok S a2 12 34) (bd (f_X12_prove S R r244.1 a2) (fun r246 => (if r244.2 = r246.2 then ko S R r246.1 a1 a2 (x3 + (5 : Int32)) else some (0 : Int32))))))
set_option maxHeartbeats 8000000 in
theorem b_L_1000 {E : Ev} {p : Program} {l : Launch} {e : Env} {s : State} {m : MethodId} {below : List Frame} {meth : Method} {c : Code} {b L : Nat} {xs : Nat → Int32} (C : Cx E RL code 4 p s m c) (hr : meth.sig.returnType = ret) (hk : meth.locks = false) (hE : E.2.2.2.2.1 = s) (hX : va_X b L xs s s.heap) (hbl : b < E.1) {ko : Sh → Rw → Iw → Nat → Nat → Int32 → Option Int32} {n : Nat} (hko : ∀ (S : Sh) (R : Rw) (I : Iw) (a1 a2 : Nat) (x3 : Int32) (ce sl : Nat), ce + 2 * n ≤ 600000 → sl + 35 * n ≤ 7302250 → ko S R I a1 a2 x3 = some 1 → Wk E 4 p l e room_1 s m #[Value.ref b] below meth c ce sl (lw_Z below #[Value.ref b] s) 18 [(0, .ref b), (1, .ref (E.1 + a1)), (2, .ref (E.1 + a2)), (3, .int x3)] [] S R I) (S : Sh) (R : Rw) (I : Iw) (a1 a2 : Nat) (x3 : Int32) (ce sl : Nat) (hce : ce + 2 * (n + 1) ≤ 600000) (hsl : sl + 35 * (n + 1) ≤ 7302250) (h : f_L_1000 L xs ko S R I a1 a2 x3 = some 1) : Wk E 4 p l e room_1 s m #[Value.ref b] below meth c ce sl (lw_Z below #[Value.ref b] s) 1000 [(0, .ref b), (1, .ref (E.1 + a1)), (2, .ref (E.1 + a2)), (3, .int x3)] [] S R I := by
  rw [f_L_1000] at h
  refine k_aloadn (pc := 1000) C dL_law_1000 (i := 1) rfl 1 rfl ?_
  obtain ⟨hs2430, h⟩ := gp_e h
  have hs243 := sok_e hs2430
  obtain ⟨r244, hr244, h⟩ := bd_e h
  refine k_V (pc := 1001) (st := []) C (c_X11_prove hr244) lkV_RL_157 hs243 rfl rfl rfl (Nat.le_of_ble_eq_true rfl) (Nat.le_of_ble_eq_true rfl) (Nat.le_of_ble_eq_true rfl) (by show ce + 0 ≤ 600000; omega) (by show sl + 0 ≤ 7302250; omega) dL_law_1001 ?_
  refine k_nf (cells2 := ce) (slots2 := sl) (st2 := [.int r244.2]) rfl rfl rfl ?_
  refine k_aloadn (pc := 1004) C dL_law_1004 (i := 2) rfl 2 rfl ?_
  obtain ⟨hs2450, h⟩ := gp_e h
  have hs245 := sok_e hs2450
  obtain ⟨r246, hr246, h⟩ := bd_e h
  refine k_V (pc := 1005) (st := [.int r244.2]) C (c_X12_prove hr246) lkV_RL_160 hs245 rfl rfl rfl (Nat.le_of_ble_eq_true rfl) (Nat.le_of_ble_eq_true rfl) (Nat.le_of_ble_eq_true rfl) (by show ce + 0 ≤ 600000; omega) (by show sl + 0 ≤ 7302250; omega) dL_law_1005 ?_
  refine k_nf (cells2 := ce) (slots2 := sl) (st2 := [.int r246.2, .int r244.2]) rfl rfl rfl ?_
  refine k_icmp_eq (pc := 1008) C dL_law_1008 (tgt := 1508) (by decide) (fun hc247 => ?_) (fun hc247 => ?_)
  · rw [if_pos hc247] at h
    refine k_iinc (pc := 1508) C dL_law_1508 3 rfl (v := x3 + (5 : Int32)) (by rfl) (by decide) (L2 := [(0, .ref b), (1, .ref (E.1 + a1)), (2, .ref (E.1 + a2)), (3, .int (x3 + (5 : Int32)))]) rfl ?_
    refine k_goto (pc := 1511) C dL_law_1511 (tgt := 18) (by decide) ?_
    exact hko _ _ _ _ _ _ _ _ (by omega) (by omega) h
  · rw [if_neg hc247] at h
    refine k_iconst (pc := 1011) C (v := (0 : Int32)) dL_law_1011 (by decide) ?_
    exact absurd h (by decide)
def f_L_1013 (L : Nat) (xs : Nat → Int32) (ko : Sh → Rw → Iw → Nat → Nat → Int32 → Option Int32) (S : Sh) (R : Rw) (I : Iw) (a1 a2 : Nat) (x3 : Int32) : Option Int32 := gp (scok L (x3 + (1 : Int32))) (gp (scok L (x3 + (2 : Int32))) (gp (sok S a1 11 12) (bd (f_X11_row S R I a1 (xs (x3 + (1 : Int32)).toNatClampNeg) (xs (x3 + (2 : Int32)).toNatClampNeg)) (fun r251 => gp (scok L (x3 + (1 : Int32))) (gp (scok L (x3 + (2 : Int32))) (gp (sok S a2 12 34) (bd (f_X12_row S R I a2 (xs (x3 + (1 : Int32)).toNatClampNeg) (xs (x3 + (2 : Int32)).toNatClampNeg)) (fun r255 => (if r251 = r255 then ko S R I a1 a2 (x3 + (5 : Int32)) else some (0 : Int32))))))))))
set_option maxHeartbeats 8000000 in
theorem b_L_1013 {E : Ev} {p : Program} {l : Launch} {e : Env} {s : State} {m : MethodId} {below : List Frame} {meth : Method} {c : Code} {b L : Nat} {xs : Nat → Int32} (C : Cx E RL code 4 p s m c) (hr : meth.sig.returnType = ret) (hk : meth.locks = false) (hE : E.2.2.2.2.1 = s) (hX : va_X b L xs s s.heap) (hbl : b < E.1) {ko : Sh → Rw → Iw → Nat → Nat → Int32 → Option Int32} {n : Nat} (hko : ∀ (S : Sh) (R : Rw) (I : Iw) (a1 a2 : Nat) (x3 : Int32) (ce sl : Nat), ce + 2 * n ≤ 600000 → sl + 35 * n ≤ 7302250 → ko S R I a1 a2 x3 = some 1 → Wk E 4 p l e room_1 s m #[Value.ref b] below meth c ce sl (lw_Z below #[Value.ref b] s) 18 [(0, .ref b), (1, .ref (E.1 + a1)), (2, .ref (E.1 + a2)), (3, .int x3)] [] S R I) (S : Sh) (R : Rw) (I : Iw) (a1 a2 : Nat) (x3 : Int32) (ce sl : Nat) (hce : ce + 2 * (n + 1) ≤ 600000) (hsl : sl + 35 * (n + 1) ≤ 7302250) (h : f_L_1013 L xs ko S R I a1 a2 x3 = some 1) : Wk E 4 p l e room_1 s m #[Value.ref b] below meth c ce sl (lw_Z below #[Value.ref b] s) 1013 [(0, .ref b), (1, .ref (E.1 + a1)), (2, .ref (E.1 + a2)), (3, .int x3)] [] S R I := by
  rw [f_L_1013] at h
  refine k_aloadn (pc := 1013) C dL_law_1013 (i := 1) rfl 1 rfl ?_
  refine k_aloadn (pc := 1014) C dL_law_1014 (i := 0) rfl 0 rfl ?_
  refine k_iloadn (pc := 1015) C dL_law_1015 (i := 3) rfl 3 rfl ?_
  refine k_iconst (pc := 1016) C (v := (1 : Int32)) dL_law_1016 (by decide) ?_
  refine k_iadd (pc := 1017) C dL_law_1017 ?_
  obtain ⟨ha248, h⟩ := gp_e h
  refine k_sld (pc := 1018) C hE hX hbl ha248 dL_law_1018 ?_
  refine k_aloadn (pc := 1019) C dL_law_1019 (i := 0) rfl 0 rfl ?_
  refine k_iloadn (pc := 1020) C dL_law_1020 (i := 3) rfl 3 rfl ?_
  refine k_iconst (pc := 1021) C (v := (2 : Int32)) dL_law_1021 (by decide) ?_
  refine k_iadd (pc := 1022) C dL_law_1022 ?_
  obtain ⟨ha249, h⟩ := gp_e h
  refine k_sld (pc := 1023) C hE hX hbl ha249 dL_law_1023 ?_
  obtain ⟨hs2500, h⟩ := gp_e h
  have hs250 := sok_e hs2500
  obtain ⟨r251, hr251, h⟩ := bd_e h
  refine k_V (pc := 1024) (st := []) C (c_X11_row hr251) lkV_RL_161 hs250 rfl rfl rfl (Nat.le_of_ble_eq_true rfl) (Nat.le_of_ble_eq_true rfl) (Nat.le_of_ble_eq_true rfl) (by show ce + 0 ≤ 600000; omega) (by show sl + 0 ≤ 7302250; omega) dL_law_1024 ?_
  refine k_nf (cells2 := ce) (slots2 := sl) (st2 := [.int r251]) rfl rfl rfl ?_
  refine k_aloadn (pc := 1027) C dL_law_1027 (i := 2) rfl 2 rfl ?_
  refine k_aloadn (pc := 1028) C dL_law_1028 (i := 0) rfl 0 rfl ?_
  refine k_iloadn (pc := 1029) C dL_law_1029 (i := 3) rfl 3 rfl ?_
  refine k_iconst (pc := 1030) C (v := (1 : Int32)) dL_law_1030 (by decide) ?_
  refine k_iadd (pc := 1031) C dL_law_1031 ?_
  obtain ⟨ha252, h⟩ := gp_e h
  refine k_sld (pc := 1032) C hE hX hbl ha252 dL_law_1032 ?_
  refine k_aloadn (pc := 1033) C dL_law_1033 (i := 0) rfl 0 rfl ?_
  refine k_iloadn (pc := 1034) C dL_law_1034 (i := 3) rfl 3 rfl ?_
  refine k_iconst (pc := 1035) C (v := (2 : Int32)) dL_law_1035 (by decide) ?_
  refine k_iadd (pc := 1036) C dL_law_1036 ?_
  obtain ⟨ha253, h⟩ := gp_e h
  refine k_sld (pc := 1037) C hE hX hbl ha253 dL_law_1037 ?_
  obtain ⟨hs2540, h⟩ := gp_e h
  have hs254 := sok_e hs2540
  obtain ⟨r255, hr255, h⟩ := bd_e h
  refine k_V (pc := 1038) (st := [.int r251]) C (c_X12_row hr255) lkV_RL_164 hs254 rfl rfl rfl (Nat.le_of_ble_eq_true rfl) (Nat.le_of_ble_eq_true rfl) (Nat.le_of_ble_eq_true rfl) (by show ce + 0 ≤ 600000; omega) (by show sl + 0 ≤ 7302250; omega) dL_law_1038 ?_
  refine k_nf (cells2 := ce) (slots2 := sl) (st2 := [.int r255, .int r251]) rfl rfl rfl ?_
  refine k_icmp_eq (pc := 1041) C dL_law_1041 (tgt := 1508) (by decide) (fun hc256 => ?_) (fun hc256 => ?_)
  · rw [if_pos hc256] at h
    refine k_iinc (pc := 1508) C dL_law_1508 3 rfl (v := x3 + (5 : Int32)) (by rfl) (by decide) (L2 := [(0, .ref b), (1, .ref (E.1 + a1)), (2, .ref (E.1 + a2)), (3, .int (x3 + (5 : Int32)))]) rfl ?_
    refine k_goto (pc := 1511) C dL_law_1511 (tgt := 18) (by decide) ?_
    exact hko _ _ _ _ _ _ _ _ (by omega) (by omega) h
  · rw [if_neg hc256] at h
    refine k_iconst (pc := 1044) C (v := (0 : Int32)) dL_law_1044 (by decide) ?_
    exact absurd h (by decide)
def f_L_1046 (L : Nat) (xs : Nat → Int32) (ko : Sh → Rw → Iw → Nat → Nat → Int32 → Option Int32) (S : Sh) (R : Rw) (I : Iw) (a1 a2 : Nat) (x3 : Int32) : Option Int32 := gp (scok L (x3 + (1 : Int32))) (gp (scok L (x3 + (2 : Int32))) (gp (scok L (x3 + (3 : Int32))) (gp (sok S a1 11 12) (bd (f_X11_alterRow S R I a1 (xs (x3 + (1 : Int32)).toNatClampNeg) (xs (x3 + (2 : Int32)).toNatClampNeg) (xs (x3 + (3 : Int32)).toNatClampNeg)) (fun r261 => gp (scok L (x3 + (1 : Int32))) (gp (scok L (x3 + (2 : Int32))) (gp (scok L (x3 + (3 : Int32))) (gp (sok S a2 12 34) (bd (f_X12_alterRow S R r261.1 a2 (xs (x3 + (1 : Int32)).toNatClampNeg) (xs (x3 + (2 : Int32)).toNatClampNeg) (xs (x3 + (3 : Int32)).toNatClampNeg)) (fun r266 => (if r261.2 = r266.2 then ko S R r266.1 a1 a2 (x3 + (5 : Int32)) else some (0 : Int32))))))))))))
set_option maxHeartbeats 8000000 in
theorem b_L_1046 {E : Ev} {p : Program} {l : Launch} {e : Env} {s : State} {m : MethodId} {below : List Frame} {meth : Method} {c : Code} {b L : Nat} {xs : Nat → Int32} (C : Cx E RL code 4 p s m c) (hr : meth.sig.returnType = ret) (hk : meth.locks = false) (hE : E.2.2.2.2.1 = s) (hX : va_X b L xs s s.heap) (hbl : b < E.1) {ko : Sh → Rw → Iw → Nat → Nat → Int32 → Option Int32} {n : Nat} (hko : ∀ (S : Sh) (R : Rw) (I : Iw) (a1 a2 : Nat) (x3 : Int32) (ce sl : Nat), ce + 2 * n ≤ 600000 → sl + 35 * n ≤ 7302250 → ko S R I a1 a2 x3 = some 1 → Wk E 4 p l e room_1 s m #[Value.ref b] below meth c ce sl (lw_Z below #[Value.ref b] s) 18 [(0, .ref b), (1, .ref (E.1 + a1)), (2, .ref (E.1 + a2)), (3, .int x3)] [] S R I) (S : Sh) (R : Rw) (I : Iw) (a1 a2 : Nat) (x3 : Int32) (ce sl : Nat) (hce : ce + 2 * (n + 1) ≤ 600000) (hsl : sl + 35 * (n + 1) ≤ 7302250) (h : f_L_1046 L xs ko S R I a1 a2 x3 = some 1) : Wk E 4 p l e room_1 s m #[Value.ref b] below meth c ce sl (lw_Z below #[Value.ref b] s) 1046 [(0, .ref b), (1, .ref (E.1 + a1)), (2, .ref (E.1 + a2)), (3, .int x3)] [] S R I := by
  rw [f_L_1046] at h
  refine k_aloadn (pc := 1046) C dL_law_1046 (i := 1) rfl 1 rfl ?_
  refine k_aloadn (pc := 1047) C dL_law_1047 (i := 0) rfl 0 rfl ?_
  refine k_iloadn (pc := 1048) C dL_law_1048 (i := 3) rfl 3 rfl ?_
  refine k_iconst (pc := 1049) C (v := (1 : Int32)) dL_law_1049 (by decide) ?_
  refine k_iadd (pc := 1050) C dL_law_1050 ?_
  obtain ⟨ha257, h⟩ := gp_e h
  refine k_sld (pc := 1051) C hE hX hbl ha257 dL_law_1051 ?_
  refine k_aloadn (pc := 1052) C dL_law_1052 (i := 0) rfl 0 rfl ?_
  refine k_iloadn (pc := 1053) C dL_law_1053 (i := 3) rfl 3 rfl ?_
  refine k_iconst (pc := 1054) C (v := (2 : Int32)) dL_law_1054 (by decide) ?_
  refine k_iadd (pc := 1055) C dL_law_1055 ?_
  obtain ⟨ha258, h⟩ := gp_e h
  refine k_sld (pc := 1056) C hE hX hbl ha258 dL_law_1056 ?_
  refine k_aloadn (pc := 1057) C dL_law_1057 (i := 0) rfl 0 rfl ?_
  refine k_iloadn (pc := 1058) C dL_law_1058 (i := 3) rfl 3 rfl ?_
  refine k_iconst (pc := 1059) C (v := (3 : Int32)) dL_law_1059 (by decide) ?_
  refine k_iadd (pc := 1060) C dL_law_1060 ?_
  obtain ⟨ha259, h⟩ := gp_e h
  refine k_sld (pc := 1061) C hE hX hbl ha259 dL_law_1061 ?_
  obtain ⟨hs2600, h⟩ := gp_e h
  have hs260 := sok_e hs2600
  obtain ⟨r261, hr261, h⟩ := bd_e h
  refine k_V (pc := 1062) (st := []) C (c_X11_alterRow hr261) lkV_RL_165 hs260 rfl rfl rfl (Nat.le_of_ble_eq_true rfl) (Nat.le_of_ble_eq_true rfl) (Nat.le_of_ble_eq_true rfl) (by show ce + 0 ≤ 600000; omega) (by show sl + 0 ≤ 7302250; omega) dL_law_1062 ?_
  refine k_nf (cells2 := ce) (slots2 := sl) (st2 := [.int r261.2]) rfl rfl rfl ?_
  refine k_aloadn (pc := 1065) C dL_law_1065 (i := 2) rfl 2 rfl ?_
  refine k_aloadn (pc := 1066) C dL_law_1066 (i := 0) rfl 0 rfl ?_
  refine k_iloadn (pc := 1067) C dL_law_1067 (i := 3) rfl 3 rfl ?_
  refine k_iconst (pc := 1068) C (v := (1 : Int32)) dL_law_1068 (by decide) ?_
  refine k_iadd (pc := 1069) C dL_law_1069 ?_
  obtain ⟨ha262, h⟩ := gp_e h
  refine k_sld (pc := 1070) C hE hX hbl ha262 dL_law_1070 ?_
  refine k_aloadn (pc := 1071) C dL_law_1071 (i := 0) rfl 0 rfl ?_
  refine k_iloadn (pc := 1072) C dL_law_1072 (i := 3) rfl 3 rfl ?_
  refine k_iconst (pc := 1073) C (v := (2 : Int32)) dL_law_1073 (by decide) ?_
  refine k_iadd (pc := 1074) C dL_law_1074 ?_
  obtain ⟨ha263, h⟩ := gp_e h
  refine k_sld (pc := 1075) C hE hX hbl ha263 dL_law_1075 ?_
  refine k_aloadn (pc := 1076) C dL_law_1076 (i := 0) rfl 0 rfl ?_
  refine k_iloadn (pc := 1077) C dL_law_1077 (i := 3) rfl 3 rfl ?_
  refine k_iconst (pc := 1078) C (v := (3 : Int32)) dL_law_1078 (by decide) ?_
  refine k_iadd (pc := 1079) C dL_law_1079 ?_
  obtain ⟨ha264, h⟩ := gp_e h
  refine k_sld (pc := 1080) C hE hX hbl ha264 dL_law_1080 ?_
  obtain ⟨hs2650, h⟩ := gp_e h
  have hs265 := sok_e hs2650
  obtain ⟨r266, hr266, h⟩ := bd_e h
  refine k_V (pc := 1081) (st := [.int r261.2]) C (c_X12_alterRow hr266) lkV_RL_168 hs265 rfl rfl rfl (Nat.le_of_ble_eq_true rfl) (Nat.le_of_ble_eq_true rfl) (Nat.le_of_ble_eq_true rfl) (by show ce + 0 ≤ 600000; omega) (by show sl + 0 ≤ 7302250; omega) dL_law_1081 ?_
  refine k_nf (cells2 := ce) (slots2 := sl) (st2 := [.int r266.2, .int r261.2]) rfl rfl rfl ?_
  refine k_icmp_eq (pc := 1084) C dL_law_1084 (tgt := 1508) (by decide) (fun hc267 => ?_) (fun hc267 => ?_)
  · rw [if_pos hc267] at h
    refine k_iinc (pc := 1508) C dL_law_1508 3 rfl (v := x3 + (5 : Int32)) (by rfl) (by decide) (L2 := [(0, .ref b), (1, .ref (E.1 + a1)), (2, .ref (E.1 + a2)), (3, .int (x3 + (5 : Int32)))]) rfl ?_
    refine k_goto (pc := 1511) C dL_law_1511 (tgt := 18) (by decide) ?_
    exact hko _ _ _ _ _ _ _ _ (by omega) (by omega) h
  · rw [if_neg hc267] at h
    refine k_iconst (pc := 1087) C (v := (0 : Int32)) dL_law_1087 (by decide) ?_
    exact absurd h (by decide)
def f_L_1089 (L : Nat) (xs : Nat → Int32) (ko : Sh → Rw → Iw → Nat → Nat → Int32 → Option Int32) (S : Sh) (R : Rw) (I : Iw) (a1 a2 : Nat) (x3 : Int32) : Option Int32 := gp (sok S a1 11 12) (bd (f_X11_judge S R I a1) (fun r269 => gp (sok S a2 12 34) (bd (f_X12_judge S R I a2) (fun r271 => (if r269 = r271.2 then ko S R r271.1 a1 a2 (x3 + (5 : Int32)) else some (0 : Int32))))))
set_option maxHeartbeats 8000000 in
theorem b_L_1089 {E : Ev} {p : Program} {l : Launch} {e : Env} {s : State} {m : MethodId} {below : List Frame} {meth : Method} {c : Code} {b L : Nat} {xs : Nat → Int32} (C : Cx E RL code 4 p s m c) (hr : meth.sig.returnType = ret) (hk : meth.locks = false) (hE : E.2.2.2.2.1 = s) (hX : va_X b L xs s s.heap) (hbl : b < E.1) {ko : Sh → Rw → Iw → Nat → Nat → Int32 → Option Int32} {n : Nat} (hko : ∀ (S : Sh) (R : Rw) (I : Iw) (a1 a2 : Nat) (x3 : Int32) (ce sl : Nat), ce + 2 * n ≤ 600000 → sl + 35 * n ≤ 7302250 → ko S R I a1 a2 x3 = some 1 → Wk E 4 p l e room_1 s m #[Value.ref b] below meth c ce sl (lw_Z below #[Value.ref b] s) 18 [(0, .ref b), (1, .ref (E.1 + a1)), (2, .ref (E.1 + a2)), (3, .int x3)] [] S R I) (S : Sh) (R : Rw) (I : Iw) (a1 a2 : Nat) (x3 : Int32) (ce sl : Nat) (hce : ce + 2 * (n + 1) ≤ 600000) (hsl : sl + 35 * (n + 1) ≤ 7302250) (h : f_L_1089 L xs ko S R I a1 a2 x3 = some 1) : Wk E 4 p l e room_1 s m #[Value.ref b] below meth c ce sl (lw_Z below #[Value.ref b] s) 1089 [(0, .ref b), (1, .ref (E.1 + a1)), (2, .ref (E.1 + a2)), (3, .int x3)] [] S R I := by
  rw [f_L_1089] at h
  refine k_aloadn (pc := 1089) C dL_law_1089 (i := 1) rfl 1 rfl ?_
  obtain ⟨hs2680, h⟩ := gp_e h
  have hs268 := sok_e hs2680
  obtain ⟨r269, hr269, h⟩ := bd_e h
  refine k_V (pc := 1090) (st := []) C (c_X11_judge hr269) lkV_RL_169 hs268 rfl rfl rfl (Nat.le_of_ble_eq_true rfl) (Nat.le_of_ble_eq_true rfl) (Nat.le_of_ble_eq_true rfl) (by show ce + 0 ≤ 600000; omega) (by show sl + 0 ≤ 7302250; omega) dL_law_1090 ?_
  refine k_nf (cells2 := ce) (slots2 := sl) (st2 := [.int r269]) rfl rfl rfl ?_
  refine k_aloadn (pc := 1093) C dL_law_1093 (i := 2) rfl 2 rfl ?_
  obtain ⟨hs2700, h⟩ := gp_e h
  have hs270 := sok_e hs2700
  obtain ⟨r271, hr271, h⟩ := bd_e h
  refine k_V (pc := 1094) (st := [.int r269]) C (c_X12_judge hr271) lkV_RL_172 hs270 rfl rfl rfl (Nat.le_of_ble_eq_true rfl) (Nat.le_of_ble_eq_true rfl) (Nat.le_of_ble_eq_true rfl) (by show ce + 0 ≤ 600000; omega) (by show sl + 0 ≤ 7302250; omega) dL_law_1094 ?_
  refine k_nf (cells2 := ce) (slots2 := sl) (st2 := [.int r271.2, .int r269]) rfl rfl rfl ?_
  refine k_icmp_eq (pc := 1097) C dL_law_1097 (tgt := 1508) (by decide) (fun hc272 => ?_) (fun hc272 => ?_)
  · rw [if_pos hc272] at h
    refine k_iinc (pc := 1508) C dL_law_1508 3 rfl (v := x3 + (5 : Int32)) (by rfl) (by decide) (L2 := [(0, .ref b), (1, .ref (E.1 + a1)), (2, .ref (E.1 + a2)), (3, .int (x3 + (5 : Int32)))]) rfl ?_
    refine k_goto (pc := 1511) C dL_law_1511 (tgt := 18) (by decide) ?_
    exact hko _ _ _ _ _ _ _ _ (by omega) (by omega) h
  · rw [if_neg hc272] at h
    refine k_iconst (pc := 1100) C (v := (0 : Int32)) dL_law_1100 (by decide) ?_
    exact absurd h (by decide)
def f_L_1102 (L : Nat) (xs : Nat → Int32) (ko : Sh → Rw → Iw → Nat → Nat → Int32 → Option Int32) (S : Sh) (R : Rw) (I : Iw) (a1 a2 : Nat) (x3 : Int32) : Option Int32 := gp (scok L (x3 + (1 : Int32))) (gp (scok L (x3 + (2 : Int32))) (gp (scok L (x3 + (3 : Int32))) (gp (sok S a1 11 12) (bd (f_X11_sheet S R I a1 (xs (x3 + (1 : Int32)).toNatClampNeg) (xs (x3 + (2 : Int32)).toNatClampNeg) (xs (x3 + (3 : Int32)).toNatClampNeg)) (fun r277 => gp (scok L (x3 + (1 : Int32))) (gp (scok L (x3 + (2 : Int32))) (gp (scok L (x3 + (3 : Int32))) (gp (sok S a2 12 34) (bd (f_X12_sheet S R r277.1 a2 (xs (x3 + (1 : Int32)).toNatClampNeg) (xs (x3 + (2 : Int32)).toNatClampNeg) (xs (x3 + (3 : Int32)).toNatClampNeg)) (fun r282 => (if r277.2 = r282.2 then ko S R r282.1 a1 a2 (x3 + (5 : Int32)) else some (0 : Int32))))))))))))
set_option maxHeartbeats 8000000 in
theorem b_L_1102 {E : Ev} {p : Program} {l : Launch} {e : Env} {s : State} {m : MethodId} {below : List Frame} {meth : Method} {c : Code} {b L : Nat} {xs : Nat → Int32} (C : Cx E RL code 4 p s m c) (hr : meth.sig.returnType = ret) (hk : meth.locks = false) (hE : E.2.2.2.2.1 = s) (hX : va_X b L xs s s.heap) (hbl : b < E.1) {ko : Sh → Rw → Iw → Nat → Nat → Int32 → Option Int32} {n : Nat} (hko : ∀ (S : Sh) (R : Rw) (I : Iw) (a1 a2 : Nat) (x3 : Int32) (ce sl : Nat), ce + 2 * n ≤ 600000 → sl + 35 * n ≤ 7302250 → ko S R I a1 a2 x3 = some 1 → Wk E 4 p l e room_1 s m #[Value.ref b] below meth c ce sl (lw_Z below #[Value.ref b] s) 18 [(0, .ref b), (1, .ref (E.1 + a1)), (2, .ref (E.1 + a2)), (3, .int x3)] [] S R I) (S : Sh) (R : Rw) (I : Iw) (a1 a2 : Nat) (x3 : Int32) (ce sl : Nat) (hce : ce + 2 * (n + 1) ≤ 600000) (hsl : sl + 35 * (n + 1) ≤ 7302250) (h : f_L_1102 L xs ko S R I a1 a2 x3 = some 1) : Wk E 4 p l e room_1 s m #[Value.ref b] below meth c ce sl (lw_Z below #[Value.ref b] s) 1102 [(0, .ref b), (1, .ref (E.1 + a1)), (2, .ref (E.1 + a2)), (3, .int x3)] [] S R I := by
  rw [f_L_1102] at h
  refine k_aloadn (pc := 1102) C dL_law_1102 (i := 1) rfl 1 rfl ?_
  refine k_aloadn (pc := 1103) C dL_law_1103 (i := 0) rfl 0 rfl ?_
  refine k_iloadn (pc := 1104) C dL_law_1104 (i := 3) rfl 3 rfl ?_
  refine k_iconst (pc := 1105) C (v := (1 : Int32)) dL_law_1105 (by decide) ?_
  refine k_iadd (pc := 1106) C dL_law_1106 ?_
  obtain ⟨ha273, h⟩ := gp_e h
  refine k_sld (pc := 1107) C hE hX hbl ha273 dL_law_1107 ?_
  refine k_aloadn (pc := 1108) C dL_law_1108 (i := 0) rfl 0 rfl ?_
  refine k_iloadn (pc := 1109) C dL_law_1109 (i := 3) rfl 3 rfl ?_
  refine k_iconst (pc := 1110) C (v := (2 : Int32)) dL_law_1110 (by decide) ?_
  refine k_iadd (pc := 1111) C dL_law_1111 ?_
  obtain ⟨ha274, h⟩ := gp_e h
  refine k_sld (pc := 1112) C hE hX hbl ha274 dL_law_1112 ?_
  refine k_aloadn (pc := 1113) C dL_law_1113 (i := 0) rfl 0 rfl ?_
  refine k_iloadn (pc := 1114) C dL_law_1114 (i := 3) rfl 3 rfl ?_
  refine k_iconst (pc := 1115) C (v := (3 : Int32)) dL_law_1115 (by decide) ?_
  refine k_iadd (pc := 1116) C dL_law_1116 ?_
  obtain ⟨ha275, h⟩ := gp_e h
  refine k_sld (pc := 1117) C hE hX hbl ha275 dL_law_1117 ?_
  obtain ⟨hs2760, h⟩ := gp_e h
  have hs276 := sok_e hs2760
  obtain ⟨r277, hr277, h⟩ := bd_e h
  refine k_V (pc := 1118) (st := []) C (c_X11_sheet hr277) lkV_RL_173 hs276 rfl rfl rfl (Nat.le_of_ble_eq_true rfl) (Nat.le_of_ble_eq_true rfl) (Nat.le_of_ble_eq_true rfl) (by show ce + 0 ≤ 600000; omega) (by show sl + 0 ≤ 7302250; omega) dL_law_1118 ?_
  refine k_nf (cells2 := ce) (slots2 := sl) (st2 := [.int r277.2]) rfl rfl rfl ?_
  refine k_aloadn (pc := 1121) C dL_law_1121 (i := 2) rfl 2 rfl ?_
  refine k_aloadn (pc := 1122) C dL_law_1122 (i := 0) rfl 0 rfl ?_
  refine k_iloadn (pc := 1123) C dL_law_1123 (i := 3) rfl 3 rfl ?_
  refine k_iconst (pc := 1124) C (v := (1 : Int32)) dL_law_1124 (by decide) ?_
  refine k_iadd (pc := 1125) C dL_law_1125 ?_
  obtain ⟨ha278, h⟩ := gp_e h
  refine k_sld (pc := 1126) C hE hX hbl ha278 dL_law_1126 ?_
  refine k_aloadn (pc := 1127) C dL_law_1127 (i := 0) rfl 0 rfl ?_
  refine k_iloadn (pc := 1128) C dL_law_1128 (i := 3) rfl 3 rfl ?_
  refine k_iconst (pc := 1129) C (v := (2 : Int32)) dL_law_1129 (by decide) ?_
  refine k_iadd (pc := 1130) C dL_law_1130 ?_
  obtain ⟨ha279, h⟩ := gp_e h
  refine k_sld (pc := 1131) C hE hX hbl ha279 dL_law_1131 ?_
  refine k_aloadn (pc := 1132) C dL_law_1132 (i := 0) rfl 0 rfl ?_
  refine k_iloadn (pc := 1133) C dL_law_1133 (i := 3) rfl 3 rfl ?_
  refine k_iconst (pc := 1134) C (v := (3 : Int32)) dL_law_1134 (by decide) ?_
  refine k_iadd (pc := 1135) C dL_law_1135 ?_
  obtain ⟨ha280, h⟩ := gp_e h
  refine k_sld (pc := 1136) C hE hX hbl ha280 dL_law_1136 ?_
  obtain ⟨hs2810, h⟩ := gp_e h
  have hs281 := sok_e hs2810
  obtain ⟨r282, hr282, h⟩ := bd_e h
  refine k_V (pc := 1137) (st := [.int r277.2]) C (c_X12_sheet hr282) lkV_RL_176 hs281 rfl rfl rfl (Nat.le_of_ble_eq_true rfl) (Nat.le_of_ble_eq_true rfl) (Nat.le_of_ble_eq_true rfl) (by show ce + 0 ≤ 600000; omega) (by show sl + 0 ≤ 7302250; omega) dL_law_1137 ?_
  refine k_nf (cells2 := ce) (slots2 := sl) (st2 := [.int r282.2, .int r277.2]) rfl rfl rfl ?_
  refine k_icmp_eq (pc := 1140) C dL_law_1140 (tgt := 1508) (by decide) (fun hc283 => ?_) (fun hc283 => ?_)
  · rw [if_pos hc283] at h
    refine k_iinc (pc := 1508) C dL_law_1508 3 rfl (v := x3 + (5 : Int32)) (by rfl) (by decide) (L2 := [(0, .ref b), (1, .ref (E.1 + a1)), (2, .ref (E.1 + a2)), (3, .int (x3 + (5 : Int32)))]) rfl ?_
    refine k_goto (pc := 1511) C dL_law_1511 (tgt := 18) (by decide) ?_
    exact hko _ _ _ _ _ _ _ _ (by omega) (by omega) h
  · rw [if_neg hc283] at h
    refine k_iconst (pc := 1143) C (v := (0 : Int32)) dL_law_1143 (by decide) ?_
    exact absurd h (by decide)
def f_L_1145 (L : Nat) (xs : Nat → Int32) (ko : Sh → Rw → Iw → Nat → Nat → Int32 → Option Int32) (S : Sh) (R : Rw) (I : Iw) (a1 a2 : Nat) (x3 : Int32) : Option Int32 := gp (scok L (x3 + (1 : Int32))) (gp (scok L (x3 + (2 : Int32))) (gp (scok L (x3 + (3 : Int32))) (gp (sok S a1 11 12) (bd (f_X11_write S R I a1 (xs (x3 + (1 : Int32)).toNatClampNeg) (xs (x3 + (2 : Int32)).toNatClampNeg) (xs (x3 + (3 : Int32)).toNatClampNeg)) (fun r288 => gp (scok L (x3 + (1 : Int32))) (gp (scok L (x3 + (2 : Int32))) (gp (scok L (x3 + (3 : Int32))) (gp (sok S a2 12 34) (bd (f_X12_write S R r288.1 a2 (xs (x3 + (1 : Int32)).toNatClampNeg) (xs (x3 + (2 : Int32)).toNatClampNeg) (xs (x3 + (3 : Int32)).toNatClampNeg)) (fun r293 => (if r288.2 = r293.2 then ko S R r293.1 a1 a2 (x3 + (5 : Int32)) else some (0 : Int32))))))))))))
set_option maxHeartbeats 8000000 in
theorem b_L_1145 {E : Ev} {p : Program} {l : Launch} {e : Env} {s : State} {m : MethodId} {below : List Frame} {meth : Method} {c : Code} {b L : Nat} {xs : Nat → Int32} (C : Cx E RL code 4 p s m c) (hr : meth.sig.returnType = ret) (hk : meth.locks = false) (hE : E.2.2.2.2.1 = s) (hX : va_X b L xs s s.heap) (hbl : b < E.1) {ko : Sh → Rw → Iw → Nat → Nat → Int32 → Option Int32} {n : Nat} (hko : ∀ (S : Sh) (R : Rw) (I : Iw) (a1 a2 : Nat) (x3 : Int32) (ce sl : Nat), ce + 2 * n ≤ 600000 → sl + 35 * n ≤ 7302250 → ko S R I a1 a2 x3 = some 1 → Wk E 4 p l e room_1 s m #[Value.ref b] below meth c ce sl (lw_Z below #[Value.ref b] s) 18 [(0, .ref b), (1, .ref (E.1 + a1)), (2, .ref (E.1 + a2)), (3, .int x3)] [] S R I) (S : Sh) (R : Rw) (I : Iw) (a1 a2 : Nat) (x3 : Int32) (ce sl : Nat) (hce : ce + 2 * (n + 1) ≤ 600000) (hsl : sl + 35 * (n + 1) ≤ 7302250) (h : f_L_1145 L xs ko S R I a1 a2 x3 = some 1) : Wk E 4 p l e room_1 s m #[Value.ref b] below meth c ce sl (lw_Z below #[Value.ref b] s) 1145 [(0, .ref b), (1, .ref (E.1 + a1)), (2, .ref (E.1 + a2)), (3, .int x3)] [] S R I := by
  rw [f_L_1145] at h
  refine k_aloadn (pc := 1145) C dL_law_1145 (i := 1) rfl 1 rfl ?_
  refine k_aloadn (pc := 1146) C dL_law_1146 (i := 0) rfl 0 rfl ?_
  refine k_iloadn (pc := 1147) C dL_law_1147 (i := 3) rfl 3 rfl ?_
  refine k_iconst (pc := 1148) C (v := (1 : Int32)) dL_law_1148 (by decide) ?_
  refine k_iadd (pc := 1149) C dL_law_1149 ?_
  obtain ⟨ha284, h⟩ := gp_e h
  refine k_sld (pc := 1150) C hE hX hbl ha284 dL_law_1150 ?_
  refine k_aloadn (pc := 1151) C dL_law_1151 (i := 0) rfl 0 rfl ?_
  refine k_iloadn (pc := 1152) C dL_law_1152 (i := 3) rfl 3 rfl ?_
  refine k_iconst (pc := 1153) C (v := (2 : Int32)) dL_law_1153 (by decide) ?_
  refine k_iadd (pc := 1154) C dL_law_1154 ?_
  obtain ⟨ha285, h⟩ := gp_e h
  refine k_sld (pc := 1155) C hE hX hbl ha285 dL_law_1155 ?_
  refine k_aloadn (pc := 1156) C dL_law_1156 (i := 0) rfl 0 rfl ?_
  refine k_iloadn (pc := 1157) C dL_law_1157 (i := 3) rfl 3 rfl ?_
  refine k_iconst (pc := 1158) C (v := (3 : Int32)) dL_law_1158 (by decide) ?_
  refine k_iadd (pc := 1159) C dL_law_1159 ?_
  obtain ⟨ha286, h⟩ := gp_e h
  refine k_sld (pc := 1160) C hE hX hbl ha286 dL_law_1160 ?_
  obtain ⟨hs2870, h⟩ := gp_e h
  have hs287 := sok_e hs2870
  obtain ⟨r288, hr288, h⟩ := bd_e h
  refine k_V (pc := 1161) (st := []) C (c_X11_write hr288) lkV_RL_177 hs287 rfl rfl rfl (Nat.le_of_ble_eq_true rfl) (Nat.le_of_ble_eq_true rfl) (Nat.le_of_ble_eq_true rfl) (by show ce + 0 ≤ 600000; omega) (by show sl + 0 ≤ 7302250; omega) dL_law_1161 ?_
  refine k_nf (cells2 := ce) (slots2 := sl) (st2 := [.int r288.2]) rfl rfl rfl ?_
  refine k_aloadn (pc := 1164) C dL_law_1164 (i := 2) rfl 2 rfl ?_
  refine k_aloadn (pc := 1165) C dL_law_1165 (i := 0) rfl 0 rfl ?_
  refine k_iloadn (pc := 1166) C dL_law_1166 (i := 3) rfl 3 rfl ?_
  refine k_iconst (pc := 1167) C (v := (1 : Int32)) dL_law_1167 (by decide) ?_
  refine k_iadd (pc := 1168) C dL_law_1168 ?_
  obtain ⟨ha289, h⟩ := gp_e h
  refine k_sld (pc := 1169) C hE hX hbl ha289 dL_law_1169 ?_
  refine k_aloadn (pc := 1170) C dL_law_1170 (i := 0) rfl 0 rfl ?_
  refine k_iloadn (pc := 1171) C dL_law_1171 (i := 3) rfl 3 rfl ?_
  refine k_iconst (pc := 1172) C (v := (2 : Int32)) dL_law_1172 (by decide) ?_
  refine k_iadd (pc := 1173) C dL_law_1173 ?_
  obtain ⟨ha290, h⟩ := gp_e h
  refine k_sld (pc := 1174) C hE hX hbl ha290 dL_law_1174 ?_
  refine k_aloadn (pc := 1175) C dL_law_1175 (i := 0) rfl 0 rfl ?_
  refine k_iloadn (pc := 1176) C dL_law_1176 (i := 3) rfl 3 rfl ?_
  refine k_iconst (pc := 1177) C (v := (3 : Int32)) dL_law_1177 (by decide) ?_
  refine k_iadd (pc := 1178) C dL_law_1178 ?_
  obtain ⟨ha291, h⟩ := gp_e h
  refine k_sld (pc := 1179) C hE hX hbl ha291 dL_law_1179 ?_
  obtain ⟨hs2920, h⟩ := gp_e h
  have hs292 := sok_e hs2920
  obtain ⟨r293, hr293, h⟩ := bd_e h
  refine k_V (pc := 1180) (st := [.int r288.2]) C (c_X12_write hr293) lkV_RL_180 hs292 rfl rfl rfl (Nat.le_of_ble_eq_true rfl) (Nat.le_of_ble_eq_true rfl) (Nat.le_of_ble_eq_true rfl) (by show ce + 0 ≤ 600000; omega) (by show sl + 0 ≤ 7302250; omega) dL_law_1180 ?_
  refine k_nf (cells2 := ce) (slots2 := sl) (st2 := [.int r293.2, .int r288.2]) rfl rfl rfl ?_
  refine k_icmp_eq (pc := 1183) C dL_law_1183 (tgt := 1508) (by decide) (fun hc294 => ?_) (fun hc294 => ?_)
  · rw [if_pos hc294] at h
    refine k_iinc (pc := 1508) C dL_law_1508 3 rfl (v := x3 + (5 : Int32)) (by rfl) (by decide) (L2 := [(0, .ref b), (1, .ref (E.1 + a1)), (2, .ref (E.1 + a2)), (3, .int (x3 + (5 : Int32)))]) rfl ?_
    refine k_goto (pc := 1511) C dL_law_1511 (tgt := 18) (by decide) ?_
    exact hko _ _ _ _ _ _ _ _ (by omega) (by omega) h
  · rw [if_neg hc294] at h
    refine k_iconst (pc := 1186) C (v := (0 : Int32)) dL_law_1186 (by decide) ?_
    exact absurd h (by decide)
def f_L_1188 (L : Nat) (xs : Nat → Int32) (ko : Sh → Rw → Iw → Nat → Nat → Int32 → Option Int32) (S : Sh) (R : Rw) (I : Iw) (a1 a2 : Nat) (x3 : Int32) : Option Int32 := gp (scok L (x3 + (1 : Int32))) (gp (scok L (x3 + (2 : Int32))) (gp (scok L (x3 + (3 : Int32))) (gp (sok S a1 11 12) (bd (f_X11_item S R I a1 (xs (x3 + (1 : Int32)).toNatClampNeg) (xs (x3 + (2 : Int32)).toNatClampNeg) (xs (x3 + (3 : Int32)).toNatClampNeg)) (fun r299 => gp (scok L (x3 + (1 : Int32))) (gp (scok L (x3 + (2 : Int32))) (gp (scok L (x3 + (3 : Int32))) (gp (sok S a2 12 34) (bd (f_X12_item S R I a2 (xs (x3 + (1 : Int32)).toNatClampNeg) (xs (x3 + (2 : Int32)).toNatClampNeg) (xs (x3 + (3 : Int32)).toNatClampNeg)) (fun r304 => (if r299 = r304 then ko S R I a1 a2 (x3 + (5 : Int32)) else some (0 : Int32))))))))))))
set_option maxHeartbeats 8000000 in
theorem b_L_1188 {E : Ev} {p : Program} {l : Launch} {e : Env} {s : State} {m : MethodId} {below : List Frame} {meth : Method} {c : Code} {b L : Nat} {xs : Nat → Int32} (C : Cx E RL code 4 p s m c) (hr : meth.sig.returnType = ret) (hk : meth.locks = false) (hE : E.2.2.2.2.1 = s) (hX : va_X b L xs s s.heap) (hbl : b < E.1) {ko : Sh → Rw → Iw → Nat → Nat → Int32 → Option Int32} {n : Nat} (hko : ∀ (S : Sh) (R : Rw) (I : Iw) (a1 a2 : Nat) (x3 : Int32) (ce sl : Nat), ce + 2 * n ≤ 600000 → sl + 35 * n ≤ 7302250 → ko S R I a1 a2 x3 = some 1 → Wk E 4 p l e room_1 s m #[Value.ref b] below meth c ce sl (lw_Z below #[Value.ref b] s) 18 [(0, .ref b), (1, .ref (E.1 + a1)), (2, .ref (E.1 + a2)), (3, .int x3)] [] S R I) (S : Sh) (R : Rw) (I : Iw) (a1 a2 : Nat) (x3 : Int32) (ce sl : Nat) (hce : ce + 2 * (n + 1) ≤ 600000) (hsl : sl + 35 * (n + 1) ≤ 7302250) (h : f_L_1188 L xs ko S R I a1 a2 x3 = some 1) : Wk E 4 p l e room_1 s m #[Value.ref b] below meth c ce sl (lw_Z below #[Value.ref b] s) 1188 [(0, .ref b), (1, .ref (E.1 + a1)), (2, .ref (E.1 + a2)), (3, .int x3)] [] S R I := by
  rw [f_L_1188] at h
  refine k_aloadn (pc := 1188) C dL_law_1188 (i := 1) rfl 1 rfl ?_
  refine k_aloadn (pc := 1189) C dL_law_1189 (i := 0) rfl 0 rfl ?_
  refine k_iloadn (pc := 1190) C dL_law_1190 (i := 3) rfl 3 rfl ?_
  refine k_iconst (pc := 1191) C (v := (1 : Int32)) dL_law_1191 (by decide) ?_
  refine k_iadd (pc := 1192) C dL_law_1192 ?_
  obtain ⟨ha295, h⟩ := gp_e h
  refine k_sld (pc := 1193) C hE hX hbl ha295 dL_law_1193 ?_
  refine k_aloadn (pc := 1194) C dL_law_1194 (i := 0) rfl 0 rfl ?_
  refine k_iloadn (pc := 1195) C dL_law_1195 (i := 3) rfl 3 rfl ?_
  refine k_iconst (pc := 1196) C (v := (2 : Int32)) dL_law_1196 (by decide) ?_
  refine k_iadd (pc := 1197) C dL_law_1197 ?_
  obtain ⟨ha296, h⟩ := gp_e h
  refine k_sld (pc := 1198) C hE hX hbl ha296 dL_law_1198 ?_
  refine k_aloadn (pc := 1199) C dL_law_1199 (i := 0) rfl 0 rfl ?_
  refine k_iloadn (pc := 1200) C dL_law_1200 (i := 3) rfl 3 rfl ?_
  refine k_iconst (pc := 1201) C (v := (3 : Int32)) dL_law_1201 (by decide) ?_
  refine k_iadd (pc := 1202) C dL_law_1202 ?_
  obtain ⟨ha297, h⟩ := gp_e h
  refine k_sld (pc := 1203) C hE hX hbl ha297 dL_law_1203 ?_
  obtain ⟨hs2980, h⟩ := gp_e h
  have hs298 := sok_e hs2980
  obtain ⟨r299, hr299, h⟩ := bd_e h
  refine k_V (pc := 1204) (st := []) C (c_X11_item hr299) lkV_RL_181 hs298 rfl rfl rfl (Nat.le_of_ble_eq_true rfl) (Nat.le_of_ble_eq_true rfl) (Nat.le_of_ble_eq_true rfl) (by show ce + 0 ≤ 600000; omega) (by show sl + 0 ≤ 7302250; omega) dL_law_1204 ?_
  refine k_nf (cells2 := ce) (slots2 := sl) (st2 := [.int r299]) rfl rfl rfl ?_
  refine k_aloadn (pc := 1207) C dL_law_1207 (i := 2) rfl 2 rfl ?_
  refine k_aloadn (pc := 1208) C dL_law_1208 (i := 0) rfl 0 rfl ?_
  refine k_iloadn (pc := 1209) C dL_law_1209 (i := 3) rfl 3 rfl ?_
  refine k_iconst (pc := 1210) C (v := (1 : Int32)) dL_law_1210 (by decide) ?_
  refine k_iadd (pc := 1211) C dL_law_1211 ?_
  obtain ⟨ha300, h⟩ := gp_e h
  refine k_sld (pc := 1212) C hE hX hbl ha300 dL_law_1212 ?_
  refine k_aloadn (pc := 1213) C dL_law_1213 (i := 0) rfl 0 rfl ?_
  refine k_iloadn (pc := 1214) C dL_law_1214 (i := 3) rfl 3 rfl ?_
  refine k_iconst (pc := 1215) C (v := (2 : Int32)) dL_law_1215 (by decide) ?_
  refine k_iadd (pc := 1216) C dL_law_1216 ?_
  obtain ⟨ha301, h⟩ := gp_e h
  refine k_sld (pc := 1217) C hE hX hbl ha301 dL_law_1217 ?_
  refine k_aloadn (pc := 1218) C dL_law_1218 (i := 0) rfl 0 rfl ?_
  refine k_iloadn (pc := 1219) C dL_law_1219 (i := 3) rfl 3 rfl ?_
  refine k_iconst (pc := 1220) C (v := (3 : Int32)) dL_law_1220 (by decide) ?_
  refine k_iadd (pc := 1221) C dL_law_1221 ?_
  obtain ⟨ha302, h⟩ := gp_e h
  refine k_sld (pc := 1222) C hE hX hbl ha302 dL_law_1222 ?_
  obtain ⟨hs3030, h⟩ := gp_e h
  have hs303 := sok_e hs3030
  obtain ⟨r304, hr304, h⟩ := bd_e h
  refine k_V (pc := 1223) (st := [.int r299]) C (c_X12_item hr304) lkV_RL_184 hs303 rfl rfl rfl (Nat.le_of_ble_eq_true rfl) (Nat.le_of_ble_eq_true rfl) (Nat.le_of_ble_eq_true rfl) (by show ce + 0 ≤ 600000; omega) (by show sl + 0 ≤ 7302250; omega) dL_law_1223 ?_
  refine k_nf (cells2 := ce) (slots2 := sl) (st2 := [.int r304, .int r299]) rfl rfl rfl ?_
  refine k_icmp_eq (pc := 1226) C dL_law_1226 (tgt := 1508) (by decide) (fun hc305 => ?_) (fun hc305 => ?_)
  · rw [if_pos hc305] at h
    refine k_iinc (pc := 1508) C dL_law_1508 3 rfl (v := x3 + (5 : Int32)) (by rfl) (by decide) (L2 := [(0, .ref b), (1, .ref (E.1 + a1)), (2, .ref (E.1 + a2)), (3, .int (x3 + (5 : Int32)))]) rfl ?_
    refine k_goto (pc := 1511) C dL_law_1511 (tgt := 18) (by decide) ?_
    exact hko _ _ _ _ _ _ _ _ (by omega) (by omega) h
  · rw [if_neg hc305] at h
    refine k_iconst (pc := 1229) C (v := (0 : Int32)) dL_law_1229 (by decide) ?_
    exact absurd h (by decide)
def f_L_1231 (L : Nat) (xs : Nat → Int32) (ko : Sh → Rw → Iw → Nat → Nat → Int32 → Option Int32) (S : Sh) (R : Rw) (I : Iw) (a1 a2 : Nat) (x3 : Int32) : Option Int32 := gp (scok L (x3 + (1 : Int32))) (gp (scok L (x3 + (2 : Int32))) (gp (scok L (x3 + (3 : Int32))) (gp (sok S a1 11 12) (bd (f_X11_goes S R I a1 (xs (x3 + (1 : Int32)).toNatClampNeg) (xs (x3 + (2 : Int32)).toNatClampNeg) (xs (x3 + (3 : Int32)).toNatClampNeg)) (fun r310 => gp (scok L (x3 + (1 : Int32))) (gp (scok L (x3 + (2 : Int32))) (gp (scok L (x3 + (3 : Int32))) (gp (sok S a2 12 34) (bd (f_X12_goes S R r310.1 a2 (xs (x3 + (1 : Int32)).toNatClampNeg) (xs (x3 + (2 : Int32)).toNatClampNeg) (xs (x3 + (3 : Int32)).toNatClampNeg)) (fun r315 => (if r310.2 = r315.2 then ko S R r315.1 a1 a2 (x3 + (5 : Int32)) else some (0 : Int32))))))))))))
set_option maxHeartbeats 8000000 in
theorem b_L_1231 {E : Ev} {p : Program} {l : Launch} {e : Env} {s : State} {m : MethodId} {below : List Frame} {meth : Method} {c : Code} {b L : Nat} {xs : Nat → Int32} (C : Cx E RL code 4 p s m c) (hr : meth.sig.returnType = ret) (hk : meth.locks = false) (hE : E.2.2.2.2.1 = s) (hX : va_X b L xs s s.heap) (hbl : b < E.1) {ko : Sh → Rw → Iw → Nat → Nat → Int32 → Option Int32} {n : Nat} (hko : ∀ (S : Sh) (R : Rw) (I : Iw) (a1 a2 : Nat) (x3 : Int32) (ce sl : Nat), ce + 2 * n ≤ 600000 → sl + 35 * n ≤ 7302250 → ko S R I a1 a2 x3 = some 1 → Wk E 4 p l e room_1 s m #[Value.ref b] below meth c ce sl (lw_Z below #[Value.ref b] s) 18 [(0, .ref b), (1, .ref (E.1 + a1)), (2, .ref (E.1 + a2)), (3, .int x3)] [] S R I) (S : Sh) (R : Rw) (I : Iw) (a1 a2 : Nat) (x3 : Int32) (ce sl : Nat) (hce : ce + 2 * (n + 1) ≤ 600000) (hsl : sl + 35 * (n + 1) ≤ 7302250) (h : f_L_1231 L xs ko S R I a1 a2 x3 = some 1) : Wk E 4 p l e room_1 s m #[Value.ref b] below meth c ce sl (lw_Z below #[Value.ref b] s) 1231 [(0, .ref b), (1, .ref (E.1 + a1)), (2, .ref (E.1 + a2)), (3, .int x3)] [] S R I := by
  rw [f_L_1231] at h
  refine k_aloadn (pc := 1231) C dL_law_1231 (i := 1) rfl 1 rfl ?_
  refine k_aloadn (pc := 1232) C dL_law_1232 (i := 0) rfl 0 rfl ?_
  refine k_iloadn (pc := 1233) C dL_law_1233 (i := 3) rfl 3 rfl ?_
  refine k_iconst (pc := 1234) C (v := (1 : Int32)) dL_law_1234 (by decide) ?_
  refine k_iadd (pc := 1235) C dL_law_1235 ?_
  obtain ⟨ha306, h⟩ := gp_e h
  refine k_sld (pc := 1236) C hE hX hbl ha306 dL_law_1236 ?_
  refine k_aloadn (pc := 1237) C dL_law_1237 (i := 0) rfl 0 rfl ?_
  refine k_iloadn (pc := 1238) C dL_law_1238 (i := 3) rfl 3 rfl ?_
  refine k_iconst (pc := 1239) C (v := (2 : Int32)) dL_law_1239 (by decide) ?_
  refine k_iadd (pc := 1240) C dL_law_1240 ?_
  obtain ⟨ha307, h⟩ := gp_e h
  refine k_sld (pc := 1241) C hE hX hbl ha307 dL_law_1241 ?_
  refine k_aloadn (pc := 1242) C dL_law_1242 (i := 0) rfl 0 rfl ?_
  refine k_iloadn (pc := 1243) C dL_law_1243 (i := 3) rfl 3 rfl ?_
  refine k_iconst (pc := 1244) C (v := (3 : Int32)) dL_law_1244 (by decide) ?_
  refine k_iadd (pc := 1245) C dL_law_1245 ?_
  obtain ⟨ha308, h⟩ := gp_e h
  refine k_sld (pc := 1246) C hE hX hbl ha308 dL_law_1246 ?_
  obtain ⟨hs3090, h⟩ := gp_e h
  have hs309 := sok_e hs3090
  obtain ⟨r310, hr310, h⟩ := bd_e h
  refine k_V (pc := 1247) (st := []) C (c_X11_goes hr310) lkV_RL_185 hs309 rfl rfl rfl (Nat.le_of_ble_eq_true rfl) (Nat.le_of_ble_eq_true rfl) (Nat.le_of_ble_eq_true rfl) (by show ce + 0 ≤ 600000; omega) (by show sl + 0 ≤ 7302250; omega) dL_law_1247 ?_
  refine k_nf (cells2 := ce) (slots2 := sl) (st2 := [.int r310.2]) rfl rfl rfl ?_
  refine k_aloadn (pc := 1250) C dL_law_1250 (i := 2) rfl 2 rfl ?_
  refine k_aloadn (pc := 1251) C dL_law_1251 (i := 0) rfl 0 rfl ?_
  refine k_iloadn (pc := 1252) C dL_law_1252 (i := 3) rfl 3 rfl ?_
  refine k_iconst (pc := 1253) C (v := (1 : Int32)) dL_law_1253 (by decide) ?_
  refine k_iadd (pc := 1254) C dL_law_1254 ?_
  obtain ⟨ha311, h⟩ := gp_e h
  refine k_sld (pc := 1255) C hE hX hbl ha311 dL_law_1255 ?_
  refine k_aloadn (pc := 1256) C dL_law_1256 (i := 0) rfl 0 rfl ?_
  refine k_iloadn (pc := 1257) C dL_law_1257 (i := 3) rfl 3 rfl ?_
  refine k_iconst (pc := 1258) C (v := (2 : Int32)) dL_law_1258 (by decide) ?_
  refine k_iadd (pc := 1259) C dL_law_1259 ?_
  obtain ⟨ha312, h⟩ := gp_e h
  refine k_sld (pc := 1260) C hE hX hbl ha312 dL_law_1260 ?_
  refine k_aloadn (pc := 1261) C dL_law_1261 (i := 0) rfl 0 rfl ?_
  refine k_iloadn (pc := 1262) C dL_law_1262 (i := 3) rfl 3 rfl ?_
  refine k_iconst (pc := 1263) C (v := (3 : Int32)) dL_law_1263 (by decide) ?_
  refine k_iadd (pc := 1264) C dL_law_1264 ?_
  obtain ⟨ha313, h⟩ := gp_e h
  refine k_sld (pc := 1265) C hE hX hbl ha313 dL_law_1265 ?_
  obtain ⟨hs3140, h⟩ := gp_e h
  have hs314 := sok_e hs3140
  obtain ⟨r315, hr315, h⟩ := bd_e h
  refine k_V (pc := 1266) (st := [.int r310.2]) C (c_X12_goes hr315) lkV_RL_188 hs314 rfl rfl rfl (Nat.le_of_ble_eq_true rfl) (Nat.le_of_ble_eq_true rfl) (Nat.le_of_ble_eq_true rfl) (by show ce + 0 ≤ 600000; omega) (by show sl + 0 ≤ 7302250; omega) dL_law_1266 ?_
  refine k_nf (cells2 := ce) (slots2 := sl) (st2 := [.int r315.2, .int r310.2]) rfl rfl rfl ?_
  refine k_icmp_eq (pc := 1269) C dL_law_1269 (tgt := 1508) (by decide) (fun hc316 => ?_) (fun hc316 => ?_)
  · rw [if_pos hc316] at h
    refine k_iinc (pc := 1508) C dL_law_1508 3 rfl (v := x3 + (5 : Int32)) (by rfl) (by decide) (L2 := [(0, .ref b), (1, .ref (E.1 + a1)), (2, .ref (E.1 + a2)), (3, .int (x3 + (5 : Int32)))]) rfl ?_
    refine k_goto (pc := 1511) C dL_law_1511 (tgt := 18) (by decide) ?_
    exact hko _ _ _ _ _ _ _ _ (by omega) (by omega) h
  · rw [if_neg hc316] at h
    refine k_iconst (pc := 1272) C (v := (0 : Int32)) dL_law_1272 (by decide) ?_
    exact absurd h (by decide)
def f_L_1274 (L : Nat) (xs : Nat → Int32) (ko : Sh → Rw → Iw → Nat → Nat → Int32 → Option Int32) (S : Sh) (R : Rw) (I : Iw) (a1 a2 : Nat) (x3 : Int32) : Option Int32 := gp (scok L (x3 + (1 : Int32))) (gp (scok L (x3 + (2 : Int32))) (gp (scok L (x3 + (3 : Int32))) (gp (sok S a1 11 12) (bd (f_X11_goats S R I a1 (xs (x3 + (1 : Int32)).toNatClampNeg) (xs (x3 + (2 : Int32)).toNatClampNeg) (xs (x3 + (3 : Int32)).toNatClampNeg)) (fun r321 => gp (scok L (x3 + (1 : Int32))) (gp (scok L (x3 + (2 : Int32))) (gp (scok L (x3 + (3 : Int32))) (gp (sok S a2 12 34) (bd (f_X12_goats S R I a2 (xs (x3 + (1 : Int32)).toNatClampNeg) (xs (x3 + (2 : Int32)).toNatClampNeg) (xs (x3 + (3 : Int32)).toNatClampNeg)) (fun r326 => (if r321 = r326.2 then ko S R r326.1 a1 a2 (x3 + (5 : Int32)) else some (0 : Int32))))))))))))
set_option maxHeartbeats 8000000 in
theorem b_L_1274 {E : Ev} {p : Program} {l : Launch} {e : Env} {s : State} {m : MethodId} {below : List Frame} {meth : Method} {c : Code} {b L : Nat} {xs : Nat → Int32} (C : Cx E RL code 4 p s m c) (hr : meth.sig.returnType = ret) (hk : meth.locks = false) (hE : E.2.2.2.2.1 = s) (hX : va_X b L xs s s.heap) (hbl : b < E.1) {ko : Sh → Rw → Iw → Nat → Nat → Int32 → Option Int32} {n : Nat} (hko : ∀ (S : Sh) (R : Rw) (I : Iw) (a1 a2 : Nat) (x3 : Int32) (ce sl : Nat), ce + 2 * n ≤ 600000 → sl + 35 * n ≤ 7302250 → ko S R I a1 a2 x3 = some 1 → Wk E 4 p l e room_1 s m #[Value.ref b] below meth c ce sl (lw_Z below #[Value.ref b] s) 18 [(0, .ref b), (1, .ref (E.1 + a1)), (2, .ref (E.1 + a2)), (3, .int x3)] [] S R I) (S : Sh) (R : Rw) (I : Iw) (a1 a2 : Nat) (x3 : Int32) (ce sl : Nat) (hce : ce + 2 * (n + 1) ≤ 600000) (hsl : sl + 35 * (n + 1) ≤ 7302250) (h : f_L_1274 L xs ko S R I a1 a2 x3 = some 1) : Wk E 4 p l e room_1 s m #[Value.ref b] below meth c ce sl (lw_Z below #[Value.ref b] s) 1274 [(0, .ref b), (1, .ref (E.1 + a1)), (2, .ref (E.1 + a2)), (3, .int x3)] [] S R I := by
  rw [f_L_1274] at h
  refine k_aloadn (pc := 1274) C dL_law_1274 (i := 1) rfl 1 rfl ?_
  refine k_aloadn (pc := 1275) C dL_law_1275 (i := 0) rfl 0 rfl ?_
  refine k_iloadn (pc := 1276) C dL_law_1276 (i := 3) rfl 3 rfl ?_
  refine k_iconst (pc := 1277) C (v := (1 : Int32)) dL_law_1277 (by decide) ?_
  refine k_iadd (pc := 1278) C dL_law_1278 ?_
  obtain ⟨ha317, h⟩ := gp_e h
  refine k_sld (pc := 1279) C hE hX hbl ha317 dL_law_1279 ?_
  refine k_aloadn (pc := 1280) C dL_law_1280 (i := 0) rfl 0 rfl ?_
  refine k_iloadn (pc := 1281) C dL_law_1281 (i := 3) rfl 3 rfl ?_
  refine k_iconst (pc := 1282) C (v := (2 : Int32)) dL_law_1282 (by decide) ?_
  refine k_iadd (pc := 1283) C dL_law_1283 ?_
  obtain ⟨ha318, h⟩ := gp_e h
  refine k_sld (pc := 1284) C hE hX hbl ha318 dL_law_1284 ?_
  refine k_aloadn (pc := 1285) C dL_law_1285 (i := 0) rfl 0 rfl ?_
  refine k_iloadn (pc := 1286) C dL_law_1286 (i := 3) rfl 3 rfl ?_
  refine k_iconst (pc := 1287) C (v := (3 : Int32)) dL_law_1287 (by decide) ?_
  refine k_iadd (pc := 1288) C dL_law_1288 ?_
  obtain ⟨ha319, h⟩ := gp_e h
  refine k_sld (pc := 1289) C hE hX hbl ha319 dL_law_1289 ?_
  obtain ⟨hs3200, h⟩ := gp_e h
  have hs320 := sok_e hs3200
  obtain ⟨r321, hr321, h⟩ := bd_e h
  refine k_V (pc := 1290) (st := []) C (c_X11_goats hr321) lkV_RL_189 hs320 rfl rfl rfl (Nat.le_of_ble_eq_true rfl) (Nat.le_of_ble_eq_true rfl) (Nat.le_of_ble_eq_true rfl) (by show ce + 0 ≤ 600000; omega) (by show sl + 0 ≤ 7302250; omega) dL_law_1290 ?_
  refine k_nf (cells2 := ce) (slots2 := sl) (st2 := [.int r321]) rfl rfl rfl ?_
  refine k_aloadn (pc := 1293) C dL_law_1293 (i := 2) rfl 2 rfl ?_
  refine k_aloadn (pc := 1294) C dL_law_1294 (i := 0) rfl 0 rfl ?_
  refine k_iloadn (pc := 1295) C dL_law_1295 (i := 3) rfl 3 rfl ?_
  refine k_iconst (pc := 1296) C (v := (1 : Int32)) dL_law_1296 (by decide) ?_
  refine k_iadd (pc := 1297) C dL_law_1297 ?_
  obtain ⟨ha322, h⟩ := gp_e h
  refine k_sld (pc := 1298) C hE hX hbl ha322 dL_law_1298 ?_
  refine k_aloadn (pc := 1299) C dL_law_1299 (i := 0) rfl 0 rfl ?_
  refine k_iloadn (pc := 1300) C dL_law_1300 (i := 3) rfl 3 rfl ?_
  refine k_iconst (pc := 1301) C (v := (2 : Int32)) dL_law_1301 (by decide) ?_
  refine k_iadd (pc := 1302) C dL_law_1302 ?_
  obtain ⟨ha323, h⟩ := gp_e h
  refine k_sld (pc := 1303) C hE hX hbl ha323 dL_law_1303 ?_
  refine k_aloadn (pc := 1304) C dL_law_1304 (i := 0) rfl 0 rfl ?_
  refine k_iloadn (pc := 1305) C dL_law_1305 (i := 3) rfl 3 rfl ?_
  refine k_iconst (pc := 1306) C (v := (3 : Int32)) dL_law_1306 (by decide) ?_
  refine k_iadd (pc := 1307) C dL_law_1307 ?_
  obtain ⟨ha324, h⟩ := gp_e h
  refine k_sld (pc := 1308) C hE hX hbl ha324 dL_law_1308 ?_
  obtain ⟨hs3250, h⟩ := gp_e h
  have hs325 := sok_e hs3250
  obtain ⟨r326, hr326, h⟩ := bd_e h
  refine k_V (pc := 1309) (st := [.int r321]) C (c_X12_goats hr326) lkV_RL_192 hs325 rfl rfl rfl (Nat.le_of_ble_eq_true rfl) (Nat.le_of_ble_eq_true rfl) (Nat.le_of_ble_eq_true rfl) (by show ce + 0 ≤ 600000; omega) (by show sl + 0 ≤ 7302250; omega) dL_law_1309 ?_
  refine k_nf (cells2 := ce) (slots2 := sl) (st2 := [.int r326.2, .int r321]) rfl rfl rfl ?_
  refine k_icmp_eq (pc := 1312) C dL_law_1312 (tgt := 1508) (by decide) (fun hc327 => ?_) (fun hc327 => ?_)
  · rw [if_pos hc327] at h
    refine k_iinc (pc := 1508) C dL_law_1508 3 rfl (v := x3 + (5 : Int32)) (by rfl) (by decide) (L2 := [(0, .ref b), (1, .ref (E.1 + a1)), (2, .ref (E.1 + a2)), (3, .int (x3 + (5 : Int32)))]) rfl ?_
    refine k_goto (pc := 1511) C dL_law_1511 (tgt := 18) (by decide) ?_
    exact hko _ _ _ _ _ _ _ _ (by omega) (by omega) h
  · rw [if_neg hc327] at h
    refine k_iconst (pc := 1315) C (v := (0 : Int32)) dL_law_1315 (by decide) ?_
    exact absurd h (by decide)
def f_L_1317 (L : Nat) (xs : Nat → Int32) (ko : Sh → Rw → Iw → Nat → Nat → Int32 → Option Int32) (S : Sh) (R : Rw) (I : Iw) (a1 a2 : Nat) (x3 : Int32) : Option Int32 := gp (scok L (x3 + (1 : Int32))) (gp (scok L (x3 + (2 : Int32))) (gp (scok L (x3 + (3 : Int32))) (gp (sok S a1 11 12) (bd (f_X11_shelf S R I a1 (xs (x3 + (1 : Int32)).toNatClampNeg) (xs (x3 + (2 : Int32)).toNatClampNeg) (xs (x3 + (3 : Int32)).toNatClampNeg)) (fun r332 => gp (scok L (x3 + (1 : Int32))) (gp (scok L (x3 + (2 : Int32))) (gp (scok L (x3 + (3 : Int32))) (gp (sok S a2 12 34) (bd (f_X12_shelf S R r332.1 a2 (xs (x3 + (1 : Int32)).toNatClampNeg) (xs (x3 + (2 : Int32)).toNatClampNeg) (xs (x3 + (3 : Int32)).toNatClampNeg)) (fun r337 => (if r332.2 = r337.2 then ko S R r337.1 a1 a2 (x3 + (5 : Int32)) else some (0 : Int32))))))))))))
set_option maxHeartbeats 8000000 in
theorem b_L_1317 {E : Ev} {p : Program} {l : Launch} {e : Env} {s : State} {m : MethodId} {below : List Frame} {meth : Method} {c : Code} {b L : Nat} {xs : Nat → Int32} (C : Cx E RL code 4 p s m c) (hr : meth.sig.returnType = ret) (hk : meth.locks = false) (hE : E.2.2.2.2.1 = s) (hX : va_X b L xs s s.heap) (hbl : b < E.1) {ko : Sh → Rw → Iw → Nat → Nat → Int32 → Option Int32} {n : Nat} (hko : ∀ (S : Sh) (R : Rw) (I : Iw) (a1 a2 : Nat) (x3 : Int32) (ce sl : Nat), ce + 2 * n ≤ 600000 → sl + 35 * n ≤ 7302250 → ko S R I a1 a2 x3 = some 1 → Wk E 4 p l e room_1 s m #[Value.ref b] below meth c ce sl (lw_Z below #[Value.ref b] s) 18 [(0, .ref b), (1, .ref (E.1 + a1)), (2, .ref (E.1 + a2)), (3, .int x3)] [] S R I) (S : Sh) (R : Rw) (I : Iw) (a1 a2 : Nat) (x3 : Int32) (ce sl : Nat) (hce : ce + 2 * (n + 1) ≤ 600000) (hsl : sl + 35 * (n + 1) ≤ 7302250) (h : f_L_1317 L xs ko S R I a1 a2 x3 = some 1) : Wk E 4 p l e room_1 s m #[Value.ref b] below meth c ce sl (lw_Z below #[Value.ref b] s) 1317 [(0, .ref b), (1, .ref (E.1 + a1)), (2, .ref (E.1 + a2)), (3, .int x3)] [] S R I := by
  rw [f_L_1317] at h
  refine k_aloadn (pc := 1317) C dL_law_1317 (i := 1) rfl 1 rfl ?_
  refine k_aloadn (pc := 1318) C dL_law_1318 (i := 0) rfl 0 rfl ?_
  refine k_iloadn (pc := 1319) C dL_law_1319 (i := 3) rfl 3 rfl ?_
  refine k_iconst (pc := 1320) C (v := (1 : Int32)) dL_law_1320 (by decide) ?_
  refine k_iadd (pc := 1321) C dL_law_1321 ?_
  obtain ⟨ha328, h⟩ := gp_e h
  refine k_sld (pc := 1322) C hE hX hbl ha328 dL_law_1322 ?_
  refine k_aloadn (pc := 1323) C dL_law_1323 (i := 0) rfl 0 rfl ?_
  refine k_iloadn (pc := 1324) C dL_law_1324 (i := 3) rfl 3 rfl ?_
  refine k_iconst (pc := 1325) C (v := (2 : Int32)) dL_law_1325 (by decide) ?_
  refine k_iadd (pc := 1326) C dL_law_1326 ?_
  obtain ⟨ha329, h⟩ := gp_e h
  refine k_sld (pc := 1327) C hE hX hbl ha329 dL_law_1327 ?_
  refine k_aloadn (pc := 1328) C dL_law_1328 (i := 0) rfl 0 rfl ?_
  refine k_iloadn (pc := 1329) C dL_law_1329 (i := 3) rfl 3 rfl ?_
  refine k_iconst (pc := 1330) C (v := (3 : Int32)) dL_law_1330 (by decide) ?_
  refine k_iadd (pc := 1331) C dL_law_1331 ?_
  obtain ⟨ha330, h⟩ := gp_e h
  refine k_sld (pc := 1332) C hE hX hbl ha330 dL_law_1332 ?_
  obtain ⟨hs3310, h⟩ := gp_e h
  have hs331 := sok_e hs3310
  obtain ⟨r332, hr332, h⟩ := bd_e h
  refine k_V (pc := 1333) (st := []) C (c_X11_shelf hr332) lkV_RL_193 hs331 rfl rfl rfl (Nat.le_of_ble_eq_true rfl) (Nat.le_of_ble_eq_true rfl) (Nat.le_of_ble_eq_true rfl) (by show ce + 0 ≤ 600000; omega) (by show sl + 0 ≤ 7302250; omega) dL_law_1333 ?_
  refine k_nf (cells2 := ce) (slots2 := sl) (st2 := [.int r332.2]) rfl rfl rfl ?_
  refine k_aloadn (pc := 1336) C dL_law_1336 (i := 2) rfl 2 rfl ?_
  refine k_aloadn (pc := 1337) C dL_law_1337 (i := 0) rfl 0 rfl ?_
  refine k_iloadn (pc := 1338) C dL_law_1338 (i := 3) rfl 3 rfl ?_
  refine k_iconst (pc := 1339) C (v := (1 : Int32)) dL_law_1339 (by decide) ?_
  refine k_iadd (pc := 1340) C dL_law_1340 ?_
  obtain ⟨ha333, h⟩ := gp_e h
  refine k_sld (pc := 1341) C hE hX hbl ha333 dL_law_1341 ?_
  refine k_aloadn (pc := 1342) C dL_law_1342 (i := 0) rfl 0 rfl ?_
  refine k_iloadn (pc := 1343) C dL_law_1343 (i := 3) rfl 3 rfl ?_
  refine k_iconst (pc := 1344) C (v := (2 : Int32)) dL_law_1344 (by decide) ?_
  refine k_iadd (pc := 1345) C dL_law_1345 ?_
  obtain ⟨ha334, h⟩ := gp_e h
  refine k_sld (pc := 1346) C hE hX hbl ha334 dL_law_1346 ?_
  refine k_aloadn (pc := 1347) C dL_law_1347 (i := 0) rfl 0 rfl ?_
  refine k_iloadn (pc := 1348) C dL_law_1348 (i := 3) rfl 3 rfl ?_
  refine k_iconst (pc := 1349) C (v := (3 : Int32)) dL_law_1349 (by decide) ?_
  refine k_iadd (pc := 1350) C dL_law_1350 ?_
  obtain ⟨ha335, h⟩ := gp_e h
  refine k_sld (pc := 1351) C hE hX hbl ha335 dL_law_1351 ?_
  obtain ⟨hs3360, h⟩ := gp_e h
  have hs336 := sok_e hs3360
  obtain ⟨r337, hr337, h⟩ := bd_e h
  refine k_V (pc := 1352) (st := [.int r332.2]) C (c_X12_shelf hr337) lkV_RL_196 hs336 rfl rfl rfl (Nat.le_of_ble_eq_true rfl) (Nat.le_of_ble_eq_true rfl) (Nat.le_of_ble_eq_true rfl) (by show ce + 0 ≤ 600000; omega) (by show sl + 0 ≤ 7302250; omega) dL_law_1352 ?_
  refine k_nf (cells2 := ce) (slots2 := sl) (st2 := [.int r337.2, .int r332.2]) rfl rfl rfl ?_
  refine k_icmp_eq (pc := 1355) C dL_law_1355 (tgt := 1508) (by decide) (fun hc338 => ?_) (fun hc338 => ?_)
  · rw [if_pos hc338] at h
    refine k_iinc (pc := 1508) C dL_law_1508 3 rfl (v := x3 + (5 : Int32)) (by rfl) (by decide) (L2 := [(0, .ref b), (1, .ref (E.1 + a1)), (2, .ref (E.1 + a2)), (3, .int (x3 + (5 : Int32)))]) rfl ?_
    refine k_goto (pc := 1511) C dL_law_1511 (tgt := 18) (by decide) ?_
    exact hko _ _ _ _ _ _ _ _ (by omega) (by omega) h
  · rw [if_neg hc338] at h
    refine k_iconst (pc := 1358) C (v := (0 : Int32)) dL_law_1358 (by decide) ?_
    exact absurd h (by decide)
def f_L_1360 (L : Nat) (xs : Nat → Int32) (ko : Sh → Rw → Iw → Nat → Nat → Int32 → Option Int32) (S : Sh) (R : Rw) (I : Iw) (a1 a2 : Nat) (x3 : Int32) : Option Int32 := gp (scok L (x3 + (1 : Int32))) (gp (scok L (x3 + (2 : Int32))) (gp (sok S a1 11 12) (bd (f_X11_taken S R I a1 (xs (x3 + (1 : Int32)).toNatClampNeg) (xs (x3 + (2 : Int32)).toNatClampNeg)) (fun r342 => gp (scok L (x3 + (1 : Int32))) (gp (scok L (x3 + (2 : Int32))) (gp (sok S a2 12 34) (bd (f_X12_taken S R I a2 (xs (x3 + (1 : Int32)).toNatClampNeg) (xs (x3 + (2 : Int32)).toNatClampNeg)) (fun r346 => (if r342 = r346 then ko S R I a1 a2 (x3 + (5 : Int32)) else some (0 : Int32))))))))))
set_option maxHeartbeats 8000000 in
theorem b_L_1360 {E : Ev} {p : Program} {l : Launch} {e : Env} {s : State} {m : MethodId} {below : List Frame} {meth : Method} {c : Code} {b L : Nat} {xs : Nat → Int32} (C : Cx E RL code 4 p s m c) (hr : meth.sig.returnType = ret) (hk : meth.locks = false) (hE : E.2.2.2.2.1 = s) (hX : va_X b L xs s s.heap) (hbl : b < E.1) {ko : Sh → Rw → Iw → Nat → Nat → Int32 → Option Int32} {n : Nat} (hko : ∀ (S : Sh) (R : Rw) (I : Iw) (a1 a2 : Nat) (x3 : Int32) (ce sl : Nat), ce + 2 * n ≤ 600000 → sl + 35 * n ≤ 7302250 → ko S R I a1 a2 x3 = some 1 → Wk E 4 p l e room_1 s m #[Value.ref b] below meth c ce sl (lw_Z below #[Value.ref b] s) 18 [(0, .ref b), (1, .ref (E.1 + a1)), (2, .ref (E.1 + a2)), (3, .int x3)] [] S R I) (S : Sh) (R : Rw) (I : Iw) (a1 a2 : Nat) (x3 : Int32) (ce sl : Nat) (hce : ce + 2 * (n + 1) ≤ 600000) (hsl : sl + 35 * (n + 1) ≤ 7302250) (h : f_L_1360 L xs ko S R I a1 a2 x3 = some 1) : Wk E 4 p l e room_1 s m #[Value.ref b] below meth c ce sl (lw_Z below #[Value.ref b] s) 1360 [(0, .ref b), (1, .ref (E.1 + a1)), (2, .ref (E.1 + a2)), (3, .int x3)] [] S R I := by
  rw [f_L_1360] at h
  refine k_aloadn (pc := 1360) C dL_law_1360 (i := 1) rfl 1 rfl ?_
  refine k_aloadn (pc := 1361) C dL_law_1361 (i := 0) rfl 0 rfl ?_
  refine k_iloadn (pc := 1362) C dL_law_1362 (i := 3) rfl 3 rfl ?_
  refine k_iconst (pc := 1363) C (v := (1 : Int32)) dL_law_1363 (by decide) ?_
  refine k_iadd (pc := 1364) C dL_law_1364 ?_
  obtain ⟨ha339, h⟩ := gp_e h
  refine k_sld (pc := 1365) C hE hX hbl ha339 dL_law_1365 ?_
  refine k_aloadn (pc := 1366) C dL_law_1366 (i := 0) rfl 0 rfl ?_
  refine k_iloadn (pc := 1367) C dL_law_1367 (i := 3) rfl 3 rfl ?_
  refine k_iconst (pc := 1368) C (v := (2 : Int32)) dL_law_1368 (by decide) ?_
  refine k_iadd (pc := 1369) C dL_law_1369 ?_
  obtain ⟨ha340, h⟩ := gp_e h
  refine k_sld (pc := 1370) C hE hX hbl ha340 dL_law_1370 ?_
  obtain ⟨hs3410, h⟩ := gp_e h
  have hs341 := sok_e hs3410
  obtain ⟨r342, hr342, h⟩ := bd_e h
  refine k_V (pc := 1371) (st := []) C (c_X11_taken hr342) lkV_RL_197 hs341 rfl rfl rfl (Nat.le_of_ble_eq_true rfl) (Nat.le_of_ble_eq_true rfl) (Nat.le_of_ble_eq_true rfl) (by show ce + 0 ≤ 600000; omega) (by show sl + 0 ≤ 7302250; omega) dL_law_1371 ?_
  refine k_nf (cells2 := ce) (slots2 := sl) (st2 := [.int r342]) rfl rfl rfl ?_
  refine k_aloadn (pc := 1374) C dL_law_1374 (i := 2) rfl 2 rfl ?_
  refine k_aloadn (pc := 1375) C dL_law_1375 (i := 0) rfl 0 rfl ?_
  refine k_iloadn (pc := 1376) C dL_law_1376 (i := 3) rfl 3 rfl ?_
  refine k_iconst (pc := 1377) C (v := (1 : Int32)) dL_law_1377 (by decide) ?_
  refine k_iadd (pc := 1378) C dL_law_1378 ?_
  obtain ⟨ha343, h⟩ := gp_e h
  refine k_sld (pc := 1379) C hE hX hbl ha343 dL_law_1379 ?_
  refine k_aloadn (pc := 1380) C dL_law_1380 (i := 0) rfl 0 rfl ?_
  refine k_iloadn (pc := 1381) C dL_law_1381 (i := 3) rfl 3 rfl ?_
  refine k_iconst (pc := 1382) C (v := (2 : Int32)) dL_law_1382 (by decide) ?_
  refine k_iadd (pc := 1383) C dL_law_1383 ?_
  obtain ⟨ha344, h⟩ := gp_e h
  refine k_sld (pc := 1384) C hE hX hbl ha344 dL_law_1384 ?_
  obtain ⟨hs3450, h⟩ := gp_e h
  have hs345 := sok_e hs3450
  obtain ⟨r346, hr346, h⟩ := bd_e h
  refine k_V (pc := 1385) (st := [.int r342]) C (c_X12_taken hr346) lkV_RL_200 hs345 rfl rfl rfl (Nat.le_of_ble_eq_true rfl) (Nat.le_of_ble_eq_true rfl) (Nat.le_of_ble_eq_true rfl) (by show ce + 0 ≤ 600000; omega) (by show sl + 0 ≤ 7302250; omega) dL_law_1385 ?_
  refine k_nf (cells2 := ce) (slots2 := sl) (st2 := [.int r346, .int r342]) rfl rfl rfl ?_
  refine k_icmp_eq (pc := 1388) C dL_law_1388 (tgt := 1508) (by decide) (fun hc347 => ?_) (fun hc347 => ?_)
  · rw [if_pos hc347] at h
    refine k_iinc (pc := 1508) C dL_law_1508 3 rfl (v := x3 + (5 : Int32)) (by rfl) (by decide) (L2 := [(0, .ref b), (1, .ref (E.1 + a1)), (2, .ref (E.1 + a2)), (3, .int (x3 + (5 : Int32)))]) rfl ?_
    refine k_goto (pc := 1511) C dL_law_1511 (tgt := 18) (by decide) ?_
    exact hko _ _ _ _ _ _ _ _ (by omega) (by omega) h
  · rw [if_neg hc347] at h
    refine k_iconst (pc := 1391) C (v := (0 : Int32)) dL_law_1391 (by decide) ?_
    exact absurd h (by decide)
def f_L_1393 (L : Nat) (xs : Nat → Int32) (ko : Sh → Rw → Iw → Nat → Nat → Int32 → Option Int32) (S : Sh) (R : Rw) (I : Iw) (a1 a2 : Nat) (x3 : Int32) : Option Int32 := gp (scok L (x3 + (1 : Int32))) (gp (scok L (x3 + (2 : Int32))) (gp (scok L (x3 + (3 : Int32))) (gp (sok S a1 11 12) (bd (f_X11_act S R I a1 (xs (x3 + (1 : Int32)).toNatClampNeg) (xs (x3 + (2 : Int32)).toNatClampNeg) (xs (x3 + (3 : Int32)).toNatClampNeg)) (fun r352 => gp (scok L (x3 + (1 : Int32))) (gp (scok L (x3 + (2 : Int32))) (gp (scok L (x3 + (3 : Int32))) (gp (sok r352.1.1 a2 12 34) (bd (f_X12_act r352.1.1 r352.1.2.1 r352.1.2.2 a2 (xs (x3 + (1 : Int32)).toNatClampNeg) (xs (x3 + (2 : Int32)).toNatClampNeg) (xs (x3 + (3 : Int32)).toNatClampNeg)) (fun r357 => (if r352.2 = r357.2 then ko r352.1.1 r352.1.2.1 r357.1 a1 a2 (x3 + (5 : Int32)) else some (0 : Int32))))))))))))
set_option maxHeartbeats 8000000 in
theorem b_L_1393 {E : Ev} {p : Program} {l : Launch} {e : Env} {s : State} {m : MethodId} {below : List Frame} {meth : Method} {c : Code} {b L : Nat} {xs : Nat → Int32} (C : Cx E RL code 4 p s m c) (hr : meth.sig.returnType = ret) (hk : meth.locks = false) (hE : E.2.2.2.2.1 = s) (hX : va_X b L xs s s.heap) (hbl : b < E.1) {ko : Sh → Rw → Iw → Nat → Nat → Int32 → Option Int32} {n : Nat} (hko : ∀ (S : Sh) (R : Rw) (I : Iw) (a1 a2 : Nat) (x3 : Int32) (ce sl : Nat), ce + 2 * n ≤ 600000 → sl + 35 * n ≤ 7302250 → ko S R I a1 a2 x3 = some 1 → Wk E 4 p l e room_1 s m #[Value.ref b] below meth c ce sl (lw_Z below #[Value.ref b] s) 18 [(0, .ref b), (1, .ref (E.1 + a1)), (2, .ref (E.1 + a2)), (3, .int x3)] [] S R I) (S : Sh) (R : Rw) (I : Iw) (a1 a2 : Nat) (x3 : Int32) (ce sl : Nat) (hce : ce + 2 * (n + 1) ≤ 600000) (hsl : sl + 35 * (n + 1) ≤ 7302250) (h : f_L_1393 L xs ko S R I a1 a2 x3 = some 1) : Wk E 4 p l e room_1 s m #[Value.ref b] below meth c ce sl (lw_Z below #[Value.ref b] s) 1393 [(0, .ref b), (1, .ref (E.1 + a1)), (2, .ref (E.1 + a2)), (3, .int x3)] [] S R I := by
  rw [f_L_1393] at h
  refine k_aloadn (pc := 1393) C dL_law_1393 (i := 1) rfl 1 rfl ?_
  refine k_aloadn (pc := 1394) C dL_law_1394 (i := 0) rfl 0 rfl ?_
  refine k_iloadn (pc := 1395) C dL_law_1395 (i := 3) rfl 3 rfl ?_
  refine k_iconst (pc := 1396) C (v := (1 : Int32)) dL_law_1396 (by decide) ?_
  refine k_iadd (pc := 1397) C dL_law_1397 ?_
  obtain ⟨ha348, h⟩ := gp_e h
  refine k_sld (pc := 1398) C hE hX hbl ha348 dL_law_1398 ?_
  refine k_aloadn (pc := 1399) C dL_law_1399 (i := 0) rfl 0 rfl ?_
  refine k_iloadn (pc := 1400) C dL_law_1400 (i := 3) rfl 3 rfl ?_
  refine k_iconst (pc := 1401) C (v := (2 : Int32)) dL_law_1401 (by decide) ?_
  refine k_iadd (pc := 1402) C dL_law_1402 ?_
  obtain ⟨ha349, h⟩ := gp_e h
  refine k_sld (pc := 1403) C hE hX hbl ha349 dL_law_1403 ?_
  refine k_aloadn (pc := 1404) C dL_law_1404 (i := 0) rfl 0 rfl ?_
  refine k_iloadn (pc := 1405) C dL_law_1405 (i := 3) rfl 3 rfl ?_
  refine k_iconst (pc := 1406) C (v := (3 : Int32)) dL_law_1406 (by decide) ?_
  refine k_iadd (pc := 1407) C dL_law_1407 ?_
  obtain ⟨ha350, h⟩ := gp_e h
  refine k_sld (pc := 1408) C hE hX hbl ha350 dL_law_1408 ?_
  obtain ⟨hs3510, h⟩ := gp_e h
  have hs351 := sok_e hs3510
  obtain ⟨r352, hr352, h⟩ := bd_e h
  refine k_V (pc := 1409) (st := []) C (c_X11_act hr352) lkV_RL_201 hs351 rfl rfl rfl (Nat.le_of_ble_eq_true rfl) (Nat.le_of_ble_eq_true rfl) (Nat.le_of_ble_eq_true rfl) (by show ce + 2 ≤ 600000; omega) (by show sl + 35 ≤ 7302250; omega) dL_law_1409 ?_
  refine k_nf (cells2 := (ce + 2)) (slots2 := (sl + 35)) (st2 := [.int r352.2]) rfl rfl rfl ?_
  refine k_aloadn (pc := 1412) C dL_law_1412 (i := 2) rfl 2 rfl ?_
  refine k_aloadn (pc := 1413) C dL_law_1413 (i := 0) rfl 0 rfl ?_
  refine k_iloadn (pc := 1414) C dL_law_1414 (i := 3) rfl 3 rfl ?_
  refine k_iconst (pc := 1415) C (v := (1 : Int32)) dL_law_1415 (by decide) ?_
  refine k_iadd (pc := 1416) C dL_law_1416 ?_
  obtain ⟨ha353, h⟩ := gp_e h
  refine k_sld (pc := 1417) C hE hX hbl ha353 dL_law_1417 ?_
  refine k_aloadn (pc := 1418) C dL_law_1418 (i := 0) rfl 0 rfl ?_
  refine k_iloadn (pc := 1419) C dL_law_1419 (i := 3) rfl 3 rfl ?_
  refine k_iconst (pc := 1420) C (v := (2 : Int32)) dL_law_1420 (by decide) ?_
  refine k_iadd (pc := 1421) C dL_law_1421 ?_
  obtain ⟨ha354, h⟩ := gp_e h
  refine k_sld (pc := 1422) C hE hX hbl ha354 dL_law_1422 ?_
  refine k_aloadn (pc := 1423) C dL_law_1423 (i := 0) rfl 0 rfl ?_
  refine k_iloadn (pc := 1424) C dL_law_1424 (i := 3) rfl 3 rfl ?_
  refine k_iconst (pc := 1425) C (v := (3 : Int32)) dL_law_1425 (by decide) ?_
  refine k_iadd (pc := 1426) C dL_law_1426 ?_
  obtain ⟨ha355, h⟩ := gp_e h
  refine k_sld (pc := 1427) C hE hX hbl ha355 dL_law_1427 ?_
  obtain ⟨hs3560, h⟩ := gp_e h
  have hs356 := sok_e hs3560
  obtain ⟨r357, hr357, h⟩ := bd_e h
  refine k_V (pc := 1428) (st := [.int r352.2]) C (c_X12_act hr357) lkV_RL_204 hs356 rfl rfl rfl (Nat.le_of_ble_eq_true rfl) (Nat.le_of_ble_eq_true rfl) (Nat.le_of_ble_eq_true rfl) (by show (ce + 2) + 0 ≤ 600000; omega) (by show (sl + 35) + 0 ≤ 7302250; omega) dL_law_1428 ?_
  refine k_nf (cells2 := (ce + 2)) (slots2 := (sl + 35)) (st2 := [.int r357.2, .int r352.2]) rfl rfl rfl ?_
  refine k_icmp_eq (pc := 1431) C dL_law_1431 (tgt := 1508) (by decide) (fun hc358 => ?_) (fun hc358 => ?_)
  · rw [if_pos hc358] at h
    refine k_iinc (pc := 1508) C dL_law_1508 3 rfl (v := x3 + (5 : Int32)) (by rfl) (by decide) (L2 := [(0, .ref b), (1, .ref (E.1 + a1)), (2, .ref (E.1 + a2)), (3, .int (x3 + (5 : Int32)))]) rfl ?_
    refine k_goto (pc := 1511) C dL_law_1511 (tgt := 18) (by decide) ?_
    exact hko _ _ _ _ _ _ _ _ (by omega) (by omega) h
  · rw [if_neg hc358] at h
    refine k_iconst (pc := 1434) C (v := (0 : Int32)) dL_law_1434 (by decide) ?_
    exact absurd h (by decide)
def f_L_1436 (L : Nat) (xs : Nat → Int32) (ko : Sh → Rw → Iw → Nat → Nat → Int32 → Option Int32) (S : Sh) (R : Rw) (I : Iw) (a1 a2 : Nat) (x3 : Int32) : Option Int32 := gp (scok L (x3 + (1 : Int32))) (gp (sok S a1 11 12) (bd (f_X11_trace S R I a1 (xs (x3 + (1 : Int32)).toNatClampNeg)) (fun r361 => gp (scok L (x3 + (1 : Int32))) (gp (sok S a2 12 34) (bd (f_X12_trace S R I a2 (xs (x3 + (1 : Int32)).toNatClampNeg)) (fun r364 => (if r361 = r364 then ko S R I a1 a2 (x3 + (5 : Int32)) else some (0 : Int32))))))))
set_option maxHeartbeats 8000000 in
theorem b_L_1436 {E : Ev} {p : Program} {l : Launch} {e : Env} {s : State} {m : MethodId} {below : List Frame} {meth : Method} {c : Code} {b L : Nat} {xs : Nat → Int32} (C : Cx E RL code 4 p s m c) (hr : meth.sig.returnType = ret) (hk : meth.locks = false) (hE : E.2.2.2.2.1 = s) (hX : va_X b L xs s s.heap) (hbl : b < E.1) {ko : Sh → Rw → Iw → Nat → Nat → Int32 → Option Int32} {n : Nat} (hko : ∀ (S : Sh) (R : Rw) (I : Iw) (a1 a2 : Nat) (x3 : Int32) (ce sl : Nat), ce + 2 * n ≤ 600000 → sl + 35 * n ≤ 7302250 → ko S R I a1 a2 x3 = some 1 → Wk E 4 p l e room_1 s m #[Value.ref b] below meth c ce sl (lw_Z below #[Value.ref b] s) 18 [(0, .ref b), (1, .ref (E.1 + a1)), (2, .ref (E.1 + a2)), (3, .int x3)] [] S R I) (S : Sh) (R : Rw) (I : Iw) (a1 a2 : Nat) (x3 : Int32) (ce sl : Nat) (hce : ce + 2 * (n + 1) ≤ 600000) (hsl : sl + 35 * (n + 1) ≤ 7302250) (h : f_L_1436 L xs ko S R I a1 a2 x3 = some 1) : Wk E 4 p l e room_1 s m #[Value.ref b] below meth c ce sl (lw_Z below #[Value.ref b] s) 1436 [(0, .ref b), (1, .ref (E.1 + a1)), (2, .ref (E.1 + a2)), (3, .int x3)] [] S R I := by
  rw [f_L_1436] at h
  refine k_aloadn (pc := 1436) C dL_law_1436 (i := 1) rfl 1 rfl ?_
  refine k_aloadn (pc := 1437) C dL_law_1437 (i := 0) rfl 0 rfl ?_
  refine k_iloadn (pc := 1438) C dL_law_1438 (i := 3) rfl 3 rfl ?_
  refine k_iconst (pc := 1439) C (v := (1 : Int32)) dL_law_1439 (by decide) ?_
  refine k_iadd (pc := 1440) C dL_law_1440 ?_
  obtain ⟨ha359, h⟩ := gp_e h
  refine k_sld (pc := 1441) C hE hX hbl ha359 dL_law_1441 ?_
  obtain ⟨hs3600, h⟩ := gp_e h
  have hs360 := sok_e hs3600
  obtain ⟨r361, hr361, h⟩ := bd_e h
  refine k_V (pc := 1442) (st := []) C (c_X11_trace hr361) lkV_RL_205 hs360 rfl rfl rfl (Nat.le_of_ble_eq_true rfl) (Nat.le_of_ble_eq_true rfl) (Nat.le_of_ble_eq_true rfl) (by show ce + 0 ≤ 600000; omega) (by show sl + 0 ≤ 7302250; omega) dL_law_1442 ?_
  refine k_nf (cells2 := ce) (slots2 := sl) (st2 := [.int r361]) rfl rfl rfl ?_
  refine k_aloadn (pc := 1445) C dL_law_1445 (i := 2) rfl 2 rfl ?_
  refine k_aloadn (pc := 1446) C dL_law_1446 (i := 0) rfl 0 rfl ?_
  refine k_iloadn (pc := 1447) C dL_law_1447 (i := 3) rfl 3 rfl ?_
  refine k_iconst (pc := 1448) C (v := (1 : Int32)) dL_law_1448 (by decide) ?_
  refine k_iadd (pc := 1449) C dL_law_1449 ?_
  obtain ⟨ha362, h⟩ := gp_e h
  refine k_sld (pc := 1450) C hE hX hbl ha362 dL_law_1450 ?_
  obtain ⟨hs3630, h⟩ := gp_e h
  have hs363 := sok_e hs3630
  obtain ⟨r364, hr364, h⟩ := bd_e h
  refine k_V (pc := 1451) (st := [.int r361]) C (c_X12_trace hr364) lkV_RL_208 hs363 rfl rfl rfl (Nat.le_of_ble_eq_true rfl) (Nat.le_of_ble_eq_true rfl) (Nat.le_of_ble_eq_true rfl) (by show ce + 0 ≤ 600000; omega) (by show sl + 0 ≤ 7302250; omega) dL_law_1451 ?_
  refine k_nf (cells2 := ce) (slots2 := sl) (st2 := [.int r364, .int r361]) rfl rfl rfl ?_
  refine k_icmp_eq (pc := 1454) C dL_law_1454 (tgt := 1508) (by decide) (fun hc365 => ?_) (fun hc365 => ?_)
  · rw [if_pos hc365] at h
    refine k_iinc (pc := 1508) C dL_law_1508 3 rfl (v := x3 + (5 : Int32)) (by rfl) (by decide) (L2 := [(0, .ref b), (1, .ref (E.1 + a1)), (2, .ref (E.1 + a2)), (3, .int (x3 + (5 : Int32)))]) rfl ?_
    refine k_goto (pc := 1511) C dL_law_1511 (tgt := 18) (by decide) ?_
    exact hko _ _ _ _ _ _ _ _ (by omega) (by omega) h
  · rw [if_neg hc365] at h
    refine k_iconst (pc := 1457) C (v := (0 : Int32)) dL_law_1457 (by decide) ?_
    exact absurd h (by decide)
def f_L_1459 (L : Nat) (xs : Nat → Int32) (ko : Sh → Rw → Iw → Nat → Nat → Int32 → Option Int32) (S : Sh) (R : Rw) (I : Iw) (a1 a2 : Nat) (x3 : Int32) : Option Int32 := gp (scok L (x3 + (1 : Int32))) (gp (sok S a1 11 12) (bd (f_X11_many S R I a1 (xs (x3 + (1 : Int32)).toNatClampNeg)) (fun r368 => gp (scok L (x3 + (1 : Int32))) (gp (sok S a2 12 34) (bd (f_X12_many S R I a2 (xs (x3 + (1 : Int32)).toNatClampNeg)) (fun r371 => (if r368 = r371 then ko S R I a1 a2 (x3 + (5 : Int32)) else some (0 : Int32))))))))
set_option maxHeartbeats 8000000 in
theorem b_L_1459 {E : Ev} {p : Program} {l : Launch} {e : Env} {s : State} {m : MethodId} {below : List Frame} {meth : Method} {c : Code} {b L : Nat} {xs : Nat → Int32} (C : Cx E RL code 4 p s m c) (hr : meth.sig.returnType = ret) (hk : meth.locks = false) (hE : E.2.2.2.2.1 = s) (hX : va_X b L xs s s.heap) (hbl : b < E.1) {ko : Sh → Rw → Iw → Nat → Nat → Int32 → Option Int32} {n : Nat} (hko : ∀ (S : Sh) (R : Rw) (I : Iw) (a1 a2 : Nat) (x3 : Int32) (ce sl : Nat), ce + 2 * n ≤ 600000 → sl + 35 * n ≤ 7302250 → ko S R I a1 a2 x3 = some 1 → Wk E 4 p l e room_1 s m #[Value.ref b] below meth c ce sl (lw_Z below #[Value.ref b] s) 18 [(0, .ref b), (1, .ref (E.1 + a1)), (2, .ref (E.1 + a2)), (3, .int x3)] [] S R I) (S : Sh) (R : Rw) (I : Iw) (a1 a2 : Nat) (x3 : Int32) (ce sl : Nat) (hce : ce + 2 * (n + 1) ≤ 600000) (hsl : sl + 35 * (n + 1) ≤ 7302250) (h : f_L_1459 L xs ko S R I a1 a2 x3 = some 1) : Wk E 4 p l e room_1 s m #[Value.ref b] below meth c ce sl (lw_Z below #[Value.ref b] s) 1459 [(0, .ref b), (1, .ref (E.1 + a1)), (2, .ref (E.1 + a2)), (3, .int x3)] [] S R I := by
  rw [f_L_1459] at h
  refine k_aloadn (pc := 1459) C dL_law_1459 (i := 1) rfl 1 rfl ?_
  refine k_aloadn (pc := 1460) C dL_law_1460 (i := 0) rfl 0 rfl ?_
  refine k_iloadn (pc := 1461) C dL_law_1461 (i := 3) rfl 3 rfl ?_
  refine k_iconst (pc := 1462) C (v := (1 : Int32)) dL_law_1462 (by decide) ?_
  refine k_iadd (pc := 1463) C dL_law_1463 ?_
  obtain ⟨ha366, h⟩ := gp_e h
  refine k_sld (pc := 1464) C hE hX hbl ha366 dL_law_1464 ?_
  obtain ⟨hs3670, h⟩ := gp_e h
  have hs367 := sok_e hs3670
  obtain ⟨r368, hr368, h⟩ := bd_e h
  refine k_V (pc := 1465) (st := []) C (c_X11_many hr368) lkV_RL_209 hs367 rfl rfl rfl (Nat.le_of_ble_eq_true rfl) (Nat.le_of_ble_eq_true rfl) (Nat.le_of_ble_eq_true rfl) (by show ce + 0 ≤ 600000; omega) (by show sl + 0 ≤ 7302250; omega) dL_law_1465 ?_
  refine k_nf (cells2 := ce) (slots2 := sl) (st2 := [.int r368]) rfl rfl rfl ?_
  refine k_aloadn (pc := 1468) C dL_law_1468 (i := 2) rfl 2 rfl ?_
  refine k_aloadn (pc := 1469) C dL_law_1469 (i := 0) rfl 0 rfl ?_
  refine k_iloadn (pc := 1470) C dL_law_1470 (i := 3) rfl 3 rfl ?_
  refine k_iconst (pc := 1471) C (v := (1 : Int32)) dL_law_1471 (by decide) ?_
  refine k_iadd (pc := 1472) C dL_law_1472 ?_
  obtain ⟨ha369, h⟩ := gp_e h
  refine k_sld (pc := 1473) C hE hX hbl ha369 dL_law_1473 ?_
  obtain ⟨hs3700, h⟩ := gp_e h
  have hs370 := sok_e hs3700
  obtain ⟨r371, hr371, h⟩ := bd_e h
  refine k_V (pc := 1474) (st := [.int r368]) C (c_X12_many hr371) lkV_RL_212 hs370 rfl rfl rfl (Nat.le_of_ble_eq_true rfl) (Nat.le_of_ble_eq_true rfl) (Nat.le_of_ble_eq_true rfl) (by show ce + 0 ≤ 600000; omega) (by show sl + 0 ≤ 7302250; omega) dL_law_1474 ?_
  refine k_nf (cells2 := ce) (slots2 := sl) (st2 := [.int r371, .int r368]) rfl rfl rfl ?_
  refine k_icmp_eq (pc := 1477) C dL_law_1477 (tgt := 1508) (by decide) (fun hc372 => ?_) (fun hc372 => ?_)
  · rw [if_pos hc372] at h
    refine k_iinc (pc := 1508) C dL_law_1508 3 rfl (v := x3 + (5 : Int32)) (by rfl) (by decide) (L2 := [(0, .ref b), (1, .ref (E.1 + a1)), (2, .ref (E.1 + a2)), (3, .int (x3 + (5 : Int32)))]) rfl ?_
    refine k_goto (pc := 1511) C dL_law_1511 (tgt := 18) (by decide) ?_
    exact hko _ _ _ _ _ _ _ _ (by omega) (by omega) h
  · rw [if_neg hc372] at h
    refine k_iconst (pc := 1480) C (v := (0 : Int32)) dL_law_1480 (by decide) ?_
    exact absurd h (by decide)
def f_L_1482 (L : Nat) (xs : Nat → Int32) (ko : Sh → Rw → Iw → Nat → Nat → Int32 → Option Int32) (S : Sh) (R : Rw) (I : Iw) (a1 a2 : Nat) (x3 : Int32) : Option Int32 := gp (sok S a1 11 12) (bd (f_X11_keep S R I a1) (fun r374 => gp (sok S a2 12 34) (bd (f_X12_keep S R r374.1 a2) (fun r376 => (if r374.2 = r376.2 then ko S R r376.1 a1 a2 (x3 + (5 : Int32)) else some (0 : Int32))))))
set_option maxHeartbeats 8000000 in
theorem b_L_1482 {E : Ev} {p : Program} {l : Launch} {e : Env} {s : State} {m : MethodId} {below : List Frame} {meth : Method} {c : Code} {b L : Nat} {xs : Nat → Int32} (C : Cx E RL code 4 p s m c) (hr : meth.sig.returnType = ret) (hk : meth.locks = false) (hE : E.2.2.2.2.1 = s) (hX : va_X b L xs s s.heap) (hbl : b < E.1) {ko : Sh → Rw → Iw → Nat → Nat → Int32 → Option Int32} {n : Nat} (hko : ∀ (S : Sh) (R : Rw) (I : Iw) (a1 a2 : Nat) (x3 : Int32) (ce sl : Nat), ce + 2 * n ≤ 600000 → sl + 35 * n ≤ 7302250 → ko S R I a1 a2 x3 = some 1 → Wk E 4 p l e room_1 s m #[Value.ref b] below meth c ce sl (lw_Z below #[Value.ref b] s) 18 [(0, .ref b), (1, .ref (E.1 + a1)), (2, .ref (E.1 + a2)), (3, .int x3)] [] S R I) (S : Sh) (R : Rw) (I : Iw) (a1 a2 : Nat) (x3 : Int32) (ce sl : Nat) (hce : ce + 2 * (n + 1) ≤ 600000) (hsl : sl + 35 * (n + 1) ≤ 7302250) (h : f_L_1482 L xs ko S R I a1 a2 x3 = some 1) : Wk E 4 p l e room_1 s m #[Value.ref b] below meth c ce sl (lw_Z below #[Value.ref b] s) 1482 [(0, .ref b), (1, .ref (E.1 + a1)), (2, .ref (E.1 + a2)), (3, .int x3)] [] S R I := by
  rw [f_L_1482] at h
  refine k_aloadn (pc := 1482) C dL_law_1482 (i := 1) rfl 1 rfl ?_
  obtain ⟨hs3730, h⟩ := gp_e h
  have hs373 := sok_e hs3730
  obtain ⟨r374, hr374, h⟩ := bd_e h
  refine k_V (pc := 1483) (st := []) C (c_X11_keep hr374) lkV_RL_213 hs373 rfl rfl rfl (Nat.le_of_ble_eq_true rfl) (Nat.le_of_ble_eq_true rfl) (Nat.le_of_ble_eq_true rfl) (by show ce + 0 ≤ 600000; omega) (by show sl + 0 ≤ 7302250; omega) dL_law_1483 ?_
  refine k_nf (cells2 := ce) (slots2 := sl) (st2 := [.int r374.2]) rfl rfl rfl ?_
  refine k_aloadn (pc := 1486) C dL_law_1486 (i := 2) rfl 2 rfl ?_
  obtain ⟨hs3750, h⟩ := gp_e h
  have hs375 := sok_e hs3750
  obtain ⟨r376, hr376, h⟩ := bd_e h
  refine k_V (pc := 1487) (st := [.int r374.2]) C (c_X12_keep hr376) lkV_RL_216 hs375 rfl rfl rfl (Nat.le_of_ble_eq_true rfl) (Nat.le_of_ble_eq_true rfl) (Nat.le_of_ble_eq_true rfl) (by show ce + 0 ≤ 600000; omega) (by show sl + 0 ≤ 7302250; omega) dL_law_1487 ?_
  refine k_nf (cells2 := ce) (slots2 := sl) (st2 := [.int r376.2, .int r374.2]) rfl rfl rfl ?_
  refine k_icmp_eq (pc := 1490) C dL_law_1490 (tgt := 1508) (by decide) (fun hc377 => ?_) (fun hc377 => ?_)
  · rw [if_pos hc377] at h
    refine k_iinc (pc := 1508) C dL_law_1508 3 rfl (v := x3 + (5 : Int32)) (by rfl) (by decide) (L2 := [(0, .ref b), (1, .ref (E.1 + a1)), (2, .ref (E.1 + a2)), (3, .int (x3 + (5 : Int32)))]) rfl ?_
    refine k_goto (pc := 1511) C dL_law_1511 (tgt := 18) (by decide) ?_
    exact hko _ _ _ _ _ _ _ _ (by omega) (by omega) h
  · rw [if_neg hc377] at h
    refine k_iconst (pc := 1493) C (v := (0 : Int32)) dL_law_1493 (by decide) ?_
    exact absurd h (by decide)
def f_L_1495 (L : Nat) (xs : Nat → Int32) (ko : Sh → Rw → Iw → Nat → Nat → Int32 → Option Int32) (S : Sh) (R : Rw) (I : Iw) (a1 a2 : Nat) (x3 : Int32) : Option Int32 := gp (sok S a1 11 12) (bd (f_X11_again S R I a1) (fun r379 => gp (sok S a2 12 34) (bd (f_X12_again S R r379.1 a2) (fun r381 => (if r379.2 = r381.2 then ko S R r381.1 a1 a2 (x3 + (5 : Int32)) else some (0 : Int32))))))
set_option maxHeartbeats 8000000 in
theorem b_L_1495 {E : Ev} {p : Program} {l : Launch} {e : Env} {s : State} {m : MethodId} {below : List Frame} {meth : Method} {c : Code} {b L : Nat} {xs : Nat → Int32} (C : Cx E RL code 4 p s m c) (hr : meth.sig.returnType = ret) (hk : meth.locks = false) (hE : E.2.2.2.2.1 = s) (hX : va_X b L xs s s.heap) (hbl : b < E.1) {ko : Sh → Rw → Iw → Nat → Nat → Int32 → Option Int32} {n : Nat} (hko : ∀ (S : Sh) (R : Rw) (I : Iw) (a1 a2 : Nat) (x3 : Int32) (ce sl : Nat), ce + 2 * n ≤ 600000 → sl + 35 * n ≤ 7302250 → ko S R I a1 a2 x3 = some 1 → Wk E 4 p l e room_1 s m #[Value.ref b] below meth c ce sl (lw_Z below #[Value.ref b] s) 18 [(0, .ref b), (1, .ref (E.1 + a1)), (2, .ref (E.1 + a2)), (3, .int x3)] [] S R I) (S : Sh) (R : Rw) (I : Iw) (a1 a2 : Nat) (x3 : Int32) (ce sl : Nat) (hce : ce + 2 * (n + 1) ≤ 600000) (hsl : sl + 35 * (n + 1) ≤ 7302250) (h : f_L_1495 L xs ko S R I a1 a2 x3 = some 1) : Wk E 4 p l e room_1 s m #[Value.ref b] below meth c ce sl (lw_Z below #[Value.ref b] s) 1495 [(0, .ref b), (1, .ref (E.1 + a1)), (2, .ref (E.1 + a2)), (3, .int x3)] [] S R I := by
  rw [f_L_1495] at h
  refine k_aloadn (pc := 1495) C dL_law_1495 (i := 1) rfl 1 rfl ?_
  obtain ⟨hs3780, h⟩ := gp_e h
  have hs378 := sok_e hs3780
  obtain ⟨r379, hr379, h⟩ := bd_e h
  refine k_V (pc := 1496) (st := []) C (c_X11_again hr379) lkV_RL_217 hs378 rfl rfl rfl (Nat.le_of_ble_eq_true rfl) (Nat.le_of_ble_eq_true rfl) (Nat.le_of_ble_eq_true rfl) (by show ce + 0 ≤ 600000; omega) (by show sl + 0 ≤ 7302250; omega) dL_law_1496 ?_
  refine k_nf (cells2 := ce) (slots2 := sl) (st2 := [.int r379.2]) rfl rfl rfl ?_
  refine k_aloadn (pc := 1499) C dL_law_1499 (i := 2) rfl 2 rfl ?_
  obtain ⟨hs3800, h⟩ := gp_e h
  have hs380 := sok_e hs3800
  obtain ⟨r381, hr381, h⟩ := bd_e h
  refine k_V (pc := 1500) (st := [.int r379.2]) C (c_X12_again hr381) lkV_RL_220 hs380 rfl rfl rfl (Nat.le_of_ble_eq_true rfl) (Nat.le_of_ble_eq_true rfl) (Nat.le_of_ble_eq_true rfl) (by show ce + 0 ≤ 600000; omega) (by show sl + 0 ≤ 7302250; omega) dL_law_1500 ?_
  refine k_nf (cells2 := ce) (slots2 := sl) (st2 := [.int r381.2, .int r379.2]) rfl rfl rfl ?_
  refine k_icmp_eq (pc := 1503) C dL_law_1503 (tgt := 1508) (by decide) (fun hc382 => ?_) (fun hc382 => ?_)
  · rw [if_pos hc382] at h
    refine k_iinc (pc := 1508) C dL_law_1508 3 rfl (v := x3 + (5 : Int32)) (by rfl) (by decide) (L2 := [(0, .ref b), (1, .ref (E.1 + a1)), (2, .ref (E.1 + a2)), (3, .int (x3 + (5 : Int32)))]) rfl ?_
    refine k_goto (pc := 1511) C dL_law_1511 (tgt := 18) (by decide) ?_
    exact hko _ _ _ _ _ _ _ _ (by omega) (by omega) h
  · rw [if_neg hc382] at h
    refine k_iconst (pc := 1506) C (v := (0 : Int32)) dL_law_1506 (by decide) ?_
    exact absurd h (by decide)
def f_L_18 (L : Nat) (xs : Nat → Int32) : Nat → Sh → Rw → Iw → Nat → Nat → Int32 → Option Int32
  | 0, _, _, _, _, _, _ => none
  | n + 1, S, R, I, a1, a2, x3 => (if ((nI L) - (5 : Int32)) < x3 then some (1 : Int32) else gp (scok L x3) ((if ((xs x3.toNatClampNeg) &&& (63 : Int32)) = (0 : Int32) then f_L_248 L xs (f_L_18 L xs n) S R I a1 a2 x3 else (if ((xs x3.toNatClampNeg) &&& (63 : Int32)) = (1 : Int32) then f_L_301 L xs (f_L_18 L xs n) S R I a1 a2 x3 else (if ((xs x3.toNatClampNeg) &&& (63 : Int32)) = (2 : Int32) then f_L_334 L xs (f_L_18 L xs n) S R I a1 a2 x3 else (if ((xs x3.toNatClampNeg) &&& (63 : Int32)) = (3 : Int32) then f_L_377 L xs (f_L_18 L xs n) S R I a1 a2 x3 else (if ((xs x3.toNatClampNeg) &&& (63 : Int32)) = (4 : Int32) then f_L_410 L xs (f_L_18 L xs n) S R I a1 a2 x3 else (if ((xs x3.toNatClampNeg) &&& (63 : Int32)) = (5 : Int32) then f_L_443 L xs (f_L_18 L xs n) S R I a1 a2 x3 else (if ((xs x3.toNatClampNeg) &&& (63 : Int32)) = (6 : Int32) then f_L_506 L xs (f_L_18 L xs n) S R I a1 a2 x3 else (if ((xs x3.toNatClampNeg) &&& (63 : Int32)) = (7 : Int32) then f_L_519 L xs (f_L_18 L xs n) S R I a1 a2 x3 else (if ((xs x3.toNatClampNeg) &&& (63 : Int32)) = (8 : Int32) then f_L_552 L xs (f_L_18 L xs n) S R I a1 a2 x3 else (if ((xs x3.toNatClampNeg) &&& (63 : Int32)) = (9 : Int32) then f_L_575 L xs (f_L_18 L xs n) S R I a1 a2 x3 else (if ((xs x3.toNatClampNeg) &&& (63 : Int32)) = (10 : Int32) then f_L_588 L xs (f_L_18 L xs n) S R I a1 a2 x3 else (if ((xs x3.toNatClampNeg) &&& (63 : Int32)) = (11 : Int32) then f_L_601 L xs (f_L_18 L xs n) S R I a1 a2 x3 else (if ((xs x3.toNatClampNeg) &&& (63 : Int32)) = (12 : Int32) then f_L_624 L xs (f_L_18 L xs n) S R I a1 a2 x3 else (if ((xs x3.toNatClampNeg) &&& (63 : Int32)) = (13 : Int32) then f_L_637 L xs (f_L_18 L xs n) S R I a1 a2 x3 else (if ((xs x3.toNatClampNeg) &&& (63 : Int32)) = (14 : Int32) then f_L_660 L xs (f_L_18 L xs n) S R I a1 a2 x3 else (if ((xs x3.toNatClampNeg) &&& (63 : Int32)) = (15 : Int32) then f_L_673 L xs (f_L_18 L xs n) S R I a1 a2 x3 else (if ((xs x3.toNatClampNeg) &&& (63 : Int32)) = (16 : Int32) then f_L_686 L xs (f_L_18 L xs n) S R I a1 a2 x3 else (if ((xs x3.toNatClampNeg) &&& (63 : Int32)) = (17 : Int32) then f_L_709 L xs (f_L_18 L xs n) S R I a1 a2 x3 else (if ((xs x3.toNatClampNeg) &&& (63 : Int32)) = (18 : Int32) then f_L_722 L xs (f_L_18 L xs n) S R I a1 a2 x3 else (if ((xs x3.toNatClampNeg) &&& (63 : Int32)) = (19 : Int32) then f_L_745 L xs (f_L_18 L xs n) S R I a1 a2 x3 else (if ((xs x3.toNatClampNeg) &&& (63 : Int32)) = (20 : Int32) then f_L_758 L xs (f_L_18 L xs n) S R I a1 a2 x3 else (if ((xs x3.toNatClampNeg) &&& (63 : Int32)) = (21 : Int32) then f_L_781 L xs (f_L_18 L xs n) S R I a1 a2 x3 else (if ((xs x3.toNatClampNeg) &&& (63 : Int32)) = (22 : Int32) then f_L_794 L xs (f_L_18 L xs n) S R I a1 a2 x3 else (if ((xs x3.toNatClampNeg) &&& (63 : Int32)) = (23 : Int32) then f_L_807 L xs (f_L_18 L xs n) S R I a1 a2 x3 else (if ((xs x3.toNatClampNeg) &&& (63 : Int32)) = (24 : Int32) then f_L_820 L xs (f_L_18 L xs n) S R I a1 a2 x3 else (if ((xs x3.toNatClampNeg) &&& (63 : Int32)) = (25 : Int32) then f_L_833 L xs (f_L_18 L xs n) S R I a1 a2 x3 else (if ((xs x3.toNatClampNeg) &&& (63 : Int32)) = (26 : Int32) then f_L_846 L xs (f_L_18 L xs n) S R I a1 a2 x3 else (if ((xs x3.toNatClampNeg) &&& (63 : Int32)) = (27 : Int32) then f_L_859 L xs (f_L_18 L xs n) S R I a1 a2 x3 else (if ((xs x3.toNatClampNeg) &&& (63 : Int32)) = (28 : Int32) then f_L_892 L xs (f_L_18 L xs n) S R I a1 a2 x3 else (if ((xs x3.toNatClampNeg) &&& (63 : Int32)) = (29 : Int32) then f_L_905 L xs (f_L_18 L xs n) S R I a1 a2 x3 else (if ((xs x3.toNatClampNeg) &&& (63 : Int32)) = (30 : Int32) then f_L_928 L xs (f_L_18 L xs n) S R I a1 a2 x3 else (if ((xs x3.toNatClampNeg) &&& (63 : Int32)) = (31 : Int32) then f_L_941 L xs (f_L_18 L xs n) S R I a1 a2 x3 else (if ((xs x3.toNatClampNeg) &&& (63 : Int32)) = (32 : Int32) then f_L_964 L xs (f_L_18 L xs n) S R I a1 a2 x3 else (if ((xs x3.toNatClampNeg) &&& (63 : Int32)) = (33 : Int32) then f_L_977 L xs (f_L_18 L xs n) S R I a1 a2 x3 else (if ((xs x3.toNatClampNeg) &&& (63 : Int32)) = (34 : Int32) then f_L_1000 L xs (f_L_18 L xs n) S R I a1 a2 x3 else (if ((xs x3.toNatClampNeg) &&& (63 : Int32)) = (35 : Int32) then f_L_1013 L xs (f_L_18 L xs n) S R I a1 a2 x3 else (if ((xs x3.toNatClampNeg) &&& (63 : Int32)) = (36 : Int32) then f_L_1046 L xs (f_L_18 L xs n) S R I a1 a2 x3 else (if ((xs x3.toNatClampNeg) &&& (63 : Int32)) = (37 : Int32) then f_L_1089 L xs (f_L_18 L xs n) S R I a1 a2 x3 else (if ((xs x3.toNatClampNeg) &&& (63 : Int32)) = (38 : Int32) then f_L_1102 L xs (f_L_18 L xs n) S R I a1 a2 x3 else (if ((xs x3.toNatClampNeg) &&& (63 : Int32)) = (39 : Int32) then f_L_1145 L xs (f_L_18 L xs n) S R I a1 a2 x3 else (if ((xs x3.toNatClampNeg) &&& (63 : Int32)) = (40 : Int32) then f_L_1188 L xs (f_L_18 L xs n) S R I a1 a2 x3 else (if ((xs x3.toNatClampNeg) &&& (63 : Int32)) = (41 : Int32) then f_L_1231 L xs (f_L_18 L xs n) S R I a1 a2 x3 else (if ((xs x3.toNatClampNeg) &&& (63 : Int32)) = (42 : Int32) then f_L_1274 L xs (f_L_18 L xs n) S R I a1 a2 x3 else (if ((xs x3.toNatClampNeg) &&& (63 : Int32)) = (43 : Int32) then f_L_1317 L xs (f_L_18 L xs n) S R I a1 a2 x3 else (if ((xs x3.toNatClampNeg) &&& (63 : Int32)) = (44 : Int32) then f_L_1360 L xs (f_L_18 L xs n) S R I a1 a2 x3 else (if ((xs x3.toNatClampNeg) &&& (63 : Int32)) = (45 : Int32) then f_L_1393 L xs (f_L_18 L xs n) S R I a1 a2 x3 else (if ((xs x3.toNatClampNeg) &&& (63 : Int32)) = (46 : Int32) then f_L_1436 L xs (f_L_18 L xs n) S R I a1 a2 x3 else (if ((xs x3.toNatClampNeg) &&& (63 : Int32)) = (47 : Int32) then f_L_1459 L xs (f_L_18 L xs n) S R I a1 a2 x3 else (if ((xs x3.toNatClampNeg) &&& (63 : Int32)) = (48 : Int32) then f_L_1482 L xs (f_L_18 L xs n) S R I a1 a2 x3 else (if ((xs x3.toNatClampNeg) &&& (63 : Int32)) = (49 : Int32) then f_L_1495 L xs (f_L_18 L xs n) S R I a1 a2 x3 else f_L_18 L xs n S R I a1 a2 (x3 + (5 : Int32))))))))))))))))))))))))))))))))))))))))))))))))))))))
set_option maxHeartbeats 8000000 in
theorem b_L_18 {E : Ev} {p : Program} {l : Launch} {e : Env} {s : State} {m : MethodId} {below : List Frame} {meth : Method} {c : Code} {b L : Nat} {xs : Nat → Int32} (C : Cx E RL code 4 p s m c) (hr : meth.sig.returnType = ret) (hk : meth.locks = false) (hE : E.2.2.2.2.1 = s) (hX : va_X b L xs s s.heap) (hbl : b < E.1) : ∀ (n : Nat) (S : Sh) (R : Rw) (I : Iw) (a1 a2 : Nat) (x3 : Int32) (ce sl : Nat), ce + 2 * n ≤ 600000 → sl + 35 * n ≤ 7302250 → f_L_18 L xs n S R I a1 a2 x3 = some 1 → Wk E 4 p l e room_1 s m #[Value.ref b] below meth c ce sl (lw_Z below #[Value.ref b] s) 18 [(0, .ref b), (1, .ref (E.1 + a1)), (2, .ref (E.1 + a2)), (3, .int x3)] [] S R I := by
  intro n
  induction n with
  | zero =>
    intro S R I a1 a2 x3 ce sl _ _ h
    rw [f_L_18] at h
    cases h
  | succ n ih =>
    intro S R I a1 a2 x3 ce sl hce hsl h
    rw [f_L_18] at h
    refine k_iloadn (pc := 18) C dL_law_18 (i := 3) rfl 3 rfl ?_
    refine k_aloadn (pc := 19) C dL_law_19 (i := 0) rfl 0 rfl ?_
    refine k_slen (pc := 20) C hE hX hbl dL_law_20 ?_
    refine k_iconst (pc := 21) C (v := (5 : Int32)) dL_law_21 (by decide) ?_
    refine k_isub (pc := 22) C dL_law_22 ?_
    refine k_icmp_gt (pc := 23) C dL_law_23 (tgt := 1514) (by decide) (fun hc13 => ?_) (fun hc13 => ?_)
    · rw [if_pos hc13] at h
      refine k_iconst (pc := 1514) C (v := (1 : Int32)) dL_law_1514 (by decide) ?_
      exact k_lret (pc := 1515) C hE hr hk (by omega) (by omega) dL_law_1515
    · rw [if_neg hc13] at h
      refine k_aloadn (pc := 26) C dL_law_26 (i := 0) rfl 0 rfl ?_
      refine k_iloadn (pc := 27) C dL_law_27 (i := 3) rfl 3 rfl ?_
      obtain ⟨ha14, h⟩ := gp_e h
      refine k_sld (pc := 28) C hE hX hbl ha14 dL_law_28 ?_
      refine k_bipush (pc := 29) C (v := (63 : Int32)) dL_law_29 (by decide) ?_
      refine k_iand (pc := 31) C dL_law_31 ?_
      by_cases hc383 : ((xs x3.toNatClampNeg) &&& (63 : Int32)) = (0 : Int32)
      · rw [if_pos hc383] at h
        refine k_tabIn (pc := 32) C dL_law_32 (by rw [hc383]; decide) (by rw [hc383]; decide) (off := 216) (by rw [hc383]; rfl) (tgt := 248) (by decide) ?_
        exact b_L_248 C hr hk hE hX hbl ih _ _ _ _ _ _ _ _ hce hsl h
      · rw [if_neg hc383] at h
        by_cases hc384 : ((xs x3.toNatClampNeg) &&& (63 : Int32)) = (1 : Int32)
        · rw [if_pos hc384] at h
          refine k_tabIn (pc := 32) C dL_law_32 (by rw [hc384]; decide) (by rw [hc384]; decide) (off := 269) (by rw [hc384]; rfl) (tgt := 301) (by decide) ?_
          exact b_L_301 C hr hk hE hX hbl ih _ _ _ _ _ _ _ _ hce hsl h
        · rw [if_neg hc384] at h
          by_cases hc385 : ((xs x3.toNatClampNeg) &&& (63 : Int32)) = (2 : Int32)
          · rw [if_pos hc385] at h
            refine k_tabIn (pc := 32) C dL_law_32 (by rw [hc385]; decide) (by rw [hc385]; decide) (off := 302) (by rw [hc385]; rfl) (tgt := 334) (by decide) ?_
            exact b_L_334 C hr hk hE hX hbl ih _ _ _ _ _ _ _ _ hce hsl h
          · rw [if_neg hc385] at h
            by_cases hc386 : ((xs x3.toNatClampNeg) &&& (63 : Int32)) = (3 : Int32)
            · rw [if_pos hc386] at h
              refine k_tabIn (pc := 32) C dL_law_32 (by rw [hc386]; decide) (by rw [hc386]; decide) (off := 345) (by rw [hc386]; rfl) (tgt := 377) (by decide) ?_
              exact b_L_377 C hr hk hE hX hbl ih _ _ _ _ _ _ _ _ hce hsl h
            · rw [if_neg hc386] at h
              by_cases hc387 : ((xs x3.toNatClampNeg) &&& (63 : Int32)) = (4 : Int32)
              · rw [if_pos hc387] at h
                refine k_tabIn (pc := 32) C dL_law_32 (by rw [hc387]; decide) (by rw [hc387]; decide) (off := 378) (by rw [hc387]; rfl) (tgt := 410) (by decide) ?_
                exact b_L_410 C hr hk hE hX hbl ih _ _ _ _ _ _ _ _ hce hsl h
              · rw [if_neg hc387] at h
                by_cases hc388 : ((xs x3.toNatClampNeg) &&& (63 : Int32)) = (5 : Int32)
                · rw [if_pos hc388] at h
                  refine k_tabIn (pc := 32) C dL_law_32 (by rw [hc388]; decide) (by rw [hc388]; decide) (off := 411) (by rw [hc388]; rfl) (tgt := 443) (by decide) ?_
                  exact b_L_443 C hr hk hE hX hbl ih _ _ _ _ _ _ _ _ hce hsl h
                · rw [if_neg hc388] at h
                  by_cases hc389 : ((xs x3.toNatClampNeg) &&& (63 : Int32)) = (6 : Int32)
                  · rw [if_pos hc389] at h
                    refine k_tabIn (pc := 32) C dL_law_32 (by rw [hc389]; decide) (by rw [hc389]; decide) (off := 474) (by rw [hc389]; rfl) (tgt := 506) (by decide) ?_
                    exact b_L_506 C hr hk hE hX hbl ih _ _ _ _ _ _ _ _ hce hsl h
                  · rw [if_neg hc389] at h
                    by_cases hc390 : ((xs x3.toNatClampNeg) &&& (63 : Int32)) = (7 : Int32)
                    · rw [if_pos hc390] at h
                      refine k_tabIn (pc := 32) C dL_law_32 (by rw [hc390]; decide) (by rw [hc390]; decide) (off := 487) (by rw [hc390]; rfl) (tgt := 519) (by decide) ?_
                      exact b_L_519 C hr hk hE hX hbl ih _ _ _ _ _ _ _ _ hce hsl h
                    · rw [if_neg hc390] at h
                      by_cases hc391 : ((xs x3.toNatClampNeg) &&& (63 : Int32)) = (8 : Int32)
                      · rw [if_pos hc391] at h
                        refine k_tabIn (pc := 32) C dL_law_32 (by rw [hc391]; decide) (by rw [hc391]; decide) (off := 520) (by rw [hc391]; rfl) (tgt := 552) (by decide) ?_
                        exact b_L_552 C hr hk hE hX hbl ih _ _ _ _ _ _ _ _ hce hsl h
                      · rw [if_neg hc391] at h
                        by_cases hc392 : ((xs x3.toNatClampNeg) &&& (63 : Int32)) = (9 : Int32)
                        · rw [if_pos hc392] at h
                          refine k_tabIn (pc := 32) C dL_law_32 (by rw [hc392]; decide) (by rw [hc392]; decide) (off := 543) (by rw [hc392]; rfl) (tgt := 575) (by decide) ?_
                          exact b_L_575 C hr hk hE hX hbl ih _ _ _ _ _ _ _ _ hce hsl h
                        · rw [if_neg hc392] at h
                          by_cases hc393 : ((xs x3.toNatClampNeg) &&& (63 : Int32)) = (10 : Int32)
                          · rw [if_pos hc393] at h
                            refine k_tabIn (pc := 32) C dL_law_32 (by rw [hc393]; decide) (by rw [hc393]; decide) (off := 556) (by rw [hc393]; rfl) (tgt := 588) (by decide) ?_
                            exact b_L_588 C hr hk hE hX hbl ih _ _ _ _ _ _ _ _ hce hsl h
                          · rw [if_neg hc393] at h
                            by_cases hc394 : ((xs x3.toNatClampNeg) &&& (63 : Int32)) = (11 : Int32)
                            · rw [if_pos hc394] at h
                              refine k_tabIn (pc := 32) C dL_law_32 (by rw [hc394]; decide) (by rw [hc394]; decide) (off := 569) (by rw [hc394]; rfl) (tgt := 601) (by decide) ?_
                              exact b_L_601 C hr hk hE hX hbl ih _ _ _ _ _ _ _ _ hce hsl h
                            · rw [if_neg hc394] at h
                              by_cases hc395 : ((xs x3.toNatClampNeg) &&& (63 : Int32)) = (12 : Int32)
                              · rw [if_pos hc395] at h
                                refine k_tabIn (pc := 32) C dL_law_32 (by rw [hc395]; decide) (by rw [hc395]; decide) (off := 592) (by rw [hc395]; rfl) (tgt := 624) (by decide) ?_
                                exact b_L_624 C hr hk hE hX hbl ih _ _ _ _ _ _ _ _ hce hsl h
                              · rw [if_neg hc395] at h
                                by_cases hc396 : ((xs x3.toNatClampNeg) &&& (63 : Int32)) = (13 : Int32)
                                · rw [if_pos hc396] at h
                                  refine k_tabIn (pc := 32) C dL_law_32 (by rw [hc396]; decide) (by rw [hc396]; decide) (off := 605) (by rw [hc396]; rfl) (tgt := 637) (by decide) ?_
                                  exact b_L_637 C hr hk hE hX hbl ih _ _ _ _ _ _ _ _ hce hsl h
                                · rw [if_neg hc396] at h
                                  by_cases hc397 : ((xs x3.toNatClampNeg) &&& (63 : Int32)) = (14 : Int32)
                                  · rw [if_pos hc397] at h
                                    refine k_tabIn (pc := 32) C dL_law_32 (by rw [hc397]; decide) (by rw [hc397]; decide) (off := 628) (by rw [hc397]; rfl) (tgt := 660) (by decide) ?_
                                    exact b_L_660 C hr hk hE hX hbl ih _ _ _ _ _ _ _ _ hce hsl h
                                  · rw [if_neg hc397] at h
                                    by_cases hc398 : ((xs x3.toNatClampNeg) &&& (63 : Int32)) = (15 : Int32)
                                    · rw [if_pos hc398] at h
                                      refine k_tabIn (pc := 32) C dL_law_32 (by rw [hc398]; decide) (by rw [hc398]; decide) (off := 641) (by rw [hc398]; rfl) (tgt := 673) (by decide) ?_
                                      exact b_L_673 C hr hk hE hX hbl ih _ _ _ _ _ _ _ _ hce hsl h
                                    · rw [if_neg hc398] at h
                                      by_cases hc399 : ((xs x3.toNatClampNeg) &&& (63 : Int32)) = (16 : Int32)
                                      · rw [if_pos hc399] at h
                                        refine k_tabIn (pc := 32) C dL_law_32 (by rw [hc399]; decide) (by rw [hc399]; decide) (off := 654) (by rw [hc399]; rfl) (tgt := 686) (by decide) ?_
                                        exact b_L_686 C hr hk hE hX hbl ih _ _ _ _ _ _ _ _ hce hsl h
                                      · rw [if_neg hc399] at h
                                        by_cases hc400 : ((xs x3.toNatClampNeg) &&& (63 : Int32)) = (17 : Int32)
                                        · rw [if_pos hc400] at h
                                          refine k_tabIn (pc := 32) C dL_law_32 (by rw [hc400]; decide) (by rw [hc400]; decide) (off := 677) (by rw [hc400]; rfl) (tgt := 709) (by decide) ?_
                                          exact b_L_709 C hr hk hE hX hbl ih _ _ _ _ _ _ _ _ hce hsl h
                                        · rw [if_neg hc400] at h
                                          by_cases hc401 : ((xs x3.toNatClampNeg) &&& (63 : Int32)) = (18 : Int32)
                                          · rw [if_pos hc401] at h
                                            refine k_tabIn (pc := 32) C dL_law_32 (by rw [hc401]; decide) (by rw [hc401]; decide) (off := 690) (by rw [hc401]; rfl) (tgt := 722) (by decide) ?_
                                            exact b_L_722 C hr hk hE hX hbl ih _ _ _ _ _ _ _ _ hce hsl h
                                          · rw [if_neg hc401] at h
                                            by_cases hc402 : ((xs x3.toNatClampNeg) &&& (63 : Int32)) = (19 : Int32)
                                            · rw [if_pos hc402] at h
                                              refine k_tabIn (pc := 32) C dL_law_32 (by rw [hc402]; decide) (by rw [hc402]; decide) (off := 713) (by rw [hc402]; rfl) (tgt := 745) (by decide) ?_
                                              exact b_L_745 C hr hk hE hX hbl ih _ _ _ _ _ _ _ _ hce hsl h
                                            · rw [if_neg hc402] at h
                                              by_cases hc403 : ((xs x3.toNatClampNeg) &&& (63 : Int32)) = (20 : Int32)
                                              · rw [if_pos hc403] at h
                                                refine k_tabIn (pc := 32) C dL_law_32 (by rw [hc403]; decide) (by rw [hc403]; decide) (off := 726) (by rw [hc403]; rfl) (tgt := 758) (by decide) ?_
                                                exact b_L_758 C hr hk hE hX hbl ih _ _ _ _ _ _ _ _ hce hsl h
                                              · rw [if_neg hc403] at h
                                                by_cases hc404 : ((xs x3.toNatClampNeg) &&& (63 : Int32)) = (21 : Int32)
                                                · rw [if_pos hc404] at h
                                                  refine k_tabIn (pc := 32) C dL_law_32 (by rw [hc404]; decide) (by rw [hc404]; decide) (off := 749) (by rw [hc404]; rfl) (tgt := 781) (by decide) ?_
                                                  exact b_L_781 C hr hk hE hX hbl ih _ _ _ _ _ _ _ _ hce hsl h
                                                · rw [if_neg hc404] at h
                                                  by_cases hc405 : ((xs x3.toNatClampNeg) &&& (63 : Int32)) = (22 : Int32)
                                                  · rw [if_pos hc405] at h
                                                    refine k_tabIn (pc := 32) C dL_law_32 (by rw [hc405]; decide) (by rw [hc405]; decide) (off := 762) (by rw [hc405]; rfl) (tgt := 794) (by decide) ?_
                                                    exact b_L_794 C hr hk hE hX hbl ih _ _ _ _ _ _ _ _ hce hsl h
                                                  · rw [if_neg hc405] at h
                                                    by_cases hc406 : ((xs x3.toNatClampNeg) &&& (63 : Int32)) = (23 : Int32)
                                                    · rw [if_pos hc406] at h
                                                      refine k_tabIn (pc := 32) C dL_law_32 (by rw [hc406]; decide) (by rw [hc406]; decide) (off := 775) (by rw [hc406]; rfl) (tgt := 807) (by decide) ?_
                                                      exact b_L_807 C hr hk hE hX hbl ih _ _ _ _ _ _ _ _ hce hsl h
                                                    · rw [if_neg hc406] at h
                                                      by_cases hc407 : ((xs x3.toNatClampNeg) &&& (63 : Int32)) = (24 : Int32)
                                                      · rw [if_pos hc407] at h
                                                        refine k_tabIn (pc := 32) C dL_law_32 (by rw [hc407]; decide) (by rw [hc407]; decide) (off := 788) (by rw [hc407]; rfl) (tgt := 820) (by decide) ?_
                                                        exact b_L_820 C hr hk hE hX hbl ih _ _ _ _ _ _ _ _ hce hsl h
                                                      · rw [if_neg hc407] at h
                                                        by_cases hc408 : ((xs x3.toNatClampNeg) &&& (63 : Int32)) = (25 : Int32)
                                                        · rw [if_pos hc408] at h
                                                          refine k_tabIn (pc := 32) C dL_law_32 (by rw [hc408]; decide) (by rw [hc408]; decide) (off := 801) (by rw [hc408]; rfl) (tgt := 833) (by decide) ?_
                                                          exact b_L_833 C hr hk hE hX hbl ih _ _ _ _ _ _ _ _ hce hsl h
                                                        · rw [if_neg hc408] at h
                                                          by_cases hc409 : ((xs x3.toNatClampNeg) &&& (63 : Int32)) = (26 : Int32)
                                                          · rw [if_pos hc409] at h
                                                            refine k_tabIn (pc := 32) C dL_law_32 (by rw [hc409]; decide) (by rw [hc409]; decide) (off := 814) (by rw [hc409]; rfl) (tgt := 846) (by decide) ?_
                                                            exact b_L_846 C hr hk hE hX hbl ih _ _ _ _ _ _ _ _ hce hsl h
                                                          · rw [if_neg hc409] at h
                                                            by_cases hc410 : ((xs x3.toNatClampNeg) &&& (63 : Int32)) = (27 : Int32)
                                                            · rw [if_pos hc410] at h
                                                              refine k_tabIn (pc := 32) C dL_law_32 (by rw [hc410]; decide) (by rw [hc410]; decide) (off := 827) (by rw [hc410]; rfl) (tgt := 859) (by decide) ?_
                                                              exact b_L_859 C hr hk hE hX hbl ih _ _ _ _ _ _ _ _ hce hsl h
                                                            · rw [if_neg hc410] at h
                                                              by_cases hc411 : ((xs x3.toNatClampNeg) &&& (63 : Int32)) = (28 : Int32)
                                                              · rw [if_pos hc411] at h
                                                                refine k_tabIn (pc := 32) C dL_law_32 (by rw [hc411]; decide) (by rw [hc411]; decide) (off := 860) (by rw [hc411]; rfl) (tgt := 892) (by decide) ?_
                                                                exact b_L_892 C hr hk hE hX hbl ih _ _ _ _ _ _ _ _ hce hsl h
                                                              · rw [if_neg hc411] at h
                                                                by_cases hc412 : ((xs x3.toNatClampNeg) &&& (63 : Int32)) = (29 : Int32)
                                                                · rw [if_pos hc412] at h
                                                                  refine k_tabIn (pc := 32) C dL_law_32 (by rw [hc412]; decide) (by rw [hc412]; decide) (off := 873) (by rw [hc412]; rfl) (tgt := 905) (by decide) ?_
                                                                  exact b_L_905 C hr hk hE hX hbl ih _ _ _ _ _ _ _ _ hce hsl h
                                                                · rw [if_neg hc412] at h
                                                                  by_cases hc413 : ((xs x3.toNatClampNeg) &&& (63 : Int32)) = (30 : Int32)
                                                                  · rw [if_pos hc413] at h
                                                                    refine k_tabIn (pc := 32) C dL_law_32 (by rw [hc413]; decide) (by rw [hc413]; decide) (off := 896) (by rw [hc413]; rfl) (tgt := 928) (by decide) ?_
                                                                    exact b_L_928 C hr hk hE hX hbl ih _ _ _ _ _ _ _ _ hce hsl h
                                                                  · rw [if_neg hc413] at h
                                                                    by_cases hc414 : ((xs x3.toNatClampNeg) &&& (63 : Int32)) = (31 : Int32)
                                                                    · rw [if_pos hc414] at h
                                                                      refine k_tabIn (pc := 32) C dL_law_32 (by rw [hc414]; decide) (by rw [hc414]; decide) (off := 909) (by rw [hc414]; rfl) (tgt := 941) (by decide) ?_
                                                                      exact b_L_941 C hr hk hE hX hbl ih _ _ _ _ _ _ _ _ hce hsl h
                                                                    · rw [if_neg hc414] at h
                                                                      by_cases hc415 : ((xs x3.toNatClampNeg) &&& (63 : Int32)) = (32 : Int32)
                                                                      · rw [if_pos hc415] at h
                                                                        refine k_tabIn (pc := 32) C dL_law_32 (by rw [hc415]; decide) (by rw [hc415]; decide) (off := 932) (by rw [hc415]; rfl) (tgt := 964) (by decide) ?_
                                                                        exact b_L_964 C hr hk hE hX hbl ih _ _ _ _ _ _ _ _ hce hsl h
                                                                      · rw [if_neg hc415] at h
                                                                        by_cases hc416 : ((xs x3.toNatClampNeg) &&& (63 : Int32)) = (33 : Int32)
                                                                        · rw [if_pos hc416] at h
                                                                          refine k_tabIn (pc := 32) C dL_law_32 (by rw [hc416]; decide) (by rw [hc416]; decide) (off := 945) (by rw [hc416]; rfl) (tgt := 977) (by decide) ?_
                                                                          exact b_L_977 C hr hk hE hX hbl ih _ _ _ _ _ _ _ _ hce hsl h
                                                                        · rw [if_neg hc416] at h
                                                                          by_cases hc417 : ((xs x3.toNatClampNeg) &&& (63 : Int32)) = (34 : Int32)
                                                                          · rw [if_pos hc417] at h
                                                                            refine k_tabIn (pc := 32) C dL_law_32 (by rw [hc417]; decide) (by rw [hc417]; decide) (off := 968) (by rw [hc417]; rfl) (tgt := 1000) (by decide) ?_
                                                                            exact b_L_1000 C hr hk hE hX hbl ih _ _ _ _ _ _ _ _ hce hsl h
                                                                          · rw [if_neg hc417] at h
                                                                            by_cases hc418 : ((xs x3.toNatClampNeg) &&& (63 : Int32)) = (35 : Int32)
                                                                            · rw [if_pos hc418] at h
                                                                              refine k_tabIn (pc := 32) C dL_law_32 (by rw [hc418]; decide) (by rw [hc418]; decide) (off := 981) (by rw [hc418]; rfl) (tgt := 1013) (by decide) ?_
                                                                              exact b_L_1013 C hr hk hE hX hbl ih _ _ _ _ _ _ _ _ hce hsl h
                                                                            · rw [if_neg hc418] at h
                                                                              by_cases hc419 : ((xs x3.toNatClampNeg) &&& (63 : Int32)) = (36 : Int32)
                                                                              · rw [if_pos hc419] at h
                                                                                refine k_tabIn (pc := 32) C dL_law_32 (by rw [hc419]; decide) (by rw [hc419]; decide) (off := 1014) (by rw [hc419]; rfl) (tgt := 1046) (by decide) ?_
                                                                                exact b_L_1046 C hr hk hE hX hbl ih _ _ _ _ _ _ _ _ hce hsl h
                                                                              · rw [if_neg hc419] at h
                                                                                by_cases hc420 : ((xs x3.toNatClampNeg) &&& (63 : Int32)) = (37 : Int32)
                                                                                · rw [if_pos hc420] at h
                                                                                  refine k_tabIn (pc := 32) C dL_law_32 (by rw [hc420]; decide) (by rw [hc420]; decide) (off := 1057) (by rw [hc420]; rfl) (tgt := 1089) (by decide) ?_
                                                                                  exact b_L_1089 C hr hk hE hX hbl ih _ _ _ _ _ _ _ _ hce hsl h
                                                                                · rw [if_neg hc420] at h
                                                                                  by_cases hc421 : ((xs x3.toNatClampNeg) &&& (63 : Int32)) = (38 : Int32)
                                                                                  · rw [if_pos hc421] at h
                                                                                    refine k_tabIn (pc := 32) C dL_law_32 (by rw [hc421]; decide) (by rw [hc421]; decide) (off := 1070) (by rw [hc421]; rfl) (tgt := 1102) (by decide) ?_
                                                                                    exact b_L_1102 C hr hk hE hX hbl ih _ _ _ _ _ _ _ _ hce hsl h
                                                                                  · rw [if_neg hc421] at h
                                                                                    by_cases hc422 : ((xs x3.toNatClampNeg) &&& (63 : Int32)) = (39 : Int32)
                                                                                    · rw [if_pos hc422] at h
                                                                                      refine k_tabIn (pc := 32) C dL_law_32 (by rw [hc422]; decide) (by rw [hc422]; decide) (off := 1113) (by rw [hc422]; rfl) (tgt := 1145) (by decide) ?_
                                                                                      exact b_L_1145 C hr hk hE hX hbl ih _ _ _ _ _ _ _ _ hce hsl h
                                                                                    · rw [if_neg hc422] at h
                                                                                      by_cases hc423 : ((xs x3.toNatClampNeg) &&& (63 : Int32)) = (40 : Int32)
                                                                                      · rw [if_pos hc423] at h
                                                                                        refine k_tabIn (pc := 32) C dL_law_32 (by rw [hc423]; decide) (by rw [hc423]; decide) (off := 1156) (by rw [hc423]; rfl) (tgt := 1188) (by decide) ?_
                                                                                        exact b_L_1188 C hr hk hE hX hbl ih _ _ _ _ _ _ _ _ hce hsl h
                                                                                      · rw [if_neg hc423] at h
                                                                                        by_cases hc424 : ((xs x3.toNatClampNeg) &&& (63 : Int32)) = (41 : Int32)
                                                                                        · rw [if_pos hc424] at h
                                                                                          refine k_tabIn (pc := 32) C dL_law_32 (by rw [hc424]; decide) (by rw [hc424]; decide) (off := 1199) (by rw [hc424]; rfl) (tgt := 1231) (by decide) ?_
                                                                                          exact b_L_1231 C hr hk hE hX hbl ih _ _ _ _ _ _ _ _ hce hsl h
                                                                                        · rw [if_neg hc424] at h
                                                                                          by_cases hc425 : ((xs x3.toNatClampNeg) &&& (63 : Int32)) = (42 : Int32)
                                                                                          · rw [if_pos hc425] at h
                                                                                            refine k_tabIn (pc := 32) C dL_law_32 (by rw [hc425]; decide) (by rw [hc425]; decide) (off := 1242) (by rw [hc425]; rfl) (tgt := 1274) (by decide) ?_
                                                                                            exact b_L_1274 C hr hk hE hX hbl ih _ _ _ _ _ _ _ _ hce hsl h
                                                                                          · rw [if_neg hc425] at h
                                                                                            by_cases hc426 : ((xs x3.toNatClampNeg) &&& (63 : Int32)) = (43 : Int32)
                                                                                            · rw [if_pos hc426] at h
                                                                                              refine k_tabIn (pc := 32) C dL_law_32 (by rw [hc426]; decide) (by rw [hc426]; decide) (off := 1285) (by rw [hc426]; rfl) (tgt := 1317) (by decide) ?_
                                                                                              exact b_L_1317 C hr hk hE hX hbl ih _ _ _ _ _ _ _ _ hce hsl h
                                                                                            · rw [if_neg hc426] at h
                                                                                              by_cases hc427 : ((xs x3.toNatClampNeg) &&& (63 : Int32)) = (44 : Int32)
                                                                                              · rw [if_pos hc427] at h
                                                                                                refine k_tabIn (pc := 32) C dL_law_32 (by rw [hc427]; decide) (by rw [hc427]; decide) (off := 1328) (by rw [hc427]; rfl) (tgt := 1360) (by decide) ?_
                                                                                                exact b_L_1360 C hr hk hE hX hbl ih _ _ _ _ _ _ _ _ hce hsl h
                                                                                              · rw [if_neg hc427] at h
                                                                                                by_cases hc428 : ((xs x3.toNatClampNeg) &&& (63 : Int32)) = (45 : Int32)
                                                                                                · rw [if_pos hc428] at h
                                                                                                  refine k_tabIn (pc := 32) C dL_law_32 (by rw [hc428]; decide) (by rw [hc428]; decide) (off := 1361) (by rw [hc428]; rfl) (tgt := 1393) (by decide) ?_
                                                                                                  exact b_L_1393 C hr hk hE hX hbl ih _ _ _ _ _ _ _ _ hce hsl h
                                                                                                · rw [if_neg hc428] at h
                                                                                                  by_cases hc429 : ((xs x3.toNatClampNeg) &&& (63 : Int32)) = (46 : Int32)
                                                                                                  · rw [if_pos hc429] at h
                                                                                                    refine k_tabIn (pc := 32) C dL_law_32 (by rw [hc429]; decide) (by rw [hc429]; decide) (off := 1404) (by rw [hc429]; rfl) (tgt := 1436) (by decide) ?_
                                                                                                    exact b_L_1436 C hr hk hE hX hbl ih _ _ _ _ _ _ _ _ hce hsl h
                                                                                                  · rw [if_neg hc429] at h
                                                                                                    by_cases hc430 : ((xs x3.toNatClampNeg) &&& (63 : Int32)) = (47 : Int32)
                                                                                                    · rw [if_pos hc430] at h
                                                                                                      refine k_tabIn (pc := 32) C dL_law_32 (by rw [hc430]; decide) (by rw [hc430]; decide) (off := 1427) (by rw [hc430]; rfl) (tgt := 1459) (by decide) ?_
                                                                                                      exact b_L_1459 C hr hk hE hX hbl ih _ _ _ _ _ _ _ _ hce hsl h
                                                                                                    · rw [if_neg hc430] at h
                                                                                                      by_cases hc431 : ((xs x3.toNatClampNeg) &&& (63 : Int32)) = (48 : Int32)
                                                                                                      · rw [if_pos hc431] at h
                                                                                                        refine k_tabIn (pc := 32) C dL_law_32 (by rw [hc431]; decide) (by rw [hc431]; decide) (off := 1450) (by rw [hc431]; rfl) (tgt := 1482) (by decide) ?_
                                                                                                        exact b_L_1482 C hr hk hE hX hbl ih _ _ _ _ _ _ _ _ hce hsl h
                                                                                                      · rw [if_neg hc431] at h
                                                                                                        by_cases hc432 : ((xs x3.toNatClampNeg) &&& (63 : Int32)) = (49 : Int32)
                                                                                                        · rw [if_pos hc432] at h
                                                                                                          refine k_tabIn (pc := 32) C dL_law_32 (by rw [hc432]; decide) (by rw [hc432]; decide) (off := 1463) (by rw [hc432]; rfl) (tgt := 1495) (by decide) ?_
                                                                                                          exact b_L_1495 C hr hk hE hX hbl ih _ _ _ _ _ _ _ _ hce hsl h
                                                                                                        · rw [if_neg hc432] at h
                                                                                                          refine k_tabOut (pc := 32) C dL_law_32 (tab_out ((xs x3.toNatClampNeg) &&& (63 : Int32)) 0 49 (fun z h1 h2 hz => by
                                                                                                            have hz2 : z = 0 ∨ z = 1 ∨ z = 2 ∨ z = 3 ∨ z = 4 ∨ z = 5 ∨ z = 6 ∨ z = 7 ∨ z = 8 ∨ z = 9 ∨ z = 10 ∨ z = 11 ∨ z = 12 ∨ z = 13 ∨ z = 14 ∨ z = 15 ∨ z = 16 ∨ z = 17 ∨ z = 18 ∨ z = 19 ∨ z = 20 ∨ z = 21 ∨ z = 22 ∨ z = 23 ∨ z = 24 ∨ z = 25 ∨ z = 26 ∨ z = 27 ∨ z = 28 ∨ z = 29 ∨ z = 30 ∨ z = 31 ∨ z = 32 ∨ z = 33 ∨ z = 34 ∨ z = 35 ∨ z = 36 ∨ z = 37 ∨ z = 38 ∨ z = 39 ∨ z = 40 ∨ z = 41 ∨ z = 42 ∨ z = 43 ∨ z = 44 ∨ z = 45 ∨ z = 46 ∨ z = 47 ∨ z = 48 ∨ z = 49 := by omega
                                                                                                            rcases hz2 with rfl | rfl | rfl | rfl | rfl | rfl | rfl | rfl | rfl | rfl | rfl | rfl | rfl | rfl | rfl | rfl | rfl | rfl | rfl | rfl | rfl | rfl | rfl | rfl | rfl | rfl | rfl | rfl | rfl | rfl | rfl | rfl | rfl | rfl | rfl | rfl | rfl | rfl | rfl | rfl | rfl | rfl | rfl | rfl | rfl | rfl | rfl | rfl | rfl | rfl
                                                                                                            · exact hc383 (Int32.toInt_inj.mp (hz.trans (by decide)))
                                                                                                            · exact hc384 (Int32.toInt_inj.mp (hz.trans (by decide)))
                                                                                                            · exact hc385 (Int32.toInt_inj.mp (hz.trans (by decide)))
                                                                                                            · exact hc386 (Int32.toInt_inj.mp (hz.trans (by decide)))
                                                                                                            · exact hc387 (Int32.toInt_inj.mp (hz.trans (by decide)))
                                                                                                            · exact hc388 (Int32.toInt_inj.mp (hz.trans (by decide)))
                                                                                                            · exact hc389 (Int32.toInt_inj.mp (hz.trans (by decide)))
                                                                                                            · exact hc390 (Int32.toInt_inj.mp (hz.trans (by decide)))
                                                                                                            · exact hc391 (Int32.toInt_inj.mp (hz.trans (by decide)))
                                                                                                            · exact hc392 (Int32.toInt_inj.mp (hz.trans (by decide)))
                                                                                                            · exact hc393 (Int32.toInt_inj.mp (hz.trans (by decide)))
                                                                                                            · exact hc394 (Int32.toInt_inj.mp (hz.trans (by decide)))
                                                                                                            · exact hc395 (Int32.toInt_inj.mp (hz.trans (by decide)))
                                                                                                            · exact hc396 (Int32.toInt_inj.mp (hz.trans (by decide)))
                                                                                                            · exact hc397 (Int32.toInt_inj.mp (hz.trans (by decide)))
                                                                                                            · exact hc398 (Int32.toInt_inj.mp (hz.trans (by decide)))
                                                                                                            · exact hc399 (Int32.toInt_inj.mp (hz.trans (by decide)))
                                                                                                            · exact hc400 (Int32.toInt_inj.mp (hz.trans (by decide)))
                                                                                                            · exact hc401 (Int32.toInt_inj.mp (hz.trans (by decide)))
                                                                                                            · exact hc402 (Int32.toInt_inj.mp (hz.trans (by decide)))
                                                                                                            · exact hc403 (Int32.toInt_inj.mp (hz.trans (by decide)))
                                                                                                            · exact hc404 (Int32.toInt_inj.mp (hz.trans (by decide)))
                                                                                                            · exact hc405 (Int32.toInt_inj.mp (hz.trans (by decide)))
                                                                                                            · exact hc406 (Int32.toInt_inj.mp (hz.trans (by decide)))
                                                                                                            · exact hc407 (Int32.toInt_inj.mp (hz.trans (by decide)))
                                                                                                            · exact hc408 (Int32.toInt_inj.mp (hz.trans (by decide)))
                                                                                                            · exact hc409 (Int32.toInt_inj.mp (hz.trans (by decide)))
                                                                                                            · exact hc410 (Int32.toInt_inj.mp (hz.trans (by decide)))
                                                                                                            · exact hc411 (Int32.toInt_inj.mp (hz.trans (by decide)))
                                                                                                            · exact hc412 (Int32.toInt_inj.mp (hz.trans (by decide)))
                                                                                                            · exact hc413 (Int32.toInt_inj.mp (hz.trans (by decide)))
                                                                                                            · exact hc414 (Int32.toInt_inj.mp (hz.trans (by decide)))
                                                                                                            · exact hc415 (Int32.toInt_inj.mp (hz.trans (by decide)))
                                                                                                            · exact hc416 (Int32.toInt_inj.mp (hz.trans (by decide)))
                                                                                                            · exact hc417 (Int32.toInt_inj.mp (hz.trans (by decide)))
                                                                                                            · exact hc418 (Int32.toInt_inj.mp (hz.trans (by decide)))
                                                                                                            · exact hc419 (Int32.toInt_inj.mp (hz.trans (by decide)))
                                                                                                            · exact hc420 (Int32.toInt_inj.mp (hz.trans (by decide)))
                                                                                                            · exact hc421 (Int32.toInt_inj.mp (hz.trans (by decide)))
                                                                                                            · exact hc422 (Int32.toInt_inj.mp (hz.trans (by decide)))
                                                                                                            · exact hc423 (Int32.toInt_inj.mp (hz.trans (by decide)))
                                                                                                            · exact hc424 (Int32.toInt_inj.mp (hz.trans (by decide)))
                                                                                                            · exact hc425 (Int32.toInt_inj.mp (hz.trans (by decide)))
                                                                                                            · exact hc426 (Int32.toInt_inj.mp (hz.trans (by decide)))
                                                                                                            · exact hc427 (Int32.toInt_inj.mp (hz.trans (by decide)))
                                                                                                            · exact hc428 (Int32.toInt_inj.mp (hz.trans (by decide)))
                                                                                                            · exact hc429 (Int32.toInt_inj.mp (hz.trans (by decide)))
                                                                                                            · exact hc430 (Int32.toInt_inj.mp (hz.trans (by decide)))
                                                                                                            · exact hc431 (Int32.toInt_inj.mp (hz.trans (by decide)))
                                                                                                            · exact hc432 (Int32.toInt_inj.mp (hz.trans (by decide)))
                                                                                                            ) ) (tgt := 1508) (by decide) ?_
                                                                                                          refine k_iinc (pc := 1508) C dL_law_1508 3 rfl (v := x3 + (5 : Int32)) (by rfl) (by decide) (L2 := [(0, .ref b), (1, .ref (E.1 + a1)), (2, .ref (E.1 + a2)), (3, .int (x3 + (5 : Int32)))]) rfl ?_
                                                                                                          refine k_goto (pc := 1511) C dL_law_1511 (tgt := 18) (by decide) ?_
                                                                                                          exact ih _ _ _ _ _ _ _ _ (by omega) (by omega) h
def f_L (L : Nat) (xs : Nat → Int32) (S : Sh) (R : Rw) (I : Iw) : Option Int32 := lt S.length (fun q1 => lt (S ++ [(11, 12)]) (fun S2 => lt (setA R q1 (fun _ => none)) (fun R3 => lt (setA I q1 (fun _ => 0)) (fun I4 => bd (f_X11_init S2 R3 I4 q1) (fun r6 => lt r6.1.length (fun q7 => lt (r6.1 ++ [(12, 34)]) (fun S8 => lt (setA r6.2.1 q7 (fun _ => none)) (fun R9 => lt (setA r6.2.2 q7 (fun _ => 0)) (fun I10 => bd (f_X12_init S8 R9 I10 q7) (fun r12 => f_L_18 L xs 513 r12.1 r12.2.1 r12.2.2 q1 q7 (0 : Int32)))))))))))
set_option maxHeartbeats 8000000 in
theorem b_L {E : Ev} {p : Program} {l : Launch} {e : Env} {s : State} {m : MethodId} {below : List Frame} {meth : Method} {c : Code} {b L : Nat} {xs : Nat → Int32} (C : Cx E RL code 4 p s m c) (hr : meth.sig.returnType = ret) (hk : meth.locks = false) (hE : E.2.2.2.2.1 = s) (hX : va_X b L xs s s.heap) (hbl : b < E.1) (S : Sh) (R : Rw) (I : Iw) (h : f_L L xs S R I = some 1) : Wk E 4 p l e room_1 s m #[Value.ref b] below meth c 0 0 (lw_Z below #[Value.ref b] s) 0 [(0, .ref b)] [] S R I := by
  rw [f_L] at h
  obtain ⟨q1, eq1, h⟩ := lt_e h
  obtain ⟨S2, eS2, h⟩ := lt_e h
  obtain ⟨R3, eR3, h⟩ := lt_e h
  obtain ⟨I4, eI4, h⟩ := lt_e h
  refine k_new (pc := 0) C lkN_RL_7 (Nat.le_of_ble_eq_true rfl) (Nat.le_of_ble_eq_true rfl) dL_law_0 ?_
  rw [← eq1, ← eS2, ← eR3, ← eI4]
  refine k_nf (cells2 := 1) (slots2 := 12) (st2 := [.ref (E.1 + q1)]) rfl rfl rfl ?_
  refine k_dup (pc := 3) C dL_law_3 rfl ?_
  obtain ⟨r6, hr6, h⟩ := bd_e h
  refine k_I (pc := 4) (st := [.ref (E.1 + q1)]) C (c_X11_init hr6) lkI_RL_9 rfl rfl (Nat.le_of_ble_eq_true rfl) (Nat.le_of_ble_eq_true rfl) (Nat.le_of_ble_eq_true rfl) (by show 1 + 64 ≤ 600000; omega) (by show 12 + 27865 ≤ 7302250; omega) dL_law_4 ?_
  refine k_nf (cells2 := 65) (slots2 := 27877) (st2 := [.ref (E.1 + q1)]) rfl rfl rfl ?_
  refine k_astoren (pc := 7) C dL_law_7 (i := 1) rfl (by decide) (L2 := [(0, .ref b), (1, .ref (E.1 + q1))]) rfl ?_
  obtain ⟨q7, eq7, h⟩ := lt_e h
  obtain ⟨S8, eS8, h⟩ := lt_e h
  obtain ⟨R9, eR9, h⟩ := lt_e h
  obtain ⟨I10, eI10, h⟩ := lt_e h
  refine k_new (pc := 8) C lkN_RL_10 (Nat.le_of_ble_eq_true rfl) (Nat.le_of_ble_eq_true rfl) dL_law_8 ?_
  rw [← eq7, ← eS8, ← eR9, ← eI10]
  refine k_nf (cells2 := 66) (slots2 := 27911) (st2 := [.ref (E.1 + q7)]) rfl rfl rfl ?_
  refine k_dup (pc := 11) C dL_law_11 rfl ?_
  obtain ⟨r12, hr12, h⟩ := bd_e h
  refine k_I (pc := 12) (st := [.ref (E.1 + q7)]) C (c_X12_init hr12) lkI_RL_12 rfl rfl (Nat.le_of_ble_eq_true rfl) (Nat.le_of_ble_eq_true rfl) (Nat.le_of_ble_eq_true rfl) (by show 66 + 21 ≤ 600000; omega) (by show 27911 + 1671 ≤ 7302250; omega) dL_law_12 ?_
  refine k_nf (cells2 := 87) (slots2 := 29582) (st2 := [.ref (E.1 + q7)]) rfl rfl rfl ?_
  refine k_astoren (pc := 15) C dL_law_15 (i := 2) rfl (by decide) (L2 := [(0, .ref b), (1, .ref (E.1 + q1)), (2, .ref (E.1 + q7))]) rfl ?_
  refine k_iconst (pc := 16) C (v := (0 : Int32)) dL_law_16 (by decide) ?_
  refine k_istoren (pc := 17) C dL_law_17 (i := 3) rfl (by decide) (L2 := [(0, .ref b), (1, .ref (E.1 + q1)), (2, .ref (E.1 + q7)), (3, .int (0 : Int32))]) rfl ?_
  exact b_L_18 C hr hk hE hX hbl _ _ _ _ _ _ _ _ _ (by omega) (by omega) h
