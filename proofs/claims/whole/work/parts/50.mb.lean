/-! X12_body -/
theorem lkV_RX12_363 : LkV RX12 363 RX12 yX12_began cX12_began 2 none 1 := ⟨(t7_in 130 (by decide +kernel) rfl), (t7_in 132 (by decide +kernel) rfl), (t0_in 77 (by decide +kernel) rfl), (t7_in 133 (by decide +kernel) rfl), (t1_in 7 (by decide +kernel) rfl), by decide, by decide +kernel⟩
theorem lkV_RX12_366 : LkV RX12 366 RX12 yX12_voiced cX12_voiced 3 (some .int) 2 := ⟨(t7_in 115 (by decide +kernel) rfl), (t7_in 117 (by decide +kernel) rfl), (t0_in 74 (by decide +kernel) rfl), (t7_in 118 (by decide +kernel) rfl), (t1_in 7 (by decide +kernel) rfl), by decide, by decide +kernel⟩
theorem lkP_RX12_357_12 : LkP RX12 357 12 33 .boolean := ⟨RX12, TX12, 34, "UnlikeNeighboursModel", fc12, by decide, (t5_in 114 (by decide +kernel) rfl), Or.inl rfl, rfl, by decide +kernel⟩
theorem dX12_body_0 : decode cX12_body 0 = .ok (.aload_n 0, 1) := by decide +kernel
theorem dX12_body_1 : decode cX12_body 1 = .ok (.getfield 347, 3) := by decide +kernel
theorem dX12_body_4 : decode cX12_body 4 = .ok (.istore 4, 2) := by decide +kernel
theorem dX12_body_6 : decode cX12_body 6 = .ok (.aload_n 0, 1) := by decide +kernel
theorem dX12_body_7 : decode cX12_body 7 = .ok (.aload_n 0, 1) := by decide +kernel
theorem dX12_body_8 : decode cX12_body 8 = .ok (.getfield 347, 3) := by decide +kernel
theorem dX12_body_11 : decode cX12_body 11 = .ok (.iconst 2, 1) := by decide +kernel
theorem dX12_body_12 : decode cX12_body 12 = .ok (.invokevirtual 209, 3) := by decide +kernel
theorem dX12_body_15 : decode cX12_body 15 = .ok (.istore 5, 2) := by decide +kernel
theorem dX12_body_17 : decode cX12_body 17 = .ok (.iconst 4, 1) := by decide +kernel
theorem dX12_body_18 : decode cX12_body 18 = .ok (.iload_n 1, 1) := by decide +kernel
theorem dX12_body_19 : decode cX12_body 19 = .ok (.imul, 1) := by decide +kernel
theorem dX12_body_20 : decode cX12_body 20 = .ok (.iload_n 2, 1) := by decide +kernel
theorem dX12_body_21 : decode cX12_body 21 = .ok (.iadd, 1) := by decide +kernel
theorem dX12_body_22 : decode cX12_body 22 = .ok (.tableswitch 292 0 21 #[102, 113, 128, 169, 185, 292, 292, 292, 292, 201, 292, 292, 218, 292, 292, 235, 292, 292, 261, 292, 292, 277], 102) := by decide +kernel
theorem dX12_body_124 : decode cX12_body 124 = .ok (.aload_n 0, 1) := by decide +kernel
theorem dX12_body_125 : decode cX12_body 125 = .ok (.bipush 10, 2) := by decide +kernel
theorem dX12_body_127 : decode cX12_body 127 = .ok (.invokevirtual 363, 3) := by decide +kernel
theorem dX12_body_130 : decode cX12_body 130 = .ok (.iload_n 3, 1) := by decide +kernel
theorem dX12_body_131 : decode cX12_body 131 = .ok (.iload 4, 2) := by decide +kernel
theorem dX12_body_133 : decode cX12_body 133 = .ok (.isub, 1) := by decide +kernel
theorem dX12_body_134 : decode cX12_body 134 = .ok (.ireturn, 1) := by decide +kernel
theorem dX12_body_135 : decode cX12_body 135 = .ok (.aload_n 0, 1) := by decide +kernel
theorem dX12_body_136 : decode cX12_body 136 = .ok (.bipush 11, 2) := by decide +kernel
theorem dX12_body_138 : decode cX12_body 138 = .ok (.invokevirtual 363, 3) := by decide +kernel
theorem dX12_body_141 : decode cX12_body 141 = .ok (.aload_n 0, 1) := by decide +kernel
theorem dX12_body_142 : decode cX12_body 142 = .ok (.iconst 0, 1) := by decide +kernel
theorem dX12_body_143 : decode cX12_body 143 = .ok (.iload_n 3, 1) := by decide +kernel
theorem dX12_body_144 : decode cX12_body 144 = .ok (.invokevirtual 366, 3) := by decide +kernel
theorem dX12_body_147 : decode cX12_body 147 = .ok (.iconst 3, 1) := by decide +kernel
theorem dX12_body_148 : decode cX12_body 148 = .ok (.imul, 1) := by decide +kernel
theorem dX12_body_149 : decode cX12_body 149 = .ok (.ireturn, 1) := by decide +kernel
theorem dX12_body_150 : decode cX12_body 150 = .ok (.aload_n 0, 1) := by decide +kernel
theorem dX12_body_151 : decode cX12_body 151 = .ok (.bipush 12, 2) := by decide +kernel
theorem dX12_body_153 : decode cX12_body 153 = .ok (.invokevirtual 363, 3) := by decide +kernel
theorem dX12_body_156 : decode cX12_body 156 = .ok (.aload_n 0, 1) := by decide +kernel
theorem dX12_body_157 : decode cX12_body 157 = .ok (.iload 5, 2) := by decide +kernel
theorem dX12_body_159 : decode cX12_body 159 = .ok (.iload 4, 2) := by decide +kernel
theorem dX12_body_161 : decode cX12_body 161 = .ok (.if_icmp .ne 7, 3) := by decide +kernel
theorem dX12_body_164 : decode cX12_body 164 = .ok (.iconst 1, 1) := by decide +kernel
theorem dX12_body_165 : decode cX12_body 165 = .ok (.goto 4, 3) := by decide +kernel
theorem dX12_body_168 : decode cX12_body 168 = .ok (.iconst 0, 1) := by decide +kernel
theorem dX12_body_169 : decode cX12_body 169 = .ok (.putfield 357, 3) := by decide +kernel
theorem dX12_body_172 : decode cX12_body 172 = .ok (.aload_n 0, 1) := by decide +kernel
theorem dX12_body_173 : decode cX12_body 173 = .ok (.getfield 357, 3) := by decide +kernel
theorem dX12_body_176 : decode cX12_body 176 = .ok (.ifCond .eq 7, 3) := by decide +kernel
theorem dX12_body_179 : decode cX12_body 179 = .ok (.iconst 0, 1) := by decide +kernel
theorem dX12_body_180 : decode cX12_body 180 = .ok (.goto 10, 3) := by decide +kernel
theorem dX12_body_183 : decode cX12_body 183 = .ok (.iload_n 3, 1) := by decide +kernel
theorem dX12_body_184 : decode cX12_body 184 = .ok (.iload 5, 2) := by decide +kernel
theorem dX12_body_186 : decode cX12_body 186 = .ok (.iload 4, 2) := by decide +kernel
theorem dX12_body_188 : decode cX12_body 188 = .ok (.isub, 1) := by decide +kernel
theorem dX12_body_189 : decode cX12_body 189 = .ok (.idiv, 1) := by decide +kernel
theorem dX12_body_190 : decode cX12_body 190 = .ok (.ireturn, 1) := by decide +kernel
theorem dX12_body_191 : decode cX12_body 191 = .ok (.aload_n 0, 1) := by decide +kernel
theorem dX12_body_192 : decode cX12_body 192 = .ok (.bipush 13, 2) := by decide +kernel
theorem dX12_body_194 : decode cX12_body 194 = .ok (.invokevirtual 363, 3) := by decide +kernel
theorem dX12_body_197 : decode cX12_body 197 = .ok (.aload_n 0, 1) := by decide +kernel
theorem dX12_body_198 : decode cX12_body 198 = .ok (.iconst 1, 1) := by decide +kernel
theorem dX12_body_199 : decode cX12_body 199 = .ok (.iload_n 3, 1) := by decide +kernel
theorem dX12_body_200 : decode cX12_body 200 = .ok (.invokevirtual 366, 3) := by decide +kernel
theorem dX12_body_203 : decode cX12_body 203 = .ok (.iload 5, 2) := by decide +kernel
theorem dX12_body_205 : decode cX12_body 205 = .ok (.ixor, 1) := by decide +kernel
theorem dX12_body_206 : decode cX12_body 206 = .ok (.ireturn, 1) := by decide +kernel
theorem dX12_body_207 : decode cX12_body 207 = .ok (.aload_n 0, 1) := by decide +kernel
theorem dX12_body_208 : decode cX12_body 208 = .ok (.bipush 20, 2) := by decide +kernel
theorem dX12_body_210 : decode cX12_body 210 = .ok (.invokevirtual 363, 3) := by decide +kernel
theorem dX12_body_213 : decode cX12_body 213 = .ok (.aload_n 0, 1) := by decide +kernel
theorem dX12_body_214 : decode cX12_body 214 = .ok (.iconst 0, 1) := by decide +kernel
theorem dX12_body_215 : decode cX12_body 215 = .ok (.iconst 0, 1) := by decide +kernel
theorem dX12_body_216 : decode cX12_body 216 = .ok (.iload_n 3, 1) := by decide +kernel
theorem dX12_body_217 : decode cX12_body 217 = .ok (.invokevirtual 350, 3) := by decide +kernel
theorem dX12_body_220 : decode cX12_body 220 = .ok (.iconst 2, 1) := by decide +kernel
theorem dX12_body_221 : decode cX12_body 221 = .ok (.imul, 1) := by decide +kernel
theorem dX12_body_222 : decode cX12_body 222 = .ok (.ireturn, 1) := by decide +kernel
theorem dX12_body_223 : decode cX12_body 223 = .ok (.aload_n 0, 1) := by decide +kernel
theorem dX12_body_224 : decode cX12_body 224 = .ok (.bipush 30, 2) := by decide +kernel
theorem dX12_body_226 : decode cX12_body 226 = .ok (.invokevirtual 363, 3) := by decide +kernel
theorem dX12_body_229 : decode cX12_body 229 = .ok (.aload_n 0, 1) := by decide +kernel
theorem dX12_body_230 : decode cX12_body 230 = .ok (.iconst 0, 1) := by decide +kernel
theorem dX12_body_231 : decode cX12_body 231 = .ok (.iconst 1, 1) := by decide +kernel
theorem dX12_body_232 : decode cX12_body 232 = .ok (.iload_n 3, 1) := by decide +kernel
theorem dX12_body_233 : decode cX12_body 233 = .ok (.invokevirtual 350, 3) := by decide +kernel
theorem dX12_body_236 : decode cX12_body 236 = .ok (.iload 5, 2) := by decide +kernel
theorem dX12_body_238 : decode cX12_body 238 = .ok (.iadd, 1) := by decide +kernel
theorem dX12_body_239 : decode cX12_body 239 = .ok (.ireturn, 1) := by decide +kernel
theorem dX12_body_240 : decode cX12_body 240 = .ok (.aload_n 0, 1) := by decide +kernel
theorem dX12_body_241 : decode cX12_body 241 = .ok (.bipush 50, 2) := by decide +kernel
theorem dX12_body_243 : decode cX12_body 243 = .ok (.invokevirtual 363, 3) := by decide +kernel
theorem dX12_body_246 : decode cX12_body 246 = .ok (.aload_n 0, 1) := by decide +kernel
theorem dX12_body_247 : decode cX12_body 247 = .ok (.iconst 2, 1) := by decide +kernel
theorem dX12_body_248 : decode cX12_body 248 = .ok (.iconst 0, 1) := by decide +kernel
theorem dX12_body_249 : decode cX12_body 249 = .ok (.iload_n 3, 1) := by decide +kernel
theorem dX12_body_250 : decode cX12_body 250 = .ok (.invokevirtual 350, 3) := by decide +kernel
theorem dX12_body_253 : decode cX12_body 253 = .ok (.iload 5, 2) := by decide +kernel
theorem dX12_body_255 : decode cX12_body 255 = .ok (.ixor, 1) := by decide +kernel
theorem dX12_body_256 : decode cX12_body 256 = .ok (.ireturn, 1) := by decide +kernel
theorem dX12_body_257 : decode cX12_body 257 = .ok (.aload_n 0, 1) := by decide +kernel
theorem dX12_body_258 : decode cX12_body 258 = .ok (.bipush 51, 2) := by decide +kernel
theorem dX12_body_260 : decode cX12_body 260 = .ok (.invokevirtual 363, 3) := by decide +kernel
theorem dX12_body_263 : decode cX12_body 263 = .ok (.aload_n 0, 1) := by decide +kernel
theorem dX12_body_264 : decode cX12_body 264 = .ok (.iconst 2, 1) := by decide +kernel
theorem dX12_body_265 : decode cX12_body 265 = .ok (.iconst 3, 1) := by decide +kernel
theorem dX12_body_266 : decode cX12_body 266 = .ok (.iload_n 3, 1) := by decide +kernel
theorem dX12_body_267 : decode cX12_body 267 = .ok (.invokevirtual 350, 3) := by decide +kernel
theorem dX12_body_270 : decode cX12_body 270 = .ok (.istore 6, 2) := by decide +kernel
theorem dX12_body_272 : decode cX12_body 272 = .ok (.iload 6, 2) := by decide +kernel
theorem dX12_body_274 : decode cX12_body 274 = .ok (.aload_n 0, 1) := by decide +kernel
theorem dX12_body_275 : decode cX12_body 275 = .ok (.iconst 2, 1) := by decide +kernel
theorem dX12_body_276 : decode cX12_body 276 = .ok (.iload 4, 2) := by decide +kernel
theorem dX12_body_278 : decode cX12_body 278 = .ok (.invokevirtual 366, 3) := by decide +kernel
theorem dX12_body_281 : decode cX12_body 281 = .ok (.isub, 1) := by decide +kernel
theorem dX12_body_282 : decode cX12_body 282 = .ok (.ireturn, 1) := by decide +kernel
theorem dX12_body_283 : decode cX12_body 283 = .ok (.aload_n 0, 1) := by decide +kernel
theorem dX12_body_284 : decode cX12_body 284 = .ok (.bipush 40, 2) := by decide +kernel
theorem dX12_body_286 : decode cX12_body 286 = .ok (.invokevirtual 363, 3) := by decide +kernel
theorem dX12_body_289 : decode cX12_body 289 = .ok (.aload_n 0, 1) := by decide +kernel
theorem dX12_body_290 : decode cX12_body 290 = .ok (.iconst 0, 1) := by decide +kernel
theorem dX12_body_291 : decode cX12_body 291 = .ok (.iconst 2, 1) := by decide +kernel
theorem dX12_body_292 : decode cX12_body 292 = .ok (.iload_n 3, 1) := by decide +kernel
theorem dX12_body_293 : decode cX12_body 293 = .ok (.iconst 1, 1) := by decide +kernel
theorem dX12_body_294 : decode cX12_body 294 = .ok (.isub, 1) := by decide +kernel
theorem dX12_body_295 : decode cX12_body 295 = .ok (.invokevirtual 350, 3) := by decide +kernel
theorem dX12_body_298 : decode cX12_body 298 = .ok (.ireturn, 1) := by decide +kernel
theorem dX12_body_299 : decode cX12_body 299 = .ok (.aload_n 0, 1) := by decide +kernel
theorem dX12_body_300 : decode cX12_body 300 = .ok (.bipush 60, 2) := by decide +kernel
theorem dX12_body_302 : decode cX12_body 302 = .ok (.invokevirtual 363, 3) := by decide +kernel
theorem dX12_body_305 : decode cX12_body 305 = .ok (.aload_n 0, 1) := by decide +kernel
theorem dX12_body_306 : decode cX12_body 306 = .ok (.iconst 4, 1) := by decide +kernel
theorem dX12_body_307 : decode cX12_body 307 = .ok (.iconst 1, 1) := by decide +kernel
theorem dX12_body_308 : decode cX12_body 308 = .ok (.iload_n 3, 1) := by decide +kernel
theorem dX12_body_309 : decode cX12_body 309 = .ok (.invokevirtual 350, 3) := by decide +kernel
theorem dX12_body_312 : decode cX12_body 312 = .ok (.ineg, 1) := by decide +kernel
theorem dX12_body_313 : decode cX12_body 313 = .ok (.ireturn, 1) := by decide +kernel
theorem dX12_body_314 : decode cX12_body 314 = .ok (.aload_n 0, 1) := by decide +kernel
theorem dX12_body_315 : decode cX12_body 315 = .ok (.bipush 61, 2) := by decide +kernel
theorem dX12_body_317 : decode cX12_body 317 = .ok (.invokevirtual 363, 3) := by decide +kernel
theorem dX12_body_320 : decode cX12_body 320 = .ok (.aload_n 0, 1) := by decide +kernel
theorem dX12_body_321 : decode cX12_body 321 = .ok (.iconst 4, 1) := by decide +kernel
theorem dX12_body_322 : decode cX12_body 322 = .ok (.iconst 2, 1) := by decide +kernel
theorem dX12_body_323 : decode cX12_body 323 = .ok (.iload_n 3, 1) := by decide +kernel
theorem dX12_body_324 : decode cX12_body 324 = .ok (.invokevirtual 350, 3) := by decide +kernel
theorem dX12_body_327 : decode cX12_body 327 = .ok (.istore 6, 2) := by decide +kernel
theorem dX12_body_329 : decode cX12_body 329 = .ok (.iload 6, 2) := by decide +kernel
theorem dX12_body_331 : decode cX12_body 331 = .ok (.aload_n 0, 1) := by decide +kernel
theorem dX12_body_332 : decode cX12_body 332 = .ok (.iconst 0, 1) := by decide +kernel
theorem dX12_body_333 : decode cX12_body 333 = .ok (.iload 5, 2) := by decide +kernel
theorem dX12_body_335 : decode cX12_body 335 = .ok (.invokevirtual 366, 3) := by decide +kernel
theorem dX12_body_338 : decode cX12_body 338 = .ok (.iadd, 1) := by decide +kernel
theorem dX12_body_339 : decode cX12_body 339 = .ok (.ireturn, 1) := by decide +kernel
def f_X12_body_169 (g : Sh → Rw → Iw → Nat → Int32 → Int32 → Int32 → Option (Iw × Int32)) (S : Sh) (R : Rw)  (I : Iw) (a0 : Nat) (x3 : Int32) (x4 : Int32) (x5 : Int32) (s0 : Int32) (q1 : Nat) : Option (Iw × Int32) := gp (sok S q1 12 34) (gp (zok s0) (lt (up2 I q1 33 s0) (fun I10 => gp (sok S a0 12 34) ((if (I10 a0 33) = 0 then gp (nz (x5 - x4)) (some (I10, x3 / (x5 - x4))) else some (I10, (0 : Int32)))))))
set_option maxHeartbeats 4000000 in
theorem b_X12_body_169 {E : Ev} {p : Program} {l : Launch} {e : Env} {s : State} {m : MethodId} {args : Array Value} {below : List Frame} {meth : Method} {c : Code} {dF dL : Nat} (C : Cx E RX12 cX12_body 7 p s m c) (hr : meth.sig.returnType = (some .int)) (hk : meth.locks = false) {S : Sh} {R : Rw} {r : Iw × Int32} {g : Sh → Rw → Iw → Nat → Int32 → Int32 → Int32 → Option (Iw × Int32)} (hg : ∀ (S : Sh) (R : Rw) (I : Iw) (a0 : Nat) (x1 : Int32) (x2 : Int32) (x3 : Int32) (r : Iw × Int32), g S R I a0 x1 x2 x3 = some r → Mt E l yX12_body cX12_body 7 (some .int) dF dL [.ref (E.1 + a0), .int x1, .int x2, .int x3] S R I S R r.1 (some (.int r.2)) 0 0) : ∀ (I : Iw) (a0 : Nat) (x3 : Int32) (x4 : Int32) (x5 : Int32) (s0 : Int32) (q1 : Nat), f_X12_body_169 g S R   I a0 x3 x4 x5 s0 q1 = some r → Wk E 7 p l e ({ frames := dF + 4, cells := 0, slots := 0, locals := dL + 86 } : Room) s m args below meth c 0 0 (MQ below (Qw E S R r.1 (some (.int r.2))) args s 0 0 (fun q => E.1 ≤ q)) 169 [(0, .ref (E.1 + a0)), (3, .int x3), (4, .int x4), (5, .int x5)] [.int s0, .ref (E.1 + q1)] S R I := by
  intro I a0 x3 x4 x5 s0 q1 h
  rw [f_X12_body_169] at h
  obtain ⟨hs80, h⟩ := gp_e h
  have hs8 := sok_e hs80
  obtain ⟨hz9, h⟩ := gp_e h
  obtain ⟨I10, eI10, h⟩ := lt_e h
  refine k_putZ (pc := 169) C lkP_RX12_357_12 hs8 ir_12_33 (of_decide_eq_true hz9) dX12_body_169 ?_
  rw [← eI10]
  refine k_aloadn (pc := 172) C dX12_body_172 (i := 0) rfl 0 rfl ?_
  obtain ⟨hs110, h⟩ := gp_e h
  have hs11 := sok_e hs110
  refine k_getI (pc := 173) C lkF_RX12_357_12 hs11 ir_12_33 dX12_body_173 ?_
  refine k_if_eq (pc := 176) C dX12_body_176 (tgt := 183) (by decide) (fun hc12 => ?_) (fun hc12 => ?_)
  · rw [if_pos hc12] at h
    refine k_iloadn (pc := 183) C dX12_body_183 (i := 3) rfl 1 rfl ?_
    refine k_iload (pc := 184) C dX12_body_184 3 rfl ?_
    refine k_iload (pc := 186) C dX12_body_186 2 rfl ?_
    refine k_isub (pc := 188) C dX12_body_188 ?_
    obtain ⟨hz13, h⟩ := gp_e h
    refine k_idiv (pc := 189) C dX12_body_189 (of_decide_eq_true hz13) ?_
    have h := Option.some.inj h
    subst h
    exact k_iret (pc := 190) C hr hk dX12_body_190
  · rw [if_neg hc12] at h
    refine k_iconst (pc := 179) C (v := (0 : Int32)) dX12_body_179 (by decide) ?_
    refine k_goto (pc := 180) C dX12_body_180 (tgt := 190) (by decide) ?_
    have h := Option.some.inj h
    subst h
    exact k_iret (pc := 190) C hr hk dX12_body_190
def f_X12_body_b (g : Sh → Rw → Iw → Nat → Int32 → Int32 → Int32 → Option (Iw × Int32)) (S : Sh) (R : Rw)  (I : Iw) (a0 : Nat) (x1 : Int32) (x2 : Int32) (x3 : Int32) : Option (Iw × Int32) := gp (sok S a0 12 34) (bd (f_X12_goodIs S R I a0 (I a0 32) (2 : Int32)) (fun r2 => (if (((4 : Int32) * x1) + x2) = (0 : Int32) then bd (f_X12_began S R I a0 (10 : Int32)) (fun r3 => some (r3, x3 - (I a0 32))) else (if (((4 : Int32) * x1) + x2) = (1 : Int32) then bd (f_X12_began S R I a0 (11 : Int32)) (fun r4 => bd (f_X12_voiced g S R r4 a0 (0 : Int32) x3) (fun r5 => some (r5.1, r5.2 * (3 : Int32)))) else (if (((4 : Int32) * x1) + x2) = (2 : Int32) then bd (f_X12_began S R I a0 (12 : Int32)) (fun r6 => (if r2 = (I a0 32) then f_X12_body_169 g S R  r6 a0 x3 (I a0 32) r2 (1 : Int32) a0 else f_X12_body_169 g S R  r6 a0 x3 (I a0 32) r2 (0 : Int32) a0)) else (if (((4 : Int32) * x1) + x2) = (3 : Int32) then bd (f_X12_began S R I a0 (13 : Int32)) (fun r14 => bd (f_X12_voiced g S R r14 a0 (1 : Int32) x3) (fun r15 => some (r15.1, r15.2 ^^^ r2))) else (if (((4 : Int32) * x1) + x2) = (4 : Int32) then bd (f_X12_began S R I a0 (20 : Int32)) (fun r16 => bd (f_X12_bodyFrom g S R r16 a0 (0 : Int32) (0 : Int32) x3) (fun r17 => some (r17.1, r17.2 * (2 : Int32)))) else (if (((4 : Int32) * x1) + x2) = (5 : Int32) then bd (f_X12_began S R I a0 (61 : Int32)) (fun r18 => bd (f_X12_bodyFrom g S R r18 a0 (4 : Int32) (2 : Int32) x3) (fun r19 => bd (f_X12_voiced g S R r19.1 a0 (0 : Int32) r2) (fun r20 => some (r20.1, r19.2 + r20.2)))) else (if (((4 : Int32) * x1) + x2) = (6 : Int32) then bd (f_X12_began S R I a0 (61 : Int32)) (fun r21 => bd (f_X12_bodyFrom g S R r21 a0 (4 : Int32) (2 : Int32) x3) (fun r22 => bd (f_X12_voiced g S R r22.1 a0 (0 : Int32) r2) (fun r23 => some (r23.1, r22.2 + r23.2)))) else (if (((4 : Int32) * x1) + x2) = (7 : Int32) then bd (f_X12_began S R I a0 (61 : Int32)) (fun r24 => bd (f_X12_bodyFrom g S R r24 a0 (4 : Int32) (2 : Int32) x3) (fun r25 => bd (f_X12_voiced g S R r25.1 a0 (0 : Int32) r2) (fun r26 => some (r26.1, r25.2 + r26.2)))) else (if (((4 : Int32) * x1) + x2) = (8 : Int32) then bd (f_X12_began S R I a0 (61 : Int32)) (fun r27 => bd (f_X12_bodyFrom g S R r27 a0 (4 : Int32) (2 : Int32) x3) (fun r28 => bd (f_X12_voiced g S R r28.1 a0 (0 : Int32) r2) (fun r29 => some (r29.1, r28.2 + r29.2)))) else (if (((4 : Int32) * x1) + x2) = (9 : Int32) then bd (f_X12_began S R I a0 (30 : Int32)) (fun r30 => bd (f_X12_bodyFrom g S R r30 a0 (0 : Int32) (1 : Int32) x3) (fun r31 => some (r31.1, r31.2 + r2))) else (if (((4 : Int32) * x1) + x2) = (10 : Int32) then bd (f_X12_began S R I a0 (61 : Int32)) (fun r32 => bd (f_X12_bodyFrom g S R r32 a0 (4 : Int32) (2 : Int32) x3) (fun r33 => bd (f_X12_voiced g S R r33.1 a0 (0 : Int32) r2) (fun r34 => some (r34.1, r33.2 + r34.2)))) else (if (((4 : Int32) * x1) + x2) = (11 : Int32) then bd (f_X12_began S R I a0 (61 : Int32)) (fun r35 => bd (f_X12_bodyFrom g S R r35 a0 (4 : Int32) (2 : Int32) x3) (fun r36 => bd (f_X12_voiced g S R r36.1 a0 (0 : Int32) r2) (fun r37 => some (r37.1, r36.2 + r37.2)))) else (if (((4 : Int32) * x1) + x2) = (12 : Int32) then bd (f_X12_began S R I a0 (50 : Int32)) (fun r38 => bd (f_X12_bodyFrom g S R r38 a0 (2 : Int32) (0 : Int32) x3) (fun r39 => some (r39.1, r39.2 ^^^ r2))) else (if (((4 : Int32) * x1) + x2) = (13 : Int32) then bd (f_X12_began S R I a0 (61 : Int32)) (fun r40 => bd (f_X12_bodyFrom g S R r40 a0 (4 : Int32) (2 : Int32) x3) (fun r41 => bd (f_X12_voiced g S R r41.1 a0 (0 : Int32) r2) (fun r42 => some (r42.1, r41.2 + r42.2)))) else (if (((4 : Int32) * x1) + x2) = (14 : Int32) then bd (f_X12_began S R I a0 (61 : Int32)) (fun r43 => bd (f_X12_bodyFrom g S R r43 a0 (4 : Int32) (2 : Int32) x3) (fun r44 => bd (f_X12_voiced g S R r44.1 a0 (0 : Int32) r2) (fun r45 => some (r45.1, r44.2 + r45.2)))) else (if (((4 : Int32) * x1) + x2) = (15 : Int32) then bd (f_X12_began S R I a0 (51 : Int32)) (fun r46 => bd (f_X12_bodyFrom g S R r46 a0 (2 : Int32) (3 : Int32) x3) (fun r47 => bd (f_X12_voiced g S R r47.1 a0 (2 : Int32) (I a0 32)) (fun r48 => some (r48.1, r47.2 - r48.2)))) else (if (((4 : Int32) * x1) + x2) = (16 : Int32) then bd (f_X12_began S R I a0 (61 : Int32)) (fun r49 => bd (f_X12_bodyFrom g S R r49 a0 (4 : Int32) (2 : Int32) x3) (fun r50 => bd (f_X12_voiced g S R r50.1 a0 (0 : Int32) r2) (fun r51 => some (r51.1, r50.2 + r51.2)))) else (if (((4 : Int32) * x1) + x2) = (17 : Int32) then bd (f_X12_began S R I a0 (61 : Int32)) (fun r52 => bd (f_X12_bodyFrom g S R r52 a0 (4 : Int32) (2 : Int32) x3) (fun r53 => bd (f_X12_voiced g S R r53.1 a0 (0 : Int32) r2) (fun r54 => some (r54.1, r53.2 + r54.2)))) else (if (((4 : Int32) * x1) + x2) = (18 : Int32) then bd (f_X12_began S R I a0 (40 : Int32)) (fun r55 => bd (f_X12_bodyFrom g S R r55 a0 (0 : Int32) (2 : Int32) (x3 - (1 : Int32))) (fun r56 => some (r56.1, r56.2))) else (if (((4 : Int32) * x1) + x2) = (19 : Int32) then bd (f_X12_began S R I a0 (61 : Int32)) (fun r57 => bd (f_X12_bodyFrom g S R r57 a0 (4 : Int32) (2 : Int32) x3) (fun r58 => bd (f_X12_voiced g S R r58.1 a0 (0 : Int32) r2) (fun r59 => some (r59.1, r58.2 + r59.2)))) else (if (((4 : Int32) * x1) + x2) = (20 : Int32) then bd (f_X12_began S R I a0 (61 : Int32)) (fun r60 => bd (f_X12_bodyFrom g S R r60 a0 (4 : Int32) (2 : Int32) x3) (fun r61 => bd (f_X12_voiced g S R r61.1 a0 (0 : Int32) r2) (fun r62 => some (r62.1, r61.2 + r62.2)))) else (if (((4 : Int32) * x1) + x2) = (21 : Int32) then bd (f_X12_began S R I a0 (60 : Int32)) (fun r63 => bd (f_X12_bodyFrom g S R r63 a0 (4 : Int32) (1 : Int32) x3) (fun r64 => some (r64.1, -r64.2))) else bd (f_X12_began S R I a0 (61 : Int32)) (fun r65 => bd (f_X12_bodyFrom g S R r65 a0 (4 : Int32) (2 : Int32) x3) (fun r66 => bd (f_X12_voiced g S R r66.1 a0 (0 : Int32) r2) (fun r67 => some (r67.1, r66.2 + r67.2))))))))))))))))))))))))))))
set_option maxHeartbeats 4000000 in
theorem b_X12_body_b {E : Ev} {p : Program} {l : Launch} {e : Env} {s : State} {m : MethodId} {args : Array Value} {below : List Frame} {meth : Method} {c : Code} {dF dL : Nat} (C : Cx E RX12 cX12_body 7 p s m c) (hr : meth.sig.returnType = (some .int)) (hk : meth.locks = false) {S : Sh} {R : Rw} {r : Iw × Int32} {g : Sh → Rw → Iw → Nat → Int32 → Int32 → Int32 → Option (Iw × Int32)} (hg : ∀ (S : Sh) (R : Rw) (I : Iw) (a0 : Nat) (x1 : Int32) (x2 : Int32) (x3 : Int32) (r : Iw × Int32), g S R I a0 x1 x2 x3 = some r → Mt E l yX12_body cX12_body 7 (some .int) dF dL [.ref (E.1 + a0), .int x1, .int x2, .int x3] S R I S R r.1 (some (.int r.2)) 0 0) : ∀ (I : Iw) (a0 : Nat) (x1 : Int32) (x2 : Int32) (x3 : Int32), f_X12_body_b g S R   I a0 x1 x2 x3 = some r → Wk E 7 p l e ({ frames := dF + 4, cells := 0, slots := 0, locals := dL + 86 } : Room) s m args below meth c 0 0 (MQ below (Qw E S R r.1 (some (.int r.2))) args s 0 0 (fun q => E.1 ≤ q)) 0 [(0, .ref (E.1 + a0)), (1, .int x1), (2, .int x2), (3, .int x3)] [] S R I := by
  intro I a0 x1 x2 x3 h
  rw [f_X12_body_b] at h
  refine k_aloadn (pc := 0) C dX12_body_0 (i := 0) rfl 0 rfl ?_
  obtain ⟨hs10, h⟩ := gp_e h
  have hs1 := sok_e hs10
  refine k_getI (pc := 1) C lkF_RX12_347_12 hs1 ir_12_32 dX12_body_1 ?_
  refine k_istore (pc := 4) C dX12_body_4 (by decide) (L2 := [(0, .ref (E.1 + a0)), (1, .int x1), (2, .int x2), (3, .int x3), (4, .int (I a0 32))]) rfl ?_
  refine k_aloadn (pc := 6) C dX12_body_6 (i := 0) rfl 0 rfl ?_
  refine k_aloadn (pc := 7) C dX12_body_7 (i := 0) rfl 0 rfl ?_
  refine k_getI (pc := 8) C lkF_RX12_347_12 hs1 ir_12_32 dX12_body_8 ?_
  refine k_iconst (pc := 11) C (v := (2 : Int32)) dX12_body_11 (by decide) ?_
  obtain ⟨r2, hr2, h⟩ := bd_e h
  refine k_V (pc := 12) (st := []) C (c_X12_goodIs hr2) lkV_RX12_209 hs1 rfl rfl rfl (Nat.le_of_ble_eq_true rfl) (by show 1 + 1 ≤ dF + 4; omega) (by show 8 + (3 + 11) + 21 ≤ dL + 86; omega) (Nat.le_of_ble_eq_true rfl) (Nat.le_of_ble_eq_true rfl) dX12_body_12 ?_
  refine k_nf (cells2 := 0) (slots2 := 0) (st2 := [.int r2]) rfl rfl rfl ?_
  refine k_istore (pc := 15) C dX12_body_15 (by decide) (L2 := [(0, .ref (E.1 + a0)), (1, .int x1), (2, .int x2), (3, .int x3), (4, .int (I a0 32)), (5, .int r2)]) rfl ?_
  refine k_iconst (pc := 17) C (v := (4 : Int32)) dX12_body_17 (by decide) ?_
  refine k_iloadn (pc := 18) C dX12_body_18 (i := 1) rfl 1 rfl ?_
  refine k_imul (pc := 19) C dX12_body_19 ?_
  refine k_iloadn (pc := 20) C dX12_body_20 (i := 2) rfl 2 rfl ?_
  refine k_iadd (pc := 21) C dX12_body_21 ?_
  by_cases hc68 : (((4 : Int32) * x1) + x2) = (0 : Int32)
  · rw [if_pos hc68] at h
    refine k_tabIn (pc := 22) C dX12_body_22 (by rw [hc68]; decide) (by rw [hc68]; decide) (off := 102) (by rw [hc68]; rfl) (tgt := 124) (by decide) ?_
    refine k_aloadn (pc := 124) C dX12_body_124 (i := 0) rfl 0 rfl ?_
    refine k_bipush (pc := 125) C (v := (10 : Int32)) dX12_body_125 (by decide) ?_
    obtain ⟨r3, hr3, h⟩ := bd_e h
    refine k_V (pc := 127) (st := []) C (c_X12_began hr3) lkV_RX12_363 hs1 rfl rfl rfl (Nat.le_of_ble_eq_true rfl) (by show 0 + 1 ≤ dF + 4; omega) (by show 8 + (2 + 11) + 0 ≤ dL + 86; omega) (Nat.le_of_ble_eq_true rfl) (Nat.le_of_ble_eq_true rfl) dX12_body_127 ?_
    refine k_nf (cells2 := 0) (slots2 := 0) (st2 := []) rfl rfl rfl ?_
    refine k_iloadn (pc := 130) C dX12_body_130 (i := 3) rfl 3 rfl ?_
    refine k_iload (pc := 131) C dX12_body_131 4 rfl ?_
    refine k_isub (pc := 133) C dX12_body_133 ?_
    have h := Option.some.inj h
    subst h
    exact k_iret (pc := 134) C hr hk dX12_body_134
  · rw [if_neg hc68] at h
    by_cases hc69 : (((4 : Int32) * x1) + x2) = (1 : Int32)
    · rw [if_pos hc69] at h
      refine k_tabIn (pc := 22) C dX12_body_22 (by rw [hc69]; decide) (by rw [hc69]; decide) (off := 113) (by rw [hc69]; rfl) (tgt := 135) (by decide) ?_
      refine k_aloadn (pc := 135) C dX12_body_135 (i := 0) rfl 0 rfl ?_
      refine k_bipush (pc := 136) C (v := (11 : Int32)) dX12_body_136 (by decide) ?_
      obtain ⟨r4, hr4, h⟩ := bd_e h
      refine k_V (pc := 138) (st := []) C (c_X12_began hr4) lkV_RX12_363 hs1 rfl rfl rfl (Nat.le_of_ble_eq_true rfl) (by show 0 + 1 ≤ dF + 4; omega) (by show 8 + (2 + 11) + 0 ≤ dL + 86; omega) (Nat.le_of_ble_eq_true rfl) (Nat.le_of_ble_eq_true rfl) dX12_body_138 ?_
      refine k_nf (cells2 := 0) (slots2 := 0) (st2 := []) rfl rfl rfl ?_
      refine k_aloadn (pc := 141) C dX12_body_141 (i := 0) rfl 0 rfl ?_
      refine k_iconst (pc := 142) C (v := (0 : Int32)) dX12_body_142 (by decide) ?_
      refine k_iloadn (pc := 143) C dX12_body_143 (i := 3) rfl 3 rfl ?_
      obtain ⟨r5, hr5, h⟩ := bd_e h
      refine k_V (pc := 144) (st := []) C (c_X12_voiced hg hr5) lkV_RX12_366 hs1 rfl rfl rfl (Nat.le_of_ble_eq_true rfl) (by show (dF + 3) + 1 ≤ dF + 4; omega) (by show 8 + (3 + 11) + (dL + 64) ≤ dL + 86; omega) (Nat.le_of_ble_eq_true rfl) (Nat.le_of_ble_eq_true rfl) dX12_body_144 ?_
      refine k_nf (cells2 := 0) (slots2 := 0) (st2 := [.int r5.2]) rfl rfl rfl ?_
      refine k_iconst (pc := 147) C (v := (3 : Int32)) dX12_body_147 (by decide) ?_
      refine k_imul (pc := 148) C dX12_body_148 ?_
      have h := Option.some.inj h
      subst h
      exact k_iret (pc := 149) C hr hk dX12_body_149
    · rw [if_neg hc69] at h
      by_cases hc70 : (((4 : Int32) * x1) + x2) = (2 : Int32)
      · rw [if_pos hc70] at h
        refine k_tabIn (pc := 22) C dX12_body_22 (by rw [hc70]; decide) (by rw [hc70]; decide) (off := 128) (by rw [hc70]; rfl) (tgt := 150) (by decide) ?_
        refine k_aloadn (pc := 150) C dX12_body_150 (i := 0) rfl 0 rfl ?_
        refine k_bipush (pc := 151) C (v := (12 : Int32)) dX12_body_151 (by decide) ?_
        obtain ⟨r6, hr6, h⟩ := bd_e h
        refine k_V (pc := 153) (st := []) C (c_X12_began hr6) lkV_RX12_363 hs1 rfl rfl rfl (Nat.le_of_ble_eq_true rfl) (by show 0 + 1 ≤ dF + 4; omega) (by show 8 + (2 + 11) + 0 ≤ dL + 86; omega) (Nat.le_of_ble_eq_true rfl) (Nat.le_of_ble_eq_true rfl) dX12_body_153 ?_
        refine k_nf (cells2 := 0) (slots2 := 0) (st2 := []) rfl rfl rfl ?_
        refine k_aloadn (pc := 156) C dX12_body_156 (i := 0) rfl 0 rfl ?_
        refine k_iload (pc := 157) C dX12_body_157 5 rfl ?_
        refine k_iload (pc := 159) C dX12_body_159 4 rfl ?_
        refine k_icmp_ne (pc := 161) C dX12_body_161 (tgt := 168) (by decide) (fun hc7 => ?_) (fun hc7 => ?_)
        · rw [if_neg hc7] at h
          refine k_iconst (pc := 168) C (v := (0 : Int32)) dX12_body_168 (by decide) ?_
          refine k_loc (L2 := [(0, .ref (E.1 + a0)), (3, .int x3), (4, .int (I a0 32)), (5, .int r2)]) [0, 3, 4, 5] rfl ?_
          exact b_X12_body_169 C hr hk hg  _ _ _ _ _ _ _ h
        · rw [if_pos hc7] at h
          refine k_iconst (pc := 164) C (v := (1 : Int32)) dX12_body_164 (by decide) ?_
          refine k_goto (pc := 165) C dX12_body_165 (tgt := 169) (by decide) ?_
          refine k_loc (L2 := [(0, .ref (E.1 + a0)), (3, .int x3), (4, .int (I a0 32)), (5, .int r2)]) [0, 3, 4, 5] rfl ?_
          exact b_X12_body_169 C hr hk hg  _ _ _ _ _ _ _ h
      · rw [if_neg hc70] at h
        by_cases hc71 : (((4 : Int32) * x1) + x2) = (3 : Int32)
        · rw [if_pos hc71] at h
          refine k_tabIn (pc := 22) C dX12_body_22 (by rw [hc71]; decide) (by rw [hc71]; decide) (off := 169) (by rw [hc71]; rfl) (tgt := 191) (by decide) ?_
          refine k_aloadn (pc := 191) C dX12_body_191 (i := 0) rfl 0 rfl ?_
          refine k_bipush (pc := 192) C (v := (13 : Int32)) dX12_body_192 (by decide) ?_
          obtain ⟨r14, hr14, h⟩ := bd_e h
          refine k_V (pc := 194) (st := []) C (c_X12_began hr14) lkV_RX12_363 hs1 rfl rfl rfl (Nat.le_of_ble_eq_true rfl) (by show 0 + 1 ≤ dF + 4; omega) (by show 8 + (2 + 11) + 0 ≤ dL + 86; omega) (Nat.le_of_ble_eq_true rfl) (Nat.le_of_ble_eq_true rfl) dX12_body_194 ?_
          refine k_nf (cells2 := 0) (slots2 := 0) (st2 := []) rfl rfl rfl ?_
          refine k_aloadn (pc := 197) C dX12_body_197 (i := 0) rfl 0 rfl ?_
          refine k_iconst (pc := 198) C (v := (1 : Int32)) dX12_body_198 (by decide) ?_
          refine k_iloadn (pc := 199) C dX12_body_199 (i := 3) rfl 3 rfl ?_
          obtain ⟨r15, hr15, h⟩ := bd_e h
          refine k_V (pc := 200) (st := []) C (c_X12_voiced hg hr15) lkV_RX12_366 hs1 rfl rfl rfl (Nat.le_of_ble_eq_true rfl) (by show (dF + 3) + 1 ≤ dF + 4; omega) (by show 8 + (3 + 11) + (dL + 64) ≤ dL + 86; omega) (Nat.le_of_ble_eq_true rfl) (Nat.le_of_ble_eq_true rfl) dX12_body_200 ?_
          refine k_nf (cells2 := 0) (slots2 := 0) (st2 := [.int r15.2]) rfl rfl rfl ?_
          refine k_iload (pc := 203) C dX12_body_203 5 rfl ?_
          refine k_ixor (pc := 205) C dX12_body_205 ?_
          have h := Option.some.inj h
          subst h
          exact k_iret (pc := 206) C hr hk dX12_body_206
        · rw [if_neg hc71] at h
          by_cases hc72 : (((4 : Int32) * x1) + x2) = (4 : Int32)
          · rw [if_pos hc72] at h
            refine k_tabIn (pc := 22) C dX12_body_22 (by rw [hc72]; decide) (by rw [hc72]; decide) (off := 185) (by rw [hc72]; rfl) (tgt := 207) (by decide) ?_
            refine k_aloadn (pc := 207) C dX12_body_207 (i := 0) rfl 0 rfl ?_
            refine k_bipush (pc := 208) C (v := (20 : Int32)) dX12_body_208 (by decide) ?_
            obtain ⟨r16, hr16, h⟩ := bd_e h
            refine k_V (pc := 210) (st := []) C (c_X12_began hr16) lkV_RX12_363 hs1 rfl rfl rfl (Nat.le_of_ble_eq_true rfl) (by show 0 + 1 ≤ dF + 4; omega) (by show 8 + (2 + 11) + 0 ≤ dL + 86; omega) (Nat.le_of_ble_eq_true rfl) (Nat.le_of_ble_eq_true rfl) dX12_body_210 ?_
            refine k_nf (cells2 := 0) (slots2 := 0) (st2 := []) rfl rfl rfl ?_
            refine k_aloadn (pc := 213) C dX12_body_213 (i := 0) rfl 0 rfl ?_
            refine k_iconst (pc := 214) C (v := (0 : Int32)) dX12_body_214 (by decide) ?_
            refine k_iconst (pc := 215) C (v := (0 : Int32)) dX12_body_215 (by decide) ?_
            refine k_iloadn (pc := 216) C dX12_body_216 (i := 3) rfl 3 rfl ?_
            obtain ⟨r17, hr17, h⟩ := bd_e h
            refine k_V (pc := 217) (st := []) C (c_X12_bodyFrom hg hr17) lkV_RX12_350 hs1 rfl rfl rfl (Nat.le_of_ble_eq_true rfl) (by show (dF + 1) + 1 ≤ dF + 4; omega) (by show 8 + (5 + 11) + (dL + 26) ≤ dL + 86; omega) (Nat.le_of_ble_eq_true rfl) (Nat.le_of_ble_eq_true rfl) dX12_body_217 ?_
            refine k_nf (cells2 := 0) (slots2 := 0) (st2 := [.int r17.2]) rfl rfl rfl ?_
            refine k_iconst (pc := 220) C (v := (2 : Int32)) dX12_body_220 (by decide) ?_
            refine k_imul (pc := 221) C dX12_body_221 ?_
            have h := Option.some.inj h
            subst h
            exact k_iret (pc := 222) C hr hk dX12_body_222
          · rw [if_neg hc72] at h
            by_cases hc73 : (((4 : Int32) * x1) + x2) = (5 : Int32)
            · rw [if_pos hc73] at h
              refine k_tabIn (pc := 22) C dX12_body_22 (by rw [hc73]; decide) (by rw [hc73]; decide) (off := 292) (by rw [hc73]; rfl) (tgt := 314) (by decide) ?_
              refine k_aloadn (pc := 314) C dX12_body_314 (i := 0) rfl 0 rfl ?_
              refine k_bipush (pc := 315) C (v := (61 : Int32)) dX12_body_315 (by decide) ?_
              obtain ⟨r18, hr18, h⟩ := bd_e h
              refine k_V (pc := 317) (st := []) C (c_X12_began hr18) lkV_RX12_363 hs1 rfl rfl rfl (Nat.le_of_ble_eq_true rfl) (by show 0 + 1 ≤ dF + 4; omega) (by show 8 + (2 + 11) + 0 ≤ dL + 86; omega) (Nat.le_of_ble_eq_true rfl) (Nat.le_of_ble_eq_true rfl) dX12_body_317 ?_
              refine k_nf (cells2 := 0) (slots2 := 0) (st2 := []) rfl rfl rfl ?_
              refine k_aloadn (pc := 320) C dX12_body_320 (i := 0) rfl 0 rfl ?_
              refine k_iconst (pc := 321) C (v := (4 : Int32)) dX12_body_321 (by decide) ?_
              refine k_iconst (pc := 322) C (v := (2 : Int32)) dX12_body_322 (by decide) ?_
              refine k_iloadn (pc := 323) C dX12_body_323 (i := 3) rfl 3 rfl ?_
              obtain ⟨r19, hr19, h⟩ := bd_e h
              refine k_V (pc := 324) (st := []) C (c_X12_bodyFrom hg hr19) lkV_RX12_350 hs1 rfl rfl rfl (Nat.le_of_ble_eq_true rfl) (by show (dF + 1) + 1 ≤ dF + 4; omega) (by show 8 + (5 + 11) + (dL + 26) ≤ dL + 86; omega) (Nat.le_of_ble_eq_true rfl) (Nat.le_of_ble_eq_true rfl) dX12_body_324 ?_
              refine k_nf (cells2 := 0) (slots2 := 0) (st2 := [.int r19.2]) rfl rfl rfl ?_
              refine k_istore (pc := 327) C dX12_body_327 (by decide) (L2 := [(0, .ref (E.1 + a0)), (1, .int x1), (2, .int x2), (3, .int x3), (4, .int (I a0 32)), (5, .int r2), (6, .int r19.2)]) rfl ?_
              refine k_iload (pc := 329) C dX12_body_329 6 rfl ?_
              refine k_aloadn (pc := 331) C dX12_body_331 (i := 0) rfl 0 rfl ?_
              refine k_iconst (pc := 332) C (v := (0 : Int32)) dX12_body_332 (by decide) ?_
              refine k_iload (pc := 333) C dX12_body_333 5 rfl ?_
              obtain ⟨r20, hr20, h⟩ := bd_e h
              refine k_V (pc := 335) (st := [.int r19.2]) C (c_X12_voiced hg hr20) lkV_RX12_366 hs1 rfl rfl rfl (Nat.le_of_ble_eq_true rfl) (by show (dF + 3) + 1 ≤ dF + 4; omega) (by show 8 + (3 + 11) + (dL + 64) ≤ dL + 86; omega) (Nat.le_of_ble_eq_true rfl) (Nat.le_of_ble_eq_true rfl) dX12_body_335 ?_
              refine k_nf (cells2 := 0) (slots2 := 0) (st2 := [.int r20.2, .int r19.2]) rfl rfl rfl ?_
              refine k_iadd (pc := 338) C dX12_body_338 ?_
              have h := Option.some.inj h
              subst h
              exact k_iret (pc := 339) C hr hk dX12_body_339
            · rw [if_neg hc73] at h
              by_cases hc74 : (((4 : Int32) * x1) + x2) = (6 : Int32)
              · rw [if_pos hc74] at h
                refine k_tabIn (pc := 22) C dX12_body_22 (by rw [hc74]; decide) (by rw [hc74]; decide) (off := 292) (by rw [hc74]; rfl) (tgt := 314) (by decide) ?_
                refine k_aloadn (pc := 314) C dX12_body_314 (i := 0) rfl 0 rfl ?_
                refine k_bipush (pc := 315) C (v := (61 : Int32)) dX12_body_315 (by decide) ?_
                obtain ⟨r21, hr21, h⟩ := bd_e h
                refine k_V (pc := 317) (st := []) C (c_X12_began hr21) lkV_RX12_363 hs1 rfl rfl rfl (Nat.le_of_ble_eq_true rfl) (by show 0 + 1 ≤ dF + 4; omega) (by show 8 + (2 + 11) + 0 ≤ dL + 86; omega) (Nat.le_of_ble_eq_true rfl) (Nat.le_of_ble_eq_true rfl) dX12_body_317 ?_
                refine k_nf (cells2 := 0) (slots2 := 0) (st2 := []) rfl rfl rfl ?_
                refine k_aloadn (pc := 320) C dX12_body_320 (i := 0) rfl 0 rfl ?_
                refine k_iconst (pc := 321) C (v := (4 : Int32)) dX12_body_321 (by decide) ?_
                refine k_iconst (pc := 322) C (v := (2 : Int32)) dX12_body_322 (by decide) ?_
                refine k_iloadn (pc := 323) C dX12_body_323 (i := 3) rfl 3 rfl ?_
                obtain ⟨r22, hr22, h⟩ := bd_e h
                refine k_V (pc := 324) (st := []) C (c_X12_bodyFrom hg hr22) lkV_RX12_350 hs1 rfl rfl rfl (Nat.le_of_ble_eq_true rfl) (by show (dF + 1) + 1 ≤ dF + 4; omega) (by show 8 + (5 + 11) + (dL + 26) ≤ dL + 86; omega) (Nat.le_of_ble_eq_true rfl) (Nat.le_of_ble_eq_true rfl) dX12_body_324 ?_
                refine k_nf (cells2 := 0) (slots2 := 0) (st2 := [.int r22.2]) rfl rfl rfl ?_
                refine k_istore (pc := 327) C dX12_body_327 (by decide) (L2 := [(0, .ref (E.1 + a0)), (1, .int x1), (2, .int x2), (3, .int x3), (4, .int (I a0 32)), (5, .int r2), (6, .int r22.2)]) rfl ?_
                refine k_iload (pc := 329) C dX12_body_329 6 rfl ?_
                refine k_aloadn (pc := 331) C dX12_body_331 (i := 0) rfl 0 rfl ?_
                refine k_iconst (pc := 332) C (v := (0 : Int32)) dX12_body_332 (by decide) ?_
                refine k_iload (pc := 333) C dX12_body_333 5 rfl ?_
                obtain ⟨r23, hr23, h⟩ := bd_e h
                refine k_V (pc := 335) (st := [.int r22.2]) C (c_X12_voiced hg hr23) lkV_RX12_366 hs1 rfl rfl rfl (Nat.le_of_ble_eq_true rfl) (by show (dF + 3) + 1 ≤ dF + 4; omega) (by show 8 + (3 + 11) + (dL + 64) ≤ dL + 86; omega) (Nat.le_of_ble_eq_true rfl) (Nat.le_of_ble_eq_true rfl) dX12_body_335 ?_
                refine k_nf (cells2 := 0) (slots2 := 0) (st2 := [.int r23.2, .int r22.2]) rfl rfl rfl ?_
                refine k_iadd (pc := 338) C dX12_body_338 ?_
                have h := Option.some.inj h
                subst h
                exact k_iret (pc := 339) C hr hk dX12_body_339
              · rw [if_neg hc74] at h
                by_cases hc75 : (((4 : Int32) * x1) + x2) = (7 : Int32)
                · rw [if_pos hc75] at h
                  refine k_tabIn (pc := 22) C dX12_body_22 (by rw [hc75]; decide) (by rw [hc75]; decide) (off := 292) (by rw [hc75]; rfl) (tgt := 314) (by decide) ?_
                  refine k_aloadn (pc := 314) C dX12_body_314 (i := 0) rfl 0 rfl ?_
                  refine k_bipush (pc := 315) C (v := (61 : Int32)) dX12_body_315 (by decide) ?_
                  obtain ⟨r24, hr24, h⟩ := bd_e h
                  refine k_V (pc := 317) (st := []) C (c_X12_began hr24) lkV_RX12_363 hs1 rfl rfl rfl (Nat.le_of_ble_eq_true rfl) (by show 0 + 1 ≤ dF + 4; omega) (by show 8 + (2 + 11) + 0 ≤ dL + 86; omega) (Nat.le_of_ble_eq_true rfl) (Nat.le_of_ble_eq_true rfl) dX12_body_317 ?_
                  refine k_nf (cells2 := 0) (slots2 := 0) (st2 := []) rfl rfl rfl ?_
                  refine k_aloadn (pc := 320) C dX12_body_320 (i := 0) rfl 0 rfl ?_
                  refine k_iconst (pc := 321) C (v := (4 : Int32)) dX12_body_321 (by decide) ?_
                  refine k_iconst (pc := 322) C (v := (2 : Int32)) dX12_body_322 (by decide) ?_
                  refine k_iloadn (pc := 323) C dX12_body_323 (i := 3) rfl 3 rfl ?_
                  obtain ⟨r25, hr25, h⟩ := bd_e h
                  refine k_V (pc := 324) (st := []) C (c_X12_bodyFrom hg hr25) lkV_RX12_350 hs1 rfl rfl rfl (Nat.le_of_ble_eq_true rfl) (by show (dF + 1) + 1 ≤ dF + 4; omega) (by show 8 + (5 + 11) + (dL + 26) ≤ dL + 86; omega) (Nat.le_of_ble_eq_true rfl) (Nat.le_of_ble_eq_true rfl) dX12_body_324 ?_
                  refine k_nf (cells2 := 0) (slots2 := 0) (st2 := [.int r25.2]) rfl rfl rfl ?_
                  refine k_istore (pc := 327) C dX12_body_327 (by decide) (L2 := [(0, .ref (E.1 + a0)), (1, .int x1), (2, .int x2), (3, .int x3), (4, .int (I a0 32)), (5, .int r2), (6, .int r25.2)]) rfl ?_
                  refine k_iload (pc := 329) C dX12_body_329 6 rfl ?_
                  refine k_aloadn (pc := 331) C dX12_body_331 (i := 0) rfl 0 rfl ?_
                  refine k_iconst (pc := 332) C (v := (0 : Int32)) dX12_body_332 (by decide) ?_
                  refine k_iload (pc := 333) C dX12_body_333 5 rfl ?_
                  obtain ⟨r26, hr26, h⟩ := bd_e h
                  refine k_V (pc := 335) (st := [.int r25.2]) C (c_X12_voiced hg hr26) lkV_RX12_366 hs1 rfl rfl rfl (Nat.le_of_ble_eq_true rfl) (by show (dF + 3) + 1 ≤ dF + 4; omega) (by show 8 + (3 + 11) + (dL + 64) ≤ dL + 86; omega) (Nat.le_of_ble_eq_true rfl) (Nat.le_of_ble_eq_true rfl) dX12_body_335 ?_
                  refine k_nf (cells2 := 0) (slots2 := 0) (st2 := [.int r26.2, .int r25.2]) rfl rfl rfl ?_
                  refine k_iadd (pc := 338) C dX12_body_338 ?_
                  have h := Option.some.inj h
                  subst h
                  exact k_iret (pc := 339) C hr hk dX12_body_339
                · rw [if_neg hc75] at h
                  by_cases hc76 : (((4 : Int32) * x1) + x2) = (8 : Int32)
                  · rw [if_pos hc76] at h
                    refine k_tabIn (pc := 22) C dX12_body_22 (by rw [hc76]; decide) (by rw [hc76]; decide) (off := 292) (by rw [hc76]; rfl) (tgt := 314) (by decide) ?_
                    refine k_aloadn (pc := 314) C dX12_body_314 (i := 0) rfl 0 rfl ?_
                    refine k_bipush (pc := 315) C (v := (61 : Int32)) dX12_body_315 (by decide) ?_
                    obtain ⟨r27, hr27, h⟩ := bd_e h
                    refine k_V (pc := 317) (st := []) C (c_X12_began hr27) lkV_RX12_363 hs1 rfl rfl rfl (Nat.le_of_ble_eq_true rfl) (by show 0 + 1 ≤ dF + 4; omega) (by show 8 + (2 + 11) + 0 ≤ dL + 86; omega) (Nat.le_of_ble_eq_true rfl) (Nat.le_of_ble_eq_true rfl) dX12_body_317 ?_
                    refine k_nf (cells2 := 0) (slots2 := 0) (st2 := []) rfl rfl rfl ?_
                    refine k_aloadn (pc := 320) C dX12_body_320 (i := 0) rfl 0 rfl ?_
                    refine k_iconst (pc := 321) C (v := (4 : Int32)) dX12_body_321 (by decide) ?_
                    refine k_iconst (pc := 322) C (v := (2 : Int32)) dX12_body_322 (by decide) ?_
                    refine k_iloadn (pc := 323) C dX12_body_323 (i := 3) rfl 3 rfl ?_
                    obtain ⟨r28, hr28, h⟩ := bd_e h
                    refine k_V (pc := 324) (st := []) C (c_X12_bodyFrom hg hr28) lkV_RX12_350 hs1 rfl rfl rfl (Nat.le_of_ble_eq_true rfl) (by show (dF + 1) + 1 ≤ dF + 4; omega) (by show 8 + (5 + 11) + (dL + 26) ≤ dL + 86; omega) (Nat.le_of_ble_eq_true rfl) (Nat.le_of_ble_eq_true rfl) dX12_body_324 ?_
                    refine k_nf (cells2 := 0) (slots2 := 0) (st2 := [.int r28.2]) rfl rfl rfl ?_
                    refine k_istore (pc := 327) C dX12_body_327 (by decide) (L2 := [(0, .ref (E.1 + a0)), (1, .int x1), (2, .int x2), (3, .int x3), (4, .int (I a0 32)), (5, .int r2), (6, .int r28.2)]) rfl ?_
                    refine k_iload (pc := 329) C dX12_body_329 6 rfl ?_
                    refine k_aloadn (pc := 331) C dX12_body_331 (i := 0) rfl 0 rfl ?_
                    refine k_iconst (pc := 332) C (v := (0 : Int32)) dX12_body_332 (by decide) ?_
                    refine k_iload (pc := 333) C dX12_body_333 5 rfl ?_
                    obtain ⟨r29, hr29, h⟩ := bd_e h
                    refine k_V (pc := 335) (st := [.int r28.2]) C (c_X12_voiced hg hr29) lkV_RX12_366 hs1 rfl rfl rfl (Nat.le_of_ble_eq_true rfl) (by show (dF + 3) + 1 ≤ dF + 4; omega) (by show 8 + (3 + 11) + (dL + 64) ≤ dL + 86; omega) (Nat.le_of_ble_eq_true rfl) (Nat.le_of_ble_eq_true rfl) dX12_body_335 ?_
                    refine k_nf (cells2 := 0) (slots2 := 0) (st2 := [.int r29.2, .int r28.2]) rfl rfl rfl ?_
                    refine k_iadd (pc := 338) C dX12_body_338 ?_
                    have h := Option.some.inj h
                    subst h
                    exact k_iret (pc := 339) C hr hk dX12_body_339
                  · rw [if_neg hc76] at h
                    by_cases hc77 : (((4 : Int32) * x1) + x2) = (9 : Int32)
                    · rw [if_pos hc77] at h
                      refine k_tabIn (pc := 22) C dX12_body_22 (by rw [hc77]; decide) (by rw [hc77]; decide) (off := 201) (by rw [hc77]; rfl) (tgt := 223) (by decide) ?_
                      refine k_aloadn (pc := 223) C dX12_body_223 (i := 0) rfl 0 rfl ?_
                      refine k_bipush (pc := 224) C (v := (30 : Int32)) dX12_body_224 (by decide) ?_
                      obtain ⟨r30, hr30, h⟩ := bd_e h
                      refine k_V (pc := 226) (st := []) C (c_X12_began hr30) lkV_RX12_363 hs1 rfl rfl rfl (Nat.le_of_ble_eq_true rfl) (by show 0 + 1 ≤ dF + 4; omega) (by show 8 + (2 + 11) + 0 ≤ dL + 86; omega) (Nat.le_of_ble_eq_true rfl) (Nat.le_of_ble_eq_true rfl) dX12_body_226 ?_
                      refine k_nf (cells2 := 0) (slots2 := 0) (st2 := []) rfl rfl rfl ?_
                      refine k_aloadn (pc := 229) C dX12_body_229 (i := 0) rfl 0 rfl ?_
                      refine k_iconst (pc := 230) C (v := (0 : Int32)) dX12_body_230 (by decide) ?_
                      refine k_iconst (pc := 231) C (v := (1 : Int32)) dX12_body_231 (by decide) ?_
                      refine k_iloadn (pc := 232) C dX12_body_232 (i := 3) rfl 3 rfl ?_
                      obtain ⟨r31, hr31, h⟩ := bd_e h
                      refine k_V (pc := 233) (st := []) C (c_X12_bodyFrom hg hr31) lkV_RX12_350 hs1 rfl rfl rfl (Nat.le_of_ble_eq_true rfl) (by show (dF + 1) + 1 ≤ dF + 4; omega) (by show 8 + (5 + 11) + (dL + 26) ≤ dL + 86; omega) (Nat.le_of_ble_eq_true rfl) (Nat.le_of_ble_eq_true rfl) dX12_body_233 ?_
                      refine k_nf (cells2 := 0) (slots2 := 0) (st2 := [.int r31.2]) rfl rfl rfl ?_
                      refine k_iload (pc := 236) C dX12_body_236 5 rfl ?_
                      refine k_iadd (pc := 238) C dX12_body_238 ?_
                      have h := Option.some.inj h
                      subst h
                      exact k_iret (pc := 239) C hr hk dX12_body_239
                    · rw [if_neg hc77] at h
                      by_cases hc78 : (((4 : Int32) * x1) + x2) = (10 : Int32)
                      · rw [if_pos hc78] at h
                        refine k_tabIn (pc := 22) C dX12_body_22 (by rw [hc78]; decide) (by rw [hc78]; decide) (off := 292) (by rw [hc78]; rfl) (tgt := 314) (by decide) ?_
                        refine k_aloadn (pc := 314) C dX12_body_314 (i := 0) rfl 0 rfl ?_
                        refine k_bipush (pc := 315) C (v := (61 : Int32)) dX12_body_315 (by decide) ?_
                        obtain ⟨r32, hr32, h⟩ := bd_e h
                        refine k_V (pc := 317) (st := []) C (c_X12_began hr32) lkV_RX12_363 hs1 rfl rfl rfl (Nat.le_of_ble_eq_true rfl) (by show 0 + 1 ≤ dF + 4; omega) (by show 8 + (2 + 11) + 0 ≤ dL + 86; omega) (Nat.le_of_ble_eq_true rfl) (Nat.le_of_ble_eq_true rfl) dX12_body_317 ?_
                        refine k_nf (cells2 := 0) (slots2 := 0) (st2 := []) rfl rfl rfl ?_
                        refine k_aloadn (pc := 320) C dX12_body_320 (i := 0) rfl 0 rfl ?_
                        refine k_iconst (pc := 321) C (v := (4 : Int32)) dX12_body_321 (by decide) ?_
                        refine k_iconst (pc := 322) C (v := (2 : Int32)) dX12_body_322 (by decide) ?_
                        refine k_iloadn (pc := 323) C dX12_body_323 (i := 3) rfl 3 rfl ?_
                        obtain ⟨r33, hr33, h⟩ := bd_e h
                        refine k_V (pc := 324) (st := []) C (c_X12_bodyFrom hg hr33) lkV_RX12_350 hs1 rfl rfl rfl (Nat.le_of_ble_eq_true rfl) (by show (dF + 1) + 1 ≤ dF + 4; omega) (by show 8 + (5 + 11) + (dL + 26) ≤ dL + 86; omega) (Nat.le_of_ble_eq_true rfl) (Nat.le_of_ble_eq_true rfl) dX12_body_324 ?_
                        refine k_nf (cells2 := 0) (slots2 := 0) (st2 := [.int r33.2]) rfl rfl rfl ?_
                        refine k_istore (pc := 327) C dX12_body_327 (by decide) (L2 := [(0, .ref (E.1 + a0)), (1, .int x1), (2, .int x2), (3, .int x3), (4, .int (I a0 32)), (5, .int r2), (6, .int r33.2)]) rfl ?_
                        refine k_iload (pc := 329) C dX12_body_329 6 rfl ?_
                        refine k_aloadn (pc := 331) C dX12_body_331 (i := 0) rfl 0 rfl ?_
                        refine k_iconst (pc := 332) C (v := (0 : Int32)) dX12_body_332 (by decide) ?_
                        refine k_iload (pc := 333) C dX12_body_333 5 rfl ?_
                        obtain ⟨r34, hr34, h⟩ := bd_e h
                        refine k_V (pc := 335) (st := [.int r33.2]) C (c_X12_voiced hg hr34) lkV_RX12_366 hs1 rfl rfl rfl (Nat.le_of_ble_eq_true rfl) (by show (dF + 3) + 1 ≤ dF + 4; omega) (by show 8 + (3 + 11) + (dL + 64) ≤ dL + 86; omega) (Nat.le_of_ble_eq_true rfl) (Nat.le_of_ble_eq_true rfl) dX12_body_335 ?_
                        refine k_nf (cells2 := 0) (slots2 := 0) (st2 := [.int r34.2, .int r33.2]) rfl rfl rfl ?_
                        refine k_iadd (pc := 338) C dX12_body_338 ?_
                        have h := Option.some.inj h
                        subst h
                        exact k_iret (pc := 339) C hr hk dX12_body_339
                      · rw [if_neg hc78] at h
                        by_cases hc79 : (((4 : Int32) * x1) + x2) = (11 : Int32)
                        · rw [if_pos hc79] at h
                          refine k_tabIn (pc := 22) C dX12_body_22 (by rw [hc79]; decide) (by rw [hc79]; decide) (off := 292) (by rw [hc79]; rfl) (tgt := 314) (by decide) ?_
                          refine k_aloadn (pc := 314) C dX12_body_314 (i := 0) rfl 0 rfl ?_
                          refine k_bipush (pc := 315) C (v := (61 : Int32)) dX12_body_315 (by decide) ?_
                          obtain ⟨r35, hr35, h⟩ := bd_e h
                          refine k_V (pc := 317) (st := []) C (c_X12_began hr35) lkV_RX12_363 hs1 rfl rfl rfl (Nat.le_of_ble_eq_true rfl) (by show 0 + 1 ≤ dF + 4; omega) (by show 8 + (2 + 11) + 0 ≤ dL + 86; omega) (Nat.le_of_ble_eq_true rfl) (Nat.le_of_ble_eq_true rfl) dX12_body_317 ?_
                          refine k_nf (cells2 := 0) (slots2 := 0) (st2 := []) rfl rfl rfl ?_
                          refine k_aloadn (pc := 320) C dX12_body_320 (i := 0) rfl 0 rfl ?_
                          refine k_iconst (pc := 321) C (v := (4 : Int32)) dX12_body_321 (by decide) ?_
                          refine k_iconst (pc := 322) C (v := (2 : Int32)) dX12_body_322 (by decide) ?_
                          refine k_iloadn (pc := 323) C dX12_body_323 (i := 3) rfl 3 rfl ?_
                          obtain ⟨r36, hr36, h⟩ := bd_e h
                          refine k_V (pc := 324) (st := []) C (c_X12_bodyFrom hg hr36) lkV_RX12_350 hs1 rfl rfl rfl (Nat.le_of_ble_eq_true rfl) (by show (dF + 1) + 1 ≤ dF + 4; omega) (by show 8 + (5 + 11) + (dL + 26) ≤ dL + 86; omega) (Nat.le_of_ble_eq_true rfl) (Nat.le_of_ble_eq_true rfl) dX12_body_324 ?_
                          refine k_nf (cells2 := 0) (slots2 := 0) (st2 := [.int r36.2]) rfl rfl rfl ?_
                          refine k_istore (pc := 327) C dX12_body_327 (by decide) (L2 := [(0, .ref (E.1 + a0)), (1, .int x1), (2, .int x2), (3, .int x3), (4, .int (I a0 32)), (5, .int r2), (6, .int r36.2)]) rfl ?_
                          refine k_iload (pc := 329) C dX12_body_329 6 rfl ?_
                          refine k_aloadn (pc := 331) C dX12_body_331 (i := 0) rfl 0 rfl ?_
                          refine k_iconst (pc := 332) C (v := (0 : Int32)) dX12_body_332 (by decide) ?_
                          refine k_iload (pc := 333) C dX12_body_333 5 rfl ?_
                          obtain ⟨r37, hr37, h⟩ := bd_e h
                          refine k_V (pc := 335) (st := [.int r36.2]) C (c_X12_voiced hg hr37) lkV_RX12_366 hs1 rfl rfl rfl (Nat.le_of_ble_eq_true rfl) (by show (dF + 3) + 1 ≤ dF + 4; omega) (by show 8 + (3 + 11) + (dL + 64) ≤ dL + 86; omega) (Nat.le_of_ble_eq_true rfl) (Nat.le_of_ble_eq_true rfl) dX12_body_335 ?_
                          refine k_nf (cells2 := 0) (slots2 := 0) (st2 := [.int r37.2, .int r36.2]) rfl rfl rfl ?_
                          refine k_iadd (pc := 338) C dX12_body_338 ?_
                          have h := Option.some.inj h
                          subst h
                          exact k_iret (pc := 339) C hr hk dX12_body_339
                        · rw [if_neg hc79] at h
                          by_cases hc80 : (((4 : Int32) * x1) + x2) = (12 : Int32)
                          · rw [if_pos hc80] at h
                            refine k_tabIn (pc := 22) C dX12_body_22 (by rw [hc80]; decide) (by rw [hc80]; decide) (off := 218) (by rw [hc80]; rfl) (tgt := 240) (by decide) ?_
                            refine k_aloadn (pc := 240) C dX12_body_240 (i := 0) rfl 0 rfl ?_
                            refine k_bipush (pc := 241) C (v := (50 : Int32)) dX12_body_241 (by decide) ?_
                            obtain ⟨r38, hr38, h⟩ := bd_e h
                            refine k_V (pc := 243) (st := []) C (c_X12_began hr38) lkV_RX12_363 hs1 rfl rfl rfl (Nat.le_of_ble_eq_true rfl) (by show 0 + 1 ≤ dF + 4; omega) (by show 8 + (2 + 11) + 0 ≤ dL + 86; omega) (Nat.le_of_ble_eq_true rfl) (Nat.le_of_ble_eq_true rfl) dX12_body_243 ?_
                            refine k_nf (cells2 := 0) (slots2 := 0) (st2 := []) rfl rfl rfl ?_
                            refine k_aloadn (pc := 246) C dX12_body_246 (i := 0) rfl 0 rfl ?_
                            refine k_iconst (pc := 247) C (v := (2 : Int32)) dX12_body_247 (by decide) ?_
                            refine k_iconst (pc := 248) C (v := (0 : Int32)) dX12_body_248 (by decide) ?_
                            refine k_iloadn (pc := 249) C dX12_body_249 (i := 3) rfl 3 rfl ?_
                            obtain ⟨r39, hr39, h⟩ := bd_e h
                            refine k_V (pc := 250) (st := []) C (c_X12_bodyFrom hg hr39) lkV_RX12_350 hs1 rfl rfl rfl (Nat.le_of_ble_eq_true rfl) (by show (dF + 1) + 1 ≤ dF + 4; omega) (by show 8 + (5 + 11) + (dL + 26) ≤ dL + 86; omega) (Nat.le_of_ble_eq_true rfl) (Nat.le_of_ble_eq_true rfl) dX12_body_250 ?_
                            refine k_nf (cells2 := 0) (slots2 := 0) (st2 := [.int r39.2]) rfl rfl rfl ?_
                            refine k_iload (pc := 253) C dX12_body_253 5 rfl ?_
                            refine k_ixor (pc := 255) C dX12_body_255 ?_
                            have h := Option.some.inj h
                            subst h
                            exact k_iret (pc := 256) C hr hk dX12_body_256
                          · rw [if_neg hc80] at h
                            by_cases hc81 : (((4 : Int32) * x1) + x2) = (13 : Int32)
                            · rw [if_pos hc81] at h
                              refine k_tabIn (pc := 22) C dX12_body_22 (by rw [hc81]; decide) (by rw [hc81]; decide) (off := 292) (by rw [hc81]; rfl) (tgt := 314) (by decide) ?_
                              refine k_aloadn (pc := 314) C dX12_body_314 (i := 0) rfl 0 rfl ?_
                              refine k_bipush (pc := 315) C (v := (61 : Int32)) dX12_body_315 (by decide) ?_
                              obtain ⟨r40, hr40, h⟩ := bd_e h
                              refine k_V (pc := 317) (st := []) C (c_X12_began hr40) lkV_RX12_363 hs1 rfl rfl rfl (Nat.le_of_ble_eq_true rfl) (by show 0 + 1 ≤ dF + 4; omega) (by show 8 + (2 + 11) + 0 ≤ dL + 86; omega) (Nat.le_of_ble_eq_true rfl) (Nat.le_of_ble_eq_true rfl) dX12_body_317 ?_
                              refine k_nf (cells2 := 0) (slots2 := 0) (st2 := []) rfl rfl rfl ?_
                              refine k_aloadn (pc := 320) C dX12_body_320 (i := 0) rfl 0 rfl ?_
                              refine k_iconst (pc := 321) C (v := (4 : Int32)) dX12_body_321 (by decide) ?_
                              refine k_iconst (pc := 322) C (v := (2 : Int32)) dX12_body_322 (by decide) ?_
                              refine k_iloadn (pc := 323) C dX12_body_323 (i := 3) rfl 3 rfl ?_
                              obtain ⟨r41, hr41, h⟩ := bd_e h
                              refine k_V (pc := 324) (st := []) C (c_X12_bodyFrom hg hr41) lkV_RX12_350 hs1 rfl rfl rfl (Nat.le_of_ble_eq_true rfl) (by show (dF + 1) + 1 ≤ dF + 4; omega) (by show 8 + (5 + 11) + (dL + 26) ≤ dL + 86; omega) (Nat.le_of_ble_eq_true rfl) (Nat.le_of_ble_eq_true rfl) dX12_body_324 ?_
                              refine k_nf (cells2 := 0) (slots2 := 0) (st2 := [.int r41.2]) rfl rfl rfl ?_
                              refine k_istore (pc := 327) C dX12_body_327 (by decide) (L2 := [(0, .ref (E.1 + a0)), (1, .int x1), (2, .int x2), (3, .int x3), (4, .int (I a0 32)), (5, .int r2), (6, .int r41.2)]) rfl ?_
                              refine k_iload (pc := 329) C dX12_body_329 6 rfl ?_
                              refine k_aloadn (pc := 331) C dX12_body_331 (i := 0) rfl 0 rfl ?_
                              refine k_iconst (pc := 332) C (v := (0 : Int32)) dX12_body_332 (by decide) ?_
                              refine k_iload (pc := 333) C dX12_body_333 5 rfl ?_
                              obtain ⟨r42, hr42, h⟩ := bd_e h
                              refine k_V (pc := 335) (st := [.int r41.2]) C (c_X12_voiced hg hr42) lkV_RX12_366 hs1 rfl rfl rfl (Nat.le_of_ble_eq_true rfl) (by show (dF + 3) + 1 ≤ dF + 4; omega) (by show 8 + (3 + 11) + (dL + 64) ≤ dL + 86; omega) (Nat.le_of_ble_eq_true rfl) (Nat.le_of_ble_eq_true rfl) dX12_body_335 ?_
                              refine k_nf (cells2 := 0) (slots2 := 0) (st2 := [.int r42.2, .int r41.2]) rfl rfl rfl ?_
                              refine k_iadd (pc := 338) C dX12_body_338 ?_
                              have h := Option.some.inj h
                              subst h
                              exact k_iret (pc := 339) C hr hk dX12_body_339
                            · rw [if_neg hc81] at h
                              by_cases hc82 : (((4 : Int32) * x1) + x2) = (14 : Int32)
                              · rw [if_pos hc82] at h
                                refine k_tabIn (pc := 22) C dX12_body_22 (by rw [hc82]; decide) (by rw [hc82]; decide) (off := 292) (by rw [hc82]; rfl) (tgt := 314) (by decide) ?_
                                refine k_aloadn (pc := 314) C dX12_body_314 (i := 0) rfl 0 rfl ?_
                                refine k_bipush (pc := 315) C (v := (61 : Int32)) dX12_body_315 (by decide) ?_
                                obtain ⟨r43, hr43, h⟩ := bd_e h
                                refine k_V (pc := 317) (st := []) C (c_X12_began hr43) lkV_RX12_363 hs1 rfl rfl rfl (Nat.le_of_ble_eq_true rfl) (by show 0 + 1 ≤ dF + 4; omega) (by show 8 + (2 + 11) + 0 ≤ dL + 86; omega) (Nat.le_of_ble_eq_true rfl) (Nat.le_of_ble_eq_true rfl) dX12_body_317 ?_
                                refine k_nf (cells2 := 0) (slots2 := 0) (st2 := []) rfl rfl rfl ?_
                                refine k_aloadn (pc := 320) C dX12_body_320 (i := 0) rfl 0 rfl ?_
                                refine k_iconst (pc := 321) C (v := (4 : Int32)) dX12_body_321 (by decide) ?_
                                refine k_iconst (pc := 322) C (v := (2 : Int32)) dX12_body_322 (by decide) ?_
                                refine k_iloadn (pc := 323) C dX12_body_323 (i := 3) rfl 3 rfl ?_
                                obtain ⟨r44, hr44, h⟩ := bd_e h
                                refine k_V (pc := 324) (st := []) C (c_X12_bodyFrom hg hr44) lkV_RX12_350 hs1 rfl rfl rfl (Nat.le_of_ble_eq_true rfl) (by show (dF + 1) + 1 ≤ dF + 4; omega) (by show 8 + (5 + 11) + (dL + 26) ≤ dL + 86; omega) (Nat.le_of_ble_eq_true rfl) (Nat.le_of_ble_eq_true rfl) dX12_body_324 ?_
                                refine k_nf (cells2 := 0) (slots2 := 0) (st2 := [.int r44.2]) rfl rfl rfl ?_
                                refine k_istore (pc := 327) C dX12_body_327 (by decide) (L2 := [(0, .ref (E.1 + a0)), (1, .int x1), (2, .int x2), (3, .int x3), (4, .int (I a0 32)), (5, .int r2), (6, .int r44.2)]) rfl ?_
                                refine k_iload (pc := 329) C dX12_body_329 6 rfl ?_
                                refine k_aloadn (pc := 331) C dX12_body_331 (i := 0) rfl 0 rfl ?_
                                refine k_iconst (pc := 332) C (v := (0 : Int32)) dX12_body_332 (by decide) ?_
                                refine k_iload (pc := 333) C dX12_body_333 5 rfl ?_
                                obtain ⟨r45, hr45, h⟩ := bd_e h
                                refine k_V (pc := 335) (st := [.int r44.2]) C (c_X12_voiced hg hr45) lkV_RX12_366 hs1 rfl rfl rfl (Nat.le_of_ble_eq_true rfl) (by show (dF + 3) + 1 ≤ dF + 4; omega) (by show 8 + (3 + 11) + (dL + 64) ≤ dL + 86; omega) (Nat.le_of_ble_eq_true rfl) (Nat.le_of_ble_eq_true rfl) dX12_body_335 ?_
                                refine k_nf (cells2 := 0) (slots2 := 0) (st2 := [.int r45.2, .int r44.2]) rfl rfl rfl ?_
                                refine k_iadd (pc := 338) C dX12_body_338 ?_
                                have h := Option.some.inj h
                                subst h
                                exact k_iret (pc := 339) C hr hk dX12_body_339
                              · rw [if_neg hc82] at h
                                by_cases hc83 : (((4 : Int32) * x1) + x2) = (15 : Int32)
                                · rw [if_pos hc83] at h
                                  refine k_tabIn (pc := 22) C dX12_body_22 (by rw [hc83]; decide) (by rw [hc83]; decide) (off := 235) (by rw [hc83]; rfl) (tgt := 257) (by decide) ?_
                                  refine k_aloadn (pc := 257) C dX12_body_257 (i := 0) rfl 0 rfl ?_
                                  refine k_bipush (pc := 258) C (v := (51 : Int32)) dX12_body_258 (by decide) ?_
                                  obtain ⟨r46, hr46, h⟩ := bd_e h
                                  refine k_V (pc := 260) (st := []) C (c_X12_began hr46) lkV_RX12_363 hs1 rfl rfl rfl (Nat.le_of_ble_eq_true rfl) (by show 0 + 1 ≤ dF + 4; omega) (by show 8 + (2 + 11) + 0 ≤ dL + 86; omega) (Nat.le_of_ble_eq_true rfl) (Nat.le_of_ble_eq_true rfl) dX12_body_260 ?_
                                  refine k_nf (cells2 := 0) (slots2 := 0) (st2 := []) rfl rfl rfl ?_
                                  refine k_aloadn (pc := 263) C dX12_body_263 (i := 0) rfl 0 rfl ?_
                                  refine k_iconst (pc := 264) C (v := (2 : Int32)) dX12_body_264 (by decide) ?_
                                  refine k_iconst (pc := 265) C (v := (3 : Int32)) dX12_body_265 (by decide) ?_
                                  refine k_iloadn (pc := 266) C dX12_body_266 (i := 3) rfl 3 rfl ?_
                                  obtain ⟨r47, hr47, h⟩ := bd_e h
                                  refine k_V (pc := 267) (st := []) C (c_X12_bodyFrom hg hr47) lkV_RX12_350 hs1 rfl rfl rfl (Nat.le_of_ble_eq_true rfl) (by show (dF + 1) + 1 ≤ dF + 4; omega) (by show 8 + (5 + 11) + (dL + 26) ≤ dL + 86; omega) (Nat.le_of_ble_eq_true rfl) (Nat.le_of_ble_eq_true rfl) dX12_body_267 ?_
                                  refine k_nf (cells2 := 0) (slots2 := 0) (st2 := [.int r47.2]) rfl rfl rfl ?_
                                  refine k_istore (pc := 270) C dX12_body_270 (by decide) (L2 := [(0, .ref (E.1 + a0)), (1, .int x1), (2, .int x2), (3, .int x3), (4, .int (I a0 32)), (5, .int r2), (6, .int r47.2)]) rfl ?_
                                  refine k_iload (pc := 272) C dX12_body_272 6 rfl ?_
                                  refine k_aloadn (pc := 274) C dX12_body_274 (i := 0) rfl 0 rfl ?_
                                  refine k_iconst (pc := 275) C (v := (2 : Int32)) dX12_body_275 (by decide) ?_
                                  refine k_iload (pc := 276) C dX12_body_276 4 rfl ?_
                                  obtain ⟨r48, hr48, h⟩ := bd_e h
                                  refine k_V (pc := 278) (st := [.int r47.2]) C (c_X12_voiced hg hr48) lkV_RX12_366 hs1 rfl rfl rfl (Nat.le_of_ble_eq_true rfl) (by show (dF + 3) + 1 ≤ dF + 4; omega) (by show 8 + (3 + 11) + (dL + 64) ≤ dL + 86; omega) (Nat.le_of_ble_eq_true rfl) (Nat.le_of_ble_eq_true rfl) dX12_body_278 ?_
                                  refine k_nf (cells2 := 0) (slots2 := 0) (st2 := [.int r48.2, .int r47.2]) rfl rfl rfl ?_
                                  refine k_isub (pc := 281) C dX12_body_281 ?_
                                  have h := Option.some.inj h
                                  subst h
                                  exact k_iret (pc := 282) C hr hk dX12_body_282
                                · rw [if_neg hc83] at h
                                  by_cases hc84 : (((4 : Int32) * x1) + x2) = (16 : Int32)
                                  · rw [if_pos hc84] at h
                                    refine k_tabIn (pc := 22) C dX12_body_22 (by rw [hc84]; decide) (by rw [hc84]; decide) (off := 292) (by rw [hc84]; rfl) (tgt := 314) (by decide) ?_
                                    refine k_aloadn (pc := 314) C dX12_body_314 (i := 0) rfl 0 rfl ?_
                                    refine k_bipush (pc := 315) C (v := (61 : Int32)) dX12_body_315 (by decide) ?_
                                    obtain ⟨r49, hr49, h⟩ := bd_e h
                                    refine k_V (pc := 317) (st := []) C (c_X12_began hr49) lkV_RX12_363 hs1 rfl rfl rfl (Nat.le_of_ble_eq_true rfl) (by show 0 + 1 ≤ dF + 4; omega) (by show 8 + (2 + 11) + 0 ≤ dL + 86; omega) (Nat.le_of_ble_eq_true rfl) (Nat.le_of_ble_eq_true rfl) dX12_body_317 ?_
                                    refine k_nf (cells2 := 0) (slots2 := 0) (st2 := []) rfl rfl rfl ?_
                                    refine k_aloadn (pc := 320) C dX12_body_320 (i := 0) rfl 0 rfl ?_
                                    refine k_iconst (pc := 321) C (v := (4 : Int32)) dX12_body_321 (by decide) ?_
                                    refine k_iconst (pc := 322) C (v := (2 : Int32)) dX12_body_322 (by decide) ?_
                                    refine k_iloadn (pc := 323) C dX12_body_323 (i := 3) rfl 3 rfl ?_
                                    obtain ⟨r50, hr50, h⟩ := bd_e h
                                    refine k_V (pc := 324) (st := []) C (c_X12_bodyFrom hg hr50) lkV_RX12_350 hs1 rfl rfl rfl (Nat.le_of_ble_eq_true rfl) (by show (dF + 1) + 1 ≤ dF + 4; omega) (by show 8 + (5 + 11) + (dL + 26) ≤ dL + 86; omega) (Nat.le_of_ble_eq_true rfl) (Nat.le_of_ble_eq_true rfl) dX12_body_324 ?_
                                    refine k_nf (cells2 := 0) (slots2 := 0) (st2 := [.int r50.2]) rfl rfl rfl ?_
                                    refine k_istore (pc := 327) C dX12_body_327 (by decide) (L2 := [(0, .ref (E.1 + a0)), (1, .int x1), (2, .int x2), (3, .int x3), (4, .int (I a0 32)), (5, .int r2), (6, .int r50.2)]) rfl ?_
                                    refine k_iload (pc := 329) C dX12_body_329 6 rfl ?_
                                    refine k_aloadn (pc := 331) C dX12_body_331 (i := 0) rfl 0 rfl ?_
                                    refine k_iconst (pc := 332) C (v := (0 : Int32)) dX12_body_332 (by decide) ?_
                                    refine k_iload (pc := 333) C dX12_body_333 5 rfl ?_
                                    obtain ⟨r51, hr51, h⟩ := bd_e h
                                    refine k_V (pc := 335) (st := [.int r50.2]) C (c_X12_voiced hg hr51) lkV_RX12_366 hs1 rfl rfl rfl (Nat.le_of_ble_eq_true rfl) (by show (dF + 3) + 1 ≤ dF + 4; omega) (by show 8 + (3 + 11) + (dL + 64) ≤ dL + 86; omega) (Nat.le_of_ble_eq_true rfl) (Nat.le_of_ble_eq_true rfl) dX12_body_335 ?_
                                    refine k_nf (cells2 := 0) (slots2 := 0) (st2 := [.int r51.2, .int r50.2]) rfl rfl rfl ?_
                                    refine k_iadd (pc := 338) C dX12_body_338 ?_
                                    have h := Option.some.inj h
                                    subst h
                                    exact k_iret (pc := 339) C hr hk dX12_body_339
                                  · rw [if_neg hc84] at h
                                    by_cases hc85 : (((4 : Int32) * x1) + x2) = (17 : Int32)
                                    · rw [if_pos hc85] at h
                                      refine k_tabIn (pc := 22) C dX12_body_22 (by rw [hc85]; decide) (by rw [hc85]; decide) (off := 292) (by rw [hc85]; rfl) (tgt := 314) (by decide) ?_
                                      refine k_aloadn (pc := 314) C dX12_body_314 (i := 0) rfl 0 rfl ?_
                                      refine k_bipush (pc := 315) C (v := (61 : Int32)) dX12_body_315 (by decide) ?_
                                      obtain ⟨r52, hr52, h⟩ := bd_e h
                                      refine k_V (pc := 317) (st := []) C (c_X12_began hr52) lkV_RX12_363 hs1 rfl rfl rfl (Nat.le_of_ble_eq_true rfl) (by show 0 + 1 ≤ dF + 4; omega) (by show 8 + (2 + 11) + 0 ≤ dL + 86; omega) (Nat.le_of_ble_eq_true rfl) (Nat.le_of_ble_eq_true rfl) dX12_body_317 ?_
                                      refine k_nf (cells2 := 0) (slots2 := 0) (st2 := []) rfl rfl rfl ?_
                                      refine k_aloadn (pc := 320) C dX12_body_320 (i := 0) rfl 0 rfl ?_
                                      refine k_iconst (pc := 321) C (v := (4 : Int32)) dX12_body_321 (by decide) ?_
                                      refine k_iconst (pc := 322) C (v := (2 : Int32)) dX12_body_322 (by decide) ?_
                                      refine k_iloadn (pc := 323) C dX12_body_323 (i := 3) rfl 3 rfl ?_
                                      obtain ⟨r53, hr53, h⟩ := bd_e h
                                      refine k_V (pc := 324) (st := []) C (c_X12_bodyFrom hg hr53) lkV_RX12_350 hs1 rfl rfl rfl (Nat.le_of_ble_eq_true rfl) (by show (dF + 1) + 1 ≤ dF + 4; omega) (by show 8 + (5 + 11) + (dL + 26) ≤ dL + 86; omega) (Nat.le_of_ble_eq_true rfl) (Nat.le_of_ble_eq_true rfl) dX12_body_324 ?_
                                      refine k_nf (cells2 := 0) (slots2 := 0) (st2 := [.int r53.2]) rfl rfl rfl ?_
                                      refine k_istore (pc := 327) C dX12_body_327 (by decide) (L2 := [(0, .ref (E.1 + a0)), (1, .int x1), (2, .int x2), (3, .int x3), (4, .int (I a0 32)), (5, .int r2), (6, .int r53.2)]) rfl ?_
                                      refine k_iload (pc := 329) C dX12_body_329 6 rfl ?_
                                      refine k_aloadn (pc := 331) C dX12_body_331 (i := 0) rfl 0 rfl ?_
                                      refine k_iconst (pc := 332) C (v := (0 : Int32)) dX12_body_332 (by decide) ?_
                                      refine k_iload (pc := 333) C dX12_body_333 5 rfl ?_
                                      obtain ⟨r54, hr54, h⟩ := bd_e h
                                      refine k_V (pc := 335) (st := [.int r53.2]) C (c_X12_voiced hg hr54) lkV_RX12_366 hs1 rfl rfl rfl (Nat.le_of_ble_eq_true rfl) (by show (dF + 3) + 1 ≤ dF + 4; omega) (by show 8 + (3 + 11) + (dL + 64) ≤ dL + 86; omega) (Nat.le_of_ble_eq_true rfl) (Nat.le_of_ble_eq_true rfl) dX12_body_335 ?_
                                      refine k_nf (cells2 := 0) (slots2 := 0) (st2 := [.int r54.2, .int r53.2]) rfl rfl rfl ?_
                                      refine k_iadd (pc := 338) C dX12_body_338 ?_
                                      have h := Option.some.inj h
                                      subst h
                                      exact k_iret (pc := 339) C hr hk dX12_body_339
                                    · rw [if_neg hc85] at h
                                      by_cases hc86 : (((4 : Int32) * x1) + x2) = (18 : Int32)
                                      · rw [if_pos hc86] at h
                                        refine k_tabIn (pc := 22) C dX12_body_22 (by rw [hc86]; decide) (by rw [hc86]; decide) (off := 261) (by rw [hc86]; rfl) (tgt := 283) (by decide) ?_
                                        refine k_aloadn (pc := 283) C dX12_body_283 (i := 0) rfl 0 rfl ?_
                                        refine k_bipush (pc := 284) C (v := (40 : Int32)) dX12_body_284 (by decide) ?_
                                        obtain ⟨r55, hr55, h⟩ := bd_e h
                                        refine k_V (pc := 286) (st := []) C (c_X12_began hr55) lkV_RX12_363 hs1 rfl rfl rfl (Nat.le_of_ble_eq_true rfl) (by show 0 + 1 ≤ dF + 4; omega) (by show 8 + (2 + 11) + 0 ≤ dL + 86; omega) (Nat.le_of_ble_eq_true rfl) (Nat.le_of_ble_eq_true rfl) dX12_body_286 ?_
                                        refine k_nf (cells2 := 0) (slots2 := 0) (st2 := []) rfl rfl rfl ?_
                                        refine k_aloadn (pc := 289) C dX12_body_289 (i := 0) rfl 0 rfl ?_
                                        refine k_iconst (pc := 290) C (v := (0 : Int32)) dX12_body_290 (by decide) ?_
                                        refine k_iconst (pc := 291) C (v := (2 : Int32)) dX12_body_291 (by decide) ?_
                                        refine k_iloadn (pc := 292) C dX12_body_292 (i := 3) rfl 3 rfl ?_
                                        refine k_iconst (pc := 293) C (v := (1 : Int32)) dX12_body_293 (by decide) ?_
                                        refine k_isub (pc := 294) C dX12_body_294 ?_
                                        obtain ⟨r56, hr56, h⟩ := bd_e h
                                        refine k_V (pc := 295) (st := []) C (c_X12_bodyFrom hg hr56) lkV_RX12_350 hs1 rfl rfl rfl (Nat.le_of_ble_eq_true rfl) (by show (dF + 1) + 1 ≤ dF + 4; omega) (by show 8 + (5 + 11) + (dL + 26) ≤ dL + 86; omega) (Nat.le_of_ble_eq_true rfl) (Nat.le_of_ble_eq_true rfl) dX12_body_295 ?_
                                        refine k_nf (cells2 := 0) (slots2 := 0) (st2 := [.int r56.2]) rfl rfl rfl ?_
                                        have h := Option.some.inj h
                                        subst h
                                        exact k_iret (pc := 298) C hr hk dX12_body_298
                                      · rw [if_neg hc86] at h
                                        by_cases hc87 : (((4 : Int32) * x1) + x2) = (19 : Int32)
                                        · rw [if_pos hc87] at h
                                          refine k_tabIn (pc := 22) C dX12_body_22 (by rw [hc87]; decide) (by rw [hc87]; decide) (off := 292) (by rw [hc87]; rfl) (tgt := 314) (by decide) ?_
                                          refine k_aloadn (pc := 314) C dX12_body_314 (i := 0) rfl 0 rfl ?_
                                          refine k_bipush (pc := 315) C (v := (61 : Int32)) dX12_body_315 (by decide) ?_
                                          obtain ⟨r57, hr57, h⟩ := bd_e h
                                          refine k_V (pc := 317) (st := []) C (c_X12_began hr57) lkV_RX12_363 hs1 rfl rfl rfl (Nat.le_of_ble_eq_true rfl) (by show 0 + 1 ≤ dF + 4; omega) (by show 8 + (2 + 11) + 0 ≤ dL + 86; omega) (Nat.le_of_ble_eq_true rfl) (Nat.le_of_ble_eq_true rfl) dX12_body_317 ?_
                                          refine k_nf (cells2 := 0) (slots2 := 0) (st2 := []) rfl rfl rfl ?_
                                          refine k_aloadn (pc := 320) C dX12_body_320 (i := 0) rfl 0 rfl ?_
                                          refine k_iconst (pc := 321) C (v := (4 : Int32)) dX12_body_321 (by decide) ?_
                                          refine k_iconst (pc := 322) C (v := (2 : Int32)) dX12_body_322 (by decide) ?_
                                          refine k_iloadn (pc := 323) C dX12_body_323 (i := 3) rfl 3 rfl ?_
                                          obtain ⟨r58, hr58, h⟩ := bd_e h
                                          refine k_V (pc := 324) (st := []) C (c_X12_bodyFrom hg hr58) lkV_RX12_350 hs1 rfl rfl rfl (Nat.le_of_ble_eq_true rfl) (by show (dF + 1) + 1 ≤ dF + 4; omega) (by show 8 + (5 + 11) + (dL + 26) ≤ dL + 86; omega) (Nat.le_of_ble_eq_true rfl) (Nat.le_of_ble_eq_true rfl) dX12_body_324 ?_
                                          refine k_nf (cells2 := 0) (slots2 := 0) (st2 := [.int r58.2]) rfl rfl rfl ?_
                                          refine k_istore (pc := 327) C dX12_body_327 (by decide) (L2 := [(0, .ref (E.1 + a0)), (1, .int x1), (2, .int x2), (3, .int x3), (4, .int (I a0 32)), (5, .int r2), (6, .int r58.2)]) rfl ?_
                                          refine k_iload (pc := 329) C dX12_body_329 6 rfl ?_
                                          refine k_aloadn (pc := 331) C dX12_body_331 (i := 0) rfl 0 rfl ?_
                                          refine k_iconst (pc := 332) C (v := (0 : Int32)) dX12_body_332 (by decide) ?_
                                          refine k_iload (pc := 333) C dX12_body_333 5 rfl ?_
                                          obtain ⟨r59, hr59, h⟩ := bd_e h
                                          refine k_V (pc := 335) (st := [.int r58.2]) C (c_X12_voiced hg hr59) lkV_RX12_366 hs1 rfl rfl rfl (Nat.le_of_ble_eq_true rfl) (by show (dF + 3) + 1 ≤ dF + 4; omega) (by show 8 + (3 + 11) + (dL + 64) ≤ dL + 86; omega) (Nat.le_of_ble_eq_true rfl) (Nat.le_of_ble_eq_true rfl) dX12_body_335 ?_
                                          refine k_nf (cells2 := 0) (slots2 := 0) (st2 := [.int r59.2, .int r58.2]) rfl rfl rfl ?_
                                          refine k_iadd (pc := 338) C dX12_body_338 ?_
                                          have h := Option.some.inj h
                                          subst h
                                          exact k_iret (pc := 339) C hr hk dX12_body_339
                                        · rw [if_neg hc87] at h
                                          by_cases hc88 : (((4 : Int32) * x1) + x2) = (20 : Int32)
                                          · rw [if_pos hc88] at h
                                            refine k_tabIn (pc := 22) C dX12_body_22 (by rw [hc88]; decide) (by rw [hc88]; decide) (off := 292) (by rw [hc88]; rfl) (tgt := 314) (by decide) ?_
                                            refine k_aloadn (pc := 314) C dX12_body_314 (i := 0) rfl 0 rfl ?_
                                            refine k_bipush (pc := 315) C (v := (61 : Int32)) dX12_body_315 (by decide) ?_
                                            obtain ⟨r60, hr60, h⟩ := bd_e h
                                            refine k_V (pc := 317) (st := []) C (c_X12_began hr60) lkV_RX12_363 hs1 rfl rfl rfl (Nat.le_of_ble_eq_true rfl) (by show 0 + 1 ≤ dF + 4; omega) (by show 8 + (2 + 11) + 0 ≤ dL + 86; omega) (Nat.le_of_ble_eq_true rfl) (Nat.le_of_ble_eq_true rfl) dX12_body_317 ?_
                                            refine k_nf (cells2 := 0) (slots2 := 0) (st2 := []) rfl rfl rfl ?_
                                            refine k_aloadn (pc := 320) C dX12_body_320 (i := 0) rfl 0 rfl ?_
                                            refine k_iconst (pc := 321) C (v := (4 : Int32)) dX12_body_321 (by decide) ?_
                                            refine k_iconst (pc := 322) C (v := (2 : Int32)) dX12_body_322 (by decide) ?_
                                            refine k_iloadn (pc := 323) C dX12_body_323 (i := 3) rfl 3 rfl ?_
                                            obtain ⟨r61, hr61, h⟩ := bd_e h
                                            refine k_V (pc := 324) (st := []) C (c_X12_bodyFrom hg hr61) lkV_RX12_350 hs1 rfl rfl rfl (Nat.le_of_ble_eq_true rfl) (by show (dF + 1) + 1 ≤ dF + 4; omega) (by show 8 + (5 + 11) + (dL + 26) ≤ dL + 86; omega) (Nat.le_of_ble_eq_true rfl) (Nat.le_of_ble_eq_true rfl) dX12_body_324 ?_
                                            refine k_nf (cells2 := 0) (slots2 := 0) (st2 := [.int r61.2]) rfl rfl rfl ?_
                                            refine k_istore (pc := 327) C dX12_body_327 (by decide) (L2 := [(0, .ref (E.1 + a0)), (1, .int x1), (2, .int x2), (3, .int x3), (4, .int (I a0 32)), (5, .int r2), (6, .int r61.2)]) rfl ?_
                                            refine k_iload (pc := 329) C dX12_body_329 6 rfl ?_
                                            refine k_aloadn (pc := 331) C dX12_body_331 (i := 0) rfl 0 rfl ?_
                                            refine k_iconst (pc := 332) C (v := (0 : Int32)) dX12_body_332 (by decide) ?_
                                            refine k_iload (pc := 333) C dX12_body_333 5 rfl ?_
                                            obtain ⟨r62, hr62, h⟩ := bd_e h
                                            refine k_V (pc := 335) (st := [.int r61.2]) C (c_X12_voiced hg hr62) lkV_RX12_366 hs1 rfl rfl rfl (Nat.le_of_ble_eq_true rfl) (by show (dF + 3) + 1 ≤ dF + 4; omega) (by show 8 + (3 + 11) + (dL + 64) ≤ dL + 86; omega) (Nat.le_of_ble_eq_true rfl) (Nat.le_of_ble_eq_true rfl) dX12_body_335 ?_
                                            refine k_nf (cells2 := 0) (slots2 := 0) (st2 := [.int r62.2, .int r61.2]) rfl rfl rfl ?_
                                            refine k_iadd (pc := 338) C dX12_body_338 ?_
                                            have h := Option.some.inj h
                                            subst h
                                            exact k_iret (pc := 339) C hr hk dX12_body_339
                                          · rw [if_neg hc88] at h
                                            by_cases hc89 : (((4 : Int32) * x1) + x2) = (21 : Int32)
                                            · rw [if_pos hc89] at h
                                              refine k_tabIn (pc := 22) C dX12_body_22 (by rw [hc89]; decide) (by rw [hc89]; decide) (off := 277) (by rw [hc89]; rfl) (tgt := 299) (by decide) ?_
                                              refine k_aloadn (pc := 299) C dX12_body_299 (i := 0) rfl 0 rfl ?_
                                              refine k_bipush (pc := 300) C (v := (60 : Int32)) dX12_body_300 (by decide) ?_
                                              obtain ⟨r63, hr63, h⟩ := bd_e h
                                              refine k_V (pc := 302) (st := []) C (c_X12_began hr63) lkV_RX12_363 hs1 rfl rfl rfl (Nat.le_of_ble_eq_true rfl) (by show 0 + 1 ≤ dF + 4; omega) (by show 8 + (2 + 11) + 0 ≤ dL + 86; omega) (Nat.le_of_ble_eq_true rfl) (Nat.le_of_ble_eq_true rfl) dX12_body_302 ?_
                                              refine k_nf (cells2 := 0) (slots2 := 0) (st2 := []) rfl rfl rfl ?_
                                              refine k_aloadn (pc := 305) C dX12_body_305 (i := 0) rfl 0 rfl ?_
                                              refine k_iconst (pc := 306) C (v := (4 : Int32)) dX12_body_306 (by decide) ?_
                                              refine k_iconst (pc := 307) C (v := (1 : Int32)) dX12_body_307 (by decide) ?_
                                              refine k_iloadn (pc := 308) C dX12_body_308 (i := 3) rfl 3 rfl ?_
                                              obtain ⟨r64, hr64, h⟩ := bd_e h
                                              refine k_V (pc := 309) (st := []) C (c_X12_bodyFrom hg hr64) lkV_RX12_350 hs1 rfl rfl rfl (Nat.le_of_ble_eq_true rfl) (by show (dF + 1) + 1 ≤ dF + 4; omega) (by show 8 + (5 + 11) + (dL + 26) ≤ dL + 86; omega) (Nat.le_of_ble_eq_true rfl) (Nat.le_of_ble_eq_true rfl) dX12_body_309 ?_
                                              refine k_nf (cells2 := 0) (slots2 := 0) (st2 := [.int r64.2]) rfl rfl rfl ?_
                                              refine k_ineg (pc := 312) C dX12_body_312 ?_
                                              have h := Option.some.inj h
                                              subst h
                                              exact k_iret (pc := 313) C hr hk dX12_body_313
                                            · rw [if_neg hc89] at h
                                              refine k_tabOut (pc := 22) C dX12_body_22 (tab_out (((4 : Int32) * x1) + x2) 0 21 (fun z h1 h2 hz => by
                                                have hz2 : z = 0 ∨ z = 1 ∨ z = 2 ∨ z = 3 ∨ z = 4 ∨ z = 5 ∨ z = 6 ∨ z = 7 ∨ z = 8 ∨ z = 9 ∨ z = 10 ∨ z = 11 ∨ z = 12 ∨ z = 13 ∨ z = 14 ∨ z = 15 ∨ z = 16 ∨ z = 17 ∨ z = 18 ∨ z = 19 ∨ z = 20 ∨ z = 21 := by omega
                                                rcases hz2 with rfl | rfl | rfl | rfl | rfl | rfl | rfl | rfl | rfl | rfl | rfl | rfl | rfl | rfl | rfl | rfl | rfl | rfl | rfl | rfl | rfl | rfl
                                                · exact hc68 (Int32.toInt_inj.mp (hz.trans (by decide)))
                                                · exact hc69 (Int32.toInt_inj.mp (hz.trans (by decide)))
                                                · exact hc70 (Int32.toInt_inj.mp (hz.trans (by decide)))
                                                · exact hc71 (Int32.toInt_inj.mp (hz.trans (by decide)))
                                                · exact hc72 (Int32.toInt_inj.mp (hz.trans (by decide)))
                                                · exact hc73 (Int32.toInt_inj.mp (hz.trans (by decide)))
                                                · exact hc74 (Int32.toInt_inj.mp (hz.trans (by decide)))
                                                · exact hc75 (Int32.toInt_inj.mp (hz.trans (by decide)))
                                                · exact hc76 (Int32.toInt_inj.mp (hz.trans (by decide)))
                                                · exact hc77 (Int32.toInt_inj.mp (hz.trans (by decide)))
                                                · exact hc78 (Int32.toInt_inj.mp (hz.trans (by decide)))
                                                · exact hc79 (Int32.toInt_inj.mp (hz.trans (by decide)))
                                                · exact hc80 (Int32.toInt_inj.mp (hz.trans (by decide)))
                                                · exact hc81 (Int32.toInt_inj.mp (hz.trans (by decide)))
                                                · exact hc82 (Int32.toInt_inj.mp (hz.trans (by decide)))
                                                · exact hc83 (Int32.toInt_inj.mp (hz.trans (by decide)))
                                                · exact hc84 (Int32.toInt_inj.mp (hz.trans (by decide)))
                                                · exact hc85 (Int32.toInt_inj.mp (hz.trans (by decide)))
                                                · exact hc86 (Int32.toInt_inj.mp (hz.trans (by decide)))
                                                · exact hc87 (Int32.toInt_inj.mp (hz.trans (by decide)))
                                                · exact hc88 (Int32.toInt_inj.mp (hz.trans (by decide)))
                                                · exact hc89 (Int32.toInt_inj.mp (hz.trans (by decide)))
                                                ) ) (tgt := 314) (by decide) ?_
                                              refine k_aloadn (pc := 314) C dX12_body_314 (i := 0) rfl 0 rfl ?_
                                              refine k_bipush (pc := 315) C (v := (61 : Int32)) dX12_body_315 (by decide) ?_
                                              obtain ⟨r65, hr65, h⟩ := bd_e h
                                              refine k_V (pc := 317) (st := []) C (c_X12_began hr65) lkV_RX12_363 hs1 rfl rfl rfl (Nat.le_of_ble_eq_true rfl) (by show 0 + 1 ≤ dF + 4; omega) (by show 8 + (2 + 11) + 0 ≤ dL + 86; omega) (Nat.le_of_ble_eq_true rfl) (Nat.le_of_ble_eq_true rfl) dX12_body_317 ?_
                                              refine k_nf (cells2 := 0) (slots2 := 0) (st2 := []) rfl rfl rfl ?_
                                              refine k_aloadn (pc := 320) C dX12_body_320 (i := 0) rfl 0 rfl ?_
                                              refine k_iconst (pc := 321) C (v := (4 : Int32)) dX12_body_321 (by decide) ?_
                                              refine k_iconst (pc := 322) C (v := (2 : Int32)) dX12_body_322 (by decide) ?_
                                              refine k_iloadn (pc := 323) C dX12_body_323 (i := 3) rfl 3 rfl ?_
                                              obtain ⟨r66, hr66, h⟩ := bd_e h
                                              refine k_V (pc := 324) (st := []) C (c_X12_bodyFrom hg hr66) lkV_RX12_350 hs1 rfl rfl rfl (Nat.le_of_ble_eq_true rfl) (by show (dF + 1) + 1 ≤ dF + 4; omega) (by show 8 + (5 + 11) + (dL + 26) ≤ dL + 86; omega) (Nat.le_of_ble_eq_true rfl) (Nat.le_of_ble_eq_true rfl) dX12_body_324 ?_
                                              refine k_nf (cells2 := 0) (slots2 := 0) (st2 := [.int r66.2]) rfl rfl rfl ?_
                                              refine k_istore (pc := 327) C dX12_body_327 (by decide) (L2 := [(0, .ref (E.1 + a0)), (1, .int x1), (2, .int x2), (3, .int x3), (4, .int (I a0 32)), (5, .int r2), (6, .int r66.2)]) rfl ?_
                                              refine k_iload (pc := 329) C dX12_body_329 6 rfl ?_
                                              refine k_aloadn (pc := 331) C dX12_body_331 (i := 0) rfl 0 rfl ?_
                                              refine k_iconst (pc := 332) C (v := (0 : Int32)) dX12_body_332 (by decide) ?_
                                              refine k_iload (pc := 333) C dX12_body_333 5 rfl ?_
                                              obtain ⟨r67, hr67, h⟩ := bd_e h
                                              refine k_V (pc := 335) (st := [.int r66.2]) C (c_X12_voiced hg hr67) lkV_RX12_366 hs1 rfl rfl rfl (Nat.le_of_ble_eq_true rfl) (by show (dF + 3) + 1 ≤ dF + 4; omega) (by show 8 + (3 + 11) + (dL + 64) ≤ dL + 86; omega) (Nat.le_of_ble_eq_true rfl) (Nat.le_of_ble_eq_true rfl) dX12_body_335 ?_
                                              refine k_nf (cells2 := 0) (slots2 := 0) (st2 := [.int r67.2, .int r66.2]) rfl rfl rfl ?_
                                              refine k_iadd (pc := 338) C dX12_body_338 ?_
                                              have h := Option.some.inj h
                                              subst h
                                              exact k_iret (pc := 339) C hr hk dX12_body_339
def f_X12_body : Nat → Sh → Rw → Iw → Nat → Int32 → Int32 → Int32 → Option (Iw × Int32)
  | 0, _, _, _, _, _, _, _ => none
  | n + 1, S, R, I, a0, x1, x2, x3 => f_X12_body_b (f_X12_body n) S R I a0 x1 x2 x3
theorem c_X12_body_g {E : Ev} {l : Launch} : ∀ (n : Nat) (S : Sh) (R : Rw) (I : Iw) (a0 : Nat) (x1 : Int32) (x2 : Int32) (x3 : Int32) (r : Iw × Int32), f_X12_body n S R I a0 x1 x2 x3 = some r → Mt E l yX12_body cX12_body 7 (some .int) (4 * n) (86 * n) [.ref (E.1 + a0), .int x1, .int x2, .int x3] S R I S R r.1 (some (.int r.2)) 0 0 := by
  intro n
  induction n with
  | zero =>
    intro S R I a0 x1 x2 x3 r h
    rw [f_X12_body] at h
    cases h
  | succ n ih =>
    intro S R I a0 x1 x2 x3 r h
    rw [f_X12_body] at h
    exact mt_of (by decide) (Nat.le_of_ble_eq_true rfl) (fun p e s m args below meth c C hr hk hn => b_X12_body_b (dF := 4 * n) (dL := 86 * n) C hr hk ih _ _ _ _ _ h)
theorem c_X12_body {E : Ev} {l : Launch} (n : Nat) {S : Sh} {R : Rw} {I : Iw} {a0 : Nat} {x1 : Int32} {x2 : Int32} {x3 : Int32} {r : Iw × Int32} (h : f_X12_body n S R I a0 x1 x2 x3 = some r) : Mt E l yX12_body cX12_body 7 (some .int) (4 * n) (86 * n) [.ref (E.1 + a0), .int x1, .int x2, .int x3] S R I S R r.1 (some (.int r.2)) 0 0 := c_X12_body_g n S R I a0 x1 x2 x3 r h
