/-! X11_act, X11_trace, X11_many, X11_keep -/
theorem lkP_RX11_248_11 : LkP RX11 248 11 11 (.object "UnlikeNeighbours$Thing") := ⟨RX11, TX11, 12, "UnlikeNeighbours", fc11, by decide, (t2_in 4 (by decide +kernel) rfl), Or.inl rfl, rfl, by decide +kernel⟩
theorem lkF_RX11_248_11 : LkF RX11 248 11 11 := ⟨RX11, TX11, 12, "UnlikeNeighbours", fc11, by decide, (t2_in 4 (by decide +kernel) rfl), Or.inl rfl⟩
theorem lkU_RX11_252_0 : LkU RX11 252 "UnlikeNeighbours$Thing" ⟨RX9, "weighs", "(I)I"⟩ yX0_weighs cX0_weighs 2 (some .int) 1 0 := ⟨(t4_in 183 (by decide +kernel) rfl), ⟨(t4_in 186 (by decide +kernel) rfl), (t4_in 184 (by decide +kernel) rfl), cX9_weighs, 2, (some .int), (t4_in 209 (by decide +kernel) rfl)⟩, ⟨_, rfl, (t4_in 187 (by decide +kernel) rfl)⟩, (t4_in 188 (by decide +kernel) rfl), (t4_in 189 (by decide +kernel) rfl), (t1_in 18 (by decide +kernel) rfl), by decide, by decide +kernel⟩
theorem lkU_RX11_252_1 : LkU RX11 252 "UnlikeNeighbours$Thing" ⟨RX9, "weighs", "(I)I"⟩ yX9_weighs cX9_weighs 2 (some .int) 1 1 := ⟨(t4_in 183 (by decide +kernel) rfl), ⟨(t4_in 186 (by decide +kernel) rfl), (t4_in 184 (by decide +kernel) rfl), cX9_weighs, 2, (some .int), (t4_in 209 (by decide +kernel) rfl)⟩, ⟨_, rfl, (t4_in 199 (by decide +kernel) rfl)⟩, (t4_in 184 (by decide +kernel) rfl), (t4_in 209 (by decide +kernel) rfl), (t1_in 15 (by decide +kernel) rfl), by decide, by decide +kernel⟩
theorem lkU_RX11_252_4 : LkU RX11 252 "UnlikeNeighbours$Thing" ⟨RX9, "weighs", "(I)I"⟩ yX9_weighs cX9_weighs 2 (some .int) 1 4 := ⟨(t4_in 183 (by decide +kernel) rfl), ⟨(t4_in 186 (by decide +kernel) rfl), (t4_in 184 (by decide +kernel) rfl), cX9_weighs, 2, (some .int), (t4_in 209 (by decide +kernel) rfl)⟩, ⟨_, rfl, (t4_in 200 (by decide +kernel) rfl)⟩, (t4_in 184 (by decide +kernel) rfl), (t4_in 209 (by decide +kernel) rfl), (t1_in 15 (by decide +kernel) rfl), by decide, by decide +kernel⟩
theorem lkU_RX11_252_6 : LkU RX11 252 "UnlikeNeighbours$Thing" ⟨RX9, "weighs", "(I)I"⟩ yX9_weighs cX9_weighs 2 (some .int) 1 6 := ⟨(t4_in 183 (by decide +kernel) rfl), ⟨(t4_in 186 (by decide +kernel) rfl), (t4_in 184 (by decide +kernel) rfl), cX9_weighs, 2, (some .int), (t4_in 209 (by decide +kernel) rfl)⟩, ⟨_, rfl, (t4_in 201 (by decide +kernel) rfl)⟩, (t4_in 184 (by decide +kernel) rfl), (t4_in 209 (by decide +kernel) rfl), (t1_in 15 (by decide +kernel) rfl), by decide, by decide +kernel⟩
theorem lkU_RX11_252_9 : LkU RX11 252 "UnlikeNeighbours$Thing" ⟨RX9, "weighs", "(I)I"⟩ yX9_weighs cX9_weighs 2 (some .int) 1 9 := ⟨(t4_in 183 (by decide +kernel) rfl), ⟨(t4_in 186 (by decide +kernel) rfl), (t4_in 184 (by decide +kernel) rfl), cX9_weighs, 2, (some .int), (t4_in 209 (by decide +kernel) rfl)⟩, ⟨_, rfl, (t4_in 185 (by decide +kernel) rfl)⟩, (t4_in 184 (by decide +kernel) rfl), (t4_in 209 (by decide +kernel) rfl), (t1_in 15 (by decide +kernel) rfl), by decide, by decide +kernel⟩
theorem lkU_RX11_252_10 : LkU RX11 252 "UnlikeNeighbours$Thing" ⟨RX9, "weighs", "(I)I"⟩ yX10_weighs cX10_weighs 2 (some .int) 1 10 := ⟨(t4_in 183 (by decide +kernel) rfl), ⟨(t4_in 186 (by decide +kernel) rfl), (t4_in 184 (by decide +kernel) rfl), cX9_weighs, 2, (some .int), (t4_in 209 (by decide +kernel) rfl)⟩, ⟨_, rfl, (t4_in 202 (by decide +kernel) rfl)⟩, (t4_in 203 (by decide +kernel) rfl), (t4_in 204 (by decide +kernel) rfl), (t1_in 16 (by decide +kernel) rfl), by decide, by decide +kernel⟩
theorem vc_RX11_252 {E : Ev} {cc : ByteArray} {nL : Nat} {p : Program} {l : Launch} {e : Env} {Rm : Room} {s : State} {m : MethodId} {args : Array Value} {below : List Frame} {meth : Method} {c : Code} {cells slots : Nat} {Q : State → Prop} {pc : Nat} {L : List (Nat × Value)} {st stk : List Value} {S : Sh} {R : Rw} {I : Iw} {b ci : Nat} {x : Int32} {r : Iw × Int32} (C : Cx E RX11 cc nL p s m c) (hr : v_weighs S R I b x = some r) (hs : S[b]? = some (ci, 5)) (ht : thc ci = true) (hst : stk = .int x :: .ref (E.1 + b) :: st) (hst8 : (st.map fun v => v.category).sum ≤ 8) (hfr : 2 + 1 ≤ Rm.frames) (hlo : 63 ≤ Rm.locals) (hc : cells + 0 ≤ Rm.cells) (hsl : slots + 0 ≤ Rm.slots) (d : decode cc pc = .ok (.invokevirtual 252, 3)) (k : Wk E nL p l e Rm s m args below meth c (cells + 0) (slots + 0) Q (pc + 3) L (.int r.2 :: st) S R r.1) : Wk E nL p l e Rm s m args below meth c cells slots Q pc L stk S R I := by
  have hcf := cof_t hs
  unfold v_weighs at hr
  rw [hcf] at hr
  rcases thc_e ht with rfl | rfl | rfl | rfl | rfl | rfl
  · rw [if_pos rfl] at hr
    exact k_U C (c_X0_weighs hr) lkU_RX11_252_0 hs rfl hst hst8 (by omega) (by omega) hc hsl d k
  · rw [if_neg (by decide), if_neg (by decide)] at hr
    exact k_U C (c_X9_weighs hr) lkU_RX11_252_1 hs rfl hst hst8 (by omega) (by omega) hc hsl d k
  · rw [if_neg (by decide), if_neg (by decide)] at hr
    exact k_U C (c_X9_weighs hr) lkU_RX11_252_4 hs rfl hst hst8 (by omega) (by omega) hc hsl d k
  · rw [if_neg (by decide), if_neg (by decide)] at hr
    exact k_U C (c_X9_weighs hr) lkU_RX11_252_6 hs rfl hst hst8 (by omega) (by omega) hc hsl d k
  · rw [if_neg (by decide), if_neg (by decide)] at hr
    exact k_U C (c_X9_weighs hr) lkU_RX11_252_9 hs rfl hst hst8 (by omega) (by omega) hc hsl d k
  · rw [if_neg (by decide), if_pos rfl] at hr
    exact k_U C (c_X10_weighs hr) lkU_RX11_252_10 hs rfl hst hst8 (by omega) (by omega) hc hsl d k
theorem lkF_RX11_266_0 : LkF RX11 266 0 4 := ⟨RX0, TX0, 5, "UnlikeNeighbours$Thing", fc0, by decide, (t4_in 114 (by decide +kernel) rfl), Or.inl rfl⟩
theorem lkF_RX11_266_1 : LkF RX11 266 1 4 := ⟨RX1, TX1, 5, "UnlikeNeighbours$Thing", fc1, by decide, (t4_in 114 (by decide +kernel) rfl), Or.inl rfl⟩
theorem lkF_RX11_266_4 : LkF RX11 266 4 4 := ⟨RX4, TX4, 5, "UnlikeNeighbours$Thing", fc4, by decide, (t4_in 114 (by decide +kernel) rfl), Or.inl rfl⟩
theorem lkF_RX11_266_6 : LkF RX11 266 6 4 := ⟨RX6, TX6, 5, "UnlikeNeighbours$Thing", fc6, by decide, (t4_in 114 (by decide +kernel) rfl), Or.inl rfl⟩
theorem lkF_RX11_266_9 : LkF RX11 266 9 4 := ⟨RX9, TX9, 5, "UnlikeNeighbours$Thing", fc9, by decide, (t4_in 114 (by decide +kernel) rfl), Or.inl rfl⟩
theorem lkF_RX11_266_10 : LkF RX11 266 10 4 := ⟨RX10, TX10, 5, "UnlikeNeighbours$Thing", fc10, by decide, (t4_in 114 (by decide +kernel) rfl), Or.inl rfl⟩
theorem lkFT_RX11_266 : ∀ ci : Nat, thc ci = true → LkF RX11 266 ci 4 := th_all lkF_RX11_266_0 lkF_RX11_266_1 lkF_RX11_266_4 lkF_RX11_266_6 lkF_RX11_266_9 lkF_RX11_266_10
theorem lkU_RX11_257_0 : LkU RX11 257 "UnlikeNeighbours$Thing" ⟨RX9, "turns", "(I)I"⟩ yX1_turns cX1_turns 2 (some .int) 1 0 := ⟨(t4_in 211 (by decide +kernel) rfl), ⟨(t4_in 214 (by decide +kernel) rfl), (t4_in 212 (by decide +kernel) rfl), cX9_turns, 2, (some .int), (t4_in 235 (by decide +kernel) rfl)⟩, ⟨_, rfl, (t4_in 215 (by decide +kernel) rfl)⟩, (t4_in 216 (by decide +kernel) rfl), (t4_in 217 (by decide +kernel) rfl), (t1_in 17 (by decide +kernel) rfl), by decide, by decide +kernel⟩
theorem lkU_RX11_257_1 : LkU RX11 257 "UnlikeNeighbours$Thing" ⟨RX9, "turns", "(I)I"⟩ yX1_turns cX1_turns 2 (some .int) 1 1 := ⟨(t4_in 211 (by decide +kernel) rfl), ⟨(t4_in 214 (by decide +kernel) rfl), (t4_in 212 (by decide +kernel) rfl), cX9_turns, 2, (some .int), (t4_in 235 (by decide +kernel) rfl)⟩, ⟨_, rfl, (t4_in 223 (by decide +kernel) rfl)⟩, (t4_in 216 (by decide +kernel) rfl), (t4_in 217 (by decide +kernel) rfl), (t1_in 17 (by decide +kernel) rfl), by decide, by decide +kernel⟩
theorem lkU_RX11_257_4 : LkU RX11 257 "UnlikeNeighbours$Thing" ⟨RX9, "turns", "(I)I"⟩ yX4_turns cX4_turns 2 (some .int) 1 4 := ⟨(t4_in 211 (by decide +kernel) rfl), ⟨(t4_in 214 (by decide +kernel) rfl), (t4_in 212 (by decide +kernel) rfl), cX9_turns, 2, (some .int), (t4_in 235 (by decide +kernel) rfl)⟩, ⟨_, rfl, (t4_in 224 (by decide +kernel) rfl)⟩, (t4_in 225 (by decide +kernel) rfl), (t4_in 226 (by decide +kernel) rfl), (t1_in 20 (by decide +kernel) rfl), by decide, by decide +kernel⟩
theorem lkU_RX11_257_6 : LkU RX11 257 "UnlikeNeighbours$Thing" ⟨RX9, "turns", "(I)I"⟩ yX9_turns cX9_turns 2 (some .int) 1 6 := ⟨(t4_in 211 (by decide +kernel) rfl), ⟨(t4_in 214 (by decide +kernel) rfl), (t4_in 212 (by decide +kernel) rfl), cX9_turns, 2, (some .int), (t4_in 235 (by decide +kernel) rfl)⟩, ⟨_, rfl, (t4_in 233 (by decide +kernel) rfl)⟩, (t4_in 212 (by decide +kernel) rfl), (t4_in 235 (by decide +kernel) rfl), (t1_in 15 (by decide +kernel) rfl), by decide, by decide +kernel⟩
theorem lkU_RX11_257_9 : LkU RX11 257 "UnlikeNeighbours$Thing" ⟨RX9, "turns", "(I)I"⟩ yX9_turns cX9_turns 2 (some .int) 1 9 := ⟨(t4_in 211 (by decide +kernel) rfl), ⟨(t4_in 214 (by decide +kernel) rfl), (t4_in 212 (by decide +kernel) rfl), cX9_turns, 2, (some .int), (t4_in 235 (by decide +kernel) rfl)⟩, ⟨_, rfl, (t4_in 213 (by decide +kernel) rfl)⟩, (t4_in 212 (by decide +kernel) rfl), (t4_in 235 (by decide +kernel) rfl), (t1_in 15 (by decide +kernel) rfl), by decide, by decide +kernel⟩
theorem lkU_RX11_257_10 : LkU RX11 257 "UnlikeNeighbours$Thing" ⟨RX9, "turns", "(I)I"⟩ yX9_turns cX9_turns 2 (some .int) 1 10 := ⟨(t4_in 211 (by decide +kernel) rfl), ⟨(t4_in 214 (by decide +kernel) rfl), (t4_in 212 (by decide +kernel) rfl), cX9_turns, 2, (some .int), (t4_in 235 (by decide +kernel) rfl)⟩, ⟨_, rfl, (t4_in 234 (by decide +kernel) rfl)⟩, (t4_in 212 (by decide +kernel) rfl), (t4_in 235 (by decide +kernel) rfl), (t1_in 15 (by decide +kernel) rfl), by decide, by decide +kernel⟩
theorem vc_RX11_257 {E : Ev} {cc : ByteArray} {nL : Nat} {p : Program} {l : Launch} {e : Env} {Rm : Room} {s : State} {m : MethodId} {args : Array Value} {below : List Frame} {meth : Method} {c : Code} {cells slots : Nat} {Q : State → Prop} {pc : Nat} {L : List (Nat × Value)} {st stk : List Value} {S : Sh} {R : Rw} {I : Iw} {b ci : Nat} {x : Int32} {r : Iw × Int32} (C : Cx E RX11 cc nL p s m c) (hr : v_turns S R I b x = some r) (hs : S[b]? = some (ci, 5)) (ht : thc ci = true) (hst : stk = .int x :: .ref (E.1 + b) :: st) (hst8 : (st.map fun v => v.category).sum ≤ 8) (hfr : 4 + 1 ≤ Rm.frames) (hlo : 105 ≤ Rm.locals) (hc : cells + 0 ≤ Rm.cells) (hsl : slots + 0 ≤ Rm.slots) (d : decode cc pc = .ok (.invokevirtual 257, 3)) (k : Wk E nL p l e Rm s m args below meth c (cells + 0) (slots + 0) Q (pc + 3) L (.int r.2 :: st) S R r.1) : Wk E nL p l e Rm s m args below meth c cells slots Q pc L stk S R I := by
  have hcf := cof_t hs
  unfold v_turns at hr
  rw [hcf] at hr
  rcases thc_e ht with rfl | rfl | rfl | rfl | rfl | rfl
  · rw [if_pos rfl] at hr
    exact k_U C (c_X1_turns hr) lkU_RX11_257_0 hs rfl hst hst8 (by omega) (by omega) hc hsl d k
  · rw [if_neg (by decide), if_pos rfl] at hr
    exact k_U C (c_X1_turns hr) lkU_RX11_257_1 hs rfl hst hst8 (by omega) (by omega) hc hsl d k
  · rw [if_neg (by decide), if_neg (by decide), if_pos rfl] at hr
    exact k_U C (c_X4_turns hr) lkU_RX11_257_4 hs rfl hst hst8 (by omega) (by omega) hc hsl d k
  · rw [if_neg (by decide), if_neg (by decide), if_neg (by decide)] at hr
    exact k_U C (c_X9_turns hr) lkU_RX11_257_6 hs rfl hst hst8 (by omega) (by omega) hc hsl d k
  · rw [if_neg (by decide), if_neg (by decide), if_neg (by decide)] at hr
    exact k_U C (c_X9_turns hr) lkU_RX11_257_9 hs rfl hst hst8 (by omega) (by omega) hc hsl d k
  · rw [if_neg (by decide), if_neg (by decide), if_neg (by decide)] at hr
    exact k_U C (c_X9_turns hr) lkU_RX11_257_10 hs rfl hst hst8 (by omega) (by omega) hc hsl d k
def v_splits (S : Sh) (R : Rw) (I : Iw) (a : Nat) (x : Int32) : Option (Iw × Int32) := if cof S a = 4 then f_X4_splits S R I a x else if cof S a = 6 then f_X6_splits S R I a x else f_X9_splits S R I a x
theorem lkU_RX11_260_0 : LkU RX11 260 "UnlikeNeighbours$Thing" ⟨RX9, "splits", "(I)I"⟩ yX9_splits cX9_splits 3 (some .int) 1 0 := ⟨(t4_in 237 (by decide +kernel) rfl), ⟨(t5_in 0 (by decide +kernel) rfl), (t4_in 238 (by decide +kernel) rfl), cX9_splits, 3, (some .int), (t5_in 19 (by decide +kernel) rfl)⟩, ⟨_, rfl, (t5_in 1 (by decide +kernel) rfl)⟩, (t4_in 238 (by decide +kernel) rfl), (t5_in 19 (by decide +kernel) rfl), (t1_in 15 (by decide +kernel) rfl), by decide, by decide +kernel⟩
theorem lkU_RX11_260_1 : LkU RX11 260 "UnlikeNeighbours$Thing" ⟨RX9, "splits", "(I)I"⟩ yX9_splits cX9_splits 3 (some .int) 1 1 := ⟨(t4_in 237 (by decide +kernel) rfl), ⟨(t5_in 0 (by decide +kernel) rfl), (t4_in 238 (by decide +kernel) rfl), cX9_splits, 3, (some .int), (t5_in 19 (by decide +kernel) rfl)⟩, ⟨_, rfl, (t5_in 2 (by decide +kernel) rfl)⟩, (t4_in 238 (by decide +kernel) rfl), (t5_in 19 (by decide +kernel) rfl), (t1_in 15 (by decide +kernel) rfl), by decide, by decide +kernel⟩
theorem lkU_RX11_260_4 : LkU RX11 260 "UnlikeNeighbours$Thing" ⟨RX9, "splits", "(I)I"⟩ yX4_splits cX4_splits 3 (some .int) 1 4 := ⟨(t4_in 237 (by decide +kernel) rfl), ⟨(t5_in 0 (by decide +kernel) rfl), (t4_in 238 (by decide +kernel) rfl), cX9_splits, 3, (some .int), (t5_in 19 (by decide +kernel) rfl)⟩, ⟨_, rfl, (t5_in 3 (by decide +kernel) rfl)⟩, (t5_in 4 (by decide +kernel) rfl), (t5_in 5 (by decide +kernel) rfl), (t1_in 20 (by decide +kernel) rfl), by decide, by decide +kernel⟩
theorem lkU_RX11_260_6 : LkU RX11 260 "UnlikeNeighbours$Thing" ⟨RX9, "splits", "(I)I"⟩ yX6_splits cX6_splits 2 (some .int) 1 6 := ⟨(t4_in 237 (by decide +kernel) rfl), ⟨(t5_in 0 (by decide +kernel) rfl), (t4_in 238 (by decide +kernel) rfl), cX9_splits, 3, (some .int), (t5_in 19 (by decide +kernel) rfl)⟩, ⟨_, rfl, (t5_in 17 (by decide +kernel) rfl)⟩, (t5_in 7 (by decide +kernel) rfl), (t5_in 8 (by decide +kernel) rfl), (t1_in 19 (by decide +kernel) rfl), by decide, by decide +kernel⟩
theorem lkU_RX11_260_9 : LkU RX11 260 "UnlikeNeighbours$Thing" ⟨RX9, "splits", "(I)I"⟩ yX9_splits cX9_splits 3 (some .int) 1 9 := ⟨(t4_in 237 (by decide +kernel) rfl), ⟨(t5_in 0 (by decide +kernel) rfl), (t4_in 238 (by decide +kernel) rfl), cX9_splits, 3, (some .int), (t5_in 19 (by decide +kernel) rfl)⟩, ⟨_, rfl, (t4_in 239 (by decide +kernel) rfl)⟩, (t4_in 238 (by decide +kernel) rfl), (t5_in 19 (by decide +kernel) rfl), (t1_in 15 (by decide +kernel) rfl), by decide, by decide +kernel⟩
theorem lkU_RX11_260_10 : LkU RX11 260 "UnlikeNeighbours$Thing" ⟨RX9, "splits", "(I)I"⟩ yX9_splits cX9_splits 3 (some .int) 1 10 := ⟨(t4_in 237 (by decide +kernel) rfl), ⟨(t5_in 0 (by decide +kernel) rfl), (t4_in 238 (by decide +kernel) rfl), cX9_splits, 3, (some .int), (t5_in 19 (by decide +kernel) rfl)⟩, ⟨_, rfl, (t5_in 18 (by decide +kernel) rfl)⟩, (t4_in 238 (by decide +kernel) rfl), (t5_in 19 (by decide +kernel) rfl), (t1_in 15 (by decide +kernel) rfl), by decide, by decide +kernel⟩
theorem vc_RX11_260 {E : Ev} {cc : ByteArray} {nL : Nat} {p : Program} {l : Launch} {e : Env} {Rm : Room} {s : State} {m : MethodId} {args : Array Value} {below : List Frame} {meth : Method} {c : Code} {cells slots : Nat} {Q : State → Prop} {pc : Nat} {L : List (Nat × Value)} {st stk : List Value} {S : Sh} {R : Rw} {I : Iw} {b ci : Nat} {x : Int32} {r : Iw × Int32} (C : Cx E RX11 cc nL p s m c) (hr : v_splits S R I b x = some r) (hs : S[b]? = some (ci, 5)) (ht : thc ci = true) (hst : stk = .int x :: .ref (E.1 + b) :: st) (hst8 : (st.map fun v => v.category).sum ≤ 8) (hfr : 3 + 1 ≤ Rm.frames) (hlo : 86 ≤ Rm.locals) (hc : cells + 0 ≤ Rm.cells) (hsl : slots + 0 ≤ Rm.slots) (d : decode cc pc = .ok (.invokevirtual 260, 3)) (k : Wk E nL p l e Rm s m args below meth c (cells + 0) (slots + 0) Q (pc + 3) L (.int r.2 :: st) S R r.1) : Wk E nL p l e Rm s m args below meth c cells slots Q pc L stk S R I := by
  have hcf := cof_t hs
  unfold v_splits at hr
  rw [hcf] at hr
  rcases thc_e ht with rfl | rfl | rfl | rfl | rfl | rfl
  · rw [if_neg (by decide), if_neg (by decide)] at hr
    exact k_U C (c_X9_splits hr) lkU_RX11_260_0 hs rfl hst hst8 (by omega) (by omega) hc hsl d k
  · rw [if_neg (by decide), if_neg (by decide)] at hr
    exact k_U C (c_X9_splits hr) lkU_RX11_260_1 hs rfl hst hst8 (by omega) (by omega) hc hsl d k
  · rw [if_pos rfl] at hr
    exact k_U C (c_X4_splits hr) lkU_RX11_260_4 hs rfl hst hst8 (by omega) (by omega) hc hsl d k
  · rw [if_neg (by decide), if_pos rfl] at hr
    exact k_U C (c_X6_splits hr) lkU_RX11_260_6 hs rfl hst hst8 (by omega) (by omega) hc hsl d k
  · rw [if_neg (by decide), if_neg (by decide)] at hr
    exact k_U C (c_X9_splits hr) lkU_RX11_260_9 hs rfl hst hst8 (by omega) (by omega) hc hsl d k
  · rw [if_neg (by decide), if_neg (by decide)] at hr
    exact k_U C (c_X9_splits hr) lkU_RX11_260_10 hs rfl hst hst8 (by omega) (by omega) hc hsl d k
def v_tells (S : Sh) (R : Rw) (I : Iw) (a : Nat) (x : Int32) : Option (Iw × Int32) := if cof S a = 0 then f_X0_tells S R I a x else f_X9_tells S R I a x
theorem lkU_RX11_263_0 : LkU RX11 263 "UnlikeNeighbours$Thing" ⟨RX9, "tells", "(I)I"⟩ yX0_tells cX0_tells 3 (some .int) 1 0 := ⟨(t5_in 20 (by decide +kernel) rfl), ⟨(t5_in 23 (by decide +kernel) rfl), (t5_in 21 (by decide +kernel) rfl), cX9_tells, 2, (some .int), (t5_in 38 (by decide +kernel) rfl)⟩, ⟨_, rfl, (t5_in 24 (by decide +kernel) rfl)⟩, (t5_in 25 (by decide +kernel) rfl), (t5_in 26 (by decide +kernel) rfl), (t1_in 18 (by decide +kernel) rfl), by decide, by decide +kernel⟩
theorem lkU_RX11_263_1 : LkU RX11 263 "UnlikeNeighbours$Thing" ⟨RX9, "tells", "(I)I"⟩ yX9_tells cX9_tells 2 (some .int) 1 1 := ⟨(t5_in 20 (by decide +kernel) rfl), ⟨(t5_in 23 (by decide +kernel) rfl), (t5_in 21 (by decide +kernel) rfl), cX9_tells, 2, (some .int), (t5_in 38 (by decide +kernel) rfl)⟩, ⟨_, rfl, (t5_in 34 (by decide +kernel) rfl)⟩, (t5_in 21 (by decide +kernel) rfl), (t5_in 38 (by decide +kernel) rfl), (t1_in 15 (by decide +kernel) rfl), by decide, by decide +kernel⟩
theorem lkU_RX11_263_4 : LkU RX11 263 "UnlikeNeighbours$Thing" ⟨RX9, "tells", "(I)I"⟩ yX9_tells cX9_tells 2 (some .int) 1 4 := ⟨(t5_in 20 (by decide +kernel) rfl), ⟨(t5_in 23 (by decide +kernel) rfl), (t5_in 21 (by decide +kernel) rfl), cX9_tells, 2, (some .int), (t5_in 38 (by decide +kernel) rfl)⟩, ⟨_, rfl, (t5_in 35 (by decide +kernel) rfl)⟩, (t5_in 21 (by decide +kernel) rfl), (t5_in 38 (by decide +kernel) rfl), (t1_in 15 (by decide +kernel) rfl), by decide, by decide +kernel⟩
theorem lkU_RX11_263_6 : LkU RX11 263 "UnlikeNeighbours$Thing" ⟨RX9, "tells", "(I)I"⟩ yX9_tells cX9_tells 2 (some .int) 1 6 := ⟨(t5_in 20 (by decide +kernel) rfl), ⟨(t5_in 23 (by decide +kernel) rfl), (t5_in 21 (by decide +kernel) rfl), cX9_tells, 2, (some .int), (t5_in 38 (by decide +kernel) rfl)⟩, ⟨_, rfl, (t5_in 36 (by decide +kernel) rfl)⟩, (t5_in 21 (by decide +kernel) rfl), (t5_in 38 (by decide +kernel) rfl), (t1_in 15 (by decide +kernel) rfl), by decide, by decide +kernel⟩
theorem lkU_RX11_263_9 : LkU RX11 263 "UnlikeNeighbours$Thing" ⟨RX9, "tells", "(I)I"⟩ yX9_tells cX9_tells 2 (some .int) 1 9 := ⟨(t5_in 20 (by decide +kernel) rfl), ⟨(t5_in 23 (by decide +kernel) rfl), (t5_in 21 (by decide +kernel) rfl), cX9_tells, 2, (some .int), (t5_in 38 (by decide +kernel) rfl)⟩, ⟨_, rfl, (t5_in 22 (by decide +kernel) rfl)⟩, (t5_in 21 (by decide +kernel) rfl), (t5_in 38 (by decide +kernel) rfl), (t1_in 15 (by decide +kernel) rfl), by decide, by decide +kernel⟩
theorem lkU_RX11_263_10 : LkU RX11 263 "UnlikeNeighbours$Thing" ⟨RX9, "tells", "(I)I"⟩ yX9_tells cX9_tells 2 (some .int) 1 10 := ⟨(t5_in 20 (by decide +kernel) rfl), ⟨(t5_in 23 (by decide +kernel) rfl), (t5_in 21 (by decide +kernel) rfl), cX9_tells, 2, (some .int), (t5_in 38 (by decide +kernel) rfl)⟩, ⟨_, rfl, (t5_in 37 (by decide +kernel) rfl)⟩, (t5_in 21 (by decide +kernel) rfl), (t5_in 38 (by decide +kernel) rfl), (t1_in 15 (by decide +kernel) rfl), by decide, by decide +kernel⟩
theorem vc_RX11_263 {E : Ev} {cc : ByteArray} {nL : Nat} {p : Program} {l : Launch} {e : Env} {Rm : Room} {s : State} {m : MethodId} {args : Array Value} {below : List Frame} {meth : Method} {c : Code} {cells slots : Nat} {Q : State → Prop} {pc : Nat} {L : List (Nat × Value)} {st stk : List Value} {S : Sh} {R : Rw} {I : Iw} {b ci : Nat} {x : Int32} {r : Iw × Int32} (C : Cx E RX11 cc nL p s m c) (hr : v_tells S R I b x = some r) (hs : S[b]? = some (ci, 5)) (ht : thc ci = true) (hst : stk = .int x :: .ref (E.1 + b) :: st) (hst8 : (st.map fun v => v.category).sum ≤ 8) (hfr : 6 + 1 ≤ Rm.frames) (hlo : 148 ≤ Rm.locals) (hc : cells + 0 ≤ Rm.cells) (hsl : slots + 0 ≤ Rm.slots) (d : decode cc pc = .ok (.invokevirtual 263, 3)) (k : Wk E nL p l e Rm s m args below meth c (cells + 0) (slots + 0) Q (pc + 3) L (.int r.2 :: st) S R r.1) : Wk E nL p l e Rm s m args below meth c cells slots Q pc L stk S R I := by
  have hcf := cof_t hs
  unfold v_tells at hr
  rw [hcf] at hr
  rcases thc_e ht with rfl | rfl | rfl | rfl | rfl | rfl
  · rw [if_pos rfl] at hr
    exact k_U C (c_X0_tells hr) lkU_RX11_263_0 hs rfl hst hst8 (by omega) (by omega) hc hsl d k
  · rw [if_neg (by decide)] at hr
    exact k_U C (c_X9_tells hr) lkU_RX11_263_1 hs rfl hst hst8 (by omega) (by omega) hc hsl d k
  · rw [if_neg (by decide)] at hr
    exact k_U C (c_X9_tells hr) lkU_RX11_263_4 hs rfl hst hst8 (by omega) (by omega) hc hsl d k
  · rw [if_neg (by decide)] at hr
    exact k_U C (c_X9_tells hr) lkU_RX11_263_6 hs rfl hst hst8 (by omega) (by omega) hc hsl d k
  · rw [if_neg (by decide)] at hr
    exact k_U C (c_X9_tells hr) lkU_RX11_263_9 hs rfl hst hst8 (by omega) (by omega) hc hsl d k
  · rw [if_neg (by decide)] at hr
    exact k_U C (c_X9_tells hr) lkU_RX11_263_10 hs rfl hst hst8 (by omega) (by omega) hc hsl d k
theorem lkV_RX11_244 : LkV RX11 244 RX11 yX11_thingOn cX11_thingOn 4 (some (.object "UnlikeNeighbours$Thing")) 1 := ⟨(t4_in 84 (by decide +kernel) rfl), (t4_in 86 (by decide +kernel) rfl), (t0_in 27 (by decide +kernel) rfl), (t4_in 87 (by decide +kernel) rfl), (t1_in 1 (by decide +kernel) rfl), by decide, by decide +kernel⟩
theorem dX11_act_0 : decode cX11_act 0 = .ok (.aload_n 0, 1) := by decide +kernel
theorem dX11_act_1 : decode cX11_act 1 = .ok (.iload_n 2, 1) := by decide +kernel
theorem dX11_act_2 : decode cX11_act 2 = .ok (.iconst 0, 1) := by decide +kernel
theorem dX11_act_3 : decode cX11_act 3 = .ok (.iconst 3, 1) := by decide +kernel
theorem dX11_act_4 : decode cX11_act 4 = .ok (.invokestatic 55, 3) := by decide +kernel
theorem dX11_act_7 : decode cX11_act 7 = .ok (.ifCond .eq 11, 3) := by decide +kernel
theorem dX11_act_10 : decode cX11_act 10 = .ok (.aload_n 0, 1) := by decide +kernel
theorem dX11_act_11 : decode cX11_act 11 = .ok (.iload_n 1, 1) := by decide +kernel
theorem dX11_act_12 : decode cX11_act 12 = .ok (.invokevirtual 244, 3) := by decide +kernel
theorem dX11_act_15 : decode cX11_act 15 = .ok (.goto 4, 3) := by decide +kernel
theorem dX11_act_18 : decode cX11_act 18 = .ok (.aconst_null, 1) := by decide +kernel
theorem dX11_act_19 : decode cX11_act 19 = .ok (.putfield 248, 3) := by decide +kernel
theorem dX11_act_22 : decode cX11_act 22 = .ok (.aload_n 0, 1) := by decide +kernel
theorem dX11_act_23 : decode cX11_act 23 = .ok (.getfield 248, 3) := by decide +kernel
theorem dX11_act_26 : decode cX11_act 26 = .ok (.ifnonnull 5, 3) := by decide +kernel
theorem dX11_act_29 : decode cX11_act 29 = .ok (.iconst 0, 1) := by decide +kernel
theorem dX11_act_30 : decode cX11_act 30 = .ok (.ireturn, 1) := by decide +kernel
theorem dX11_act_31 : decode cX11_act 31 = .ok (.iload_n 2, 1) := by decide +kernel
theorem dX11_act_32 : decode cX11_act 32 = .ok (.tableswitch 67 0 2 #[28, 41, 54], 28) := by decide +kernel
theorem dX11_act_60 : decode cX11_act 60 = .ok (.aload_n 0, 1) := by decide +kernel
theorem dX11_act_61 : decode cX11_act 61 = .ok (.getfield 248, 3) := by decide +kernel
theorem dX11_act_64 : decode cX11_act 64 = .ok (.iload_n 3, 1) := by decide +kernel
theorem dX11_act_65 : decode cX11_act 65 = .ok (.invokevirtual 252, 3) := by decide +kernel
theorem dX11_act_68 : decode cX11_act 68 = .ok (.istore 4, 2) := by decide +kernel
theorem dX11_act_70 : decode cX11_act 70 = .ok (.goto 39, 3) := by decide +kernel
theorem dX11_act_73 : decode cX11_act 73 = .ok (.aload_n 0, 1) := by decide +kernel
theorem dX11_act_74 : decode cX11_act 74 = .ok (.getfield 248, 3) := by decide +kernel
theorem dX11_act_77 : decode cX11_act 77 = .ok (.iload_n 3, 1) := by decide +kernel
theorem dX11_act_78 : decode cX11_act 78 = .ok (.invokevirtual 257, 3) := by decide +kernel
theorem dX11_act_81 : decode cX11_act 81 = .ok (.istore 4, 2) := by decide +kernel
theorem dX11_act_83 : decode cX11_act 83 = .ok (.goto 26, 3) := by decide +kernel
theorem dX11_act_86 : decode cX11_act 86 = .ok (.aload_n 0, 1) := by decide +kernel
theorem dX11_act_87 : decode cX11_act 87 = .ok (.getfield 248, 3) := by decide +kernel
theorem dX11_act_90 : decode cX11_act 90 = .ok (.iload_n 3, 1) := by decide +kernel
theorem dX11_act_91 : decode cX11_act 91 = .ok (.invokevirtual 260, 3) := by decide +kernel
theorem dX11_act_94 : decode cX11_act 94 = .ok (.istore 4, 2) := by decide +kernel
theorem dX11_act_96 : decode cX11_act 96 = .ok (.goto 13, 3) := by decide +kernel
theorem dX11_act_99 : decode cX11_act 99 = .ok (.aload_n 0, 1) := by decide +kernel
theorem dX11_act_100 : decode cX11_act 100 = .ok (.getfield 248, 3) := by decide +kernel
theorem dX11_act_103 : decode cX11_act 103 = .ok (.iload_n 3, 1) := by decide +kernel
theorem dX11_act_104 : decode cX11_act 104 = .ok (.invokevirtual 263, 3) := by decide +kernel
theorem dX11_act_107 : decode cX11_act 107 = .ok (.istore 4, 2) := by decide +kernel
theorem dX11_act_109 : decode cX11_act 109 = .ok (.aload_n 0, 1) := by decide +kernel
theorem dX11_act_110 : decode cX11_act 110 = .ok (.getfield 248, 3) := by decide +kernel
theorem dX11_act_113 : decode cX11_act 113 = .ok (.getfield 266, 3) := by decide +kernel
theorem dX11_act_116 : decode cX11_act 116 = .ok (.ifCond .eq 8, 3) := by decide +kernel
theorem dX11_act_119 : decode cX11_act 119 = .ok (.bipush (-15), 2) := by decide +kernel
theorem dX11_act_121 : decode cX11_act 121 = .ok (.goto 5, 3) := by decide +kernel
theorem dX11_act_124 : decode cX11_act 124 = .ok (.iload 4, 2) := by decide +kernel
theorem dX11_act_126 : decode cX11_act 126 = .ok (.ireturn, 1) := by decide +kernel
def f_X11_act_109   (S : Sh) (R : Rw) (I : Iw) (a0 : Nat) (x4 : Int32) : Option ((Sh × Rw × Iw) × Int32) := gp (sok S a0 11 12) (rl (R a0 11) (fun b12 => gp (thg S b12) ((if (I b12 4) = 0 then some ((S, R, I), x4) else some ((S, R, I), (-15 : Int32))))))
set_option maxHeartbeats 4000000 in
theorem b_X11_act_109 {E : Ev} {p : Program} {l : Launch} {e : Env} {s : State} {m : MethodId} {args : Array Value} {below : List Frame} {meth : Method} {c : Code} (C : Cx E RX11 cX11_act 5 p s m c) (hr : meth.sig.returnType = (some .int)) (hk : meth.locks = false) {r : (Sh × Rw × Iw) × Int32}  : ∀ (S : Sh) (R : Rw) (I : Iw) (a0 : Nat) (x4 : Int32), f_X11_act_109    S R I a0 x4 = some r → Wk E 5 p l e ({ frames := 7, cells := 2, slots := 35, locals := 148 } : Room) s m args below meth c 2 35 (MQ below (Qw E r.1.1 r.1.2.1 r.1.2.2 (some (.int r.2))) args s 2 35 (fun q => E.1 ≤ q)) 109 [(0, .ref (E.1 + a0)), (4, .int x4)] [] S R I := by
  intro S R I a0 x4 h
  rw [f_X11_act_109] at h
  refine k_aloadn (pc := 109) C dX11_act_109 (i := 0) rfl 0 rfl ?_
  obtain ⟨hs110, h⟩ := gp_e h
  have hs11 := sok_e hs110
  obtain ⟨b12, hb12, h⟩ := rl_e h
  refine k_getR (pc := 110) C lkF_RX11_248_11 hs11 ir_11_11 hb12 dX11_act_110 ?_
  obtain ⟨hs130, h⟩ := gp_e h
  obtain ⟨ci14, hs13t, hs13⟩ := thg_e hs130
  refine k_getI (pc := 113) C (lkFT_RX11_266 _ hs13t) hs13 (irT_4 _ hs13t) dX11_act_113 ?_
  refine k_if_eq (pc := 116) C dX11_act_116 (tgt := 124) (by decide) (fun hc15 => ?_) (fun hc15 => ?_)
  · rw [if_pos hc15] at h
    refine k_iload (pc := 124) C dX11_act_124 1 rfl ?_
    have h := Option.some.inj h
    subst h
    exact k_iret (pc := 126) C hr hk dX11_act_126
  · rw [if_neg hc15] at h
    refine k_bipush (pc := 119) C (v := (-15 : Int32)) dX11_act_119 (by decide) ?_
    refine k_goto (pc := 121) C dX11_act_121 (tgt := 126) (by decide) ?_
    have h := Option.some.inj h
    subst h
    exact k_iret (pc := 126) C hr hk dX11_act_126
def f_X11_act_19   (S : Sh) (R : Rw) (I : Iw) (a0 : Nat) (x2 : Int32) (x3 : Int32) (s0 : Rf) (q1 : Nat) : Option ((Sh × Rw × Iw) × Int32) := gp (sok S q1 11 12) (lt (up2 R q1 11 (s0)) (fun R4 => gp (sok S a0 11 12) ((onl (R4 a0 11) (some ((S, R4, I), (0 : Int32))) ((if x2 = (0 : Int32) then rl (R4 a0 11) (fun b7 => gp (thg S b7) (bd (v_weighs S R4 I b7 x3) (fun r10 => f_X11_act_109   S R4 r10.1 a0 r10.2))) else (if x2 = (1 : Int32) then rl (R4 a0 11) (fun b16 => gp (thg S b16) (bd (v_turns S R4 I b16 x3) (fun r19 => f_X11_act_109   S R4 r19.1 a0 r19.2))) else (if x2 = (2 : Int32) then rl (R4 a0 11) (fun b20 => gp (thg S b20) (bd (v_splits S R4 I b20 x3) (fun r23 => f_X11_act_109   S R4 r23.1 a0 r23.2))) else rl (R4 a0 11) (fun b24 => gp (thg S b24) (bd (v_tells S R4 I b24 x3) (fun r27 => f_X11_act_109   S R4 r27.1 a0 r27.2)))))))))))
set_option maxHeartbeats 4000000 in
theorem b_X11_act_19 {E : Ev} {p : Program} {l : Launch} {e : Env} {s : State} {m : MethodId} {args : Array Value} {below : List Frame} {meth : Method} {c : Code} (C : Cx E RX11 cX11_act 5 p s m c) (hr : meth.sig.returnType = (some .int)) (hk : meth.locks = false) {r : (Sh × Rw × Iw) × Int32}  : ∀ (S : Sh) (R : Rw) (I : Iw) (a0 : Nat) (x2 : Int32) (x3 : Int32) (s0 : Rf) (q1 : Nat), f_X11_act_19    S R I a0 x2 x3 s0 q1 = some r → Wk E 5 p l e ({ frames := 7, cells := 2, slots := 35, locals := 148 } : Room) s m args below meth c 2 35 (MQ below (Qw E r.1.1 r.1.2.1 r.1.2.2 (some (.int r.2))) args s 2 35 (fun q => E.1 ≤ q)) 19 [(0, .ref (E.1 + a0)), (2, .int x2), (3, .int x3)] [rv E s0, .ref (E.1 + q1)] S R I := by
  intro S R I a0 x2 x3 s0 q1 h
  rw [f_X11_act_19] at h
  obtain ⟨hs30, h⟩ := gp_e h
  have hs3 := sok_e hs30
  obtain ⟨R4, eR4, h⟩ := lt_e h
  refine k_putO (pc := 19) C lkP_RX11_248_11 hs3 ir_11_11 (x := s0) (fun _ => ⟨rfl, rfl⟩) ⟨rfl, rfl⟩ dX11_act_19 ?_
  rw [← eR4]
  refine k_aloadn (pc := 22) C dX11_act_22 (i := 0) rfl 0 rfl ?_
  obtain ⟨hs50, h⟩ := gp_e h
  have hs5 := sok_e hs50
  refine k_getO (pc := 23) C lkF_RX11_248_11 hs5 ir_11_11 dX11_act_23 ?_
  refine k_ifnonnull (pc := 26) C dX11_act_26 (tgt := 31) (by decide) (fun hc6 => ?_) (fun _ hc6 => ?_)
  · rw [onl_n hc6] at h
    refine k_iconst (pc := 29) C (v := (0 : Int32)) dX11_act_29 (by decide) ?_
    have h := Option.some.inj h
    subst h
    exact k_iret (pc := 30) C hr hk dX11_act_30
  · rw [onl_s hc6] at h
    refine k_iloadn (pc := 31) C dX11_act_31 (i := 2) rfl 1 rfl ?_
    by_cases hc28 : x2 = (0 : Int32)
    · rw [if_pos hc28] at h
      refine k_tabIn (pc := 32) C dX11_act_32 (by rw [hc28]; decide) (by rw [hc28]; decide) (off := 28) (by rw [hc28]; rfl) (tgt := 60) (by decide) ?_
      refine k_aloadn (pc := 60) C dX11_act_60 (i := 0) rfl 0 rfl ?_
      obtain ⟨b7, hb7, h⟩ := rl_e h
      refine k_getR (pc := 61) C lkF_RX11_248_11 hs5 ir_11_11 hb7 dX11_act_61 ?_
      refine k_iloadn (pc := 64) C dX11_act_64 (i := 3) rfl 2 rfl ?_
      obtain ⟨hs80, h⟩ := gp_e h
      obtain ⟨ci9, hs8t, hs8⟩ := thg_e hs80
      obtain ⟨r10, hr10, h⟩ := bd_e h
      refine vc_RX11_252 (pc := 65) (st := []) C hr10 hs8 hs8t rfl (Nat.le_of_ble_eq_true rfl) (Nat.le_of_ble_eq_true rfl) (Nat.le_of_ble_eq_true rfl) (Nat.le_of_ble_eq_true rfl) (Nat.le_of_ble_eq_true rfl) dX11_act_65 ?_
      refine k_nf (cells2 := 2) (slots2 := 35) (st2 := [.int r10.2]) rfl rfl rfl ?_
      refine k_istore (pc := 68) C dX11_act_68 (by decide) (L2 := [(0, .ref (E.1 + a0)), (2, .int x2), (3, .int x3), (4, .int r10.2)]) rfl ?_
      refine k_goto (pc := 70) C dX11_act_70 (tgt := 109) (by decide) ?_
      refine k_loc (L2 := [(0, .ref (E.1 + a0)), (4, .int r10.2)]) [0, 3] rfl ?_
      exact b_X11_act_109 C hr hk  _ _ _ _ _ h
    · rw [if_neg hc28] at h
      by_cases hc29 : x2 = (1 : Int32)
      · rw [if_pos hc29] at h
        refine k_tabIn (pc := 32) C dX11_act_32 (by rw [hc29]; decide) (by rw [hc29]; decide) (off := 41) (by rw [hc29]; rfl) (tgt := 73) (by decide) ?_
        refine k_aloadn (pc := 73) C dX11_act_73 (i := 0) rfl 0 rfl ?_
        obtain ⟨b16, hb16, h⟩ := rl_e h
        refine k_getR (pc := 74) C lkF_RX11_248_11 hs5 ir_11_11 hb16 dX11_act_74 ?_
        refine k_iloadn (pc := 77) C dX11_act_77 (i := 3) rfl 2 rfl ?_
        obtain ⟨hs170, h⟩ := gp_e h
        obtain ⟨ci18, hs17t, hs17⟩ := thg_e hs170
        obtain ⟨r19, hr19, h⟩ := bd_e h
        refine vc_RX11_257 (pc := 78) (st := []) C hr19 hs17 hs17t rfl (Nat.le_of_ble_eq_true rfl) (Nat.le_of_ble_eq_true rfl) (Nat.le_of_ble_eq_true rfl) (Nat.le_of_ble_eq_true rfl) (Nat.le_of_ble_eq_true rfl) dX11_act_78 ?_
        refine k_nf (cells2 := 2) (slots2 := 35) (st2 := [.int r19.2]) rfl rfl rfl ?_
        refine k_istore (pc := 81) C dX11_act_81 (by decide) (L2 := [(0, .ref (E.1 + a0)), (2, .int x2), (3, .int x3), (4, .int r19.2)]) rfl ?_
        refine k_goto (pc := 83) C dX11_act_83 (tgt := 109) (by decide) ?_
        refine k_loc (L2 := [(0, .ref (E.1 + a0)), (4, .int r19.2)]) [0, 3] rfl ?_
        exact b_X11_act_109 C hr hk  _ _ _ _ _ h
      · rw [if_neg hc29] at h
        by_cases hc30 : x2 = (2 : Int32)
        · rw [if_pos hc30] at h
          refine k_tabIn (pc := 32) C dX11_act_32 (by rw [hc30]; decide) (by rw [hc30]; decide) (off := 54) (by rw [hc30]; rfl) (tgt := 86) (by decide) ?_
          refine k_aloadn (pc := 86) C dX11_act_86 (i := 0) rfl 0 rfl ?_
          obtain ⟨b20, hb20, h⟩ := rl_e h
          refine k_getR (pc := 87) C lkF_RX11_248_11 hs5 ir_11_11 hb20 dX11_act_87 ?_
          refine k_iloadn (pc := 90) C dX11_act_90 (i := 3) rfl 2 rfl ?_
          obtain ⟨hs210, h⟩ := gp_e h
          obtain ⟨ci22, hs21t, hs21⟩ := thg_e hs210
          obtain ⟨r23, hr23, h⟩ := bd_e h
          refine vc_RX11_260 (pc := 91) (st := []) C hr23 hs21 hs21t rfl (Nat.le_of_ble_eq_true rfl) (Nat.le_of_ble_eq_true rfl) (Nat.le_of_ble_eq_true rfl) (Nat.le_of_ble_eq_true rfl) (Nat.le_of_ble_eq_true rfl) dX11_act_91 ?_
          refine k_nf (cells2 := 2) (slots2 := 35) (st2 := [.int r23.2]) rfl rfl rfl ?_
          refine k_istore (pc := 94) C dX11_act_94 (by decide) (L2 := [(0, .ref (E.1 + a0)), (2, .int x2), (3, .int x3), (4, .int r23.2)]) rfl ?_
          refine k_goto (pc := 96) C dX11_act_96 (tgt := 109) (by decide) ?_
          refine k_loc (L2 := [(0, .ref (E.1 + a0)), (4, .int r23.2)]) [0, 3] rfl ?_
          exact b_X11_act_109 C hr hk  _ _ _ _ _ h
        · rw [if_neg hc30] at h
          refine k_tabOut (pc := 32) C dX11_act_32 (tab_out x2 0 2 (fun z h1 h2 hz => by
            have hz2 : z = 0 ∨ z = 1 ∨ z = 2 := by omega
            rcases hz2 with rfl | rfl | rfl
            · exact hc28 (Int32.toInt_inj.mp (hz.trans (by decide)))
            · exact hc29 (Int32.toInt_inj.mp (hz.trans (by decide)))
            · exact hc30 (Int32.toInt_inj.mp (hz.trans (by decide)))
            ) ) (tgt := 99) (by decide) ?_
          refine k_aloadn (pc := 99) C dX11_act_99 (i := 0) rfl 0 rfl ?_
          obtain ⟨b24, hb24, h⟩ := rl_e h
          refine k_getR (pc := 100) C lkF_RX11_248_11 hs5 ir_11_11 hb24 dX11_act_100 ?_
          refine k_iloadn (pc := 103) C dX11_act_103 (i := 3) rfl 2 rfl ?_
          obtain ⟨hs250, h⟩ := gp_e h
          obtain ⟨ci26, hs25t, hs25⟩ := thg_e hs250
          obtain ⟨r27, hr27, h⟩ := bd_e h
          refine vc_RX11_263 (pc := 104) (st := []) C hr27 hs25 hs25t rfl (Nat.le_of_ble_eq_true rfl) (Nat.le_of_ble_eq_true rfl) (Nat.le_of_ble_eq_true rfl) (Nat.le_of_ble_eq_true rfl) (Nat.le_of_ble_eq_true rfl) dX11_act_104 ?_
          refine k_nf (cells2 := 2) (slots2 := 35) (st2 := [.int r27.2]) rfl rfl rfl ?_
          refine k_istore (pc := 107) C dX11_act_107 (by decide) (L2 := [(0, .ref (E.1 + a0)), (2, .int x2), (3, .int x3), (4, .int r27.2)]) rfl ?_
          refine k_loc (L2 := [(0, .ref (E.1 + a0)), (4, .int r27.2)]) [0, 3] rfl ?_
          exact b_X11_act_109 C hr hk  _ _ _ _ _ h
def f_X11_act   (S : Sh) (R : Rw) (I : Iw) (a0 : Nat) (x1 : Int32) (x2 : Int32) (x3 : Int32) : Option ((Sh × Rw × Iw) × Int32) := bd (f_X11_isBetween S R I x2 (0 : Int32) (3 : Int32)) (fun r1 => (if r1 = 0 then f_X11_act_19   S R I a0 x2 x3 (none : Rf) a0 else gp (sok S a0 11 12) (bd (f_X11_thingOn S R I a0 x1) (fun r32 => f_X11_act_19   r32.1.1 r32.1.2.1 r32.1.2.2 a0 x2 x3 r32.2 a0))))
set_option maxHeartbeats 4000000 in
theorem b_X11_act {E : Ev} {p : Program} {l : Launch} {e : Env} {s : State} {m : MethodId} {args : Array Value} {below : List Frame} {meth : Method} {c : Code} (C : Cx E RX11 cX11_act 5 p s m c) (hr : meth.sig.returnType = (some .int)) (hk : meth.locks = false) {r : (Sh × Rw × Iw) × Int32}  : ∀ (S : Sh) (R : Rw) (I : Iw) (a0 : Nat) (x1 : Int32) (x2 : Int32) (x3 : Int32), f_X11_act    S R I a0 x1 x2 x3 = some r → Wk E 5 p l e ({ frames := 7, cells := 2, slots := 35, locals := 148 } : Room) s m args below meth c 0 0 (MQ below (Qw E r.1.1 r.1.2.1 r.1.2.2 (some (.int r.2))) args s 2 35 (fun q => E.1 ≤ q)) 0 [(0, .ref (E.1 + a0)), (1, .int x1), (2, .int x2), (3, .int x3)] [] S R I := by
  intro S R I a0 x1 x2 x3 h
  rw [f_X11_act] at h
  refine k_aloadn (pc := 0) C dX11_act_0 (i := 0) rfl 0 rfl ?_
  refine k_iloadn (pc := 1) C dX11_act_1 (i := 2) rfl 2 rfl ?_
  refine k_iconst (pc := 2) C (v := (0 : Int32)) dX11_act_2 (by decide) ?_
  refine k_iconst (pc := 3) C (v := (3 : Int32)) dX11_act_3 (by decide) ?_
  obtain ⟨r1, hr1, h⟩ := bd_e h
  refine k_S (pc := 4) (st := [.ref (E.1 + a0)]) C (c_X11_isBetween hr1) lkS_RX11_55 rfl rfl (Nat.le_of_ble_eq_true rfl) (Nat.le_of_ble_eq_true rfl) (Nat.le_of_ble_eq_true rfl) (Nat.le_of_ble_eq_true rfl) (Nat.le_of_ble_eq_true rfl) dX11_act_4 ?_
  refine k_nf (cells2 := 0) (slots2 := 0) (st2 := [.int r1, .ref (E.1 + a0)]) rfl rfl rfl ?_
  refine k_if_eq (pc := 7) C dX11_act_7 (tgt := 18) (by decide) (fun hc2 => ?_) (fun hc2 => ?_)
  · rw [if_pos hc2] at h
    refine k_null (pc := 18) C dX11_act_18 ?_
    refine k_loc (L2 := [(0, .ref (E.1 + a0)), (2, .int x2), (3, .int x3)]) [0, 2, 3] rfl ?_
    refine k_widen (k0 := 2) (n0 := 35) (Nat.le_of_ble_eq_true rfl) (Nat.le_of_ble_eq_true rfl) ?_
    exact b_X11_act_19 C hr hk  _ _ _ _ _ _ _ _ h
  · rw [if_neg hc2] at h
    refine k_aloadn (pc := 10) C dX11_act_10 (i := 0) rfl 0 rfl ?_
    refine k_iloadn (pc := 11) C dX11_act_11 (i := 1) rfl 1 rfl ?_
    obtain ⟨hs310, h⟩ := gp_e h
    have hs31 := sok_e hs310
    obtain ⟨r32, hr32, h⟩ := bd_e h
    refine k_V (pc := 12) (st := [.ref (E.1 + a0)]) C (c_X11_thingOn hr32) lkV_RX11_244 hs31 rfl rfl rfl (Nat.le_of_ble_eq_true rfl) (Nat.le_of_ble_eq_true rfl) (Nat.le_of_ble_eq_true rfl) (Nat.le_of_ble_eq_true rfl) (Nat.le_of_ble_eq_true rfl) dX11_act_12 ?_
    refine k_nf (cells2 := 2) (slots2 := 35) (st2 := [rv E r32.2, .ref (E.1 + a0)]) rfl rfl rfl ?_
    refine k_goto (pc := 15) C dX11_act_15 (tgt := 19) (by decide) ?_
    refine k_loc (L2 := [(0, .ref (E.1 + a0)), (2, .int x2), (3, .int x3)]) [0, 2, 3] rfl ?_
    exact b_X11_act_19 C hr hk  _ _ _ _ _ _ _ _ h
theorem c_X11_act {E : Ev} {l : Launch} {S : Sh} {R : Rw} {I : Iw} {a0 : Nat} {x1 : Int32} {x2 : Int32} {x3 : Int32} {r : (Sh × Rw × Iw) × Int32} (h : f_X11_act S R I a0 x1 x2 x3 = some r) : Mt E l yX11_act cX11_act 5 (some .int) 7 148 [.ref (E.1 + a0), .int x1, .int x2, .int x3] S R I r.1.1 r.1.2.1 r.1.2.2 (some (.int r.2)) 2 35 := mt_of (by decide) (Nat.le_of_ble_eq_true rfl) (fun p e s m args below meth c C hr hk hn => b_X11_act C hr hk _ _ _ _ _ _ _ h)
theorem lkF_RX11_287_0 : LkF RX11 287 0 3 := ⟨RX0, TX0, 5, "UnlikeNeighbours$Thing", fc0, by decide, (t4_in 110 (by decide +kernel) rfl), Or.inl rfl⟩
theorem lkF_RX11_287_1 : LkF RX11 287 1 3 := ⟨RX1, TX1, 5, "UnlikeNeighbours$Thing", fc1, by decide, (t4_in 110 (by decide +kernel) rfl), Or.inl rfl⟩
theorem lkF_RX11_287_4 : LkF RX11 287 4 3 := ⟨RX4, TX4, 5, "UnlikeNeighbours$Thing", fc4, by decide, (t4_in 110 (by decide +kernel) rfl), Or.inl rfl⟩
theorem lkF_RX11_287_6 : LkF RX11 287 6 3 := ⟨RX6, TX6, 5, "UnlikeNeighbours$Thing", fc6, by decide, (t4_in 110 (by decide +kernel) rfl), Or.inl rfl⟩
theorem lkF_RX11_287_9 : LkF RX11 287 9 3 := ⟨RX9, TX9, 5, "UnlikeNeighbours$Thing", fc9, by decide, (t4_in 110 (by decide +kernel) rfl), Or.inl rfl⟩
theorem lkF_RX11_287_10 : LkF RX11 287 10 3 := ⟨RX10, TX10, 5, "UnlikeNeighbours$Thing", fc10, by decide, (t4_in 110 (by decide +kernel) rfl), Or.inl rfl⟩
theorem lkFT_RX11_287 : ∀ ci : Nat, thc ci = true → LkF RX11 287 ci 3 := th_all lkF_RX11_287_0 lkF_RX11_287_1 lkF_RX11_287_4 lkF_RX11_287_6 lkF_RX11_287_9 lkF_RX11_287_10
theorem lkF_RX11_290_0 : LkF RX11 290 0 2 := ⟨RX0, TX0, 5, "UnlikeNeighbours$Thing", fc0, by decide, (t4_in 108 (by decide +kernel) rfl), Or.inl rfl⟩
theorem lkF_RX11_290_1 : LkF RX11 290 1 2 := ⟨RX1, TX1, 5, "UnlikeNeighbours$Thing", fc1, by decide, (t4_in 108 (by decide +kernel) rfl), Or.inl rfl⟩
theorem lkF_RX11_290_4 : LkF RX11 290 4 2 := ⟨RX4, TX4, 5, "UnlikeNeighbours$Thing", fc4, by decide, (t4_in 108 (by decide +kernel) rfl), Or.inl rfl⟩
theorem lkF_RX11_290_6 : LkF RX11 290 6 2 := ⟨RX6, TX6, 5, "UnlikeNeighbours$Thing", fc6, by decide, (t4_in 108 (by decide +kernel) rfl), Or.inl rfl⟩
theorem lkF_RX11_290_9 : LkF RX11 290 9 2 := ⟨RX9, TX9, 5, "UnlikeNeighbours$Thing", fc9, by decide, (t4_in 108 (by decide +kernel) rfl), Or.inl rfl⟩
theorem lkF_RX11_290_10 : LkF RX11 290 10 2 := ⟨RX10, TX10, 5, "UnlikeNeighbours$Thing", fc10, by decide, (t4_in 108 (by decide +kernel) rfl), Or.inl rfl⟩
theorem lkFT_RX11_290 : ∀ ci : Nat, thc ci = true → LkF RX11 290 ci 2 := th_all lkF_RX11_290_0 lkF_RX11_290_1 lkF_RX11_290_4 lkF_RX11_290_6 lkF_RX11_290_9 lkF_RX11_290_10
theorem dX11_trace_0 : decode cX11_trace 0 = .ok (.aload_n 0, 1) := by decide +kernel
theorem dX11_trace_1 : decode cX11_trace 1 = .ok (.getfield 248, 3) := by decide +kernel
theorem dX11_trace_4 : decode cX11_trace 4 = .ok (.ifnull 30, 3) := by decide +kernel
theorem dX11_trace_7 : decode cX11_trace 7 = .ok (.iload_n 1, 1) := by decide +kernel
theorem dX11_trace_8 : decode cX11_trace 8 = .ok (.ifCond .lt 26, 3) := by decide +kernel
theorem dX11_trace_11 : decode cX11_trace 11 = .ok (.iload_n 1, 1) := by decide +kernel
theorem dX11_trace_12 : decode cX11_trace 12 = .ok (.aload_n 0, 1) := by decide +kernel
theorem dX11_trace_13 : decode cX11_trace 13 = .ok (.getfield 248, 3) := by decide +kernel
theorem dX11_trace_16 : decode cX11_trace 16 = .ok (.getfield 287, 3) := by decide +kernel
theorem dX11_trace_19 : decode cX11_trace 19 = .ok (.if_icmp .ge 15, 3) := by decide +kernel
theorem dX11_trace_22 : decode cX11_trace 22 = .ok (.aload_n 0, 1) := by decide +kernel
theorem dX11_trace_23 : decode cX11_trace 23 = .ok (.getfield 248, 3) := by decide +kernel
theorem dX11_trace_26 : decode cX11_trace 26 = .ok (.getfield 290, 3) := by decide +kernel
theorem dX11_trace_29 : decode cX11_trace 29 = .ok (.iload_n 1, 1) := by decide +kernel
theorem dX11_trace_30 : decode cX11_trace 30 = .ok (.iaload, 1) := by decide +kernel
theorem dX11_trace_31 : decode cX11_trace 31 = .ok (.goto 5, 3) := by decide +kernel
theorem dX11_trace_34 : decode cX11_trace 34 = .ok (.bipush (-3), 2) := by decide +kernel
theorem dX11_trace_36 : decode cX11_trace 36 = .ok (.ireturn, 1) := by decide +kernel
def f_X11_trace (S : Sh) (R : Rw) (I : Iw)  (a0 : Nat) (x1 : Int32) : Option (Int32) := gp (sok S a0 11 12) ((onl (R a0 11) (some (-3 : Int32)) ((if x1 < 0 then some (-3 : Int32) else rl (R a0 11) (fun b4 => gp (thg S b4) ((if (I b4 3) ≤ x1 then some (-3 : Int32) else rl (R a0 11) (fun b8 => gp (thg S b8) (rl (R b8 2) (fun b11 => gp (aok S 20 b11 x1) (some (I b11 x1.toNatClampNeg))))))))))))
set_option maxHeartbeats 4000000 in
theorem b_X11_trace {E : Ev} {p : Program} {l : Launch} {e : Env} {s : State} {m : MethodId} {args : Array Value} {below : List Frame} {meth : Method} {c : Code} (C : Cx E RX11 cX11_trace 2 p s m c) (hr : meth.sig.returnType = (some .int)) (hk : meth.locks = false) {S : Sh} {R : Rw} {I : Iw} {r : Int32}  : ∀ (a0 : Nat) (x1 : Int32), f_X11_trace S R I   a0 x1 = some r → Wk E 2 p l e ({ frames := 0, cells := 0, slots := 0, locals := 0 } : Room) s m args below meth c 0 0 (MQ below (Qw E S R I (some (.int r))) args s 0 0 (fun q => E.1 ≤ q)) 0 [(0, .ref (E.1 + a0)), (1, .int x1)] [] S R I := by
  intro a0 x1 h
  rw [f_X11_trace] at h
  refine k_aloadn (pc := 0) C dX11_trace_0 (i := 0) rfl 0 rfl ?_
  obtain ⟨hs10, h⟩ := gp_e h
  have hs1 := sok_e hs10
  refine k_getO (pc := 1) C lkF_RX11_248_11 hs1 ir_11_11 dX11_trace_1 ?_
  refine k_ifnull (pc := 4) C dX11_trace_4 (tgt := 34) (by decide) (fun hc2 => ?_) (fun _ hc2 => ?_)
  · rw [onl_n hc2] at h
    refine k_bipush (pc := 34) C (v := (-3 : Int32)) dX11_trace_34 (by decide) ?_
    have h := Option.some.inj h
    subst h
    exact k_iret (pc := 36) C hr hk dX11_trace_36
  · rw [onl_s hc2] at h
    refine k_iloadn (pc := 7) C dX11_trace_7 (i := 1) rfl 1 rfl ?_
    refine k_if_lt (pc := 8) C dX11_trace_8 (tgt := 34) (by decide) (fun hc3 => ?_) (fun hc3 => ?_)
    · rw [if_pos hc3] at h
      refine k_bipush (pc := 34) C (v := (-3 : Int32)) dX11_trace_34 (by decide) ?_
      have h := Option.some.inj h
      subst h
      exact k_iret (pc := 36) C hr hk dX11_trace_36
    · rw [if_neg hc3] at h
      refine k_iloadn (pc := 11) C dX11_trace_11 (i := 1) rfl 1 rfl ?_
      refine k_aloadn (pc := 12) C dX11_trace_12 (i := 0) rfl 0 rfl ?_
      obtain ⟨b4, hb4, h⟩ := rl_e h
      refine k_getR (pc := 13) C lkF_RX11_248_11 hs1 ir_11_11 hb4 dX11_trace_13 ?_
      obtain ⟨hs50, h⟩ := gp_e h
      obtain ⟨ci6, hs5t, hs5⟩ := thg_e hs50
      refine k_getI (pc := 16) C (lkFT_RX11_287 _ hs5t) hs5 (irT_3 _ hs5t) dX11_trace_16 ?_
      refine k_icmp_ge (pc := 19) C dX11_trace_19 (tgt := 34) (by decide) (fun hc7 => ?_) (fun hc7 => ?_)
      · rw [if_pos hc7] at h
        refine k_bipush (pc := 34) C (v := (-3 : Int32)) dX11_trace_34 (by decide) ?_
        have h := Option.some.inj h
        subst h
        exact k_iret (pc := 36) C hr hk dX11_trace_36
      · rw [if_neg hc7] at h
        refine k_aloadn (pc := 22) C dX11_trace_22 (i := 0) rfl 0 rfl ?_
        obtain ⟨b8, hb8, h⟩ := rl_e h
        refine k_getR (pc := 23) C lkF_RX11_248_11 hs1 ir_11_11 hb8 dX11_trace_23 ?_
        obtain ⟨hs90, h⟩ := gp_e h
        obtain ⟨ci10, hs9t, hs9⟩ := thg_e hs90
        obtain ⟨b11, hb11, h⟩ := rl_e h
        refine k_getR (pc := 26) C (lkFT_RX11_290 _ hs9t) hs9 (irT_2 _ hs9t) hb11 dX11_trace_26 ?_
        refine k_iloadn (pc := 29) C dX11_trace_29 (i := 1) rfl 1 rfl ?_
        obtain ⟨ha12, h⟩ := gp_e h
        refine k_iald (pc := 30) C ha12 dX11_trace_30 ?_
        refine k_goto (pc := 31) C dX11_trace_31 (tgt := 36) (by decide) ?_
        have h := Option.some.inj h
        subst h
        exact k_iret (pc := 36) C hr hk dX11_trace_36
theorem c_X11_trace {E : Ev} {l : Launch} {S : Sh} {R : Rw} {I : Iw} {a0 : Nat} {x1 : Int32} {r : Int32} (h : f_X11_trace S R I a0 x1 = some r) : Mt E l yX11_trace cX11_trace 2 (some .int) 0 0 [.ref (E.1 + a0), .int x1] S R I S R I (some (.int r)) 0 0 := mt_of (by decide) (Nat.le_of_ble_eq_true rfl) (fun p e s m args below meth c C hr hk hn => b_X11_trace C hr hk _ _ h)
theorem lkF_RX11_293_5 : LkF RX11 293 5 0 := ⟨RX5, TX5, 8, "UnlikeNeighbours$Rules", fc5, by decide, (t1_in 43 (by decide +kernel) rfl), Or.inl rfl⟩
theorem lkF_RX11_296_3 : LkF RX11 296 3 0 := ⟨RX3, TX3, 7, "UnlikeNeighbours$Reader", fc3, by decide, (t1_in 147 (by decide +kernel) rfl), Or.inl rfl⟩
theorem dX11_many_0 : decode cX11_many 0 = .ok (.iload_n 1, 1) := by decide +kernel
theorem dX11_many_1 : decode cX11_many 1 = .ok (.tableswitch 110 0 6 #[43, 51, 62, 70, 78, 83, 91], 43) := by decide +kernel
theorem dX11_many_44 : decode cX11_many 44 = .ok (.aload_n 0, 1) := by decide +kernel
theorem dX11_many_45 : decode cX11_many 45 = .ok (.getfield 12, 3) := by decide +kernel
theorem dX11_many_48 : decode cX11_many 48 = .ok (.getfield 179, 3) := by decide +kernel
theorem dX11_many_51 : decode cX11_many 51 = .ok (.ireturn, 1) := by decide +kernel
theorem dX11_many_52 : decode cX11_many 52 = .ok (.aload_n 0, 1) := by decide +kernel
theorem dX11_many_53 : decode cX11_many 53 = .ok (.getfield 12, 3) := by decide +kernel
theorem dX11_many_56 : decode cX11_many 56 = .ok (.getfield 129, 3) := by decide +kernel
theorem dX11_many_59 : decode cX11_many 59 = .ok (.getfield 293, 3) := by decide +kernel
theorem dX11_many_62 : decode cX11_many 62 = .ok (.ireturn, 1) := by decide +kernel
theorem dX11_many_63 : decode cX11_many 63 = .ok (.aload_n 0, 1) := by decide +kernel
theorem dX11_many_64 : decode cX11_many 64 = .ok (.getfield 12, 3) := by decide +kernel
theorem dX11_many_67 : decode cX11_many 67 = .ok (.getfield 149, 3) := by decide +kernel
theorem dX11_many_70 : decode cX11_many 70 = .ok (.ireturn, 1) := by decide +kernel
theorem dX11_many_71 : decode cX11_many 71 = .ok (.aload_n 0, 1) := by decide +kernel
theorem dX11_many_72 : decode cX11_many 72 = .ok (.getfield 12, 3) := by decide +kernel
theorem dX11_many_75 : decode cX11_many 75 = .ok (.getfield 188, 3) := by decide +kernel
theorem dX11_many_78 : decode cX11_many 78 = .ok (.ireturn, 1) := by decide +kernel
theorem dX11_many_79 : decode cX11_many 79 = .ok (.aload_n 0, 1) := by decide +kernel
theorem dX11_many_80 : decode cX11_many 80 = .ok (.getfield 209, 3) := by decide +kernel
theorem dX11_many_83 : decode cX11_many 83 = .ok (.ireturn, 1) := by decide +kernel
theorem dX11_many_84 : decode cX11_many 84 = .ok (.aload_n 0, 1) := by decide +kernel
theorem dX11_many_85 : decode cX11_many 85 = .ok (.getfield 22, 3) := by decide +kernel
theorem dX11_many_88 : decode cX11_many 88 = .ok (.getfield 296, 3) := by decide +kernel
theorem dX11_many_91 : decode cX11_many 91 = .ok (.ireturn, 1) := by decide +kernel
theorem dX11_many_92 : decode cX11_many 92 = .ok (.aload_n 0, 1) := by decide +kernel
theorem dX11_many_93 : decode cX11_many 93 = .ok (.getfield 248, 3) := by decide +kernel
theorem dX11_many_96 : decode cX11_many 96 = .ok (.ifnonnull 7, 3) := by decide +kernel
theorem dX11_many_99 : decode cX11_many 99 = .ok (.iconst 0, 1) := by decide +kernel
theorem dX11_many_100 : decode cX11_many 100 = .ok (.goto 10, 3) := by decide +kernel
theorem dX11_many_103 : decode cX11_many 103 = .ok (.aload_n 0, 1) := by decide +kernel
theorem dX11_many_104 : decode cX11_many 104 = .ok (.getfield 248, 3) := by decide +kernel
theorem dX11_many_107 : decode cX11_many 107 = .ok (.getfield 287, 3) := by decide +kernel
theorem dX11_many_110 : decode cX11_many 110 = .ok (.ireturn, 1) := by decide +kernel
theorem dX11_many_111 : decode cX11_many 111 = .ok (.iconst (-1), 1) := by decide +kernel
theorem dX11_many_112 : decode cX11_many 112 = .ok (.ireturn, 1) := by decide +kernel
def f_X11_many (S : Sh) (R : Rw) (I : Iw)  (a0 : Nat) (x1 : Int32) : Option (Int32) := (if x1 = (0 : Int32) then gp (sok S a0 11 12) (rl (R a0 0) (fun b2 => gp (sok S b2 7 16) (some (I b2 5)))) else (if x1 = (1 : Int32) then gp (sok S a0 11 12) (rl (R a0 0) (fun b5 => gp (sok S b5 7 16) (rl (R b5 11) (fun b7 => gp (sok S b7 5 8) (some (I b7 0)))))) else (if x1 = (2 : Int32) then gp (sok S a0 11 12) (rl (R a0 0) (fun b10 => gp (sok S b10 7 16) (some (I b10 8)))) else (if x1 = (3 : Int32) then gp (sok S a0 11 12) (rl (R a0 0) (fun b13 => gp (sok S b13 7 16) (some (I b13 14)))) else (if x1 = (4 : Int32) then gp (sok S a0 11 12) (some (I a0 6)) else (if x1 = (5 : Int32) then gp (sok S a0 11 12) (rl (R a0 3) (fun b17 => gp (sok S b17 3 7) (some (I b17 0)))) else (if x1 = (6 : Int32) then gp (sok S a0 11 12) ((onl (R a0 11) (some (0 : Int32)) (rl (R a0 11) (fun b21 => gp (thg S b21) (some (I b21 3)))))) else some (-1 : Int32))))))))
set_option maxHeartbeats 4000000 in
theorem b_X11_many {E : Ev} {p : Program} {l : Launch} {e : Env} {s : State} {m : MethodId} {args : Array Value} {below : List Frame} {meth : Method} {c : Code} (C : Cx E RX11 cX11_many 2 p s m c) (hr : meth.sig.returnType = (some .int)) (hk : meth.locks = false) {S : Sh} {R : Rw} {I : Iw} {r : Int32}  : ∀ (a0 : Nat) (x1 : Int32), f_X11_many S R I   a0 x1 = some r → Wk E 2 p l e ({ frames := 0, cells := 0, slots := 0, locals := 0 } : Room) s m args below meth c 0 0 (MQ below (Qw E S R I (some (.int r))) args s 0 0 (fun q => E.1 ≤ q)) 0 [(0, .ref (E.1 + a0)), (1, .int x1)] [] S R I := by
  intro a0 x1 h
  rw [f_X11_many] at h
  refine k_iloadn (pc := 0) C dX11_many_0 (i := 1) rfl 1 rfl ?_
  by_cases hc24 : x1 = (0 : Int32)
  · rw [if_pos hc24] at h
    refine k_tabIn (pc := 1) C dX11_many_1 (by rw [hc24]; decide) (by rw [hc24]; decide) (off := 43) (by rw [hc24]; rfl) (tgt := 44) (by decide) ?_
    refine k_aloadn (pc := 44) C dX11_many_44 (i := 0) rfl 0 rfl ?_
    obtain ⟨hs10, h⟩ := gp_e h
    have hs1 := sok_e hs10
    obtain ⟨b2, hb2, h⟩ := rl_e h
    refine k_getR (pc := 45) C lkF_RX11_12_11 hs1 ir_11_0 hb2 dX11_many_45 ?_
    obtain ⟨hs30, h⟩ := gp_e h
    have hs3 := sok_e hs30
    refine k_getI (pc := 48) C lkF_RX11_179_7 hs3 ir_7_5 dX11_many_48 ?_
    have h := Option.some.inj h
    subst h
    exact k_iret (pc := 51) C hr hk dX11_many_51
  · rw [if_neg hc24] at h
    by_cases hc25 : x1 = (1 : Int32)
    · rw [if_pos hc25] at h
      refine k_tabIn (pc := 1) C dX11_many_1 (by rw [hc25]; decide) (by rw [hc25]; decide) (off := 51) (by rw [hc25]; rfl) (tgt := 52) (by decide) ?_
      refine k_aloadn (pc := 52) C dX11_many_52 (i := 0) rfl 0 rfl ?_
      obtain ⟨hs40, h⟩ := gp_e h
      have hs4 := sok_e hs40
      obtain ⟨b5, hb5, h⟩ := rl_e h
      refine k_getR (pc := 53) C lkF_RX11_12_11 hs4 ir_11_0 hb5 dX11_many_53 ?_
      obtain ⟨hs60, h⟩ := gp_e h
      have hs6 := sok_e hs60
      obtain ⟨b7, hb7, h⟩ := rl_e h
      refine k_getR (pc := 56) C lkF_RX11_129_7 hs6 ir_7_11 hb7 dX11_many_56 ?_
      obtain ⟨hs80, h⟩ := gp_e h
      have hs8 := sok_e hs80
      refine k_getI (pc := 59) C lkF_RX11_293_5 hs8 ir_5_0 dX11_many_59 ?_
      have h := Option.some.inj h
      subst h
      exact k_iret (pc := 62) C hr hk dX11_many_62
    · rw [if_neg hc25] at h
      by_cases hc26 : x1 = (2 : Int32)
      · rw [if_pos hc26] at h
        refine k_tabIn (pc := 1) C dX11_many_1 (by rw [hc26]; decide) (by rw [hc26]; decide) (off := 62) (by rw [hc26]; rfl) (tgt := 63) (by decide) ?_
        refine k_aloadn (pc := 63) C dX11_many_63 (i := 0) rfl 0 rfl ?_
        obtain ⟨hs90, h⟩ := gp_e h
        have hs9 := sok_e hs90
        obtain ⟨b10, hb10, h⟩ := rl_e h
        refine k_getR (pc := 64) C lkF_RX11_12_11 hs9 ir_11_0 hb10 dX11_many_64 ?_
        obtain ⟨hs110, h⟩ := gp_e h
        have hs11 := sok_e hs110
        refine k_getI (pc := 67) C lkF_RX11_149_7 hs11 ir_7_8 dX11_many_67 ?_
        have h := Option.some.inj h
        subst h
        exact k_iret (pc := 70) C hr hk dX11_many_70
      · rw [if_neg hc26] at h
        by_cases hc27 : x1 = (3 : Int32)
        · rw [if_pos hc27] at h
          refine k_tabIn (pc := 1) C dX11_many_1 (by rw [hc27]; decide) (by rw [hc27]; decide) (off := 70) (by rw [hc27]; rfl) (tgt := 71) (by decide) ?_
          refine k_aloadn (pc := 71) C dX11_many_71 (i := 0) rfl 0 rfl ?_
          obtain ⟨hs120, h⟩ := gp_e h
          have hs12 := sok_e hs120
          obtain ⟨b13, hb13, h⟩ := rl_e h
          refine k_getR (pc := 72) C lkF_RX11_12_11 hs12 ir_11_0 hb13 dX11_many_72 ?_
          obtain ⟨hs140, h⟩ := gp_e h
          have hs14 := sok_e hs140
          refine k_getI (pc := 75) C lkF_RX11_188_7 hs14 ir_7_14 dX11_many_75 ?_
          have h := Option.some.inj h
          subst h
          exact k_iret (pc := 78) C hr hk dX11_many_78
        · rw [if_neg hc27] at h
          by_cases hc28 : x1 = (4 : Int32)
          · rw [if_pos hc28] at h
            refine k_tabIn (pc := 1) C dX11_many_1 (by rw [hc28]; decide) (by rw [hc28]; decide) (off := 78) (by rw [hc28]; rfl) (tgt := 79) (by decide) ?_
            refine k_aloadn (pc := 79) C dX11_many_79 (i := 0) rfl 0 rfl ?_
            obtain ⟨hs150, h⟩ := gp_e h
            have hs15 := sok_e hs150
            refine k_getI (pc := 80) C lkF_RX11_209_11 hs15 ir_11_6 dX11_many_80 ?_
            have h := Option.some.inj h
            subst h
            exact k_iret (pc := 83) C hr hk dX11_many_83
          · rw [if_neg hc28] at h
            by_cases hc29 : x1 = (5 : Int32)
            · rw [if_pos hc29] at h
              refine k_tabIn (pc := 1) C dX11_many_1 (by rw [hc29]; decide) (by rw [hc29]; decide) (off := 83) (by rw [hc29]; rfl) (tgt := 84) (by decide) ?_
              refine k_aloadn (pc := 84) C dX11_many_84 (i := 0) rfl 0 rfl ?_
              obtain ⟨hs160, h⟩ := gp_e h
              have hs16 := sok_e hs160
              obtain ⟨b17, hb17, h⟩ := rl_e h
              refine k_getR (pc := 85) C lkF_RX11_22_11 hs16 ir_11_3 hb17 dX11_many_85 ?_
              obtain ⟨hs180, h⟩ := gp_e h
              have hs18 := sok_e hs180
              refine k_getI (pc := 88) C lkF_RX11_296_3 hs18 ir_3_0 dX11_many_88 ?_
              have h := Option.some.inj h
              subst h
              exact k_iret (pc := 91) C hr hk dX11_many_91
            · rw [if_neg hc29] at h
              by_cases hc30 : x1 = (6 : Int32)
              · rw [if_pos hc30] at h
                refine k_tabIn (pc := 1) C dX11_many_1 (by rw [hc30]; decide) (by rw [hc30]; decide) (off := 91) (by rw [hc30]; rfl) (tgt := 92) (by decide) ?_
                refine k_aloadn (pc := 92) C dX11_many_92 (i := 0) rfl 0 rfl ?_
                obtain ⟨hs190, h⟩ := gp_e h
                have hs19 := sok_e hs190
                refine k_getO (pc := 93) C lkF_RX11_248_11 hs19 ir_11_11 dX11_many_93 ?_
                refine k_ifnonnull (pc := 96) C dX11_many_96 (tgt := 103) (by decide) (fun hc20 => ?_) (fun _ hc20 => ?_)
                · rw [onl_n hc20] at h
                  refine k_iconst (pc := 99) C (v := (0 : Int32)) dX11_many_99 (by decide) ?_
                  refine k_goto (pc := 100) C dX11_many_100 (tgt := 110) (by decide) ?_
                  have h := Option.some.inj h
                  subst h
                  exact k_iret (pc := 110) C hr hk dX11_many_110
                · rw [onl_s hc20] at h
                  refine k_aloadn (pc := 103) C dX11_many_103 (i := 0) rfl 0 rfl ?_
                  obtain ⟨b21, hb21, h⟩ := rl_e h
                  refine k_getR (pc := 104) C lkF_RX11_248_11 hs19 ir_11_11 hb21 dX11_many_104 ?_
                  obtain ⟨hs220, h⟩ := gp_e h
                  obtain ⟨ci23, hs22t, hs22⟩ := thg_e hs220
                  refine k_getI (pc := 107) C (lkFT_RX11_287 _ hs22t) hs22 (irT_3 _ hs22t) dX11_many_107 ?_
                  have h := Option.some.inj h
                  subst h
                  exact k_iret (pc := 110) C hr hk dX11_many_110
              · rw [if_neg hc30] at h
                refine k_tabOut (pc := 1) C dX11_many_1 (tab_out x1 0 6 (fun z h1 h2 hz => by
                  have hz2 : z = 0 ∨ z = 1 ∨ z = 2 ∨ z = 3 ∨ z = 4 ∨ z = 5 ∨ z = 6 := by omega
                  rcases hz2 with rfl | rfl | rfl | rfl | rfl | rfl | rfl
                  · exact hc24 (Int32.toInt_inj.mp (hz.trans (by decide)))
                  · exact hc25 (Int32.toInt_inj.mp (hz.trans (by decide)))
                  · exact hc26 (Int32.toInt_inj.mp (hz.trans (by decide)))
                  · exact hc27 (Int32.toInt_inj.mp (hz.trans (by decide)))
                  · exact hc28 (Int32.toInt_inj.mp (hz.trans (by decide)))
                  · exact hc29 (Int32.toInt_inj.mp (hz.trans (by decide)))
                  · exact hc30 (Int32.toInt_inj.mp (hz.trans (by decide)))
                  ) ) (tgt := 111) (by decide) ?_
                refine k_iconst (pc := 111) C (v := (-1 : Int32)) dX11_many_111 (by decide) ?_
                have h := Option.some.inj h
                subst h
                exact k_iret (pc := 112) C hr hk dX11_many_112
theorem c_X11_many {E : Ev} {l : Launch} {S : Sh} {R : Rw} {I : Iw} {a0 : Nat} {x1 : Int32} {r : Int32} (h : f_X11_many S R I a0 x1 = some r) : Mt E l yX11_many cX11_many 2 (some .int) 0 0 [.ref (E.1 + a0), .int x1] S R I S R I (some (.int r)) 0 0 := mt_of (by decide) (Nat.le_of_ble_eq_true rfl) (fun p e s m args below meth c C hr hk hn => b_X11_many C hr hk _ _ h)
theorem lkF_RX11_16_11 : LkF RX11 16 11 1 := ⟨RX11, TX11, 12, "UnlikeNeighbours", fc11, by decide, (t1_in 234 (by decide +kernel) rfl), Or.inl rfl⟩
theorem lkV_RX11_299 : LkV RX11 299 RX7 yX7_copyFrom cX7_copyFrom 2 none 1 := ⟨(t5_in 52 (by decide +kernel) rfl), (t5_in 53 (by decide +kernel) rfl), (t5_in 54 (by decide +kernel) rfl), (t5_in 55 (by decide +kernel) rfl), (t1_in 2 (by decide +kernel) rfl), by decide, by decide +kernel⟩
theorem lkP_RX11_302_11 : LkP RX11 302 11 2 .boolean := ⟨RX11, TX11, 12, "UnlikeNeighbours", fc11, by decide, (t1_in 235 (by decide +kernel) rfl), Or.inl rfl, rfl, by decide +kernel⟩
theorem dX11_keep_0 : decode cX11_keep 0 = .ok (.aload_n 0, 1) := by decide +kernel
theorem dX11_keep_1 : decode cX11_keep 1 = .ok (.getfield 16, 3) := by decide +kernel
theorem dX11_keep_4 : decode cX11_keep 4 = .ok (.aload_n 0, 1) := by decide +kernel
theorem dX11_keep_5 : decode cX11_keep 5 = .ok (.getfield 12, 3) := by decide +kernel
theorem dX11_keep_8 : decode cX11_keep 8 = .ok (.invokevirtual 299, 3) := by decide +kernel
theorem dX11_keep_11 : decode cX11_keep 11 = .ok (.aload_n 0, 1) := by decide +kernel
theorem dX11_keep_12 : decode cX11_keep 12 = .ok (.iconst 1, 1) := by decide +kernel
theorem dX11_keep_13 : decode cX11_keep 13 = .ok (.putfield 302, 3) := by decide +kernel
theorem dX11_keep_16 : decode cX11_keep 16 = .ok (.iconst 1, 1) := by decide +kernel
theorem dX11_keep_17 : decode cX11_keep 17 = .ok (.ireturn, 1) := by decide +kernel
def f_X11_keep (S : Sh) (R : Rw)  (I : Iw) (a0 : Nat) : Option (Iw × Int32) := gp (sok S a0 11 12) (rl (R a0 1) (fun b2 => rl (R a0 0) (fun b3 => gp (sok S b2 7 16) (bd (f_X7_copyFrom S R I b2 b3) (fun r5 => lt (up2 r5 a0 2 (1 : Int32)) (fun I6 => some (I6, (1 : Int32))))))))
set_option maxHeartbeats 4000000 in
theorem b_X11_keep {E : Ev} {p : Program} {l : Launch} {e : Env} {s : State} {m : MethodId} {args : Array Value} {below : List Frame} {meth : Method} {c : Code} (C : Cx E RX11 cX11_keep 1 p s m c) (hr : meth.sig.returnType = (some .int)) (hk : meth.locks = false) {S : Sh} {R : Rw} {r : Iw × Int32}  : ∀ (I : Iw) (a0 : Nat), f_X11_keep S R   I a0 = some r → Wk E 1 p l e ({ frames := 3, cells := 0, slots := 0, locals := 102 } : Room) s m args below meth c 0 0 (MQ below (Qw E S R r.1 (some (.int r.2))) args s 0 0 (fun q => E.1 ≤ q)) 0 [(0, .ref (E.1 + a0))] [] S R I := by
  intro I a0 h
  rw [f_X11_keep] at h
  refine k_aloadn (pc := 0) C dX11_keep_0 (i := 0) rfl 0 rfl ?_
  obtain ⟨hs10, h⟩ := gp_e h
  have hs1 := sok_e hs10
  obtain ⟨b2, hb2, h⟩ := rl_e h
  refine k_getR (pc := 1) C lkF_RX11_16_11 hs1 ir_11_1 hb2 dX11_keep_1 ?_
  refine k_aloadn (pc := 4) C dX11_keep_4 (i := 0) rfl 0 rfl ?_
  obtain ⟨b3, hb3, h⟩ := rl_e h
  refine k_getR (pc := 5) C lkF_RX11_12_11 hs1 ir_11_0 hb3 dX11_keep_5 ?_
  obtain ⟨hs40, h⟩ := gp_e h
  have hs4 := sok_e hs40
  obtain ⟨r5, hr5, h⟩ := bd_e h
  refine k_V (pc := 8) (st := []) C (c_X7_copyFrom hr5) lkV_RX11_299 hs4 rfl rfl rfl (Nat.le_of_ble_eq_true rfl) (Nat.le_of_ble_eq_true rfl) (Nat.le_of_ble_eq_true rfl) (Nat.le_of_ble_eq_true rfl) (Nat.le_of_ble_eq_true rfl) dX11_keep_8 ?_
  refine k_nf (cells2 := 0) (slots2 := 0) (st2 := []) rfl rfl rfl ?_
  refine k_aloadn (pc := 11) C dX11_keep_11 (i := 0) rfl 0 rfl ?_
  refine k_iconst (pc := 12) C (v := (1 : Int32)) dX11_keep_12 (by decide) ?_
  obtain ⟨I6, eI6, h⟩ := lt_e h
  refine k_putZ (pc := 13) C lkP_RX11_302_11 hs1 ir_11_2 (Or.inr rfl) dX11_keep_13 ?_
  rw [← eI6]
  refine k_iconst (pc := 16) C (v := (1 : Int32)) dX11_keep_16 (by decide) ?_
  have h := Option.some.inj h
  subst h
  exact k_iret (pc := 17) C hr hk dX11_keep_17
theorem c_X11_keep {E : Ev} {l : Launch} {S : Sh} {R : Rw} {I : Iw} {a0 : Nat} {r : Iw × Int32} (h : f_X11_keep S R I a0 = some r) : Mt E l yX11_keep cX11_keep 1 (some .int) 3 102 [.ref (E.1 + a0)] S R I S R r.1 (some (.int r.2)) 0 0 := mt_of (by decide) (Nat.le_of_ble_eq_true rfl) (fun p e s m args below meth c C hr hk hn => b_X11_keep C hr hk _ _ h)
