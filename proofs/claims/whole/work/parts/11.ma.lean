/-! X9_turns, X1_turns, X4_turns, X9_tells, X0_tells, X2_init, X11_holds, X11_isBetween, X2_stateOf, X11_without -/
def v_weighs (S : Sh) (R : Rw) (I : Iw) (a : Nat) (x : Int32) : Option (Iw × Int32) := if cof S a = 0 then f_X0_weighs S R I a x else if cof S a = 10 then f_X10_weighs S R I a x else f_X9_weighs S R I a x
theorem lkU_RX9_29_0 : LkU RX9 29 "UnlikeNeighbours$Thing" ⟨RX9, "weighs", "(I)I"⟩ yX0_weighs cX0_weighs 2 (some .int) 1 0 := ⟨(t4_in 236 (by decide +kernel) rfl), ⟨(t4_in 186 (by decide +kernel) rfl), (t4_in 184 (by decide +kernel) rfl), cX9_weighs, 2, (some .int), (t4_in 209 (by decide +kernel) rfl)⟩, ⟨_, rfl, (t4_in 187 (by decide +kernel) rfl)⟩, (t4_in 188 (by decide +kernel) rfl), (t4_in 189 (by decide +kernel) rfl), (t1_in 18 (by decide +kernel) rfl), by decide, by decide +kernel⟩
theorem lkU_RX9_29_1 : LkU RX9 29 "UnlikeNeighbours$Thing" ⟨RX9, "weighs", "(I)I"⟩ yX9_weighs cX9_weighs 2 (some .int) 1 1 := ⟨(t4_in 236 (by decide +kernel) rfl), ⟨(t4_in 186 (by decide +kernel) rfl), (t4_in 184 (by decide +kernel) rfl), cX9_weighs, 2, (some .int), (t4_in 209 (by decide +kernel) rfl)⟩, ⟨_, rfl, (t4_in 199 (by decide +kernel) rfl)⟩, (t4_in 184 (by decide +kernel) rfl), (t4_in 209 (by decide +kernel) rfl), (t1_in 15 (by decide +kernel) rfl), by decide, by decide +kernel⟩
theorem lkU_RX9_29_4 : LkU RX9 29 "UnlikeNeighbours$Thing" ⟨RX9, "weighs", "(I)I"⟩ yX9_weighs cX9_weighs 2 (some .int) 1 4 := ⟨(t4_in 236 (by decide +kernel) rfl), ⟨(t4_in 186 (by decide +kernel) rfl), (t4_in 184 (by decide +kernel) rfl), cX9_weighs, 2, (some .int), (t4_in 209 (by decide +kernel) rfl)⟩, ⟨_, rfl, (t4_in 200 (by decide +kernel) rfl)⟩, (t4_in 184 (by decide +kernel) rfl), (t4_in 209 (by decide +kernel) rfl), (t1_in 15 (by decide +kernel) rfl), by decide, by decide +kernel⟩
theorem lkU_RX9_29_6 : LkU RX9 29 "UnlikeNeighbours$Thing" ⟨RX9, "weighs", "(I)I"⟩ yX9_weighs cX9_weighs 2 (some .int) 1 6 := ⟨(t4_in 236 (by decide +kernel) rfl), ⟨(t4_in 186 (by decide +kernel) rfl), (t4_in 184 (by decide +kernel) rfl), cX9_weighs, 2, (some .int), (t4_in 209 (by decide +kernel) rfl)⟩, ⟨_, rfl, (t4_in 201 (by decide +kernel) rfl)⟩, (t4_in 184 (by decide +kernel) rfl), (t4_in 209 (by decide +kernel) rfl), (t1_in 15 (by decide +kernel) rfl), by decide, by decide +kernel⟩
theorem lkU_RX9_29_9 : LkU RX9 29 "UnlikeNeighbours$Thing" ⟨RX9, "weighs", "(I)I"⟩ yX9_weighs cX9_weighs 2 (some .int) 1 9 := ⟨(t4_in 236 (by decide +kernel) rfl), ⟨(t4_in 186 (by decide +kernel) rfl), (t4_in 184 (by decide +kernel) rfl), cX9_weighs, 2, (some .int), (t4_in 209 (by decide +kernel) rfl)⟩, ⟨_, rfl, (t4_in 185 (by decide +kernel) rfl)⟩, (t4_in 184 (by decide +kernel) rfl), (t4_in 209 (by decide +kernel) rfl), (t1_in 15 (by decide +kernel) rfl), by decide, by decide +kernel⟩
theorem lkU_RX9_29_10 : LkU RX9 29 "UnlikeNeighbours$Thing" ⟨RX9, "weighs", "(I)I"⟩ yX10_weighs cX10_weighs 2 (some .int) 1 10 := ⟨(t4_in 236 (by decide +kernel) rfl), ⟨(t4_in 186 (by decide +kernel) rfl), (t4_in 184 (by decide +kernel) rfl), cX9_weighs, 2, (some .int), (t4_in 209 (by decide +kernel) rfl)⟩, ⟨_, rfl, (t4_in 202 (by decide +kernel) rfl)⟩, (t4_in 203 (by decide +kernel) rfl), (t4_in 204 (by decide +kernel) rfl), (t1_in 16 (by decide +kernel) rfl), by decide, by decide +kernel⟩
theorem vc_RX9_29 {E : Ev} {cc : ByteArray} {nL : Nat} {p : Program} {l : Launch} {e : Env} {Rm : Room} {s : State} {m : MethodId} {args : Array Value} {below : List Frame} {meth : Method} {c : Code} {cells slots : Nat} {Q : State → Prop} {pc : Nat} {L : List (Nat × Value)} {st stk : List Value} {S : Sh} {R : Rw} {I : Iw} {b ci : Nat} {x : Int32} {r : Iw × Int32} (C : Cx E RX9 cc nL p s m c) (hr : v_weighs S R I b x = some r) (hs : S[b]? = some (ci, 5)) (ht : thc ci = true) (hst : stk = .int x :: .ref (E.1 + b) :: st) (hst8 : (st.map fun v => v.category).sum ≤ 8) (hfr : 2 + 1 ≤ Rm.frames) (hlo : 63 ≤ Rm.locals) (hc : cells + 0 ≤ Rm.cells) (hsl : slots + 0 ≤ Rm.slots) (d : decode cc pc = .ok (.invokevirtual 29, 3)) (k : Wk E nL p l e Rm s m args below meth c (cells + 0) (slots + 0) Q (pc + 3) L (.int r.2 :: st) S R r.1) : Wk E nL p l e Rm s m args below meth c cells slots Q pc L stk S R I := by
  have hcf := cof_t hs
  unfold v_weighs at hr
  rw [hcf] at hr
  rcases thc_e ht with rfl | rfl | rfl | rfl | rfl | rfl
  · rw [if_pos rfl] at hr
    exact k_U C (c_X0_weighs hr) lkU_RX9_29_0 hs rfl hst hst8 (by omega) (by omega) hc hsl d k
  · rw [if_neg (by decide), if_neg (by decide)] at hr
    exact k_U C (c_X9_weighs hr) lkU_RX9_29_1 hs rfl hst hst8 (by omega) (by omega) hc hsl d k
  · rw [if_neg (by decide), if_neg (by decide)] at hr
    exact k_U C (c_X9_weighs hr) lkU_RX9_29_4 hs rfl hst hst8 (by omega) (by omega) hc hsl d k
  · rw [if_neg (by decide), if_neg (by decide)] at hr
    exact k_U C (c_X9_weighs hr) lkU_RX9_29_6 hs rfl hst hst8 (by omega) (by omega) hc hsl d k
  · rw [if_neg (by decide), if_neg (by decide)] at hr
    exact k_U C (c_X9_weighs hr) lkU_RX9_29_9 hs rfl hst hst8 (by omega) (by omega) hc hsl d k
  · rw [if_neg (by decide), if_pos rfl] at hr
    exact k_U C (c_X10_weighs hr) lkU_RX9_29_10 hs rfl hst hst8 (by omega) (by omega) hc hsl d k
theorem dX9_turns_0 : decode cX9_turns 0 = .ok (.aload_n 0, 1) := by decide +kernel
theorem dX9_turns_1 : decode cX9_turns 1 = .ok (.bipush 11, 2) := by decide +kernel
theorem dX9_turns_3 : decode cX9_turns 3 = .ok (.invokevirtual 25, 3) := by decide +kernel
theorem dX9_turns_6 : decode cX9_turns 6 = .ok (.aload_n 0, 1) := by decide +kernel
theorem dX9_turns_7 : decode cX9_turns 7 = .ok (.iload_n 1, 1) := by decide +kernel
theorem dX9_turns_8 : decode cX9_turns 8 = .ok (.invokevirtual 29, 3) := by decide +kernel
theorem dX9_turns_11 : decode cX9_turns 11 = .ok (.iconst 3, 1) := by decide +kernel
theorem dX9_turns_12 : decode cX9_turns 12 = .ok (.imul, 1) := by decide +kernel
theorem dX9_turns_13 : decode cX9_turns 13 = .ok (.ireturn, 1) := by decide +kernel
def f_X9_turns (S : Sh) (R : Rw)  (I : Iw) (a0 : Nat) (x1 : Int32) : Option (Iw × Int32) := gp (thg S a0) (bd (f_X9_ran S R I a0 (11 : Int32)) (fun r3 => bd (v_weighs S R r3 a0 x1) (fun r4 => some (r4.1, r4.2 * (3 : Int32)))))
set_option maxHeartbeats 4000000 in
theorem b_X9_turns {E : Ev} {p : Program} {l : Launch} {e : Env} {s : State} {m : MethodId} {args : Array Value} {below : List Frame} {meth : Method} {c : Code} (C : Cx E RX9 cX9_turns 2 p s m c) (hr : meth.sig.returnType = (some .int)) (hk : meth.locks = false) {S : Sh} {R : Rw} {r : Iw × Int32}  : ∀ (I : Iw) (a0 : Nat) (x1 : Int32), f_X9_turns S R   I a0 x1 = some r → Wk E 2 p l e ({ frames := 3, cells := 0, slots := 0, locals := 63 } : Room) s m args below meth c 0 0 (MQ below (Qw E S R r.1 (some (.int r.2))) args s 0 0 (fun q => E.1 ≤ q)) 0 [(0, .ref (E.1 + a0)), (1, .int x1)] [] S R I := by
  intro I a0 x1 h
  rw [f_X9_turns] at h
  refine k_aloadn (pc := 0) C dX9_turns_0 (i := 0) rfl 0 rfl ?_
  refine k_bipush (pc := 1) C (v := (11 : Int32)) dX9_turns_1 (by decide) ?_
  obtain ⟨hs10, h⟩ := gp_e h
  obtain ⟨ci2, hs1t, hs1⟩ := thg_e hs10
  obtain ⟨r3, hr3, h⟩ := bd_e h
  refine k_U (pc := 3) (st := []) C (c_X9_ran hr3) (lkUT_RX9_25 _ hs1t) hs1 rfl rfl (Nat.le_of_ble_eq_true rfl) (Nat.le_of_ble_eq_true rfl) (Nat.le_of_ble_eq_true rfl) (Nat.le_of_ble_eq_true rfl) (Nat.le_of_ble_eq_true rfl) dX9_turns_3 ?_
  refine k_nf (cells2 := 0) (slots2 := 0) (st2 := []) rfl rfl rfl ?_
  refine k_aloadn (pc := 6) C dX9_turns_6 (i := 0) rfl 0 rfl ?_
  refine k_iloadn (pc := 7) C dX9_turns_7 (i := 1) rfl 1 rfl ?_
  obtain ⟨r4, hr4, h⟩ := bd_e h
  refine vc_RX9_29 (pc := 8) (st := []) C hr4 hs1 hs1t rfl (Nat.le_of_ble_eq_true rfl) (Nat.le_of_ble_eq_true rfl) (Nat.le_of_ble_eq_true rfl) (Nat.le_of_ble_eq_true rfl) (Nat.le_of_ble_eq_true rfl) dX9_turns_8 ?_
  refine k_nf (cells2 := 0) (slots2 := 0) (st2 := [.int r4.2]) rfl rfl rfl ?_
  refine k_iconst (pc := 11) C (v := (3 : Int32)) dX9_turns_11 (by decide) ?_
  refine k_imul (pc := 12) C dX9_turns_12 ?_
  have h := Option.some.inj h
  subst h
  exact k_iret (pc := 13) C hr hk dX9_turns_13
theorem c_X9_turns {E : Ev} {l : Launch} {S : Sh} {R : Rw} {I : Iw} {a0 : Nat} {x1 : Int32} {r : Iw × Int32} (h : f_X9_turns S R I a0 x1 = some r) : Mt E l yX9_turns cX9_turns 2 (some .int) 3 63 [.ref (E.1 + a0), .int x1] S R I S R r.1 (some (.int r.2)) 0 0 := mt_of (by decide) (Nat.le_of_ble_eq_true rfl) (fun p e s m args below meth c C hr hk hn => b_X9_turns C hr hk _ _ _ h)
theorem lkU_RX1_7_0 : LkU RX1 7 "UnlikeNeighbours$Thing" ⟨RX1, "ran", "(I)V"⟩ yX9_ran cX9_ran 2 none 1 0 := ⟨(t4_in 218 (by decide +kernel) rfl), ⟨(t4_in 219 (by decide +kernel) rfl), (t4_in 194 (by decide +kernel) rfl), cX9_ran, 2, none, (t4_in 195 (by decide +kernel) rfl)⟩, ⟨_, rfl, (t4_in 220 (by decide +kernel) rfl)⟩, (t4_in 194 (by decide +kernel) rfl), (t4_in 195 (by decide +kernel) rfl), (t1_in 15 (by decide +kernel) rfl), by decide, by decide +kernel⟩
theorem lkU_RX1_7_1 : LkU RX1 7 "UnlikeNeighbours$Thing" ⟨RX1, "ran", "(I)V"⟩ yX9_ran cX9_ran 2 none 1 1 := ⟨(t4_in 218 (by decide +kernel) rfl), ⟨(t4_in 219 (by decide +kernel) rfl), (t4_in 194 (by decide +kernel) rfl), cX9_ran, 2, none, (t4_in 195 (by decide +kernel) rfl)⟩, ⟨_, rfl, (t4_in 221 (by decide +kernel) rfl)⟩, (t4_in 194 (by decide +kernel) rfl), (t4_in 195 (by decide +kernel) rfl), (t1_in 15 (by decide +kernel) rfl), by decide, by decide +kernel⟩
theorem lkUT_RX1_7 : ∀ ci : Nat, lvc ci = true → LkU RX1 7 "UnlikeNeighbours$Thing" ⟨RX1, "ran", "(I)V"⟩ yX9_ran cX9_ran 2 none 1 ci := lv_all lkU_RX1_7_0 lkU_RX1_7_1
theorem lkW_RX1_13 : LkW RX1 13 "UnlikeNeighbours$Thing" ⟨RX9, "turns", "(I)I"⟩ yX9_turns cX9_turns 2 (some .int) 1 := ⟨(t4_in 222 (by decide +kernel) rfl), (t4_in 214 (by decide +kernel) rfl), rfl, (t4_in 137 (by decide +kernel) rfl), Or.inl rfl, (t4_in 212 (by decide +kernel) rfl), (t4_in 235 (by decide +kernel) rfl), (t1_in 15 (by decide +kernel) rfl), by decide, by decide +kernel⟩
theorem lkF_RX1_17_0 : LkF RX1 17 0 1 := ⟨RX0, TX0, 5, "UnlikeNeighbours$Living", fc0, by decide, (t4_in 103 (by decide +kernel) rfl), Or.inr (t4_in 104 (by decide +kernel) rfl)⟩
theorem lkF_RX1_17_1 : LkF RX1 17 1 1 := ⟨RX1, TX1, 5, "UnlikeNeighbours$Living", fc1, by decide, (t4_in 103 (by decide +kernel) rfl), Or.inr (t4_in 104 (by decide +kernel) rfl)⟩
theorem lkFT_RX1_17 : ∀ ci : Nat, lvc ci = true → LkF RX1 17 ci 1 := lv_all lkF_RX1_17_0 lkF_RX1_17_1
theorem dX1_turns_0 : decode cX1_turns 0 = .ok (.aload_n 0, 1) := by decide +kernel
theorem dX1_turns_1 : decode cX1_turns 1 = .ok (.bipush 30, 2) := by decide +kernel
theorem dX1_turns_3 : decode cX1_turns 3 = .ok (.invokevirtual 7, 3) := by decide +kernel
theorem dX1_turns_6 : decode cX1_turns 6 = .ok (.aload_n 0, 1) := by decide +kernel
theorem dX1_turns_7 : decode cX1_turns 7 = .ok (.iload_n 1, 1) := by decide +kernel
theorem dX1_turns_8 : decode cX1_turns 8 = .ok (.invokespecial 13, 3) := by decide +kernel
theorem dX1_turns_11 : decode cX1_turns 11 = .ok (.aload_n 0, 1) := by decide +kernel
theorem dX1_turns_12 : decode cX1_turns 12 = .ok (.getfield 17, 3) := by decide +kernel
theorem dX1_turns_15 : decode cX1_turns 15 = .ok (.iadd, 1) := by decide +kernel
theorem dX1_turns_16 : decode cX1_turns 16 = .ok (.ireturn, 1) := by decide +kernel
def f_X1_turns (S : Sh) (R : Rw)  (I : Iw) (a0 : Nat) (x1 : Int32) : Option (Iw × Int32) := gp (lvg S a0) (bd (f_X9_ran S R I a0 (30 : Int32)) (fun r3 => bd (f_X9_turns S R r3 a0 x1) (fun r4 => some (r4.1, r4.2 + (r4.1 a0 1)))))
set_option maxHeartbeats 4000000 in
theorem b_X1_turns {E : Ev} {p : Program} {l : Launch} {e : Env} {s : State} {m : MethodId} {args : Array Value} {below : List Frame} {meth : Method} {c : Code} (C : Cx E RX1 cX1_turns 2 p s m c) (hr : meth.sig.returnType = (some .int)) (hk : meth.locks = false) {S : Sh} {R : Rw} {r : Iw × Int32}  : ∀ (I : Iw) (a0 : Nat) (x1 : Int32), f_X1_turns S R   I a0 x1 = some r → Wk E 2 p l e ({ frames := 4, cells := 0, slots := 0, locals := 84 } : Room) s m args below meth c 0 0 (MQ below (Qw E S R r.1 (some (.int r.2))) args s 0 0 (fun q => E.1 ≤ q)) 0 [(0, .ref (E.1 + a0)), (1, .int x1)] [] S R I := by
  intro I a0 x1 h
  rw [f_X1_turns] at h
  refine k_aloadn (pc := 0) C dX1_turns_0 (i := 0) rfl 0 rfl ?_
  refine k_bipush (pc := 1) C (v := (30 : Int32)) dX1_turns_1 (by decide) ?_
  obtain ⟨hs10, h⟩ := gp_e h
  obtain ⟨ci2, hs1t, hs1⟩ := lvg_e hs10
  obtain ⟨r3, hr3, h⟩ := bd_e h
  refine k_U (pc := 3) (st := []) C (c_X9_ran hr3) (lkUT_RX1_7 _ hs1t) hs1 rfl rfl (Nat.le_of_ble_eq_true rfl) (Nat.le_of_ble_eq_true rfl) (Nat.le_of_ble_eq_true rfl) (Nat.le_of_ble_eq_true rfl) (Nat.le_of_ble_eq_true rfl) dX1_turns_3 ?_
  refine k_nf (cells2 := 0) (slots2 := 0) (st2 := []) rfl rfl rfl ?_
  refine k_aloadn (pc := 6) C dX1_turns_6 (i := 0) rfl 0 rfl ?_
  refine k_iloadn (pc := 7) C dX1_turns_7 (i := 1) rfl 1 rfl ?_
  obtain ⟨r4, hr4, h⟩ := bd_e h
  refine k_W (pc := 8) (st := []) C (c_X9_turns hr4) lkW_RX1_13 hs1 (ciT _ (lv_th _ hs1t)) rfl rfl (Nat.le_of_ble_eq_true rfl) (Nat.le_of_ble_eq_true rfl) (Nat.le_of_ble_eq_true rfl) (Nat.le_of_ble_eq_true rfl) (Nat.le_of_ble_eq_true rfl) dX1_turns_8 ?_
  refine k_nf (cells2 := 0) (slots2 := 0) (st2 := [.int r4.2]) rfl rfl rfl ?_
  refine k_aloadn (pc := 11) C dX1_turns_11 (i := 0) rfl 0 rfl ?_
  refine k_getI (pc := 12) C (lkFT_RX1_17 _ hs1t) hs1 (irT_1 _ (lv_th _ hs1t)) dX1_turns_12 ?_
  refine k_iadd (pc := 15) C dX1_turns_15 ?_
  have h := Option.some.inj h
  subst h
  exact k_iret (pc := 16) C hr hk dX1_turns_16
theorem c_X1_turns {E : Ev} {l : Launch} {S : Sh} {R : Rw} {I : Iw} {a0 : Nat} {x1 : Int32} {r : Iw × Int32} (h : f_X1_turns S R I a0 x1 = some r) : Mt E l yX1_turns cX1_turns 2 (some .int) 4 84 [.ref (E.1 + a0), .int x1] S R I S R r.1 (some (.int r.2)) 0 0 := mt_of (by decide) (Nat.le_of_ble_eq_true rfl) (fun p e s m args below meth c C hr hk hn => b_X1_turns C hr hk _ _ _ h)
theorem lkW_RX4_13 : LkW RX4 13 "UnlikeNeighbours$Thing" ⟨RX6, "turns", "(I)I"⟩ yX9_turns cX9_turns 2 (some .int) 1 := ⟨(t4_in 230 (by decide +kernel) rfl), (t4_in 231 (by decide +kernel) rfl), rfl, (t4_in 173 (by decide +kernel) rfl), Or.inr (t4_in 161 (by decide +kernel) rfl), (t4_in 212 (by decide +kernel) rfl), (t4_in 235 (by decide +kernel) rfl), (t1_in 15 (by decide +kernel) rfl), by decide, by decide +kernel⟩
theorem dX4_turns_0 : decode cX4_turns 0 = .ok (.aload_n 0, 1) := by decide +kernel
theorem dX4_turns_1 : decode cX4_turns 1 = .ok (.bipush 60, 2) := by decide +kernel
theorem dX4_turns_3 : decode cX4_turns 3 = .ok (.invokevirtual 7, 3) := by decide +kernel
theorem dX4_turns_6 : decode cX4_turns 6 = .ok (.iconst 0, 1) := by decide +kernel
theorem dX4_turns_7 : decode cX4_turns 7 = .ok (.aload_n 0, 1) := by decide +kernel
theorem dX4_turns_8 : decode cX4_turns 8 = .ok (.iload_n 1, 1) := by decide +kernel
theorem dX4_turns_9 : decode cX4_turns 9 = .ok (.invokespecial 13, 3) := by decide +kernel
theorem dX4_turns_12 : decode cX4_turns 12 = .ok (.isub, 1) := by decide +kernel
theorem dX4_turns_13 : decode cX4_turns 13 = .ok (.ireturn, 1) := by decide +kernel
def f_X4_turns (S : Sh) (R : Rw)  (I : Iw) (a0 : Nat) (x1 : Int32) : Option (Iw × Int32) := gp (sok S a0 4 5) (bd (f_X9_ran S R I a0 (60 : Int32)) (fun r2 => bd (f_X9_turns S R r2 a0 x1) (fun r3 => some (r3.1, (0 : Int32) - r3.2))))
set_option maxHeartbeats 4000000 in
theorem b_X4_turns {E : Ev} {p : Program} {l : Launch} {e : Env} {s : State} {m : MethodId} {args : Array Value} {below : List Frame} {meth : Method} {c : Code} (C : Cx E RX4 cX4_turns 2 p s m c) (hr : meth.sig.returnType = (some .int)) (hk : meth.locks = false) {S : Sh} {R : Rw} {r : Iw × Int32}  : ∀ (I : Iw) (a0 : Nat) (x1 : Int32), f_X4_turns S R   I a0 x1 = some r → Wk E 2 p l e ({ frames := 4, cells := 0, slots := 0, locals := 84 } : Room) s m args below meth c 0 0 (MQ below (Qw E S R r.1 (some (.int r.2))) args s 0 0 (fun q => E.1 ≤ q)) 0 [(0, .ref (E.1 + a0)), (1, .int x1)] [] S R I := by
  intro I a0 x1 h
  rw [f_X4_turns] at h
  refine k_aloadn (pc := 0) C dX4_turns_0 (i := 0) rfl 0 rfl ?_
  refine k_bipush (pc := 1) C (v := (60 : Int32)) dX4_turns_1 (by decide) ?_
  obtain ⟨hs10, h⟩ := gp_e h
  have hs1 := sok_e hs10
  obtain ⟨r2, hr2, h⟩ := bd_e h
  refine k_U (pc := 3) (st := []) C (c_X9_ran hr2) lkU_RX4_7_4 hs1 rfl rfl (Nat.le_of_ble_eq_true rfl) (Nat.le_of_ble_eq_true rfl) (Nat.le_of_ble_eq_true rfl) (Nat.le_of_ble_eq_true rfl) (Nat.le_of_ble_eq_true rfl) dX4_turns_3 ?_
  refine k_nf (cells2 := 0) (slots2 := 0) (st2 := []) rfl rfl rfl ?_
  refine k_iconst (pc := 6) C (v := (0 : Int32)) dX4_turns_6 (by decide) ?_
  refine k_aloadn (pc := 7) C dX4_turns_7 (i := 0) rfl 0 rfl ?_
  refine k_iloadn (pc := 8) C dX4_turns_8 (i := 1) rfl 1 rfl ?_
  obtain ⟨r3, hr3, h⟩ := bd_e h
  refine k_W (pc := 9) (st := [.int (0 : Int32)]) C (c_X9_turns hr3) lkW_RX4_13 hs1 ⟨_, rfl⟩ rfl rfl (Nat.le_of_ble_eq_true rfl) (Nat.le_of_ble_eq_true rfl) (Nat.le_of_ble_eq_true rfl) (Nat.le_of_ble_eq_true rfl) (Nat.le_of_ble_eq_true rfl) dX4_turns_9 ?_
  refine k_nf (cells2 := 0) (slots2 := 0) (st2 := [.int r3.2, .int (0 : Int32)]) rfl rfl rfl ?_
  refine k_isub (pc := 12) C dX4_turns_12 ?_
  have h := Option.some.inj h
  subst h
  exact k_iret (pc := 13) C hr hk dX4_turns_13
theorem c_X4_turns {E : Ev} {l : Launch} {S : Sh} {R : Rw} {I : Iw} {a0 : Nat} {x1 : Int32} {r : Iw × Int32} (h : f_X4_turns S R I a0 x1 = some r) : Mt E l yX4_turns cX4_turns 2 (some .int) 4 84 [.ref (E.1 + a0), .int x1] S R I S R r.1 (some (.int r.2)) 0 0 := mt_of (by decide) (Nat.le_of_ble_eq_true rfl) (fun p e s m args below meth c C hr hk hn => b_X4_turns C hr hk _ _ _ h)
def v_turns (S : Sh) (R : Rw) (I : Iw) (a : Nat) (x : Int32) : Option (Iw × Int32) := if cof S a = 0 then f_X1_turns S R I a x else if cof S a = 1 then f_X1_turns S R I a x else if cof S a = 4 then f_X4_turns S R I a x else f_X9_turns S R I a x
theorem lkU_RX9_37_0 : LkU RX9 37 "UnlikeNeighbours$Thing" ⟨RX9, "turns", "(I)I"⟩ yX1_turns cX1_turns 2 (some .int) 1 0 := ⟨(t5_in 39 (by decide +kernel) rfl), ⟨(t4_in 214 (by decide +kernel) rfl), (t4_in 212 (by decide +kernel) rfl), cX9_turns, 2, (some .int), (t4_in 235 (by decide +kernel) rfl)⟩, ⟨_, rfl, (t4_in 215 (by decide +kernel) rfl)⟩, (t4_in 216 (by decide +kernel) rfl), (t4_in 217 (by decide +kernel) rfl), (t1_in 17 (by decide +kernel) rfl), by decide, by decide +kernel⟩
theorem lkU_RX9_37_1 : LkU RX9 37 "UnlikeNeighbours$Thing" ⟨RX9, "turns", "(I)I"⟩ yX1_turns cX1_turns 2 (some .int) 1 1 := ⟨(t5_in 39 (by decide +kernel) rfl), ⟨(t4_in 214 (by decide +kernel) rfl), (t4_in 212 (by decide +kernel) rfl), cX9_turns, 2, (some .int), (t4_in 235 (by decide +kernel) rfl)⟩, ⟨_, rfl, (t4_in 223 (by decide +kernel) rfl)⟩, (t4_in 216 (by decide +kernel) rfl), (t4_in 217 (by decide +kernel) rfl), (t1_in 17 (by decide +kernel) rfl), by decide, by decide +kernel⟩
theorem lkU_RX9_37_4 : LkU RX9 37 "UnlikeNeighbours$Thing" ⟨RX9, "turns", "(I)I"⟩ yX4_turns cX4_turns 2 (some .int) 1 4 := ⟨(t5_in 39 (by decide +kernel) rfl), ⟨(t4_in 214 (by decide +kernel) rfl), (t4_in 212 (by decide +kernel) rfl), cX9_turns, 2, (some .int), (t4_in 235 (by decide +kernel) rfl)⟩, ⟨_, rfl, (t4_in 224 (by decide +kernel) rfl)⟩, (t4_in 225 (by decide +kernel) rfl), (t4_in 226 (by decide +kernel) rfl), (t1_in 20 (by decide +kernel) rfl), by decide, by decide +kernel⟩
theorem lkU_RX9_37_6 : LkU RX9 37 "UnlikeNeighbours$Thing" ⟨RX9, "turns", "(I)I"⟩ yX9_turns cX9_turns 2 (some .int) 1 6 := ⟨(t5_in 39 (by decide +kernel) rfl), ⟨(t4_in 214 (by decide +kernel) rfl), (t4_in 212 (by decide +kernel) rfl), cX9_turns, 2, (some .int), (t4_in 235 (by decide +kernel) rfl)⟩, ⟨_, rfl, (t4_in 233 (by decide +kernel) rfl)⟩, (t4_in 212 (by decide +kernel) rfl), (t4_in 235 (by decide +kernel) rfl), (t1_in 15 (by decide +kernel) rfl), by decide, by decide +kernel⟩
theorem lkU_RX9_37_9 : LkU RX9 37 "UnlikeNeighbours$Thing" ⟨RX9, "turns", "(I)I"⟩ yX9_turns cX9_turns 2 (some .int) 1 9 := ⟨(t5_in 39 (by decide +kernel) rfl), ⟨(t4_in 214 (by decide +kernel) rfl), (t4_in 212 (by decide +kernel) rfl), cX9_turns, 2, (some .int), (t4_in 235 (by decide +kernel) rfl)⟩, ⟨_, rfl, (t4_in 213 (by decide +kernel) rfl)⟩, (t4_in 212 (by decide +kernel) rfl), (t4_in 235 (by decide +kernel) rfl), (t1_in 15 (by decide +kernel) rfl), by decide, by decide +kernel⟩
theorem lkU_RX9_37_10 : LkU RX9 37 "UnlikeNeighbours$Thing" ⟨RX9, "turns", "(I)I"⟩ yX9_turns cX9_turns 2 (some .int) 1 10 := ⟨(t5_in 39 (by decide +kernel) rfl), ⟨(t4_in 214 (by decide +kernel) rfl), (t4_in 212 (by decide +kernel) rfl), cX9_turns, 2, (some .int), (t4_in 235 (by decide +kernel) rfl)⟩, ⟨_, rfl, (t4_in 234 (by decide +kernel) rfl)⟩, (t4_in 212 (by decide +kernel) rfl), (t4_in 235 (by decide +kernel) rfl), (t1_in 15 (by decide +kernel) rfl), by decide, by decide +kernel⟩
theorem vc_RX9_37 {E : Ev} {cc : ByteArray} {nL : Nat} {p : Program} {l : Launch} {e : Env} {Rm : Room} {s : State} {m : MethodId} {args : Array Value} {below : List Frame} {meth : Method} {c : Code} {cells slots : Nat} {Q : State → Prop} {pc : Nat} {L : List (Nat × Value)} {st stk : List Value} {S : Sh} {R : Rw} {I : Iw} {b ci : Nat} {x : Int32} {r : Iw × Int32} (C : Cx E RX9 cc nL p s m c) (hr : v_turns S R I b x = some r) (hs : S[b]? = some (ci, 5)) (ht : thc ci = true) (hst : stk = .int x :: .ref (E.1 + b) :: st) (hst8 : (st.map fun v => v.category).sum ≤ 8) (hfr : 4 + 1 ≤ Rm.frames) (hlo : 105 ≤ Rm.locals) (hc : cells + 0 ≤ Rm.cells) (hsl : slots + 0 ≤ Rm.slots) (d : decode cc pc = .ok (.invokevirtual 37, 3)) (k : Wk E nL p l e Rm s m args below meth c (cells + 0) (slots + 0) Q (pc + 3) L (.int r.2 :: st) S R r.1) : Wk E nL p l e Rm s m args below meth c cells slots Q pc L stk S R I := by
  have hcf := cof_t hs
  unfold v_turns at hr
  rw [hcf] at hr
  rcases thc_e ht with rfl | rfl | rfl | rfl | rfl | rfl
  · rw [if_pos rfl] at hr
    exact k_U C (c_X1_turns hr) lkU_RX9_37_0 hs rfl hst hst8 (by omega) (by omega) hc hsl d k
  · rw [if_neg (by decide), if_pos rfl] at hr
    exact k_U C (c_X1_turns hr) lkU_RX9_37_1 hs rfl hst hst8 (by omega) (by omega) hc hsl d k
  · rw [if_neg (by decide), if_neg (by decide), if_pos rfl] at hr
    exact k_U C (c_X4_turns hr) lkU_RX9_37_4 hs rfl hst hst8 (by omega) (by omega) hc hsl d k
  · rw [if_neg (by decide), if_neg (by decide), if_neg (by decide)] at hr
    exact k_U C (c_X9_turns hr) lkU_RX9_37_6 hs rfl hst hst8 (by omega) (by omega) hc hsl d k
  · rw [if_neg (by decide), if_neg (by decide), if_neg (by decide)] at hr
    exact k_U C (c_X9_turns hr) lkU_RX9_37_9 hs rfl hst hst8 (by omega) (by omega) hc hsl d k
  · rw [if_neg (by decide), if_neg (by decide), if_neg (by decide)] at hr
    exact k_U C (c_X9_turns hr) lkU_RX9_37_10 hs rfl hst hst8 (by omega) (by omega) hc hsl d k
theorem dX9_tells_0 : decode cX9_tells 0 = .ok (.aload_n 0, 1) := by decide +kernel
theorem dX9_tells_1 : decode cX9_tells 1 = .ok (.bipush 13, 2) := by decide +kernel
theorem dX9_tells_3 : decode cX9_tells 3 = .ok (.invokevirtual 25, 3) := by decide +kernel
theorem dX9_tells_6 : decode cX9_tells 6 = .ok (.aload_n 0, 1) := by decide +kernel
theorem dX9_tells_7 : decode cX9_tells 7 = .ok (.iload_n 1, 1) := by decide +kernel
theorem dX9_tells_8 : decode cX9_tells 8 = .ok (.invokevirtual 37, 3) := by decide +kernel
theorem dX9_tells_11 : decode cX9_tells 11 = .ok (.aload_n 0, 1) := by decide +kernel
theorem dX9_tells_12 : decode cX9_tells 12 = .ok (.getfield 19, 3) := by decide +kernel
theorem dX9_tells_15 : decode cX9_tells 15 = .ok (.ixor, 1) := by decide +kernel
theorem dX9_tells_16 : decode cX9_tells 16 = .ok (.ireturn, 1) := by decide +kernel
def f_X9_tells (S : Sh) (R : Rw)  (I : Iw) (a0 : Nat) (x1 : Int32) : Option (Iw × Int32) := gp (thg S a0) (bd (f_X9_ran S R I a0 (13 : Int32)) (fun r3 => bd (v_turns S R r3 a0 x1) (fun r4 => some (r4.1, r4.2 ^^^ (r4.1 a0 1)))))
set_option maxHeartbeats 4000000 in
theorem b_X9_tells {E : Ev} {p : Program} {l : Launch} {e : Env} {s : State} {m : MethodId} {args : Array Value} {below : List Frame} {meth : Method} {c : Code} (C : Cx E RX9 cX9_tells 2 p s m c) (hr : meth.sig.returnType = (some .int)) (hk : meth.locks = false) {S : Sh} {R : Rw} {r : Iw × Int32}  : ∀ (I : Iw) (a0 : Nat) (x1 : Int32), f_X9_tells S R   I a0 x1 = some r → Wk E 2 p l e ({ frames := 5, cells := 0, slots := 0, locals := 105 } : Room) s m args below meth c 0 0 (MQ below (Qw E S R r.1 (some (.int r.2))) args s 0 0 (fun q => E.1 ≤ q)) 0 [(0, .ref (E.1 + a0)), (1, .int x1)] [] S R I := by
  intro I a0 x1 h
  rw [f_X9_tells] at h
  refine k_aloadn (pc := 0) C dX9_tells_0 (i := 0) rfl 0 rfl ?_
  refine k_bipush (pc := 1) C (v := (13 : Int32)) dX9_tells_1 (by decide) ?_
  obtain ⟨hs10, h⟩ := gp_e h
  obtain ⟨ci2, hs1t, hs1⟩ := thg_e hs10
  obtain ⟨r3, hr3, h⟩ := bd_e h
  refine k_U (pc := 3) (st := []) C (c_X9_ran hr3) (lkUT_RX9_25 _ hs1t) hs1 rfl rfl (Nat.le_of_ble_eq_true rfl) (Nat.le_of_ble_eq_true rfl) (Nat.le_of_ble_eq_true rfl) (Nat.le_of_ble_eq_true rfl) (Nat.le_of_ble_eq_true rfl) dX9_tells_3 ?_
  refine k_nf (cells2 := 0) (slots2 := 0) (st2 := []) rfl rfl rfl ?_
  refine k_aloadn (pc := 6) C dX9_tells_6 (i := 0) rfl 0 rfl ?_
  refine k_iloadn (pc := 7) C dX9_tells_7 (i := 1) rfl 1 rfl ?_
  obtain ⟨r4, hr4, h⟩ := bd_e h
  refine vc_RX9_37 (pc := 8) (st := []) C hr4 hs1 hs1t rfl (Nat.le_of_ble_eq_true rfl) (Nat.le_of_ble_eq_true rfl) (Nat.le_of_ble_eq_true rfl) (Nat.le_of_ble_eq_true rfl) (Nat.le_of_ble_eq_true rfl) dX9_tells_8 ?_
  refine k_nf (cells2 := 0) (slots2 := 0) (st2 := [.int r4.2]) rfl rfl rfl ?_
  refine k_aloadn (pc := 11) C dX9_tells_11 (i := 0) rfl 0 rfl ?_
  refine k_getI (pc := 12) C (lkFT_RX9_19 _ hs1t) hs1 (irT_1 _ hs1t) dX9_tells_12 ?_
  refine k_ixor (pc := 15) C dX9_tells_15 ?_
  have h := Option.some.inj h
  subst h
  exact k_iret (pc := 16) C hr hk dX9_tells_16
theorem c_X9_tells {E : Ev} {l : Launch} {S : Sh} {R : Rw} {I : Iw} {a0 : Nat} {x1 : Int32} {r : Iw × Int32} (h : f_X9_tells S R I a0 x1 = some r) : Mt E l yX9_tells cX9_tells 2 (some .int) 5 105 [.ref (E.1 + a0), .int x1] S R I S R r.1 (some (.int r.2)) 0 0 := mt_of (by decide) (Nat.le_of_ble_eq_true rfl) (fun p e s m args below meth c C hr hk hn => b_X9_tells C hr hk _ _ _ h)
theorem lkW_RX0_21 : LkW RX0 21 "UnlikeNeighbours$Thing" ⟨RX1, "tells", "(I)I"⟩ yX9_tells cX9_tells 2 (some .int) 1 := ⟨(t5_in 27 (by decide +kernel) rfl), (t5_in 28 (by decide +kernel) rfl), rfl, (t4_in 149 (by decide +kernel) rfl), Or.inr (t4_in 137 (by decide +kernel) rfl), (t5_in 21 (by decide +kernel) rfl), (t5_in 38 (by decide +kernel) rfl), (t1_in 15 (by decide +kernel) rfl), by decide, by decide +kernel⟩
theorem lkF_RX0_24_0 : LkF RX0 24 0 0 := ⟨RX0, TX0, 5, "UnlikeNeighbours$Goat", fc0, by decide, (t4_in 98 (by decide +kernel) rfl), Or.inr (t4_in 99 (by decide +kernel) rfl)⟩
theorem lkU_RX0_27_0 : LkU RX0 27 "UnlikeNeighbours$Thing" ⟨RX0, "splits", "(I)I"⟩ yX9_splits cX9_splits 3 (some .int) 1 0 := ⟨(t5_in 30 (by decide +kernel) rfl), ⟨(t5_in 31 (by decide +kernel) rfl), (t4_in 238 (by decide +kernel) rfl), cX9_splits, 3, (some .int), (t5_in 19 (by decide +kernel) rfl)⟩, ⟨_, rfl, (t5_in 33 (by decide +kernel) rfl)⟩, (t4_in 238 (by decide +kernel) rfl), (t5_in 19 (by decide +kernel) rfl), (t1_in 15 (by decide +kernel) rfl), by decide, by decide +kernel⟩
theorem dX0_tells_0 : decode cX0_tells 0 = .ok (.aload_n 0, 1) := by decide +kernel
theorem dX0_tells_1 : decode cX0_tells 1 = .ok (.bipush 51, 2) := by decide +kernel
theorem dX0_tells_3 : decode cX0_tells 3 = .ok (.invokevirtual 7, 3) := by decide +kernel
theorem dX0_tells_6 : decode cX0_tells 6 = .ok (.aload_n 0, 1) := by decide +kernel
theorem dX0_tells_7 : decode cX0_tells 7 = .ok (.iload_n 1, 1) := by decide +kernel
theorem dX0_tells_8 : decode cX0_tells 8 = .ok (.invokespecial 21, 3) := by decide +kernel
theorem dX0_tells_11 : decode cX0_tells 11 = .ok (.istore_n 2, 1) := by decide +kernel
theorem dX0_tells_12 : decode cX0_tells 12 = .ok (.iload_n 2, 1) := by decide +kernel
theorem dX0_tells_13 : decode cX0_tells 13 = .ok (.aload_n 0, 1) := by decide +kernel
theorem dX0_tells_14 : decode cX0_tells 14 = .ok (.aload_n 0, 1) := by decide +kernel
theorem dX0_tells_15 : decode cX0_tells 15 = .ok (.getfield 24, 3) := by decide +kernel
theorem dX0_tells_18 : decode cX0_tells 18 = .ok (.invokevirtual 27, 3) := by decide +kernel
theorem dX0_tells_21 : decode cX0_tells 21 = .ok (.isub, 1) := by decide +kernel
theorem dX0_tells_22 : decode cX0_tells 22 = .ok (.ireturn, 1) := by decide +kernel
def f_X0_tells (S : Sh) (R : Rw)  (I : Iw) (a0 : Nat) (x1 : Int32) : Option (Iw × Int32) := gp (sok S a0 0 5) (bd (f_X9_ran S R I a0 (51 : Int32)) (fun r2 => bd (f_X9_tells S R r2 a0 x1) (fun r3 => bd (f_X9_splits S R r3.1 a0 (r3.1 a0 0)) (fun r4 => some (r4.1, r3.2 - r4.2)))))
set_option maxHeartbeats 4000000 in
theorem b_X0_tells {E : Ev} {p : Program} {l : Launch} {e : Env} {s : State} {m : MethodId} {args : Array Value} {below : List Frame} {meth : Method} {c : Code} (C : Cx E RX0 cX0_tells 3 p s m c) (hr : meth.sig.returnType = (some .int)) (hk : meth.locks = false) {S : Sh} {R : Rw} {r : Iw × Int32}  : ∀ (I : Iw) (a0 : Nat) (x1 : Int32), f_X0_tells S R   I a0 x1 = some r → Wk E 3 p l e ({ frames := 6, cells := 0, slots := 0, locals := 126 } : Room) s m args below meth c 0 0 (MQ below (Qw E S R r.1 (some (.int r.2))) args s 0 0 (fun q => E.1 ≤ q)) 0 [(0, .ref (E.1 + a0)), (1, .int x1)] [] S R I := by
  intro I a0 x1 h
  rw [f_X0_tells] at h
  refine k_aloadn (pc := 0) C dX0_tells_0 (i := 0) rfl 0 rfl ?_
  refine k_bipush (pc := 1) C (v := (51 : Int32)) dX0_tells_1 (by decide) ?_
  obtain ⟨hs10, h⟩ := gp_e h
  have hs1 := sok_e hs10
  obtain ⟨r2, hr2, h⟩ := bd_e h
  refine k_U (pc := 3) (st := []) C (c_X9_ran hr2) lkU_RX0_7_0 hs1 rfl rfl (Nat.le_of_ble_eq_true rfl) (Nat.le_of_ble_eq_true rfl) (Nat.le_of_ble_eq_true rfl) (Nat.le_of_ble_eq_true rfl) (Nat.le_of_ble_eq_true rfl) dX0_tells_3 ?_
  refine k_nf (cells2 := 0) (slots2 := 0) (st2 := []) rfl rfl rfl ?_
  refine k_aloadn (pc := 6) C dX0_tells_6 (i := 0) rfl 0 rfl ?_
  refine k_iloadn (pc := 7) C dX0_tells_7 (i := 1) rfl 1 rfl ?_
  obtain ⟨r3, hr3, h⟩ := bd_e h
  refine k_W (pc := 8) (st := []) C (c_X9_tells hr3) lkW_RX0_21 hs1 ⟨_, rfl⟩ rfl rfl (Nat.le_of_ble_eq_true rfl) (Nat.le_of_ble_eq_true rfl) (Nat.le_of_ble_eq_true rfl) (Nat.le_of_ble_eq_true rfl) (Nat.le_of_ble_eq_true rfl) dX0_tells_8 ?_
  refine k_nf (cells2 := 0) (slots2 := 0) (st2 := [.int r3.2]) rfl rfl rfl ?_
  refine k_istoren (pc := 11) C dX0_tells_11 (i := 2) rfl (by decide) (L2 := [(0, .ref (E.1 + a0)), (1, .int x1), (2, .int r3.2)]) rfl ?_
  refine k_iloadn (pc := 12) C dX0_tells_12 (i := 2) rfl 2 rfl ?_
  refine k_aloadn (pc := 13) C dX0_tells_13 (i := 0) rfl 0 rfl ?_
  refine k_aloadn (pc := 14) C dX0_tells_14 (i := 0) rfl 0 rfl ?_
  refine k_getI (pc := 15) C lkF_RX0_24_0 hs1 ir_0_0 dX0_tells_15 ?_
  obtain ⟨r4, hr4, h⟩ := bd_e h
  refine k_U (pc := 18) (st := [.int r3.2]) C (c_X9_splits hr4) lkU_RX0_27_0 hs1 rfl rfl (Nat.le_of_ble_eq_true rfl) (Nat.le_of_ble_eq_true rfl) (Nat.le_of_ble_eq_true rfl) (Nat.le_of_ble_eq_true rfl) (Nat.le_of_ble_eq_true rfl) dX0_tells_18 ?_
  refine k_nf (cells2 := 0) (slots2 := 0) (st2 := [.int r4.2, .int r3.2]) rfl rfl rfl ?_
  refine k_isub (pc := 21) C dX0_tells_21 ?_
  have h := Option.some.inj h
  subst h
  exact k_iret (pc := 22) C hr hk dX0_tells_22
theorem c_X0_tells {E : Ev} {l : Launch} {S : Sh} {R : Rw} {I : Iw} {a0 : Nat} {x1 : Int32} {r : Iw × Int32} (h : f_X0_tells S R I a0 x1 = some r) : Mt E l yX0_tells cX0_tells 3 (some .int) 6 126 [.ref (E.1 + a0), .int x1] S R I S R r.1 (some (.int r.2)) 0 0 := mt_of (by decide) (Nat.le_of_ble_eq_true rfl) (fun p e s m args below meth c C hr hk hn => b_X0_tells C hr hk _ _ _ h)
theorem lkQ_RX2_11_2 : LkQ RX2 11 2 1 (.array .int) := ⟨RX2, TX2, 11, "UnlikeNeighbours$Orders", fc2, by decide, (t1_in 177 (by decide +kernel) rfl), Or.inl rfl, rfl, rfl, by decide +kernel⟩
theorem lkQ_RX2_15_2 : LkQ RX2 15 2 3 (.array .int) := ⟨RX2, TX2, 11, "UnlikeNeighbours$Orders", fc2, by decide, (t1_in 179 (by decide +kernel) rfl), Or.inl rfl, rfl, rfl, by decide +kernel⟩
theorem lkQ_RX2_18_2 : LkQ RX2 18 2 4 (.array .int) := ⟨RX2, TX2, 11, "UnlikeNeighbours$Orders", fc2, by decide, (t1_in 180 (by decide +kernel) rfl), Or.inl rfl, rfl, rfl, by decide +kernel⟩
theorem lkQ_RX2_21_2 : LkQ RX2 21 2 5 (.array .int) := ⟨RX2, TX2, 11, "UnlikeNeighbours$Orders", fc2, by decide, (t1_in 181 (by decide +kernel) rfl), Or.inl rfl, rfl, rfl, by decide +kernel⟩
theorem lkQ_RX2_24_2 : LkQ RX2 24 2 6 (.array .boolean) := ⟨RX2, TX2, 11, "UnlikeNeighbours$Orders", fc2, by decide, (t1_in 182 (by decide +kernel) rfl), Or.inl rfl, rfl, rfl, by decide +kernel⟩
theorem lkQ_RX2_28_2 : LkQ RX2 28 2 7 (.array .int) := ⟨RX2, TX2, 11, "UnlikeNeighbours$Orders", fc2, by decide, (t1_in 183 (by decide +kernel) rfl), Or.inl rfl, rfl, rfl, by decide +kernel⟩
theorem lkQ_RX2_31_2 : LkQ RX2 31 2 10 (.array .int) := ⟨RX2, TX2, 11, "UnlikeNeighbours$Orders", fc2, by decide, (t1_in 187 (by decide +kernel) rfl), Or.inl rfl, rfl, rfl, by decide +kernel⟩
theorem lkQ_RX2_34_2 : LkQ RX2 34 2 0 (.object "UnlikeNeighbours$Shed") := ⟨RX2, TX2, 11, "UnlikeNeighbours$Orders", fc2, by decide, (t1_in 176 (by decide +kernel) rfl), Or.inl rfl, rfl, rfl, by decide +kernel⟩
theorem dX2_init_0 : decode cX2_init 0 = .ok (.aload_n 0, 1) := by decide +kernel
theorem dX2_init_1 : decode cX2_init 1 = .ok (.invokespecial 5, 3) := by decide +kernel
theorem dX2_init_4 : decode cX2_init 4 = .ok (.aload_n 0, 1) := by decide +kernel
theorem dX2_init_5 : decode cX2_init 5 = .ok (.sipush 5120, 3) := by decide +kernel
theorem dX2_init_8 : decode cX2_init 8 = .ok (.newarray .int, 2) := by decide +kernel
theorem dX2_init_10 : decode cX2_init 10 = .ok (.putfield 11, 3) := by decide +kernel
theorem dX2_init_13 : decode cX2_init 13 = .ok (.aload_n 0, 1) := by decide +kernel
theorem dX2_init_14 : decode cX2_init 14 = .ok (.sipush 5120, 3) := by decide +kernel
theorem dX2_init_17 : decode cX2_init 17 = .ok (.newarray .int, 2) := by decide +kernel
theorem dX2_init_19 : decode cX2_init 19 = .ok (.putfield 15, 3) := by decide +kernel
theorem dX2_init_22 : decode cX2_init 22 = .ok (.aload_n 0, 1) := by decide +kernel
theorem dX2_init_23 : decode cX2_init 23 = .ok (.sipush 5120, 3) := by decide +kernel
theorem dX2_init_26 : decode cX2_init 26 = .ok (.newarray .int, 2) := by decide +kernel
theorem dX2_init_28 : decode cX2_init 28 = .ok (.putfield 18, 3) := by decide +kernel
theorem dX2_init_31 : decode cX2_init 31 = .ok (.aload_n 0, 1) := by decide +kernel
theorem dX2_init_32 : decode cX2_init 32 = .ok (.sipush 5120, 3) := by decide +kernel
theorem dX2_init_35 : decode cX2_init 35 = .ok (.newarray .int, 2) := by decide +kernel
theorem dX2_init_37 : decode cX2_init 37 = .ok (.putfield 21, 3) := by decide +kernel
theorem dX2_init_40 : decode cX2_init 40 = .ok (.aload_n 0, 1) := by decide +kernel
theorem dX2_init_41 : decode cX2_init 41 = .ok (.sipush 5120, 3) := by decide +kernel
theorem dX2_init_44 : decode cX2_init 44 = .ok (.newarray .boolean, 2) := by decide +kernel
theorem dX2_init_46 : decode cX2_init 46 = .ok (.putfield 24, 3) := by decide +kernel
theorem dX2_init_49 : decode cX2_init 49 = .ok (.aload_n 0, 1) := by decide +kernel
theorem dX2_init_50 : decode cX2_init 50 = .ok (.bipush 9, 2) := by decide +kernel
theorem dX2_init_52 : decode cX2_init 52 = .ok (.newarray .int, 2) := by decide +kernel
theorem dX2_init_54 : decode cX2_init 54 = .ok (.putfield 28, 3) := by decide +kernel
theorem dX2_init_57 : decode cX2_init 57 = .ok (.aload_n 0, 1) := by decide +kernel
theorem dX2_init_58 : decode cX2_init 58 = .ok (.bipush 9, 2) := by decide +kernel
theorem dX2_init_60 : decode cX2_init 60 = .ok (.newarray .int, 2) := by decide +kernel
theorem dX2_init_62 : decode cX2_init 62 = .ok (.putfield 31, 3) := by decide +kernel
theorem dX2_init_65 : decode cX2_init 65 = .ok (.aload_n 0, 1) := by decide +kernel
theorem dX2_init_66 : decode cX2_init 66 = .ok (.aload_n 1, 1) := by decide +kernel
theorem dX2_init_67 : decode cX2_init 67 = .ok (.putfield 34, 3) := by decide +kernel
theorem dX2_init_70 : decode cX2_init 70 = .ok (.return_, 1) := by decide +kernel
def f_X2_init   (S : Sh) (R : Rw) (I : Iw) (a0 : Nat) (a1 : Nat) : Option ((Sh × Rw × Iw)) := lt S.length (fun q1 => lt (S ++ [(20, 5120)]) (fun S2 => lt (setA R q1 (fun _ => none)) (fun R3 => lt (setA I q1 (fun _ => 0)) (fun I4 => gp (sok S2 a0 2 11) (lt (up2 R3 a0 1 (some (.inl q1))) (fun R7 => lt S2.length (fun q8 => lt (S2 ++ [(20, 5120)]) (fun S9 => lt (setA R7 q8 (fun _ => none)) (fun R10 => lt (setA I4 q8 (fun _ => 0)) (fun I11 => gp (sok S9 a0 2 11) (lt (up2 R10 a0 3 (some (.inl q8))) (fun R14 => lt S9.length (fun q15 => lt (S9 ++ [(20, 5120)]) (fun S16 => lt (setA R14 q15 (fun _ => none)) (fun R17 => lt (setA I11 q15 (fun _ => 0)) (fun I18 => gp (sok S16 a0 2 11) (lt (up2 R17 a0 4 (some (.inl q15))) (fun R21 => lt S16.length (fun q22 => lt (S16 ++ [(20, 5120)]) (fun S23 => lt (setA R21 q22 (fun _ => none)) (fun R24 => lt (setA I18 q22 (fun _ => 0)) (fun I25 => gp (sok S23 a0 2 11) (lt (up2 R24 a0 5 (some (.inl q22))) (fun R28 => lt S23.length (fun q29 => lt (S23 ++ [(22, 5120)]) (fun S30 => lt (setA R28 q29 (fun _ => none)) (fun R31 => lt (setA I25 q29 (fun _ => 0)) (fun I32 => gp (sok S30 a0 2 11) (lt (up2 R31 a0 6 (some (.inl q29))) (fun R35 => lt S30.length (fun q36 => lt (S30 ++ [(20, 9)]) (fun S37 => lt (setA R35 q36 (fun _ => none)) (fun R38 => lt (setA I32 q36 (fun _ => 0)) (fun I39 => gp (sok S37 a0 2 11) (lt (up2 R38 a0 7 (some (.inl q36))) (fun R42 => lt S37.length (fun q43 => lt (S37 ++ [(20, 9)]) (fun S44 => lt (setA R42 q43 (fun _ => none)) (fun R45 => lt (setA I39 q43 (fun _ => 0)) (fun I46 => gp (sok S44 a0 2 11) (lt (up2 R45 a0 10 (some (.inl q43))) (fun R49 => lt (up2 R49 a0 0 (some (.inl a1))) (fun R50 => some (S44, R50, I46))))))))))))))))))))))))))))))))))))))))))))
set_option maxHeartbeats 4000000 in
theorem b_X2_init {E : Ev} {p : Program} {l : Launch} {e : Env} {s : State} {m : MethodId} {args : Array Value} {below : List Frame} {meth : Method} {c : Code} (C : Cx E RX2 cX2_init 2 p s m c) (hr : meth.sig.returnType = none) (hk : meth.locks = false) (hin : meth.name = "<init>") {r : (Sh × Rw × Iw)}  : ∀ (S : Sh) (R : Rw) (I : Iw) (a0 : Nat) (a1 : Nat), f_X2_init    S R I a0 a1 = some r → Wk E 2 p l e ({ frames := 1, cells := 7, slots := 25618, locals := 20 } : Room) s m args below meth c 0 0 (MQ below (Qw E r.1 r.2.1 r.2.2 none) args s 7 25618 (fun q => E.1 ≤ q)) 0 [(0, .ref (E.1 + a0)), (1, .ref (E.1 + a1))] [] S R I := by
  intro S R I a0 a1 h
  rw [f_X2_init] at h
  refine k_aloadn (pc := 0) C dX2_init_0 (i := 0) rfl 0 rfl ?_
  refine k_objInit (pc := 1) C (t1_in 175 (by decide +kernel) rfl) (t1_in 27 (by decide +kernel) rfl) (t1_in 28 (by decide +kernel) rfl) (Nat.le_of_ble_eq_true rfl) (Nat.le_of_ble_eq_true rfl) (Nat.le_of_ble_eq_true rfl) dX2_init_1 ?_
  refine k_aloadn (pc := 4) C dX2_init_4 (i := 0) rfl 0 rfl ?_
  refine k_sipush (pc := 5) C (v := (5120 : Int32)) dX2_init_5 (by decide) ?_
  obtain ⟨q1, eq1, h⟩ := lt_e h
  obtain ⟨S2, eS2, h⟩ := lt_e h
  obtain ⟨R3, eR3, h⟩ := lt_e h
  obtain ⟨I4, eI4, h⟩ := lt_e h
  refine k_newa (pc := 8) C (t := 20) (N := 5120) rfl (by decide) (t1_in 68 (by decide +kernel) rfl) (by decide) (by decide) (by decide) (Nat.le_of_ble_eq_true rfl) (Nat.le_of_ble_eq_true rfl) dX2_init_8 ?_
  rw [← eq1, ← eS2, ← eR3, ← eI4]
  refine k_nf (cells2 := 1) (slots2 := 5120) (st2 := [.ref (E.1 + q1), .ref (E.1 + a0)]) rfl rfl rfl ?_
  obtain ⟨hs60, h⟩ := gp_e h
  have hs6 := sok_e hs60
  obtain ⟨R7, eR7, h⟩ := lt_e h
  refine k_putFR (pc := 10) C hin lkQ_RX2_11_2 hs6 ir_2_1 (fun _ => ⟨rfl, rfl⟩) dX2_init_10 ?_
  rw [← eR7]
  refine k_aloadn (pc := 13) C dX2_init_13 (i := 0) rfl 0 rfl ?_
  refine k_sipush (pc := 14) C (v := (5120 : Int32)) dX2_init_14 (by decide) ?_
  obtain ⟨q8, eq8, h⟩ := lt_e h
  obtain ⟨S9, eS9, h⟩ := lt_e h
  obtain ⟨R10, eR10, h⟩ := lt_e h
  obtain ⟨I11, eI11, h⟩ := lt_e h
  refine k_newa (pc := 17) C (t := 20) (N := 5120) rfl (by decide) (t1_in 68 (by decide +kernel) rfl) (by decide) (by decide) (by decide) (Nat.le_of_ble_eq_true rfl) (Nat.le_of_ble_eq_true rfl) dX2_init_17 ?_
  rw [← eq8, ← eS9, ← eR10, ← eI11]
  refine k_nf (cells2 := 2) (slots2 := 10240) (st2 := [.ref (E.1 + q8), .ref (E.1 + a0)]) rfl rfl rfl ?_
  obtain ⟨hs130, h⟩ := gp_e h
  have hs13 := sok_e hs130
  obtain ⟨R14, eR14, h⟩ := lt_e h
  refine k_putFR (pc := 19) C hin lkQ_RX2_15_2 hs13 ir_2_3 (fun _ => ⟨rfl, rfl⟩) dX2_init_19 ?_
  rw [← eR14]
  refine k_aloadn (pc := 22) C dX2_init_22 (i := 0) rfl 0 rfl ?_
  refine k_sipush (pc := 23) C (v := (5120 : Int32)) dX2_init_23 (by decide) ?_
  obtain ⟨q15, eq15, h⟩ := lt_e h
  obtain ⟨S16, eS16, h⟩ := lt_e h
  obtain ⟨R17, eR17, h⟩ := lt_e h
  obtain ⟨I18, eI18, h⟩ := lt_e h
  refine k_newa (pc := 26) C (t := 20) (N := 5120) rfl (by decide) (t1_in 68 (by decide +kernel) rfl) (by decide) (by decide) (by decide) (Nat.le_of_ble_eq_true rfl) (Nat.le_of_ble_eq_true rfl) dX2_init_26 ?_
  rw [← eq15, ← eS16, ← eR17, ← eI18]
  refine k_nf (cells2 := 3) (slots2 := 15360) (st2 := [.ref (E.1 + q15), .ref (E.1 + a0)]) rfl rfl rfl ?_
  obtain ⟨hs200, h⟩ := gp_e h
  have hs20 := sok_e hs200
  obtain ⟨R21, eR21, h⟩ := lt_e h
  refine k_putFR (pc := 28) C hin lkQ_RX2_18_2 hs20 ir_2_4 (fun _ => ⟨rfl, rfl⟩) dX2_init_28 ?_
  rw [← eR21]
  refine k_aloadn (pc := 31) C dX2_init_31 (i := 0) rfl 0 rfl ?_
  refine k_sipush (pc := 32) C (v := (5120 : Int32)) dX2_init_32 (by decide) ?_
  obtain ⟨q22, eq22, h⟩ := lt_e h
  obtain ⟨S23, eS23, h⟩ := lt_e h
  obtain ⟨R24, eR24, h⟩ := lt_e h
  obtain ⟨I25, eI25, h⟩ := lt_e h
  refine k_newa (pc := 35) C (t := 20) (N := 5120) rfl (by decide) (t1_in 68 (by decide +kernel) rfl) (by decide) (by decide) (by decide) (Nat.le_of_ble_eq_true rfl) (Nat.le_of_ble_eq_true rfl) dX2_init_35 ?_
  rw [← eq22, ← eS23, ← eR24, ← eI25]
  refine k_nf (cells2 := 4) (slots2 := 20480) (st2 := [.ref (E.1 + q22), .ref (E.1 + a0)]) rfl rfl rfl ?_
  obtain ⟨hs270, h⟩ := gp_e h
  have hs27 := sok_e hs270
  obtain ⟨R28, eR28, h⟩ := lt_e h
  refine k_putFR (pc := 37) C hin lkQ_RX2_21_2 hs27 ir_2_5 (fun _ => ⟨rfl, rfl⟩) dX2_init_37 ?_
  rw [← eR28]
  refine k_aloadn (pc := 40) C dX2_init_40 (i := 0) rfl 0 rfl ?_
  refine k_sipush (pc := 41) C (v := (5120 : Int32)) dX2_init_41 (by decide) ?_
  obtain ⟨q29, eq29, h⟩ := lt_e h
  obtain ⟨S30, eS30, h⟩ := lt_e h
  obtain ⟨R31, eR31, h⟩ := lt_e h
  obtain ⟨I32, eI32, h⟩ := lt_e h
  refine k_newa (pc := 44) C (t := 22) (N := 5120) rfl (by decide) (t1_in 212 (by decide +kernel) rfl) (by decide) (by decide) (by decide) (Nat.le_of_ble_eq_true rfl) (Nat.le_of_ble_eq_true rfl) dX2_init_44 ?_
  rw [← eq29, ← eS30, ← eR31, ← eI32]
  refine k_nf (cells2 := 5) (slots2 := 25600) (st2 := [.ref (E.1 + q29), .ref (E.1 + a0)]) rfl rfl rfl ?_
  obtain ⟨hs340, h⟩ := gp_e h
  have hs34 := sok_e hs340
  obtain ⟨R35, eR35, h⟩ := lt_e h
  refine k_putFR (pc := 46) C hin lkQ_RX2_24_2 hs34 ir_2_6 (fun _ => ⟨rfl, rfl⟩) dX2_init_46 ?_
  rw [← eR35]
  refine k_aloadn (pc := 49) C dX2_init_49 (i := 0) rfl 0 rfl ?_
  refine k_bipush (pc := 50) C (v := (9 : Int32)) dX2_init_50 (by decide) ?_
  obtain ⟨q36, eq36, h⟩ := lt_e h
  obtain ⟨S37, eS37, h⟩ := lt_e h
  obtain ⟨R38, eR38, h⟩ := lt_e h
  obtain ⟨I39, eI39, h⟩ := lt_e h
  refine k_newa (pc := 52) C (t := 20) (N := 9) rfl (by decide) (t1_in 68 (by decide +kernel) rfl) (by decide) (by decide) (by decide) (Nat.le_of_ble_eq_true rfl) (Nat.le_of_ble_eq_true rfl) dX2_init_52 ?_
  rw [← eq36, ← eS37, ← eR38, ← eI39]
  refine k_nf (cells2 := 6) (slots2 := 25609) (st2 := [.ref (E.1 + q36), .ref (E.1 + a0)]) rfl rfl rfl ?_
  obtain ⟨hs410, h⟩ := gp_e h
  have hs41 := sok_e hs410
  obtain ⟨R42, eR42, h⟩ := lt_e h
  refine k_putFR (pc := 54) C hin lkQ_RX2_28_2 hs41 ir_2_7 (fun _ => ⟨rfl, rfl⟩) dX2_init_54 ?_
  rw [← eR42]
  refine k_aloadn (pc := 57) C dX2_init_57 (i := 0) rfl 0 rfl ?_
  refine k_bipush (pc := 58) C (v := (9 : Int32)) dX2_init_58 (by decide) ?_
  obtain ⟨q43, eq43, h⟩ := lt_e h
  obtain ⟨S44, eS44, h⟩ := lt_e h
  obtain ⟨R45, eR45, h⟩ := lt_e h
  obtain ⟨I46, eI46, h⟩ := lt_e h
  refine k_newa (pc := 60) C (t := 20) (N := 9) rfl (by decide) (t1_in 68 (by decide +kernel) rfl) (by decide) (by decide) (by decide) (Nat.le_of_ble_eq_true rfl) (Nat.le_of_ble_eq_true rfl) dX2_init_60 ?_
  rw [← eq43, ← eS44, ← eR45, ← eI46]
  refine k_nf (cells2 := 7) (slots2 := 25618) (st2 := [.ref (E.1 + q43), .ref (E.1 + a0)]) rfl rfl rfl ?_
  obtain ⟨hs480, h⟩ := gp_e h
  have hs48 := sok_e hs480
  obtain ⟨R49, eR49, h⟩ := lt_e h
  refine k_putFR (pc := 62) C hin lkQ_RX2_31_2 hs48 ir_2_10 (fun _ => ⟨rfl, rfl⟩) dX2_init_62 ?_
  rw [← eR49]
  refine k_aloadn (pc := 65) C dX2_init_65 (i := 0) rfl 0 rfl ?_
  refine k_aloadn (pc := 66) C dX2_init_66 (i := 1) rfl 1 rfl ?_
  obtain ⟨R50, eR50, h⟩ := lt_e h
  refine k_putFR (pc := 67) C hin lkQ_RX2_34_2 hs48 ir_2_0 (fun _ => ⟨rfl, rfl⟩) dX2_init_67 ?_
  rw [← eR50]
  have h := Option.some.inj h
  subst h
  exact k_vret (pc := 70) C hr hk dX2_init_70
theorem c_X2_init {E : Ev} {l : Launch} {S : Sh} {R : Rw} {I : Iw} {a0 : Nat} {a1 : Nat} {r : (Sh × Rw × Iw)} (h : f_X2_init S R I a0 a1 = some r) : Mt E l yX2_init cX2_init 2 none 1 20 [.ref (E.1 + a0), .ref (E.1 + a1)] S R I r.1 r.2.1 r.2.2 none 7 25618 := mt_of (by decide) (Nat.le_of_ble_eq_true rfl) (fun p e s m args below meth c C hr hk hn => b_X2_init C hr hk hn _ _ _ _ _ h)
theorem dX11_holds_0 : decode cX11_holds 0 = .ok (.iload_n 1, 1) := by decide +kernel
theorem dX11_holds_1 : decode cX11_holds 1 = .ok (.ifCond .lt 22, 3) := by decide +kernel
theorem dX11_holds_4 : decode cX11_holds 4 = .ok (.iload_n 1, 1) := by decide +kernel
theorem dX11_holds_5 : decode cX11_holds 5 = .ok (.bipush 9, 2) := by decide +kernel
theorem dX11_holds_7 : decode cX11_holds 7 = .ok (.if_icmp .gt 16, 3) := by decide +kernel
theorem dX11_holds_10 : decode cX11_holds 10 = .ok (.iload_n 0, 1) := by decide +kernel
theorem dX11_holds_11 : decode cX11_holds 11 = .ok (.iload_n 1, 1) := by decide +kernel
theorem dX11_holds_12 : decode cX11_holds 12 = .ok (.ishr, 1) := by decide +kernel
theorem dX11_holds_13 : decode cX11_holds 13 = .ok (.iconst 1, 1) := by decide +kernel
theorem dX11_holds_14 : decode cX11_holds 14 = .ok (.iand, 1) := by decide +kernel
theorem dX11_holds_15 : decode cX11_holds 15 = .ok (.iconst 1, 1) := by decide +kernel
theorem dX11_holds_16 : decode cX11_holds 16 = .ok (.if_icmp .ne 7, 3) := by decide +kernel
theorem dX11_holds_19 : decode cX11_holds 19 = .ok (.iconst 1, 1) := by decide +kernel
theorem dX11_holds_20 : decode cX11_holds 20 = .ok (.goto 4, 3) := by decide +kernel
theorem dX11_holds_23 : decode cX11_holds 23 = .ok (.iconst 0, 1) := by decide +kernel
theorem dX11_holds_24 : decode cX11_holds 24 = .ok (.ireturn, 1) := by decide +kernel
def f_X11_holds (S : Sh) (R : Rw) (I : Iw)  (x0 : Int32) (x1 : Int32) : Option (Int32) := (if x1 < 0 then some (0 : Int32) else (if (9 : Int32) < x1 then some (0 : Int32) else (if ((x0 >>> (x1 &&& 31)) &&& (1 : Int32)) = (1 : Int32) then some (1 : Int32) else some (0 : Int32))))
set_option maxHeartbeats 4000000 in
theorem b_X11_holds {E : Ev} {p : Program} {l : Launch} {e : Env} {s : State} {m : MethodId} {args : Array Value} {below : List Frame} {meth : Method} {c : Code} (C : Cx E RX11 cX11_holds 2 p s m c) (hr : meth.sig.returnType = (some .boolean)) (hk : meth.locks = false) {S : Sh} {R : Rw} {I : Iw} {r : Int32}  : ∀ (x0 : Int32) (x1 : Int32), f_X11_holds S R I   x0 x1 = some r → Wk E 2 p l e ({ frames := 0, cells := 0, slots := 0, locals := 0 } : Room) s m args below meth c 0 0 (MQ below (Qw E S R I (some (.int r))) args s 0 0 (fun q => E.1 ≤ q)) 0 [(0, .int x0), (1, .int x1)] [] S R I := by
  intro x0 x1 h
  rw [f_X11_holds] at h
  refine k_iloadn (pc := 0) C dX11_holds_0 (i := 1) rfl 1 rfl ?_
  refine k_if_lt (pc := 1) C dX11_holds_1 (tgt := 23) (by decide) (fun hc1 => ?_) (fun hc1 => ?_)
  · rw [if_pos hc1] at h
    refine k_iconst (pc := 23) C (v := (0 : Int32)) dX11_holds_23 (by decide) ?_
    have h := Option.some.inj h
    subst h
    exact k_zret (pc := 24) C hr hk (Or.inl rfl) dX11_holds_24
  · rw [if_neg hc1] at h
    refine k_iloadn (pc := 4) C dX11_holds_4 (i := 1) rfl 1 rfl ?_
    refine k_bipush (pc := 5) C (v := (9 : Int32)) dX11_holds_5 (by decide) ?_
    refine k_icmp_gt (pc := 7) C dX11_holds_7 (tgt := 23) (by decide) (fun hc2 => ?_) (fun hc2 => ?_)
    · rw [if_pos hc2] at h
      refine k_iconst (pc := 23) C (v := (0 : Int32)) dX11_holds_23 (by decide) ?_
      have h := Option.some.inj h
      subst h
      exact k_zret (pc := 24) C hr hk (Or.inl rfl) dX11_holds_24
    · rw [if_neg hc2] at h
      refine k_iloadn (pc := 10) C dX11_holds_10 (i := 0) rfl 0 rfl ?_
      refine k_iloadn (pc := 11) C dX11_holds_11 (i := 1) rfl 1 rfl ?_
      refine k_ishr (pc := 12) C dX11_holds_12 ?_
      refine k_iconst (pc := 13) C (v := (1 : Int32)) dX11_holds_13 (by decide) ?_
      refine k_iand (pc := 14) C dX11_holds_14 ?_
      refine k_iconst (pc := 15) C (v := (1 : Int32)) dX11_holds_15 (by decide) ?_
      refine k_icmp_ne (pc := 16) C dX11_holds_16 (tgt := 23) (by decide) (fun hc3 => ?_) (fun hc3 => ?_)
      · rw [if_neg hc3] at h
        refine k_iconst (pc := 23) C (v := (0 : Int32)) dX11_holds_23 (by decide) ?_
        have h := Option.some.inj h
        subst h
        exact k_zret (pc := 24) C hr hk (Or.inl rfl) dX11_holds_24
      · rw [if_pos hc3] at h
        refine k_iconst (pc := 19) C (v := (1 : Int32)) dX11_holds_19 (by decide) ?_
        refine k_goto (pc := 20) C dX11_holds_20 (tgt := 24) (by decide) ?_
        have h := Option.some.inj h
        subst h
        exact k_zret (pc := 24) C hr hk (Or.inr rfl) dX11_holds_24
theorem c_X11_holds {E : Ev} {l : Launch} {S : Sh} {R : Rw} {I : Iw} {x0 : Int32} {x1 : Int32} {r : Int32} (h : f_X11_holds S R I x0 x1 = some r) : Mt E l yX11_holds cX11_holds 2 (some .boolean) 0 0 [.int x0, .int x1] S R I S R I (some (.int r)) 0 0 := mt_of (by decide) (Nat.le_of_ble_eq_true rfl) (fun p e s m args below meth c C hr hk hn => b_X11_holds C hr hk _ _ h)
theorem dX11_isBetween_0 : decode cX11_isBetween 0 = .ok (.iload_n 0, 1) := by decide +kernel
theorem dX11_isBetween_1 : decode cX11_isBetween 1 = .ok (.iload_n 1, 1) := by decide +kernel
theorem dX11_isBetween_2 : decode cX11_isBetween 2 = .ok (.if_icmp .lt 12, 3) := by decide +kernel
theorem dX11_isBetween_5 : decode cX11_isBetween 5 = .ok (.iload_n 0, 1) := by decide +kernel
theorem dX11_isBetween_6 : decode cX11_isBetween 6 = .ok (.iload_n 2, 1) := by decide +kernel
theorem dX11_isBetween_7 : decode cX11_isBetween 7 = .ok (.if_icmp .gt 7, 3) := by decide +kernel
theorem dX11_isBetween_10 : decode cX11_isBetween 10 = .ok (.iconst 1, 1) := by decide +kernel
theorem dX11_isBetween_11 : decode cX11_isBetween 11 = .ok (.goto 4, 3) := by decide +kernel
theorem dX11_isBetween_14 : decode cX11_isBetween 14 = .ok (.iconst 0, 1) := by decide +kernel
theorem dX11_isBetween_15 : decode cX11_isBetween 15 = .ok (.ireturn, 1) := by decide +kernel
def f_X11_isBetween (S : Sh) (R : Rw) (I : Iw)  (x0 : Int32) (x1 : Int32) (x2 : Int32) : Option (Int32) := (if x0 < x1 then some (0 : Int32) else (if x2 < x0 then some (0 : Int32) else some (1 : Int32)))
set_option maxHeartbeats 4000000 in
theorem b_X11_isBetween {E : Ev} {p : Program} {l : Launch} {e : Env} {s : State} {m : MethodId} {args : Array Value} {below : List Frame} {meth : Method} {c : Code} (C : Cx E RX11 cX11_isBetween 3 p s m c) (hr : meth.sig.returnType = (some .boolean)) (hk : meth.locks = false) {S : Sh} {R : Rw} {I : Iw} {r : Int32}  : ∀ (x0 : Int32) (x1 : Int32) (x2 : Int32), f_X11_isBetween S R I   x0 x1 x2 = some r → Wk E 3 p l e ({ frames := 0, cells := 0, slots := 0, locals := 0 } : Room) s m args below meth c 0 0 (MQ below (Qw E S R I (some (.int r))) args s 0 0 (fun q => E.1 ≤ q)) 0 [(0, .int x0), (1, .int x1), (2, .int x2)] [] S R I := by
  intro x0 x1 x2 h
  rw [f_X11_isBetween] at h
  refine k_iloadn (pc := 0) C dX11_isBetween_0 (i := 0) rfl 0 rfl ?_
  refine k_iloadn (pc := 1) C dX11_isBetween_1 (i := 1) rfl 1 rfl ?_
  refine k_icmp_lt (pc := 2) C dX11_isBetween_2 (tgt := 14) (by decide) (fun hc1 => ?_) (fun hc1 => ?_)
  · rw [if_pos hc1] at h
    refine k_iconst (pc := 14) C (v := (0 : Int32)) dX11_isBetween_14 (by decide) ?_
    have h := Option.some.inj h
    subst h
    exact k_zret (pc := 15) C hr hk (Or.inl rfl) dX11_isBetween_15
  · rw [if_neg hc1] at h
    refine k_iloadn (pc := 5) C dX11_isBetween_5 (i := 0) rfl 0 rfl ?_
    refine k_iloadn (pc := 6) C dX11_isBetween_6 (i := 2) rfl 2 rfl ?_
    refine k_icmp_gt (pc := 7) C dX11_isBetween_7 (tgt := 14) (by decide) (fun hc2 => ?_) (fun hc2 => ?_)
    · rw [if_pos hc2] at h
      refine k_iconst (pc := 14) C (v := (0 : Int32)) dX11_isBetween_14 (by decide) ?_
      have h := Option.some.inj h
      subst h
      exact k_zret (pc := 15) C hr hk (Or.inl rfl) dX11_isBetween_15
    · rw [if_neg hc2] at h
      refine k_iconst (pc := 10) C (v := (1 : Int32)) dX11_isBetween_10 (by decide) ?_
      refine k_goto (pc := 11) C dX11_isBetween_11 (tgt := 15) (by decide) ?_
      have h := Option.some.inj h
      subst h
      exact k_zret (pc := 15) C hr hk (Or.inr rfl) dX11_isBetween_15
theorem c_X11_isBetween {E : Ev} {l : Launch} {S : Sh} {R : Rw} {I : Iw} {x0 : Int32} {x1 : Int32} {x2 : Int32} {r : Int32} (h : f_X11_isBetween S R I x0 x1 x2 = some r) : Mt E l yX11_isBetween cX11_isBetween 3 (some .boolean) 0 0 [.int x0, .int x1, .int x2] S R I S R I (some (.int r)) 0 0 := mt_of (by decide) (Nat.le_of_ble_eq_true rfl) (fun p e s m args below meth c C hr hk hn => b_X11_isBetween C hr hk _ _ _ h)
theorem lkSN_RX2_103 : LkSN RX2 103 yX11_isBetween "UnlikeNeighbours" cX11_isBetween 3 (some .boolean) 3 := ⟨l3_in 105 (by decide +kernel), (t2_in 35 (by decide +kernel) rfl), (t2_in 36 (by decide +kernel) rfl), (t1_in 1 (by decide +kernel) rfl), by decide, by decide +kernel⟩
theorem dX2_stateOf_0 : decode cX2_stateOf 0 = .ok (.iload_n 0, 1) := by decide +kernel
theorem dX2_stateOf_1 : decode cX2_stateOf 1 = .ok (.bipush 10, 2) := by decide +kernel
theorem dX2_stateOf_3 : decode cX2_stateOf 3 = .ok (.imul, 1) := by decide +kernel
theorem dX2_stateOf_4 : decode cX2_stateOf 4 = .ok (.iload_n 1, 1) := by decide +kernel
theorem dX2_stateOf_5 : decode cX2_stateOf 5 = .ok (.iadd, 1) := by decide +kernel
theorem dX2_stateOf_6 : decode cX2_stateOf 6 = .ok (.iconst 1, 1) := by decide +kernel
theorem dX2_stateOf_7 : decode cX2_stateOf 7 = .ok (.iadd, 1) := by decide +kernel
theorem dX2_stateOf_8 : decode cX2_stateOf 8 = .ok (.istore_n 2, 1) := by decide +kernel
theorem dX2_stateOf_9 : decode cX2_stateOf 9 = .ok (.iload_n 2, 1) := by decide +kernel
theorem dX2_stateOf_10 : decode cX2_stateOf 10 = .ok (.iconst 0, 1) := by decide +kernel
theorem dX2_stateOf_11 : decode cX2_stateOf 11 = .ok (.sipush 5119, 3) := by decide +kernel
theorem dX2_stateOf_14 : decode cX2_stateOf 14 = .ok (.invokestatic 103, 3) := by decide +kernel
theorem dX2_stateOf_17 : decode cX2_stateOf 17 = .ok (.ifCond .eq 7, 3) := by decide +kernel
theorem dX2_stateOf_20 : decode cX2_stateOf 20 = .ok (.iload_n 2, 1) := by decide +kernel
theorem dX2_stateOf_21 : decode cX2_stateOf 21 = .ok (.goto 4, 3) := by decide +kernel
theorem dX2_stateOf_24 : decode cX2_stateOf 24 = .ok (.iconst 0, 1) := by decide +kernel
theorem dX2_stateOf_25 : decode cX2_stateOf 25 = .ok (.ireturn, 1) := by decide +kernel
def f_X2_stateOf (S : Sh) (R : Rw) (I : Iw)  (x0 : Int32) (x1 : Int32) : Option (Int32) := bd (f_X11_isBetween S R I (((x0 * (10 : Int32)) + x1) + (1 : Int32)) (0 : Int32) (5119 : Int32)) (fun r1 => (if r1 = 0 then some (0 : Int32) else some (((x0 * (10 : Int32)) + x1) + (1 : Int32))))
set_option maxHeartbeats 4000000 in
theorem b_X2_stateOf {E : Ev} {p : Program} {l : Launch} {e : Env} {s : State} {m : MethodId} {args : Array Value} {below : List Frame} {meth : Method} {c : Code} (C : Cx E RX2 cX2_stateOf 3 p s m c) (hr : meth.sig.returnType = (some .int)) (hk : meth.locks = false) {S : Sh} {R : Rw} {I : Iw} {r : Int32}  : ∀ (x0 : Int32) (x1 : Int32), f_X2_stateOf S R I   x0 x1 = some r → Wk E 3 p l e ({ frames := 1, cells := 0, slots := 0, locals := 22 } : Room) s m args below meth c 0 0 (MQ below (Qw E S R I (some (.int r))) args s 0 0 (fun q => E.1 ≤ q)) 0 [(0, .int x0), (1, .int x1)] [] S R I := by
  intro x0 x1 h
  rw [f_X2_stateOf] at h
  refine k_iloadn (pc := 0) C dX2_stateOf_0 (i := 0) rfl 0 rfl ?_
  refine k_bipush (pc := 1) C (v := (10 : Int32)) dX2_stateOf_1 (by decide) ?_
  refine k_imul (pc := 3) C dX2_stateOf_3 ?_
  refine k_iloadn (pc := 4) C dX2_stateOf_4 (i := 1) rfl 1 rfl ?_
  refine k_iadd (pc := 5) C dX2_stateOf_5 ?_
  refine k_iconst (pc := 6) C (v := (1 : Int32)) dX2_stateOf_6 (by decide) ?_
  refine k_iadd (pc := 7) C dX2_stateOf_7 ?_
  refine k_istoren (pc := 8) C dX2_stateOf_8 (i := 2) rfl (by decide) (L2 := [(0, .int x0), (1, .int x1), (2, .int (((x0 * (10 : Int32)) + x1) + (1 : Int32)))]) rfl ?_
  refine k_iloadn (pc := 9) C dX2_stateOf_9 (i := 2) rfl 2 rfl ?_
  refine k_iconst (pc := 10) C (v := (0 : Int32)) dX2_stateOf_10 (by decide) ?_
  refine k_sipush (pc := 11) C (v := (5119 : Int32)) dX2_stateOf_11 (by decide) ?_
  obtain ⟨r1, hr1, h⟩ := bd_e h
  refine k_SN (pc := 14) (st := []) C (c_X11_isBetween hr1) lkSN_RX2_103 rfl rfl (Nat.le_of_ble_eq_true rfl) (Nat.le_of_ble_eq_true rfl) (Nat.le_of_ble_eq_true rfl) (Nat.le_of_ble_eq_true rfl) (Nat.le_of_ble_eq_true rfl) dX2_stateOf_14 ?_
  refine k_nf (cells2 := 0) (slots2 := 0) (st2 := [.int r1]) rfl rfl rfl ?_
  refine k_if_eq (pc := 17) C dX2_stateOf_17 (tgt := 24) (by decide) (fun hc2 => ?_) (fun hc2 => ?_)
  · rw [if_pos hc2] at h
    refine k_iconst (pc := 24) C (v := (0 : Int32)) dX2_stateOf_24 (by decide) ?_
    have h := Option.some.inj h
    subst h
    exact k_iret (pc := 25) C hr hk dX2_stateOf_25
  · rw [if_neg hc2] at h
    refine k_iloadn (pc := 20) C dX2_stateOf_20 (i := 2) rfl 2 rfl ?_
    refine k_goto (pc := 21) C dX2_stateOf_21 (tgt := 25) (by decide) ?_
    have h := Option.some.inj h
    subst h
    exact k_iret (pc := 25) C hr hk dX2_stateOf_25
theorem c_X2_stateOf {E : Ev} {l : Launch} {S : Sh} {R : Rw} {I : Iw} {x0 : Int32} {x1 : Int32} {r : Int32} (h : f_X2_stateOf S R I x0 x1 = some r) : Mt E l yX2_stateOf cX2_stateOf 3 (some .int) 1 22 [.int x0, .int x1] S R I S R I (some (.int r)) 0 0 := mt_of (by decide) (Nat.le_of_ble_eq_true rfl) (fun p e s m args below meth c C hr hk hn => b_X2_stateOf C hr hk _ _ h)
theorem dX11_without_0 : decode cX11_without 0 = .ok (.iload_n 1, 1) := by decide +kernel
theorem dX11_without_1 : decode cX11_without 1 = .ok (.ifCond .lt 19, 3) := by decide +kernel
theorem dX11_without_4 : decode cX11_without 4 = .ok (.iload_n 1, 1) := by decide +kernel
theorem dX11_without_5 : decode cX11_without 5 = .ok (.bipush 9, 2) := by decide +kernel
theorem dX11_without_7 : decode cX11_without 7 = .ok (.if_icmp .gt 13, 3) := by decide +kernel
theorem dX11_without_10 : decode cX11_without 10 = .ok (.iload_n 0, 1) := by decide +kernel
theorem dX11_without_11 : decode cX11_without 11 = .ok (.iconst 1, 1) := by decide +kernel
theorem dX11_without_12 : decode cX11_without 12 = .ok (.iload_n 1, 1) := by decide +kernel
theorem dX11_without_13 : decode cX11_without 13 = .ok (.ishl, 1) := by decide +kernel
theorem dX11_without_14 : decode cX11_without 14 = .ok (.iconst (-1), 1) := by decide +kernel
theorem dX11_without_15 : decode cX11_without 15 = .ok (.ixor, 1) := by decide +kernel
theorem dX11_without_16 : decode cX11_without 16 = .ok (.iand, 1) := by decide +kernel
theorem dX11_without_17 : decode cX11_without 17 = .ok (.goto 4, 3) := by decide +kernel
theorem dX11_without_20 : decode cX11_without 20 = .ok (.iload_n 0, 1) := by decide +kernel
theorem dX11_without_21 : decode cX11_without 21 = .ok (.ireturn, 1) := by decide +kernel
def f_X11_without (S : Sh) (R : Rw) (I : Iw)  (x0 : Int32) (x1 : Int32) : Option (Int32) := (if x1 < 0 then some x0 else (if (9 : Int32) < x1 then some x0 else some (x0 &&& (((1 : Int32) <<< (x1 &&& 31)) ^^^ (-1 : Int32)))))
set_option maxHeartbeats 4000000 in
theorem b_X11_without {E : Ev} {p : Program} {l : Launch} {e : Env} {s : State} {m : MethodId} {args : Array Value} {below : List Frame} {meth : Method} {c : Code} (C : Cx E RX11 cX11_without 2 p s m c) (hr : meth.sig.returnType = (some .int)) (hk : meth.locks = false) {S : Sh} {R : Rw} {I : Iw} {r : Int32}  : ∀ (x0 : Int32) (x1 : Int32), f_X11_without S R I   x0 x1 = some r → Wk E 2 p l e ({ frames := 0, cells := 0, slots := 0, locals := 0 } : Room) s m args below meth c 0 0 (MQ below (Qw E S R I (some (.int r))) args s 0 0 (fun q => E.1 ≤ q)) 0 [(0, .int x0), (1, .int x1)] [] S R I := by
  intro x0 x1 h
  rw [f_X11_without] at h
  refine k_iloadn (pc := 0) C dX11_without_0 (i := 1) rfl 1 rfl ?_
  refine k_if_lt (pc := 1) C dX11_without_1 (tgt := 20) (by decide) (fun hc1 => ?_) (fun hc1 => ?_)
  · rw [if_pos hc1] at h
    refine k_iloadn (pc := 20) C dX11_without_20 (i := 0) rfl 0 rfl ?_
    have h := Option.some.inj h
    subst h
    exact k_iret (pc := 21) C hr hk dX11_without_21
  · rw [if_neg hc1] at h
    refine k_iloadn (pc := 4) C dX11_without_4 (i := 1) rfl 1 rfl ?_
    refine k_bipush (pc := 5) C (v := (9 : Int32)) dX11_without_5 (by decide) ?_
    refine k_icmp_gt (pc := 7) C dX11_without_7 (tgt := 20) (by decide) (fun hc2 => ?_) (fun hc2 => ?_)
    · rw [if_pos hc2] at h
      refine k_iloadn (pc := 20) C dX11_without_20 (i := 0) rfl 0 rfl ?_
      have h := Option.some.inj h
      subst h
      exact k_iret (pc := 21) C hr hk dX11_without_21
    · rw [if_neg hc2] at h
      refine k_iloadn (pc := 10) C dX11_without_10 (i := 0) rfl 0 rfl ?_
      refine k_iconst (pc := 11) C (v := (1 : Int32)) dX11_without_11 (by decide) ?_
      refine k_iloadn (pc := 12) C dX11_without_12 (i := 1) rfl 1 rfl ?_
      refine k_ishl (pc := 13) C dX11_without_13 ?_
      refine k_iconst (pc := 14) C (v := (-1 : Int32)) dX11_without_14 (by decide) ?_
      refine k_ixor (pc := 15) C dX11_without_15 ?_
      refine k_iand (pc := 16) C dX11_without_16 ?_
      refine k_goto (pc := 17) C dX11_without_17 (tgt := 21) (by decide) ?_
      have h := Option.some.inj h
      subst h
      exact k_iret (pc := 21) C hr hk dX11_without_21
theorem c_X11_without {E : Ev} {l : Launch} {S : Sh} {R : Rw} {I : Iw} {x0 : Int32} {x1 : Int32} {r : Int32} (h : f_X11_without S R I x0 x1 = some r) : Mt E l yX11_without cX11_without 2 (some .int) 0 0 [.int x0, .int x1] S R I S R I (some (.int r)) 0 0 := mt_of (by decide) (Nat.le_of_ble_eq_true rfl) (fun p e s m args below meth c C hr hk hn => b_X11_without C hr hk _ _ h)
