/-! J6_bitCount_0f7a4, X9_init, X1_init, X0_init, X9_ran, X2_init, X11_holds, X11_isBetween, X2_stateOf, X11_without -/
theorem dJ6_bitCount_0f7a4_0 : decode cJ6_bitCount_0f7a4 0 = .ok (.iload_n 0, 1) := by decide +kernel
theorem dJ6_bitCount_0f7a4_1 : decode cJ6_bitCount_0f7a4 1 = .ok (.iload_n 0, 1) := by decide +kernel
theorem dJ6_bitCount_0f7a4_2 : decode cJ6_bitCount_0f7a4 2 = .ok (.iconst 1, 1) := by decide +kernel
theorem dJ6_bitCount_0f7a4_3 : decode cJ6_bitCount_0f7a4 3 = .ok (.iushr, 1) := by decide +kernel
theorem dJ6_bitCount_0f7a4_4 : decode cJ6_bitCount_0f7a4 4 = .ok (.ldc_w 265, 3) := by decide +kernel
theorem dJ6_bitCount_0f7a4_7 : decode cJ6_bitCount_0f7a4 7 = .ok (.iand, 1) := by decide +kernel
theorem dJ6_bitCount_0f7a4_8 : decode cJ6_bitCount_0f7a4 8 = .ok (.isub, 1) := by decide +kernel
theorem dJ6_bitCount_0f7a4_9 : decode cJ6_bitCount_0f7a4 9 = .ok (.istore_n 0, 1) := by decide +kernel
theorem dJ6_bitCount_0f7a4_10 : decode cJ6_bitCount_0f7a4 10 = .ok (.iload_n 0, 1) := by decide +kernel
theorem dJ6_bitCount_0f7a4_11 : decode cJ6_bitCount_0f7a4 11 = .ok (.ldc_w 266, 3) := by decide +kernel
theorem dJ6_bitCount_0f7a4_14 : decode cJ6_bitCount_0f7a4 14 = .ok (.iand, 1) := by decide +kernel
theorem dJ6_bitCount_0f7a4_15 : decode cJ6_bitCount_0f7a4 15 = .ok (.iload_n 0, 1) := by decide +kernel
theorem dJ6_bitCount_0f7a4_16 : decode cJ6_bitCount_0f7a4 16 = .ok (.iconst 2, 1) := by decide +kernel
theorem dJ6_bitCount_0f7a4_17 : decode cJ6_bitCount_0f7a4 17 = .ok (.iushr, 1) := by decide +kernel
theorem dJ6_bitCount_0f7a4_18 : decode cJ6_bitCount_0f7a4 18 = .ok (.ldc_w 266, 3) := by decide +kernel
theorem dJ6_bitCount_0f7a4_21 : decode cJ6_bitCount_0f7a4 21 = .ok (.iand, 1) := by decide +kernel
theorem dJ6_bitCount_0f7a4_22 : decode cJ6_bitCount_0f7a4 22 = .ok (.iadd, 1) := by decide +kernel
theorem dJ6_bitCount_0f7a4_23 : decode cJ6_bitCount_0f7a4 23 = .ok (.istore_n 0, 1) := by decide +kernel
theorem dJ6_bitCount_0f7a4_24 : decode cJ6_bitCount_0f7a4 24 = .ok (.iload_n 0, 1) := by decide +kernel
theorem dJ6_bitCount_0f7a4_25 : decode cJ6_bitCount_0f7a4 25 = .ok (.iload_n 0, 1) := by decide +kernel
theorem dJ6_bitCount_0f7a4_26 : decode cJ6_bitCount_0f7a4 26 = .ok (.iconst 4, 1) := by decide +kernel
theorem dJ6_bitCount_0f7a4_27 : decode cJ6_bitCount_0f7a4 27 = .ok (.iushr, 1) := by decide +kernel
theorem dJ6_bitCount_0f7a4_28 : decode cJ6_bitCount_0f7a4 28 = .ok (.iadd, 1) := by decide +kernel
theorem dJ6_bitCount_0f7a4_29 : decode cJ6_bitCount_0f7a4 29 = .ok (.ldc_w 267, 3) := by decide +kernel
theorem dJ6_bitCount_0f7a4_32 : decode cJ6_bitCount_0f7a4 32 = .ok (.iand, 1) := by decide +kernel
theorem dJ6_bitCount_0f7a4_33 : decode cJ6_bitCount_0f7a4 33 = .ok (.istore_n 0, 1) := by decide +kernel
theorem dJ6_bitCount_0f7a4_34 : decode cJ6_bitCount_0f7a4 34 = .ok (.iload_n 0, 1) := by decide +kernel
theorem dJ6_bitCount_0f7a4_35 : decode cJ6_bitCount_0f7a4 35 = .ok (.iload_n 0, 1) := by decide +kernel
theorem dJ6_bitCount_0f7a4_36 : decode cJ6_bitCount_0f7a4 36 = .ok (.bipush 8, 2) := by decide +kernel
theorem dJ6_bitCount_0f7a4_38 : decode cJ6_bitCount_0f7a4 38 = .ok (.iushr, 1) := by decide +kernel
theorem dJ6_bitCount_0f7a4_39 : decode cJ6_bitCount_0f7a4 39 = .ok (.iadd, 1) := by decide +kernel
theorem dJ6_bitCount_0f7a4_40 : decode cJ6_bitCount_0f7a4 40 = .ok (.istore_n 0, 1) := by decide +kernel
theorem dJ6_bitCount_0f7a4_41 : decode cJ6_bitCount_0f7a4 41 = .ok (.iload_n 0, 1) := by decide +kernel
theorem dJ6_bitCount_0f7a4_42 : decode cJ6_bitCount_0f7a4 42 = .ok (.iload_n 0, 1) := by decide +kernel
theorem dJ6_bitCount_0f7a4_43 : decode cJ6_bitCount_0f7a4 43 = .ok (.bipush 16, 2) := by decide +kernel
theorem dJ6_bitCount_0f7a4_45 : decode cJ6_bitCount_0f7a4 45 = .ok (.iushr, 1) := by decide +kernel
theorem dJ6_bitCount_0f7a4_46 : decode cJ6_bitCount_0f7a4 46 = .ok (.iadd, 1) := by decide +kernel
theorem dJ6_bitCount_0f7a4_47 : decode cJ6_bitCount_0f7a4 47 = .ok (.istore_n 0, 1) := by decide +kernel
theorem dJ6_bitCount_0f7a4_48 : decode cJ6_bitCount_0f7a4 48 = .ok (.iload_n 0, 1) := by decide +kernel
theorem dJ6_bitCount_0f7a4_49 : decode cJ6_bitCount_0f7a4 49 = .ok (.bipush 63, 2) := by decide +kernel
theorem dJ6_bitCount_0f7a4_51 : decode cJ6_bitCount_0f7a4 51 = .ok (.iand, 1) := by decide +kernel
theorem dJ6_bitCount_0f7a4_52 : decode cJ6_bitCount_0f7a4 52 = .ok (.ireturn, 1) := by decide +kernel
def f_J6_bitCount_0f7a4 (S : Sh) (R : Rw) (I : Iw)  (x0 : Int32) : Option (Int32) := lt (x0 - (((x0.toUInt32 >>> ((1 : Int32).toUInt32 &&& Int32.toUInt32 31)).toInt32) &&& (1431655765 : Int32))) (fun y1 => lt ((y1 &&& (858993459 : Int32)) + (((y1.toUInt32 >>> ((2 : Int32).toUInt32 &&& Int32.toUInt32 31)).toInt32) &&& (858993459 : Int32))) (fun y2 => lt ((y2 + ((y2.toUInt32 >>> ((4 : Int32).toUInt32 &&& Int32.toUInt32 31)).toInt32)) &&& (252645135 : Int32)) (fun y3 => lt (y3 + ((y3.toUInt32 >>> ((8 : Int32).toUInt32 &&& Int32.toUInt32 31)).toInt32)) (fun y4 => lt (y4 + ((y4.toUInt32 >>> ((16 : Int32).toUInt32 &&& Int32.toUInt32 31)).toInt32)) (fun y5 => some (y5 &&& (63 : Int32)))))))
set_option maxHeartbeats 4000000 in
theorem b_J6_bitCount_0f7a4 {E : Ev} {p : Program} {l : Launch} {e : Env} {s : State} {m : MethodId} {args : Array Value} {below : List Frame} {meth : Method} {c : Code} (C : Cx E RJ6 cJ6_bitCount_0f7a4 1 p s m c) (hr : meth.sig.returnType = (some .int)) (hk : meth.locks = false) {S : Sh} {R : Rw} {I : Iw} {r : Int32}  : ∀ (x0 : Int32), f_J6_bitCount_0f7a4 S R I   x0 = some r → Wk E 1 p l e ({ frames := 0, cells := 0, slots := 0, locals := 0 } : Room) s m args below meth c 0 0 (MQ below (Qw E S R I (some (.int r))) args s 0 0 (fun q => E.1 ≤ q)) 0 [(0, .int x0)] [] S R I := by
  intro x0 h
  rw [f_J6_bitCount_0f7a4] at h
  refine k_iloadn (pc := 0) C dJ6_bitCount_0f7a4_0 (i := 0) rfl 0 rfl ?_
  refine k_iloadn (pc := 1) C dJ6_bitCount_0f7a4_1 (i := 0) rfl 0 rfl ?_
  refine k_iconst (pc := 2) C (v := (1 : Int32)) dJ6_bitCount_0f7a4_2 (by decide) ?_
  refine k_iushr (pc := 3) C dJ6_bitCount_0f7a4_3 ?_
  refine k_ldcw (pc := 4) C (v := (1431655765 : Int32)) dJ6_bitCount_0f7a4_4 (t3_in 93 (by decide +kernel) rfl) ?_
  refine k_iand (pc := 7) C dJ6_bitCount_0f7a4_7 ?_
  refine k_isub (pc := 8) C dJ6_bitCount_0f7a4_8 ?_
  obtain ⟨y1, ey1, h⟩ := lt_e h
  rw [← ey1]
  refine k_istoren (pc := 9) C dJ6_bitCount_0f7a4_9 (i := 0) rfl (by decide) (L2 := [(0, .int y1)]) rfl ?_
  refine k_iloadn (pc := 10) C dJ6_bitCount_0f7a4_10 (i := 0) rfl 0 rfl ?_
  refine k_ldcw (pc := 11) C (v := (858993459 : Int32)) dJ6_bitCount_0f7a4_11 (t3_in 94 (by decide +kernel) rfl) ?_
  refine k_iand (pc := 14) C dJ6_bitCount_0f7a4_14 ?_
  refine k_iloadn (pc := 15) C dJ6_bitCount_0f7a4_15 (i := 0) rfl 0 rfl ?_
  refine k_iconst (pc := 16) C (v := (2 : Int32)) dJ6_bitCount_0f7a4_16 (by decide) ?_
  refine k_iushr (pc := 17) C dJ6_bitCount_0f7a4_17 ?_
  refine k_ldcw (pc := 18) C (v := (858993459 : Int32)) dJ6_bitCount_0f7a4_18 (t3_in 94 (by decide +kernel) rfl) ?_
  refine k_iand (pc := 21) C dJ6_bitCount_0f7a4_21 ?_
  refine k_iadd (pc := 22) C dJ6_bitCount_0f7a4_22 ?_
  obtain ⟨y2, ey2, h⟩ := lt_e h
  rw [← ey2]
  refine k_istoren (pc := 23) C dJ6_bitCount_0f7a4_23 (i := 0) rfl (by decide) (L2 := [(0, .int y2)]) rfl ?_
  refine k_iloadn (pc := 24) C dJ6_bitCount_0f7a4_24 (i := 0) rfl 0 rfl ?_
  refine k_iloadn (pc := 25) C dJ6_bitCount_0f7a4_25 (i := 0) rfl 0 rfl ?_
  refine k_iconst (pc := 26) C (v := (4 : Int32)) dJ6_bitCount_0f7a4_26 (by decide) ?_
  refine k_iushr (pc := 27) C dJ6_bitCount_0f7a4_27 ?_
  refine k_iadd (pc := 28) C dJ6_bitCount_0f7a4_28 ?_
  refine k_ldcw (pc := 29) C (v := (252645135 : Int32)) dJ6_bitCount_0f7a4_29 (t3_in 95 (by decide +kernel) rfl) ?_
  refine k_iand (pc := 32) C dJ6_bitCount_0f7a4_32 ?_
  obtain ⟨y3, ey3, h⟩ := lt_e h
  rw [← ey3]
  refine k_istoren (pc := 33) C dJ6_bitCount_0f7a4_33 (i := 0) rfl (by decide) (L2 := [(0, .int y3)]) rfl ?_
  refine k_iloadn (pc := 34) C dJ6_bitCount_0f7a4_34 (i := 0) rfl 0 rfl ?_
  refine k_iloadn (pc := 35) C dJ6_bitCount_0f7a4_35 (i := 0) rfl 0 rfl ?_
  refine k_bipush (pc := 36) C (v := (8 : Int32)) dJ6_bitCount_0f7a4_36 (by decide) ?_
  refine k_iushr (pc := 38) C dJ6_bitCount_0f7a4_38 ?_
  refine k_iadd (pc := 39) C dJ6_bitCount_0f7a4_39 ?_
  obtain ⟨y4, ey4, h⟩ := lt_e h
  rw [← ey4]
  refine k_istoren (pc := 40) C dJ6_bitCount_0f7a4_40 (i := 0) rfl (by decide) (L2 := [(0, .int y4)]) rfl ?_
  refine k_iloadn (pc := 41) C dJ6_bitCount_0f7a4_41 (i := 0) rfl 0 rfl ?_
  refine k_iloadn (pc := 42) C dJ6_bitCount_0f7a4_42 (i := 0) rfl 0 rfl ?_
  refine k_bipush (pc := 43) C (v := (16 : Int32)) dJ6_bitCount_0f7a4_43 (by decide) ?_
  refine k_iushr (pc := 45) C dJ6_bitCount_0f7a4_45 ?_
  refine k_iadd (pc := 46) C dJ6_bitCount_0f7a4_46 ?_
  obtain ⟨y5, ey5, h⟩ := lt_e h
  rw [← ey5]
  refine k_istoren (pc := 47) C dJ6_bitCount_0f7a4_47 (i := 0) rfl (by decide) (L2 := [(0, .int y5)]) rfl ?_
  refine k_iloadn (pc := 48) C dJ6_bitCount_0f7a4_48 (i := 0) rfl 0 rfl ?_
  refine k_bipush (pc := 49) C (v := (63 : Int32)) dJ6_bitCount_0f7a4_49 (by decide) ?_
  refine k_iand (pc := 51) C dJ6_bitCount_0f7a4_51 ?_
  have h := Option.some.inj h
  subst h
  exact k_iret (pc := 52) C hr hk dJ6_bitCount_0f7a4_52
theorem c_J6_bitCount_0f7a4 {E : Ev} {l : Launch} {S : Sh} {R : Rw} {I : Iw} {x0 : Int32} {r : Int32} (h : f_J6_bitCount_0f7a4 S R I x0 = some r) : Mt E l yJ6_bitCount_0f7a4 cJ6_bitCount_0f7a4 1 (some .int) 0 0 [.int x0] S R I S R I (some (.int r)) 0 0 := mt_of (by decide) (Nat.le_of_ble_eq_true rfl) (fun p e s m args below meth c C hr hk hn => b_J6_bitCount_0f7a4 C hr hk _ h)
theorem lkQ_RX9_9_0 : LkQ RX9 9 0 2 (.array .int) := ⟨RX0, TX0, 5, "UnlikeNeighbours$Thing", fc0, by decide, (t4_in 107 (by decide +kernel) rfl), Or.inl rfl, rfl, rfl, by decide +kernel⟩
theorem lkQ_RX9_9_1 : LkQ RX9 9 1 2 (.array .int) := ⟨RX1, TX1, 5, "UnlikeNeighbours$Thing", fc1, by decide, (t4_in 107 (by decide +kernel) rfl), Or.inl rfl, rfl, rfl, by decide +kernel⟩
theorem lkQ_RX9_9_4 : LkQ RX9 9 4 2 (.array .int) := ⟨RX4, TX4, 5, "UnlikeNeighbours$Thing", fc4, by decide, (t4_in 107 (by decide +kernel) rfl), Or.inl rfl, rfl, rfl, by decide +kernel⟩
theorem lkQ_RX9_9_6 : LkQ RX9 9 6 2 (.array .int) := ⟨RX6, TX6, 5, "UnlikeNeighbours$Thing", fc6, by decide, (t4_in 107 (by decide +kernel) rfl), Or.inl rfl, rfl, rfl, by decide +kernel⟩
theorem lkQ_RX9_9_9 : LkQ RX9 9 9 2 (.array .int) := ⟨RX9, TX9, 5, "UnlikeNeighbours$Thing", fc9, by decide, (t4_in 107 (by decide +kernel) rfl), Or.inl rfl, rfl, rfl, by decide +kernel⟩
theorem lkQ_RX9_9_10 : LkQ RX9 9 10 2 (.array .int) := ⟨RX10, TX10, 5, "UnlikeNeighbours$Thing", fc10, by decide, (t4_in 107 (by decide +kernel) rfl), Or.inl rfl, rfl, rfl, by decide +kernel⟩
theorem lkQT_RX9_9 : ∀ ci : Nat, thc ci = true → LkQ RX9 9 ci 2 (.array .int) := th_all lkQ_RX9_9_0 lkQ_RX9_9_1 lkQ_RX9_9_4 lkQ_RX9_9_6 lkQ_RX9_9_9 lkQ_RX9_9_10
theorem lkQ_RX9_15_0 : LkQ RX9 15 0 0 .int := ⟨RX0, TX0, 5, "UnlikeNeighbours$Thing", fc0, by decide, (t4_in 97 (by decide +kernel) rfl), Or.inl rfl, rfl, rfl, by decide +kernel⟩
theorem lkQ_RX9_15_1 : LkQ RX9 15 1 0 .int := ⟨RX1, TX1, 5, "UnlikeNeighbours$Thing", fc1, by decide, (t4_in 97 (by decide +kernel) rfl), Or.inl rfl, rfl, rfl, by decide +kernel⟩
theorem lkQ_RX9_15_4 : LkQ RX9 15 4 0 .int := ⟨RX4, TX4, 5, "UnlikeNeighbours$Thing", fc4, by decide, (t4_in 97 (by decide +kernel) rfl), Or.inl rfl, rfl, rfl, by decide +kernel⟩
theorem lkQ_RX9_15_6 : LkQ RX9 15 6 0 .int := ⟨RX6, TX6, 5, "UnlikeNeighbours$Thing", fc6, by decide, (t4_in 97 (by decide +kernel) rfl), Or.inl rfl, rfl, rfl, by decide +kernel⟩
theorem lkQ_RX9_15_9 : LkQ RX9 15 9 0 .int := ⟨RX9, TX9, 5, "UnlikeNeighbours$Thing", fc9, by decide, (t4_in 97 (by decide +kernel) rfl), Or.inl rfl, rfl, rfl, by decide +kernel⟩
theorem lkQ_RX9_15_10 : LkQ RX9 15 10 0 .int := ⟨RX10, TX10, 5, "UnlikeNeighbours$Thing", fc10, by decide, (t4_in 97 (by decide +kernel) rfl), Or.inl rfl, rfl, rfl, by decide +kernel⟩
theorem lkQT_RX9_15 : ∀ ci : Nat, thc ci = true → LkQ RX9 15 ci 0 .int := th_all lkQ_RX9_15_0 lkQ_RX9_15_1 lkQ_RX9_15_4 lkQ_RX9_15_6 lkQ_RX9_15_9 lkQ_RX9_15_10
theorem lkQ_RX9_19_0 : LkQ RX9 19 0 1 .int := ⟨RX0, TX0, 5, "UnlikeNeighbours$Thing", fc0, by decide, (t4_in 100 (by decide +kernel) rfl), Or.inl rfl, rfl, rfl, by decide +kernel⟩
theorem lkQ_RX9_19_1 : LkQ RX9 19 1 1 .int := ⟨RX1, TX1, 5, "UnlikeNeighbours$Thing", fc1, by decide, (t4_in 100 (by decide +kernel) rfl), Or.inl rfl, rfl, rfl, by decide +kernel⟩
theorem lkQ_RX9_19_4 : LkQ RX9 19 4 1 .int := ⟨RX4, TX4, 5, "UnlikeNeighbours$Thing", fc4, by decide, (t4_in 100 (by decide +kernel) rfl), Or.inl rfl, rfl, rfl, by decide +kernel⟩
theorem lkQ_RX9_19_6 : LkQ RX9 19 6 1 .int := ⟨RX6, TX6, 5, "UnlikeNeighbours$Thing", fc6, by decide, (t4_in 100 (by decide +kernel) rfl), Or.inl rfl, rfl, rfl, by decide +kernel⟩
theorem lkQ_RX9_19_9 : LkQ RX9 19 9 1 .int := ⟨RX9, TX9, 5, "UnlikeNeighbours$Thing", fc9, by decide, (t4_in 100 (by decide +kernel) rfl), Or.inl rfl, rfl, rfl, by decide +kernel⟩
theorem lkQ_RX9_19_10 : LkQ RX9 19 10 1 .int := ⟨RX10, TX10, 5, "UnlikeNeighbours$Thing", fc10, by decide, (t4_in 100 (by decide +kernel) rfl), Or.inl rfl, rfl, rfl, by decide +kernel⟩
theorem lkQT_RX9_19 : ∀ ci : Nat, thc ci = true → LkQ RX9 19 ci 1 .int := th_all lkQ_RX9_19_0 lkQ_RX9_19_1 lkQ_RX9_19_4 lkQ_RX9_19_6 lkQ_RX9_19_9 lkQ_RX9_19_10
theorem dX9_init_0 : decode cX9_init 0 = .ok (.aload_n 0, 1) := by decide +kernel
theorem dX9_init_1 : decode cX9_init 1 = .ok (.invokespecial 3, 3) := by decide +kernel
theorem dX9_init_4 : decode cX9_init 4 = .ok (.aload_n 0, 1) := by decide +kernel
theorem dX9_init_5 : decode cX9_init 5 = .ok (.bipush 30, 2) := by decide +kernel
theorem dX9_init_7 : decode cX9_init 7 = .ok (.newarray .int, 2) := by decide +kernel
theorem dX9_init_9 : decode cX9_init 9 = .ok (.putfield 9, 3) := by decide +kernel
theorem dX9_init_12 : decode cX9_init 12 = .ok (.aload_n 0, 1) := by decide +kernel
theorem dX9_init_13 : decode cX9_init 13 = .ok (.iload_n 1, 1) := by decide +kernel
theorem dX9_init_14 : decode cX9_init 14 = .ok (.putfield 15, 3) := by decide +kernel
theorem dX9_init_17 : decode cX9_init 17 = .ok (.aload_n 0, 1) := by decide +kernel
theorem dX9_init_18 : decode cX9_init 18 = .ok (.iload_n 2, 1) := by decide +kernel
theorem dX9_init_19 : decode cX9_init 19 = .ok (.putfield 19, 3) := by decide +kernel
theorem dX9_init_22 : decode cX9_init 22 = .ok (.return_, 1) := by decide +kernel
def f_X9_init   (S : Sh) (R : Rw) (I : Iw) (a0 : Nat) (x1 : Int32) (x2 : Int32) : Option ((Sh × Rw × Iw)) := lt S.length (fun q1 => lt (S ++ [(20, 30)]) (fun S2 => lt (setA R q1 (fun _ => none)) (fun R3 => lt (setA I q1 (fun _ => 0)) (fun I4 => gp (thg S2 a0) (lt (up2 R3 a0 2 (some (.inl q1))) (fun R8 => lt (up2 I4 a0 0 x1) (fun I9 => lt (up2 I9 a0 1 x2) (fun I10 => some (S2, R8, I10)))))))))
set_option maxHeartbeats 4000000 in
theorem b_X9_init {E : Ev} {p : Program} {l : Launch} {e : Env} {s : State} {m : MethodId} {args : Array Value} {below : List Frame} {meth : Method} {c : Code} (C : Cx E RX9 cX9_init 3 p s m c) (hr : meth.sig.returnType = none) (hk : meth.locks = false) (hin : meth.name = "<init>") {r : (Sh × Rw × Iw)}  : ∀ (S : Sh) (R : Rw) (I : Iw) (a0 : Nat) (x1 : Int32) (x2 : Int32), f_X9_init    S R I a0 x1 x2 = some r → Wk E 3 p l e ({ frames := 1, cells := 1, slots := 30, locals := 20 } : Room) s m args below meth c 0 0 (MQ below (Qw E r.1 r.2.1 r.2.2 none) args s 1 30 (fun q => E.1 ≤ q)) 0 [(0, .ref (E.1 + a0)), (1, .int x1), (2, .int x2)] [] S R I := by
  intro S R I a0 x1 x2 h
  rw [f_X9_init] at h
  refine k_aloadn (pc := 0) C dX9_init_0 (i := 0) rfl 0 rfl ?_
  refine k_objInit (pc := 1) C (t4_in 96 (by decide +kernel) rfl) (t1_in 27 (by decide +kernel) rfl) (t1_in 28 (by decide +kernel) rfl) (Nat.le_of_ble_eq_true rfl) (Nat.le_of_ble_eq_true rfl) (Nat.le_of_ble_eq_true rfl) dX9_init_1 ?_
  refine k_aloadn (pc := 4) C dX9_init_4 (i := 0) rfl 0 rfl ?_
  refine k_bipush (pc := 5) C (v := (30 : Int32)) dX9_init_5 (by decide) ?_
  obtain ⟨q1, eq1, h⟩ := lt_e h
  obtain ⟨S2, eS2, h⟩ := lt_e h
  obtain ⟨R3, eR3, h⟩ := lt_e h
  obtain ⟨I4, eI4, h⟩ := lt_e h
  refine k_newa (pc := 7) C (t := 20) (N := 30) rfl (by decide) (t1_in 68 (by decide +kernel) rfl) (by decide) (by decide) (by decide) (Nat.le_of_ble_eq_true rfl) (Nat.le_of_ble_eq_true rfl) dX9_init_7 ?_
  rw [← eq1, ← eS2, ← eR3, ← eI4]
  refine k_nf (cells2 := 1) (slots2 := 30) (st2 := [.ref (E.1 + q1), .ref (E.1 + a0)]) rfl rfl rfl ?_
  obtain ⟨hs60, h⟩ := gp_e h
  obtain ⟨ci7, hs6t, hs6⟩ := thg_e hs60
  obtain ⟨R8, eR8, h⟩ := lt_e h
  refine k_putFR (pc := 9) C hin (lkQT_RX9_9 _ hs6t) hs6 (irT_2 _ hs6t) (fun _ => ⟨rfl, rfl⟩) dX9_init_9 ?_
  rw [← eR8]
  refine k_aloadn (pc := 12) C dX9_init_12 (i := 0) rfl 0 rfl ?_
  refine k_iloadn (pc := 13) C dX9_init_13 (i := 1) rfl 1 rfl ?_
  obtain ⟨I9, eI9, h⟩ := lt_e h
  refine k_putFI (pc := 14) C hin (lkQT_RX9_15 _ hs6t) hs6 (irT_0 _ hs6t) dX9_init_14 ?_
  rw [← eI9]
  refine k_aloadn (pc := 17) C dX9_init_17 (i := 0) rfl 0 rfl ?_
  refine k_iloadn (pc := 18) C dX9_init_18 (i := 2) rfl 2 rfl ?_
  obtain ⟨I10, eI10, h⟩ := lt_e h
  refine k_putFI (pc := 19) C hin (lkQT_RX9_19 _ hs6t) hs6 (irT_1 _ hs6t) dX9_init_19 ?_
  rw [← eI10]
  have h := Option.some.inj h
  subst h
  exact k_vret (pc := 22) C hr hk dX9_init_22
theorem c_X9_init {E : Ev} {l : Launch} {S : Sh} {R : Rw} {I : Iw} {a0 : Nat} {x1 : Int32} {x2 : Int32} {r : (Sh × Rw × Iw)} (h : f_X9_init S R I a0 x1 x2 = some r) : Mt E l yX9_init cX9_init 3 none 1 20 [.ref (E.1 + a0), .int x1, .int x2] S R I r.1 r.2.1 r.2.2 none 1 30 := mt_of (by decide) (Nat.le_of_ble_eq_true rfl) (fun p e s m args below meth c C hr hk hn => b_X9_init C hr hk hn _ _ _ _ _ _ h)
theorem lkI_RX1_1 : LkI RX1 1 yX9_init cX9_init 3 2 := ⟨(t4_in 131 (by decide +kernel) rfl), (t4_in 94 (by decide +kernel) rfl), (t4_in 95 (by decide +kernel) rfl), (t1_in 15 (by decide +kernel) rfl), rfl, by decide, by decide +kernel⟩
theorem dX1_init_0 : decode cX1_init 0 = .ok (.aload_n 0, 1) := by decide +kernel
theorem dX1_init_1 : decode cX1_init 1 = .ok (.iload_n 1, 1) := by decide +kernel
theorem dX1_init_2 : decode cX1_init 2 = .ok (.iload_n 2, 1) := by decide +kernel
theorem dX1_init_3 : decode cX1_init 3 = .ok (.invokespecial 1, 3) := by decide +kernel
theorem dX1_init_6 : decode cX1_init 6 = .ok (.return_, 1) := by decide +kernel
def f_X1_init   (S : Sh) (R : Rw) (I : Iw) (a0 : Nat) (x1 : Int32) (x2 : Int32) : Option ((Sh × Rw × Iw)) := bd (f_X9_init S R I a0 x1 x2) (fun r1 => some (r1.1, r1.2.1, r1.2.2))
set_option maxHeartbeats 4000000 in
theorem b_X1_init {E : Ev} {p : Program} {l : Launch} {e : Env} {s : State} {m : MethodId} {args : Array Value} {below : List Frame} {meth : Method} {c : Code} (C : Cx E RX1 cX1_init 3 p s m c) (hr : meth.sig.returnType = none) (hk : meth.locks = false) (hin : meth.name = "<init>") {r : (Sh × Rw × Iw)}  : ∀ (S : Sh) (R : Rw) (I : Iw) (a0 : Nat) (x1 : Int32) (x2 : Int32), f_X1_init    S R I a0 x1 x2 = some r → Wk E 3 p l e ({ frames := 2, cells := 1, slots := 30, locals := 42 } : Room) s m args below meth c 0 0 (MQ below (Qw E r.1 r.2.1 r.2.2 none) args s 1 30 (fun q => E.1 ≤ q)) 0 [(0, .ref (E.1 + a0)), (1, .int x1), (2, .int x2)] [] S R I := by
  intro S R I a0 x1 x2 h
  rw [f_X1_init] at h
  refine k_aloadn (pc := 0) C dX1_init_0 (i := 0) rfl 0 rfl ?_
  refine k_iloadn (pc := 1) C dX1_init_1 (i := 1) rfl 1 rfl ?_
  refine k_iloadn (pc := 2) C dX1_init_2 (i := 2) rfl 2 rfl ?_
  obtain ⟨r1, hr1, h⟩ := bd_e h
  refine k_I (pc := 3) (st := []) C (c_X9_init hr1) lkI_RX1_1 rfl rfl (Nat.le_of_ble_eq_true rfl) (Nat.le_of_ble_eq_true rfl) (Nat.le_of_ble_eq_true rfl) (Nat.le_of_ble_eq_true rfl) (Nat.le_of_ble_eq_true rfl) dX1_init_3 ?_
  refine k_nf (cells2 := 1) (slots2 := 30) (st2 := []) rfl rfl rfl ?_
  have h := Option.some.inj h
  subst h
  exact k_vret (pc := 6) C hr hk dX1_init_6
theorem c_X1_init {E : Ev} {l : Launch} {S : Sh} {R : Rw} {I : Iw} {a0 : Nat} {x1 : Int32} {x2 : Int32} {r : (Sh × Rw × Iw)} (h : f_X1_init S R I a0 x1 x2 = some r) : Mt E l yX1_init cX1_init 3 none 2 42 [.ref (E.1 + a0), .int x1, .int x2] S R I r.1 r.2.1 r.2.2 none 1 30 := mt_of (by decide) (Nat.le_of_ble_eq_true rfl) (fun p e s m args below meth c C hr hk hn => b_X1_init C hr hk hn _ _ _ _ _ _ h)
theorem lkI_RX0_1 : LkI RX0 1 yX1_init cX1_init 3 2 := ⟨(t4_in 143 (by decide +kernel) rfl), (t4_in 129 (by decide +kernel) rfl), (t4_in 130 (by decide +kernel) rfl), (t1_in 17 (by decide +kernel) rfl), rfl, by decide, by decide +kernel⟩
theorem dX0_init_0 : decode cX0_init 0 = .ok (.aload_n 0, 1) := by decide +kernel
theorem dX0_init_1 : decode cX0_init 1 = .ok (.iload_n 1, 1) := by decide +kernel
theorem dX0_init_2 : decode cX0_init 2 = .ok (.iload_n 2, 1) := by decide +kernel
theorem dX0_init_3 : decode cX0_init 3 = .ok (.invokespecial 1, 3) := by decide +kernel
theorem dX0_init_6 : decode cX0_init 6 = .ok (.return_, 1) := by decide +kernel
def f_X0_init   (S : Sh) (R : Rw) (I : Iw) (a0 : Nat) (x1 : Int32) (x2 : Int32) : Option ((Sh × Rw × Iw)) := bd (f_X1_init S R I a0 x1 x2) (fun r1 => some (r1.1, r1.2.1, r1.2.2))
set_option maxHeartbeats 4000000 in
theorem b_X0_init {E : Ev} {p : Program} {l : Launch} {e : Env} {s : State} {m : MethodId} {args : Array Value} {below : List Frame} {meth : Method} {c : Code} (C : Cx E RX0 cX0_init 3 p s m c) (hr : meth.sig.returnType = none) (hk : meth.locks = false) (hin : meth.name = "<init>") {r : (Sh × Rw × Iw)}  : ∀ (S : Sh) (R : Rw) (I : Iw) (a0 : Nat) (x1 : Int32) (x2 : Int32), f_X0_init    S R I a0 x1 x2 = some r → Wk E 3 p l e ({ frames := 3, cells := 1, slots := 30, locals := 64 } : Room) s m args below meth c 0 0 (MQ below (Qw E r.1 r.2.1 r.2.2 none) args s 1 30 (fun q => E.1 ≤ q)) 0 [(0, .ref (E.1 + a0)), (1, .int x1), (2, .int x2)] [] S R I := by
  intro S R I a0 x1 x2 h
  rw [f_X0_init] at h
  refine k_aloadn (pc := 0) C dX0_init_0 (i := 0) rfl 0 rfl ?_
  refine k_iloadn (pc := 1) C dX0_init_1 (i := 1) rfl 1 rfl ?_
  refine k_iloadn (pc := 2) C dX0_init_2 (i := 2) rfl 2 rfl ?_
  obtain ⟨r1, hr1, h⟩ := bd_e h
  refine k_I (pc := 3) (st := []) C (c_X1_init hr1) lkI_RX0_1 rfl rfl (Nat.le_of_ble_eq_true rfl) (Nat.le_of_ble_eq_true rfl) (Nat.le_of_ble_eq_true rfl) (Nat.le_of_ble_eq_true rfl) (Nat.le_of_ble_eq_true rfl) dX0_init_3 ?_
  refine k_nf (cells2 := 1) (slots2 := 30) (st2 := []) rfl rfl rfl ?_
  have h := Option.some.inj h
  subst h
  exact k_vret (pc := 6) C hr hk dX0_init_6
theorem c_X0_init {E : Ev} {l : Launch} {S : Sh} {R : Rw} {I : Iw} {a0 : Nat} {x1 : Int32} {x2 : Int32} {r : (Sh × Rw × Iw)} (h : f_X0_init S R I a0 x1 x2 = some r) : Mt E l yX0_init cX0_init 3 none 3 64 [.ref (E.1 + a0), .int x1, .int x2] S R I r.1 r.2.1 r.2.2 none 1 30 := mt_of (by decide) (Nat.le_of_ble_eq_true rfl) (fun p e s m args below meth c C hr hk hn => b_X0_init C hr hk hn _ _ _ _ _ _ h)
theorem lkF_RX9_22_0 : LkF RX9 22 0 3 := ⟨RX0, TX0, 5, "UnlikeNeighbours$Thing", fc0, by decide, (t4_in 109 (by decide +kernel) rfl), Or.inl rfl⟩
theorem lkF_RX9_22_1 : LkF RX9 22 1 3 := ⟨RX1, TX1, 5, "UnlikeNeighbours$Thing", fc1, by decide, (t4_in 109 (by decide +kernel) rfl), Or.inl rfl⟩
theorem lkF_RX9_22_4 : LkF RX9 22 4 3 := ⟨RX4, TX4, 5, "UnlikeNeighbours$Thing", fc4, by decide, (t4_in 109 (by decide +kernel) rfl), Or.inl rfl⟩
theorem lkF_RX9_22_6 : LkF RX9 22 6 3 := ⟨RX6, TX6, 5, "UnlikeNeighbours$Thing", fc6, by decide, (t4_in 109 (by decide +kernel) rfl), Or.inl rfl⟩
theorem lkF_RX9_22_9 : LkF RX9 22 9 3 := ⟨RX9, TX9, 5, "UnlikeNeighbours$Thing", fc9, by decide, (t4_in 109 (by decide +kernel) rfl), Or.inl rfl⟩
theorem lkF_RX9_22_10 : LkF RX9 22 10 3 := ⟨RX10, TX10, 5, "UnlikeNeighbours$Thing", fc10, by decide, (t4_in 109 (by decide +kernel) rfl), Or.inl rfl⟩
theorem lkFT_RX9_22 : ∀ ci : Nat, thc ci = true → LkF RX9 22 ci 3 := th_all lkF_RX9_22_0 lkF_RX9_22_1 lkF_RX9_22_4 lkF_RX9_22_6 lkF_RX9_22_9 lkF_RX9_22_10
theorem lkF_RX9_9_0 : LkF RX9 9 0 2 := ⟨RX0, TX0, 5, "UnlikeNeighbours$Thing", fc0, by decide, (t4_in 107 (by decide +kernel) rfl), Or.inl rfl⟩
theorem lkF_RX9_9_1 : LkF RX9 9 1 2 := ⟨RX1, TX1, 5, "UnlikeNeighbours$Thing", fc1, by decide, (t4_in 107 (by decide +kernel) rfl), Or.inl rfl⟩
theorem lkF_RX9_9_4 : LkF RX9 9 4 2 := ⟨RX4, TX4, 5, "UnlikeNeighbours$Thing", fc4, by decide, (t4_in 107 (by decide +kernel) rfl), Or.inl rfl⟩
theorem lkF_RX9_9_6 : LkF RX9 9 6 2 := ⟨RX6, TX6, 5, "UnlikeNeighbours$Thing", fc6, by decide, (t4_in 107 (by decide +kernel) rfl), Or.inl rfl⟩
theorem lkF_RX9_9_9 : LkF RX9 9 9 2 := ⟨RX9, TX9, 5, "UnlikeNeighbours$Thing", fc9, by decide, (t4_in 107 (by decide +kernel) rfl), Or.inl rfl⟩
theorem lkF_RX9_9_10 : LkF RX9 9 10 2 := ⟨RX10, TX10, 5, "UnlikeNeighbours$Thing", fc10, by decide, (t4_in 107 (by decide +kernel) rfl), Or.inl rfl⟩
theorem lkFT_RX9_9 : ∀ ci : Nat, thc ci = true → LkF RX9 9 ci 2 := th_all lkF_RX9_9_0 lkF_RX9_9_1 lkF_RX9_9_4 lkF_RX9_9_6 lkF_RX9_9_9 lkF_RX9_9_10
theorem lkP_RX9_22_0 : LkP RX9 22 0 3 .int := ⟨RX0, TX0, 5, "UnlikeNeighbours$Thing", fc0, by decide, (t4_in 109 (by decide +kernel) rfl), Or.inl rfl, rfl, by decide +kernel⟩
theorem lkP_RX9_22_1 : LkP RX9 22 1 3 .int := ⟨RX1, TX1, 5, "UnlikeNeighbours$Thing", fc1, by decide, (t4_in 109 (by decide +kernel) rfl), Or.inl rfl, rfl, by decide +kernel⟩
theorem lkP_RX9_22_4 : LkP RX9 22 4 3 .int := ⟨RX4, TX4, 5, "UnlikeNeighbours$Thing", fc4, by decide, (t4_in 109 (by decide +kernel) rfl), Or.inl rfl, rfl, by decide +kernel⟩
theorem lkP_RX9_22_6 : LkP RX9 22 6 3 .int := ⟨RX6, TX6, 5, "UnlikeNeighbours$Thing", fc6, by decide, (t4_in 109 (by decide +kernel) rfl), Or.inl rfl, rfl, by decide +kernel⟩
theorem lkP_RX9_22_9 : LkP RX9 22 9 3 .int := ⟨RX9, TX9, 5, "UnlikeNeighbours$Thing", fc9, by decide, (t4_in 109 (by decide +kernel) rfl), Or.inl rfl, rfl, by decide +kernel⟩
theorem lkP_RX9_22_10 : LkP RX9 22 10 3 .int := ⟨RX10, TX10, 5, "UnlikeNeighbours$Thing", fc10, by decide, (t4_in 109 (by decide +kernel) rfl), Or.inl rfl, rfl, by decide +kernel⟩
theorem lkPT_RX9_22 : ∀ ci : Nat, thc ci = true → LkP RX9 22 ci 3 .int := th_all lkP_RX9_22_0 lkP_RX9_22_1 lkP_RX9_22_4 lkP_RX9_22_6 lkP_RX9_22_9 lkP_RX9_22_10
theorem dX9_ran_0 : decode cX9_ran 0 = .ok (.aload_n 0, 1) := by decide +kernel
theorem dX9_ran_1 : decode cX9_ran 1 = .ok (.getfield 22, 3) := by decide +kernel
theorem dX9_ran_4 : decode cX9_ran 4 = .ok (.bipush 30, 2) := by decide +kernel
theorem dX9_ran_6 : decode cX9_ran 6 = .ok (.if_icmp .ge 23, 3) := by decide +kernel
theorem dX9_ran_9 : decode cX9_ran 9 = .ok (.aload_n 0, 1) := by decide +kernel
theorem dX9_ran_10 : decode cX9_ran 10 = .ok (.getfield 9, 3) := by decide +kernel
theorem dX9_ran_13 : decode cX9_ran 13 = .ok (.aload_n 0, 1) := by decide +kernel
theorem dX9_ran_14 : decode cX9_ran 14 = .ok (.getfield 22, 3) := by decide +kernel
theorem dX9_ran_17 : decode cX9_ran 17 = .ok (.iload_n 1, 1) := by decide +kernel
theorem dX9_ran_18 : decode cX9_ran 18 = .ok (.iastore, 1) := by decide +kernel
theorem dX9_ran_19 : decode cX9_ran 19 = .ok (.aload_n 0, 1) := by decide +kernel
theorem dX9_ran_20 : decode cX9_ran 20 = .ok (.dup, 1) := by decide +kernel
theorem dX9_ran_21 : decode cX9_ran 21 = .ok (.getfield 22, 3) := by decide +kernel
theorem dX9_ran_24 : decode cX9_ran 24 = .ok (.iconst 1, 1) := by decide +kernel
theorem dX9_ran_25 : decode cX9_ran 25 = .ok (.iadd, 1) := by decide +kernel
theorem dX9_ran_26 : decode cX9_ran 26 = .ok (.putfield 22, 3) := by decide +kernel
theorem dX9_ran_29 : decode cX9_ran 29 = .ok (.return_, 1) := by decide +kernel
def f_X9_ran (S : Sh) (R : Rw)  (I : Iw) (a0 : Nat) (x1 : Int32) : Option (Iw) := gp (thg S a0) ((if (30 : Int32) ≤ (I a0 3) then some I else rl (R a0 2) (fun b4 => gp (aok S 20 b4 (I a0 3)) (lt (up2 I b4 (I a0 3).toNatClampNeg x1) (fun I6 => lt (up2 I6 a0 3 ((I6 a0 3) + (1 : Int32))) (fun I7 => some I7))))))
set_option maxHeartbeats 4000000 in
theorem b_X9_ran {E : Ev} {p : Program} {l : Launch} {e : Env} {s : State} {m : MethodId} {args : Array Value} {below : List Frame} {meth : Method} {c : Code} (C : Cx E RX9 cX9_ran 2 p s m c) (hr : meth.sig.returnType = none) (hk : meth.locks = false) {S : Sh} {R : Rw} {r : Iw}  : ∀ (I : Iw) (a0 : Nat) (x1 : Int32), f_X9_ran S R   I a0 x1 = some r → Wk E 2 p l e ({ frames := 0, cells := 0, slots := 0, locals := 0 } : Room) s m args below meth c 0 0 (MQ below (Qw E S R r none) args s 0 0 (fun q => E.1 ≤ q)) 0 [(0, .ref (E.1 + a0)), (1, .int x1)] [] S R I := by
  intro I a0 x1 h
  rw [f_X9_ran] at h
  refine k_aloadn (pc := 0) C dX9_ran_0 (i := 0) rfl 0 rfl ?_
  obtain ⟨hs10, h⟩ := gp_e h
  obtain ⟨ci2, hs1t, hs1⟩ := thg_e hs10
  refine k_getI (pc := 1) C (lkFT_RX9_22 _ hs1t) hs1 (irT_3 _ hs1t) dX9_ran_1 ?_
  refine k_bipush (pc := 4) C (v := (30 : Int32)) dX9_ran_4 (by decide) ?_
  refine k_icmp_ge (pc := 6) C dX9_ran_6 (tgt := 29) (by decide) (fun hc3 => ?_) (fun hc3 => ?_)
  · rw [if_pos hc3] at h
    have h := Option.some.inj h
    subst h
    exact k_vret (pc := 29) C hr hk dX9_ran_29
  · rw [if_neg hc3] at h
    refine k_aloadn (pc := 9) C dX9_ran_9 (i := 0) rfl 0 rfl ?_
    obtain ⟨b4, hb4, h⟩ := rl_e h
    refine k_getR (pc := 10) C (lkFT_RX9_9 _ hs1t) hs1 (irT_2 _ hs1t) hb4 dX9_ran_10 ?_
    refine k_aloadn (pc := 13) C dX9_ran_13 (i := 0) rfl 0 rfl ?_
    refine k_getI (pc := 14) C (lkFT_RX9_22 _ hs1t) hs1 (irT_3 _ hs1t) dX9_ran_14 ?_
    refine k_iloadn (pc := 17) C dX9_ran_17 (i := 1) rfl 1 rfl ?_
    obtain ⟨ha5, h⟩ := gp_e h
    obtain ⟨I6, eI6, h⟩ := lt_e h
    refine k_iast (pc := 18) C ha5 dX9_ran_18 ?_
    rw [← eI6]
    refine k_aloadn (pc := 19) C dX9_ran_19 (i := 0) rfl 0 rfl ?_
    refine k_dup (pc := 20) C dX9_ran_20 rfl ?_
    refine k_getI (pc := 21) C (lkFT_RX9_22 _ hs1t) hs1 (irT_3 _ hs1t) dX9_ran_21 ?_
    refine k_iconst (pc := 24) C (v := (1 : Int32)) dX9_ran_24 (by decide) ?_
    refine k_iadd (pc := 25) C dX9_ran_25 ?_
    obtain ⟨I7, eI7, h⟩ := lt_e h
    refine k_putI (pc := 26) C (lkPT_RX9_22 _ hs1t) hs1 (irT_3 _ hs1t) dX9_ran_26 ?_
    rw [← eI7]
    have h := Option.some.inj h
    subst h
    exact k_vret (pc := 29) C hr hk dX9_ran_29
theorem c_X9_ran {E : Ev} {l : Launch} {S : Sh} {R : Rw} {I : Iw} {a0 : Nat} {x1 : Int32} {r : Iw} (h : f_X9_ran S R I a0 x1 = some r) : Mt E l yX9_ran cX9_ran 2 none 0 0 [.ref (E.1 + a0), .int x1] S R I S R r none 0 0 := mt_of (by decide) (Nat.le_of_ble_eq_true rfl) (fun p e s m args below meth c C hr hk hn => b_X9_ran C hr hk _ _ _ h)
theorem lkQ_RX2_11_2 : LkQ RX2 11 2 1 (.array .int) := ⟨RX2, TX2, 11, "UnlikeNeighbours$Orders", fc2, by decide, (t1_in 177 (by decide +kernel) rfl), Or.inl rfl, rfl, rfl, by decide +kernel⟩
theorem lkQ_RX2_15_2 : LkQ RX2 15 2 3 (.array .int) := ⟨RX2, TX2, 11, "UnlikeNeighbours$Orders", fc2, by decide, (t1_in 179 (by decide +kernel) rfl), Or.inl rfl, rfl, rfl, by decide +kernel⟩
theorem lkQ_RX2_18_2 : LkQ RX2 18 2 4 (.array .int) := ⟨RX2, TX2, 11, "UnlikeNeighbours$Orders", fc2, by decide, (t1_in 180 (by decide +kernel) rfl), Or.inl rfl, rfl, rfl, by decide +kernel⟩
theorem lkQ_RX2_21_2 : LkQ RX2 21 2 5 (.array .int) := ⟨RX2, TX2, 11, "UnlikeNeighbours$Orders", fc2, by decide, (t1_in 181 (by decide +kernel) rfl), Or.inl rfl, rfl, rfl, by decide +kernel⟩
theorem lkQ_RX2_24_2 : LkQ RX2 24 2 6 (.array .boolean) := ⟨RX2, TX2, 11, "UnlikeNeighbours$Orders", fc2, by decide, (t1_in 182 (by decide +kernel) rfl), Or.inl rfl, rfl, rfl, by decide +kernel⟩
theorem lkQ_RX2_28_2 : LkQ RX2 28 2 7 (.array .int) := ⟨RX2, TX2, 11, "UnlikeNeighbours$Orders", fc2, by decide, (t1_in 183 (by decide +kernel) rfl), Or.inl rfl, rfl, rfl, by decide +kernel⟩
theorem lkQ_RX2_31_2 : LkQ RX2 31 2 10 (.array .int) := ⟨RX2, TX2, 11, "UnlikeNeighbours$Orders", fc2, by decide, (t1_in 187 (by decide +kernel) rfl), Or.inl rfl, rfl, rfl, by decide +kernel⟩
theorem lkQ_RX2_34_2 : LkQ RX2 34 2 0 (.object "UnlikeNeighbours$Shed") := ⟨RX2, TX2, 11, "UnlikeNeighbours$Orders", fc2, by decide, (t1_in 176 (by decide +kernel) rfl), Or.inl rfl, rfl, rfl, by decide +kernel⟩
theorem dX2_init_0 : decode cX2_init 0 = .ok (.aload_n 0, 1) := by decide +kernel
theorem dX2_init_1 : decode cX2_init 1 = .ok (.invokespecial 5, 3) := by decide +kernel
theorem dX2_init_4 : decode cX2_init 4 = .ok (.aload_n 0, 1) := by decide +kernel
theorem dX2_init_5 : decode cX2_init 5 = .ok (.sipush 5120, 3) := by decide +kernel
theorem dX2_init_8 : decode cX2_init 8 = .ok (.newarray .int, 2) := by decide +kernel
theorem dX2_init_10 : decode cX2_init 10 = .ok (.putfield 11, 3) := by decide +kernel
theorem dX2_init_13 : decode cX2_init 13 = .ok (.aload_n 0, 1) := by decide +kernel
theorem dX2_init_14 : decode cX2_init 14 = .ok (.sipush 5120, 3) := by decide +kernel
theorem dX2_init_17 : decode cX2_init 17 = .ok (.newarray .int, 2) := by decide +kernel
theorem dX2_init_19 : decode cX2_init 19 = .ok (.putfield 15, 3) := by decide +kernel
theorem dX2_init_22 : decode cX2_init 22 = .ok (.aload_n 0, 1) := by decide +kernel
theorem dX2_init_23 : decode cX2_init 23 = .ok (.sipush 5120, 3) := by decide +kernel
theorem dX2_init_26 : decode cX2_init 26 = .ok (.newarray .int, 2) := by decide +kernel
theorem dX2_init_28 : decode cX2_init 28 = .ok (.putfield 18, 3) := by decide +kernel
theorem dX2_init_31 : decode cX2_init 31 = .ok (.aload_n 0, 1) := by decide +kernel
theorem dX2_init_32 : decode cX2_init 32 = .ok (.sipush 5120, 3) := by decide +kernel
theorem dX2_init_35 : decode cX2_init 35 = .ok (.newarray .int, 2) := by decide +kernel
theorem dX2_init_37 : decode cX2_init 37 = .ok (.putfield 21, 3) := by decide +kernel
theorem dX2_init_40 : decode cX2_init 40 = .ok (.aload_n 0, 1) := by decide +kernel
theorem dX2_init_41 : decode cX2_init 41 = .ok (.sipush 5120, 3) := by decide +kernel
theorem dX2_init_44 : decode cX2_init 44 = .ok (.newarray .boolean, 2) := by decide +kernel
theorem dX2_init_46 : decode cX2_init 46 = .ok (.putfield 24, 3) := by decide +kernel
theorem dX2_init_49 : decode cX2_init 49 = .ok (.aload_n 0, 1) := by decide +kernel
theorem dX2_init_50 : decode cX2_init 50 = .ok (.bipush 9, 2) := by decide +kernel
theorem dX2_init_52 : decode cX2_init 52 = .ok (.newarray .int, 2) := by decide +kernel
theorem dX2_init_54 : decode cX2_init 54 = .ok (.putfield 28, 3) := by decide +kernel
theorem dX2_init_57 : decode cX2_init 57 = .ok (.aload_n 0, 1) := by decide +kernel
theorem dX2_init_58 : decode cX2_init 58 = .ok (.bipush 9, 2) := by decide +kernel
theorem dX2_init_60 : decode cX2_init 60 = .ok (.newarray .int, 2) := by decide +kernel
theorem dX2_init_62 : decode cX2_init 62 = .ok (.putfield 31, 3) := by decide +kernel
theorem dX2_init_65 : decode cX2_init 65 = .ok (.aload_n 0, 1) := by decide +kernel
theorem dX2_init_66 : decode cX2_init 66 = .ok (.aload_n 1, 1) := by decide +kernel
theorem dX2_init_67 : decode cX2_init 67 = .ok (.putfield 34, 3) := by decide +kernel
theorem dX2_init_70 : decode cX2_init 70 = .ok (.return_, 1) := by decide +kernel
def f_X2_init   (S : Sh) (R : Rw) (I : Iw) (a0 : Nat) (a1 : Nat) : Option ((Sh × Rw × Iw)) := lt S.length (fun q1 => lt (S ++ [(20, 5120)]) (fun S2 => lt (setA R q1 (fun _ => none)) (fun R3 => lt (setA I q1 (fun _ => 0)) (fun I4 => gp (sok S2 a0 2 11) (lt (up2 R3 a0 1 (some (.inl q1))) (fun R7 => lt S2.length (fun q8 => lt (S2 ++ [(20, 5120)]) (fun S9 => lt (setA R7 q8 (fun _ => none)) (fun R10 => lt (setA I4 q8 (fun _ => 0)) (fun I11 => gp (sok S9 a0 2 11) (lt (up2 R10 a0 3 (some (.inl q8))) (fun R14 => lt S9.length (fun q15 => lt (S9 ++ [(20, 5120)]) (fun S16 => lt (setA R14 q15 (fun _ => none)) (fun R17 => lt (setA I11 q15 (fun _ => 0)) (fun I18 => gp (sok S16 a0 2 11) (lt (up2 R17 a0 4 (some (.inl q15))) (fun R21 => lt S16.length (fun q22 => lt (S16 ++ [(20, 5120)]) (fun S23 => lt (setA R21 q22 (fun _ => none)) (fun R24 => lt (setA I18 q22 (fun _ => 0)) (fun I25 => gp (sok S23 a0 2 11) (lt (up2 R24 a0 5 (some (.inl q22))) (fun R28 => lt S23.length (fun q29 => lt (S23 ++ [(22, 5120)]) (fun S30 => lt (setA R28 q29 (fun _ => none)) (fun R31 => lt (setA I25 q29 (fun _ => 0)) (fun I32 => gp (sok S30 a0 2 11) (lt (up2 R31 a0 6 (some (.inl q29))) (fun R35 => lt S30.length (fun q36 => lt (S30 ++ [(20, 9)]) (fun S37 => lt (setA R35 q36 (fun _ => none)) (fun R38 => lt (setA I32 q36 (fun _ => 0)) (fun I39 => gp (sok S37 a0 2 11) (lt (up2 R38 a0 7 (some (.inl q36))) (fun R42 => lt S37.length (fun q43 => lt (S37 ++ [(20, 9)]) (fun S44 => lt (setA R42 q43 (fun _ => none)) (fun R45 => lt (setA I39 q43 (fun _ => 0)) (fun I46 => gp (sok S44 a0 2 11) (lt (up2 R45 a0 10 (some (.inl q43))) (fun R49 => lt (up2 R49 a0 0 (some (.inl a1))) (fun R50 => some (S44, R50, I46))))))))))))))))))))))))))))))))))))))))))))
set_option maxHeartbeats 4000000 in
theorem b_X2_init {E : Ev} {p : Program} {l : Launch} {e : Env} {s : State} {m : MethodId} {args : Array Value} {below : List Frame} {meth : Method} {c : Code} (C : Cx E RX2 cX2_init 2 p s m c) (hr : meth.sig.returnType = none) (hk : meth.locks = false) (hin : meth.name = "<init>") {r : (Sh × Rw × Iw)}  : ∀ (S : Sh) (R : Rw) (I : Iw) (a0 : Nat) (a1 : Nat), f_X2_init    S R I a0 a1 = some r → Wk E 2 p l e ({ frames := 1, cells := 7, slots := 25618, locals := 20 } : Room) s m args below meth c 0 0 (MQ below (Qw E r.1 r.2.1 r.2.2 none) args s 7 25618 (fun q => E.1 ≤ q)) 0 [(0, .ref (E.1 + a0)), (1, .ref (E.1 + a1))] [] S R I := by
  intro S R I a0 a1 h
  rw [f_X2_init] at h
  refine k_aloadn (pc := 0) C dX2_init_0 (i := 0) rfl 0 rfl ?_
  refine k_objInit (pc := 1) C (t1_in 175 (by decide +kernel) rfl) (t1_in 27 (by decide +kernel) rfl) (t1_in 28 (by decide +kernel) rfl) (Nat.le_of_ble_eq_true rfl) (Nat.le_of_ble_eq_true rfl) (Nat.le_of_ble_eq_true rfl) dX2_init_1 ?_
  refine k_aloadn (pc := 4) C dX2_init_4 (i := 0) rfl 0 rfl ?_
  refine k_sipush (pc := 5) C (v := (5120 : Int32)) dX2_init_5 (by decide) ?_
  obtain ⟨q1, eq1, h⟩ := lt_e h
  obtain ⟨S2, eS2, h⟩ := lt_e h
  obtain ⟨R3, eR3, h⟩ := lt_e h
  obtain ⟨I4, eI4, h⟩ := lt_e h
  refine k_newa (pc := 8) C (t := 20) (N := 5120) rfl (by decide) (t1_in 68 (by decide +kernel) rfl) (by decide) (by decide) (by decide) (Nat.le_of_ble_eq_true rfl) (Nat.le_of_ble_eq_true rfl) dX2_init_8 ?_
  rw [← eq1, ← eS2, ← eR3, ← eI4]
  refine k_nf (cells2 := 1) (slots2 := 5120) (st2 := [.ref (E.1 + q1), .ref (E.1 + a0)]) rfl rfl rfl ?_
  obtain ⟨hs60, h⟩ := gp_e h
  have hs6 := sok_e hs60
  obtain ⟨R7, eR7, h⟩ := lt_e h
  refine k_putFR (pc := 10) C hin lkQ_RX2_11_2 hs6 ir_2_1 (fun _ => ⟨rfl, rfl⟩) dX2_init_10 ?_
  rw [← eR7]
  refine k_aloadn (pc := 13) C dX2_init_13 (i := 0) rfl 0 rfl ?_
  refine k_sipush (pc := 14) C (v := (5120 : Int32)) dX2_init_14 (by decide) ?_
  obtain ⟨q8, eq8, h⟩ := lt_e h
  obtain ⟨S9, eS9, h⟩ := lt_e h
  obtain ⟨R10, eR10, h⟩ := lt_e h
  obtain ⟨I11, eI11, h⟩ := lt_e h
  refine k_newa (pc := 17) C (t := 20) (N := 5120) rfl (by decide) (t1_in 68 (by decide +kernel) rfl) (by decide) (by decide) (by decide) (Nat.le_of_ble_eq_true rfl) (Nat.le_of_ble_eq_true rfl) dX2_init_17 ?_
  rw [← eq8, ← eS9, ← eR10, ← eI11]
  refine k_nf (cells2 := 2) (slots2 := 10240) (st2 := [.ref (E.1 + q8), .ref (E.1 + a0)]) rfl rfl rfl ?_
  obtain ⟨hs130, h⟩ := gp_e h
  have hs13 := sok_e hs130
  obtain ⟨R14, eR14, h⟩ := lt_e h
  refine k_putFR (pc := 19) C hin lkQ_RX2_15_2 hs13 ir_2_3 (fun _ => ⟨rfl, rfl⟩) dX2_init_19 ?_
  rw [← eR14]
  refine k_aloadn (pc := 22) C dX2_init_22 (i := 0) rfl 0 rfl ?_
  refine k_sipush (pc := 23) C (v := (5120 : Int32)) dX2_init_23 (by decide) ?_
  obtain ⟨q15, eq15, h⟩ := lt_e h
  obtain ⟨S16, eS16, h⟩ := lt_e h
  obtain ⟨R17, eR17, h⟩ := lt_e h
  obtain ⟨I18, eI18, h⟩ := lt_e h
  refine k_newa (pc := 26) C (t := 20) (N := 5120) rfl (by decide) (t1_in 68 (by decide +kernel) rfl) (by decide) (by decide) (by decide) (Nat.le_of_ble_eq_true rfl) (Nat.le_of_ble_eq_true rfl) dX2_init_26 ?_
  rw [← eq15, ← eS16, ← eR17, ← eI18]
  refine k_nf (cells2 := 3) (slots2 := 15360) (st2 := [.ref (E.1 + q15), .ref (E.1 + a0)]) rfl rfl rfl ?_
  obtain ⟨hs200, h⟩ := gp_e h
  have hs20 := sok_e hs200
  obtain ⟨R21, eR21, h⟩ := lt_e h
  refine k_putFR (pc := 28) C hin lkQ_RX2_18_2 hs20 ir_2_4 (fun _ => ⟨rfl, rfl⟩) dX2_init_28 ?_
  rw [← eR21]
  refine k_aloadn (pc := 31) C dX2_init_31 (i := 0) rfl 0 rfl ?_
  refine k_sipush (pc := 32) C (v := (5120 : Int32)) dX2_init_32 (by decide) ?_
  obtain ⟨q22, eq22, h⟩ := lt_e h
  obtain ⟨S23, eS23, h⟩ := lt_e h
  obtain ⟨R24, eR24, h⟩ := lt_e h
  obtain ⟨I25, eI25, h⟩ := lt_e h
  refine k_newa (pc := 35) C (t := 20) (N := 5120) rfl (by decide) (t1_in 68 (by decide +kernel) rfl) (by decide) (by decide) (by decide) (Nat.le_of_ble_eq_true rfl) (Nat.le_of_ble_eq_true rfl) dX2_init_35 ?_
  rw [← eq22, ← eS23, ← eR24, ← eI25]
  refine k_nf (cells2 := 4) (slots2 := 20480) (st2 := [.ref (E.1 + q22), .ref (E.1 + a0)]) rfl rfl rfl ?_
  obtain ⟨hs270, h⟩ := gp_e h
  have hs27 := sok_e hs270
  obtain ⟨R28, eR28, h⟩ := lt_e h
  refine k_putFR (pc := 37) C hin lkQ_RX2_21_2 hs27 ir_2_5 (fun _ => ⟨rfl, rfl⟩) dX2_init_37 ?_
  rw [← eR28]
  refine k_aloadn (pc := 40) C dX2_init_40 (i := 0) rfl 0 rfl ?_
  refine k_sipush (pc := 41) C (v := (5120 : Int32)) dX2_init_41 (by decide) ?_
  obtain ⟨q29, eq29, h⟩ := lt_e h
  obtain ⟨S30, eS30, h⟩ := lt_e h
  obtain ⟨R31, eR31, h⟩ := lt_e h
  obtain ⟨I32, eI32, h⟩ := lt_e h
  refine k_newa (pc := 44) C (t := 22) (N := 5120) rfl (by decide) (t1_in 212 (by decide +kernel) rfl) (by decide) (by decide) (by decide) (Nat.le_of_ble_eq_true rfl) (Nat.le_of_ble_eq_true rfl) dX2_init_44 ?_
  rw [← eq29, ← eS30, ← eR31, ← eI32]
  refine k_nf (cells2 := 5) (slots2 := 25600) (st2 := [.ref (E.1 + q29), .ref (E.1 + a0)]) rfl rfl rfl ?_
  obtain ⟨hs340, h⟩ := gp_e h
  have hs34 := sok_e hs340
  obtain ⟨R35, eR35, h⟩ := lt_e h
  refine k_putFR (pc := 46) C hin lkQ_RX2_24_2 hs34 ir_2_6 (fun _ => ⟨rfl, rfl⟩) dX2_init_46 ?_
  rw [← eR35]
  refine k_aloadn (pc := 49) C dX2_init_49 (i := 0) rfl 0 rfl ?_
  refine k_bipush (pc := 50) C (v := (9 : Int32)) dX2_init_50 (by decide) ?_
  obtain ⟨q36, eq36, h⟩ := lt_e h
  obtain ⟨S37, eS37, h⟩ := lt_e h
  obtain ⟨R38, eR38, h⟩ := lt_e h
  obtain ⟨I39, eI39, h⟩ := lt_e h
  refine k_newa (pc := 52) C (t := 20) (N := 9) rfl (by decide) (t1_in 68 (by decide +kernel) rfl) (by decide) (by decide) (by decide) (Nat.le_of_ble_eq_true rfl) (Nat.le_of_ble_eq_true rfl) dX2_init_52 ?_
  rw [← eq36, ← eS37, ← eR38, ← eI39]
  refine k_nf (cells2 := 6) (slots2 := 25609) (st2 := [.ref (E.1 + q36), .ref (E.1 + a0)]) rfl rfl rfl ?_
  obtain ⟨hs410, h⟩ := gp_e h
  have hs41 := sok_e hs410
  obtain ⟨R42, eR42, h⟩ := lt_e h
  refine k_putFR (pc := 54) C hin lkQ_RX2_28_2 hs41 ir_2_7 (fun _ => ⟨rfl, rfl⟩) dX2_init_54 ?_
  rw [← eR42]
  refine k_aloadn (pc := 57) C dX2_init_57 (i := 0) rfl 0 rfl ?_
  refine k_bipush (pc := 58) C (v := (9 : Int32)) dX2_init_58 (by decide) ?_
  obtain ⟨q43, eq43, h⟩ := lt_e h
  obtain ⟨S44, eS44, h⟩ := lt_e h
  obtain ⟨R45, eR45, h⟩ := lt_e h
  obtain ⟨I46, eI46, h⟩ := lt_e h
  refine k_newa (pc := 60) C (t := 20) (N := 9) rfl (by decide) (t1_in 68 (by decide +kernel) rfl) (by decide) (by decide) (by decide) (Nat.le_of_ble_eq_true rfl) (Nat.le_of_ble_eq_true rfl) dX2_init_60 ?_
  rw [← eq43, ← eS44, ← eR45, ← eI46]
  refine k_nf (cells2 := 7) (slots2 := 25618) (st2 := [.ref (E.1 + q43), .ref (E.1 + a0)]) rfl rfl rfl ?_
  obtain ⟨hs480, h⟩ := gp_e h
  have hs48 := sok_e hs480
  obtain ⟨R49, eR49, h⟩ := lt_e h
  refine k_putFR (pc := 62) C hin lkQ_RX2_31_2 hs48 ir_2_10 (fun _ => ⟨rfl, rfl⟩) dX2_init_62 ?_
  rw [← eR49]
  refine k_aloadn (pc := 65) C dX2_init_65 (i := 0) rfl 0 rfl ?_
  refine k_aloadn (pc := 66) C dX2_init_66 (i := 1) rfl 1 rfl ?_
  obtain ⟨R50, eR50, h⟩ := lt_e h
  refine k_putFR (pc := 67) C hin lkQ_RX2_34_2 hs48 ir_2_0 (fun _ => ⟨rfl, rfl⟩) dX2_init_67 ?_
  rw [← eR50]
  have h := Option.some.inj h
  subst h
  exact k_vret (pc := 70) C hr hk dX2_init_70
theorem c_X2_init {E : Ev} {l : Launch} {S : Sh} {R : Rw} {I : Iw} {a0 : Nat} {a1 : Nat} {r : (Sh × Rw × Iw)} (h : f_X2_init S R I a0 a1 = some r) : Mt E l yX2_init cX2_init 2 none 1 20 [.ref (E.1 + a0), .ref (E.1 + a1)] S R I r.1 r.2.1 r.2.2 none 7 25618 := mt_of (by decide) (Nat.le_of_ble_eq_true rfl) (fun p e s m args below meth c C hr hk hn => b_X2_init C hr hk hn _ _ _ _ _ h)
theorem dX11_holds_0 : decode cX11_holds 0 = .ok (.iload_n 1, 1) := by decide +kernel
theorem dX11_holds_1 : decode cX11_holds 1 = .ok (.ifCond .lt 22, 3) := by decide +kernel
theorem dX11_holds_4 : decode cX11_holds 4 = .ok (.iload_n 1, 1) := by decide +kernel
theorem dX11_holds_5 : decode cX11_holds 5 = .ok (.bipush 9, 2) := by decide +kernel
theorem dX11_holds_7 : decode cX11_holds 7 = .ok (.if_icmp .gt 16, 3) := by decide +kernel
theorem dX11_holds_10 : decode cX11_holds 10 = .ok (.iload_n 0, 1) := by decide +kernel
theorem dX11_holds_11 : decode cX11_holds 11 = .ok (.iload_n 1, 1) := by decide +kernel
theorem dX11_holds_12 : decode cX11_holds 12 = .ok (.ishr, 1) := by decide +kernel
theorem dX11_holds_13 : decode cX11_holds 13 = .ok (.iconst 1, 1) := by decide +kernel
theorem dX11_holds_14 : decode cX11_holds 14 = .ok (.iand, 1) := by decide +kernel
theorem dX11_holds_15 : decode cX11_holds 15 = .ok (.iconst 1, 1) := by decide +kernel
theorem dX11_holds_16 : decode cX11_holds 16 = .ok (.if_icmp .ne 7, 3) := by decide +kernel
theorem dX11_holds_19 : decode cX11_holds 19 = .ok (.iconst 1, 1) := by decide +kernel
theorem dX11_holds_20 : decode cX11_holds 20 = .ok (.goto 4, 3) := by decide +kernel
theorem dX11_holds_23 : decode cX11_holds 23 = .ok (.iconst 0, 1) := by decide +kernel
theorem dX11_holds_24 : decode cX11_holds 24 = .ok (.ireturn, 1) := by decide +kernel
def f_X11_holds (S : Sh) (R : Rw) (I : Iw)  (x0 : Int32) (x1 : Int32) : Option (Int32) := (if x1 < 0 then some (0 : Int32) else (if (9 : Int32) < x1 then some (0 : Int32) else (if ((x0 >>> (x1 &&& 31)) &&& (1 : Int32)) = (1 : Int32) then some (1 : Int32) else some (0 : Int32))))
set_option maxHeartbeats 4000000 in
theorem b_X11_holds {E : Ev} {p : Program} {l : Launch} {e : Env} {s : State} {m : MethodId} {args : Array Value} {below : List Frame} {meth : Method} {c : Code} (C : Cx E RX11 cX11_holds 2 p s m c) (hr : meth.sig.returnType = (some .boolean)) (hk : meth.locks = false) {S : Sh} {R : Rw} {I : Iw} {r : Int32}  : ∀ (x0 : Int32) (x1 : Int32), f_X11_holds S R I   x0 x1 = some r → Wk E 2 p l e ({ frames := 0, cells := 0, slots := 0, locals := 0 } : Room) s m args below meth c 0 0 (MQ below (Qw E S R I (some (.int r))) args s 0 0 (fun q => E.1 ≤ q)) 0 [(0, .int x0), (1, .int x1)] [] S R I := by
  intro x0 x1 h
  rw [f_X11_holds] at h
  refine k_iloadn (pc := 0) C dX11_holds_0 (i := 1) rfl 1 rfl ?_
  refine k_if_lt (pc := 1) C dX11_holds_1 (tgt := 23) (by decide) (fun hc1 => ?_) (fun hc1 => ?_)
  · rw [if_pos hc1] at h
    refine k_iconst (pc := 23) C (v := (0 : Int32)) dX11_holds_23 (by decide) ?_
    have h := Option.some.inj h
    subst h
    exact k_zret (pc := 24) C hr hk (Or.inl rfl) dX11_holds_24
  · rw [if_neg hc1] at h
    refine k_iloadn (pc := 4) C dX11_holds_4 (i := 1) rfl 1 rfl ?_
    refine k_bipush (pc := 5) C (v := (9 : Int32)) dX11_holds_5 (by decide) ?_
    refine k_icmp_gt (pc := 7) C dX11_holds_7 (tgt := 23) (by decide) (fun hc2 => ?_) (fun hc2 => ?_)
    · rw [if_pos hc2] at h
      refine k_iconst (pc := 23) C (v := (0 : Int32)) dX11_holds_23 (by decide) ?_
      have h := Option.some.inj h
      subst h
      exact k_zret (pc := 24) C hr hk (Or.inl rfl) dX11_holds_24
    · rw [if_neg hc2] at h
      refine k_iloadn (pc := 10) C dX11_holds_10 (i := 0) rfl 0 rfl ?_
      refine k_iloadn (pc := 11) C dX11_holds_11 (i := 1) rfl 1 rfl ?_
      refine k_ishr (pc := 12) C dX11_holds_12 ?_
      refine k_iconst (pc := 13) C (v := (1 : Int32)) dX11_holds_13 (by decide) ?_
      refine k_iand (pc := 14) C dX11_holds_14 ?_
      refine k_iconst (pc := 15) C (v := (1 : Int32)) dX11_holds_15 (by decide) ?_
      refine k_icmp_ne (pc := 16) C dX11_holds_16 (tgt := 23) (by decide) (fun hc3 => ?_) (fun hc3 => ?_)
      · rw [if_neg hc3] at h
        refine k_iconst (pc := 23) C (v := (0 : Int32)) dX11_holds_23 (by decide) ?_
        have h := Option.some.inj h
        subst h
        exact k_zret (pc := 24) C hr hk (Or.inl rfl) dX11_holds_24
      · rw [if_pos hc3] at h
        refine k_iconst (pc := 19) C (v := (1 : Int32)) dX11_holds_19 (by decide) ?_
        refine k_goto (pc := 20) C dX11_holds_20 (tgt := 24) (by decide) ?_
        have h := Option.some.inj h
        subst h
        exact k_zret (pc := 24) C hr hk (Or.inr rfl) dX11_holds_24
theorem c_X11_holds {E : Ev} {l : Launch} {S : Sh} {R : Rw} {I : Iw} {x0 : Int32} {x1 : Int32} {r : Int32} (h : f_X11_holds S R I x0 x1 = some r) : Mt E l yX11_holds cX11_holds 2 (some .boolean) 0 0 [.int x0, .int x1] S R I S R I (some (.int r)) 0 0 := mt_of (by decide) (Nat.le_of_ble_eq_true rfl) (fun p e s m args below meth c C hr hk hn => b_X11_holds C hr hk _ _ h)
theorem dX11_isBetween_0 : decode cX11_isBetween 0 = .ok (.iload_n 0, 1) := by decide +kernel
theorem dX11_isBetween_1 : decode cX11_isBetween 1 = .ok (.iload_n 1, 1) := by decide +kernel
theorem dX11_isBetween_2 : decode cX11_isBetween 2 = .ok (.if_icmp .lt 12, 3) := by decide +kernel
theorem dX11_isBetween_5 : decode cX11_isBetween 5 = .ok (.iload_n 0, 1) := by decide +kernel
theorem dX11_isBetween_6 : decode cX11_isBetween 6 = .ok (.iload_n 2, 1) := by decide +kernel
theorem dX11_isBetween_7 : decode cX11_isBetween 7 = .ok (.if_icmp .gt 7, 3) := by decide +kernel
theorem dX11_isBetween_10 : decode cX11_isBetween 10 = .ok (.iconst 1, 1) := by decide +kernel
theorem dX11_isBetween_11 : decode cX11_isBetween 11 = .ok (.goto 4, 3) := by decide +kernel
theorem dX11_isBetween_14 : decode cX11_isBetween 14 = .ok (.iconst 0, 1) := by decide +kernel
theorem dX11_isBetween_15 : decode cX11_isBetween 15 = .ok (.ireturn, 1) := by decide +kernel
def f_X11_isBetween (S : Sh) (R : Rw) (I : Iw)  (x0 : Int32) (x1 : Int32) (x2 : Int32) : Option (Int32) := (if x0 < x1 then some (0 : Int32) else (if x2 < x0 then some (0 : Int32) else some (1 : Int32)))
set_option maxHeartbeats 4000000 in
theorem b_X11_isBetween {E : Ev} {p : Program} {l : Launch} {e : Env} {s : State} {m : MethodId} {args : Array Value} {below : List Frame} {meth : Method} {c : Code} (C : Cx E RX11 cX11_isBetween 3 p s m c) (hr : meth.sig.returnType = (some .boolean)) (hk : meth.locks = false) {S : Sh} {R : Rw} {I : Iw} {r : Int32}  : ∀ (x0 : Int32) (x1 : Int32) (x2 : Int32), f_X11_isBetween S R I   x0 x1 x2 = some r → Wk E 3 p l e ({ frames := 0, cells := 0, slots := 0, locals := 0 } : Room) s m args below meth c 0 0 (MQ below (Qw E S R I (some (.int r))) args s 0 0 (fun q => E.1 ≤ q)) 0 [(0, .int x0), (1, .int x1), (2, .int x2)] [] S R I := by
  intro x0 x1 x2 h
  rw [f_X11_isBetween] at h
  refine k_iloadn (pc := 0) C dX11_isBetween_0 (i := 0) rfl 0 rfl ?_
  refine k_iloadn (pc := 1) C dX11_isBetween_1 (i := 1) rfl 1 rfl ?_
  refine k_icmp_lt (pc := 2) C dX11_isBetween_2 (tgt := 14) (by decide) (fun hc1 => ?_) (fun hc1 => ?_)
  · rw [if_pos hc1] at h
    refine k_iconst (pc := 14) C (v := (0 : Int32)) dX11_isBetween_14 (by decide) ?_
    have h := Option.some.inj h
    subst h
    exact k_zret (pc := 15) C hr hk (Or.inl rfl) dX11_isBetween_15
  · rw [if_neg hc1] at h
    refine k_iloadn (pc := 5) C dX11_isBetween_5 (i := 0) rfl 0 rfl ?_
    refine k_iloadn (pc := 6) C dX11_isBetween_6 (i := 2) rfl 2 rfl ?_
    refine k_icmp_gt (pc := 7) C dX11_isBetween_7 (tgt := 14) (by decide) (fun hc2 => ?_) (fun hc2 => ?_)
    · rw [if_pos hc2] at h
      refine k_iconst (pc := 14) C (v := (0 : Int32)) dX11_isBetween_14 (by decide) ?_
      have h := Option.some.inj h
      subst h
      exact k_zret (pc := 15) C hr hk (Or.inl rfl) dX11_isBetween_15
    · rw [if_neg hc2] at h
      refine k_iconst (pc := 10) C (v := (1 : Int32)) dX11_isBetween_10 (by decide) ?_
      refine k_goto (pc := 11) C dX11_isBetween_11 (tgt := 15) (by decide) ?_
      have h := Option.some.inj h
      subst h
      exact k_zret (pc := 15) C hr hk (Or.inr rfl) dX11_isBetween_15
theorem c_X11_isBetween {E : Ev} {l : Launch} {S : Sh} {R : Rw} {I : Iw} {x0 : Int32} {x1 : Int32} {x2 : Int32} {r : Int32} (h : f_X11_isBetween S R I x0 x1 x2 = some r) : Mt E l yX11_isBetween cX11_isBetween 3 (some .boolean) 0 0 [.int x0, .int x1, .int x2] S R I S R I (some (.int r)) 0 0 := mt_of (by decide) (Nat.le_of_ble_eq_true rfl) (fun p e s m args below meth c C hr hk hn => b_X11_isBetween C hr hk _ _ _ h)
theorem lkSN_RX2_103 : LkSN RX2 103 yX11_isBetween "UnlikeNeighbours" cX11_isBetween 3 (some .boolean) 3 := ⟨l3_in 105 (by decide +kernel), (t2_in 35 (by decide +kernel) rfl), (t2_in 36 (by decide +kernel) rfl), (t1_in 1 (by decide +kernel) rfl), by decide, by decide +kernel⟩
theorem dX2_stateOf_0 : decode cX2_stateOf 0 = .ok (.iload_n 0, 1) := by decide +kernel
theorem dX2_stateOf_1 : decode cX2_stateOf 1 = .ok (.bipush 10, 2) := by decide +kernel
theorem dX2_stateOf_3 : decode cX2_stateOf 3 = .ok (.imul, 1) := by decide +kernel
theorem dX2_stateOf_4 : decode cX2_stateOf 4 = .ok (.iload_n 1, 1) := by decide +kernel
theorem dX2_stateOf_5 : decode cX2_stateOf 5 = .ok (.iadd, 1) := by decide +kernel
theorem dX2_stateOf_6 : decode cX2_stateOf 6 = .ok (.iconst 1, 1) := by decide +kernel
theorem dX2_stateOf_7 : decode cX2_stateOf 7 = .ok (.iadd, 1) := by decide +kernel
theorem dX2_stateOf_8 : decode cX2_stateOf 8 = .ok (.istore_n 2, 1) := by decide +kernel
theorem dX2_stateOf_9 : decode cX2_stateOf 9 = .ok (.iload_n 2, 1) := by decide +kernel
theorem dX2_stateOf_10 : decode cX2_stateOf 10 = .ok (.iconst 0, 1) := by decide +kernel
theorem dX2_stateOf_11 : decode cX2_stateOf 11 = .ok (.sipush 5119, 3) := by decide +kernel
theorem dX2_stateOf_14 : decode cX2_stateOf 14 = .ok (.invokestatic 103, 3) := by decide +kernel
theorem dX2_stateOf_17 : decode cX2_stateOf 17 = .ok (.ifCond .eq 7, 3) := by decide +kernel
theorem dX2_stateOf_20 : decode cX2_stateOf 20 = .ok (.iload_n 2, 1) := by decide +kernel
theorem dX2_stateOf_21 : decode cX2_stateOf 21 = .ok (.goto 4, 3) := by decide +kernel
theorem dX2_stateOf_24 : decode cX2_stateOf 24 = .ok (.iconst 0, 1) := by decide +kernel
theorem dX2_stateOf_25 : decode cX2_stateOf 25 = .ok (.ireturn, 1) := by decide +kernel
def f_X2_stateOf (S : Sh) (R : Rw) (I : Iw)  (x0 : Int32) (x1 : Int32) : Option (Int32) := bd (f_X11_isBetween S R I (((x0 * (10 : Int32)) + x1) + (1 : Int32)) (0 : Int32) (5119 : Int32)) (fun r1 => (if r1 = 0 then some (0 : Int32) else some (((x0 * (10 : Int32)) + x1) + (1 : Int32))))
set_option maxHeartbeats 4000000 in
theorem b_X2_stateOf {E : Ev} {p : Program} {l : Launch} {e : Env} {s : State} {m : MethodId} {args : Array Value} {below : List Frame} {meth : Method} {c : Code} (C : Cx E RX2 cX2_stateOf 3 p s m c) (hr : meth.sig.returnType = (some .int)) (hk : meth.locks = false) {S : Sh} {R : Rw} {I : Iw} {r : Int32}  : ∀ (x0 : Int32) (x1 : Int32), f_X2_stateOf S R I   x0 x1 = some r → Wk E 3 p l e ({ frames := 1, cells := 0, slots := 0, locals := 22 } : Room) s m args below meth c 0 0 (MQ below (Qw E S R I (some (.int r))) args s 0 0 (fun q => E.1 ≤ q)) 0 [(0, .int x0), (1, .int x1)] [] S R I := by
  intro x0 x1 h
  rw [f_X2_stateOf] at h
  refine k_iloadn (pc := 0) C dX2_stateOf_0 (i := 0) rfl 0 rfl ?_
  refine k_bipush (pc := 1) C (v := (10 : Int32)) dX2_stateOf_1 (by decide) ?_
  refine k_imul (pc := 3) C dX2_stateOf_3 ?_
  refine k_iloadn (pc := 4) C dX2_stateOf_4 (i := 1) rfl 1 rfl ?_
  refine k_iadd (pc := 5) C dX2_stateOf_5 ?_
  refine k_iconst (pc := 6) C (v := (1 : Int32)) dX2_stateOf_6 (by decide) ?_
  refine k_iadd (pc := 7) C dX2_stateOf_7 ?_
  refine k_istoren (pc := 8) C dX2_stateOf_8 (i := 2) rfl (by decide) (L2 := [(0, .int x0), (1, .int x1), (2, .int (((x0 * (10 : Int32)) + x1) + (1 : Int32)))]) rfl ?_
  refine k_iloadn (pc := 9) C dX2_stateOf_9 (i := 2) rfl 2 rfl ?_
  refine k_iconst (pc := 10) C (v := (0 : Int32)) dX2_stateOf_10 (by decide) ?_
  refine k_sipush (pc := 11) C (v := (5119 : Int32)) dX2_stateOf_11 (by decide) ?_
  obtain ⟨r1, hr1, h⟩ := bd_e h
  refine k_SN (pc := 14) (st := []) C (c_X11_isBetween hr1) lkSN_RX2_103 rfl rfl (Nat.le_of_ble_eq_true rfl) (Nat.le_of_ble_eq_true rfl) (Nat.le_of_ble_eq_true rfl) (Nat.le_of_ble_eq_true rfl) (Nat.le_of_ble_eq_true rfl) dX2_stateOf_14 ?_
  refine k_nf (cells2 := 0) (slots2 := 0) (st2 := [.int r1]) rfl rfl rfl ?_
  refine k_if_eq (pc := 17) C dX2_stateOf_17 (tgt := 24) (by decide) (fun hc2 => ?_) (fun hc2 => ?_)
  · rw [if_pos hc2] at h
    refine k_iconst (pc := 24) C (v := (0 : Int32)) dX2_stateOf_24 (by decide) ?_
    have h := Option.some.inj h
    subst h
    exact k_iret (pc := 25) C hr hk dX2_stateOf_25
  · rw [if_neg hc2] at h
    refine k_iloadn (pc := 20) C dX2_stateOf_20 (i := 2) rfl 2 rfl ?_
    refine k_goto (pc := 21) C dX2_stateOf_21 (tgt := 25) (by decide) ?_
    have h := Option.some.inj h
    subst h
    exact k_iret (pc := 25) C hr hk dX2_stateOf_25
theorem c_X2_stateOf {E : Ev} {l : Launch} {S : Sh} {R : Rw} {I : Iw} {x0 : Int32} {x1 : Int32} {r : Int32} (h : f_X2_stateOf S R I x0 x1 = some r) : Mt E l yX2_stateOf cX2_stateOf 3 (some .int) 1 22 [.int x0, .int x1] S R I S R I (some (.int r)) 0 0 := mt_of (by decide) (Nat.le_of_ble_eq_true rfl) (fun p e s m args below meth c C hr hk hn => b_X2_stateOf C hr hk _ _ h)
theorem dX11_without_0 : decode cX11_without 0 = .ok (.iload_n 1, 1) := by decide +kernel
theorem dX11_without_1 : decode cX11_without 1 = .ok (.ifCond .lt 19, 3) := by decide +kernel
theorem dX11_without_4 : decode cX11_without 4 = .ok (.iload_n 1, 1) := by decide +kernel
theorem dX11_without_5 : decode cX11_without 5 = .ok (.bipush 9, 2) := by decide +kernel
theorem dX11_without_7 : decode cX11_without 7 = .ok (.if_icmp .gt 13, 3) := by decide +kernel
theorem dX11_without_10 : decode cX11_without 10 = .ok (.iload_n 0, 1) := by decide +kernel
theorem dX11_without_11 : decode cX11_without 11 = .ok (.iconst 1, 1) := by decide +kernel
theorem dX11_without_12 : decode cX11_without 12 = .ok (.iload_n 1, 1) := by decide +kernel
theorem dX11_without_13 : decode cX11_without 13 = .ok (.ishl, 1) := by decide +kernel
theorem dX11_without_14 : decode cX11_without 14 = .ok (.iconst (-1), 1) := by decide +kernel
theorem dX11_without_15 : decode cX11_without 15 = .ok (.ixor, 1) := by decide +kernel
theorem dX11_without_16 : decode cX11_without 16 = .ok (.iand, 1) := by decide +kernel
theorem dX11_without_17 : decode cX11_without 17 = .ok (.goto 4, 3) := by decide +kernel
theorem dX11_without_20 : decode cX11_without 20 = .ok (.iload_n 0, 1) := by decide +kernel
theorem dX11_without_21 : decode cX11_without 21 = .ok (.ireturn, 1) := by decide +kernel
def f_X11_without (S : Sh) (R : Rw) (I : Iw)  (x0 : Int32) (x1 : Int32) : Option (Int32) := (if x1 < 0 then some x0 else (if (9 : Int32) < x1 then some x0 else some (x0 &&& (((1 : Int32) <<< (x1 &&& 31)) ^^^ (-1 : Int32)))))
set_option maxHeartbeats 4000000 in
theorem b_X11_without {E : Ev} {p : Program} {l : Launch} {e : Env} {s : State} {m : MethodId} {args : Array Value} {below : List Frame} {meth : Method} {c : Code} (C : Cx E RX11 cX11_without 2 p s m c) (hr : meth.sig.returnType = (some .int)) (hk : meth.locks = false) {S : Sh} {R : Rw} {I : Iw} {r : Int32}  : ∀ (x0 : Int32) (x1 : Int32), f_X11_without S R I   x0 x1 = some r → Wk E 2 p l e ({ frames := 0, cells := 0, slots := 0, locals := 0 } : Room) s m args below meth c 0 0 (MQ below (Qw E S R I (some (.int r))) args s 0 0 (fun q => E.1 ≤ q)) 0 [(0, .int x0), (1, .int x1)] [] S R I := by
  intro x0 x1 h
  rw [f_X11_without] at h
  refine k_iloadn (pc := 0) C dX11_without_0 (i := 1) rfl 1 rfl ?_
  refine k_if_lt (pc := 1) C dX11_without_1 (tgt := 20) (by decide) (fun hc1 => ?_) (fun hc1 => ?_)
  · rw [if_pos hc1] at h
    refine k_iloadn (pc := 20) C dX11_without_20 (i := 0) rfl 0 rfl ?_
    have h := Option.some.inj h
    subst h
    exact k_iret (pc := 21) C hr hk dX11_without_21
  · rw [if_neg hc1] at h
    refine k_iloadn (pc := 4) C dX11_without_4 (i := 1) rfl 1 rfl ?_
    refine k_bipush (pc := 5) C (v := (9 : Int32)) dX11_without_5 (by decide) ?_
    refine k_icmp_gt (pc := 7) C dX11_without_7 (tgt := 20) (by decide) (fun hc2 => ?_) (fun hc2 => ?_)
    · rw [if_pos hc2] at h
      refine k_iloadn (pc := 20) C dX11_without_20 (i := 0) rfl 0 rfl ?_
      have h := Option.some.inj h
      subst h
      exact k_iret (pc := 21) C hr hk dX11_without_21
    · rw [if_neg hc2] at h
      refine k_iloadn (pc := 10) C dX11_without_10 (i := 0) rfl 0 rfl ?_
      refine k_iconst (pc := 11) C (v := (1 : Int32)) dX11_without_11 (by decide) ?_
      refine k_iloadn (pc := 12) C dX11_without_12 (i := 1) rfl 1 rfl ?_
      refine k_ishl (pc := 13) C dX11_without_13 ?_
      refine k_iconst (pc := 14) C (v := (-1 : Int32)) dX11_without_14 (by decide) ?_
      refine k_ixor (pc := 15) C dX11_without_15 ?_
      refine k_iand (pc := 16) C dX11_without_16 ?_
      refine k_goto (pc := 17) C dX11_without_17 (tgt := 21) (by decide) ?_
      have h := Option.some.inj h
      subst h
      exact k_iret (pc := 21) C hr hk dX11_without_21
theorem c_X11_without {E : Ev} {l : Launch} {S : Sh} {R : Rw} {I : Iw} {x0 : Int32} {x1 : Int32} {r : Int32} (h : f_X11_without S R I x0 x1 = some r) : Mt E l yX11_without cX11_without 2 (some .int) 0 0 [.int x0, .int x1] S R I S R I (some (.int r)) 0 0 := mt_of (by decide) (Nat.le_of_ble_eq_true rfl) (fun p e s m args below meth c C hr hk hn => b_X11_without C hr hk _ _ h)
