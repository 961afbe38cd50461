/-! J6_bitCount_0f7a4, X9_init, X1_init, X0_init, X9_ran, X9_weighs, X0_weighs, X10_weighs, X9_splits, X6_splits, X4_splits -/
theorem dJ6_bitCount_0f7a4_0 : decode cJ6_bitCount_0f7a4 0 = .ok (.iload_n 0, 1) := by decide +kernel
theorem dJ6_bitCount_0f7a4_1 : decode cJ6_bitCount_0f7a4 1 = .ok (.iload_n 0, 1) := by decide +kernel
theorem dJ6_bitCount_0f7a4_2 : decode cJ6_bitCount_0f7a4 2 = .ok (.iconst 1, 1) := by decide +kernel
theorem dJ6_bitCount_0f7a4_3 : decode cJ6_bitCount_0f7a4 3 = .ok (.iushr, 1) := by decide +kernel
theorem dJ6_bitCount_0f7a4_4 : decode cJ6_bitCount_0f7a4 4 = .ok (.ldc_w 265, 3) := by decide +kernel
theorem dJ6_bitCount_0f7a4_7 : decode cJ6_bitCount_0f7a4 7 = .ok (.iand, 1) := by decide +kernel
theorem dJ6_bitCount_0f7a4_8 : decode cJ6_bitCount_0f7a4 8 = .ok (.isub, 1) := by decide +kernel
theorem dJ6_bitCount_0f7a4_9 : decode cJ6_bitCount_0f7a4 9 = .ok (.istore_n 0, 1) := by decide +kernel
theorem dJ6_bitCount_0f7a4_10 : decode cJ6_bitCount_0f7a4 10 = .ok (.iload_n 0, 1) := by decide +kernel
theorem dJ6_bitCount_0f7a4_11 : decode cJ6_bitCount_0f7a4 11 = .ok (.ldc_w 266, 3) := by decide +kernel
theorem dJ6_bitCount_0f7a4_14 : decode cJ6_bitCount_0f7a4 14 = .ok (.iand, 1) := by decide +kernel
theorem dJ6_bitCount_0f7a4_15 : decode cJ6_bitCount_0f7a4 15 = .ok (.iload_n 0, 1) := by decide +kernel
theorem dJ6_bitCount_0f7a4_16 : decode cJ6_bitCount_0f7a4 16 = .ok (.iconst 2, 1) := by decide +kernel
theorem dJ6_bitCount_0f7a4_17 : decode cJ6_bitCount_0f7a4 17 = .ok (.iushr, 1) := by decide +kernel
theorem dJ6_bitCount_0f7a4_18 : decode cJ6_bitCount_0f7a4 18 = .ok (.ldc_w 266, 3) := by decide +kernel
theorem dJ6_bitCount_0f7a4_21 : decode cJ6_bitCount_0f7a4 21 = .ok (.iand, 1) := by decide +kernel
theorem dJ6_bitCount_0f7a4_22 : decode cJ6_bitCount_0f7a4 22 = .ok (.iadd, 1) := by decide +kernel
theorem dJ6_bitCount_0f7a4_23 : decode cJ6_bitCount_0f7a4 23 = .ok (.istore_n 0, 1) := by decide +kernel
theorem dJ6_bitCount_0f7a4_24 : decode cJ6_bitCount_0f7a4 24 = .ok (.iload_n 0, 1) := by decide +kernel
theorem dJ6_bitCount_0f7a4_25 : decode cJ6_bitCount_0f7a4 25 = .ok (.iload_n 0, 1) := by decide +kernel
theorem dJ6_bitCount_0f7a4_26 : decode cJ6_bitCount_0f7a4 26 = .ok (.iconst 4, 1) := by decide +kernel
theorem dJ6_bitCount_0f7a4_27 : decode cJ6_bitCount_0f7a4 27 = .ok (.iushr, 1) := by decide +kernel
theorem dJ6_bitCount_0f7a4_28 : decode cJ6_bitCount_0f7a4 28 = .ok (.iadd, 1) := by decide +kernel
theorem dJ6_bitCount_0f7a4_29 : decode cJ6_bitCount_0f7a4 29 = .ok (.ldc_w 267, 3) := by decide +kernel
theorem dJ6_bitCount_0f7a4_32 : decode cJ6_bitCount_0f7a4 32 = .ok (.iand, 1) := by decide +kernel
theorem dJ6_bitCount_0f7a4_33 : decode cJ6_bitCount_0f7a4 33 = .ok (.istore_n 0, 1) := by decide +kernel
theorem dJ6_bitCount_0f7a4_34 : decode cJ6_bitCount_0f7a4 34 = .ok (.iload_n 0, 1) := by decide +kernel
theorem dJ6_bitCount_0f7a4_35 : decode cJ6_bitCount_0f7a4 35 = .ok (.iload_n 0, 1) := by decide +kernel
theorem dJ6_bitCount_0f7a4_36 : decode cJ6_bitCount_0f7a4 36 = .ok (.bipush 8, 2) := by decide +kernel
theorem dJ6_bitCount_0f7a4_38 : decode cJ6_bitCount_0f7a4 38 = .ok (.iushr, 1) := by decide +kernel
theorem dJ6_bitCount_0f7a4_39 : decode cJ6_bitCount_0f7a4 39 = .ok (.iadd, 1) := by decide +kernel
theorem dJ6_bitCount_0f7a4_40 : decode cJ6_bitCount_0f7a4 40 = .ok (.istore_n 0, 1) := by decide +kernel
theorem dJ6_bitCount_0f7a4_41 : decode cJ6_bitCount_0f7a4 41 = .ok (.iload_n 0, 1) := by decide +kernel
theorem dJ6_bitCount_0f7a4_42 : decode cJ6_bitCount_0f7a4 42 = .ok (.iload_n 0, 1) := by decide +kernel
theorem dJ6_bitCount_0f7a4_43 : decode cJ6_bitCount_0f7a4 43 = .ok (.bipush 16, 2) := by decide +kernel
theorem dJ6_bitCount_0f7a4_45 : decode cJ6_bitCount_0f7a4 45 = .ok (.iushr, 1) := by decide +kernel
theorem dJ6_bitCount_0f7a4_46 : decode cJ6_bitCount_0f7a4 46 = .ok (.iadd, 1) := by decide +kernel
theorem dJ6_bitCount_0f7a4_47 : decode cJ6_bitCount_0f7a4 47 = .ok (.istore_n 0, 1) := by decide +kernel
theorem dJ6_bitCount_0f7a4_48 : decode cJ6_bitCount_0f7a4 48 = .ok (.iload_n 0, 1) := by decide +kernel
theorem dJ6_bitCount_0f7a4_49 : decode cJ6_bitCount_0f7a4 49 = .ok (.bipush 63, 2) := by decide +kernel
theorem dJ6_bitCount_0f7a4_51 : decode cJ6_bitCount_0f7a4 51 = .ok (.iand, 1) := by decide +kernel
theorem dJ6_bitCount_0f7a4_52 : decode cJ6_bitCount_0f7a4 52 = .ok (.ireturn, 1) := by decide +kernel
def f_J6_bitCount_0f7a4 (S : Sh) (R : Rw) (I : Iw)  (x0 : Int32) : Option (Int32) := lt (x0 - (((x0.toUInt32 >>> ((1 : Int32).toUInt32 &&& Int32.toUInt32 31)).toInt32) &&& (1431655765 : Int32))) (fun y1 => lt ((y1 &&& (858993459 : Int32)) + (((y1.toUInt32 >>> ((2 : Int32).toUInt32 &&& Int32.toUInt32 31)).toInt32) &&& (858993459 : Int32))) (fun y2 => lt ((y2 + ((y2.toUInt32 >>> ((4 : Int32).toUInt32 &&& Int32.toUInt32 31)).toInt32)) &&& (252645135 : Int32)) (fun y3 => lt (y3 + ((y3.toUInt32 >>> ((8 : Int32).toUInt32 &&& Int32.toUInt32 31)).toInt32)) (fun y4 => lt (y4 + ((y4.toUInt32 >>> ((16 : Int32).toUInt32 &&& Int32.toUInt32 31)).toInt32)) (fun y5 => some (y5 &&& (63 : Int32)))))))
set_option maxHeartbeats 4000000 in
theorem b_J6_bitCount_0f7a4 {E : Ev} {p : Program} {l : Launch} {e : Env} {s : State} {m : MethodId} {args : Array Value} {below : List Frame} {meth : Method} {c : Code} (C : Cx E RJ6 cJ6_bitCount_0f7a4 1 p s m c) (hr : meth.sig.returnType = (some .int)) (hk : meth.locks = false) {S : Sh} {R : Rw} {I : Iw} {r : Int32}  : ∀ (x0 : Int32), f_J6_bitCount_0f7a4 S R I   x0 = some r → Wk E 1 p l e ({ frames := 0, cells := 0, slots := 0, locals := 0 } : Room) s m args below meth c 0 0 (MQ below (Qw E S R I (some (.int r))) args s 0 0 (fun q => E.1 ≤ q)) 0 [(0, .int x0)] [] S R I := by
  intro x0 h
  rw [f_J6_bitCount_0f7a4] at h
  refine k_iloadn (pc := 0) C dJ6_bitCount_0f7a4_0 (i := 0) rfl 0 rfl ?_
  refine k_iloadn (pc := 1) C dJ6_bitCount_0f7a4_1 (i := 0) rfl 0 rfl ?_
  refine k_iconst (pc := 2) C (v := (1 : Int32)) dJ6_bitCount_0f7a4_2 (by decide) ?_
  refine k_iushr (pc := 3) C dJ6_bitCount_0f7a4_3 ?_
  refine k_ldcw (pc := 4) C (v := (1431655765 : Int32)) dJ6_bitCount_0f7a4_4 (t3_in 93 (by decide +kernel) rfl) ?_
  refine k_iand (pc := 7) C dJ6_bitCount_0f7a4_7 ?_
  refine k_isub (pc := 8) C dJ6_bitCount_0f7a4_8 ?_
  obtain ⟨y1, ey1, h⟩ := lt_e h
  rw [← ey1]
  refine k_istoren (pc := 9) C dJ6_bitCount_0f7a4_9 (i := 0) rfl (by decide) (L2 := [(0, .int y1)]) rfl ?_
  refine k_iloadn (pc := 10) C dJ6_bitCount_0f7a4_10 (i := 0) rfl 0 rfl ?_
  refine k_ldcw (pc := 11) C (v := (858993459 : Int32)) dJ6_bitCount_0f7a4_11 (t3_in 94 (by decide +kernel) rfl) ?_
  refine k_iand (pc := 14) C dJ6_bitCount_0f7a4_14 ?_
  refine k_iloadn (pc := 15) C dJ6_bitCount_0f7a4_15 (i := 0) rfl 0 rfl ?_
  refine k_iconst (pc := 16) C (v := (2 : Int32)) dJ6_bitCount_0f7a4_16 (by decide) ?_
  refine k_iushr (pc := 17) C dJ6_bitCount_0f7a4_17 ?_
  refine k_ldcw (pc := 18) C (v := (858993459 : Int32)) dJ6_bitCount_0f7a4_18 (t3_in 94 (by decide +kernel) rfl) ?_
  refine k_iand (pc := 21) C dJ6_bitCount_0f7a4_21 ?_
  refine k_iadd (pc := 22) C dJ6_bitCount_0f7a4_22 ?_
  obtain ⟨y2, ey2, h⟩ := lt_e h
  rw [← ey2]
  refine k_istoren (pc := 23) C dJ6_bitCount_0f7a4_23 (i := 0) rfl (by decide) (L2 := [(0, .int y2)]) rfl ?_
  refine k_iloadn (pc := 24) C dJ6_bitCount_0f7a4_24 (i := 0) rfl 0 rfl ?_
  refine k_iloadn (pc := 25) C dJ6_bitCount_0f7a4_25 (i := 0) rfl 0 rfl ?_
  refine k_iconst (pc := 26) C (v := (4 : Int32)) dJ6_bitCount_0f7a4_26 (by decide) ?_
  refine k_iushr (pc := 27) C dJ6_bitCount_0f7a4_27 ?_
  refine k_iadd (pc := 28) C dJ6_bitCount_0f7a4_28 ?_
  refine k_ldcw (pc := 29) C (v := (252645135 : Int32)) dJ6_bitCount_0f7a4_29 (t3_in 95 (by decide +kernel) rfl) ?_
  refine k_iand (pc := 32) C dJ6_bitCount_0f7a4_32 ?_
  obtain ⟨y3, ey3, h⟩ := lt_e h
  rw [← ey3]
  refine k_istoren (pc := 33) C dJ6_bitCount_0f7a4_33 (i := 0) rfl (by decide) (L2 := [(0, .int y3)]) rfl ?_
  refine k_iloadn (pc := 34) C dJ6_bitCount_0f7a4_34 (i := 0) rfl 0 rfl ?_
  refine k_iloadn (pc := 35) C dJ6_bitCount_0f7a4_35 (i := 0) rfl 0 rfl ?_
  refine k_bipush (pc := 36) C (v := (8 : Int32)) dJ6_bitCount_0f7a4_36 (by decide) ?_
  refine k_iushr (pc := 38) C dJ6_bitCount_0f7a4_38 ?_
  refine k_iadd (pc := 39) C dJ6_bitCount_0f7a4_39 ?_
  obtain ⟨y4, ey4, h⟩ := lt_e h
  rw [← ey4]
  refine k_istoren (pc := 40) C dJ6_bitCount_0f7a4_40 (i := 0) rfl (by decide) (L2 := [(0, .int y4)]) rfl ?_
  refine k_iloadn (pc := 41) C dJ6_bitCount_0f7a4_41 (i := 0) rfl 0 rfl ?_
  refine k_iloadn (pc := 42) C dJ6_bitCount_0f7a4_42 (i := 0) rfl 0 rfl ?_
  refine k_bipush (pc := 43) C (v := (16 : Int32)) dJ6_bitCount_0f7a4_43 (by decide) ?_
  refine k_iushr (pc := 45) C dJ6_bitCount_0f7a4_45 ?_
  refine k_iadd (pc := 46) C dJ6_bitCount_0f7a4_46 ?_
  obtain ⟨y5, ey5, h⟩ := lt_e h
  rw [← ey5]
  refine k_istoren (pc := 47) C dJ6_bitCount_0f7a4_47 (i := 0) rfl (by decide) (L2 := [(0, .int y5)]) rfl ?_
  refine k_iloadn (pc := 48) C dJ6_bitCount_0f7a4_48 (i := 0) rfl 0 rfl ?_
  refine k_bipush (pc := 49) C (v := (63 : Int32)) dJ6_bitCount_0f7a4_49 (by decide) ?_
  refine k_iand (pc := 51) C dJ6_bitCount_0f7a4_51 ?_
  have h := Option.some.inj h
  subst h
  exact k_iret (pc := 52) C hr hk dJ6_bitCount_0f7a4_52
theorem c_J6_bitCount_0f7a4 {E : Ev} {l : Launch} {S : Sh} {R : Rw} {I : Iw} {x0 : Int32} {r : Int32} (h : f_J6_bitCount_0f7a4 S R I x0 = some r) : Mt E l yJ6_bitCount_0f7a4 cJ6_bitCount_0f7a4 1 (some .int) 0 0 [.int x0] S R I S R I (some (.int r)) 0 0 := mt_of (by decide) (Nat.le_of_ble_eq_true rfl) (fun p e s m args below meth c C hr hk hn => b_J6_bitCount_0f7a4 C hr hk _ h)
theorem lkQ_RX9_9_0 : LkQ RX9 9 0 2 (.array .int) := ⟨RX0, TX0, 5, "UnlikeNeighbours$Thing", fc0, by decide, (t4_in 107 (by decide +kernel) rfl), Or.inl rfl, rfl, rfl, by decide +kernel⟩
theorem lkQ_RX9_9_1 : LkQ RX9 9 1 2 (.array .int) := ⟨RX1, TX1, 5, "UnlikeNeighbours$Thing", fc1, by decide, (t4_in 107 (by decide +kernel) rfl), Or.inl rfl, rfl, rfl, by decide +kernel⟩
theorem lkQ_RX9_9_4 : LkQ RX9 9 4 2 (.array .int) := ⟨RX4, TX4, 5, "UnlikeNeighbours$Thing", fc4, by decide, (t4_in 107 (by decide +kernel) rfl), Or.inl rfl, rfl, rfl, by decide +kernel⟩
theorem lkQ_RX9_9_6 : LkQ RX9 9 6 2 (.array .int) := ⟨RX6, TX6, 5, "UnlikeNeighbours$Thing", fc6, by decide, (t4_in 107 (by decide +kernel) rfl), Or.inl rfl, rfl, rfl, by decide +kernel⟩
theorem lkQ_RX9_9_9 : LkQ RX9 9 9 2 (.array .int) := ⟨RX9, TX9, 5, "UnlikeNeighbours$Thing", fc9, by decide, (t4_in 107 (by decide +kernel) rfl), Or.inl rfl, rfl, rfl, by decide +kernel⟩
theorem lkQ_RX9_9_10 : LkQ RX9 9 10 2 (.array .int) := ⟨RX10, TX10, 5, "UnlikeNeighbours$Thing", fc10, by decide, (t4_in 107 (by decide +kernel) rfl), Or.inl rfl, rfl, rfl, by decide +kernel⟩
theorem lkQT_RX9_9 : ∀ ci : Nat, thc ci = true → LkQ RX9 9 ci 2 (.array .int) := th_all lkQ_RX9_9_0 lkQ_RX9_9_1 lkQ_RX9_9_4 lkQ_RX9_9_6 lkQ_RX9_9_9 lkQ_RX9_9_10
theorem lkQ_RX9_15_0 : LkQ RX9 15 0 0 .int := ⟨RX0, TX0, 5, "UnlikeNeighbours$Thing", fc0, by decide, (t4_in 97 (by decide +kernel) rfl), Or.inl rfl, rfl, rfl, by decide +kernel⟩
theorem lkQ_RX9_15_1 : LkQ RX9 15 1 0 .int := ⟨RX1, TX1, 5, "UnlikeNeighbours$Thing", fc1, by decide, (t4_in 97 (by decide +kernel) rfl), Or.inl rfl, rfl, rfl, by decide +kernel⟩
theorem lkQ_RX9_15_4 : LkQ RX9 15 4 0 .int := ⟨RX4, TX4, 5, "UnlikeNeighbours$Thing", fc4, by decide, (t4_in 97 (by decide +kernel) rfl), Or.inl rfl, rfl, rfl, by decide +kernel⟩
theorem lkQ_RX9_15_6 : LkQ RX9 15 6 0 .int := ⟨RX6, TX6, 5, "UnlikeNeighbours$Thing", fc6, by decide, (t4_in 97 (by decide +kernel) rfl), Or.inl rfl, rfl, rfl, by decide +kernel⟩
theorem lkQ_RX9_15_9 : LkQ RX9 15 9 0 .int := ⟨RX9, TX9, 5, "UnlikeNeighbours$Thing", fc9, by decide, (t4_in 97 (by decide +kernel) rfl), Or.inl rfl, rfl, rfl, by decide +kernel⟩
theorem lkQ_RX9_15_10 : LkQ RX9 15 10 0 .int := ⟨RX10, TX10, 5, "UnlikeNeighbours$Thing", fc10, by decide, (t4_in 97 (by decide +kernel) rfl), Or.inl rfl, rfl, rfl, by decide +kernel⟩
theorem lkQT_RX9_15 : ∀ ci : Nat, thc ci = true → LkQ RX9 15 ci 0 .int := th_all lkQ_RX9_15_0 lkQ_RX9_15_1 lkQ_RX9_15_4 lkQ_RX9_15_6 lkQ_RX9_15_9 lkQ_RX9_15_10
theorem lkQ_RX9_19_0 : LkQ RX9 19 0 1 .int := ⟨RX0, TX0, 5, "UnlikeNeighbours$Thing", fc0, by decide, (t4_in 100 (by decide +kernel) rfl), Or.inl rfl, rfl, rfl, by decide +kernel⟩
theorem lkQ_RX9_19_1 : LkQ RX9 19 1 1 .int := ⟨RX1, TX1, 5, "UnlikeNeighbours$Thing", fc1, by decide, (t4_in 100 (by decide +kernel) rfl), Or.inl rfl, rfl, rfl, by decide +kernel⟩
theorem lkQ_RX9_19_4 : LkQ RX9 19 4 1 .int := ⟨RX4, TX4, 5, "UnlikeNeighbours$Thing", fc4, by decide, (t4_in 100 (by decide +kernel) rfl), Or.inl rfl, rfl, rfl, by decide +kernel⟩
theorem lkQ_RX9_19_6 : LkQ RX9 19 6 1 .int := ⟨RX6, TX6, 5, "UnlikeNeighbours$Thing", fc6, by decide, (t4_in 100 (by decide +kernel) rfl), Or.inl rfl, rfl, rfl, by decide +kernel⟩
theorem lkQ_RX9_19_9 : LkQ RX9 19 9 1 .int := ⟨RX9, TX9, 5, "UnlikeNeighbours$Thing", fc9, by decide, (t4_in 100 (by decide +kernel) rfl), Or.inl rfl, rfl, rfl, by decide +kernel⟩
theorem lkQ_RX9_19_10 : LkQ RX9 19 10 1 .int := ⟨RX10, TX10, 5, "UnlikeNeighbours$Thing", fc10, by decide, (t4_in 100 (by decide +kernel) rfl), Or.inl rfl, rfl, rfl, by decide +kernel⟩
theorem lkQT_RX9_19 : ∀ ci : Nat, thc ci = true → LkQ RX9 19 ci 1 .int := th_all lkQ_RX9_19_0 lkQ_RX9_19_1 lkQ_RX9_19_4 lkQ_RX9_19_6 lkQ_RX9_19_9 lkQ_RX9_19_10
theorem dX9_init_0 : decode cX9_init 0 = .ok (.aload_n 0, 1) := by decide +kernel
theorem dX9_init_1 : decode cX9_init 1 = .ok (.invokespecial 3, 3) := by decide +kernel
theorem dX9_init_4 : decode cX9_init 4 = .ok (.aload_n 0, 1) := by decide +kernel
theorem dX9_init_5 : decode cX9_init 5 = .ok (.bipush 30, 2) := by decide +kernel
theorem dX9_init_7 : decode cX9_init 7 = .ok (.newarray .int, 2) := by decide +kernel
theorem dX9_init_9 : decode cX9_init 9 = .ok (.putfield 9, 3) := by decide +kernel
theorem dX9_init_12 : decode cX9_init 12 = .ok (.aload_n 0, 1) := by decide +kernel
theorem dX9_init_13 : decode cX9_init 13 = .ok (.iload_n 1, 1) := by decide +kernel
theorem dX9_init_14 : decode cX9_init 14 = .ok (.putfield 15, 3) := by decide +kernel
theorem dX9_init_17 : decode cX9_init 17 = .ok (.aload_n 0, 1) := by decide +kernel
theorem dX9_init_18 : decode cX9_init 18 = .ok (.iload_n 2, 1) := by decide +kernel
theorem dX9_init_19 : decode cX9_init 19 = .ok (.putfield 19, 3) := by decide +kernel
theorem dX9_init_22 : decode cX9_init 22 = .ok (.return_, 1) := by decide +kernel
def f_X9_init   (S : Sh) (R : Rw) (I : Iw) (a0 : Nat) (x1 : Int32) (x2 : Int32) : Option ((Sh × Rw × Iw)) := lt S.length (fun q1 => lt (S ++ [(20, 30)]) (fun S2 => lt (setA R q1 (fun _ => none)) (fun R3 => lt (setA I q1 (fun _ => 0)) (fun I4 => gp (thg S2 a0) (lt (up2 R3 a0 2 (some (.inl q1))) (fun R8 => lt (up2 I4 a0 0 x1) (fun I9 => lt (up2 I9 a0 1 x2) (fun I10 => some (S2, R8, I10)))))))))
set_option maxHeartbeats 4000000 in
theorem b_X9_init {E : Ev} {p : Program} {l : Launch} {e : Env} {s : State} {m : MethodId} {args : Array Value} {below : List Frame} {meth : Method} {c : Code} (C : Cx E RX9 cX9_init 3 p s m c) (hr : meth.sig.returnType = none) (hk : meth.locks = false) (hin : meth.name = "<init>") {r : (Sh × Rw × Iw)}  : ∀ (S : Sh) (R : Rw) (I : Iw) (a0 : Nat) (x1 : Int32) (x2 : Int32), f_X9_init    S R I a0 x1 x2 = some r → Wk E 3 p l e ({ frames := 1, cells := 1, slots := 30, locals := 20 } : Room) s m args below meth c 0 0 (MQ below (Qw E r.1 r.2.1 r.2.2 none) args s 1 30 (fun q => E.1 ≤ q)) 0 [(0, .ref (E.1 + a0)), (1, .int x1), (2, .int x2)] [] S R I := by
  intro S R I a0 x1 x2 h
  rw [f_X9_init] at h
  refine k_aloadn (pc := 0) C dX9_init_0 (i := 0) rfl 0 rfl ?_
  refine k_objInit (pc := 1) C (t4_in 96 (by decide +kernel) rfl) (t1_in 27 (by decide +kernel) rfl) (t1_in 28 (by decide +kernel) rfl) (Nat.le_of_ble_eq_true rfl) (Nat.le_of_ble_eq_true rfl) (Nat.le_of_ble_eq_true rfl) dX9_init_1 ?_
  refine k_aloadn (pc := 4) C dX9_init_4 (i := 0) rfl 0 rfl ?_
  refine k_bipush (pc := 5) C (v := (30 : Int32)) dX9_init_5 (by decide) ?_
  obtain ⟨q1, eq1, h⟩ := lt_e h
  obtain ⟨S2, eS2, h⟩ := lt_e h
  obtain ⟨R3, eR3, h⟩ := lt_e h
  obtain ⟨I4, eI4, h⟩ := lt_e h
  refine k_newa (pc := 7) C (t := 20) (N := 30) rfl (by decide) (t1_in 68 (by decide +kernel) rfl) (by decide) (by decide) (by decide) (Nat.le_of_ble_eq_true rfl) (Nat.le_of_ble_eq_true rfl) dX9_init_7 ?_
  rw [← eq1, ← eS2, ← eR3, ← eI4]
  refine k_nf (cells2 := 1) (slots2 := 30) (st2 := [.ref (E.1 + q1), .ref (E.1 + a0)]) rfl rfl rfl ?_
  obtain ⟨hs60, h⟩ := gp_e h
  obtain ⟨ci7, hs6t, hs6⟩ := thg_e hs60
  obtain ⟨R8, eR8, h⟩ := lt_e h
  refine k_putFR (pc := 9) C hin (lkQT_RX9_9 _ hs6t) hs6 (irT_2 _ hs6t) (fun _ => ⟨rfl, rfl⟩) dX9_init_9 ?_
  rw [← eR8]
  refine k_aloadn (pc := 12) C dX9_init_12 (i := 0) rfl 0 rfl ?_
  refine k_iloadn (pc := 13) C dX9_init_13 (i := 1) rfl 1 rfl ?_
  obtain ⟨I9, eI9, h⟩ := lt_e h
  refine k_putFI (pc := 14) C hin (lkQT_RX9_15 _ hs6t) hs6 (irT_0 _ hs6t) dX9_init_14 ?_
  rw [← eI9]
  refine k_aloadn (pc := 17) C dX9_init_17 (i := 0) rfl 0 rfl ?_
  refine k_iloadn (pc := 18) C dX9_init_18 (i := 2) rfl 2 rfl ?_
  obtain ⟨I10, eI10, h⟩ := lt_e h
  refine k_putFI (pc := 19) C hin (lkQT_RX9_19 _ hs6t) hs6 (irT_1 _ hs6t) dX9_init_19 ?_
  rw [← eI10]
  have h := Option.some.inj h
  subst h
  exact k_vret (pc := 22) C hr hk dX9_init_22
theorem c_X9_init {E : Ev} {l : Launch} {S : Sh} {R : Rw} {I : Iw} {a0 : Nat} {x1 : Int32} {x2 : Int32} {r : (Sh × Rw × Iw)} (h : f_X9_init S R I a0 x1 x2 = some r) : Mt E l yX9_init cX9_init 3 none 1 20 [.ref (E.1 + a0), .int x1, .int x2] S R I r.1 r.2.1 r.2.2 none 1 30 := mt_of (by decide) (Nat.le_of_ble_eq_true rfl) (fun p e s m args below meth c C hr hk hn => b_X9_init C hr hk hn _ _ _ _ _ _ h)
theorem lkI_RX1_1 : LkI RX1 1 yX9_init cX9_init 3 2 := ⟨(t4_in 131 (by decide +kernel) rfl), (t4_in 94 (by decide +kernel) rfl), (t4_in 95 (by decide +kernel) rfl), (t1_in 15 (by decide +kernel) rfl), rfl, by decide, by decide +kernel⟩
theorem dX1_init_0 : decode cX1_init 0 = .ok (.aload_n 0, 1) := by decide +kernel
theorem dX1_init_1 : decode cX1_init 1 = .ok (.iload_n 1, 1) := by decide +kernel
theorem dX1_init_2 : decode cX1_init 2 = .ok (.iload_n 2, 1) := by decide +kernel
theorem dX1_init_3 : decode cX1_init 3 = .ok (.invokespecial 1, 3) := by decide +kernel
theorem dX1_init_6 : decode cX1_init 6 = .ok (.return_, 1) := by decide +kernel
def f_X1_init   (S : Sh) (R : Rw) (I : Iw) (a0 : Nat) (x1 : Int32) (x2 : Int32) : Option ((Sh × Rw × Iw)) := bd (f_X9_init S R I a0 x1 x2) (fun r1 => some (r1.1, r1.2.1, r1.2.2))
set_option maxHeartbeats 4000000 in
theorem b_X1_init {E : Ev} {p : Program} {l : Launch} {e : Env} {s : State} {m : MethodId} {args : Array Value} {below : List Frame} {meth : Method} {c : Code} (C : Cx E RX1 cX1_init 3 p s m c) (hr : meth.sig.returnType = none) (hk : meth.locks = false) (hin : meth.name = "<init>") {r : (Sh × Rw × Iw)}  : ∀ (S : Sh) (R : Rw) (I : Iw) (a0 : Nat) (x1 : Int32) (x2 : Int32), f_X1_init    S R I a0 x1 x2 = some r → Wk E 3 p l e ({ frames := 2, cells := 1, slots := 30, locals := 42 } : Room) s m args below meth c 0 0 (MQ below (Qw E r.1 r.2.1 r.2.2 none) args s 1 30 (fun q => E.1 ≤ q)) 0 [(0, .ref (E.1 + a0)), (1, .int x1), (2, .int x2)] [] S R I := by
  intro S R I a0 x1 x2 h
  rw [f_X1_init] at h
  refine k_aloadn (pc := 0) C dX1_init_0 (i := 0) rfl 0 rfl ?_
  refine k_iloadn (pc := 1) C dX1_init_1 (i := 1) rfl 1 rfl ?_
  refine k_iloadn (pc := 2) C dX1_init_2 (i := 2) rfl 2 rfl ?_
  obtain ⟨r1, hr1, h⟩ := bd_e h
  refine k_I (pc := 3) (st := []) C (c_X9_init hr1) lkI_RX1_1 rfl rfl (Nat.le_of_ble_eq_true rfl) (Nat.le_of_ble_eq_true rfl) (Nat.le_of_ble_eq_true rfl) (Nat.le_of_ble_eq_true rfl) (Nat.le_of_ble_eq_true rfl) dX1_init_3 ?_
  refine k_nf (cells2 := 1) (slots2 := 30) (st2 := []) rfl rfl rfl ?_
  have h := Option.some.inj h
  subst h
  exact k_vret (pc := 6) C hr hk dX1_init_6
theorem c_X1_init {E : Ev} {l : Launch} {S : Sh} {R : Rw} {I : Iw} {a0 : Nat} {x1 : Int32} {x2 : Int32} {r : (Sh × Rw × Iw)} (h : f_X1_init S R I a0 x1 x2 = some r) : Mt E l yX1_init cX1_init 3 none 2 42 [.ref (E.1 + a0), .int x1, .int x2] S R I r.1 r.2.1 r.2.2 none 1 30 := mt_of (by decide) (Nat.le_of_ble_eq_true rfl) (fun p e s m args below meth c C hr hk hn => b_X1_init C hr hk hn _ _ _ _ _ _ h)
theorem lkI_RX0_1 : LkI RX0 1 yX1_init cX1_init 3 2 := ⟨(t4_in 143 (by decide +kernel) rfl), (t4_in 129 (by decide +kernel) rfl), (t4_in 130 (by decide +kernel) rfl), (t1_in 17 (by decide +kernel) rfl), rfl, by decide, by decide +kernel⟩
theorem dX0_init_0 : decode cX0_init 0 = .ok (.aload_n 0, 1) := by decide +kernel
theorem dX0_init_1 : decode cX0_init 1 = .ok (.iload_n 1, 1) := by decide +kernel
theorem dX0_init_2 : decode cX0_init 2 = .ok (.iload_n 2, 1) := by decide +kernel
theorem dX0_init_3 : decode cX0_init 3 = .ok (.invokespecial 1, 3) := by decide +kernel
theorem dX0_init_6 : decode cX0_init 6 = .ok (.return_, 1) := by decide +kernel
def f_X0_init   (S : Sh) (R : Rw) (I : Iw) (a0 : Nat) (x1 : Int32) (x2 : Int32) : Option ((Sh × Rw × Iw)) := bd (f_X1_init S R I a0 x1 x2) (fun r1 => some (r1.1, r1.2.1, r1.2.2))
set_option maxHeartbeats 4000000 in
theorem b_X0_init {E : Ev} {p : Program} {l : Launch} {e : Env} {s : State} {m : MethodId} {args : Array Value} {below : List Frame} {meth : Method} {c : Code} (C : Cx E RX0 cX0_init 3 p s m c) (hr : meth.sig.returnType = none) (hk : meth.locks = false) (hin : meth.name = "<init>") {r : (Sh × Rw × Iw)}  : ∀ (S : Sh) (R : Rw) (I : Iw) (a0 : Nat) (x1 : Int32) (x2 : Int32), f_X0_init    S R I a0 x1 x2 = some r → Wk E 3 p l e ({ frames := 3, cells := 1, slots := 30, locals := 64 } : Room) s m args below meth c 0 0 (MQ below (Qw E r.1 r.2.1 r.2.2 none) args s 1 30 (fun q => E.1 ≤ q)) 0 [(0, .ref (E.1 + a0)), (1, .int x1), (2, .int x2)] [] S R I := by
  intro S R I a0 x1 x2 h
  rw [f_X0_init] at h
  refine k_aloadn (pc := 0) C dX0_init_0 (i := 0) rfl 0 rfl ?_
  refine k_iloadn (pc := 1) C dX0_init_1 (i := 1) rfl 1 rfl ?_
  refine k_iloadn (pc := 2) C dX0_init_2 (i := 2) rfl 2 rfl ?_
  obtain ⟨r1, hr1, h⟩ := bd_e h
  refine k_I (pc := 3) (st := []) C (c_X1_init hr1) lkI_RX0_1 rfl rfl (Nat.le_of_ble_eq_true rfl) (Nat.le_of_ble_eq_true rfl) (Nat.le_of_ble_eq_true rfl) (Nat.le_of_ble_eq_true rfl) (Nat.le_of_ble_eq_true rfl) dX0_init_3 ?_
  refine k_nf (cells2 := 1) (slots2 := 30) (st2 := []) rfl rfl rfl ?_
  have h := Option.some.inj h
  subst h
  exact k_vret (pc := 6) C hr hk dX0_init_6
theorem c_X0_init {E : Ev} {l : Launch} {S : Sh} {R : Rw} {I : Iw} {a0 : Nat} {x1 : Int32} {x2 : Int32} {r : (Sh × Rw × Iw)} (h : f_X0_init S R I a0 x1 x2 = some r) : Mt E l yX0_init cX0_init 3 none 3 64 [.ref (E.1 + a0), .int x1, .int x2] S R I r.1 r.2.1 r.2.2 none 1 30 := mt_of (by decide) (Nat.le_of_ble_eq_true rfl) (fun p e s m args below meth c C hr hk hn => b_X0_init C hr hk hn _ _ _ _ _ _ h)
theorem lkF_RX9_22_0 : LkF RX9 22 0 3 := ⟨RX0, TX0, 5, "UnlikeNeighbours$Thing", fc0, by decide, (t4_in 109 (by decide +kernel) rfl), Or.inl rfl⟩
theorem lkF_RX9_22_1 : LkF RX9 22 1 3 := ⟨RX1, TX1, 5, "UnlikeNeighbours$Thing", fc1, by decide, (t4_in 109 (by decide +kernel) rfl), Or.inl rfl⟩
theorem lkF_RX9_22_4 : LkF RX9 22 4 3 := ⟨RX4, TX4, 5, "UnlikeNeighbours$Thing", fc4, by decide, (t4_in 109 (by decide +kernel) rfl), Or.inl rfl⟩
theorem lkF_RX9_22_6 : LkF RX9 22 6 3 := ⟨RX6, TX6, 5, "UnlikeNeighbours$Thing", fc6, by decide, (t4_in 109 (by decide +kernel) rfl), Or.inl rfl⟩
theorem lkF_RX9_22_9 : LkF RX9 22 9 3 := ⟨RX9, TX9, 5, "UnlikeNeighbours$Thing", fc9, by decide, (t4_in 109 (by decide +kernel) rfl), Or.inl rfl⟩
theorem lkF_RX9_22_10 : LkF RX9 22 10 3 := ⟨RX10, TX10, 5, "UnlikeNeighbours$Thing", fc10, by decide, (t4_in 109 (by decide +kernel) rfl), Or.inl rfl⟩
theorem lkFT_RX9_22 : ∀ ci : Nat, thc ci = true → LkF RX9 22 ci 3 := th_all lkF_RX9_22_0 lkF_RX9_22_1 lkF_RX9_22_4 lkF_RX9_22_6 lkF_RX9_22_9 lkF_RX9_22_10
theorem lkF_RX9_9_0 : LkF RX9 9 0 2 := ⟨RX0, TX0, 5, "UnlikeNeighbours$Thing", fc0, by decide, (t4_in 107 (by decide +kernel) rfl), Or.inl rfl⟩
theorem lkF_RX9_9_1 : LkF RX9 9 1 2 := ⟨RX1, TX1, 5, "UnlikeNeighbours$Thing", fc1, by decide, (t4_in 107 (by decide +kernel) rfl), Or.inl rfl⟩
theorem lkF_RX9_9_4 : LkF RX9 9 4 2 := ⟨RX4, TX4, 5, "UnlikeNeighbours$Thing", fc4, by decide, (t4_in 107 (by decide +kernel) rfl), Or.inl rfl⟩
theorem lkF_RX9_9_6 : LkF RX9 9 6 2 := ⟨RX6, TX6, 5, "UnlikeNeighbours$Thing", fc6, by decide, (t4_in 107 (by decide +kernel) rfl), Or.inl rfl⟩
theorem lkF_RX9_9_9 : LkF RX9 9 9 2 := ⟨RX9, TX9, 5, "UnlikeNeighbours$Thing", fc9, by decide, (t4_in 107 (by decide +kernel) rfl), Or.inl rfl⟩
theorem lkF_RX9_9_10 : LkF RX9 9 10 2 := ⟨RX10, TX10, 5, "UnlikeNeighbours$Thing", fc10, by decide, (t4_in 107 (by decide +kernel) rfl), Or.inl rfl⟩
theorem lkFT_RX9_9 : ∀ ci : Nat, thc ci = true → LkF RX9 9 ci 2 := th_all lkF_RX9_9_0 lkF_RX9_9_1 lkF_RX9_9_4 lkF_RX9_9_6 lkF_RX9_9_9 lkF_RX9_9_10
theorem lkP_RX9_22_0 : LkP RX9 22 0 3 .int := ⟨RX0, TX0, 5, "UnlikeNeighbours$Thing", fc0, by decide, (t4_in 109 (by decide +kernel) rfl), Or.inl rfl, rfl, by decide +kernel⟩
theorem lkP_RX9_22_1 : LkP RX9 22 1 3 .int := ⟨RX1, TX1, 5, "UnlikeNeighbours$Thing", fc1, by decide, (t4_in 109 (by decide +kernel) rfl), Or.inl rfl, rfl, by decide +kernel⟩
theorem lkP_RX9_22_4 : LkP RX9 22 4 3 .int := ⟨RX4, TX4, 5, "UnlikeNeighbours$Thing", fc4, by decide, (t4_in 109 (by decide +kernel) rfl), Or.inl rfl, rfl, by decide +kernel⟩
theorem lkP_RX9_22_6 : LkP RX9 22 6 3 .int := ⟨RX6, TX6, 5, "UnlikeNeighbours$Thing", fc6, by decide, (t4_in 109 (by decide +kernel) rfl), Or.inl rfl, rfl, by decide +kernel⟩
theorem lkP_RX9_22_9 : LkP RX9 22 9 3 .int := ⟨RX9, TX9, 5, "UnlikeNeighbours$Thing", fc9, by decide, (t4_in 109 (by decide +kernel) rfl), Or.inl rfl, rfl, by decide +kernel⟩
theorem lkP_RX9_22_10 : LkP RX9 22 10 3 .int := ⟨RX10, TX10, 5, "UnlikeNeighbours$Thing", fc10, by decide, (t4_in 109 (by decide +kernel) rfl), Or.inl rfl, rfl, by decide +kernel⟩
theorem lkPT_RX9_22 : ∀ ci : Nat, thc ci = true → LkP RX9 22 ci 3 .int := th_all lkP_RX9_22_0 lkP_RX9_22_1 lkP_RX9_22_4 lkP_RX9_22_6 lkP_RX9_22_9 lkP_RX9_22_10
theorem dX9_ran_0 : decode cX9_ran 0 = .ok (.aload_n 0, 1) := by decide +kernel
theorem dX9_ran_1 : decode cX9_ran 1 = .ok (.getfield 22, 3) := by decide +kernel
theorem dX9_ran_4 : decode cX9_ran 4 = .ok (.bipush 30, 2) := by decide +kernel
theorem dX9_ran_6 : decode cX9_ran 6 = .ok (.if_icmp .ge 23, 3) := by decide +kernel
theorem dX9_ran_9 : decode cX9_ran 9 = .ok (.aload_n 0, 1) := by decide +kernel
theorem dX9_ran_10 : decode cX9_ran 10 = .ok (.getfield 9, 3) := by decide +kernel
theorem dX9_ran_13 : decode cX9_ran 13 = .ok (.aload_n 0, 1) := by decide +kernel
theorem dX9_ran_14 : decode cX9_ran 14 = .ok (.getfield 22, 3) := by decide +kernel
theorem dX9_ran_17 : decode cX9_ran 17 = .ok (.iload_n 1, 1) := by decide +kernel
theorem dX9_ran_18 : decode cX9_ran 18 = .ok (.iastore, 1) := by decide +kernel
theorem dX9_ran_19 : decode cX9_ran 19 = .ok (.aload_n 0, 1) := by decide +kernel
theorem dX9_ran_20 : decode cX9_ran 20 = .ok (.dup, 1) := by decide +kernel
theorem dX9_ran_21 : decode cX9_ran 21 = .ok (.getfield 22, 3) := by decide +kernel
theorem dX9_ran_24 : decode cX9_ran 24 = .ok (.iconst 1, 1) := by decide +kernel
theorem dX9_ran_25 : decode cX9_ran 25 = .ok (.iadd, 1) := by decide +kernel
theorem dX9_ran_26 : decode cX9_ran 26 = .ok (.putfield 22, 3) := by decide +kernel
theorem dX9_ran_29 : decode cX9_ran 29 = .ok (.return_, 1) := by decide +kernel
def f_X9_ran (S : Sh) (R : Rw)  (I : Iw) (a0 : Nat) (x1 : Int32) : Option (Iw) := gp (thg S a0) ((if (30 : Int32) ≤ (I a0 3) then some I else rl (R a0 2) (fun b4 => gp (aok S 20 b4 (I a0 3)) (lt (up2 I b4 (I a0 3).toNatClampNeg x1) (fun I6 => lt (up2 I6 a0 3 ((I6 a0 3) + (1 : Int32))) (fun I7 => some I7))))))
set_option maxHeartbeats 4000000 in
theorem b_X9_ran {E : Ev} {p : Program} {l : Launch} {e : Env} {s : State} {m : MethodId} {args : Array Value} {below : List Frame} {meth : Method} {c : Code} (C : Cx E RX9 cX9_ran 2 p s m c) (hr : meth.sig.returnType = none) (hk : meth.locks = false) {S : Sh} {R : Rw} {r : Iw}  : ∀ (I : Iw) (a0 : Nat) (x1 : Int32), f_X9_ran S R   I a0 x1 = some r → Wk E 2 p l e ({ frames := 0, cells := 0, slots := 0, locals := 0 } : Room) s m args below meth c 0 0 (MQ below (Qw E S R r none) args s 0 0 (fun q => E.1 ≤ q)) 0 [(0, .ref (E.1 + a0)), (1, .int x1)] [] S R I := by
  intro I a0 x1 h
  rw [f_X9_ran] at h
  refine k_aloadn (pc := 0) C dX9_ran_0 (i := 0) rfl 0 rfl ?_
  obtain ⟨hs10, h⟩ := gp_e h
  obtain ⟨ci2, hs1t, hs1⟩ := thg_e hs10
  refine k_getI (pc := 1) C (lkFT_RX9_22 _ hs1t) hs1 (irT_3 _ hs1t) dX9_ran_1 ?_
  refine k_bipush (pc := 4) C (v := (30 : Int32)) dX9_ran_4 (by decide) ?_
  refine k_icmp_ge (pc := 6) C dX9_ran_6 (tgt := 29) (by decide) (fun hc3 => ?_) (fun hc3 => ?_)
  · rw [if_pos hc3] at h
    have h := Option.some.inj h
    subst h
    exact k_vret (pc := 29) C hr hk dX9_ran_29
  · rw [if_neg hc3] at h
    refine k_aloadn (pc := 9) C dX9_ran_9 (i := 0) rfl 0 rfl ?_
    obtain ⟨b4, hb4, h⟩ := rl_e h
    refine k_getR (pc := 10) C (lkFT_RX9_9 _ hs1t) hs1 (irT_2 _ hs1t) hb4 dX9_ran_10 ?_
    refine k_aloadn (pc := 13) C dX9_ran_13 (i := 0) rfl 0 rfl ?_
    refine k_getI (pc := 14) C (lkFT_RX9_22 _ hs1t) hs1 (irT_3 _ hs1t) dX9_ran_14 ?_
    refine k_iloadn (pc := 17) C dX9_ran_17 (i := 1) rfl 1 rfl ?_
    obtain ⟨ha5, h⟩ := gp_e h
    obtain ⟨I6, eI6, h⟩ := lt_e h
    refine k_iast (pc := 18) C ha5 dX9_ran_18 ?_
    rw [← eI6]
    refine k_aloadn (pc := 19) C dX9_ran_19 (i := 0) rfl 0 rfl ?_
    refine k_dup (pc := 20) C dX9_ran_20 rfl ?_
    refine k_getI (pc := 21) C (lkFT_RX9_22 _ hs1t) hs1 (irT_3 _ hs1t) dX9_ran_21 ?_
    refine k_iconst (pc := 24) C (v := (1 : Int32)) dX9_ran_24 (by decide) ?_
    refine k_iadd (pc := 25) C dX9_ran_25 ?_
    obtain ⟨I7, eI7, h⟩ := lt_e h
    refine k_putI (pc := 26) C (lkPT_RX9_22 _ hs1t) hs1 (irT_3 _ hs1t) dX9_ran_26 ?_
    rw [← eI7]
    have h := Option.some.inj h
    subst h
    exact k_vret (pc := 29) C hr hk dX9_ran_29
theorem c_X9_ran {E : Ev} {l : Launch} {S : Sh} {R : Rw} {I : Iw} {a0 : Nat} {x1 : Int32} {r : Iw} (h : f_X9_ran S R I a0 x1 = some r) : Mt E l yX9_ran cX9_ran 2 none 0 0 [.ref (E.1 + a0), .int x1] S R I S R r none 0 0 := mt_of (by decide) (Nat.le_of_ble_eq_true rfl) (fun p e s m args below meth c C hr hk hn => b_X9_ran C hr hk _ _ _ h)
theorem lkU_RX9_25_0 : LkU RX9 25 "UnlikeNeighbours$Thing" ⟨RX9, "ran", "(I)V"⟩ yX9_ran cX9_ran 2 none 1 0 := ⟨(t4_in 210 (by decide +kernel) rfl), ⟨(t7_in 151 (by decide +kernel) rfl), (t4_in 194 (by decide +kernel) rfl), cX9_ran, 2, none, (t4_in 195 (by decide +kernel) rfl)⟩, ⟨_, rfl, (t7_in 152 (by decide +kernel) rfl)⟩, (t4_in 194 (by decide +kernel) rfl), (t4_in 195 (by decide +kernel) rfl), (t1_in 15 (by decide +kernel) rfl), by decide, by decide +kernel⟩
theorem lkU_RX9_25_1 : LkU RX9 25 "UnlikeNeighbours$Thing" ⟨RX9, "ran", "(I)V"⟩ yX9_ran cX9_ran 2 none 1 1 := ⟨(t4_in 210 (by decide +kernel) rfl), ⟨(t7_in 151 (by decide +kernel) rfl), (t4_in 194 (by decide +kernel) rfl), cX9_ran, 2, none, (t4_in 195 (by decide +kernel) rfl)⟩, ⟨_, rfl, (t7_in 153 (by decide +kernel) rfl)⟩, (t4_in 194 (by decide +kernel) rfl), (t4_in 195 (by decide +kernel) rfl), (t1_in 15 (by decide +kernel) rfl), by decide, by decide +kernel⟩
theorem lkU_RX9_25_4 : LkU RX9 25 "UnlikeNeighbours$Thing" ⟨RX9, "ran", "(I)V"⟩ yX9_ran cX9_ran 2 none 1 4 := ⟨(t4_in 210 (by decide +kernel) rfl), ⟨(t7_in 151 (by decide +kernel) rfl), (t4_in 194 (by decide +kernel) rfl), cX9_ran, 2, none, (t4_in 195 (by decide +kernel) rfl)⟩, ⟨_, rfl, (t7_in 154 (by decide +kernel) rfl)⟩, (t4_in 194 (by decide +kernel) rfl), (t4_in 195 (by decide +kernel) rfl), (t1_in 15 (by decide +kernel) rfl), by decide, by decide +kernel⟩
theorem lkU_RX9_25_6 : LkU RX9 25 "UnlikeNeighbours$Thing" ⟨RX9, "ran", "(I)V"⟩ yX9_ran cX9_ran 2 none 1 6 := ⟨(t4_in 210 (by decide +kernel) rfl), ⟨(t7_in 151 (by decide +kernel) rfl), (t4_in 194 (by decide +kernel) rfl), cX9_ran, 2, none, (t4_in 195 (by decide +kernel) rfl)⟩, ⟨_, rfl, (t7_in 155 (by decide +kernel) rfl)⟩, (t4_in 194 (by decide +kernel) rfl), (t4_in 195 (by decide +kernel) rfl), (t1_in 15 (by decide +kernel) rfl), by decide, by decide +kernel⟩
theorem lkU_RX9_25_9 : LkU RX9 25 "UnlikeNeighbours$Thing" ⟨RX9, "ran", "(I)V"⟩ yX9_ran cX9_ran 2 none 1 9 := ⟨(t4_in 210 (by decide +kernel) rfl), ⟨(t7_in 151 (by decide +kernel) rfl), (t4_in 194 (by decide +kernel) rfl), cX9_ran, 2, none, (t4_in 195 (by decide +kernel) rfl)⟩, ⟨_, rfl, (t7_in 156 (by decide +kernel) rfl)⟩, (t4_in 194 (by decide +kernel) rfl), (t4_in 195 (by decide +kernel) rfl), (t1_in 15 (by decide +kernel) rfl), by decide, by decide +kernel⟩
theorem lkU_RX9_25_10 : LkU RX9 25 "UnlikeNeighbours$Thing" ⟨RX9, "ran", "(I)V"⟩ yX9_ran cX9_ran 2 none 1 10 := ⟨(t4_in 210 (by decide +kernel) rfl), ⟨(t7_in 151 (by decide +kernel) rfl), (t4_in 194 (by decide +kernel) rfl), cX9_ran, 2, none, (t4_in 195 (by decide +kernel) rfl)⟩, ⟨_, rfl, (t7_in 157 (by decide +kernel) rfl)⟩, (t4_in 194 (by decide +kernel) rfl), (t4_in 195 (by decide +kernel) rfl), (t1_in 15 (by decide +kernel) rfl), by decide, by decide +kernel⟩
theorem lkUT_RX9_25 : ∀ ci : Nat, thc ci = true → LkU RX9 25 "UnlikeNeighbours$Thing" ⟨RX9, "ran", "(I)V"⟩ yX9_ran cX9_ran 2 none 1 ci := th_all lkU_RX9_25_0 lkU_RX9_25_1 lkU_RX9_25_4 lkU_RX9_25_6 lkU_RX9_25_9 lkU_RX9_25_10
theorem lkF_RX9_15_0 : LkF RX9 15 0 0 := ⟨RX0, TX0, 5, "UnlikeNeighbours$Thing", fc0, by decide, (t4_in 97 (by decide +kernel) rfl), Or.inl rfl⟩
theorem lkF_RX9_15_1 : LkF RX9 15 1 0 := ⟨RX1, TX1, 5, "UnlikeNeighbours$Thing", fc1, by decide, (t4_in 97 (by decide +kernel) rfl), Or.inl rfl⟩
theorem lkF_RX9_15_4 : LkF RX9 15 4 0 := ⟨RX4, TX4, 5, "UnlikeNeighbours$Thing", fc4, by decide, (t4_in 97 (by decide +kernel) rfl), Or.inl rfl⟩
theorem lkF_RX9_15_6 : LkF RX9 15 6 0 := ⟨RX6, TX6, 5, "UnlikeNeighbours$Thing", fc6, by decide, (t4_in 97 (by decide +kernel) rfl), Or.inl rfl⟩
theorem lkF_RX9_15_9 : LkF RX9 15 9 0 := ⟨RX9, TX9, 5, "UnlikeNeighbours$Thing", fc9, by decide, (t4_in 97 (by decide +kernel) rfl), Or.inl rfl⟩
theorem lkF_RX9_15_10 : LkF RX9 15 10 0 := ⟨RX10, TX10, 5, "UnlikeNeighbours$Thing", fc10, by decide, (t4_in 97 (by decide +kernel) rfl), Or.inl rfl⟩
theorem lkFT_RX9_15 : ∀ ci : Nat, thc ci = true → LkF RX9 15 ci 0 := th_all lkF_RX9_15_0 lkF_RX9_15_1 lkF_RX9_15_4 lkF_RX9_15_6 lkF_RX9_15_9 lkF_RX9_15_10
theorem dX9_weighs_0 : decode cX9_weighs 0 = .ok (.aload_n 0, 1) := by decide +kernel
theorem dX9_weighs_1 : decode cX9_weighs 1 = .ok (.bipush 10, 2) := by decide +kernel
theorem dX9_weighs_3 : decode cX9_weighs 3 = .ok (.invokevirtual 25, 3) := by decide +kernel
theorem dX9_weighs_6 : decode cX9_weighs 6 = .ok (.iload_n 1, 1) := by decide +kernel
theorem dX9_weighs_7 : decode cX9_weighs 7 = .ok (.aload_n 0, 1) := by decide +kernel
theorem dX9_weighs_8 : decode cX9_weighs 8 = .ok (.getfield 15, 3) := by decide +kernel
theorem dX9_weighs_11 : decode cX9_weighs 11 = .ok (.isub, 1) := by decide +kernel
theorem dX9_weighs_12 : decode cX9_weighs 12 = .ok (.ireturn, 1) := by decide +kernel
def f_X9_weighs (S : Sh) (R : Rw)  (I : Iw) (a0 : Nat) (x1 : Int32) : Option (Iw × Int32) := gp (thg S a0) (bd (f_X9_ran S R I a0 (10 : Int32)) (fun r3 => some (r3, x1 - (r3 a0 0))))
set_option maxHeartbeats 4000000 in
theorem b_X9_weighs {E : Ev} {p : Program} {l : Launch} {e : Env} {s : State} {m : MethodId} {args : Array Value} {below : List Frame} {meth : Method} {c : Code} (C : Cx E RX9 cX9_weighs 2 p s m c) (hr : meth.sig.returnType = (some .int)) (hk : meth.locks = false) {S : Sh} {R : Rw} {r : Iw × Int32}  : ∀ (I : Iw) (a0 : Nat) (x1 : Int32), f_X9_weighs S R   I a0 x1 = some r → Wk E 2 p l e ({ frames := 1, cells := 0, slots := 0, locals := 21 } : Room) s m args below meth c 0 0 (MQ below (Qw E S R r.1 (some (.int r.2))) args s 0 0 (fun q => E.1 ≤ q)) 0 [(0, .ref (E.1 + a0)), (1, .int x1)] [] S R I := by
  intro I a0 x1 h
  rw [f_X9_weighs] at h
  refine k_aloadn (pc := 0) C dX9_weighs_0 (i := 0) rfl 0 rfl ?_
  refine k_bipush (pc := 1) C (v := (10 : Int32)) dX9_weighs_1 (by decide) ?_
  obtain ⟨hs10, h⟩ := gp_e h
  obtain ⟨ci2, hs1t, hs1⟩ := thg_e hs10
  obtain ⟨r3, hr3, h⟩ := bd_e h
  refine k_U (pc := 3) (st := []) C (c_X9_ran hr3) (lkUT_RX9_25 _ hs1t) hs1 rfl rfl (Nat.le_of_ble_eq_true rfl) (Nat.le_of_ble_eq_true rfl) (Nat.le_of_ble_eq_true rfl) (Nat.le_of_ble_eq_true rfl) (Nat.le_of_ble_eq_true rfl) dX9_weighs_3 ?_
  refine k_nf (cells2 := 0) (slots2 := 0) (st2 := []) rfl rfl rfl ?_
  refine k_iloadn (pc := 6) C dX9_weighs_6 (i := 1) rfl 1 rfl ?_
  refine k_aloadn (pc := 7) C dX9_weighs_7 (i := 0) rfl 0 rfl ?_
  refine k_getI (pc := 8) C (lkFT_RX9_15 _ hs1t) hs1 (irT_0 _ hs1t) dX9_weighs_8 ?_
  refine k_isub (pc := 11) C dX9_weighs_11 ?_
  have h := Option.some.inj h
  subst h
  exact k_iret (pc := 12) C hr hk dX9_weighs_12
theorem c_X9_weighs {E : Ev} {l : Launch} {S : Sh} {R : Rw} {I : Iw} {a0 : Nat} {x1 : Int32} {r : Iw × Int32} (h : f_X9_weighs S R I a0 x1 = some r) : Mt E l yX9_weighs cX9_weighs 2 (some .int) 1 21 [.ref (E.1 + a0), .int x1] S R I S R r.1 (some (.int r.2)) 0 0 := mt_of (by decide) (Nat.le_of_ble_eq_true rfl) (fun p e s m args below meth c C hr hk hn => b_X9_weighs C hr hk _ _ _ h)
theorem lkU_RX0_7_0 : LkU RX0 7 "UnlikeNeighbours$Thing" ⟨RX0, "ran", "(I)V"⟩ yX9_ran cX9_ran 2 none 1 0 := ⟨(t4_in 190 (by decide +kernel) rfl), ⟨(t4_in 191 (by decide +kernel) rfl), (t4_in 194 (by decide +kernel) rfl), cX9_ran, 2, none, (t4_in 195 (by decide +kernel) rfl)⟩, ⟨_, rfl, (t4_in 193 (by decide +kernel) rfl)⟩, (t4_in 194 (by decide +kernel) rfl), (t4_in 195 (by decide +kernel) rfl), (t1_in 15 (by decide +kernel) rfl), by decide, by decide +kernel⟩
theorem lkW_RX0_13 : LkW RX0 13 "UnlikeNeighbours$Thing" ⟨RX1, "weighs", "(I)I"⟩ yX9_weighs cX9_weighs 2 (some .int) 1 := ⟨(t4_in 196 (by decide +kernel) rfl), (t4_in 197 (by decide +kernel) rfl), rfl, (t4_in 149 (by decide +kernel) rfl), Or.inr (t4_in 137 (by decide +kernel) rfl), (t4_in 184 (by decide +kernel) rfl), (t4_in 209 (by decide +kernel) rfl), (t1_in 15 (by decide +kernel) rfl), by decide, by decide +kernel⟩
theorem lkF_RX0_17_0 : LkF RX0 17 0 1 := ⟨RX0, TX0, 5, "UnlikeNeighbours$Goat", fc0, by decide, (t4_in 101 (by decide +kernel) rfl), Or.inr (t4_in 102 (by decide +kernel) rfl)⟩
theorem dX0_weighs_0 : decode cX0_weighs 0 = .ok (.aload_n 0, 1) := by decide +kernel
theorem dX0_weighs_1 : decode cX0_weighs 1 = .ok (.bipush 50, 2) := by decide +kernel
theorem dX0_weighs_3 : decode cX0_weighs 3 = .ok (.invokevirtual 7, 3) := by decide +kernel
theorem dX0_weighs_6 : decode cX0_weighs 6 = .ok (.aload_n 0, 1) := by decide +kernel
theorem dX0_weighs_7 : decode cX0_weighs 7 = .ok (.iload_n 1, 1) := by decide +kernel
theorem dX0_weighs_8 : decode cX0_weighs 8 = .ok (.invokespecial 13, 3) := by decide +kernel
theorem dX0_weighs_11 : decode cX0_weighs 11 = .ok (.aload_n 0, 1) := by decide +kernel
theorem dX0_weighs_12 : decode cX0_weighs 12 = .ok (.getfield 17, 3) := by decide +kernel
theorem dX0_weighs_15 : decode cX0_weighs 15 = .ok (.ixor, 1) := by decide +kernel
theorem dX0_weighs_16 : decode cX0_weighs 16 = .ok (.ireturn, 1) := by decide +kernel
def f_X0_weighs (S : Sh) (R : Rw)  (I : Iw) (a0 : Nat) (x1 : Int32) : Option (Iw × Int32) := gp (sok S a0 0 5) (bd (f_X9_ran S R I a0 (50 : Int32)) (fun r2 => bd (f_X9_weighs S R r2 a0 x1) (fun r3 => some (r3.1, r3.2 ^^^ (r3.1 a0 1)))))
set_option maxHeartbeats 4000000 in
theorem b_X0_weighs {E : Ev} {p : Program} {l : Launch} {e : Env} {s : State} {m : MethodId} {args : Array Value} {below : List Frame} {meth : Method} {c : Code} (C : Cx E RX0 cX0_weighs 2 p s m c) (hr : meth.sig.returnType = (some .int)) (hk : meth.locks = false) {S : Sh} {R : Rw} {r : Iw × Int32}  : ∀ (I : Iw) (a0 : Nat) (x1 : Int32), f_X0_weighs S R   I a0 x1 = some r → Wk E 2 p l e ({ frames := 2, cells := 0, slots := 0, locals := 42 } : Room) s m args below meth c 0 0 (MQ below (Qw E S R r.1 (some (.int r.2))) args s 0 0 (fun q => E.1 ≤ q)) 0 [(0, .ref (E.1 + a0)), (1, .int x1)] [] S R I := by
  intro I a0 x1 h
  rw [f_X0_weighs] at h
  refine k_aloadn (pc := 0) C dX0_weighs_0 (i := 0) rfl 0 rfl ?_
  refine k_bipush (pc := 1) C (v := (50 : Int32)) dX0_weighs_1 (by decide) ?_
  obtain ⟨hs10, h⟩ := gp_e h
  have hs1 := sok_e hs10
  obtain ⟨r2, hr2, h⟩ := bd_e h
  refine k_U (pc := 3) (st := []) C (c_X9_ran hr2) lkU_RX0_7_0 hs1 rfl rfl (Nat.le_of_ble_eq_true rfl) (Nat.le_of_ble_eq_true rfl) (Nat.le_of_ble_eq_true rfl) (Nat.le_of_ble_eq_true rfl) (Nat.le_of_ble_eq_true rfl) dX0_weighs_3 ?_
  refine k_nf (cells2 := 0) (slots2 := 0) (st2 := []) rfl rfl rfl ?_
  refine k_aloadn (pc := 6) C dX0_weighs_6 (i := 0) rfl 0 rfl ?_
  refine k_iloadn (pc := 7) C dX0_weighs_7 (i := 1) rfl 1 rfl ?_
  obtain ⟨r3, hr3, h⟩ := bd_e h
  refine k_W (pc := 8) (st := []) C (c_X9_weighs hr3) lkW_RX0_13 hs1 ⟨_, rfl⟩ rfl rfl (Nat.le_of_ble_eq_true rfl) (Nat.le_of_ble_eq_true rfl) (Nat.le_of_ble_eq_true rfl) (Nat.le_of_ble_eq_true rfl) (Nat.le_of_ble_eq_true rfl) dX0_weighs_8 ?_
  refine k_nf (cells2 := 0) (slots2 := 0) (st2 := [.int r3.2]) rfl rfl rfl ?_
  refine k_aloadn (pc := 11) C dX0_weighs_11 (i := 0) rfl 0 rfl ?_
  refine k_getI (pc := 12) C lkF_RX0_17_0 hs1 ir_0_1 dX0_weighs_12 ?_
  refine k_ixor (pc := 15) C dX0_weighs_15 ?_
  have h := Option.some.inj h
  subst h
  exact k_iret (pc := 16) C hr hk dX0_weighs_16
theorem c_X0_weighs {E : Ev} {l : Launch} {S : Sh} {R : Rw} {I : Iw} {a0 : Nat} {x1 : Int32} {r : Iw × Int32} (h : f_X0_weighs S R I a0 x1 = some r) : Mt E l yX0_weighs cX0_weighs 2 (some .int) 2 42 [.ref (E.1 + a0), .int x1] S R I S R r.1 (some (.int r.2)) 0 0 := mt_of (by decide) (Nat.le_of_ble_eq_true rfl) (fun p e s m args below meth c C hr hk hn => b_X0_weighs C hr hk _ _ _ h)
theorem lkU_RX10_7_10 : LkU RX10 7 "UnlikeNeighbours$Thing" ⟨RX10, "ran", "(I)V"⟩ yX9_ran cX9_ran 2 none 1 10 := ⟨(t4_in 205 (by decide +kernel) rfl), ⟨(t4_in 206 (by decide +kernel) rfl), (t4_in 194 (by decide +kernel) rfl), cX9_ran, 2, none, (t4_in 195 (by decide +kernel) rfl)⟩, ⟨_, rfl, (t4_in 207 (by decide +kernel) rfl)⟩, (t4_in 194 (by decide +kernel) rfl), (t4_in 195 (by decide +kernel) rfl), (t1_in 15 (by decide +kernel) rfl), by decide, by decide +kernel⟩
theorem lkW_RX10_13 : LkW RX10 13 "UnlikeNeighbours$Thing" ⟨RX9, "weighs", "(I)I"⟩ yX9_weighs cX9_weighs 2 (some .int) 1 := ⟨(t4_in 208 (by decide +kernel) rfl), (t4_in 186 (by decide +kernel) rfl), rfl, (t4_in 125 (by decide +kernel) rfl), Or.inl rfl, (t4_in 184 (by decide +kernel) rfl), (t4_in 209 (by decide +kernel) rfl), (t1_in 15 (by decide +kernel) rfl), by decide, by decide +kernel⟩
theorem dX10_weighs_0 : decode cX10_weighs 0 = .ok (.aload_n 0, 1) := by decide +kernel
theorem dX10_weighs_1 : decode cX10_weighs 1 = .ok (.bipush 20, 2) := by decide +kernel
theorem dX10_weighs_3 : decode cX10_weighs 3 = .ok (.invokevirtual 7, 3) := by decide +kernel
theorem dX10_weighs_6 : decode cX10_weighs 6 = .ok (.aload_n 0, 1) := by decide +kernel
theorem dX10_weighs_7 : decode cX10_weighs 7 = .ok (.iload_n 1, 1) := by decide +kernel
theorem dX10_weighs_8 : decode cX10_weighs 8 = .ok (.invokespecial 13, 3) := by decide +kernel
theorem dX10_weighs_11 : decode cX10_weighs 11 = .ok (.iconst 2, 1) := by decide +kernel
theorem dX10_weighs_12 : decode cX10_weighs 12 = .ok (.imul, 1) := by decide +kernel
theorem dX10_weighs_13 : decode cX10_weighs 13 = .ok (.ireturn, 1) := by decide +kernel
def f_X10_weighs (S : Sh) (R : Rw)  (I : Iw) (a0 : Nat) (x1 : Int32) : Option (Iw × Int32) := gp (sok S a0 10 5) (bd (f_X9_ran S R I a0 (20 : Int32)) (fun r2 => bd (f_X9_weighs S R r2 a0 x1) (fun r3 => some (r3.1, r3.2 * (2 : Int32)))))
set_option maxHeartbeats 4000000 in
theorem b_X10_weighs {E : Ev} {p : Program} {l : Launch} {e : Env} {s : State} {m : MethodId} {args : Array Value} {below : List Frame} {meth : Method} {c : Code} (C : Cx E RX10 cX10_weighs 2 p s m c) (hr : meth.sig.returnType = (some .int)) (hk : meth.locks = false) {S : Sh} {R : Rw} {r : Iw × Int32}  : ∀ (I : Iw) (a0 : Nat) (x1 : Int32), f_X10_weighs S R   I a0 x1 = some r → Wk E 2 p l e ({ frames := 2, cells := 0, slots := 0, locals := 42 } : Room) s m args below meth c 0 0 (MQ below (Qw E S R r.1 (some (.int r.2))) args s 0 0 (fun q => E.1 ≤ q)) 0 [(0, .ref (E.1 + a0)), (1, .int x1)] [] S R I := by
  intro I a0 x1 h
  rw [f_X10_weighs] at h
  refine k_aloadn (pc := 0) C dX10_weighs_0 (i := 0) rfl 0 rfl ?_
  refine k_bipush (pc := 1) C (v := (20 : Int32)) dX10_weighs_1 (by decide) ?_
  obtain ⟨hs10, h⟩ := gp_e h
  have hs1 := sok_e hs10
  obtain ⟨r2, hr2, h⟩ := bd_e h
  refine k_U (pc := 3) (st := []) C (c_X9_ran hr2) lkU_RX10_7_10 hs1 rfl rfl (Nat.le_of_ble_eq_true rfl) (Nat.le_of_ble_eq_true rfl) (Nat.le_of_ble_eq_true rfl) (Nat.le_of_ble_eq_true rfl) (Nat.le_of_ble_eq_true rfl) dX10_weighs_3 ?_
  refine k_nf (cells2 := 0) (slots2 := 0) (st2 := []) rfl rfl rfl ?_
  refine k_aloadn (pc := 6) C dX10_weighs_6 (i := 0) rfl 0 rfl ?_
  refine k_iloadn (pc := 7) C dX10_weighs_7 (i := 1) rfl 1 rfl ?_
  obtain ⟨r3, hr3, h⟩ := bd_e h
  refine k_W (pc := 8) (st := []) C (c_X9_weighs hr3) lkW_RX10_13 hs1 ⟨_, rfl⟩ rfl rfl (Nat.le_of_ble_eq_true rfl) (Nat.le_of_ble_eq_true rfl) (Nat.le_of_ble_eq_true rfl) (Nat.le_of_ble_eq_true rfl) (Nat.le_of_ble_eq_true rfl) dX10_weighs_8 ?_
  refine k_nf (cells2 := 0) (slots2 := 0) (st2 := [.int r3.2]) rfl rfl rfl ?_
  refine k_iconst (pc := 11) C (v := (2 : Int32)) dX10_weighs_11 (by decide) ?_
  refine k_imul (pc := 12) C dX10_weighs_12 ?_
  have h := Option.some.inj h
  subst h
  exact k_iret (pc := 13) C hr hk dX10_weighs_13
theorem c_X10_weighs {E : Ev} {l : Launch} {S : Sh} {R : Rw} {I : Iw} {a0 : Nat} {x1 : Int32} {r : Iw × Int32} (h : f_X10_weighs S R I a0 x1 = some r) : Mt E l yX10_weighs cX10_weighs 2 (some .int) 2 42 [.ref (E.1 + a0), .int x1] S R I S R r.1 (some (.int r.2)) 0 0 := mt_of (by decide) (Nat.le_of_ble_eq_true rfl) (fun p e s m args below meth c C hr hk hn => b_X10_weighs C hr hk _ _ _ h)
theorem lkF_RX9_19_0 : LkF RX9 19 0 1 := ⟨RX0, TX0, 5, "UnlikeNeighbours$Thing", fc0, by decide, (t4_in 100 (by decide +kernel) rfl), Or.inl rfl⟩
theorem lkF_RX9_19_1 : LkF RX9 19 1 1 := ⟨RX1, TX1, 5, "UnlikeNeighbours$Thing", fc1, by decide, (t4_in 100 (by decide +kernel) rfl), Or.inl rfl⟩
theorem lkF_RX9_19_4 : LkF RX9 19 4 1 := ⟨RX4, TX4, 5, "UnlikeNeighbours$Thing", fc4, by decide, (t4_in 100 (by decide +kernel) rfl), Or.inl rfl⟩
theorem lkF_RX9_19_6 : LkF RX9 19 6 1 := ⟨RX6, TX6, 5, "UnlikeNeighbours$Thing", fc6, by decide, (t4_in 100 (by decide +kernel) rfl), Or.inl rfl⟩
theorem lkF_RX9_19_9 : LkF RX9 19 9 1 := ⟨RX9, TX9, 5, "UnlikeNeighbours$Thing", fc9, by decide, (t4_in 100 (by decide +kernel) rfl), Or.inl rfl⟩
theorem lkF_RX9_19_10 : LkF RX9 19 10 1 := ⟨RX10, TX10, 5, "UnlikeNeighbours$Thing", fc10, by decide, (t4_in 100 (by decide +kernel) rfl), Or.inl rfl⟩
theorem lkFT_RX9_19 : ∀ ci : Nat, thc ci = true → LkF RX9 19 ci 1 := th_all lkF_RX9_19_0 lkF_RX9_19_1 lkF_RX9_19_4 lkF_RX9_19_6 lkF_RX9_19_9 lkF_RX9_19_10
theorem lkP_RX9_33_0 : LkP RX9 33 0 4 .boolean := ⟨RX0, TX0, 5, "UnlikeNeighbours$Thing", fc0, by decide, (t4_in 113 (by decide +kernel) rfl), Or.inl rfl, rfl, by decide +kernel⟩
theorem lkP_RX9_33_1 : LkP RX9 33 1 4 .boolean := ⟨RX1, TX1, 5, "UnlikeNeighbours$Thing", fc1, by decide, (t4_in 113 (by decide +kernel) rfl), Or.inl rfl, rfl, by decide +kernel⟩
theorem lkP_RX9_33_4 : LkP RX9 33 4 4 .boolean := ⟨RX4, TX4, 5, "UnlikeNeighbours$Thing", fc4, by decide, (t4_in 113 (by decide +kernel) rfl), Or.inl rfl, rfl, by decide +kernel⟩
theorem lkP_RX9_33_6 : LkP RX9 33 6 4 .boolean := ⟨RX6, TX6, 5, "UnlikeNeighbours$Thing", fc6, by decide, (t4_in 113 (by decide +kernel) rfl), Or.inl rfl, rfl, by decide +kernel⟩
theorem lkP_RX9_33_9 : LkP RX9 33 9 4 .boolean := ⟨RX9, TX9, 5, "UnlikeNeighbours$Thing", fc9, by decide, (t4_in 113 (by decide +kernel) rfl), Or.inl rfl, rfl, by decide +kernel⟩
theorem lkP_RX9_33_10 : LkP RX9 33 10 4 .boolean := ⟨RX10, TX10, 5, "UnlikeNeighbours$Thing", fc10, by decide, (t4_in 113 (by decide +kernel) rfl), Or.inl rfl, rfl, by decide +kernel⟩
theorem lkPT_RX9_33 : ∀ ci : Nat, thc ci = true → LkP RX9 33 ci 4 .boolean := th_all lkP_RX9_33_0 lkP_RX9_33_1 lkP_RX9_33_4 lkP_RX9_33_6 lkP_RX9_33_9 lkP_RX9_33_10
theorem dX9_splits_0 : decode cX9_splits 0 = .ok (.aload_n 0, 1) := by decide +kernel
theorem dX9_splits_1 : decode cX9_splits 1 = .ok (.bipush 12, 2) := by decide +kernel
theorem dX9_splits_3 : decode cX9_splits 3 = .ok (.invokevirtual 25, 3) := by decide +kernel
theorem dX9_splits_6 : decode cX9_splits 6 = .ok (.aload_n 0, 1) := by decide +kernel
theorem dX9_splits_7 : decode cX9_splits 7 = .ok (.getfield 19, 3) := by decide +kernel
theorem dX9_splits_10 : decode cX9_splits 10 = .ok (.aload_n 0, 1) := by decide +kernel
theorem dX9_splits_11 : decode cX9_splits 11 = .ok (.getfield 15, 3) := by decide +kernel
theorem dX9_splits_14 : decode cX9_splits 14 = .ok (.isub, 1) := by decide +kernel
theorem dX9_splits_15 : decode cX9_splits 15 = .ok (.istore_n 2, 1) := by decide +kernel
theorem dX9_splits_16 : decode cX9_splits 16 = .ok (.iload_n 2, 1) := by decide +kernel
theorem dX9_splits_17 : decode cX9_splits 17 = .ok (.ifCond .ne 10, 3) := by decide +kernel
theorem dX9_splits_20 : decode cX9_splits 20 = .ok (.aload_n 0, 1) := by decide +kernel
theorem dX9_splits_21 : decode cX9_splits 21 = .ok (.iconst 1, 1) := by decide +kernel
theorem dX9_splits_22 : decode cX9_splits 22 = .ok (.putfield 33, 3) := by decide +kernel
theorem dX9_splits_25 : decode cX9_splits 25 = .ok (.iconst 0, 1) := by decide +kernel
theorem dX9_splits_26 : decode cX9_splits 26 = .ok (.ireturn, 1) := by decide +kernel
theorem dX9_splits_27 : decode cX9_splits 27 = .ok (.iload_n 1, 1) := by decide +kernel
theorem dX9_splits_28 : decode cX9_splits 28 = .ok (.iload_n 2, 1) := by decide +kernel
theorem dX9_splits_29 : decode cX9_splits 29 = .ok (.idiv, 1) := by decide +kernel
theorem dX9_splits_30 : decode cX9_splits 30 = .ok (.ireturn, 1) := by decide +kernel
def f_X9_splits (S : Sh) (R : Rw)  (I : Iw) (a0 : Nat) (x1 : Int32) : Option (Iw × Int32) := gp (thg S a0) (bd (f_X9_ran S R I a0 (12 : Int32)) (fun r3 => (if ((r3 a0 1) - (r3 a0 0)) = 0 then lt (up2 r3 a0 4 (1 : Int32)) (fun I6 => some (I6, (0 : Int32))) else gp (nz ((r3 a0 1) - (r3 a0 0))) (some (r3, x1 / ((r3 a0 1) - (r3 a0 0)))))))
set_option maxHeartbeats 4000000 in
theorem b_X9_splits {E : Ev} {p : Program} {l : Launch} {e : Env} {s : State} {m : MethodId} {args : Array Value} {below : List Frame} {meth : Method} {c : Code} (C : Cx E RX9 cX9_splits 3 p s m c) (hr : meth.sig.returnType = (some .int)) (hk : meth.locks = false) {S : Sh} {R : Rw} {r : Iw × Int32}  : ∀ (I : Iw) (a0 : Nat) (x1 : Int32), f_X9_splits S R   I a0 x1 = some r → Wk E 3 p l e ({ frames := 1, cells := 0, slots := 0, locals := 21 } : Room) s m args below meth c 0 0 (MQ below (Qw E S R r.1 (some (.int r.2))) args s 0 0 (fun q => E.1 ≤ q)) 0 [(0, .ref (E.1 + a0)), (1, .int x1)] [] S R I := by
  intro I a0 x1 h
  rw [f_X9_splits] at h
  refine k_aloadn (pc := 0) C dX9_splits_0 (i := 0) rfl 0 rfl ?_
  refine k_bipush (pc := 1) C (v := (12 : Int32)) dX9_splits_1 (by decide) ?_
  obtain ⟨hs10, h⟩ := gp_e h
  obtain ⟨ci2, hs1t, hs1⟩ := thg_e hs10
  obtain ⟨r3, hr3, h⟩ := bd_e h
  refine k_U (pc := 3) (st := []) C (c_X9_ran hr3) (lkUT_RX9_25 _ hs1t) hs1 rfl rfl (Nat.le_of_ble_eq_true rfl) (Nat.le_of_ble_eq_true rfl) (Nat.le_of_ble_eq_true rfl) (Nat.le_of_ble_eq_true rfl) (Nat.le_of_ble_eq_true rfl) dX9_splits_3 ?_
  refine k_nf (cells2 := 0) (slots2 := 0) (st2 := []) rfl rfl rfl ?_
  refine k_aloadn (pc := 6) C dX9_splits_6 (i := 0) rfl 0 rfl ?_
  refine k_getI (pc := 7) C (lkFT_RX9_19 _ hs1t) hs1 (irT_1 _ hs1t) dX9_splits_7 ?_
  refine k_aloadn (pc := 10) C dX9_splits_10 (i := 0) rfl 0 rfl ?_
  refine k_getI (pc := 11) C (lkFT_RX9_15 _ hs1t) hs1 (irT_0 _ hs1t) dX9_splits_11 ?_
  refine k_isub (pc := 14) C dX9_splits_14 ?_
  refine k_istoren (pc := 15) C dX9_splits_15 (i := 2) rfl (by decide) (L2 := [(0, .ref (E.1 + a0)), (1, .int x1), (2, .int ((r3 a0 1) - (r3 a0 0)))]) rfl ?_
  refine k_iloadn (pc := 16) C dX9_splits_16 (i := 2) rfl 2 rfl ?_
  refine k_if_ne (pc := 17) C dX9_splits_17 (tgt := 27) (by decide) (fun hc4 => ?_) (fun hc4 => ?_)
  · rw [if_neg hc4] at h
    refine k_iloadn (pc := 27) C dX9_splits_27 (i := 1) rfl 1 rfl ?_
    refine k_iloadn (pc := 28) C dX9_splits_28 (i := 2) rfl 2 rfl ?_
    obtain ⟨hz5, h⟩ := gp_e h
    refine k_idiv (pc := 29) C dX9_splits_29 (of_decide_eq_true hz5) ?_
    have h := Option.some.inj h
    subst h
    exact k_iret (pc := 30) C hr hk dX9_splits_30
  · rw [if_pos hc4] at h
    refine k_aloadn (pc := 20) C dX9_splits_20 (i := 0) rfl 0 rfl ?_
    refine k_iconst (pc := 21) C (v := (1 : Int32)) dX9_splits_21 (by decide) ?_
    obtain ⟨I6, eI6, h⟩ := lt_e h
    refine k_putZ (pc := 22) C (lkPT_RX9_33 _ hs1t) hs1 (irT_4 _ hs1t) (Or.inr rfl) dX9_splits_22 ?_
    rw [← eI6]
    refine k_iconst (pc := 25) C (v := (0 : Int32)) dX9_splits_25 (by decide) ?_
    have h := Option.some.inj h
    subst h
    exact k_iret (pc := 26) C hr hk dX9_splits_26
theorem c_X9_splits {E : Ev} {l : Launch} {S : Sh} {R : Rw} {I : Iw} {a0 : Nat} {x1 : Int32} {r : Iw × Int32} (h : f_X9_splits S R I a0 x1 = some r) : Mt E l yX9_splits cX9_splits 3 (some .int) 1 21 [.ref (E.1 + a0), .int x1] S R I S R r.1 (some (.int r.2)) 0 0 := mt_of (by decide) (Nat.le_of_ble_eq_true rfl) (fun p e s m args below meth c C hr hk hn => b_X9_splits C hr hk _ _ _ h)
theorem lkU_RX6_7_4 : LkU RX6 7 "UnlikeNeighbours$Thing" ⟨RX6, "ran", "(I)V"⟩ yX9_ran cX9_ran 2 none 1 4 := ⟨(t5_in 9 (by decide +kernel) rfl), ⟨(t5_in 10 (by decide +kernel) rfl), (t4_in 194 (by decide +kernel) rfl), cX9_ran, 2, none, (t4_in 195 (by decide +kernel) rfl)⟩, ⟨_, rfl, (t5_in 11 (by decide +kernel) rfl)⟩, (t4_in 194 (by decide +kernel) rfl), (t4_in 195 (by decide +kernel) rfl), (t1_in 15 (by decide +kernel) rfl), by decide, by decide +kernel⟩
theorem lkU_RX6_7_6 : LkU RX6 7 "UnlikeNeighbours$Thing" ⟨RX6, "ran", "(I)V"⟩ yX9_ran cX9_ran 2 none 1 6 := ⟨(t5_in 9 (by decide +kernel) rfl), ⟨(t5_in 10 (by decide +kernel) rfl), (t4_in 194 (by decide +kernel) rfl), cX9_ran, 2, none, (t4_in 195 (by decide +kernel) rfl)⟩, ⟨_, rfl, (t5_in 12 (by decide +kernel) rfl)⟩, (t4_in 194 (by decide +kernel) rfl), (t4_in 195 (by decide +kernel) rfl), (t1_in 15 (by decide +kernel) rfl), by decide, by decide +kernel⟩
theorem lkUT_RX6_7 : ∀ ci : Nat, slc ci = true → LkU RX6 7 "UnlikeNeighbours$Thing" ⟨RX6, "ran", "(I)V"⟩ yX9_ran cX9_ran 2 none 1 ci := sl_all lkU_RX6_7_4 lkU_RX6_7_6
theorem lkW_RX6_13 : LkW RX6 13 "UnlikeNeighbours$Thing" ⟨RX9, "splits", "(I)I"⟩ yX9_splits cX9_splits 3 (some .int) 1 := ⟨(t5_in 13 (by decide +kernel) rfl), (t5_in 0 (by decide +kernel) rfl), rfl, (t4_in 161 (by decide +kernel) rfl), Or.inl rfl, (t4_in 238 (by decide +kernel) rfl), (t5_in 19 (by decide +kernel) rfl), (t1_in 15 (by decide +kernel) rfl), by decide, by decide +kernel⟩
theorem dX6_splits_0 : decode cX6_splits 0 = .ok (.aload_n 0, 1) := by decide +kernel
theorem dX6_splits_1 : decode cX6_splits 1 = .ok (.bipush 40, 2) := by decide +kernel
theorem dX6_splits_3 : decode cX6_splits 3 = .ok (.invokevirtual 7, 3) := by decide +kernel
theorem dX6_splits_6 : decode cX6_splits 6 = .ok (.aload_n 0, 1) := by decide +kernel
theorem dX6_splits_7 : decode cX6_splits 7 = .ok (.iload_n 1, 1) := by decide +kernel
theorem dX6_splits_8 : decode cX6_splits 8 = .ok (.iconst 1, 1) := by decide +kernel
theorem dX6_splits_9 : decode cX6_splits 9 = .ok (.isub, 1) := by decide +kernel
theorem dX6_splits_10 : decode cX6_splits 10 = .ok (.invokespecial 13, 3) := by decide +kernel
theorem dX6_splits_13 : decode cX6_splits 13 = .ok (.ireturn, 1) := by decide +kernel
def f_X6_splits (S : Sh) (R : Rw)  (I : Iw) (a0 : Nat) (x1 : Int32) : Option (Iw × Int32) := gp (slg S a0) (bd (f_X9_ran S R I a0 (40 : Int32)) (fun r3 => bd (f_X9_splits S R r3 a0 (x1 - (1 : Int32))) (fun r4 => some (r4.1, r4.2))))
set_option maxHeartbeats 4000000 in
theorem b_X6_splits {E : Ev} {p : Program} {l : Launch} {e : Env} {s : State} {m : MethodId} {args : Array Value} {below : List Frame} {meth : Method} {c : Code} (C : Cx E RX6 cX6_splits 2 p s m c) (hr : meth.sig.returnType = (some .int)) (hk : meth.locks = false) {S : Sh} {R : Rw} {r : Iw × Int32}  : ∀ (I : Iw) (a0 : Nat) (x1 : Int32), f_X6_splits S R   I a0 x1 = some r → Wk E 2 p l e ({ frames := 2, cells := 0, slots := 0, locals := 43 } : Room) s m args below meth c 0 0 (MQ below (Qw E S R r.1 (some (.int r.2))) args s 0 0 (fun q => E.1 ≤ q)) 0 [(0, .ref (E.1 + a0)), (1, .int x1)] [] S R I := by
  intro I a0 x1 h
  rw [f_X6_splits] at h
  refine k_aloadn (pc := 0) C dX6_splits_0 (i := 0) rfl 0 rfl ?_
  refine k_bipush (pc := 1) C (v := (40 : Int32)) dX6_splits_1 (by decide) ?_
  obtain ⟨hs10, h⟩ := gp_e h
  obtain ⟨ci2, hs1t, hs1⟩ := slg_e hs10
  obtain ⟨r3, hr3, h⟩ := bd_e h
  refine k_U (pc := 3) (st := []) C (c_X9_ran hr3) (lkUT_RX6_7 _ hs1t) hs1 rfl rfl (Nat.le_of_ble_eq_true rfl) (Nat.le_of_ble_eq_true rfl) (Nat.le_of_ble_eq_true rfl) (Nat.le_of_ble_eq_true rfl) (Nat.le_of_ble_eq_true rfl) dX6_splits_3 ?_
  refine k_nf (cells2 := 0) (slots2 := 0) (st2 := []) rfl rfl rfl ?_
  refine k_aloadn (pc := 6) C dX6_splits_6 (i := 0) rfl 0 rfl ?_
  refine k_iloadn (pc := 7) C dX6_splits_7 (i := 1) rfl 1 rfl ?_
  refine k_iconst (pc := 8) C (v := (1 : Int32)) dX6_splits_8 (by decide) ?_
  refine k_isub (pc := 9) C dX6_splits_9 ?_
  obtain ⟨r4, hr4, h⟩ := bd_e h
  refine k_W (pc := 10) (st := []) C (c_X9_splits hr4) lkW_RX6_13 hs1 (ciT _ (sl_th _ hs1t)) rfl rfl (Nat.le_of_ble_eq_true rfl) (Nat.le_of_ble_eq_true rfl) (Nat.le_of_ble_eq_true rfl) (Nat.le_of_ble_eq_true rfl) (Nat.le_of_ble_eq_true rfl) dX6_splits_10 ?_
  refine k_nf (cells2 := 0) (slots2 := 0) (st2 := [.int r4.2]) rfl rfl rfl ?_
  have h := Option.some.inj h
  subst h
  exact k_iret (pc := 13) C hr hk dX6_splits_13
theorem c_X6_splits {E : Ev} {l : Launch} {S : Sh} {R : Rw} {I : Iw} {a0 : Nat} {x1 : Int32} {r : Iw × Int32} (h : f_X6_splits S R I a0 x1 = some r) : Mt E l yX6_splits cX6_splits 2 (some .int) 2 43 [.ref (E.1 + a0), .int x1] S R I S R r.1 (some (.int r.2)) 0 0 := mt_of (by decide) (Nat.le_of_ble_eq_true rfl) (fun p e s m args below meth c C hr hk hn => b_X6_splits C hr hk _ _ _ h)
theorem lkU_RX4_7_4 : LkU RX4 7 "UnlikeNeighbours$Thing" ⟨RX4, "ran", "(I)V"⟩ yX9_ran cX9_ran 2 none 1 4 := ⟨(t4_in 227 (by decide +kernel) rfl), ⟨(t4_in 228 (by decide +kernel) rfl), (t4_in 194 (by decide +kernel) rfl), cX9_ran, 2, none, (t4_in 195 (by decide +kernel) rfl)⟩, ⟨_, rfl, (t4_in 229 (by decide +kernel) rfl)⟩, (t4_in 194 (by decide +kernel) rfl), (t4_in 195 (by decide +kernel) rfl), (t1_in 15 (by decide +kernel) rfl), by decide, by decide +kernel⟩
theorem lkW_RX4_17 : LkW RX4 17 "UnlikeNeighbours$Sealed" ⟨RX6, "splits", "(I)I"⟩ yX6_splits cX6_splits 2 (some .int) 1 := ⟨(t5_in 6 (by decide +kernel) rfl), (t7_in 158 (by decide +kernel) rfl), rfl, (t4_in 173 (by decide +kernel) rfl), Or.inl rfl, (t5_in 7 (by decide +kernel) rfl), (t5_in 8 (by decide +kernel) rfl), (t1_in 19 (by decide +kernel) rfl), by decide, by decide +kernel⟩
theorem lkF_RX4_20_4 : LkF RX4 20 4 4 := ⟨RX4, TX4, 5, "UnlikeNeighbours$Royal", fc4, by decide, (t4_in 111 (by decide +kernel) rfl), Or.inr (t4_in 112 (by decide +kernel) rfl)⟩
theorem lkF_RX4_24_4 : LkF RX4 24 4 1 := ⟨RX4, TX4, 5, "UnlikeNeighbours$Royal", fc4, by decide, (t4_in 105 (by decide +kernel) rfl), Or.inr (t4_in 106 (by decide +kernel) rfl)⟩
theorem lkU_RX4_28_4 : LkU RX4 28 "UnlikeNeighbours$Thing" ⟨RX4, "weighs", "(I)I"⟩ yX9_weighs cX9_weighs 2 (some .int) 1 4 := ⟨(t5_in 14 (by decide +kernel) rfl), ⟨(t5_in 15 (by decide +kernel) rfl), (t4_in 184 (by decide +kernel) rfl), cX9_weighs, 2, (some .int), (t4_in 209 (by decide +kernel) rfl)⟩, ⟨_, rfl, (t5_in 16 (by decide +kernel) rfl)⟩, (t4_in 184 (by decide +kernel) rfl), (t4_in 209 (by decide +kernel) rfl), (t1_in 15 (by decide +kernel) rfl), by decide, by decide +kernel⟩
theorem dX4_splits_0 : decode cX4_splits 0 = .ok (.aload_n 0, 1) := by decide +kernel
theorem dX4_splits_1 : decode cX4_splits 1 = .ok (.bipush 61, 2) := by decide +kernel
theorem dX4_splits_3 : decode cX4_splits 3 = .ok (.invokevirtual 7, 3) := by decide +kernel
theorem dX4_splits_6 : decode cX4_splits 6 = .ok (.aload_n 0, 1) := by decide +kernel
theorem dX4_splits_7 : decode cX4_splits 7 = .ok (.iload_n 1, 1) := by decide +kernel
theorem dX4_splits_8 : decode cX4_splits 8 = .ok (.invokespecial 17, 3) := by decide +kernel
theorem dX4_splits_11 : decode cX4_splits 11 = .ok (.istore_n 2, 1) := by decide +kernel
theorem dX4_splits_12 : decode cX4_splits 12 = .ok (.aload_n 0, 1) := by decide +kernel
theorem dX4_splits_13 : decode cX4_splits 13 = .ok (.getfield 20, 3) := by decide +kernel
theorem dX4_splits_16 : decode cX4_splits 16 = .ok (.ifCond .eq 7, 3) := by decide +kernel
theorem dX4_splits_19 : decode cX4_splits 19 = .ok (.iconst 0, 1) := by decide +kernel
theorem dX4_splits_20 : decode cX4_splits 20 = .ok (.goto 13, 3) := by decide +kernel
theorem dX4_splits_23 : decode cX4_splits 23 = .ok (.iload_n 2, 1) := by decide +kernel
theorem dX4_splits_24 : decode cX4_splits 24 = .ok (.aload_n 0, 1) := by decide +kernel
theorem dX4_splits_25 : decode cX4_splits 25 = .ok (.aload_n 0, 1) := by decide +kernel
theorem dX4_splits_26 : decode cX4_splits 26 = .ok (.getfield 24, 3) := by decide +kernel
theorem dX4_splits_29 : decode cX4_splits 29 = .ok (.invokevirtual 28, 3) := by decide +kernel
theorem dX4_splits_32 : decode cX4_splits 32 = .ok (.iadd, 1) := by decide +kernel
theorem dX4_splits_33 : decode cX4_splits 33 = .ok (.ireturn, 1) := by decide +kernel
def f_X4_splits (S : Sh) (R : Rw)  (I : Iw) (a0 : Nat) (x1 : Int32) : Option (Iw × Int32) := gp (sok S a0 4 5) (bd (f_X9_ran S R I a0 (61 : Int32)) (fun r2 => bd (f_X6_splits S R r2 a0 x1) (fun r3 => (if (r3.1 a0 4) = 0 then bd (f_X9_weighs S R r3.1 a0 (r3.1 a0 1)) (fun r5 => some (r5.1, r3.2 + r5.2)) else some (r3.1, (0 : Int32))))))
set_option maxHeartbeats 4000000 in
theorem b_X4_splits {E : Ev} {p : Program} {l : Launch} {e : Env} {s : State} {m : MethodId} {args : Array Value} {below : List Frame} {meth : Method} {c : Code} (C : Cx E RX4 cX4_splits 3 p s m c) (hr : meth.sig.returnType = (some .int)) (hk : meth.locks = false) {S : Sh} {R : Rw} {r : Iw × Int32}  : ∀ (I : Iw) (a0 : Nat) (x1 : Int32), f_X4_splits S R   I a0 x1 = some r → Wk E 3 p l e ({ frames := 3, cells := 0, slots := 0, locals := 64 } : Room) s m args below meth c 0 0 (MQ below (Qw E S R r.1 (some (.int r.2))) args s 0 0 (fun q => E.1 ≤ q)) 0 [(0, .ref (E.1 + a0)), (1, .int x1)] [] S R I := by
  intro I a0 x1 h
  rw [f_X4_splits] at h
  refine k_aloadn (pc := 0) C dX4_splits_0 (i := 0) rfl 0 rfl ?_
  refine k_bipush (pc := 1) C (v := (61 : Int32)) dX4_splits_1 (by decide) ?_
  obtain ⟨hs10, h⟩ := gp_e h
  have hs1 := sok_e hs10
  obtain ⟨r2, hr2, h⟩ := bd_e h
  refine k_U (pc := 3) (st := []) C (c_X9_ran hr2) lkU_RX4_7_4 hs1 rfl rfl (Nat.le_of_ble_eq_true rfl) (Nat.le_of_ble_eq_true rfl) (Nat.le_of_ble_eq_true rfl) (Nat.le_of_ble_eq_true rfl) (Nat.le_of_ble_eq_true rfl) dX4_splits_3 ?_
  refine k_nf (cells2 := 0) (slots2 := 0) (st2 := []) rfl rfl rfl ?_
  refine k_aloadn (pc := 6) C dX4_splits_6 (i := 0) rfl 0 rfl ?_
  refine k_iloadn (pc := 7) C dX4_splits_7 (i := 1) rfl 1 rfl ?_
  obtain ⟨r3, hr3, h⟩ := bd_e h
  refine k_W (pc := 8) (st := []) C (c_X6_splits hr3) lkW_RX4_17 hs1 ⟨_, rfl⟩ rfl rfl (Nat.le_of_ble_eq_true rfl) (Nat.le_of_ble_eq_true rfl) (Nat.le_of_ble_eq_true rfl) (Nat.le_of_ble_eq_true rfl) (Nat.le_of_ble_eq_true rfl) dX4_splits_8 ?_
  refine k_nf (cells2 := 0) (slots2 := 0) (st2 := [.int r3.2]) rfl rfl rfl ?_
  refine k_istoren (pc := 11) C dX4_splits_11 (i := 2) rfl (by decide) (L2 := [(0, .ref (E.1 + a0)), (1, .int x1), (2, .int r3.2)]) rfl ?_
  refine k_aloadn (pc := 12) C dX4_splits_12 (i := 0) rfl 0 rfl ?_
  refine k_getI (pc := 13) C lkF_RX4_20_4 hs1 ir_4_4 dX4_splits_13 ?_
  refine k_if_eq (pc := 16) C dX4_splits_16 (tgt := 23) (by decide) (fun hc4 => ?_) (fun hc4 => ?_)
  · rw [if_pos hc4] at h
    refine k_iloadn (pc := 23) C dX4_splits_23 (i := 2) rfl 2 rfl ?_
    refine k_aloadn (pc := 24) C dX4_splits_24 (i := 0) rfl 0 rfl ?_
    refine k_aloadn (pc := 25) C dX4_splits_25 (i := 0) rfl 0 rfl ?_
    refine k_getI (pc := 26) C lkF_RX4_24_4 hs1 ir_4_1 dX4_splits_26 ?_
    obtain ⟨r5, hr5, h⟩ := bd_e h
    refine k_U (pc := 29) (st := [.int r3.2]) C (c_X9_weighs hr5) lkU_RX4_28_4 hs1 rfl rfl (Nat.le_of_ble_eq_true rfl) (Nat.le_of_ble_eq_true rfl) (Nat.le_of_ble_eq_true rfl) (Nat.le_of_ble_eq_true rfl) (Nat.le_of_ble_eq_true rfl) dX4_splits_29 ?_
    refine k_nf (cells2 := 0) (slots2 := 0) (st2 := [.int r5.2, .int r3.2]) rfl rfl rfl ?_
    refine k_iadd (pc := 32) C dX4_splits_32 ?_
    have h := Option.some.inj h
    subst h
    exact k_iret (pc := 33) C hr hk dX4_splits_33
  · rw [if_neg hc4] at h
    refine k_iconst (pc := 19) C (v := (0 : Int32)) dX4_splits_19 (by decide) ?_
    refine k_goto (pc := 20) C dX4_splits_20 (tgt := 33) (by decide) ?_
    have h := Option.some.inj h
    subst h
    exact k_iret (pc := 33) C hr hk dX4_splits_33
theorem c_X4_splits {E : Ev} {l : Launch} {S : Sh} {R : Rw} {I : Iw} {a0 : Nat} {x1 : Int32} {r : Iw × Int32} (h : f_X4_splits S R I a0 x1 = some r) : Mt E l yX4_splits cX4_splits 3 (some .int) 3 64 [.ref (E.1 + a0), .int x1] S R I S R r.1 (some (.int r.2)) 0 0 := mt_of (by decide) (Nat.le_of_ble_eq_true rfl) (fun p e s m args below meth c C hr hk hn => b_X4_splits C hr hk _ _ _ h)
