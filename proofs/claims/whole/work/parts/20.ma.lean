/-! X7_add, X7_addReport, X7_becomeKind, X7_becomeGap, X7_putOut, X7_bringBack, X7_placeInLine, X7_couldGoBehind, X7_fits -/
theorem lkF_RX7_53_7 : LkF RX7 53 7 6 := ⟨RX7, TX7, 16, "UnlikeNeighbours$Shed", fc7, by decide, (t1_in 85 (by decide +kernel) rfl), Or.inl rfl⟩
theorem lkP_RX7_53_7 : LkP RX7 53 7 6 .int := ⟨RX7, TX7, 16, "UnlikeNeighbours$Shed", fc7, by decide, (t1_in 85 (by decide +kernel) rfl), Or.inl rfl, rfl, by decide +kernel⟩
theorem lkP_RX7_50_7 : LkP RX7 50 7 5 .int := ⟨RX7, TX7, 16, "UnlikeNeighbours$Shed", fc7, by decide, (t1_in 82 (by decide +kernel) rfl), Or.inl rfl, rfl, by decide +kernel⟩
theorem lkV_RX7_56 : LkV RX7 56 RX7 yX7_renewMates cX7_renewMates 4 none 0 := ⟨(t2_in 41 (by decide +kernel) rfl), (t2_in 42 (by decide +kernel) rfl), (t2_in 43 (by decide +kernel) rfl), (t2_in 44 (by decide +kernel) rfl), (t1_in 2 (by decide +kernel) rfl), by decide, by decide +kernel⟩
theorem dX7_add_0 : decode cX7_add 0 = .ok (.aload_n 0, 1) := by decide +kernel
theorem dX7_add_1 : decode cX7_add 1 = .ok (.getfield 50, 3) := by decide +kernel
theorem dX7_add_4 : decode cX7_add 4 = .ok (.bipush 9, 2) := by decide +kernel
theorem dX7_add_6 : decode cX7_add 6 = .ok (.if_icmp .lt 6, 3) := by decide +kernel
theorem dX7_add_9 : decode cX7_add 9 = .ok (.bipush (-2), 2) := by decide +kernel
theorem dX7_add_11 : decode cX7_add 11 = .ok (.ireturn, 1) := by decide +kernel
theorem dX7_add_12 : decode cX7_add 12 = .ok (.aload_n 0, 1) := by decide +kernel
theorem dX7_add_13 : decode cX7_add 13 = .ok (.getfield 50, 3) := by decide +kernel
theorem dX7_add_16 : decode cX7_add 16 = .ok (.istore 5, 2) := by decide +kernel
theorem dX7_add_18 : decode cX7_add 18 = .ok (.aload_n 0, 1) := by decide +kernel
theorem dX7_add_19 : decode cX7_add 19 = .ok (.getfield 9, 3) := by decide +kernel
theorem dX7_add_22 : decode cX7_add 22 = .ok (.iload 5, 2) := by decide +kernel
theorem dX7_add_24 : decode cX7_add 24 = .ok (.iload_n 1, 1) := by decide +kernel
theorem dX7_add_25 : decode cX7_add 25 = .ok (.iastore, 1) := by decide +kernel
theorem dX7_add_26 : decode cX7_add 26 = .ok (.aload_n 0, 1) := by decide +kernel
theorem dX7_add_27 : decode cX7_add 27 = .ok (.getfield 15, 3) := by decide +kernel
theorem dX7_add_30 : decode cX7_add 30 = .ok (.iload 5, 2) := by decide +kernel
theorem dX7_add_32 : decode cX7_add 32 = .ok (.iload_n 2, 1) := by decide +kernel
theorem dX7_add_33 : decode cX7_add 33 = .ok (.iastore, 1) := by decide +kernel
theorem dX7_add_34 : decode cX7_add 34 = .ok (.aload_n 0, 1) := by decide +kernel
theorem dX7_add_35 : decode cX7_add 35 = .ok (.getfield 18, 3) := by decide +kernel
theorem dX7_add_38 : decode cX7_add 38 = .ok (.iload 5, 2) := by decide +kernel
theorem dX7_add_40 : decode cX7_add 40 = .ok (.iload_n 3, 1) := by decide +kernel
theorem dX7_add_41 : decode cX7_add 41 = .ok (.iastore, 1) := by decide +kernel
theorem dX7_add_42 : decode cX7_add 42 = .ok (.aload_n 0, 1) := by decide +kernel
theorem dX7_add_43 : decode cX7_add 43 = .ok (.getfield 21, 3) := by decide +kernel
theorem dX7_add_46 : decode cX7_add 46 = .ok (.iload 5, 2) := by decide +kernel
theorem dX7_add_48 : decode cX7_add 48 = .ok (.iload 4, 2) := by decide +kernel
theorem dX7_add_50 : decode cX7_add 50 = .ok (.iastore, 1) := by decide +kernel
theorem dX7_add_51 : decode cX7_add 51 = .ok (.aload_n 0, 1) := by decide +kernel
theorem dX7_add_52 : decode cX7_add 52 = .ok (.dup, 1) := by decide +kernel
theorem dX7_add_53 : decode cX7_add 53 = .ok (.getfield 53, 3) := by decide +kernel
theorem dX7_add_56 : decode cX7_add 56 = .ok (.iconst 1, 1) := by decide +kernel
theorem dX7_add_57 : decode cX7_add 57 = .ok (.iload 5, 2) := by decide +kernel
theorem dX7_add_59 : decode cX7_add 59 = .ok (.ishl, 1) := by decide +kernel
theorem dX7_add_60 : decode cX7_add 60 = .ok (.ior, 1) := by decide +kernel
theorem dX7_add_61 : decode cX7_add 61 = .ok (.putfield 53, 3) := by decide +kernel
theorem dX7_add_64 : decode cX7_add 64 = .ok (.aload_n 0, 1) := by decide +kernel
theorem dX7_add_65 : decode cX7_add 65 = .ok (.dup, 1) := by decide +kernel
theorem dX7_add_66 : decode cX7_add 66 = .ok (.getfield 50, 3) := by decide +kernel
theorem dX7_add_69 : decode cX7_add 69 = .ok (.iconst 1, 1) := by decide +kernel
theorem dX7_add_70 : decode cX7_add 70 = .ok (.iadd, 1) := by decide +kernel
theorem dX7_add_71 : decode cX7_add 71 = .ok (.putfield 50, 3) := by decide +kernel
theorem dX7_add_74 : decode cX7_add 74 = .ok (.aload_n 0, 1) := by decide +kernel
theorem dX7_add_75 : decode cX7_add 75 = .ok (.invokevirtual 56, 3) := by decide +kernel
theorem dX7_add_78 : decode cX7_add 78 = .ok (.iload 5, 2) := by decide +kernel
theorem dX7_add_80 : decode cX7_add 80 = .ok (.ireturn, 1) := by decide +kernel
def f_X7_add (S : Sh) (R : Rw)  (I : Iw) (a0 : Nat) (x1 : Int32) (x2 : Int32) (x3 : Int32) (x4 : Int32) : Option (Iw × Int32) := gp (sok S a0 7 16) ((if (I a0 5) < (9 : Int32) then rl (R a0 0) (fun b3 => gp (aok S 20 b3 (I a0 5)) (lt (up2 I b3 (I a0 5).toNatClampNeg x1) (fun I5 => rl (R a0 1) (fun b6 => gp (aok S 20 b6 (I a0 5)) (lt (up2 I5 b6 (I a0 5).toNatClampNeg x2) (fun I8 => rl (R a0 2) (fun b9 => gp (aok S 20 b9 (I a0 5)) (lt (up2 I8 b9 (I a0 5).toNatClampNeg x3) (fun I11 => rl (R a0 3) (fun b12 => gp (aok S 20 b12 (I a0 5)) (lt (up2 I11 b12 (I a0 5).toNatClampNeg x4) (fun I14 => lt (up2 I14 a0 6 ((I14 a0 6) ||| ((1 : Int32) <<< ((I a0 5) &&& 31)))) (fun I15 => lt (up2 I15 a0 5 ((I15 a0 5) + (1 : Int32))) (fun I16 => bd (f_X7_renewMates S R I16 a0) (fun r17 => some (r17, I a0 5)))))))))))))))) else some (I, (-2 : Int32))))
set_option maxHeartbeats 4000000 in
theorem b_X7_add {E : Ev} {p : Program} {l : Launch} {e : Env} {s : State} {m : MethodId} {args : Array Value} {below : List Frame} {meth : Method} {c : Code} (C : Cx E RX7 cX7_add 6 p s m c) (hr : meth.sig.returnType = (some .int)) (hk : meth.locks = false) {S : Sh} {R : Rw} {r : Iw × Int32}  : ∀ (I : Iw) (a0 : Nat) (x1 : Int32) (x2 : Int32) (x3 : Int32) (x4 : Int32), f_X7_add S R   I a0 x1 x2 x3 x4 = some r → Wk E 6 p l e ({ frames := 5, cells := 0, slots := 0, locals := 111 } : Room) s m args below meth c 0 0 (MQ below (Qw E S R r.1 (some (.int r.2))) args s 0 0 (fun q => E.1 ≤ q)) 0 [(0, .ref (E.1 + a0)), (1, .int x1), (2, .int x2), (3, .int x3), (4, .int x4)] [] S R I := by
  intro I a0 x1 x2 x3 x4 h
  rw [f_X7_add] at h
  refine k_aloadn (pc := 0) C dX7_add_0 (i := 0) rfl 0 rfl ?_
  obtain ⟨hs10, h⟩ := gp_e h
  have hs1 := sok_e hs10
  refine k_getI (pc := 1) C lkF_RX7_50_7 hs1 ir_7_5 dX7_add_1 ?_
  refine k_bipush (pc := 4) C (v := (9 : Int32)) dX7_add_4 (by decide) ?_
  refine k_icmp_lt (pc := 6) C dX7_add_6 (tgt := 12) (by decide) (fun hc2 => ?_) (fun hc2 => ?_)
  · rw [if_pos hc2] at h
    refine k_aloadn (pc := 12) C dX7_add_12 (i := 0) rfl 0 rfl ?_
    refine k_getI (pc := 13) C lkF_RX7_50_7 hs1 ir_7_5 dX7_add_13 ?_
    refine k_istore (pc := 16) C dX7_add_16 (by decide) (L2 := [(0, .ref (E.1 + a0)), (1, .int x1), (2, .int x2), (3, .int x3), (4, .int x4), (5, .int (I a0 5))]) rfl ?_
    refine k_aloadn (pc := 18) C dX7_add_18 (i := 0) rfl 0 rfl ?_
    obtain ⟨b3, hb3, h⟩ := rl_e h
    refine k_getR (pc := 19) C lkF_RX7_9_7 hs1 ir_7_0 hb3 dX7_add_19 ?_
    refine k_iload (pc := 22) C dX7_add_22 5 rfl ?_
    refine k_iloadn (pc := 24) C dX7_add_24 (i := 1) rfl 1 rfl ?_
    obtain ⟨ha4, h⟩ := gp_e h
    obtain ⟨I5, eI5, h⟩ := lt_e h
    refine k_iast (pc := 25) C ha4 dX7_add_25 ?_
    rw [← eI5]
    refine k_aloadn (pc := 26) C dX7_add_26 (i := 0) rfl 0 rfl ?_
    obtain ⟨b6, hb6, h⟩ := rl_e h
    refine k_getR (pc := 27) C lkF_RX7_15_7 hs1 ir_7_1 hb6 dX7_add_27 ?_
    refine k_iload (pc := 30) C dX7_add_30 5 rfl ?_
    refine k_iloadn (pc := 32) C dX7_add_32 (i := 2) rfl 2 rfl ?_
    obtain ⟨ha7, h⟩ := gp_e h
    obtain ⟨I8, eI8, h⟩ := lt_e h
    refine k_iast (pc := 33) C ha7 dX7_add_33 ?_
    rw [← eI8]
    refine k_aloadn (pc := 34) C dX7_add_34 (i := 0) rfl 0 rfl ?_
    obtain ⟨b9, hb9, h⟩ := rl_e h
    refine k_getR (pc := 35) C lkF_RX7_18_7 hs1 ir_7_2 hb9 dX7_add_35 ?_
    refine k_iload (pc := 38) C dX7_add_38 5 rfl ?_
    refine k_iloadn (pc := 40) C dX7_add_40 (i := 3) rfl 3 rfl ?_
    obtain ⟨ha10, h⟩ := gp_e h
    obtain ⟨I11, eI11, h⟩ := lt_e h
    refine k_iast (pc := 41) C ha10 dX7_add_41 ?_
    rw [← eI11]
    refine k_aloadn (pc := 42) C dX7_add_42 (i := 0) rfl 0 rfl ?_
    obtain ⟨b12, hb12, h⟩ := rl_e h
    refine k_getR (pc := 43) C lkF_RX7_21_7 hs1 ir_7_3 hb12 dX7_add_43 ?_
    refine k_iload (pc := 46) C dX7_add_46 5 rfl ?_
    refine k_iload (pc := 48) C dX7_add_48 4 rfl ?_
    obtain ⟨ha13, h⟩ := gp_e h
    obtain ⟨I14, eI14, h⟩ := lt_e h
    refine k_iast (pc := 50) C ha13 dX7_add_50 ?_
    rw [← eI14]
    refine k_aloadn (pc := 51) C dX7_add_51 (i := 0) rfl 0 rfl ?_
    refine k_dup (pc := 52) C dX7_add_52 rfl ?_
    refine k_getI (pc := 53) C lkF_RX7_53_7 hs1 ir_7_6 dX7_add_53 ?_
    refine k_iconst (pc := 56) C (v := (1 : Int32)) dX7_add_56 (by decide) ?_
    refine k_iload (pc := 57) C dX7_add_57 5 rfl ?_
    refine k_ishl (pc := 59) C dX7_add_59 ?_
    refine k_ior (pc := 60) C dX7_add_60 ?_
    obtain ⟨I15, eI15, h⟩ := lt_e h
    refine k_putI (pc := 61) C lkP_RX7_53_7 hs1 ir_7_6 dX7_add_61 ?_
    rw [← eI15]
    refine k_aloadn (pc := 64) C dX7_add_64 (i := 0) rfl 0 rfl ?_
    refine k_dup (pc := 65) C dX7_add_65 rfl ?_
    refine k_getI (pc := 66) C lkF_RX7_50_7 hs1 ir_7_5 dX7_add_66 ?_
    refine k_iconst (pc := 69) C (v := (1 : Int32)) dX7_add_69 (by decide) ?_
    refine k_iadd (pc := 70) C dX7_add_70 ?_
    obtain ⟨I16, eI16, h⟩ := lt_e h
    refine k_putI (pc := 71) C lkP_RX7_50_7 hs1 ir_7_5 dX7_add_71 ?_
    rw [← eI16]
    refine k_aloadn (pc := 74) C dX7_add_74 (i := 0) rfl 0 rfl ?_
    obtain ⟨r17, hr17, h⟩ := bd_e h
    refine k_V (pc := 75) (st := []) C (c_X7_renewMates hr17) lkV_RX7_56 hs1 rfl rfl rfl (Nat.le_of_ble_eq_true rfl) (Nat.le_of_ble_eq_true rfl) (Nat.le_of_ble_eq_true rfl) (Nat.le_of_ble_eq_true rfl) (Nat.le_of_ble_eq_true rfl) dX7_add_75 ?_
    refine k_nf (cells2 := 0) (slots2 := 0) (st2 := []) rfl rfl rfl ?_
    refine k_iload (pc := 78) C dX7_add_78 5 rfl ?_
    have h := Option.some.inj h
    subst h
    exact k_iret (pc := 80) C hr hk dX7_add_80
  · rw [if_neg hc2] at h
    refine k_bipush (pc := 9) C (v := (-2 : Int32)) dX7_add_9 (by decide) ?_
    have h := Option.some.inj h
    subst h
    exact k_iret (pc := 11) C hr hk dX7_add_11
theorem c_X7_add {E : Ev} {l : Launch} {S : Sh} {R : Rw} {I : Iw} {a0 : Nat} {x1 : Int32} {x2 : Int32} {x3 : Int32} {x4 : Int32} {r : Iw × Int32} (h : f_X7_add S R I a0 x1 x2 x3 x4 = some r) : Mt E l yX7_add cX7_add 6 (some .int) 5 111 [.ref (E.1 + a0), .int x1, .int x2, .int x3, .int x4] S R I S R r.1 (some (.int r.2)) 0 0 := mt_of (by decide) (Nat.le_of_ble_eq_true rfl) (fun p e s m args below meth c C hr hk hn => b_X7_add C hr hk _ _ _ _ _ _ h)
theorem lkF_RX7_59_7 : LkF RX7 59 7 14 := ⟨RX7, TX7, 16, "UnlikeNeighbours$Shed", fc7, by decide, (t1_in 101 (by decide +kernel) rfl), Or.inl rfl⟩
theorem lkF_RX7_41_7 : LkF RX7 41 7 12 := ⟨RX7, TX7, 16, "UnlikeNeighbours$Shed", fc7, by decide, (t1_in 99 (by decide +kernel) rfl), Or.inl rfl⟩
theorem lkF_RX7_44_7 : LkF RX7 44 7 13 := ⟨RX7, TX7, 16, "UnlikeNeighbours$Shed", fc7, by decide, (t1_in 100 (by decide +kernel) rfl), Or.inl rfl⟩
theorem lkP_RX7_59_7 : LkP RX7 59 7 14 .int := ⟨RX7, TX7, 16, "UnlikeNeighbours$Shed", fc7, by decide, (t1_in 101 (by decide +kernel) rfl), Or.inl rfl, rfl, by decide +kernel⟩
theorem dX7_addReport_0 : decode cX7_addReport 0 = .ok (.aload_n 0, 1) := by decide +kernel
theorem dX7_addReport_1 : decode cX7_addReport 1 = .ok (.getfield 59, 3) := by decide +kernel
theorem dX7_addReport_4 : decode cX7_addReport 4 = .ok (.bipush 6, 2) := by decide +kernel
theorem dX7_addReport_6 : decode cX7_addReport 6 = .ok (.if_icmp .lt 6, 3) := by decide +kernel
theorem dX7_addReport_9 : decode cX7_addReport 9 = .ok (.bipush (-2), 2) := by decide +kernel
theorem dX7_addReport_11 : decode cX7_addReport 11 = .ok (.ireturn, 1) := by decide +kernel
theorem dX7_addReport_12 : decode cX7_addReport 12 = .ok (.aload_n 0, 1) := by decide +kernel
theorem dX7_addReport_13 : decode cX7_addReport 13 = .ok (.getfield 41, 3) := by decide +kernel
theorem dX7_addReport_16 : decode cX7_addReport 16 = .ok (.aload_n 0, 1) := by decide +kernel
theorem dX7_addReport_17 : decode cX7_addReport 17 = .ok (.getfield 59, 3) := by decide +kernel
theorem dX7_addReport_20 : decode cX7_addReport 20 = .ok (.iload_n 1, 1) := by decide +kernel
theorem dX7_addReport_21 : decode cX7_addReport 21 = .ok (.iastore, 1) := by decide +kernel
theorem dX7_addReport_22 : decode cX7_addReport 22 = .ok (.aload_n 0, 1) := by decide +kernel
theorem dX7_addReport_23 : decode cX7_addReport 23 = .ok (.getfield 44, 3) := by decide +kernel
theorem dX7_addReport_26 : decode cX7_addReport 26 = .ok (.aload_n 0, 1) := by decide +kernel
theorem dX7_addReport_27 : decode cX7_addReport 27 = .ok (.getfield 59, 3) := by decide +kernel
theorem dX7_addReport_30 : decode cX7_addReport 30 = .ok (.iload_n 2, 1) := by decide +kernel
theorem dX7_addReport_31 : decode cX7_addReport 31 = .ok (.iastore, 1) := by decide +kernel
theorem dX7_addReport_32 : decode cX7_addReport 32 = .ok (.aload_n 0, 1) := by decide +kernel
theorem dX7_addReport_33 : decode cX7_addReport 33 = .ok (.dup, 1) := by decide +kernel
theorem dX7_addReport_34 : decode cX7_addReport 34 = .ok (.getfield 59, 3) := by decide +kernel
theorem dX7_addReport_37 : decode cX7_addReport 37 = .ok (.iconst 1, 1) := by decide +kernel
theorem dX7_addReport_38 : decode cX7_addReport 38 = .ok (.iadd, 1) := by decide +kernel
theorem dX7_addReport_39 : decode cX7_addReport 39 = .ok (.putfield 59, 3) := by decide +kernel
theorem dX7_addReport_42 : decode cX7_addReport 42 = .ok (.aload_n 0, 1) := by decide +kernel
theorem dX7_addReport_43 : decode cX7_addReport 43 = .ok (.getfield 59, 3) := by decide +kernel
theorem dX7_addReport_46 : decode cX7_addReport 46 = .ok (.iconst 1, 1) := by decide +kernel
theorem dX7_addReport_47 : decode cX7_addReport 47 = .ok (.isub, 1) := by decide +kernel
theorem dX7_addReport_48 : decode cX7_addReport 48 = .ok (.ireturn, 1) := by decide +kernel
def f_X7_addReport (S : Sh) (R : Rw)  (I : Iw) (a0 : Nat) (x1 : Int32) (x2 : Int32) : Option (Iw × Int32) := gp (sok S a0 7 16) ((if (I a0 14) < (6 : Int32) then rl (R a0 12) (fun b3 => gp (aok S 20 b3 (I a0 14)) (lt (up2 I b3 (I a0 14).toNatClampNeg x1) (fun I5 => rl (R a0 13) (fun b6 => gp (aok S 20 b6 (I5 a0 14)) (lt (up2 I5 b6 (I5 a0 14).toNatClampNeg x2) (fun I8 => lt (up2 I8 a0 14 ((I8 a0 14) + (1 : Int32))) (fun I9 => some (I9, (I9 a0 14) - (1 : Int32))))))))) else some (I, (-2 : Int32))))
set_option maxHeartbeats 4000000 in
theorem b_X7_addReport {E : Ev} {p : Program} {l : Launch} {e : Env} {s : State} {m : MethodId} {args : Array Value} {below : List Frame} {meth : Method} {c : Code} (C : Cx E RX7 cX7_addReport 3 p s m c) (hr : meth.sig.returnType = (some .int)) (hk : meth.locks = false) {S : Sh} {R : Rw} {r : Iw × Int32}  : ∀ (I : Iw) (a0 : Nat) (x1 : Int32) (x2 : Int32), f_X7_addReport S R   I a0 x1 x2 = some r → Wk E 3 p l e ({ frames := 0, cells := 0, slots := 0, locals := 0 } : Room) s m args below meth c 0 0 (MQ below (Qw E S R r.1 (some (.int r.2))) args s 0 0 (fun q => E.1 ≤ q)) 0 [(0, .ref (E.1 + a0)), (1, .int x1), (2, .int x2)] [] S R I := by
  intro I a0 x1 x2 h
  rw [f_X7_addReport] at h
  refine k_aloadn (pc := 0) C dX7_addReport_0 (i := 0) rfl 0 rfl ?_
  obtain ⟨hs10, h⟩ := gp_e h
  have hs1 := sok_e hs10
  refine k_getI (pc := 1) C lkF_RX7_59_7 hs1 ir_7_14 dX7_addReport_1 ?_
  refine k_bipush (pc := 4) C (v := (6 : Int32)) dX7_addReport_4 (by decide) ?_
  refine k_icmp_lt (pc := 6) C dX7_addReport_6 (tgt := 12) (by decide) (fun hc2 => ?_) (fun hc2 => ?_)
  · rw [if_pos hc2] at h
    refine k_aloadn (pc := 12) C dX7_addReport_12 (i := 0) rfl 0 rfl ?_
    obtain ⟨b3, hb3, h⟩ := rl_e h
    refine k_getR (pc := 13) C lkF_RX7_41_7 hs1 ir_7_12 hb3 dX7_addReport_13 ?_
    refine k_aloadn (pc := 16) C dX7_addReport_16 (i := 0) rfl 0 rfl ?_
    refine k_getI (pc := 17) C lkF_RX7_59_7 hs1 ir_7_14 dX7_addReport_17 ?_
    refine k_iloadn (pc := 20) C dX7_addReport_20 (i := 1) rfl 1 rfl ?_
    obtain ⟨ha4, h⟩ := gp_e h
    obtain ⟨I5, eI5, h⟩ := lt_e h
    refine k_iast (pc := 21) C ha4 dX7_addReport_21 ?_
    rw [← eI5]
    refine k_aloadn (pc := 22) C dX7_addReport_22 (i := 0) rfl 0 rfl ?_
    obtain ⟨b6, hb6, h⟩ := rl_e h
    refine k_getR (pc := 23) C lkF_RX7_44_7 hs1 ir_7_13 hb6 dX7_addReport_23 ?_
    refine k_aloadn (pc := 26) C dX7_addReport_26 (i := 0) rfl 0 rfl ?_
    refine k_getI (pc := 27) C lkF_RX7_59_7 hs1 ir_7_14 dX7_addReport_27 ?_
    refine k_iloadn (pc := 30) C dX7_addReport_30 (i := 2) rfl 2 rfl ?_
    obtain ⟨ha7, h⟩ := gp_e h
    obtain ⟨I8, eI8, h⟩ := lt_e h
    refine k_iast (pc := 31) C ha7 dX7_addReport_31 ?_
    rw [← eI8]
    refine k_aloadn (pc := 32) C dX7_addReport_32 (i := 0) rfl 0 rfl ?_
    refine k_dup (pc := 33) C dX7_addReport_33 rfl ?_
    refine k_getI (pc := 34) C lkF_RX7_59_7 hs1 ir_7_14 dX7_addReport_34 ?_
    refine k_iconst (pc := 37) C (v := (1 : Int32)) dX7_addReport_37 (by decide) ?_
    refine k_iadd (pc := 38) C dX7_addReport_38 ?_
    obtain ⟨I9, eI9, h⟩ := lt_e h
    refine k_putI (pc := 39) C lkP_RX7_59_7 hs1 ir_7_14 dX7_addReport_39 ?_
    rw [← eI9]
    refine k_aloadn (pc := 42) C dX7_addReport_42 (i := 0) rfl 0 rfl ?_
    refine k_getI (pc := 43) C lkF_RX7_59_7 hs1 ir_7_14 dX7_addReport_43 ?_
    refine k_iconst (pc := 46) C (v := (1 : Int32)) dX7_addReport_46 (by decide) ?_
    refine k_isub (pc := 47) C dX7_addReport_47 ?_
    have h := Option.some.inj h
    subst h
    exact k_iret (pc := 48) C hr hk dX7_addReport_48
  · rw [if_neg hc2] at h
    refine k_bipush (pc := 9) C (v := (-2 : Int32)) dX7_addReport_9 (by decide) ?_
    have h := Option.some.inj h
    subst h
    exact k_iret (pc := 11) C hr hk dX7_addReport_11
theorem c_X7_addReport {E : Ev} {l : Launch} {S : Sh} {R : Rw} {I : Iw} {a0 : Nat} {x1 : Int32} {x2 : Int32} {r : Iw × Int32} (h : f_X7_addReport S R I a0 x1 x2 = some r) : Mt E l yX7_addReport cX7_addReport 3 (some .int) 0 0 [.ref (E.1 + a0), .int x1, .int x2] S R I S R r.1 (some (.int r.2)) 0 0 := mt_of (by decide) (Nat.le_of_ble_eq_true rfl) (fun p e s m args below meth c C hr hk hn => b_X7_addReport C hr hk _ _ _ _ h)
theorem dX7_becomeKind_0 : decode cX7_becomeKind 0 = .ok (.aload_n 0, 1) := by decide +kernel
theorem dX7_becomeKind_1 : decode cX7_becomeKind 1 = .ok (.iload_n 1, 1) := by decide +kernel
theorem dX7_becomeKind_2 : decode cX7_becomeKind 2 = .ok (.invokevirtual 62, 3) := by decide +kernel
theorem dX7_becomeKind_5 : decode cX7_becomeKind 5 = .ok (.ifCond .eq 14, 3) := by decide +kernel
theorem dX7_becomeKind_8 : decode cX7_becomeKind 8 = .ok (.aload_n 0, 1) := by decide +kernel
theorem dX7_becomeKind_9 : decode cX7_becomeKind 9 = .ok (.getfield 9, 3) := by decide +kernel
theorem dX7_becomeKind_12 : decode cX7_becomeKind 12 = .ok (.iload_n 1, 1) := by decide +kernel
theorem dX7_becomeKind_13 : decode cX7_becomeKind 13 = .ok (.iload_n 2, 1) := by decide +kernel
theorem dX7_becomeKind_14 : decode cX7_becomeKind 14 = .ok (.iastore, 1) := by decide +kernel
theorem dX7_becomeKind_15 : decode cX7_becomeKind 15 = .ok (.aload_n 0, 1) := by decide +kernel
theorem dX7_becomeKind_16 : decode cX7_becomeKind 16 = .ok (.invokevirtual 56, 3) := by decide +kernel
theorem dX7_becomeKind_19 : decode cX7_becomeKind 19 = .ok (.return_, 1) := by decide +kernel
def f_X7_becomeKind (S : Sh) (R : Rw)  (I : Iw) (a0 : Nat) (x1 : Int32) (x2 : Int32) : Option (Iw) := gp (sok S a0 7 16) (bd (f_X7_has S R I a0 x1) (fun r2 => (if r2 = 0 then some I else rl (R a0 0) (fun b4 => gp (aok S 20 b4 x1) (lt (up2 I b4 x1.toNatClampNeg x2) (fun I6 => bd (f_X7_renewMates S R I6 a0) (fun r7 => some r7)))))))
set_option maxHeartbeats 4000000 in
theorem b_X7_becomeKind {E : Ev} {p : Program} {l : Launch} {e : Env} {s : State} {m : MethodId} {args : Array Value} {below : List Frame} {meth : Method} {c : Code} (C : Cx E RX7 cX7_becomeKind 3 p s m c) (hr : meth.sig.returnType = none) (hk : meth.locks = false) {S : Sh} {R : Rw} {r : Iw}  : ∀ (I : Iw) (a0 : Nat) (x1 : Int32) (x2 : Int32), f_X7_becomeKind S R   I a0 x1 x2 = some r → Wk E 3 p l e ({ frames := 5, cells := 0, slots := 0, locals := 111 } : Room) s m args below meth c 0 0 (MQ below (Qw E S R r none) args s 0 0 (fun q => E.1 ≤ q)) 0 [(0, .ref (E.1 + a0)), (1, .int x1), (2, .int x2)] [] S R I := by
  intro I a0 x1 x2 h
  rw [f_X7_becomeKind] at h
  refine k_aloadn (pc := 0) C dX7_becomeKind_0 (i := 0) rfl 0 rfl ?_
  refine k_iloadn (pc := 1) C dX7_becomeKind_1 (i := 1) rfl 1 rfl ?_
  obtain ⟨hs10, h⟩ := gp_e h
  have hs1 := sok_e hs10
  obtain ⟨r2, hr2, h⟩ := bd_e h
  refine k_V (pc := 2) (st := []) C (c_X7_has hr2) lkV_RX7_62 hs1 rfl rfl rfl (Nat.le_of_ble_eq_true rfl) (Nat.le_of_ble_eq_true rfl) (Nat.le_of_ble_eq_true rfl) (Nat.le_of_ble_eq_true rfl) (Nat.le_of_ble_eq_true rfl) dX7_becomeKind_2 ?_
  refine k_nf (cells2 := 0) (slots2 := 0) (st2 := [.int r2]) rfl rfl rfl ?_
  refine k_if_eq (pc := 5) C dX7_becomeKind_5 (tgt := 19) (by decide) (fun hc3 => ?_) (fun hc3 => ?_)
  · rw [if_pos hc3] at h
    have h := Option.some.inj h
    subst h
    exact k_vret (pc := 19) C hr hk dX7_becomeKind_19
  · rw [if_neg hc3] at h
    refine k_aloadn (pc := 8) C dX7_becomeKind_8 (i := 0) rfl 0 rfl ?_
    obtain ⟨b4, hb4, h⟩ := rl_e h
    refine k_getR (pc := 9) C lkF_RX7_9_7 hs1 ir_7_0 hb4 dX7_becomeKind_9 ?_
    refine k_iloadn (pc := 12) C dX7_becomeKind_12 (i := 1) rfl 1 rfl ?_
    refine k_iloadn (pc := 13) C dX7_becomeKind_13 (i := 2) rfl 2 rfl ?_
    obtain ⟨ha5, h⟩ := gp_e h
    obtain ⟨I6, eI6, h⟩ := lt_e h
    refine k_iast (pc := 14) C ha5 dX7_becomeKind_14 ?_
    rw [← eI6]
    refine k_aloadn (pc := 15) C dX7_becomeKind_15 (i := 0) rfl 0 rfl ?_
    obtain ⟨r7, hr7, h⟩ := bd_e h
    refine k_V (pc := 16) (st := []) C (c_X7_renewMates hr7) lkV_RX7_56 hs1 rfl rfl rfl (Nat.le_of_ble_eq_true rfl) (Nat.le_of_ble_eq_true rfl) (Nat.le_of_ble_eq_true rfl) (Nat.le_of_ble_eq_true rfl) (Nat.le_of_ble_eq_true rfl) dX7_becomeKind_16 ?_
    refine k_nf (cells2 := 0) (slots2 := 0) (st2 := []) rfl rfl rfl ?_
    have h := Option.some.inj h
    subst h
    exact k_vret (pc := 19) C hr hk dX7_becomeKind_19
theorem c_X7_becomeKind {E : Ev} {l : Launch} {S : Sh} {R : Rw} {I : Iw} {a0 : Nat} {x1 : Int32} {x2 : Int32} {r : Iw} (h : f_X7_becomeKind S R I a0 x1 x2 = some r) : Mt E l yX7_becomeKind cX7_becomeKind 3 none 5 111 [.ref (E.1 + a0), .int x1, .int x2] S R I S R r none 0 0 := mt_of (by decide) (Nat.le_of_ble_eq_true rfl) (fun p e s m args below meth c C hr hk hn => b_X7_becomeKind C hr hk _ _ _ _ h)
theorem dX7_becomeGap_0 : decode cX7_becomeGap 0 = .ok (.aload_n 0, 1) := by decide +kernel
theorem dX7_becomeGap_1 : decode cX7_becomeGap 1 = .ok (.iload_n 1, 1) := by decide +kernel
theorem dX7_becomeGap_2 : decode cX7_becomeGap 2 = .ok (.putfield 30, 3) := by decide +kernel
theorem dX7_becomeGap_5 : decode cX7_becomeGap 5 = .ok (.aload_n 0, 1) := by decide +kernel
theorem dX7_becomeGap_6 : decode cX7_becomeGap 6 = .ok (.invokevirtual 56, 3) := by decide +kernel
theorem dX7_becomeGap_9 : decode cX7_becomeGap 9 = .ok (.return_, 1) := by decide +kernel
def f_X7_becomeGap (S : Sh) (R : Rw)  (I : Iw) (a0 : Nat) (x1 : Int32) : Option (Iw) := gp (sok S a0 7 16) (lt (up2 I a0 9 x1) (fun I2 => bd (f_X7_renewMates S R I2 a0) (fun r3 => some r3)))
set_option maxHeartbeats 4000000 in
theorem b_X7_becomeGap {E : Ev} {p : Program} {l : Launch} {e : Env} {s : State} {m : MethodId} {args : Array Value} {below : List Frame} {meth : Method} {c : Code} (C : Cx E RX7 cX7_becomeGap 2 p s m c) (hr : meth.sig.returnType = none) (hk : meth.locks = false) {S : Sh} {R : Rw} {r : Iw}  : ∀ (I : Iw) (a0 : Nat) (x1 : Int32), f_X7_becomeGap S R   I a0 x1 = some r → Wk E 2 p l e ({ frames := 5, cells := 0, slots := 0, locals := 111 } : Room) s m args below meth c 0 0 (MQ below (Qw E S R r none) args s 0 0 (fun q => E.1 ≤ q)) 0 [(0, .ref (E.1 + a0)), (1, .int x1)] [] S R I := by
  intro I a0 x1 h
  rw [f_X7_becomeGap] at h
  refine k_aloadn (pc := 0) C dX7_becomeGap_0 (i := 0) rfl 0 rfl ?_
  refine k_iloadn (pc := 1) C dX7_becomeGap_1 (i := 1) rfl 1 rfl ?_
  obtain ⟨hs10, h⟩ := gp_e h
  have hs1 := sok_e hs10
  obtain ⟨I2, eI2, h⟩ := lt_e h
  refine k_putI (pc := 2) C lkP_RX7_30_7 hs1 ir_7_9 dX7_becomeGap_2 ?_
  rw [← eI2]
  refine k_aloadn (pc := 5) C dX7_becomeGap_5 (i := 0) rfl 0 rfl ?_
  obtain ⟨r3, hr3, h⟩ := bd_e h
  refine k_V (pc := 6) (st := []) C (c_X7_renewMates hr3) lkV_RX7_56 hs1 rfl rfl rfl (Nat.le_of_ble_eq_true rfl) (Nat.le_of_ble_eq_true rfl) (Nat.le_of_ble_eq_true rfl) (Nat.le_of_ble_eq_true rfl) (Nat.le_of_ble_eq_true rfl) dX7_becomeGap_6 ?_
  refine k_nf (cells2 := 0) (slots2 := 0) (st2 := []) rfl rfl rfl ?_
  have h := Option.some.inj h
  subst h
  exact k_vret (pc := 9) C hr hk dX7_becomeGap_9
theorem c_X7_becomeGap {E : Ev} {l : Launch} {S : Sh} {R : Rw} {I : Iw} {a0 : Nat} {x1 : Int32} {r : Iw} (h : f_X7_becomeGap S R I a0 x1 = some r) : Mt E l yX7_becomeGap cX7_becomeGap 2 none 5 111 [.ref (E.1 + a0), .int x1] S R I S R r none 0 0 := mt_of (by decide) (Nat.le_of_ble_eq_true rfl) (fun p e s m args below meth c C hr hk hn => b_X7_becomeGap C hr hk _ _ _ h)
theorem lkSN_RX7_91 : LkSN RX7 91 yX11_without "UnlikeNeighbours" cX11_without 2 (some .int) 2 := ⟨l3_in 62 (by decide +kernel), (t3_in 63 (by decide +kernel) rfl), (t3_in 64 (by decide +kernel) rfl), (t1_in 1 (by decide +kernel) rfl), by decide, by decide +kernel⟩
theorem lkP_RX7_82_7 : LkP RX7 82 7 8 .int := ⟨RX7, TX7, 16, "UnlikeNeighbours$Shed", fc7, by decide, (t1_in 89 (by decide +kernel) rfl), Or.inl rfl, rfl, by decide +kernel⟩
theorem dX7_putOut_0 : decode cX7_putOut 0 = .ok (.aload_n 0, 1) := by decide +kernel
theorem dX7_putOut_1 : decode cX7_putOut 1 = .ok (.iload_n 1, 1) := by decide +kernel
theorem dX7_putOut_2 : decode cX7_putOut 2 = .ok (.invokevirtual 62, 3) := by decide +kernel
theorem dX7_putOut_5 : decode cX7_putOut 5 = .ok (.ifCond .eq 44, 3) := by decide +kernel
theorem dX7_putOut_8 : decode cX7_putOut 8 = .ok (.aload_n 0, 1) := by decide +kernel
theorem dX7_putOut_9 : decode cX7_putOut 9 = .ok (.getfield 82, 3) := by decide +kernel
theorem dX7_putOut_12 : decode cX7_putOut 12 = .ok (.bipush 9, 2) := by decide +kernel
theorem dX7_putOut_14 : decode cX7_putOut 14 = .ok (.if_icmp .ge 35, 3) := by decide +kernel
theorem dX7_putOut_17 : decode cX7_putOut 17 = .ok (.aload_n 0, 1) := by decide +kernel
theorem dX7_putOut_18 : decode cX7_putOut 18 = .ok (.aload_n 0, 1) := by decide +kernel
theorem dX7_putOut_19 : decode cX7_putOut 19 = .ok (.getfield 53, 3) := by decide +kernel
theorem dX7_putOut_22 : decode cX7_putOut 22 = .ok (.iload_n 1, 1) := by decide +kernel
theorem dX7_putOut_23 : decode cX7_putOut 23 = .ok (.invokestatic 91, 3) := by decide +kernel
theorem dX7_putOut_26 : decode cX7_putOut 26 = .ok (.putfield 53, 3) := by decide +kernel
theorem dX7_putOut_29 : decode cX7_putOut 29 = .ok (.aload_n 0, 1) := by decide +kernel
theorem dX7_putOut_30 : decode cX7_putOut 30 = .ok (.getfield 27, 3) := by decide +kernel
theorem dX7_putOut_33 : decode cX7_putOut 33 = .ok (.aload_n 0, 1) := by decide +kernel
theorem dX7_putOut_34 : decode cX7_putOut 34 = .ok (.getfield 82, 3) := by decide +kernel
theorem dX7_putOut_37 : decode cX7_putOut 37 = .ok (.iload_n 1, 1) := by decide +kernel
theorem dX7_putOut_38 : decode cX7_putOut 38 = .ok (.iastore, 1) := by decide +kernel
theorem dX7_putOut_39 : decode cX7_putOut 39 = .ok (.aload_n 0, 1) := by decide +kernel
theorem dX7_putOut_40 : decode cX7_putOut 40 = .ok (.dup, 1) := by decide +kernel
theorem dX7_putOut_41 : decode cX7_putOut 41 = .ok (.getfield 82, 3) := by decide +kernel
theorem dX7_putOut_44 : decode cX7_putOut 44 = .ok (.iconst 1, 1) := by decide +kernel
theorem dX7_putOut_45 : decode cX7_putOut 45 = .ok (.iadd, 1) := by decide +kernel
theorem dX7_putOut_46 : decode cX7_putOut 46 = .ok (.putfield 82, 3) := by decide +kernel
theorem dX7_putOut_49 : decode cX7_putOut 49 = .ok (.return_, 1) := by decide +kernel
def f_X7_putOut (S : Sh) (R : Rw)  (I : Iw) (a0 : Nat) (x1 : Int32) : Option (Iw) := gp (sok S a0 7 16) (bd (f_X7_has S R I a0 x1) (fun r2 => (if r2 = 0 then some I else (if (9 : Int32) ≤ (I a0 8) then some I else bd (f_X11_without S R I (I a0 6) x1) (fun r5 => lt (up2 I a0 6 r5) (fun I6 => rl (R a0 7) (fun b7 => gp (aok S 20 b7 (I6 a0 8)) (lt (up2 I6 b7 (I6 a0 8).toNatClampNeg x1) (fun I9 => lt (up2 I9 a0 8 ((I9 a0 8) + (1 : Int32))) (fun I10 => some I10))))))))))
set_option maxHeartbeats 4000000 in
theorem b_X7_putOut {E : Ev} {p : Program} {l : Launch} {e : Env} {s : State} {m : MethodId} {args : Array Value} {below : List Frame} {meth : Method} {c : Code} (C : Cx E RX7 cX7_putOut 2 p s m c) (hr : meth.sig.returnType = none) (hk : meth.locks = false) {S : Sh} {R : Rw} {r : Iw}  : ∀ (I : Iw) (a0 : Nat) (x1 : Int32), f_X7_putOut S R   I a0 x1 = some r → Wk E 2 p l e ({ frames := 1, cells := 0, slots := 0, locals := 21 } : Room) s m args below meth c 0 0 (MQ below (Qw E S R r none) args s 0 0 (fun q => E.1 ≤ q)) 0 [(0, .ref (E.1 + a0)), (1, .int x1)] [] S R I := by
  intro I a0 x1 h
  rw [f_X7_putOut] at h
  refine k_aloadn (pc := 0) C dX7_putOut_0 (i := 0) rfl 0 rfl ?_
  refine k_iloadn (pc := 1) C dX7_putOut_1 (i := 1) rfl 1 rfl ?_
  obtain ⟨hs10, h⟩ := gp_e h
  have hs1 := sok_e hs10
  obtain ⟨r2, hr2, h⟩ := bd_e h
  refine k_V (pc := 2) (st := []) C (c_X7_has hr2) lkV_RX7_62 hs1 rfl rfl rfl (Nat.le_of_ble_eq_true rfl) (Nat.le_of_ble_eq_true rfl) (Nat.le_of_ble_eq_true rfl) (Nat.le_of_ble_eq_true rfl) (Nat.le_of_ble_eq_true rfl) dX7_putOut_2 ?_
  refine k_nf (cells2 := 0) (slots2 := 0) (st2 := [.int r2]) rfl rfl rfl ?_
  refine k_if_eq (pc := 5) C dX7_putOut_5 (tgt := 49) (by decide) (fun hc3 => ?_) (fun hc3 => ?_)
  · rw [if_pos hc3] at h
    have h := Option.some.inj h
    subst h
    exact k_vret (pc := 49) C hr hk dX7_putOut_49
  · rw [if_neg hc3] at h
    refine k_aloadn (pc := 8) C dX7_putOut_8 (i := 0) rfl 0 rfl ?_
    refine k_getI (pc := 9) C lkF_RX7_82_7 hs1 ir_7_8 dX7_putOut_9 ?_
    refine k_bipush (pc := 12) C (v := (9 : Int32)) dX7_putOut_12 (by decide) ?_
    refine k_icmp_ge (pc := 14) C dX7_putOut_14 (tgt := 49) (by decide) (fun hc4 => ?_) (fun hc4 => ?_)
    · rw [if_pos hc4] at h
      have h := Option.some.inj h
      subst h
      exact k_vret (pc := 49) C hr hk dX7_putOut_49
    · rw [if_neg hc4] at h
      refine k_aloadn (pc := 17) C dX7_putOut_17 (i := 0) rfl 0 rfl ?_
      refine k_aloadn (pc := 18) C dX7_putOut_18 (i := 0) rfl 0 rfl ?_
      refine k_getI (pc := 19) C lkF_RX7_53_7 hs1 ir_7_6 dX7_putOut_19 ?_
      refine k_iloadn (pc := 22) C dX7_putOut_22 (i := 1) rfl 1 rfl ?_
      obtain ⟨r5, hr5, h⟩ := bd_e h
      refine k_SN (pc := 23) (st := [.ref (E.1 + a0)]) C (c_X11_without hr5) lkSN_RX7_91 rfl rfl (Nat.le_of_ble_eq_true rfl) (Nat.le_of_ble_eq_true rfl) (Nat.le_of_ble_eq_true rfl) (Nat.le_of_ble_eq_true rfl) (Nat.le_of_ble_eq_true rfl) dX7_putOut_23 ?_
      refine k_nf (cells2 := 0) (slots2 := 0) (st2 := [.int r5, .ref (E.1 + a0)]) rfl rfl rfl ?_
      obtain ⟨I6, eI6, h⟩ := lt_e h
      refine k_putI (pc := 26) C lkP_RX7_53_7 hs1 ir_7_6 dX7_putOut_26 ?_
      rw [← eI6]
      refine k_aloadn (pc := 29) C dX7_putOut_29 (i := 0) rfl 0 rfl ?_
      obtain ⟨b7, hb7, h⟩ := rl_e h
      refine k_getR (pc := 30) C lkF_RX7_27_7 hs1 ir_7_7 hb7 dX7_putOut_30 ?_
      refine k_aloadn (pc := 33) C dX7_putOut_33 (i := 0) rfl 0 rfl ?_
      refine k_getI (pc := 34) C lkF_RX7_82_7 hs1 ir_7_8 dX7_putOut_34 ?_
      refine k_iloadn (pc := 37) C dX7_putOut_37 (i := 1) rfl 1 rfl ?_
      obtain ⟨ha8, h⟩ := gp_e h
      obtain ⟨I9, eI9, h⟩ := lt_e h
      refine k_iast (pc := 38) C ha8 dX7_putOut_38 ?_
      rw [← eI9]
      refine k_aloadn (pc := 39) C dX7_putOut_39 (i := 0) rfl 0 rfl ?_
      refine k_dup (pc := 40) C dX7_putOut_40 rfl ?_
      refine k_getI (pc := 41) C lkF_RX7_82_7 hs1 ir_7_8 dX7_putOut_41 ?_
      refine k_iconst (pc := 44) C (v := (1 : Int32)) dX7_putOut_44 (by decide) ?_
      refine k_iadd (pc := 45) C dX7_putOut_45 ?_
      obtain ⟨I10, eI10, h⟩ := lt_e h
      refine k_putI (pc := 46) C lkP_RX7_82_7 hs1 ir_7_8 dX7_putOut_46 ?_
      rw [← eI10]
      have h := Option.some.inj h
      subst h
      exact k_vret (pc := 49) C hr hk dX7_putOut_49
theorem c_X7_putOut {E : Ev} {l : Launch} {S : Sh} {R : Rw} {I : Iw} {a0 : Nat} {x1 : Int32} {r : Iw} (h : f_X7_putOut S R I a0 x1 = some r) : Mt E l yX7_putOut cX7_putOut 2 none 1 21 [.ref (E.1 + a0), .int x1] S R I S R r none 0 0 := mt_of (by decide) (Nat.le_of_ble_eq_true rfl) (fun p e s m args below meth c C hr hk hn => b_X7_putOut C hr hk _ _ _ h)
theorem lkV_RX7_95 : LkV RX7 95 RX7 yX7_last cX7_last 1 (some .int) 0 := ⟨(t3_in 73 (by decide +kernel) rfl), (t2_in 101 (by decide +kernel) rfl), (t2_in 102 (by decide +kernel) rfl), (t2_in 103 (by decide +kernel) rfl), (t1_in 2 (by decide +kernel) rfl), by decide, by decide +kernel⟩
theorem dX7_bringBack_0 : decode cX7_bringBack 0 = .ok (.aload_n 0, 1) := by decide +kernel
theorem dX7_bringBack_1 : decode cX7_bringBack 1 = .ok (.invokevirtual 95, 3) := by decide +kernel
theorem dX7_bringBack_4 : decode cX7_bringBack 4 = .ok (.istore_n 1, 1) := by decide +kernel
theorem dX7_bringBack_5 : decode cX7_bringBack 5 = .ok (.aload_n 0, 1) := by decide +kernel
theorem dX7_bringBack_6 : decode cX7_bringBack 6 = .ok (.iload_n 1, 1) := by decide +kernel
theorem dX7_bringBack_7 : decode cX7_bringBack 7 = .ok (.invokevirtual 62, 3) := by decide +kernel
theorem dX7_bringBack_10 : decode cX7_bringBack 10 = .ok (.ifCond .ne 6, 3) := by decide +kernel
theorem dX7_bringBack_13 : decode cX7_bringBack 13 = .ok (.bipush (-3), 2) := by decide +kernel
theorem dX7_bringBack_15 : decode cX7_bringBack 15 = .ok (.ireturn, 1) := by decide +kernel
theorem dX7_bringBack_16 : decode cX7_bringBack 16 = .ok (.aload_n 0, 1) := by decide +kernel
theorem dX7_bringBack_17 : decode cX7_bringBack 17 = .ok (.dup, 1) := by decide +kernel
theorem dX7_bringBack_18 : decode cX7_bringBack 18 = .ok (.getfield 82, 3) := by decide +kernel
theorem dX7_bringBack_21 : decode cX7_bringBack 21 = .ok (.iconst 1, 1) := by decide +kernel
theorem dX7_bringBack_22 : decode cX7_bringBack 22 = .ok (.isub, 1) := by decide +kernel
theorem dX7_bringBack_23 : decode cX7_bringBack 23 = .ok (.putfield 82, 3) := by decide +kernel
theorem dX7_bringBack_26 : decode cX7_bringBack 26 = .ok (.aload_n 0, 1) := by decide +kernel
theorem dX7_bringBack_27 : decode cX7_bringBack 27 = .ok (.dup, 1) := by decide +kernel
theorem dX7_bringBack_28 : decode cX7_bringBack 28 = .ok (.getfield 53, 3) := by decide +kernel
theorem dX7_bringBack_31 : decode cX7_bringBack 31 = .ok (.iconst 1, 1) := by decide +kernel
theorem dX7_bringBack_32 : decode cX7_bringBack 32 = .ok (.iload_n 1, 1) := by decide +kernel
theorem dX7_bringBack_33 : decode cX7_bringBack 33 = .ok (.ishl, 1) := by decide +kernel
theorem dX7_bringBack_34 : decode cX7_bringBack 34 = .ok (.ior, 1) := by decide +kernel
theorem dX7_bringBack_35 : decode cX7_bringBack 35 = .ok (.putfield 53, 3) := by decide +kernel
theorem dX7_bringBack_38 : decode cX7_bringBack 38 = .ok (.iload_n 1, 1) := by decide +kernel
theorem dX7_bringBack_39 : decode cX7_bringBack 39 = .ok (.ireturn, 1) := by decide +kernel
def f_X7_bringBack (S : Sh) (R : Rw)  (I : Iw) (a0 : Nat) : Option (Iw × Int32) := gp (sok S a0 7 16) (bd (f_X7_last S R I a0) (fun r2 => bd (f_X7_has S R I a0 r2) (fun r3 => (if r3 = 0 then some (I, (-3 : Int32)) else lt (up2 I a0 8 ((I a0 8) - (1 : Int32))) (fun I5 => lt (up2 I5 a0 6 ((I5 a0 6) ||| ((1 : Int32) <<< (r2 &&& 31)))) (fun I6 => some (I6, r2)))))))
set_option maxHeartbeats 4000000 in
theorem b_X7_bringBack {E : Ev} {p : Program} {l : Launch} {e : Env} {s : State} {m : MethodId} {args : Array Value} {below : List Frame} {meth : Method} {c : Code} (C : Cx E RX7 cX7_bringBack 2 p s m c) (hr : meth.sig.returnType = (some .int)) (hk : meth.locks = false) {S : Sh} {R : Rw} {r : Iw × Int32}  : ∀ (I : Iw) (a0 : Nat), f_X7_bringBack S R   I a0 = some r → Wk E 2 p l e ({ frames := 1, cells := 0, slots := 0, locals := 21 } : Room) s m args below meth c 0 0 (MQ below (Qw E S R r.1 (some (.int r.2))) args s 0 0 (fun q => E.1 ≤ q)) 0 [(0, .ref (E.1 + a0))] [] S R I := by
  intro I a0 h
  rw [f_X7_bringBack] at h
  refine k_aloadn (pc := 0) C dX7_bringBack_0 (i := 0) rfl 0 rfl ?_
  obtain ⟨hs10, h⟩ := gp_e h
  have hs1 := sok_e hs10
  obtain ⟨r2, hr2, h⟩ := bd_e h
  refine k_V (pc := 1) (st := []) C (c_X7_last hr2) lkV_RX7_95 hs1 rfl rfl rfl (Nat.le_of_ble_eq_true rfl) (Nat.le_of_ble_eq_true rfl) (Nat.le_of_ble_eq_true rfl) (Nat.le_of_ble_eq_true rfl) (Nat.le_of_ble_eq_true rfl) dX7_bringBack_1 ?_
  refine k_nf (cells2 := 0) (slots2 := 0) (st2 := [.int r2]) rfl rfl rfl ?_
  refine k_istoren (pc := 4) C dX7_bringBack_4 (i := 1) rfl (by decide) (L2 := [(0, .ref (E.1 + a0)), (1, .int r2)]) rfl ?_
  refine k_aloadn (pc := 5) C dX7_bringBack_5 (i := 0) rfl 0 rfl ?_
  refine k_iloadn (pc := 6) C dX7_bringBack_6 (i := 1) rfl 1 rfl ?_
  obtain ⟨r3, hr3, h⟩ := bd_e h
  refine k_V (pc := 7) (st := []) C (c_X7_has hr3) lkV_RX7_62 hs1 rfl rfl rfl (Nat.le_of_ble_eq_true rfl) (Nat.le_of_ble_eq_true rfl) (Nat.le_of_ble_eq_true rfl) (Nat.le_of_ble_eq_true rfl) (Nat.le_of_ble_eq_true rfl) dX7_bringBack_7 ?_
  refine k_nf (cells2 := 0) (slots2 := 0) (st2 := [.int r3]) rfl rfl rfl ?_
  refine k_if_ne (pc := 10) C dX7_bringBack_10 (tgt := 16) (by decide) (fun hc4 => ?_) (fun hc4 => ?_)
  · rw [if_neg hc4] at h
    refine k_aloadn (pc := 16) C dX7_bringBack_16 (i := 0) rfl 0 rfl ?_
    refine k_dup (pc := 17) C dX7_bringBack_17 rfl ?_
    refine k_getI (pc := 18) C lkF_RX7_82_7 hs1 ir_7_8 dX7_bringBack_18 ?_
    refine k_iconst (pc := 21) C (v := (1 : Int32)) dX7_bringBack_21 (by decide) ?_
    refine k_isub (pc := 22) C dX7_bringBack_22 ?_
    obtain ⟨I5, eI5, h⟩ := lt_e h
    refine k_putI (pc := 23) C lkP_RX7_82_7 hs1 ir_7_8 dX7_bringBack_23 ?_
    rw [← eI5]
    refine k_aloadn (pc := 26) C dX7_bringBack_26 (i := 0) rfl 0 rfl ?_
    refine k_dup (pc := 27) C dX7_bringBack_27 rfl ?_
    refine k_getI (pc := 28) C lkF_RX7_53_7 hs1 ir_7_6 dX7_bringBack_28 ?_
    refine k_iconst (pc := 31) C (v := (1 : Int32)) dX7_bringBack_31 (by decide) ?_
    refine k_iloadn (pc := 32) C dX7_bringBack_32 (i := 1) rfl 1 rfl ?_
    refine k_ishl (pc := 33) C dX7_bringBack_33 ?_
    refine k_ior (pc := 34) C dX7_bringBack_34 ?_
    obtain ⟨I6, eI6, h⟩ := lt_e h
    refine k_putI (pc := 35) C lkP_RX7_53_7 hs1 ir_7_6 dX7_bringBack_35 ?_
    rw [← eI6]
    refine k_iloadn (pc := 38) C dX7_bringBack_38 (i := 1) rfl 1 rfl ?_
    have h := Option.some.inj h
    subst h
    exact k_iret (pc := 39) C hr hk dX7_bringBack_39
  · rw [if_pos hc4] at h
    refine k_bipush (pc := 13) C (v := (-3 : Int32)) dX7_bringBack_13 (by decide) ?_
    have h := Option.some.inj h
    subst h
    exact k_iret (pc := 15) C hr hk dX7_bringBack_15
theorem c_X7_bringBack {E : Ev} {l : Launch} {S : Sh} {R : Rw} {I : Iw} {a0 : Nat} {r : Iw × Int32} (h : f_X7_bringBack S R I a0 = some r) : Mt E l yX7_bringBack cX7_bringBack 2 (some .int) 1 21 [.ref (E.1 + a0)] S R I S R r.1 (some (.int r.2)) 0 0 := mt_of (by decide) (Nat.le_of_ble_eq_true rfl) (fun p e s m args below meth c C hr hk hn => b_X7_bringBack C hr hk _ _ h)
theorem dX7_placeInLine_0 : decode cX7_placeInLine 0 = .ok (.iconst 0, 1) := by decide +kernel
theorem dX7_placeInLine_1 : decode cX7_placeInLine 1 = .ok (.istore_n 2, 1) := by decide +kernel
theorem dX7_placeInLine_2 : decode cX7_placeInLine 2 = .ok (.iload_n 2, 1) := by decide +kernel
theorem dX7_placeInLine_3 : decode cX7_placeInLine 3 = .ok (.aload_n 0, 1) := by decide +kernel
theorem dX7_placeInLine_4 : decode cX7_placeInLine 4 = .ok (.getfield 82, 3) := by decide +kernel
theorem dX7_placeInLine_7 : decode cX7_placeInLine 7 = .ok (.if_icmp .ge 21, 3) := by decide +kernel
theorem dX7_placeInLine_10 : decode cX7_placeInLine 10 = .ok (.aload_n 0, 1) := by decide +kernel
theorem dX7_placeInLine_11 : decode cX7_placeInLine 11 = .ok (.getfield 27, 3) := by decide +kernel
theorem dX7_placeInLine_14 : decode cX7_placeInLine 14 = .ok (.iload_n 2, 1) := by decide +kernel
theorem dX7_placeInLine_15 : decode cX7_placeInLine 15 = .ok (.iaload, 1) := by decide +kernel
theorem dX7_placeInLine_16 : decode cX7_placeInLine 16 = .ok (.iload_n 1, 1) := by decide +kernel
theorem dX7_placeInLine_17 : decode cX7_placeInLine 17 = .ok (.if_icmp .ne 5, 3) := by decide +kernel
theorem dX7_placeInLine_20 : decode cX7_placeInLine 20 = .ok (.iload_n 2, 1) := by decide +kernel
theorem dX7_placeInLine_21 : decode cX7_placeInLine 21 = .ok (.ireturn, 1) := by decide +kernel
theorem dX7_placeInLine_22 : decode cX7_placeInLine 22 = .ok (.iinc 2 1, 3) := by decide +kernel
theorem dX7_placeInLine_25 : decode cX7_placeInLine 25 = .ok (.goto (-23), 3) := by decide +kernel
theorem dX7_placeInLine_28 : decode cX7_placeInLine 28 = .ok (.bipush (-9), 2) := by decide +kernel
theorem dX7_placeInLine_30 : decode cX7_placeInLine 30 = .ok (.ireturn, 1) := by decide +kernel
def f_X7_placeInLine_2 (S : Sh) (R : Rw) (I : Iw)  : Nat → Nat → Int32 → Int32 → Option (Int32)
  | 0, _, _, _ => none
  | n + 1, a0, x1, x2 => gp (sok S a0 7 16) ((if (I a0 8) ≤ x2 then some (-9 : Int32) else rl (R a0 7) (fun b3 => gp (aok S 20 b3 x2) ((if (I b3 x2.toNatClampNeg) = x1 then some x2 else f_X7_placeInLine_2 S R I  n a0 x1 (x2 + (1 : Int32)))))))
set_option maxHeartbeats 4000000 in
theorem b_X7_placeInLine_2 {E : Ev} {p : Program} {l : Launch} {e : Env} {s : State} {m : MethodId} {args : Array Value} {below : List Frame} {meth : Method} {c : Code} (C : Cx E RX7 cX7_placeInLine 3 p s m c) (hr : meth.sig.returnType = (some .int)) (hk : meth.locks = false) {S : Sh} {R : Rw} {I : Iw} {r : Int32}  : ∀ (n : Nat) (a0 : Nat) (x1 : Int32) (x2 : Int32), f_X7_placeInLine_2 S R I  n a0 x1 x2 = some r → Wk E 3 p l e ({ frames := 0, cells := 0, slots := 0, locals := 0 } : Room) s m args below meth c 0 0 (MQ below (Qw E S R I (some (.int r))) args s 0 0 (fun q => E.1 ≤ q)) 2 [(0, .ref (E.1 + a0)), (1, .int x1), (2, .int x2)] [] S R I := by
  intro n
  induction n with
  | zero =>
    intro a0 x1 x2 h
    rw [f_X7_placeInLine_2] at h
    cases h
  | succ n ih =>
    intro a0 x1 x2 h
    rw [f_X7_placeInLine_2] at h
    refine k_iloadn (pc := 2) C dX7_placeInLine_2 (i := 2) rfl 2 rfl ?_
    refine k_aloadn (pc := 3) C dX7_placeInLine_3 (i := 0) rfl 0 rfl ?_
    obtain ⟨hs10, h⟩ := gp_e h
    have hs1 := sok_e hs10
    refine k_getI (pc := 4) C lkF_RX7_82_7 hs1 ir_7_8 dX7_placeInLine_4 ?_
    refine k_icmp_ge (pc := 7) C dX7_placeInLine_7 (tgt := 28) (by decide) (fun hc2 => ?_) (fun hc2 => ?_)
    · rw [if_pos hc2] at h
      refine k_bipush (pc := 28) C (v := (-9 : Int32)) dX7_placeInLine_28 (by decide) ?_
      have h := Option.some.inj h
      subst h
      exact k_iret (pc := 30) C hr hk dX7_placeInLine_30
    · rw [if_neg hc2] at h
      refine k_aloadn (pc := 10) C dX7_placeInLine_10 (i := 0) rfl 0 rfl ?_
      obtain ⟨b3, hb3, h⟩ := rl_e h
      refine k_getR (pc := 11) C lkF_RX7_27_7 hs1 ir_7_7 hb3 dX7_placeInLine_11 ?_
      refine k_iloadn (pc := 14) C dX7_placeInLine_14 (i := 2) rfl 2 rfl ?_
      obtain ⟨ha4, h⟩ := gp_e h
      refine k_iald (pc := 15) C ha4 dX7_placeInLine_15 ?_
      refine k_iloadn (pc := 16) C dX7_placeInLine_16 (i := 1) rfl 1 rfl ?_
      refine k_icmp_ne (pc := 17) C dX7_placeInLine_17 (tgt := 22) (by decide) (fun hc5 => ?_) (fun hc5 => ?_)
      · rw [if_neg hc5] at h
        refine k_iinc (pc := 22) C dX7_placeInLine_22 2 rfl (v := x2 + (1 : Int32)) (by rfl) (by decide) (L2 := [(0, .ref (E.1 + a0)), (1, .int x1), (2, .int (x2 + (1 : Int32)))]) rfl ?_
        refine k_goto (pc := 25) C dX7_placeInLine_25 (tgt := 2) (by decide) ?_
        exact ih _ _ _ h
      · rw [if_pos hc5] at h
        refine k_iloadn (pc := 20) C dX7_placeInLine_20 (i := 2) rfl 2 rfl ?_
        have h := Option.some.inj h
        subst h
        exact k_iret (pc := 21) C hr hk dX7_placeInLine_21
def f_X7_placeInLine (S : Sh) (R : Rw) (I : Iw)  (a0 : Nat) (x1 : Int32) : Option (Int32) := f_X7_placeInLine_2 S R I  512 a0 x1 (0 : Int32)
set_option maxHeartbeats 4000000 in
theorem b_X7_placeInLine {E : Ev} {p : Program} {l : Launch} {e : Env} {s : State} {m : MethodId} {args : Array Value} {below : List Frame} {meth : Method} {c : Code} (C : Cx E RX7 cX7_placeInLine 3 p s m c) (hr : meth.sig.returnType = (some .int)) (hk : meth.locks = false) {S : Sh} {R : Rw} {I : Iw} {r : Int32}  : ∀ (a0 : Nat) (x1 : Int32), f_X7_placeInLine S R I   a0 x1 = some r → Wk E 3 p l e ({ frames := 0, cells := 0, slots := 0, locals := 0 } : Room) s m args below meth c 0 0 (MQ below (Qw E S R I (some (.int r))) args s 0 0 (fun q => E.1 ≤ q)) 0 [(0, .ref (E.1 + a0)), (1, .int x1)] [] S R I := by
  intro a0 x1 h
  rw [f_X7_placeInLine] at h
  refine k_iconst (pc := 0) C (v := (0 : Int32)) dX7_placeInLine_0 (by decide) ?_
  refine k_istoren (pc := 1) C dX7_placeInLine_1 (i := 2) rfl (by decide) (L2 := [(0, .ref (E.1 + a0)), (1, .int x1), (2, .int (0 : Int32))]) rfl ?_
  exact b_X7_placeInLine_2 C hr hk  _ _ _ _ h
theorem c_X7_placeInLine {E : Ev} {l : Launch} {S : Sh} {R : Rw} {I : Iw} {a0 : Nat} {x1 : Int32} {r : Int32} (h : f_X7_placeInLine S R I a0 x1 = some r) : Mt E l yX7_placeInLine cX7_placeInLine 3 (some .int) 0 0 [.ref (E.1 + a0), .int x1] S R I S R I (some (.int r)) 0 0 := mt_of (by decide) (Nat.le_of_ble_eq_true rfl) (fun p e s m args below meth c C hr hk hn => b_X7_placeInLine C hr hk _ _ h)
theorem dX7_couldGoBehind_0 : decode cX7_couldGoBehind 0 = .ok (.aload_n 0, 1) := by decide +kernel
theorem dX7_couldGoBehind_1 : decode cX7_couldGoBehind 1 = .ok (.iload_n 1, 1) := by decide +kernel
theorem dX7_couldGoBehind_2 : decode cX7_couldGoBehind 2 = .ok (.invokevirtual 62, 3) := by decide +kernel
theorem dX7_couldGoBehind_5 : decode cX7_couldGoBehind 5 = .ok (.ifCond .eq 17, 3) := by decide +kernel
theorem dX7_couldGoBehind_8 : decode cX7_couldGoBehind 8 = .ok (.aload_n 0, 1) := by decide +kernel
theorem dX7_couldGoBehind_9 : decode cX7_couldGoBehind 9 = .ok (.getfield 9, 3) := by decide +kernel
theorem dX7_couldGoBehind_12 : decode cX7_couldGoBehind 12 = .ok (.iload_n 1, 1) := by decide +kernel
theorem dX7_couldGoBehind_13 : decode cX7_couldGoBehind 13 = .ok (.iaload, 1) := by decide +kernel
theorem dX7_couldGoBehind_14 : decode cX7_couldGoBehind 14 = .ok (.iconst 3, 1) := by decide +kernel
theorem dX7_couldGoBehind_15 : decode cX7_couldGoBehind 15 = .ok (.if_icmp .ne 7, 3) := by decide +kernel
theorem dX7_couldGoBehind_18 : decode cX7_couldGoBehind 18 = .ok (.iconst 1, 1) := by decide +kernel
theorem dX7_couldGoBehind_19 : decode cX7_couldGoBehind 19 = .ok (.goto 4, 3) := by decide +kernel
theorem dX7_couldGoBehind_22 : decode cX7_couldGoBehind 22 = .ok (.iconst 0, 1) := by decide +kernel
theorem dX7_couldGoBehind_23 : decode cX7_couldGoBehind 23 = .ok (.istore_n 3, 1) := by decide +kernel
theorem dX7_couldGoBehind_24 : decode cX7_couldGoBehind 24 = .ok (.iload_n 3, 1) := by decide +kernel
theorem dX7_couldGoBehind_25 : decode cX7_couldGoBehind 25 = .ok (.ifCond .ne 23, 3) := by decide +kernel
theorem dX7_couldGoBehind_28 : decode cX7_couldGoBehind 28 = .ok (.iload_n 1, 1) := by decide +kernel
theorem dX7_couldGoBehind_29 : decode cX7_couldGoBehind 29 = .ok (.iload_n 2, 1) := by decide +kernel
theorem dX7_couldGoBehind_30 : decode cX7_couldGoBehind 30 = .ok (.aload_n 0, 1) := by decide +kernel
theorem dX7_couldGoBehind_31 : decode cX7_couldGoBehind 31 = .ok (.getfield 30, 3) := by decide +kernel
theorem dX7_couldGoBehind_34 : decode cX7_couldGoBehind 34 = .ok (.isub, 1) := by decide +kernel
theorem dX7_couldGoBehind_35 : decode cX7_couldGoBehind 35 = .ok (.if_icmp .lt 13, 3) := by decide +kernel
theorem dX7_couldGoBehind_38 : decode cX7_couldGoBehind 38 = .ok (.iload_n 1, 1) := by decide +kernel
theorem dX7_couldGoBehind_39 : decode cX7_couldGoBehind 39 = .ok (.iload_n 2, 1) := by decide +kernel
theorem dX7_couldGoBehind_40 : decode cX7_couldGoBehind 40 = .ok (.aload_n 0, 1) := by decide +kernel
theorem dX7_couldGoBehind_41 : decode cX7_couldGoBehind 41 = .ok (.getfield 30, 3) := by decide +kernel
theorem dX7_couldGoBehind_44 : decode cX7_couldGoBehind 44 = .ok (.iadd, 1) := by decide +kernel
theorem dX7_couldGoBehind_45 : decode cX7_couldGoBehind 45 = .ok (.if_icmp .lt 7, 3) := by decide +kernel
theorem dX7_couldGoBehind_48 : decode cX7_couldGoBehind 48 = .ok (.iconst 1, 1) := by decide +kernel
theorem dX7_couldGoBehind_49 : decode cX7_couldGoBehind 49 = .ok (.goto 4, 3) := by decide +kernel
theorem dX7_couldGoBehind_52 : decode cX7_couldGoBehind 52 = .ok (.iconst 0, 1) := by decide +kernel
theorem dX7_couldGoBehind_53 : decode cX7_couldGoBehind 53 = .ok (.ireturn, 1) := by decide +kernel
def f_X7_couldGoBehind_48 (S : Sh) (R : Rw) (I : Iw)   : Option (Int32) := some (1 : Int32)
set_option maxHeartbeats 4000000 in
theorem b_X7_couldGoBehind_48 {E : Ev} {p : Program} {l : Launch} {e : Env} {s : State} {m : MethodId} {args : Array Value} {below : List Frame} {meth : Method} {c : Code} (C : Cx E RX7 cX7_couldGoBehind 4 p s m c) (hr : meth.sig.returnType = (some .int)) (hk : meth.locks = false) {S : Sh} {R : Rw} {I : Iw} {r : Int32}  : f_X7_couldGoBehind_48 S R I    = some r → Wk E 4 p l e ({ frames := 1, cells := 0, slots := 0, locals := 21 } : Room) s m args below meth c 0 0 (MQ below (Qw E S R I (some (.int r))) args s 0 0 (fun q => E.1 ≤ q)) 48 [] [] S R I := by
  intro  h
  rw [f_X7_couldGoBehind_48] at h
  refine k_iconst (pc := 48) C (v := (1 : Int32)) dX7_couldGoBehind_48 (by decide) ?_
  refine k_goto (pc := 49) C dX7_couldGoBehind_49 (tgt := 53) (by decide) ?_
  have h := Option.some.inj h
  subst h
  exact k_iret (pc := 53) C hr hk dX7_couldGoBehind_53
def f_X7_couldGoBehind_23 (S : Sh) (R : Rw) (I : Iw)  (a0 : Nat) (x1 : Int32) (x2 : Int32) (s0 : Int32) : Option (Int32) := (if s0 = 0 then gp (sok S a0 7 16) ((if x1 < (x2 - (I a0 9)) then f_X7_couldGoBehind_48 S R I   else (if x1 < (x2 + (I a0 9)) then some (0 : Int32) else f_X7_couldGoBehind_48 S R I  ))) else f_X7_couldGoBehind_48 S R I  )
set_option maxHeartbeats 4000000 in
theorem b_X7_couldGoBehind_23 {E : Ev} {p : Program} {l : Launch} {e : Env} {s : State} {m : MethodId} {args : Array Value} {below : List Frame} {meth : Method} {c : Code} (C : Cx E RX7 cX7_couldGoBehind 4 p s m c) (hr : meth.sig.returnType = (some .int)) (hk : meth.locks = false) {S : Sh} {R : Rw} {I : Iw} {r : Int32}  : ∀ (a0 : Nat) (x1 : Int32) (x2 : Int32) (s0 : Int32), f_X7_couldGoBehind_23 S R I   a0 x1 x2 s0 = some r → Wk E 4 p l e ({ frames := 1, cells := 0, slots := 0, locals := 21 } : Room) s m args below meth c 0 0 (MQ below (Qw E S R I (some (.int r))) args s 0 0 (fun q => E.1 ≤ q)) 23 [(0, .ref (E.1 + a0)), (1, .int x1), (2, .int x2)] [.int s0] S R I := by
  intro a0 x1 x2 s0 h
  rw [f_X7_couldGoBehind_23] at h
  refine k_istoren (pc := 23) C dX7_couldGoBehind_23 (i := 3) rfl (by decide) (L2 := [(0, .ref (E.1 + a0)), (1, .int x1), (2, .int x2), (3, .int s0)]) rfl ?_
  refine k_iloadn (pc := 24) C dX7_couldGoBehind_24 (i := 3) rfl 3 rfl ?_
  refine k_if_ne (pc := 25) C dX7_couldGoBehind_25 (tgt := 48) (by decide) (fun hc4 => ?_) (fun hc4 => ?_)
  · rw [if_neg hc4] at h
    refine k_loc (L2 := []) [] rfl ?_
    exact b_X7_couldGoBehind_48 C hr hk   h
  · rw [if_pos hc4] at h
    refine k_iloadn (pc := 28) C dX7_couldGoBehind_28 (i := 1) rfl 1 rfl ?_
    refine k_iloadn (pc := 29) C dX7_couldGoBehind_29 (i := 2) rfl 2 rfl ?_
    refine k_aloadn (pc := 30) C dX7_couldGoBehind_30 (i := 0) rfl 0 rfl ?_
    obtain ⟨hs50, h⟩ := gp_e h
    have hs5 := sok_e hs50
    refine k_getI (pc := 31) C lkF_RX7_30_7 hs5 ir_7_9 dX7_couldGoBehind_31 ?_
    refine k_isub (pc := 34) C dX7_couldGoBehind_34 ?_
    refine k_icmp_lt (pc := 35) C dX7_couldGoBehind_35 (tgt := 48) (by decide) (fun hc6 => ?_) (fun hc6 => ?_)
    · rw [if_pos hc6] at h
      refine k_loc (L2 := []) [] rfl ?_
      exact b_X7_couldGoBehind_48 C hr hk   h
    · rw [if_neg hc6] at h
      refine k_iloadn (pc := 38) C dX7_couldGoBehind_38 (i := 1) rfl 1 rfl ?_
      refine k_iloadn (pc := 39) C dX7_couldGoBehind_39 (i := 2) rfl 2 rfl ?_
      refine k_aloadn (pc := 40) C dX7_couldGoBehind_40 (i := 0) rfl 0 rfl ?_
      refine k_getI (pc := 41) C lkF_RX7_30_7 hs5 ir_7_9 dX7_couldGoBehind_41 ?_
      refine k_iadd (pc := 44) C dX7_couldGoBehind_44 ?_
      refine k_icmp_lt (pc := 45) C dX7_couldGoBehind_45 (tgt := 52) (by decide) (fun hc7 => ?_) (fun hc7 => ?_)
      · rw [if_pos hc7] at h
        refine k_iconst (pc := 52) C (v := (0 : Int32)) dX7_couldGoBehind_52 (by decide) ?_
        have h := Option.some.inj h
        subst h
        exact k_iret (pc := 53) C hr hk dX7_couldGoBehind_53
      · rw [if_neg hc7] at h
        refine k_loc (L2 := []) [] rfl ?_
        exact b_X7_couldGoBehind_48 C hr hk   h
def f_X7_couldGoBehind_22 (S : Sh) (R : Rw) (I : Iw)  (a0 : Nat) (x1 : Int32) (x2 : Int32) : Option (Int32) := f_X7_couldGoBehind_23 S R I  a0 x1 x2 (0 : Int32)
set_option maxHeartbeats 4000000 in
theorem b_X7_couldGoBehind_22 {E : Ev} {p : Program} {l : Launch} {e : Env} {s : State} {m : MethodId} {args : Array Value} {below : List Frame} {meth : Method} {c : Code} (C : Cx E RX7 cX7_couldGoBehind 4 p s m c) (hr : meth.sig.returnType = (some .int)) (hk : meth.locks = false) {S : Sh} {R : Rw} {I : Iw} {r : Int32}  : ∀ (a0 : Nat) (x1 : Int32) (x2 : Int32), f_X7_couldGoBehind_22 S R I   a0 x1 x2 = some r → Wk E 4 p l e ({ frames := 1, cells := 0, slots := 0, locals := 21 } : Room) s m args below meth c 0 0 (MQ below (Qw E S R I (some (.int r))) args s 0 0 (fun q => E.1 ≤ q)) 22 [(0, .ref (E.1 + a0)), (1, .int x1), (2, .int x2)] [] S R I := by
  intro a0 x1 x2 h
  rw [f_X7_couldGoBehind_22] at h
  refine k_iconst (pc := 22) C (v := (0 : Int32)) dX7_couldGoBehind_22 (by decide) ?_
  exact b_X7_couldGoBehind_23 C hr hk  _ _ _ _ h
def f_X7_couldGoBehind (S : Sh) (R : Rw) (I : Iw)  (a0 : Nat) (x1 : Int32) (x2 : Int32) : Option (Int32) := gp (sok S a0 7 16) (bd (f_X7_has S R I a0 x1) (fun r2 => (if r2 = 0 then f_X7_couldGoBehind_22 S R I  a0 x1 x2 else rl (R a0 0) (fun b8 => gp (aok S 20 b8 x1) ((if (I b8 x1.toNatClampNeg) = (3 : Int32) then f_X7_couldGoBehind_23 S R I  a0 x1 x2 (1 : Int32) else f_X7_couldGoBehind_22 S R I  a0 x1 x2))))))
set_option maxHeartbeats 4000000 in
theorem b_X7_couldGoBehind {E : Ev} {p : Program} {l : Launch} {e : Env} {s : State} {m : MethodId} {args : Array Value} {below : List Frame} {meth : Method} {c : Code} (C : Cx E RX7 cX7_couldGoBehind 4 p s m c) (hr : meth.sig.returnType = (some .int)) (hk : meth.locks = false) {S : Sh} {R : Rw} {I : Iw} {r : Int32}  : ∀ (a0 : Nat) (x1 : Int32) (x2 : Int32), f_X7_couldGoBehind S R I   a0 x1 x2 = some r → Wk E 4 p l e ({ frames := 1, cells := 0, slots := 0, locals := 21 } : Room) s m args below meth c 0 0 (MQ below (Qw E S R I (some (.int r))) args s 0 0 (fun q => E.1 ≤ q)) 0 [(0, .ref (E.1 + a0)), (1, .int x1), (2, .int x2)] [] S R I := by
  intro a0 x1 x2 h
  rw [f_X7_couldGoBehind] at h
  refine k_aloadn (pc := 0) C dX7_couldGoBehind_0 (i := 0) rfl 0 rfl ?_
  refine k_iloadn (pc := 1) C dX7_couldGoBehind_1 (i := 1) rfl 1 rfl ?_
  obtain ⟨hs10, h⟩ := gp_e h
  have hs1 := sok_e hs10
  obtain ⟨r2, hr2, h⟩ := bd_e h
  refine k_V (pc := 2) (st := []) C (c_X7_has hr2) lkV_RX7_62 hs1 rfl rfl rfl (Nat.le_of_ble_eq_true rfl) (Nat.le_of_ble_eq_true rfl) (Nat.le_of_ble_eq_true rfl) (Nat.le_of_ble_eq_true rfl) (Nat.le_of_ble_eq_true rfl) dX7_couldGoBehind_2 ?_
  refine k_nf (cells2 := 0) (slots2 := 0) (st2 := [.int r2]) rfl rfl rfl ?_
  refine k_if_eq (pc := 5) C dX7_couldGoBehind_5 (tgt := 22) (by decide) (fun hc3 => ?_) (fun hc3 => ?_)
  · rw [if_pos hc3] at h
    exact b_X7_couldGoBehind_22 C hr hk  _ _ _ h
  · rw [if_neg hc3] at h
    refine k_aloadn (pc := 8) C dX7_couldGoBehind_8 (i := 0) rfl 0 rfl ?_
    obtain ⟨b8, hb8, h⟩ := rl_e h
    refine k_getR (pc := 9) C lkF_RX7_9_7 hs1 ir_7_0 hb8 dX7_couldGoBehind_9 ?_
    refine k_iloadn (pc := 12) C dX7_couldGoBehind_12 (i := 1) rfl 1 rfl ?_
    obtain ⟨ha9, h⟩ := gp_e h
    refine k_iald (pc := 13) C ha9 dX7_couldGoBehind_13 ?_
    refine k_iconst (pc := 14) C (v := (3 : Int32)) dX7_couldGoBehind_14 (by decide) ?_
    refine k_icmp_ne (pc := 15) C dX7_couldGoBehind_15 (tgt := 22) (by decide) (fun hc10 => ?_) (fun hc10 => ?_)
    · rw [if_neg hc10] at h
      exact b_X7_couldGoBehind_22 C hr hk  _ _ _ h
    · rw [if_pos hc10] at h
      refine k_iconst (pc := 18) C (v := (1 : Int32)) dX7_couldGoBehind_18 (by decide) ?_
      refine k_goto (pc := 19) C dX7_couldGoBehind_19 (tgt := 23) (by decide) ?_
      exact b_X7_couldGoBehind_23 C hr hk  _ _ _ _ h
theorem c_X7_couldGoBehind {E : Ev} {l : Launch} {S : Sh} {R : Rw} {I : Iw} {a0 : Nat} {x1 : Int32} {x2 : Int32} {r : Int32} (h : f_X7_couldGoBehind S R I a0 x1 x2 = some r) : Mt E l yX7_couldGoBehind cX7_couldGoBehind 4 (some .int) 1 21 [.ref (E.1 + a0), .int x1, .int x2] S R I S R I (some (.int r)) 0 0 := mt_of (by decide) (Nat.le_of_ble_eq_true rfl) (fun p e s m args below meth c C hr hk hn => b_X7_couldGoBehind C hr hk _ _ _ h)
theorem lkV_RX7_112 : LkV RX7 112 RX7 yX7_couldGoBehind cX7_couldGoBehind 4 (some .int) 2 := ⟨(t3_in 220 (by decide +kernel) rfl), (t3_in 222 (by decide +kernel) rfl), (t0_in 24 (by decide +kernel) rfl), (t3_in 223 (by decide +kernel) rfl), (t1_in 2 (by decide +kernel) rfl), by decide, by decide +kernel⟩
theorem dX7_fits_0 : decode cX7_fits 0 = .ok (.iconst 0, 1) := by decide +kernel
theorem dX7_fits_1 : decode cX7_fits 1 = .ok (.istore_n 3, 1) := by decide +kernel
theorem dX7_fits_2 : decode cX7_fits 2 = .ok (.iload_n 3, 1) := by decide +kernel
theorem dX7_fits_3 : decode cX7_fits 3 = .ok (.aload_n 0, 1) := by decide +kernel
theorem dX7_fits_4 : decode cX7_fits 4 = .ok (.getfield 59, 3) := by decide +kernel
theorem dX7_fits_7 : decode cX7_fits 7 = .ok (.if_icmp .ge 36, 3) := by decide +kernel
theorem dX7_fits_10 : decode cX7_fits 10 = .ok (.iload_n 3, 1) := by decide +kernel
theorem dX7_fits_11 : decode cX7_fits 11 = .ok (.iload_n 2, 1) := by decide +kernel
theorem dX7_fits_12 : decode cX7_fits 12 = .ok (.if_icmp .eq 25, 3) := by decide +kernel
theorem dX7_fits_15 : decode cX7_fits 15 = .ok (.aload_n 0, 1) := by decide +kernel
theorem dX7_fits_16 : decode cX7_fits 16 = .ok (.aload_n 0, 1) := by decide +kernel
theorem dX7_fits_17 : decode cX7_fits 17 = .ok (.getfield 41, 3) := by decide +kernel
theorem dX7_fits_20 : decode cX7_fits 20 = .ok (.iload_n 3, 1) := by decide +kernel
theorem dX7_fits_21 : decode cX7_fits 21 = .ok (.iaload, 1) := by decide +kernel
theorem dX7_fits_22 : decode cX7_fits 22 = .ok (.iload_n 1, 1) := by decide +kernel
theorem dX7_fits_23 : decode cX7_fits 23 = .ok (.invokevirtual 112, 3) := by decide +kernel
theorem dX7_fits_26 : decode cX7_fits 26 = .ok (.aload_n 0, 1) := by decide +kernel
theorem dX7_fits_27 : decode cX7_fits 27 = .ok (.getfield 44, 3) := by decide +kernel
theorem dX7_fits_30 : decode cX7_fits 30 = .ok (.iload_n 3, 1) := by decide +kernel
theorem dX7_fits_31 : decode cX7_fits 31 = .ok (.iaload, 1) := by decide +kernel
theorem dX7_fits_32 : decode cX7_fits 32 = .ok (.if_icmp .eq 5, 3) := by decide +kernel
theorem dX7_fits_35 : decode cX7_fits 35 = .ok (.iconst 0, 1) := by decide +kernel
theorem dX7_fits_36 : decode cX7_fits 36 = .ok (.ireturn, 1) := by decide +kernel
theorem dX7_fits_37 : decode cX7_fits 37 = .ok (.iinc 3 1, 3) := by decide +kernel
theorem dX7_fits_40 : decode cX7_fits 40 = .ok (.goto (-38), 3) := by decide +kernel
theorem dX7_fits_43 : decode cX7_fits 43 = .ok (.iconst 1, 1) := by decide +kernel
theorem dX7_fits_44 : decode cX7_fits 44 = .ok (.ireturn, 1) := by decide +kernel
def f_X7_fits_37 (S : Sh) (R : Rw) (I : Iw) (ko2 : Nat → Int32 → Int32 → Int32 → Option (Int32)) (a0 : Nat) (x1 : Int32) (x2 : Int32) (x3 : Int32) : Option (Int32) := ko2 a0 x1 x2 (x3 + (1 : Int32))
set_option maxHeartbeats 4000000 in
theorem b_X7_fits_37 {E : Ev} {p : Program} {l : Launch} {e : Env} {s : State} {m : MethodId} {args : Array Value} {below : List Frame} {meth : Method} {c : Code} (C : Cx E RX7 cX7_fits 4 p s m c) (hr : meth.sig.returnType = (some .boolean)) (hk : meth.locks = false) {S : Sh} {R : Rw} {I : Iw} {r : Int32}  {ko2 : Nat → Int32 → Int32 → Int32 → Option (Int32)} (hko2 : ∀ (a0 : Nat) (x1 : Int32) (x2 : Int32) (x3 : Int32), ko2 a0 x1 x2 x3 = some r → Wk E 4 p l e ({ frames := 2, cells := 0, slots := 0, locals := 44 } : Room) s m args below meth c 0 0 (MQ below (Qw E S R I (some (.int r))) args s 0 0 (fun q => E.1 ≤ q)) 2 [(0, .ref (E.1 + a0)), (1, .int x1), (2, .int x2), (3, .int x3)] [] S R I) : ∀ (a0 : Nat) (x1 : Int32) (x2 : Int32) (x3 : Int32), f_X7_fits_37 S R I ko2  a0 x1 x2 x3 = some r → Wk E 4 p l e ({ frames := 2, cells := 0, slots := 0, locals := 44 } : Room) s m args below meth c 0 0 (MQ below (Qw E S R I (some (.int r))) args s 0 0 (fun q => E.1 ≤ q)) 37 [(0, .ref (E.1 + a0)), (1, .int x1), (2, .int x2), (3, .int x3)] [] S R I := by
  intro a0 x1 x2 x3 h
  rw [f_X7_fits_37] at h
  refine k_iinc (pc := 37) C dX7_fits_37 3 rfl (v := x3 + (1 : Int32)) (by rfl) (by decide) (L2 := [(0, .ref (E.1 + a0)), (1, .int x1), (2, .int x2), (3, .int (x3 + (1 : Int32)))]) rfl ?_
  refine k_goto (pc := 40) C dX7_fits_40 (tgt := 2) (by decide) ?_
  exact hko2 _ _ _ _ h
def f_X7_fits_2 (S : Sh) (R : Rw) (I : Iw)  : Nat → Nat → Int32 → Int32 → Int32 → Option (Int32)
  | 0, _, _, _, _ => none
  | n + 1, a0, x1, x2, x3 => gp (sok S a0 7 16) ((if (I a0 14) ≤ x3 then some (1 : Int32) else (if x3 = x2 then f_X7_fits_37 S R I (f_X7_fits_2 S R I  n) a0 x1 x2 x3 else rl (R a0 12) (fun b4 => gp (aok S 20 b4 x3) (bd (f_X7_couldGoBehind S R I a0 (I b4 x3.toNatClampNeg) x1) (fun r6 => rl (R a0 13) (fun b7 => gp (aok S 20 b7 x3) ((if r6 = (I b7 x3.toNatClampNeg) then f_X7_fits_37 S R I (f_X7_fits_2 S R I  n) a0 x1 x2 x3 else some (0 : Int32))))))))))
set_option maxHeartbeats 4000000 in
theorem b_X7_fits_2 {E : Ev} {p : Program} {l : Launch} {e : Env} {s : State} {m : MethodId} {args : Array Value} {below : List Frame} {meth : Method} {c : Code} (C : Cx E RX7 cX7_fits 4 p s m c) (hr : meth.sig.returnType = (some .boolean)) (hk : meth.locks = false) {S : Sh} {R : Rw} {I : Iw} {r : Int32}  : ∀ (n : Nat) (a0 : Nat) (x1 : Int32) (x2 : Int32) (x3 : Int32), f_X7_fits_2 S R I  n a0 x1 x2 x3 = some r → Wk E 4 p l e ({ frames := 2, cells := 0, slots := 0, locals := 44 } : Room) s m args below meth c 0 0 (MQ below (Qw E S R I (some (.int r))) args s 0 0 (fun q => E.1 ≤ q)) 2 [(0, .ref (E.1 + a0)), (1, .int x1), (2, .int x2), (3, .int x3)] [] S R I := by
  intro n
  induction n with
  | zero =>
    intro a0 x1 x2 x3 h
    rw [f_X7_fits_2] at h
    cases h
  | succ n ih =>
    intro a0 x1 x2 x3 h
    rw [f_X7_fits_2] at h
    refine k_iloadn (pc := 2) C dX7_fits_2 (i := 3) rfl 3 rfl ?_
    refine k_aloadn (pc := 3) C dX7_fits_3 (i := 0) rfl 0 rfl ?_
    obtain ⟨hs10, h⟩ := gp_e h
    have hs1 := sok_e hs10
    refine k_getI (pc := 4) C lkF_RX7_59_7 hs1 ir_7_14 dX7_fits_4 ?_
    refine k_icmp_ge (pc := 7) C dX7_fits_7 (tgt := 43) (by decide) (fun hc2 => ?_) (fun hc2 => ?_)
    · rw [if_pos hc2] at h
      refine k_iconst (pc := 43) C (v := (1 : Int32)) dX7_fits_43 (by decide) ?_
      have h := Option.some.inj h
      subst h
      exact k_zret (pc := 44) C hr hk (Or.inr rfl) dX7_fits_44
    · rw [if_neg hc2] at h
      refine k_iloadn (pc := 10) C dX7_fits_10 (i := 3) rfl 3 rfl ?_
      refine k_iloadn (pc := 11) C dX7_fits_11 (i := 2) rfl 2 rfl ?_
      refine k_icmp_eq (pc := 12) C dX7_fits_12 (tgt := 37) (by decide) (fun hc3 => ?_) (fun hc3 => ?_)
      · rw [if_pos hc3] at h
        exact b_X7_fits_37 C hr hk ih _ _ _ _ h
      · rw [if_neg hc3] at h
        refine k_aloadn (pc := 15) C dX7_fits_15 (i := 0) rfl 0 rfl ?_
        refine k_aloadn (pc := 16) C dX7_fits_16 (i := 0) rfl 0 rfl ?_
        obtain ⟨b4, hb4, h⟩ := rl_e h
        refine k_getR (pc := 17) C lkF_RX7_41_7 hs1 ir_7_12 hb4 dX7_fits_17 ?_
        refine k_iloadn (pc := 20) C dX7_fits_20 (i := 3) rfl 3 rfl ?_
        obtain ⟨ha5, h⟩ := gp_e h
        refine k_iald (pc := 21) C ha5 dX7_fits_21 ?_
        refine k_iloadn (pc := 22) C dX7_fits_22 (i := 1) rfl 1 rfl ?_
        obtain ⟨r6, hr6, h⟩ := bd_e h
        refine k_V (pc := 23) (st := []) C (c_X7_couldGoBehind hr6) lkV_RX7_112 hs1 rfl rfl rfl (Nat.le_of_ble_eq_true rfl) (Nat.le_of_ble_eq_true rfl) (Nat.le_of_ble_eq_true rfl) (Nat.le_of_ble_eq_true rfl) (Nat.le_of_ble_eq_true rfl) dX7_fits_23 ?_
        refine k_nf (cells2 := 0) (slots2 := 0) (st2 := [.int r6]) rfl rfl rfl ?_
        refine k_aloadn (pc := 26) C dX7_fits_26 (i := 0) rfl 0 rfl ?_
        obtain ⟨b7, hb7, h⟩ := rl_e h
        refine k_getR (pc := 27) C lkF_RX7_44_7 hs1 ir_7_13 hb7 dX7_fits_27 ?_
        refine k_iloadn (pc := 30) C dX7_fits_30 (i := 3) rfl 3 rfl ?_
        obtain ⟨ha8, h⟩ := gp_e h
        refine k_iald (pc := 31) C ha8 dX7_fits_31 ?_
        refine k_icmp_eq (pc := 32) C dX7_fits_32 (tgt := 37) (by decide) (fun hc9 => ?_) (fun hc9 => ?_)
        · rw [if_pos hc9] at h
          exact b_X7_fits_37 C hr hk ih _ _ _ _ h
        · rw [if_neg hc9] at h
          refine k_iconst (pc := 35) C (v := (0 : Int32)) dX7_fits_35 (by decide) ?_
          have h := Option.some.inj h
          subst h
          exact k_zret (pc := 36) C hr hk (Or.inl rfl) dX7_fits_36
def f_X7_fits (S : Sh) (R : Rw) (I : Iw)  (a0 : Nat) (x1 : Int32) (x2 : Int32) : Option (Int32) := f_X7_fits_2 S R I  512 a0 x1 x2 (0 : Int32)
set_option maxHeartbeats 4000000 in
theorem b_X7_fits {E : Ev} {p : Program} {l : Launch} {e : Env} {s : State} {m : MethodId} {args : Array Value} {below : List Frame} {meth : Method} {c : Code} (C : Cx E RX7 cX7_fits 4 p s m c) (hr : meth.sig.returnType = (some .boolean)) (hk : meth.locks = false) {S : Sh} {R : Rw} {I : Iw} {r : Int32}  : ∀ (a0 : Nat) (x1 : Int32) (x2 : Int32), f_X7_fits S R I   a0 x1 x2 = some r → Wk E 4 p l e ({ frames := 2, cells := 0, slots := 0, locals := 44 } : Room) s m args below meth c 0 0 (MQ below (Qw E S R I (some (.int r))) args s 0 0 (fun q => E.1 ≤ q)) 0 [(0, .ref (E.1 + a0)), (1, .int x1), (2, .int x2)] [] S R I := by
  intro a0 x1 x2 h
  rw [f_X7_fits] at h
  refine k_iconst (pc := 0) C (v := (0 : Int32)) dX7_fits_0 (by decide) ?_
  refine k_istoren (pc := 1) C dX7_fits_1 (i := 3) rfl (by decide) (L2 := [(0, .ref (E.1 + a0)), (1, .int x1), (2, .int x2), (3, .int (0 : Int32))]) rfl ?_
  exact b_X7_fits_2 C hr hk  _ _ _ _ _ h
theorem c_X7_fits {E : Ev} {l : Launch} {S : Sh} {R : Rw} {I : Iw} {a0 : Nat} {x1 : Int32} {x2 : Int32} {r : Int32} (h : f_X7_fits S R I a0 x1 x2 = some r) : Mt E l yX7_fits cX7_fits 4 (some .boolean) 2 44 [.ref (E.1 + a0), .int x1, .int x2] S R I S R I (some (.int r)) 0 0 := mt_of (by decide) (Nat.le_of_ble_eq_true rfl) (fun p e s m args below meth c C hr hk hn => b_X7_fits C hr hk _ _ _ h)
