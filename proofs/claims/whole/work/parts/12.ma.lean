/-! X2_costOf, X2_visitBehind, X7_has, X7_topsOf, X7_mayGo, X2_visit -/
theorem lkF_RX2_28_2 : LkF RX2 28 2 7 := ⟨RX2, TX2, 11, "UnlikeNeighbours$Orders", fc2, by decide, (t1_in 183 (by decide +kernel) rfl), Or.inl rfl⟩
theorem lkF_RX2_56_2 : LkF RX2 56 2 8 := ⟨RX2, TX2, 11, "UnlikeNeighbours$Orders", fc2, by decide, (t1_in 184 (by decide +kernel) rfl), Or.inl rfl⟩
theorem lkS_RX2_50 : LkS RX2 50 yJ6_bitCount_0f7a4 cJ6_bitCount_0f7a4 1 (some .int) 1 := ⟨(t3_in 90 (by decide +kernel) rfl), (t3_in 91 (by decide +kernel) rfl), (t3_in 92 (by decide +kernel) rfl), (t1_in 14 (by decide +kernel) rfl), by decide, by decide +kernel⟩
theorem dX2_costOf_0 : decode cX2_costOf 0 = .ok (.aload_n 0, 1) := by decide +kernel
theorem dX2_costOf_1 : decode cX2_costOf 1 = .ok (.getfield 28, 3) := by decide +kernel
theorem dX2_costOf_4 : decode cX2_costOf 4 = .ok (.iload_n 2, 1) := by decide +kernel
theorem dX2_costOf_5 : decode cX2_costOf 5 = .ok (.iaload, 1) := by decide +kernel
theorem dX2_costOf_6 : decode cX2_costOf 6 = .ok (.aload_n 0, 1) := by decide +kernel
theorem dX2_costOf_7 : decode cX2_costOf 7 = .ok (.getfield 56, 3) := by decide +kernel
theorem dX2_costOf_10 : decode cX2_costOf 10 = .ok (.iload_n 1, 1) := by decide +kernel
theorem dX2_costOf_11 : decode cX2_costOf 11 = .ok (.invokestatic 50, 3) := by decide +kernel
theorem dX2_costOf_14 : decode cX2_costOf 14 = .ok (.isub, 1) := by decide +kernel
theorem dX2_costOf_15 : decode cX2_costOf 15 = .ok (.iconst 1, 1) := by decide +kernel
theorem dX2_costOf_16 : decode cX2_costOf 16 = .ok (.iadd, 1) := by decide +kernel
theorem dX2_costOf_17 : decode cX2_costOf 17 = .ok (.imul, 1) := by decide +kernel
theorem dX2_costOf_18 : decode cX2_costOf 18 = .ok (.ireturn, 1) := by decide +kernel
def f_X2_costOf (S : Sh) (R : Rw) (I : Iw)  (a0 : Nat) (x1 : Int32) (x2 : Int32) : Option (Int32) := gp (sok S a0 2 11) (rl (R a0 7) (fun b2 => gp (aok S 20 b2 x2) (bd (f_J6_bitCount_0f7a4 S R I x1) (fun r4 => some ((I b2 x2.toNatClampNeg) * (((I a0 8) - r4) + (1 : Int32)))))))
set_option maxHeartbeats 4000000 in
theorem b_X2_costOf {E : Ev} {p : Program} {l : Launch} {e : Env} {s : State} {m : MethodId} {args : Array Value} {below : List Frame} {meth : Method} {c : Code} (C : Cx E RX2 cX2_costOf 3 p s m c) (hr : meth.sig.returnType = (some .int)) (hk : meth.locks = false) {S : Sh} {R : Rw} {I : Iw} {r : Int32}  : ∀ (a0 : Nat) (x1 : Int32) (x2 : Int32), f_X2_costOf S R I   a0 x1 x2 = some r → Wk E 3 p l e ({ frames := 1, cells := 0, slots := 0, locals := 20 } : Room) s m args below meth c 0 0 (MQ below (Qw E S R I (some (.int r))) args s 0 0 (fun q => E.1 ≤ q)) 0 [(0, .ref (E.1 + a0)), (1, .int x1), (2, .int x2)] [] S R I := by
  intro a0 x1 x2 h
  rw [f_X2_costOf] at h
  refine k_aloadn (pc := 0) C dX2_costOf_0 (i := 0) rfl 0 rfl ?_
  obtain ⟨hs10, h⟩ := gp_e h
  have hs1 := sok_e hs10
  obtain ⟨b2, hb2, h⟩ := rl_e h
  refine k_getR (pc := 1) C lkF_RX2_28_2 hs1 ir_2_7 hb2 dX2_costOf_1 ?_
  refine k_iloadn (pc := 4) C dX2_costOf_4 (i := 2) rfl 2 rfl ?_
  obtain ⟨ha3, h⟩ := gp_e h
  refine k_iald (pc := 5) C ha3 dX2_costOf_5 ?_
  refine k_aloadn (pc := 6) C dX2_costOf_6 (i := 0) rfl 0 rfl ?_
  refine k_getI (pc := 7) C lkF_RX2_56_2 hs1 ir_2_8 dX2_costOf_7 ?_
  refine k_iloadn (pc := 10) C dX2_costOf_10 (i := 1) rfl 1 rfl ?_
  obtain ⟨r4, hr4, h⟩ := bd_e h
  refine k_S (pc := 11) (st := [.int (I a0 8), .int (I b2 x2.toNatClampNeg)]) C (c_J6_bitCount_0f7a4 hr4) lkS_RX2_50 rfl rfl (Nat.le_of_ble_eq_true rfl) (Nat.le_of_ble_eq_true rfl) (Nat.le_of_ble_eq_true rfl) (Nat.le_of_ble_eq_true rfl) (Nat.le_of_ble_eq_true rfl) dX2_costOf_11 ?_
  refine k_nf (cells2 := 0) (slots2 := 0) (st2 := [.int r4, .int (I a0 8), .int (I b2 x2.toNatClampNeg)]) rfl rfl rfl ?_
  refine k_isub (pc := 14) C dX2_costOf_14 ?_
  refine k_iconst (pc := 15) C (v := (1 : Int32)) dX2_costOf_15 (by decide) ?_
  refine k_iadd (pc := 16) C dX2_costOf_16 ?_
  refine k_imul (pc := 17) C dX2_costOf_17 ?_
  have h := Option.some.inj h
  subst h
  exact k_iret (pc := 18) C hr hk dX2_costOf_18
theorem c_X2_costOf {E : Ev} {l : Launch} {S : Sh} {R : Rw} {I : Iw} {a0 : Nat} {x1 : Int32} {x2 : Int32} {r : Int32} (h : f_X2_costOf S R I a0 x1 x2 = some r) : Mt E l yX2_costOf cX2_costOf 3 (some .int) 1 20 [.ref (E.1 + a0), .int x1, .int x2] S R I S R I (some (.int r)) 0 0 := mt_of (by decide) (Nat.le_of_ble_eq_true rfl) (fun p e s m args below meth c C hr hk hn => b_X2_costOf C hr hk _ _ _ h)
theorem lkSN_RX2_89 : LkSN RX2 89 yX11_without "UnlikeNeighbours" cX11_without 2 (some .int) 2 := ⟨l3_in 113 (by decide +kernel), (t3_in 63 (by decide +kernel) rfl), (t3_in 64 (by decide +kernel) rfl), (t1_in 1 (by decide +kernel) rfl), by decide, by decide +kernel⟩
theorem lkV_RX2_66 : LkV RX2 66 RX2 yX2_visit cX2_visit 7 none 3 := ⟨(t3_in 98 (by decide +kernel) rfl), (t3_in 100 (by decide +kernel) rfl), (t0_in 17 (by decide +kernel) rfl), (t3_in 101 (by decide +kernel) rfl), (t1_in 5 (by decide +kernel) rfl), by decide, by decide +kernel⟩
theorem lkS_RX2_74 : LkS RX2 74 yX2_stateOf cX2_stateOf 3 (some .int) 2 := ⟨(t3_in 102 (by decide +kernel) rfl), (t3_in 103 (by decide +kernel) rfl), (t3_in 104 (by decide +kernel) rfl), (t1_in 5 (by decide +kernel) rfl), by decide, by decide +kernel⟩
theorem lkF_RX2_15_2 : LkF RX2 15 2 3 := ⟨RX2, TX2, 11, "UnlikeNeighbours$Orders", fc2, by decide, (t1_in 179 (by decide +kernel) rfl), Or.inl rfl⟩
theorem lkF_RX2_18_2 : LkF RX2 18 2 4 := ⟨RX2, TX2, 11, "UnlikeNeighbours$Orders", fc2, by decide, (t1_in 180 (by decide +kernel) rfl), Or.inl rfl⟩
theorem lkF_RX2_24_2 : LkF RX2 24 2 6 := ⟨RX2, TX2, 11, "UnlikeNeighbours$Orders", fc2, by decide, (t1_in 182 (by decide +kernel) rfl), Or.inl rfl⟩
theorem lkF_RX2_21_2 : LkF RX2 21 2 5 := ⟨RX2, TX2, 11, "UnlikeNeighbours$Orders", fc2, by decide, (t1_in 181 (by decide +kernel) rfl), Or.inl rfl⟩
theorem lkV_RX2_97 : LkV RX2 97 RX2 yX2_costOf cX2_costOf 3 (some .int) 2 := ⟨(t3_in 115 (by decide +kernel) rfl), (t3_in 117 (by decide +kernel) rfl), (t0_in 19 (by decide +kernel) rfl), (t3_in 118 (by decide +kernel) rfl), (t1_in 5 (by decide +kernel) rfl), by decide, by decide +kernel⟩
theorem dX2_visitBehind_0 : decode cX2_visitBehind 0 = .ok (.iload_n 1, 1) := by decide +kernel
theorem dX2_visitBehind_1 : decode cX2_visitBehind 1 = .ok (.iload_n 3, 1) := by decide +kernel
theorem dX2_visitBehind_2 : decode cX2_visitBehind 2 = .ok (.invokestatic 89, 3) := by decide +kernel
theorem dX2_visitBehind_5 : decode cX2_visitBehind 5 = .ok (.istore 5, 2) := by decide +kernel
theorem dX2_visitBehind_7 : decode cX2_visitBehind 7 = .ok (.aload_n 0, 1) := by decide +kernel
theorem dX2_visitBehind_8 : decode cX2_visitBehind 8 = .ok (.iload 5, 2) := by decide +kernel
theorem dX2_visitBehind_10 : decode cX2_visitBehind 10 = .ok (.iload_n 3, 1) := by decide +kernel
theorem dX2_visitBehind_11 : decode cX2_visitBehind 11 = .ok (.iload 4, 2) := by decide +kernel
theorem dX2_visitBehind_13 : decode cX2_visitBehind 13 = .ok (.iconst 1, 1) := by decide +kernel
theorem dX2_visitBehind_14 : decode cX2_visitBehind 14 = .ok (.iadd, 1) := by decide +kernel
theorem dX2_visitBehind_15 : decode cX2_visitBehind 15 = .ok (.invokevirtual 66, 3) := by decide +kernel
theorem dX2_visitBehind_18 : decode cX2_visitBehind 18 = .ok (.iload 5, 2) := by decide +kernel
theorem dX2_visitBehind_20 : decode cX2_visitBehind 20 = .ok (.iload_n 3, 1) := by decide +kernel
theorem dX2_visitBehind_21 : decode cX2_visitBehind 21 = .ok (.invokestatic 74, 3) := by decide +kernel
theorem dX2_visitBehind_24 : decode cX2_visitBehind 24 = .ok (.istore 6, 2) := by decide +kernel
theorem dX2_visitBehind_26 : decode cX2_visitBehind 26 = .ok (.aload_n 0, 1) := by decide +kernel
theorem dX2_visitBehind_27 : decode cX2_visitBehind 27 = .ok (.getfield 15, 3) := by decide +kernel
theorem dX2_visitBehind_30 : decode cX2_visitBehind 30 = .ok (.iload_n 2, 1) := by decide +kernel
theorem dX2_visitBehind_31 : decode cX2_visitBehind 31 = .ok (.dup2, 1) := by decide +kernel
theorem dX2_visitBehind_32 : decode cX2_visitBehind 32 = .ok (.iaload, 1) := by decide +kernel
theorem dX2_visitBehind_33 : decode cX2_visitBehind 33 = .ok (.aload_n 0, 1) := by decide +kernel
theorem dX2_visitBehind_34 : decode cX2_visitBehind 34 = .ok (.getfield 15, 3) := by decide +kernel
theorem dX2_visitBehind_37 : decode cX2_visitBehind 37 = .ok (.iload 6, 2) := by decide +kernel
theorem dX2_visitBehind_39 : decode cX2_visitBehind 39 = .ok (.iaload, 1) := by decide +kernel
theorem dX2_visitBehind_40 : decode cX2_visitBehind 40 = .ok (.iadd, 1) := by decide +kernel
theorem dX2_visitBehind_41 : decode cX2_visitBehind 41 = .ok (.iastore, 1) := by decide +kernel
theorem dX2_visitBehind_42 : decode cX2_visitBehind 42 = .ok (.aload_n 0, 1) := by decide +kernel
theorem dX2_visitBehind_43 : decode cX2_visitBehind 43 = .ok (.getfield 18, 3) := by decide +kernel
theorem dX2_visitBehind_46 : decode cX2_visitBehind 46 = .ok (.iload_n 2, 1) := by decide +kernel
theorem dX2_visitBehind_47 : decode cX2_visitBehind 47 = .ok (.aload_n 0, 1) := by decide +kernel
theorem dX2_visitBehind_48 : decode cX2_visitBehind 48 = .ok (.getfield 18, 3) := by decide +kernel
theorem dX2_visitBehind_51 : decode cX2_visitBehind 51 = .ok (.iload_n 2, 1) := by decide +kernel
theorem dX2_visitBehind_52 : decode cX2_visitBehind 52 = .ok (.iaload, 1) := by decide +kernel
theorem dX2_visitBehind_53 : decode cX2_visitBehind 53 = .ok (.aload_n 0, 1) := by decide +kernel
theorem dX2_visitBehind_54 : decode cX2_visitBehind 54 = .ok (.getfield 18, 3) := by decide +kernel
theorem dX2_visitBehind_57 : decode cX2_visitBehind 57 = .ok (.iload 6, 2) := by decide +kernel
theorem dX2_visitBehind_59 : decode cX2_visitBehind 59 = .ok (.iaload, 1) := by decide +kernel
theorem dX2_visitBehind_60 : decode cX2_visitBehind 60 = .ok (.iconst 1, 1) := by decide +kernel
theorem dX2_visitBehind_61 : decode cX2_visitBehind 61 = .ok (.iadd, 1) := by decide +kernel
theorem dX2_visitBehind_62 : decode cX2_visitBehind 62 = .ok (.invokestatic 92, 3) := by decide +kernel
theorem dX2_visitBehind_65 : decode cX2_visitBehind 65 = .ok (.iastore, 1) := by decide +kernel
theorem dX2_visitBehind_66 : decode cX2_visitBehind 66 = .ok (.aload_n 0, 1) := by decide +kernel
theorem dX2_visitBehind_67 : decode cX2_visitBehind 67 = .ok (.getfield 24, 3) := by decide +kernel
theorem dX2_visitBehind_70 : decode cX2_visitBehind 70 = .ok (.iload 6, 2) := by decide +kernel
theorem dX2_visitBehind_72 : decode cX2_visitBehind 72 = .ok (.baload, 1) := by decide +kernel
theorem dX2_visitBehind_73 : decode cX2_visitBehind 73 = .ok (.ifCond .ne 10, 3) := by decide +kernel
theorem dX2_visitBehind_76 : decode cX2_visitBehind 76 = .ok (.aload_n 0, 1) := by decide +kernel
theorem dX2_visitBehind_77 : decode cX2_visitBehind 77 = .ok (.getfield 24, 3) := by decide +kernel
theorem dX2_visitBehind_80 : decode cX2_visitBehind 80 = .ok (.iload_n 2, 1) := by decide +kernel
theorem dX2_visitBehind_81 : decode cX2_visitBehind 81 = .ok (.iconst 1, 1) := by decide +kernel
theorem dX2_visitBehind_82 : decode cX2_visitBehind 82 = .ok (.bastore, 1) := by decide +kernel
theorem dX2_visitBehind_83 : decode cX2_visitBehind 83 = .ok (.aload_n 0, 1) := by decide +kernel
theorem dX2_visitBehind_84 : decode cX2_visitBehind 84 = .ok (.getfield 15, 3) := by decide +kernel
theorem dX2_visitBehind_87 : decode cX2_visitBehind 87 = .ok (.iload 6, 2) := by decide +kernel
theorem dX2_visitBehind_89 : decode cX2_visitBehind 89 = .ok (.iaload, 1) := by decide +kernel
theorem dX2_visitBehind_90 : decode cX2_visitBehind 90 = .ok (.ifCond .le 32, 3) := by decide +kernel
theorem dX2_visitBehind_93 : decode cX2_visitBehind 93 = .ok (.aload_n 0, 1) := by decide +kernel
theorem dX2_visitBehind_94 : decode cX2_visitBehind 94 = .ok (.getfield 21, 3) := by decide +kernel
theorem dX2_visitBehind_97 : decode cX2_visitBehind 97 = .ok (.iload_n 2, 1) := by decide +kernel
theorem dX2_visitBehind_98 : decode cX2_visitBehind 98 = .ok (.aload_n 0, 1) := by decide +kernel
theorem dX2_visitBehind_99 : decode cX2_visitBehind 99 = .ok (.getfield 21, 3) := by decide +kernel
theorem dX2_visitBehind_102 : decode cX2_visitBehind 102 = .ok (.iload_n 2, 1) := by decide +kernel
theorem dX2_visitBehind_103 : decode cX2_visitBehind 103 = .ok (.iaload, 1) := by decide +kernel
theorem dX2_visitBehind_104 : decode cX2_visitBehind 104 = .ok (.aload_n 0, 1) := by decide +kernel
theorem dX2_visitBehind_105 : decode cX2_visitBehind 105 = .ok (.iload_n 1, 1) := by decide +kernel
theorem dX2_visitBehind_106 : decode cX2_visitBehind 106 = .ok (.iload_n 3, 1) := by decide +kernel
theorem dX2_visitBehind_107 : decode cX2_visitBehind 107 = .ok (.invokevirtual 97, 3) := by decide +kernel
theorem dX2_visitBehind_110 : decode cX2_visitBehind 110 = .ok (.aload_n 0, 1) := by decide +kernel
theorem dX2_visitBehind_111 : decode cX2_visitBehind 111 = .ok (.getfield 21, 3) := by decide +kernel
theorem dX2_visitBehind_114 : decode cX2_visitBehind 114 = .ok (.iload 6, 2) := by decide +kernel
theorem dX2_visitBehind_116 : decode cX2_visitBehind 116 = .ok (.iaload, 1) := by decide +kernel
theorem dX2_visitBehind_117 : decode cX2_visitBehind 117 = .ok (.iadd, 1) := by decide +kernel
theorem dX2_visitBehind_118 : decode cX2_visitBehind 118 = .ok (.invokestatic 100, 3) := by decide +kernel
theorem dX2_visitBehind_121 : decode cX2_visitBehind 121 = .ok (.iastore, 1) := by decide +kernel
theorem dX2_visitBehind_122 : decode cX2_visitBehind 122 = .ok (.return_, 1) := by decide +kernel
def f_X2_visitBehind_83 (g : Sh → Rw → Iw → Nat → Int32 → Int32 → Int32 → Option (Iw)) (S : Sh) (R : Rw)  (I : Iw) (a0 : Nat) (x1 : Int32) (x2 : Int32) (x3 : Int32) (x6 : Int32) : Option (Iw) := gp (sok S a0 2 11) (rl (R a0 3) (fun b22 => gp (aok S 20 b22 x6) ((if (I b22 x6.toNatClampNeg) ≤ 0 then some I else rl (R a0 5) (fun b25 => rl (R a0 5) (fun b26 => gp (aok S 20 b26 x2) (bd (f_X2_costOf S R I a0 x1 x3) (fun r28 => rl (R a0 5) (fun b29 => gp (aok S 20 b29 x6) (gp (aok S 20 b25 x2) (lt (up2 I b25 x2.toNatClampNeg (jmin (I b26 x2.toNatClampNeg) (r28 + (I b29 x6.toNatClampNeg)))) (fun I32 => some I32))))))))))))
set_option maxHeartbeats 4000000 in
theorem b_X2_visitBehind_83 {E : Ev} {p : Program} {l : Launch} {e : Env} {s : State} {m : MethodId} {args : Array Value} {below : List Frame} {meth : Method} {c : Code} {dF dL : Nat} (C : Cx E RX2 cX2_visitBehind 7 p s m c) (hr : meth.sig.returnType = none) (hk : meth.locks = false) {S : Sh} {R : Rw} {r : Iw} {g : Sh → Rw → Iw → Nat → Int32 → Int32 → Int32 → Option (Iw)} (hg : ∀ (S : Sh) (R : Rw) (I : Iw) (a0 : Nat) (x1 : Int32) (x2 : Int32) (x3 : Int32) (r : Iw), g S R I a0 x1 x2 x3 = some r → Mt E l yX2_visit cX2_visit 7 none dF dL [.ref (E.1 + a0), .int x1, .int x2, .int x3] S R I S R r none 0 0) : ∀ (I : Iw) (a0 : Nat) (x1 : Int32) (x2 : Int32) (x3 : Int32) (x6 : Int32), f_X2_visitBehind_83 g S R   I a0 x1 x2 x3 x6 = some r → Wk E 7 p l e ({ frames := dF + 2, cells := 0, slots := 0, locals := dL + 44 } : Room) s m args below meth c 0 0 (MQ below (Qw E S R r none) args s 0 0 (fun q => E.1 ≤ q)) 83 [(0, .ref (E.1 + a0)), (1, .int x1), (2, .int x2), (3, .int x3), (6, .int x6)] [] S R I := by
  intro I a0 x1 x2 x3 x6 h
  rw [f_X2_visitBehind_83] at h
  refine k_aloadn (pc := 83) C dX2_visitBehind_83 (i := 0) rfl 0 rfl ?_
  obtain ⟨hs210, h⟩ := gp_e h
  have hs21 := sok_e hs210
  obtain ⟨b22, hb22, h⟩ := rl_e h
  refine k_getR (pc := 84) C lkF_RX2_15_2 hs21 ir_2_3 hb22 dX2_visitBehind_84 ?_
  refine k_iload (pc := 87) C dX2_visitBehind_87 4 rfl ?_
  obtain ⟨ha23, h⟩ := gp_e h
  refine k_iald (pc := 89) C ha23 dX2_visitBehind_89 ?_
  refine k_if_le (pc := 90) C dX2_visitBehind_90 (tgt := 122) (by decide) (fun hc24 => ?_) (fun hc24 => ?_)
  · rw [if_pos hc24] at h
    have h := Option.some.inj h
    subst h
    exact k_vret (pc := 122) C hr hk dX2_visitBehind_122
  · rw [if_neg hc24] at h
    refine k_aloadn (pc := 93) C dX2_visitBehind_93 (i := 0) rfl 0 rfl ?_
    obtain ⟨b25, hb25, h⟩ := rl_e h
    refine k_getR (pc := 94) C lkF_RX2_21_2 hs21 ir_2_5 hb25 dX2_visitBehind_94 ?_
    refine k_iloadn (pc := 97) C dX2_visitBehind_97 (i := 2) rfl 2 rfl ?_
    refine k_aloadn (pc := 98) C dX2_visitBehind_98 (i := 0) rfl 0 rfl ?_
    obtain ⟨b26, hb26, h⟩ := rl_e h
    refine k_getR (pc := 99) C lkF_RX2_21_2 hs21 ir_2_5 hb26 dX2_visitBehind_99 ?_
    refine k_iloadn (pc := 102) C dX2_visitBehind_102 (i := 2) rfl 2 rfl ?_
    obtain ⟨ha27, h⟩ := gp_e h
    refine k_iald (pc := 103) C ha27 dX2_visitBehind_103 ?_
    refine k_aloadn (pc := 104) C dX2_visitBehind_104 (i := 0) rfl 0 rfl ?_
    refine k_iloadn (pc := 105) C dX2_visitBehind_105 (i := 1) rfl 1 rfl ?_
    refine k_iloadn (pc := 106) C dX2_visitBehind_106 (i := 3) rfl 3 rfl ?_
    obtain ⟨r28, hr28, h⟩ := bd_e h
    refine k_V (pc := 107) (st := [.int (I b26 x2.toNatClampNeg), .int x2, .ref (E.1 + b25)]) C (c_X2_costOf hr28) lkV_RX2_97 hs21 rfl rfl rfl (Nat.le_of_ble_eq_true rfl) (by show 1 + 1 ≤ dF + 2; omega) (by show 8 + (3 + 11) + 20 ≤ dL + 44; omega) (Nat.le_of_ble_eq_true rfl) (Nat.le_of_ble_eq_true rfl) dX2_visitBehind_107 ?_
    refine k_nf (cells2 := 0) (slots2 := 0) (st2 := [.int r28, .int (I b26 x2.toNatClampNeg), .int x2, .ref (E.1 + b25)]) rfl rfl rfl ?_
    refine k_aloadn (pc := 110) C dX2_visitBehind_110 (i := 0) rfl 0 rfl ?_
    obtain ⟨b29, hb29, h⟩ := rl_e h
    refine k_getR (pc := 111) C lkF_RX2_21_2 hs21 ir_2_5 hb29 dX2_visitBehind_111 ?_
    refine k_iload (pc := 114) C dX2_visitBehind_114 4 rfl ?_
    obtain ⟨ha30, h⟩ := gp_e h
    refine k_iald (pc := 116) C ha30 dX2_visitBehind_116 ?_
    refine k_iadd (pc := 117) C dX2_visitBehind_117 ?_
    refine k_mmin (pc := 118) (st := [.int x2, .ref (E.1 + b25)]) C (t3_in 119 (by decide +kernel) rfl) (Nat.le_of_ble_eq_true rfl) (by show 1 ≤ dF + 2; omega) (by show 21 ≤ dL + 44; omega) (Nat.le_of_ble_eq_true rfl) (Nat.le_of_ble_eq_true rfl) dX2_visitBehind_118 ?_
    obtain ⟨ha31, h⟩ := gp_e h
    obtain ⟨I32, eI32, h⟩ := lt_e h
    refine k_iast (pc := 121) C ha31 dX2_visitBehind_121 ?_
    rw [← eI32]
    have h := Option.some.inj h
    subst h
    exact k_vret (pc := 122) C hr hk dX2_visitBehind_122
def f_X2_visitBehind (g : Sh → Rw → Iw → Nat → Int32 → Int32 → Int32 → Option (Iw)) (S : Sh) (R : Rw)  (I : Iw) (a0 : Nat) (x1 : Int32) (x2 : Int32) (x3 : Int32) (x4 : Int32) : Option (Iw) := bd (f_X11_without S R I x1 x3) (fun r1 => gp (sok S a0 2 11) (bd (g S R I a0 r1 x3 (x4 + (1 : Int32))) (fun r3 => bd (f_X2_stateOf S R r3 r1 x3) (fun r4 => rl (R a0 3) (fun b5 => gp (aok S 20 b5 x2) (rl (R a0 3) (fun b7 => gp (aok S 20 b7 r4) (gp (aok S 20 b5 x2) (lt (up2 r3 b5 x2.toNatClampNeg ((r3 b5 x2.toNatClampNeg) + (r3 b7 r4.toNatClampNeg))) (fun I10 => rl (R a0 4) (fun b11 => rl (R a0 4) (fun b12 => gp (aok S 20 b12 x2) (rl (R a0 4) (fun b14 => gp (aok S 20 b14 r4) (gp (aok S 20 b11 x2) (lt (up2 I10 b11 x2.toNatClampNeg (jmax (I10 b12 x2.toNatClampNeg) ((I10 b14 r4.toNatClampNeg) + (1 : Int32)))) (fun I17 => rl (R a0 6) (fun b18 => gp (aok S 22 b18 r4) ((if (I17 b18 r4.toNatClampNeg) = 0 then rl (R a0 6) (fun b33 => gp (aok S 22 b33 x2) (lt (up2 I17 b33 x2.toNatClampNeg (1 : Int32)) (fun I35 => f_X2_visitBehind_83 g S R  I35 a0 x1 x2 x3 r4))) else f_X2_visitBehind_83 g S R  I17 a0 x1 x2 x3 r4))))))))))))))))))))
set_option maxHeartbeats 4000000 in
theorem b_X2_visitBehind {E : Ev} {p : Program} {l : Launch} {e : Env} {s : State} {m : MethodId} {args : Array Value} {below : List Frame} {meth : Method} {c : Code} {dF dL : Nat} (C : Cx E RX2 cX2_visitBehind 7 p s m c) (hr : meth.sig.returnType = none) (hk : meth.locks = false) {S : Sh} {R : Rw} {r : Iw} {g : Sh → Rw → Iw → Nat → Int32 → Int32 → Int32 → Option (Iw)} (hg : ∀ (S : Sh) (R : Rw) (I : Iw) (a0 : Nat) (x1 : Int32) (x2 : Int32) (x3 : Int32) (r : Iw), g S R I a0 x1 x2 x3 = some r → Mt E l yX2_visit cX2_visit 7 none dF dL [.ref (E.1 + a0), .int x1, .int x2, .int x3] S R I S R r none 0 0) : ∀ (I : Iw) (a0 : Nat) (x1 : Int32) (x2 : Int32) (x3 : Int32) (x4 : Int32), f_X2_visitBehind g S R   I a0 x1 x2 x3 x4 = some r → Wk E 7 p l e ({ frames := dF + 2, cells := 0, slots := 0, locals := dL + 44 } : Room) s m args below meth c 0 0 (MQ below (Qw E S R r none) args s 0 0 (fun q => E.1 ≤ q)) 0 [(0, .ref (E.1 + a0)), (1, .int x1), (2, .int x2), (3, .int x3), (4, .int x4)] [] S R I := by
  intro I a0 x1 x2 x3 x4 h
  rw [f_X2_visitBehind] at h
  refine k_iloadn (pc := 0) C dX2_visitBehind_0 (i := 1) rfl 1 rfl ?_
  refine k_iloadn (pc := 1) C dX2_visitBehind_1 (i := 3) rfl 3 rfl ?_
  obtain ⟨r1, hr1, h⟩ := bd_e h
  refine k_SN (pc := 2) (st := []) C (c_X11_without hr1) lkSN_RX2_89 rfl rfl (Nat.le_of_ble_eq_true rfl) (by show 0 + 1 ≤ dF + 2; omega) (by show 8 + (2 + 11) + 0 ≤ dL + 44; omega) (Nat.le_of_ble_eq_true rfl) (Nat.le_of_ble_eq_true rfl) dX2_visitBehind_2 ?_
  refine k_nf (cells2 := 0) (slots2 := 0) (st2 := [.int r1]) rfl rfl rfl ?_
  refine k_istore (pc := 5) C dX2_visitBehind_5 (by decide) (L2 := [(0, .ref (E.1 + a0)), (1, .int x1), (2, .int x2), (3, .int x3), (4, .int x4), (5, .int r1)]) rfl ?_
  refine k_aloadn (pc := 7) C dX2_visitBehind_7 (i := 0) rfl 0 rfl ?_
  refine k_iload (pc := 8) C dX2_visitBehind_8 5 rfl ?_
  refine k_iloadn (pc := 10) C dX2_visitBehind_10 (i := 3) rfl 3 rfl ?_
  refine k_iload (pc := 11) C dX2_visitBehind_11 4 rfl ?_
  refine k_iconst (pc := 13) C (v := (1 : Int32)) dX2_visitBehind_13 (by decide) ?_
  refine k_iadd (pc := 14) C dX2_visitBehind_14 ?_
  obtain ⟨hs20, h⟩ := gp_e h
  have hs2 := sok_e hs20
  obtain ⟨r3, hr3, h⟩ := bd_e h
  refine k_V (pc := 15) (st := []) C (hg _ _ _ _ _ _ _ _ hr3) lkV_RX2_66 hs2 rfl rfl rfl (Nat.le_of_ble_eq_true rfl) (by show dF + 1 ≤ dF + 2; omega) (by show 8 + (7 + 11) + dL ≤ dL + 44; omega) (Nat.le_of_ble_eq_true rfl) (Nat.le_of_ble_eq_true rfl) dX2_visitBehind_15 ?_
  refine k_nf (cells2 := 0) (slots2 := 0) (st2 := []) rfl rfl rfl ?_
  refine k_iload (pc := 18) C dX2_visitBehind_18 5 rfl ?_
  refine k_iloadn (pc := 20) C dX2_visitBehind_20 (i := 3) rfl 3 rfl ?_
  obtain ⟨r4, hr4, h⟩ := bd_e h
  refine k_S (pc := 21) (st := []) C (c_X2_stateOf hr4) lkS_RX2_74 rfl rfl (Nat.le_of_ble_eq_true rfl) (by show 1 + 1 ≤ dF + 2; omega) (by show 8 + (3 + 11) + 22 ≤ dL + 44; omega) (Nat.le_of_ble_eq_true rfl) (Nat.le_of_ble_eq_true rfl) dX2_visitBehind_21 ?_
  refine k_nf (cells2 := 0) (slots2 := 0) (st2 := [.int r4]) rfl rfl rfl ?_
  refine k_istore (pc := 24) C dX2_visitBehind_24 (by decide) (L2 := [(0, .ref (E.1 + a0)), (1, .int x1), (2, .int x2), (3, .int x3), (4, .int x4), (5, .int r1), (6, .int r4)]) rfl ?_
  refine k_aloadn (pc := 26) C dX2_visitBehind_26 (i := 0) rfl 0 rfl ?_
  obtain ⟨b5, hb5, h⟩ := rl_e h
  refine k_getR (pc := 27) C lkF_RX2_15_2 hs2 ir_2_3 hb5 dX2_visitBehind_27 ?_
  refine k_iloadn (pc := 30) C dX2_visitBehind_30 (i := 2) rfl 2 rfl ?_
  refine k_dup2 (pc := 31) C dX2_visitBehind_31 rfl rfl ?_
  obtain ⟨ha6, h⟩ := gp_e h
  refine k_iald (pc := 32) C ha6 dX2_visitBehind_32 ?_
  refine k_aloadn (pc := 33) C dX2_visitBehind_33 (i := 0) rfl 0 rfl ?_
  obtain ⟨b7, hb7, h⟩ := rl_e h
  refine k_getR (pc := 34) C lkF_RX2_15_2 hs2 ir_2_3 hb7 dX2_visitBehind_34 ?_
  refine k_iload (pc := 37) C dX2_visitBehind_37 6 rfl ?_
  obtain ⟨ha8, h⟩ := gp_e h
  refine k_iald (pc := 39) C ha8 dX2_visitBehind_39 ?_
  refine k_iadd (pc := 40) C dX2_visitBehind_40 ?_
  obtain ⟨ha9, h⟩ := gp_e h
  obtain ⟨I10, eI10, h⟩ := lt_e h
  refine k_iast (pc := 41) C ha9 dX2_visitBehind_41 ?_
  rw [← eI10]
  refine k_aloadn (pc := 42) C dX2_visitBehind_42 (i := 0) rfl 0 rfl ?_
  obtain ⟨b11, hb11, h⟩ := rl_e h
  refine k_getR (pc := 43) C lkF_RX2_18_2 hs2 ir_2_4 hb11 dX2_visitBehind_43 ?_
  refine k_iloadn (pc := 46) C dX2_visitBehind_46 (i := 2) rfl 2 rfl ?_
  refine k_aloadn (pc := 47) C dX2_visitBehind_47 (i := 0) rfl 0 rfl ?_
  obtain ⟨b12, hb12, h⟩ := rl_e h
  refine k_getR (pc := 48) C lkF_RX2_18_2 hs2 ir_2_4 hb12 dX2_visitBehind_48 ?_
  refine k_iloadn (pc := 51) C dX2_visitBehind_51 (i := 2) rfl 2 rfl ?_
  obtain ⟨ha13, h⟩ := gp_e h
  refine k_iald (pc := 52) C ha13 dX2_visitBehind_52 ?_
  refine k_aloadn (pc := 53) C dX2_visitBehind_53 (i := 0) rfl 0 rfl ?_
  obtain ⟨b14, hb14, h⟩ := rl_e h
  refine k_getR (pc := 54) C lkF_RX2_18_2 hs2 ir_2_4 hb14 dX2_visitBehind_54 ?_
  refine k_iload (pc := 57) C dX2_visitBehind_57 6 rfl ?_
  obtain ⟨ha15, h⟩ := gp_e h
  refine k_iald (pc := 59) C ha15 dX2_visitBehind_59 ?_
  refine k_iconst (pc := 60) C (v := (1 : Int32)) dX2_visitBehind_60 (by decide) ?_
  refine k_iadd (pc := 61) C dX2_visitBehind_61 ?_
  refine k_mmax (pc := 62) (st := [.int x2, .ref (E.1 + b11)]) C (t3_in 114 (by decide +kernel) rfl) (Nat.le_of_ble_eq_true rfl) (by show 1 ≤ dF + 2; omega) (by show 21 ≤ dL + 44; omega) (Nat.le_of_ble_eq_true rfl) (Nat.le_of_ble_eq_true rfl) dX2_visitBehind_62 ?_
  obtain ⟨ha16, h⟩ := gp_e h
  obtain ⟨I17, eI17, h⟩ := lt_e h
  refine k_iast (pc := 65) C ha16 dX2_visitBehind_65 ?_
  rw [← eI17]
  refine k_aloadn (pc := 66) C dX2_visitBehind_66 (i := 0) rfl 0 rfl ?_
  obtain ⟨b18, hb18, h⟩ := rl_e h
  refine k_getR (pc := 67) C lkF_RX2_24_2 hs2 ir_2_6 hb18 dX2_visitBehind_67 ?_
  refine k_iload (pc := 70) C dX2_visitBehind_70 6 rfl ?_
  obtain ⟨ha19, h⟩ := gp_e h
  refine k_zald (pc := 72) C ha19 dX2_visitBehind_72 ?_
  refine k_if_ne (pc := 73) C dX2_visitBehind_73 (tgt := 83) (by decide) (fun hc20 => ?_) (fun hc20 => ?_)
  · rw [if_neg hc20] at h
    refine k_loc (L2 := [(0, .ref (E.1 + a0)), (1, .int x1), (2, .int x2), (3, .int x3), (6, .int r4)]) [0, 1, 2, 3, 6] rfl ?_
    exact b_X2_visitBehind_83 C hr hk hg  _ _ _ _ _ _ h
  · rw [if_pos hc20] at h
    refine k_aloadn (pc := 76) C dX2_visitBehind_76 (i := 0) rfl 0 rfl ?_
    obtain ⟨b33, hb33, h⟩ := rl_e h
    refine k_getR (pc := 77) C lkF_RX2_24_2 hs2 ir_2_6 hb33 dX2_visitBehind_77 ?_
    refine k_iloadn (pc := 80) C dX2_visitBehind_80 (i := 2) rfl 2 rfl ?_
    refine k_iconst (pc := 81) C (v := (1 : Int32)) dX2_visitBehind_81 (by decide) ?_
    obtain ⟨ha34, h⟩ := gp_e h
    obtain ⟨I35, eI35, h⟩ := lt_e h
    refine k_zast (pc := 82) C (Or.inr rfl) ha34 dX2_visitBehind_82 ?_
    rw [← eI35]
    refine k_loc (L2 := [(0, .ref (E.1 + a0)), (1, .int x1), (2, .int x2), (3, .int x3), (6, .int r4)]) [0, 1, 2, 3, 6] rfl ?_
    exact b_X2_visitBehind_83 C hr hk hg  _ _ _ _ _ _ h
theorem c_X2_visitBehind {E : Ev} {l : Launch} {dF dL : Nat} {S : Sh} {R : Rw} {I : Iw} {g : Sh → Rw → Iw → Nat → Int32 → Int32 → Int32 → Option (Iw)} (hg : ∀ (S : Sh) (R : Rw) (I : Iw) (a0 : Nat) (x1 : Int32) (x2 : Int32) (x3 : Int32) (r : Iw), g S R I a0 x1 x2 x3 = some r → Mt E l yX2_visit cX2_visit 7 none dF dL [.ref (E.1 + a0), .int x1, .int x2, .int x3] S R I S R r none 0 0) {a0 : Nat} {x1 : Int32} {x2 : Int32} {x3 : Int32} {x4 : Int32} {r : Iw} (h : f_X2_visitBehind g S R I a0 x1 x2 x3 x4 = some r) : Mt E l yX2_visitBehind cX2_visitBehind 7 none (dF + 2) (dL + 44) [.ref (E.1 + a0), .int x1, .int x2, .int x3, .int x4] S R I S R r none 0 0 := mt_of (by decide) (Nat.le_of_ble_eq_true rfl) (fun p e s m args below meth c C hr hk hn => b_X2_visitBehind C hr hk hg _ _ _ _ _ _ h)
theorem lkF_RX7_50_7 : LkF RX7 50 7 5 := ⟨RX7, TX7, 16, "UnlikeNeighbours$Shed", fc7, by decide, (t1_in 82 (by decide +kernel) rfl), Or.inl rfl⟩
theorem dX7_has_0 : decode cX7_has 0 = .ok (.iload_n 1, 1) := by decide +kernel
theorem dX7_has_1 : decode cX7_has 1 = .ok (.ifCond .lt 15, 3) := by decide +kernel
theorem dX7_has_4 : decode cX7_has 4 = .ok (.iload_n 1, 1) := by decide +kernel
theorem dX7_has_5 : decode cX7_has 5 = .ok (.aload_n 0, 1) := by decide +kernel
theorem dX7_has_6 : decode cX7_has 6 = .ok (.getfield 50, 3) := by decide +kernel
theorem dX7_has_9 : decode cX7_has 9 = .ok (.if_icmp .ge 7, 3) := by decide +kernel
theorem dX7_has_12 : decode cX7_has 12 = .ok (.iconst 1, 1) := by decide +kernel
theorem dX7_has_13 : decode cX7_has 13 = .ok (.goto 4, 3) := by decide +kernel
theorem dX7_has_16 : decode cX7_has 16 = .ok (.iconst 0, 1) := by decide +kernel
theorem dX7_has_17 : decode cX7_has 17 = .ok (.ireturn, 1) := by decide +kernel
def f_X7_has (S : Sh) (R : Rw) (I : Iw)  (a0 : Nat) (x1 : Int32) : Option (Int32) := (if x1 < 0 then some (0 : Int32) else gp (sok S a0 7 16) ((if (I a0 5) ≤ x1 then some (0 : Int32) else some (1 : Int32))))
set_option maxHeartbeats 4000000 in
theorem b_X7_has {E : Ev} {p : Program} {l : Launch} {e : Env} {s : State} {m : MethodId} {args : Array Value} {below : List Frame} {meth : Method} {c : Code} (C : Cx E RX7 cX7_has 2 p s m c) (hr : meth.sig.returnType = (some .boolean)) (hk : meth.locks = false) {S : Sh} {R : Rw} {I : Iw} {r : Int32}  : ∀ (a0 : Nat) (x1 : Int32), f_X7_has S R I   a0 x1 = some r → Wk E 2 p l e ({ frames := 0, cells := 0, slots := 0, locals := 0 } : Room) s m args below meth c 0 0 (MQ below (Qw E S R I (some (.int r))) args s 0 0 (fun q => E.1 ≤ q)) 0 [(0, .ref (E.1 + a0)), (1, .int x1)] [] S R I := by
  intro a0 x1 h
  rw [f_X7_has] at h
  refine k_iloadn (pc := 0) C dX7_has_0 (i := 1) rfl 1 rfl ?_
  refine k_if_lt (pc := 1) C dX7_has_1 (tgt := 16) (by decide) (fun hc1 => ?_) (fun hc1 => ?_)
  · rw [if_pos hc1] at h
    refine k_iconst (pc := 16) C (v := (0 : Int32)) dX7_has_16 (by decide) ?_
    have h := Option.some.inj h
    subst h
    exact k_zret (pc := 17) C hr hk (Or.inl rfl) dX7_has_17
  · rw [if_neg hc1] at h
    refine k_iloadn (pc := 4) C dX7_has_4 (i := 1) rfl 1 rfl ?_
    refine k_aloadn (pc := 5) C dX7_has_5 (i := 0) rfl 0 rfl ?_
    obtain ⟨hs20, h⟩ := gp_e h
    have hs2 := sok_e hs20
    refine k_getI (pc := 6) C lkF_RX7_50_7 hs2 ir_7_5 dX7_has_6 ?_
    refine k_icmp_ge (pc := 9) C dX7_has_9 (tgt := 16) (by decide) (fun hc3 => ?_) (fun hc3 => ?_)
    · rw [if_pos hc3] at h
      refine k_iconst (pc := 16) C (v := (0 : Int32)) dX7_has_16 (by decide) ?_
      have h := Option.some.inj h
      subst h
      exact k_zret (pc := 17) C hr hk (Or.inl rfl) dX7_has_17
    · rw [if_neg hc3] at h
      refine k_iconst (pc := 12) C (v := (1 : Int32)) dX7_has_12 (by decide) ?_
      refine k_goto (pc := 13) C dX7_has_13 (tgt := 17) (by decide) ?_
      have h := Option.some.inj h
      subst h
      exact k_zret (pc := 17) C hr hk (Or.inr rfl) dX7_has_17
theorem c_X7_has {E : Ev} {l : Launch} {S : Sh} {R : Rw} {I : Iw} {a0 : Nat} {x1 : Int32} {r : Int32} (h : f_X7_has S R I a0 x1 = some r) : Mt E l yX7_has cX7_has 2 (some .boolean) 0 0 [.ref (E.1 + a0), .int x1] S R I S R I (some (.int r)) 0 0 := mt_of (by decide) (Nat.le_of_ble_eq_true rfl) (fun p e s m args below meth c C hr hk hn => b_X7_has C hr hk _ _ h)
theorem lkSN_RX7_85 : LkSN RX7 85 yX11_holds "UnlikeNeighbours" cX11_holds 2 (some .boolean) 2 := ⟨l2_in 112 (by decide +kernel), (t2_in 113 (by decide +kernel) rfl), (t2_in 114 (by decide +kernel) rfl), (t1_in 1 (by decide +kernel) rfl), by decide, by decide +kernel⟩
theorem lkF_RX7_15_7 : LkF RX7 15 7 1 := ⟨RX7, TX7, 16, "UnlikeNeighbours$Shed", fc7, by decide, (t1_in 72 (by decide +kernel) rfl), Or.inl rfl⟩
theorem dX7_topsOf_0 : decode cX7_topsOf 0 = .ok (.iconst 0, 1) := by decide +kernel
theorem dX7_topsOf_1 : decode cX7_topsOf 1 = .ok (.istore_n 2, 1) := by decide +kernel
theorem dX7_topsOf_2 : decode cX7_topsOf 2 = .ok (.iconst 0, 1) := by decide +kernel
theorem dX7_topsOf_3 : decode cX7_topsOf 3 = .ok (.istore_n 3, 1) := by decide +kernel
theorem dX7_topsOf_4 : decode cX7_topsOf 4 = .ok (.aload_n 0, 1) := by decide +kernel
theorem dX7_topsOf_5 : decode cX7_topsOf 5 = .ok (.getfield 50, 3) := by decide +kernel
theorem dX7_topsOf_8 : decode cX7_topsOf 8 = .ok (.iconst 1, 1) := by decide +kernel
theorem dX7_topsOf_9 : decode cX7_topsOf 9 = .ok (.isub, 1) := by decide +kernel
theorem dX7_topsOf_10 : decode cX7_topsOf 10 = .ok (.istore 4, 2) := by decide +kernel
theorem dX7_topsOf_12 : decode cX7_topsOf 12 = .ok (.iload 4, 2) := by decide +kernel
theorem dX7_topsOf_14 : decode cX7_topsOf 14 = .ok (.ifCond .lt 51, 3) := by decide +kernel
theorem dX7_topsOf_17 : decode cX7_topsOf 17 = .ok (.iload_n 1, 1) := by decide +kernel
theorem dX7_topsOf_18 : decode cX7_topsOf 18 = .ok (.iload 4, 2) := by decide +kernel
theorem dX7_topsOf_20 : decode cX7_topsOf 20 = .ok (.invokestatic 85, 3) := by decide +kernel
theorem dX7_topsOf_23 : decode cX7_topsOf 23 = .ok (.ifCond .eq 36, 3) := by decide +kernel
theorem dX7_topsOf_26 : decode cX7_topsOf 26 = .ok (.iload_n 3, 1) := by decide +kernel
theorem dX7_topsOf_27 : decode cX7_topsOf 27 = .ok (.aload_n 0, 1) := by decide +kernel
theorem dX7_topsOf_28 : decode cX7_topsOf 28 = .ok (.getfield 15, 3) := by decide +kernel
theorem dX7_topsOf_31 : decode cX7_topsOf 31 = .ok (.iload 4, 2) := by decide +kernel
theorem dX7_topsOf_33 : decode cX7_topsOf 33 = .ok (.iaload, 1) := by decide +kernel
theorem dX7_topsOf_34 : decode cX7_topsOf 34 = .ok (.invokestatic 85, 3) := by decide +kernel
theorem dX7_topsOf_37 : decode cX7_topsOf 37 = .ok (.ifCond .ne 22, 3) := by decide +kernel
theorem dX7_topsOf_40 : decode cX7_topsOf 40 = .ok (.iload_n 2, 1) := by decide +kernel
theorem dX7_topsOf_41 : decode cX7_topsOf 41 = .ok (.iconst 1, 1) := by decide +kernel
theorem dX7_topsOf_42 : decode cX7_topsOf 42 = .ok (.iload 4, 2) := by decide +kernel
theorem dX7_topsOf_44 : decode cX7_topsOf 44 = .ok (.ishl, 1) := by decide +kernel
theorem dX7_topsOf_45 : decode cX7_topsOf 45 = .ok (.ior, 1) := by decide +kernel
theorem dX7_topsOf_46 : decode cX7_topsOf 46 = .ok (.istore_n 2, 1) := by decide +kernel
theorem dX7_topsOf_47 : decode cX7_topsOf 47 = .ok (.iload_n 3, 1) := by decide +kernel
theorem dX7_topsOf_48 : decode cX7_topsOf 48 = .ok (.iconst 1, 1) := by decide +kernel
theorem dX7_topsOf_49 : decode cX7_topsOf 49 = .ok (.aload_n 0, 1) := by decide +kernel
theorem dX7_topsOf_50 : decode cX7_topsOf 50 = .ok (.getfield 15, 3) := by decide +kernel
theorem dX7_topsOf_53 : decode cX7_topsOf 53 = .ok (.iload 4, 2) := by decide +kernel
theorem dX7_topsOf_55 : decode cX7_topsOf 55 = .ok (.iaload, 1) := by decide +kernel
theorem dX7_topsOf_56 : decode cX7_topsOf 56 = .ok (.ishl, 1) := by decide +kernel
theorem dX7_topsOf_57 : decode cX7_topsOf 57 = .ok (.ior, 1) := by decide +kernel
theorem dX7_topsOf_58 : decode cX7_topsOf 58 = .ok (.istore_n 3, 1) := by decide +kernel
theorem dX7_topsOf_59 : decode cX7_topsOf 59 = .ok (.iinc 4 (-1), 3) := by decide +kernel
theorem dX7_topsOf_62 : decode cX7_topsOf 62 = .ok (.goto (-50), 3) := by decide +kernel
theorem dX7_topsOf_65 : decode cX7_topsOf 65 = .ok (.iload_n 2, 1) := by decide +kernel
theorem dX7_topsOf_66 : decode cX7_topsOf 66 = .ok (.ireturn, 1) := by decide +kernel
def f_X7_topsOf_59 (S : Sh) (R : Rw) (I : Iw) (ko12 : Nat → Int32 → Int32 → Int32 → Int32 → Option (Int32)) (a0 : Nat) (x1 : Int32) (x2 : Int32) (x3 : Int32) (x4 : Int32) : Option (Int32) := ko12 a0 x1 x2 x3 (x4 + (-1 : Int32))
set_option maxHeartbeats 4000000 in
theorem b_X7_topsOf_59 {E : Ev} {p : Program} {l : Launch} {e : Env} {s : State} {m : MethodId} {args : Array Value} {below : List Frame} {meth : Method} {c : Code} (C : Cx E RX7 cX7_topsOf 5 p s m c) (hr : meth.sig.returnType = (some .int)) (hk : meth.locks = false) {S : Sh} {R : Rw} {I : Iw} {r : Int32}  {ko12 : Nat → Int32 → Int32 → Int32 → Int32 → Option (Int32)} (hko12 : ∀ (a0 : Nat) (x1 : Int32) (x2 : Int32) (x3 : Int32) (x4 : Int32), ko12 a0 x1 x2 x3 x4 = some r → Wk E 5 p l e ({ frames := 1, cells := 0, slots := 0, locals := 21 } : Room) s m args below meth c 0 0 (MQ below (Qw E S R I (some (.int r))) args s 0 0 (fun q => E.1 ≤ q)) 12 [(0, .ref (E.1 + a0)), (1, .int x1), (2, .int x2), (3, .int x3), (4, .int x4)] [] S R I) : ∀ (a0 : Nat) (x1 : Int32) (x2 : Int32) (x3 : Int32) (x4 : Int32), f_X7_topsOf_59 S R I ko12  a0 x1 x2 x3 x4 = some r → Wk E 5 p l e ({ frames := 1, cells := 0, slots := 0, locals := 21 } : Room) s m args below meth c 0 0 (MQ below (Qw E S R I (some (.int r))) args s 0 0 (fun q => E.1 ≤ q)) 59 [(0, .ref (E.1 + a0)), (1, .int x1), (2, .int x2), (3, .int x3), (4, .int x4)] [] S R I := by
  intro a0 x1 x2 x3 x4 h
  rw [f_X7_topsOf_59] at h
  refine k_iinc (pc := 59) C dX7_topsOf_59 4 rfl (v := x4 + (-1 : Int32)) (by rfl) (by decide) (L2 := [(0, .ref (E.1 + a0)), (1, .int x1), (2, .int x2), (3, .int x3), (4, .int (x4 + (-1 : Int32)))]) rfl ?_
  refine k_goto (pc := 62) C dX7_topsOf_62 (tgt := 12) (by decide) ?_
  exact hko12 _ _ _ _ _ h
def f_X7_topsOf_12 (S : Sh) (R : Rw) (I : Iw)  : Nat → Nat → Int32 → Int32 → Int32 → Int32 → Option (Int32)
  | 0, _, _, _, _, _ => none
  | n + 1, a0, x1, x2, x3, x4 => (if x4 < 0 then some x2 else bd (f_X11_holds S R I x1 x4) (fun r3 => (if r3 = 0 then f_X7_topsOf_59 S R I (f_X7_topsOf_12 S R I  n) a0 x1 x2 x3 x4 else gp (sok S a0 7 16) (rl (R a0 1) (fun b6 => gp (aok S 20 b6 x4) (bd (f_X11_holds S R I x3 (I b6 x4.toNatClampNeg)) (fun r8 => (if r8 = 0 then rl (R a0 1) (fun b10 => gp (aok S 20 b10 x4) (f_X7_topsOf_59 S R I (f_X7_topsOf_12 S R I  n) a0 x1 (x2 ||| ((1 : Int32) <<< (x4 &&& 31))) (x3 ||| ((1 : Int32) <<< ((I b10 x4.toNatClampNeg) &&& 31))) x4)) else f_X7_topsOf_59 S R I (f_X7_topsOf_12 S R I  n) a0 x1 x2 x3 x4))))))))
set_option maxHeartbeats 4000000 in
theorem b_X7_topsOf_12 {E : Ev} {p : Program} {l : Launch} {e : Env} {s : State} {m : MethodId} {args : Array Value} {below : List Frame} {meth : Method} {c : Code} (C : Cx E RX7 cX7_topsOf 5 p s m c) (hr : meth.sig.returnType = (some .int)) (hk : meth.locks = false) {S : Sh} {R : Rw} {I : Iw} {r : Int32}  : ∀ (n : Nat) (a0 : Nat) (x1 : Int32) (x2 : Int32) (x3 : Int32) (x4 : Int32), f_X7_topsOf_12 S R I  n a0 x1 x2 x3 x4 = some r → Wk E 5 p l e ({ frames := 1, cells := 0, slots := 0, locals := 21 } : Room) s m args below meth c 0 0 (MQ below (Qw E S R I (some (.int r))) args s 0 0 (fun q => E.1 ≤ q)) 12 [(0, .ref (E.1 + a0)), (1, .int x1), (2, .int x2), (3, .int x3), (4, .int x4)] [] S R I := by
  intro n
  induction n with
  | zero =>
    intro a0 x1 x2 x3 x4 h
    rw [f_X7_topsOf_12] at h
    cases h
  | succ n ih =>
    intro a0 x1 x2 x3 x4 h
    rw [f_X7_topsOf_12] at h
    refine k_iload (pc := 12) C dX7_topsOf_12 4 rfl ?_
    refine k_if_lt (pc := 14) C dX7_topsOf_14 (tgt := 65) (by decide) (fun hc2 => ?_) (fun hc2 => ?_)
    · rw [if_pos hc2] at h
      refine k_iloadn (pc := 65) C dX7_topsOf_65 (i := 2) rfl 2 rfl ?_
      have h := Option.some.inj h
      subst h
      exact k_iret (pc := 66) C hr hk dX7_topsOf_66
    · rw [if_neg hc2] at h
      refine k_iloadn (pc := 17) C dX7_topsOf_17 (i := 1) rfl 1 rfl ?_
      refine k_iload (pc := 18) C dX7_topsOf_18 4 rfl ?_
      obtain ⟨r3, hr3, h⟩ := bd_e h
      refine k_SN (pc := 20) (st := []) C (c_X11_holds hr3) lkSN_RX7_85 rfl rfl (Nat.le_of_ble_eq_true rfl) (Nat.le_of_ble_eq_true rfl) (Nat.le_of_ble_eq_true rfl) (Nat.le_of_ble_eq_true rfl) (Nat.le_of_ble_eq_true rfl) dX7_topsOf_20 ?_
      refine k_nf (cells2 := 0) (slots2 := 0) (st2 := [.int r3]) rfl rfl rfl ?_
      refine k_if_eq (pc := 23) C dX7_topsOf_23 (tgt := 59) (by decide) (fun hc4 => ?_) (fun hc4 => ?_)
      · rw [if_pos hc4] at h
        exact b_X7_topsOf_59 C hr hk ih _ _ _ _ _ h
      · rw [if_neg hc4] at h
        refine k_iloadn (pc := 26) C dX7_topsOf_26 (i := 3) rfl 3 rfl ?_
        refine k_aloadn (pc := 27) C dX7_topsOf_27 (i := 0) rfl 0 rfl ?_
        obtain ⟨hs50, h⟩ := gp_e h
        have hs5 := sok_e hs50
        obtain ⟨b6, hb6, h⟩ := rl_e h
        refine k_getR (pc := 28) C lkF_RX7_15_7 hs5 ir_7_1 hb6 dX7_topsOf_28 ?_
        refine k_iload (pc := 31) C dX7_topsOf_31 4 rfl ?_
        obtain ⟨ha7, h⟩ := gp_e h
        refine k_iald (pc := 33) C ha7 dX7_topsOf_33 ?_
        obtain ⟨r8, hr8, h⟩ := bd_e h
        refine k_SN (pc := 34) (st := []) C (c_X11_holds hr8) lkSN_RX7_85 rfl rfl (Nat.le_of_ble_eq_true rfl) (Nat.le_of_ble_eq_true rfl) (Nat.le_of_ble_eq_true rfl) (Nat.le_of_ble_eq_true rfl) (Nat.le_of_ble_eq_true rfl) dX7_topsOf_34 ?_
        refine k_nf (cells2 := 0) (slots2 := 0) (st2 := [.int r8]) rfl rfl rfl ?_
        refine k_if_ne (pc := 37) C dX7_topsOf_37 (tgt := 59) (by decide) (fun hc9 => ?_) (fun hc9 => ?_)
        · rw [if_neg hc9] at h
          exact b_X7_topsOf_59 C hr hk ih _ _ _ _ _ h
        · rw [if_pos hc9] at h
          refine k_iloadn (pc := 40) C dX7_topsOf_40 (i := 2) rfl 2 rfl ?_
          refine k_iconst (pc := 41) C (v := (1 : Int32)) dX7_topsOf_41 (by decide) ?_
          refine k_iload (pc := 42) C dX7_topsOf_42 4 rfl ?_
          refine k_ishl (pc := 44) C dX7_topsOf_44 ?_
          refine k_ior (pc := 45) C dX7_topsOf_45 ?_
          refine k_istoren (pc := 46) C dX7_topsOf_46 (i := 2) rfl (by decide) (L2 := [(0, .ref (E.1 + a0)), (1, .int x1), (2, .int (x2 ||| ((1 : Int32) <<< (x4 &&& 31)))), (3, .int x3), (4, .int x4)]) rfl ?_
          refine k_iloadn (pc := 47) C dX7_topsOf_47 (i := 3) rfl 3 rfl ?_
          refine k_iconst (pc := 48) C (v := (1 : Int32)) dX7_topsOf_48 (by decide) ?_
          refine k_aloadn (pc := 49) C dX7_topsOf_49 (i := 0) rfl 0 rfl ?_
          obtain ⟨b10, hb10, h⟩ := rl_e h
          refine k_getR (pc := 50) C lkF_RX7_15_7 hs5 ir_7_1 hb10 dX7_topsOf_50 ?_
          refine k_iload (pc := 53) C dX7_topsOf_53 4 rfl ?_
          obtain ⟨ha11, h⟩ := gp_e h
          refine k_iald (pc := 55) C ha11 dX7_topsOf_55 ?_
          refine k_ishl (pc := 56) C dX7_topsOf_56 ?_
          refine k_ior (pc := 57) C dX7_topsOf_57 ?_
          refine k_istoren (pc := 58) C dX7_topsOf_58 (i := 3) rfl (by decide) (L2 := [(0, .ref (E.1 + a0)), (1, .int x1), (2, .int (x2 ||| ((1 : Int32) <<< (x4 &&& 31)))), (3, .int (x3 ||| ((1 : Int32) <<< ((I b10 x4.toNatClampNeg) &&& 31)))), (4, .int x4)]) rfl ?_
          exact b_X7_topsOf_59 C hr hk ih _ _ _ _ _ h
def f_X7_topsOf (S : Sh) (R : Rw) (I : Iw)  (a0 : Nat) (x1 : Int32) : Option (Int32) := gp (sok S a0 7 16) (f_X7_topsOf_12 S R I  512 a0 x1 (0 : Int32) (0 : Int32) ((I a0 5) - (1 : Int32)))
set_option maxHeartbeats 4000000 in
theorem b_X7_topsOf {E : Ev} {p : Program} {l : Launch} {e : Env} {s : State} {m : MethodId} {args : Array Value} {below : List Frame} {meth : Method} {c : Code} (C : Cx E RX7 cX7_topsOf 5 p s m c) (hr : meth.sig.returnType = (some .int)) (hk : meth.locks = false) {S : Sh} {R : Rw} {I : Iw} {r : Int32}  : ∀ (a0 : Nat) (x1 : Int32), f_X7_topsOf S R I   a0 x1 = some r → Wk E 5 p l e ({ frames := 1, cells := 0, slots := 0, locals := 21 } : Room) s m args below meth c 0 0 (MQ below (Qw E S R I (some (.int r))) args s 0 0 (fun q => E.1 ≤ q)) 0 [(0, .ref (E.1 + a0)), (1, .int x1)] [] S R I := by
  intro a0 x1 h
  rw [f_X7_topsOf] at h
  refine k_iconst (pc := 0) C (v := (0 : Int32)) dX7_topsOf_0 (by decide) ?_
  refine k_istoren (pc := 1) C dX7_topsOf_1 (i := 2) rfl (by decide) (L2 := [(0, .ref (E.1 + a0)), (1, .int x1), (2, .int (0 : Int32))]) rfl ?_
  refine k_iconst (pc := 2) C (v := (0 : Int32)) dX7_topsOf_2 (by decide) ?_
  refine k_istoren (pc := 3) C dX7_topsOf_3 (i := 3) rfl (by decide) (L2 := [(0, .ref (E.1 + a0)), (1, .int x1), (2, .int (0 : Int32)), (3, .int (0 : Int32))]) rfl ?_
  refine k_aloadn (pc := 4) C dX7_topsOf_4 (i := 0) rfl 0 rfl ?_
  obtain ⟨hs10, h⟩ := gp_e h
  have hs1 := sok_e hs10
  refine k_getI (pc := 5) C lkF_RX7_50_7 hs1 ir_7_5 dX7_topsOf_5 ?_
  refine k_iconst (pc := 8) C (v := (1 : Int32)) dX7_topsOf_8 (by decide) ?_
  refine k_isub (pc := 9) C dX7_topsOf_9 ?_
  refine k_istore (pc := 10) C dX7_topsOf_10 (by decide) (L2 := [(0, .ref (E.1 + a0)), (1, .int x1), (2, .int (0 : Int32)), (3, .int (0 : Int32)), (4, .int ((I a0 5) - (1 : Int32)))]) rfl ?_
  exact b_X7_topsOf_12 C hr hk  _ _ _ _ _ _ h
theorem c_X7_topsOf {E : Ev} {l : Launch} {S : Sh} {R : Rw} {I : Iw} {a0 : Nat} {x1 : Int32} {r : Int32} (h : f_X7_topsOf S R I a0 x1 = some r) : Mt E l yX7_topsOf cX7_topsOf 5 (some .int) 1 21 [.ref (E.1 + a0), .int x1] S R I S R I (some (.int r)) 0 0 := mt_of (by decide) (Nat.le_of_ble_eq_true rfl) (fun p e s m args below meth c C hr hk hn => b_X7_topsOf C hr hk _ _ h)
theorem lkV_RX7_88 : LkV RX7 88 RX7 yX7_topsOf cX7_topsOf 5 (some .int) 1 := ⟨(t2_in 108 (by decide +kernel) rfl), (t2_in 109 (by decide +kernel) rfl), (t2_in 110 (by decide +kernel) rfl), (t2_in 111 (by decide +kernel) rfl), (t1_in 2 (by decide +kernel) rfl), by decide, by decide +kernel⟩
theorem lkV_RX7_62 : LkV RX7 62 RX7 yX7_has cX7_has 2 (some .boolean) 1 := ⟨(t2_in 72 (by decide +kernel) rfl), (t2_in 65 (by decide +kernel) rfl), (t2_in 66 (by decide +kernel) rfl), (t2_in 67 (by decide +kernel) rfl), (t1_in 2 (by decide +kernel) rfl), by decide, by decide +kernel⟩
theorem lkF_RX7_24_7 : LkF RX7 24 7 4 := ⟨RX7, TX7, 16, "UnlikeNeighbours$Shed", fc7, by decide, (t1_in 80 (by decide +kernel) rfl), Or.inl rfl⟩
theorem dX7_mayGo_0 : decode cX7_mayGo 0 = .ok (.aload_n 0, 1) := by decide +kernel
theorem dX7_mayGo_1 : decode cX7_mayGo 1 = .ok (.iload_n 1, 1) := by decide +kernel
theorem dX7_mayGo_2 : decode cX7_mayGo 2 = .ok (.invokevirtual 88, 3) := by decide +kernel
theorem dX7_mayGo_5 : decode cX7_mayGo 5 = .ok (.istore_n 3, 1) := by decide +kernel
theorem dX7_mayGo_6 : decode cX7_mayGo 6 = .ok (.aload_n 0, 1) := by decide +kernel
theorem dX7_mayGo_7 : decode cX7_mayGo 7 = .ok (.iload_n 2, 1) := by decide +kernel
theorem dX7_mayGo_8 : decode cX7_mayGo 8 = .ok (.invokevirtual 62, 3) := by decide +kernel
theorem dX7_mayGo_11 : decode cX7_mayGo 11 = .ok (.ifCond .eq 16, 3) := by decide +kernel
theorem dX7_mayGo_14 : decode cX7_mayGo 14 = .ok (.iload_n 3, 1) := by decide +kernel
theorem dX7_mayGo_15 : decode cX7_mayGo 15 = .ok (.aload_n 0, 1) := by decide +kernel
theorem dX7_mayGo_16 : decode cX7_mayGo 16 = .ok (.getfield 24, 3) := by decide +kernel
theorem dX7_mayGo_19 : decode cX7_mayGo 19 = .ok (.iload_n 2, 1) := by decide +kernel
theorem dX7_mayGo_20 : decode cX7_mayGo 20 = .ok (.iaload, 1) := by decide +kernel
theorem dX7_mayGo_21 : decode cX7_mayGo 21 = .ok (.iconst (-1), 1) := by decide +kernel
theorem dX7_mayGo_22 : decode cX7_mayGo 22 = .ok (.ixor, 1) := by decide +kernel
theorem dX7_mayGo_23 : decode cX7_mayGo 23 = .ok (.iand, 1) := by decide +kernel
theorem dX7_mayGo_24 : decode cX7_mayGo 24 = .ok (.goto 4, 3) := by decide +kernel
theorem dX7_mayGo_27 : decode cX7_mayGo 27 = .ok (.iload_n 3, 1) := by decide +kernel
theorem dX7_mayGo_28 : decode cX7_mayGo 28 = .ok (.ireturn, 1) := by decide +kernel
def f_X7_mayGo (S : Sh) (R : Rw) (I : Iw)  (a0 : Nat) (x1 : Int32) (x2 : Int32) : Option (Int32) := gp (sok S a0 7 16) (bd (f_X7_topsOf S R I a0 x1) (fun r2 => bd (f_X7_has S R I a0 x2) (fun r3 => (if r3 = 0 then some r2 else rl (R a0 4) (fun b5 => gp (aok S 20 b5 x2) (some (r2 &&& ((I b5 x2.toNatClampNeg) ^^^ (-1 : Int32)))))))))
set_option maxHeartbeats 4000000 in
theorem b_X7_mayGo {E : Ev} {p : Program} {l : Launch} {e : Env} {s : State} {m : MethodId} {args : Array Value} {below : List Frame} {meth : Method} {c : Code} (C : Cx E RX7 cX7_mayGo 4 p s m c) (hr : meth.sig.returnType = (some .int)) (hk : meth.locks = false) {S : Sh} {R : Rw} {I : Iw} {r : Int32}  : ∀ (a0 : Nat) (x1 : Int32) (x2 : Int32), f_X7_mayGo S R I   a0 x1 x2 = some r → Wk E 4 p l e ({ frames := 2, cells := 0, slots := 0, locals := 45 } : Room) s m args below meth c 0 0 (MQ below (Qw E S R I (some (.int r))) args s 0 0 (fun q => E.1 ≤ q)) 0 [(0, .ref (E.1 + a0)), (1, .int x1), (2, .int x2)] [] S R I := by
  intro a0 x1 x2 h
  rw [f_X7_mayGo] at h
  refine k_aloadn (pc := 0) C dX7_mayGo_0 (i := 0) rfl 0 rfl ?_
  refine k_iloadn (pc := 1) C dX7_mayGo_1 (i := 1) rfl 1 rfl ?_
  obtain ⟨hs10, h⟩ := gp_e h
  have hs1 := sok_e hs10
  obtain ⟨r2, hr2, h⟩ := bd_e h
  refine k_V (pc := 2) (st := []) C (c_X7_topsOf hr2) lkV_RX7_88 hs1 rfl rfl rfl (Nat.le_of_ble_eq_true rfl) (Nat.le_of_ble_eq_true rfl) (Nat.le_of_ble_eq_true rfl) (Nat.le_of_ble_eq_true rfl) (Nat.le_of_ble_eq_true rfl) dX7_mayGo_2 ?_
  refine k_nf (cells2 := 0) (slots2 := 0) (st2 := [.int r2]) rfl rfl rfl ?_
  refine k_istoren (pc := 5) C dX7_mayGo_5 (i := 3) rfl (by decide) (L2 := [(0, .ref (E.1 + a0)), (1, .int x1), (2, .int x2), (3, .int r2)]) rfl ?_
  refine k_aloadn (pc := 6) C dX7_mayGo_6 (i := 0) rfl 0 rfl ?_
  refine k_iloadn (pc := 7) C dX7_mayGo_7 (i := 2) rfl 2 rfl ?_
  obtain ⟨r3, hr3, h⟩ := bd_e h
  refine k_V (pc := 8) (st := []) C (c_X7_has hr3) lkV_RX7_62 hs1 rfl rfl rfl (Nat.le_of_ble_eq_true rfl) (Nat.le_of_ble_eq_true rfl) (Nat.le_of_ble_eq_true rfl) (Nat.le_of_ble_eq_true rfl) (Nat.le_of_ble_eq_true rfl) dX7_mayGo_8 ?_
  refine k_nf (cells2 := 0) (slots2 := 0) (st2 := [.int r3]) rfl rfl rfl ?_
  refine k_if_eq (pc := 11) C dX7_mayGo_11 (tgt := 27) (by decide) (fun hc4 => ?_) (fun hc4 => ?_)
  · rw [if_pos hc4] at h
    refine k_iloadn (pc := 27) C dX7_mayGo_27 (i := 3) rfl 3 rfl ?_
    have h := Option.some.inj h
    subst h
    exact k_iret (pc := 28) C hr hk dX7_mayGo_28
  · rw [if_neg hc4] at h
    refine k_iloadn (pc := 14) C dX7_mayGo_14 (i := 3) rfl 3 rfl ?_
    refine k_aloadn (pc := 15) C dX7_mayGo_15 (i := 0) rfl 0 rfl ?_
    obtain ⟨b5, hb5, h⟩ := rl_e h
    refine k_getR (pc := 16) C lkF_RX7_24_7 hs1 ir_7_4 hb5 dX7_mayGo_16 ?_
    refine k_iloadn (pc := 19) C dX7_mayGo_19 (i := 2) rfl 2 rfl ?_
    obtain ⟨ha6, h⟩ := gp_e h
    refine k_iald (pc := 20) C ha6 dX7_mayGo_20 ?_
    refine k_iconst (pc := 21) C (v := (-1 : Int32)) dX7_mayGo_21 (by decide) ?_
    refine k_ixor (pc := 22) C dX7_mayGo_22 ?_
    refine k_iand (pc := 23) C dX7_mayGo_23 ?_
    refine k_goto (pc := 24) C dX7_mayGo_24 (tgt := 28) (by decide) ?_
    have h := Option.some.inj h
    subst h
    exact k_iret (pc := 28) C hr hk dX7_mayGo_28
theorem c_X7_mayGo {E : Ev} {l : Launch} {S : Sh} {R : Rw} {I : Iw} {a0 : Nat} {x1 : Int32} {x2 : Int32} {r : Int32} (h : f_X7_mayGo S R I a0 x1 x2 = some r) : Mt E l yX7_mayGo cX7_mayGo 4 (some .int) 2 45 [.ref (E.1 + a0), .int x1, .int x2] S R I S R I (some (.int r)) 0 0 := mt_of (by decide) (Nat.le_of_ble_eq_true rfl) (fun p e s m args below meth c C hr hk hn => b_X7_mayGo C hr hk _ _ _ h)
theorem lkF_RX2_11_2 : LkF RX2 11 2 1 := ⟨RX2, TX2, 11, "UnlikeNeighbours$Orders", fc2, by decide, (t1_in 177 (by decide +kernel) rfl), Or.inl rfl⟩
theorem lkF_RX2_38_2 : LkF RX2 38 2 2 := ⟨RX2, TX2, 11, "UnlikeNeighbours$Orders", fc2, by decide, (t1_in 178 (by decide +kernel) rfl), Or.inl rfl⟩
theorem lkF_RX2_34_2 : LkF RX2 34 2 0 := ⟨RX2, TX2, 11, "UnlikeNeighbours$Orders", fc2, by decide, (t1_in 176 (by decide +kernel) rfl), Or.inl rfl⟩
theorem lkV_RX2_78 : LkV RX2 78 RX7 yX7_mayGo cX7_mayGo 4 (some .int) 2 := ⟨(t3_in 107 (by decide +kernel) rfl), (t2_in 105 (by decide +kernel) rfl), (t2_in 106 (by decide +kernel) rfl), (t2_in 107 (by decide +kernel) rfl), (t1_in 2 (by decide +kernel) rfl), by decide, by decide +kernel⟩
theorem lkF_RX2_42_2 : LkF RX2 42 2 9 := ⟨RX2, TX2, 11, "UnlikeNeighbours$Orders", fc2, by decide, (t1_in 185 (by decide +kernel) rfl), Or.inl rfl⟩
theorem lkP_RX2_42_2 : LkP RX2 42 2 9 .int := ⟨RX2, TX2, 11, "UnlikeNeighbours$Orders", fc2, by decide, (t1_in 185 (by decide +kernel) rfl), Or.inl rfl, rfl, by decide +kernel⟩
theorem lkSN_RX2_81 : LkSN RX2 81 yX11_holds "UnlikeNeighbours" cX11_holds 2 (some .boolean) 2 := ⟨l3_in 108 (by decide +kernel), (t2_in 113 (by decide +kernel) rfl), (t2_in 114 (by decide +kernel) rfl), (t1_in 1 (by decide +kernel) rfl), by decide, by decide +kernel⟩
theorem lkV_RX2_85 : LkV RX2 85 RX2 yX2_visitBehind cX2_visitBehind 7 none 4 := ⟨(t3_in 109 (by decide +kernel) rfl), (t3_in 111 (by decide +kernel) rfl), (t0_in 18 (by decide +kernel) rfl), (t3_in 112 (by decide +kernel) rfl), (t1_in 5 (by decide +kernel) rfl), by decide, by decide +kernel⟩
theorem dX2_visit_0 : decode cX2_visit 0 = .ok (.iload_n 1, 1) := by decide +kernel
theorem dX2_visit_1 : decode cX2_visit 1 = .ok (.iload_n 2, 1) := by decide +kernel
theorem dX2_visit_2 : decode cX2_visit 2 = .ok (.invokestatic 74, 3) := by decide +kernel
theorem dX2_visit_5 : decode cX2_visit 5 = .ok (.istore 4, 2) := by decide +kernel
theorem dX2_visit_7 : decode cX2_visit 7 = .ok (.iload_n 3, 1) := by decide +kernel
theorem dX2_visit_8 : decode cX2_visit 8 = .ok (.bipush 9, 2) := by decide +kernel
theorem dX2_visit_10 : decode cX2_visit 10 = .ok (.if_icmp .gt 17, 3) := by decide +kernel
theorem dX2_visit_13 : decode cX2_visit 13 = .ok (.aload_n 0, 1) := by decide +kernel
theorem dX2_visit_14 : decode cX2_visit 14 = .ok (.getfield 11, 3) := by decide +kernel
theorem dX2_visit_17 : decode cX2_visit 17 = .ok (.iload 4, 2) := by decide +kernel
theorem dX2_visit_19 : decode cX2_visit 19 = .ok (.iaload, 1) := by decide +kernel
theorem dX2_visit_20 : decode cX2_visit 20 = .ok (.aload_n 0, 1) := by decide +kernel
theorem dX2_visit_21 : decode cX2_visit 21 = .ok (.getfield 38, 3) := by decide +kernel
theorem dX2_visit_24 : decode cX2_visit 24 = .ok (.if_icmp .ne 4, 3) := by decide +kernel
theorem dX2_visit_27 : decode cX2_visit 27 = .ok (.return_, 1) := by decide +kernel
theorem dX2_visit_28 : decode cX2_visit 28 = .ok (.aload_n 0, 1) := by decide +kernel
theorem dX2_visit_29 : decode cX2_visit 29 = .ok (.getfield 11, 3) := by decide +kernel
theorem dX2_visit_32 : decode cX2_visit 32 = .ok (.iload 4, 2) := by decide +kernel
theorem dX2_visit_34 : decode cX2_visit 34 = .ok (.aload_n 0, 1) := by decide +kernel
theorem dX2_visit_35 : decode cX2_visit 35 = .ok (.getfield 38, 3) := by decide +kernel
theorem dX2_visit_38 : decode cX2_visit 38 = .ok (.iastore, 1) := by decide +kernel
theorem dX2_visit_39 : decode cX2_visit 39 = .ok (.aload_n 0, 1) := by decide +kernel
theorem dX2_visit_40 : decode cX2_visit 40 = .ok (.getfield 15, 3) := by decide +kernel
theorem dX2_visit_43 : decode cX2_visit 43 = .ok (.iload 4, 2) := by decide +kernel
theorem dX2_visit_45 : decode cX2_visit 45 = .ok (.iload_n 1, 1) := by decide +kernel
theorem dX2_visit_46 : decode cX2_visit 46 = .ok (.ifCond .ne 7, 3) := by decide +kernel
theorem dX2_visit_49 : decode cX2_visit 49 = .ok (.iconst 1, 1) := by decide +kernel
theorem dX2_visit_50 : decode cX2_visit 50 = .ok (.goto 4, 3) := by decide +kernel
theorem dX2_visit_53 : decode cX2_visit 53 = .ok (.iconst 0, 1) := by decide +kernel
theorem dX2_visit_54 : decode cX2_visit 54 = .ok (.iastore, 1) := by decide +kernel
theorem dX2_visit_55 : decode cX2_visit 55 = .ok (.aload_n 0, 1) := by decide +kernel
theorem dX2_visit_56 : decode cX2_visit 56 = .ok (.getfield 18, 3) := by decide +kernel
theorem dX2_visit_59 : decode cX2_visit 59 = .ok (.iload 4, 2) := by decide +kernel
theorem dX2_visit_61 : decode cX2_visit 61 = .ok (.iconst 0, 1) := by decide +kernel
theorem dX2_visit_62 : decode cX2_visit 62 = .ok (.iastore, 1) := by decide +kernel
theorem dX2_visit_63 : decode cX2_visit 63 = .ok (.aload_n 0, 1) := by decide +kernel
theorem dX2_visit_64 : decode cX2_visit 64 = .ok (.getfield 21, 3) := by decide +kernel
theorem dX2_visit_67 : decode cX2_visit 67 = .ok (.iload 4, 2) := by decide +kernel
theorem dX2_visit_69 : decode cX2_visit 69 = .ok (.iload_n 1, 1) := by decide +kernel
theorem dX2_visit_70 : decode cX2_visit 70 = .ok (.ifCond .ne 7, 3) := by decide +kernel
theorem dX2_visit_73 : decode cX2_visit 73 = .ok (.iconst 0, 1) := by decide +kernel
theorem dX2_visit_74 : decode cX2_visit 74 = .ok (.goto 5, 3) := by decide +kernel
theorem dX2_visit_77 : decode cX2_visit 77 = .ok (.ldc 77, 2) := by decide +kernel
theorem dX2_visit_79 : decode cX2_visit 79 = .ok (.iastore, 1) := by decide +kernel
theorem dX2_visit_80 : decode cX2_visit 80 = .ok (.aload_n 0, 1) := by decide +kernel
theorem dX2_visit_81 : decode cX2_visit 81 = .ok (.getfield 24, 3) := by decide +kernel
theorem dX2_visit_84 : decode cX2_visit 84 = .ok (.iload 4, 2) := by decide +kernel
theorem dX2_visit_86 : decode cX2_visit 86 = .ok (.iconst 0, 1) := by decide +kernel
theorem dX2_visit_87 : decode cX2_visit 87 = .ok (.bastore, 1) := by decide +kernel
theorem dX2_visit_88 : decode cX2_visit 88 = .ok (.aload_n 0, 1) := by decide +kernel
theorem dX2_visit_89 : decode cX2_visit 89 = .ok (.getfield 34, 3) := by decide +kernel
theorem dX2_visit_92 : decode cX2_visit 92 = .ok (.iload_n 1, 1) := by decide +kernel
theorem dX2_visit_93 : decode cX2_visit 93 = .ok (.iload_n 2, 1) := by decide +kernel
theorem dX2_visit_94 : decode cX2_visit 94 = .ok (.invokevirtual 78, 3) := by decide +kernel
theorem dX2_visit_97 : decode cX2_visit 97 = .ok (.istore 5, 2) := by decide +kernel
theorem dX2_visit_99 : decode cX2_visit 99 = .ok (.aload_n 0, 1) := by decide +kernel
theorem dX2_visit_100 : decode cX2_visit 100 = .ok (.dup, 1) := by decide +kernel
theorem dX2_visit_101 : decode cX2_visit 101 = .ok (.getfield 42, 3) := by decide +kernel
theorem dX2_visit_104 : decode cX2_visit 104 = .ok (.iload 5, 2) := by decide +kernel
theorem dX2_visit_106 : decode cX2_visit 106 = .ok (.ior, 1) := by decide +kernel
theorem dX2_visit_107 : decode cX2_visit 107 = .ok (.putfield 42, 3) := by decide +kernel
theorem dX2_visit_110 : decode cX2_visit 110 = .ok (.iconst 0, 1) := by decide +kernel
theorem dX2_visit_111 : decode cX2_visit 111 = .ok (.istore 6, 2) := by decide +kernel
theorem dX2_visit_113 : decode cX2_visit 113 = .ok (.iload 6, 2) := by decide +kernel
theorem dX2_visit_115 : decode cX2_visit 115 = .ok (.bipush 9, 2) := by decide +kernel
theorem dX2_visit_117 : decode cX2_visit 117 = .ok (.if_icmp .ge 29, 3) := by decide +kernel
theorem dX2_visit_120 : decode cX2_visit 120 = .ok (.iload 5, 2) := by decide +kernel
theorem dX2_visit_122 : decode cX2_visit 122 = .ok (.iload 6, 2) := by decide +kernel
theorem dX2_visit_124 : decode cX2_visit 124 = .ok (.invokestatic 81, 3) := by decide +kernel
theorem dX2_visit_127 : decode cX2_visit 127 = .ok (.ifCond .eq 13, 3) := by decide +kernel
theorem dX2_visit_130 : decode cX2_visit 130 = .ok (.aload_n 0, 1) := by decide +kernel
theorem dX2_visit_131 : decode cX2_visit 131 = .ok (.iload_n 1, 1) := by decide +kernel
theorem dX2_visit_132 : decode cX2_visit 132 = .ok (.iload 4, 2) := by decide +kernel
theorem dX2_visit_134 : decode cX2_visit 134 = .ok (.iload 6, 2) := by decide +kernel
theorem dX2_visit_136 : decode cX2_visit 136 = .ok (.iload_n 3, 1) := by decide +kernel
theorem dX2_visit_137 : decode cX2_visit 137 = .ok (.invokevirtual 85, 3) := by decide +kernel
theorem dX2_visit_140 : decode cX2_visit 140 = .ok (.iinc 6 1, 3) := by decide +kernel
theorem dX2_visit_143 : decode cX2_visit 143 = .ok (.goto (-30), 3) := by decide +kernel
theorem dX2_visit_146 : decode cX2_visit 146 = .ok (.return_, 1) := by decide +kernel
def f_X2_visit_140 (g : Sh → Rw → Iw → Nat → Int32 → Int32 → Int32 → Option (Iw)) (S : Sh) (R : Rw) (ko113 : Iw → Nat → Int32 → Int32 → Int32 → Int32 → Int32 → Option (Iw)) (I : Iw) (a0 : Nat) (x1 : Int32) (x3 : Int32) (x4 : Int32) (x5 : Int32) (x6 : Int32) : Option (Iw) := ko113 I a0 x1 x3 x4 x5 (x6 + (1 : Int32))
set_option maxHeartbeats 4000000 in
theorem b_X2_visit_140 {E : Ev} {p : Program} {l : Launch} {e : Env} {s : State} {m : MethodId} {args : Array Value} {below : List Frame} {meth : Method} {c : Code} {dF dL : Nat} (C : Cx E RX2 cX2_visit 7 p s m c) (hr : meth.sig.returnType = none) (hk : meth.locks = false) {S : Sh} {R : Rw} {r : Iw} {g : Sh → Rw → Iw → Nat → Int32 → Int32 → Int32 → Option (Iw)} (hg : ∀ (S : Sh) (R : Rw) (I : Iw) (a0 : Nat) (x1 : Int32) (x2 : Int32) (x3 : Int32) (r : Iw), g S R I a0 x1 x2 x3 = some r → Mt E l yX2_visit cX2_visit 7 none dF dL [.ref (E.1 + a0), .int x1, .int x2, .int x3] S R I S R r none 0 0) {ko113 : Iw → Nat → Int32 → Int32 → Int32 → Int32 → Int32 → Option (Iw)} (hko113 : ∀ (I : Iw) (a0 : Nat) (x1 : Int32) (x3 : Int32) (x4 : Int32) (x5 : Int32) (x6 : Int32), ko113 I a0 x1 x3 x4 x5 x6 = some r → Wk E 7 p l e ({ frames := dF + 3, cells := 0, slots := 0, locals := dL + 70 } : Room) s m args below meth c 0 0 (MQ below (Qw E S R r none) args s 0 0 (fun q => E.1 ≤ q)) 113 [(0, .ref (E.1 + a0)), (1, .int x1), (3, .int x3), (4, .int x4), (5, .int x5), (6, .int x6)] [] S R I) : ∀ (I : Iw) (a0 : Nat) (x1 : Int32) (x3 : Int32) (x4 : Int32) (x5 : Int32) (x6 : Int32), f_X2_visit_140 g S R ko113  I a0 x1 x3 x4 x5 x6 = some r → Wk E 7 p l e ({ frames := dF + 3, cells := 0, slots := 0, locals := dL + 70 } : Room) s m args below meth c 0 0 (MQ below (Qw E S R r none) args s 0 0 (fun q => E.1 ≤ q)) 140 [(0, .ref (E.1 + a0)), (1, .int x1), (3, .int x3), (4, .int x4), (5, .int x5), (6, .int x6)] [] S R I := by
  intro I a0 x1 x3 x4 x5 x6 h
  rw [f_X2_visit_140] at h
  refine k_iinc (pc := 140) C dX2_visit_140 5 rfl (v := x6 + (1 : Int32)) (by rfl) (by decide) (L2 := [(0, .ref (E.1 + a0)), (1, .int x1), (3, .int x3), (4, .int x4), (5, .int x5), (6, .int (x6 + (1 : Int32)))]) rfl ?_
  refine k_goto (pc := 143) C dX2_visit_143 (tgt := 113) (by decide) ?_
  exact hko113 _ _ _ _ _ _ _ h
def f_X2_visit_113 (g : Sh → Rw → Iw → Nat → Int32 → Int32 → Int32 → Option (Iw)) (S : Sh) (R : Rw)  : Nat → Iw → Nat → Int32 → Int32 → Int32 → Int32 → Int32 → Option (Iw)
  | 0, _, _, _, _, _, _, _ => none
  | n + 1, I, a0, x1, x3, x4, x5, x6 => (if (9 : Int32) ≤ x6 then some I else bd (f_X11_holds S R I x5 x6) (fun r31 => (if r31 = 0 then f_X2_visit_140 g S R (f_X2_visit_113 g S R  n) I a0 x1 x3 x4 x5 x6 else gp (sok S a0 2 11) (bd (f_X2_visitBehind g S R I a0 x1 x4 x6 x3) (fun r34 => f_X2_visit_140 g S R (f_X2_visit_113 g S R  n) r34 a0 x1 x3 x4 x5 x6)))))
set_option maxHeartbeats 4000000 in
theorem b_X2_visit_113 {E : Ev} {p : Program} {l : Launch} {e : Env} {s : State} {m : MethodId} {args : Array Value} {below : List Frame} {meth : Method} {c : Code} {dF dL : Nat} (C : Cx E RX2 cX2_visit 7 p s m c) (hr : meth.sig.returnType = none) (hk : meth.locks = false) {S : Sh} {R : Rw} {r : Iw} {g : Sh → Rw → Iw → Nat → Int32 → Int32 → Int32 → Option (Iw)} (hg : ∀ (S : Sh) (R : Rw) (I : Iw) (a0 : Nat) (x1 : Int32) (x2 : Int32) (x3 : Int32) (r : Iw), g S R I a0 x1 x2 x3 = some r → Mt E l yX2_visit cX2_visit 7 none dF dL [.ref (E.1 + a0), .int x1, .int x2, .int x3] S R I S R r none 0 0) : ∀ (n : Nat) (I : Iw) (a0 : Nat) (x1 : Int32) (x3 : Int32) (x4 : Int32) (x5 : Int32) (x6 : Int32), f_X2_visit_113 g S R  n I a0 x1 x3 x4 x5 x6 = some r → Wk E 7 p l e ({ frames := dF + 3, cells := 0, slots := 0, locals := dL + 70 } : Room) s m args below meth c 0 0 (MQ below (Qw E S R r none) args s 0 0 (fun q => E.1 ≤ q)) 113 [(0, .ref (E.1 + a0)), (1, .int x1), (3, .int x3), (4, .int x4), (5, .int x5), (6, .int x6)] [] S R I := by
  intro n
  induction n with
  | zero =>
    intro I a0 x1 x3 x4 x5 x6 h
    rw [f_X2_visit_113] at h
    cases h
  | succ n ih =>
    intro I a0 x1 x3 x4 x5 x6 h
    rw [f_X2_visit_113] at h
    refine k_iload (pc := 113) C dX2_visit_113 5 rfl ?_
    refine k_bipush (pc := 115) C (v := (9 : Int32)) dX2_visit_115 (by decide) ?_
    refine k_icmp_ge (pc := 117) C dX2_visit_117 (tgt := 146) (by decide) (fun hc30 => ?_) (fun hc30 => ?_)
    · rw [if_pos hc30] at h
      have h := Option.some.inj h
      subst h
      exact k_vret (pc := 146) C hr hk dX2_visit_146
    · rw [if_neg hc30] at h
      refine k_iload (pc := 120) C dX2_visit_120 4 rfl ?_
      refine k_iload (pc := 122) C dX2_visit_122 5 rfl ?_
      obtain ⟨r31, hr31, h⟩ := bd_e h
      refine k_SN (pc := 124) (st := []) C (c_X11_holds hr31) lkSN_RX2_81 rfl rfl (Nat.le_of_ble_eq_true rfl) (by show 0 + 1 ≤ dF + 3; omega) (by show 8 + (2 + 11) + 0 ≤ dL + 70; omega) (Nat.le_of_ble_eq_true rfl) (Nat.le_of_ble_eq_true rfl) dX2_visit_124 ?_
      refine k_nf (cells2 := 0) (slots2 := 0) (st2 := [.int r31]) rfl rfl rfl ?_
      refine k_if_eq (pc := 127) C dX2_visit_127 (tgt := 140) (by decide) (fun hc32 => ?_) (fun hc32 => ?_)
      · rw [if_pos hc32] at h
        exact b_X2_visit_140 C hr hk hg ih _ _ _ _ _ _ _ h
      · rw [if_neg hc32] at h
        refine k_aloadn (pc := 130) C dX2_visit_130 (i := 0) rfl 0 rfl ?_
        refine k_iloadn (pc := 131) C dX2_visit_131 (i := 1) rfl 1 rfl ?_
        refine k_iload (pc := 132) C dX2_visit_132 3 rfl ?_
        refine k_iload (pc := 134) C dX2_visit_134 5 rfl ?_
        refine k_iloadn (pc := 136) C dX2_visit_136 (i := 3) rfl 2 rfl ?_
        obtain ⟨hs330, h⟩ := gp_e h
        have hs33 := sok_e hs330
        obtain ⟨r34, hr34, h⟩ := bd_e h
        refine k_V (pc := 137) (st := []) C (c_X2_visitBehind hg hr34) lkV_RX2_85 hs33 rfl rfl rfl (Nat.le_of_ble_eq_true rfl) (by show (dF + 2) + 1 ≤ dF + 3; omega) (by show 8 + (7 + 11) + (dL + 44) ≤ dL + 70; omega) (Nat.le_of_ble_eq_true rfl) (Nat.le_of_ble_eq_true rfl) dX2_visit_137 ?_
        refine k_nf (cells2 := 0) (slots2 := 0) (st2 := []) rfl rfl rfl ?_
        exact b_X2_visit_140 C hr hk hg ih _ _ _ _ _ _ _ h
def f_X2_visit_79 (g : Sh → Rw → Iw → Nat → Int32 → Int32 → Int32 → Option (Iw)) (S : Sh) (R : Rw)  (I : Iw) (a0 : Nat) (x1 : Int32) (x2 : Int32) (x3 : Int32) (x4 : Int32) (s0 : Int32) (s1 : Int32) (q2 : Nat) : Option (Iw) := gp (aok S 20 q2 s1) (lt (up2 I q2 s1.toNatClampNeg s0) (fun I21 => gp (sok S a0 2 11) (rl (R a0 6) (fun b23 => gp (aok S 22 b23 x4) (lt (up2 I21 b23 x4.toNatClampNeg (0 : Int32)) (fun I25 => rl (R a0 0) (fun b26 => gp (sok S b26 7 16) (bd (f_X7_mayGo S R I25 b26 x1 x2) (fun r28 => lt (up2 I25 a0 9 ((I25 a0 9) ||| r28)) (fun I29 => f_X2_visit_113 g S R  512 I29 a0 x1 x3 x4 r28 (0 : Int32)))))))))))
set_option maxHeartbeats 4000000 in
theorem b_X2_visit_79 {E : Ev} {p : Program} {l : Launch} {e : Env} {s : State} {m : MethodId} {args : Array Value} {below : List Frame} {meth : Method} {c : Code} {dF dL : Nat} (C : Cx E RX2 cX2_visit 7 p s m c) (hr : meth.sig.returnType = none) (hk : meth.locks = false) {S : Sh} {R : Rw} {r : Iw} {g : Sh → Rw → Iw → Nat → Int32 → Int32 → Int32 → Option (Iw)} (hg : ∀ (S : Sh) (R : Rw) (I : Iw) (a0 : Nat) (x1 : Int32) (x2 : Int32) (x3 : Int32) (r : Iw), g S R I a0 x1 x2 x3 = some r → Mt E l yX2_visit cX2_visit 7 none dF dL [.ref (E.1 + a0), .int x1, .int x2, .int x3] S R I S R r none 0 0) : ∀ (I : Iw) (a0 : Nat) (x1 : Int32) (x2 : Int32) (x3 : Int32) (x4 : Int32) (s0 : Int32) (s1 : Int32) (q2 : Nat), f_X2_visit_79 g S R   I a0 x1 x2 x3 x4 s0 s1 q2 = some r → Wk E 7 p l e ({ frames := dF + 3, cells := 0, slots := 0, locals := dL + 70 } : Room) s m args below meth c 0 0 (MQ below (Qw E S R r none) args s 0 0 (fun q => E.1 ≤ q)) 79 [(0, .ref (E.1 + a0)), (1, .int x1), (2, .int x2), (3, .int x3), (4, .int x4)] [.int s0, .int s1, .ref (E.1 + q2)] S R I := by
  intro I a0 x1 x2 x3 x4 s0 s1 q2 h
  rw [f_X2_visit_79] at h
  obtain ⟨ha20, h⟩ := gp_e h
  obtain ⟨I21, eI21, h⟩ := lt_e h
  refine k_iast (pc := 79) C ha20 dX2_visit_79 ?_
  rw [← eI21]
  refine k_aloadn (pc := 80) C dX2_visit_80 (i := 0) rfl 0 rfl ?_
  obtain ⟨hs220, h⟩ := gp_e h
  have hs22 := sok_e hs220
  obtain ⟨b23, hb23, h⟩ := rl_e h
  refine k_getR (pc := 81) C lkF_RX2_24_2 hs22 ir_2_6 hb23 dX2_visit_81 ?_
  refine k_iload (pc := 84) C dX2_visit_84 4 rfl ?_
  refine k_iconst (pc := 86) C (v := (0 : Int32)) dX2_visit_86 (by decide) ?_
  obtain ⟨ha24, h⟩ := gp_e h
  obtain ⟨I25, eI25, h⟩ := lt_e h
  refine k_zast (pc := 87) C (Or.inl rfl) ha24 dX2_visit_87 ?_
  rw [← eI25]
  refine k_aloadn (pc := 88) C dX2_visit_88 (i := 0) rfl 0 rfl ?_
  obtain ⟨b26, hb26, h⟩ := rl_e h
  refine k_getR (pc := 89) C lkF_RX2_34_2 hs22 ir_2_0 hb26 dX2_visit_89 ?_
  refine k_iloadn (pc := 92) C dX2_visit_92 (i := 1) rfl 1 rfl ?_
  refine k_iloadn (pc := 93) C dX2_visit_93 (i := 2) rfl 2 rfl ?_
  obtain ⟨hs270, h⟩ := gp_e h
  have hs27 := sok_e hs270
  obtain ⟨r28, hr28, h⟩ := bd_e h
  refine k_V (pc := 94) (st := []) C (c_X7_mayGo hr28) lkV_RX2_78 hs27 rfl rfl rfl (Nat.le_of_ble_eq_true rfl) (by show 2 + 1 ≤ dF + 3; omega) (by show 8 + (4 + 11) + 45 ≤ dL + 70; omega) (Nat.le_of_ble_eq_true rfl) (Nat.le_of_ble_eq_true rfl) dX2_visit_94 ?_
  refine k_nf (cells2 := 0) (slots2 := 0) (st2 := [.int r28]) rfl rfl rfl ?_
  refine k_istore (pc := 97) C dX2_visit_97 (by decide) (L2 := [(0, .ref (E.1 + a0)), (1, .int x1), (2, .int x2), (3, .int x3), (4, .int x4), (5, .int r28)]) rfl ?_
  refine k_aloadn (pc := 99) C dX2_visit_99 (i := 0) rfl 0 rfl ?_
  refine k_dup (pc := 100) C dX2_visit_100 rfl ?_
  refine k_getI (pc := 101) C lkF_RX2_42_2 hs22 ir_2_9 dX2_visit_101 ?_
  refine k_iload (pc := 104) C dX2_visit_104 5 rfl ?_
  refine k_ior (pc := 106) C dX2_visit_106 ?_
  obtain ⟨I29, eI29, h⟩ := lt_e h
  refine k_putI (pc := 107) C lkP_RX2_42_2 hs22 ir_2_9 dX2_visit_107 ?_
  rw [← eI29]
  refine k_iconst (pc := 110) C (v := (0 : Int32)) dX2_visit_110 (by decide) ?_
  refine k_istore (pc := 111) C dX2_visit_111 (by decide) (L2 := [(0, .ref (E.1 + a0)), (1, .int x1), (2, .int x2), (3, .int x3), (4, .int x4), (5, .int r28), (6, .int (0 : Int32))]) rfl ?_
  refine k_loc (L2 := [(0, .ref (E.1 + a0)), (1, .int x1), (3, .int x3), (4, .int x4), (5, .int r28), (6, .int (0 : Int32))]) [0, 1, 3, 4, 5, 6] rfl ?_
  exact b_X2_visit_113 C hr hk hg  _ _ _ _ _ _ _ _ h
def f_X2_visit_54 (g : Sh → Rw → Iw → Nat → Int32 → Int32 → Int32 → Option (Iw)) (S : Sh) (R : Rw)  (I : Iw) (a0 : Nat) (x1 : Int32) (x2 : Int32) (x3 : Int32) (x4 : Int32) (s0 : Int32) (s1 : Int32) (q2 : Nat) : Option (Iw) := gp (aok S 20 q2 s1) (lt (up2 I q2 s1.toNatClampNeg s0) (fun I13 => gp (sok S a0 2 11) (rl (R a0 4) (fun b15 => gp (aok S 20 b15 x4) (lt (up2 I13 b15 x4.toNatClampNeg (0 : Int32)) (fun I17 => rl (R a0 5) (fun b18 => (if x1 = 0 then f_X2_visit_79 g S R  I17 a0 x1 x2 x3 x4 (0 : Int32) x4 b18 else f_X2_visit_79 g S R  I17 a0 x1 x2 x3 x4 (2147483647 : Int32) x4 b18))))))))
set_option maxHeartbeats 4000000 in
theorem b_X2_visit_54 {E : Ev} {p : Program} {l : Launch} {e : Env} {s : State} {m : MethodId} {args : Array Value} {below : List Frame} {meth : Method} {c : Code} {dF dL : Nat} (C : Cx E RX2 cX2_visit 7 p s m c) (hr : meth.sig.returnType = none) (hk : meth.locks = false) {S : Sh} {R : Rw} {r : Iw} {g : Sh → Rw → Iw → Nat → Int32 → Int32 → Int32 → Option (Iw)} (hg : ∀ (S : Sh) (R : Rw) (I : Iw) (a0 : Nat) (x1 : Int32) (x2 : Int32) (x3 : Int32) (r : Iw), g S R I a0 x1 x2 x3 = some r → Mt E l yX2_visit cX2_visit 7 none dF dL [.ref (E.1 + a0), .int x1, .int x2, .int x3] S R I S R r none 0 0) : ∀ (I : Iw) (a0 : Nat) (x1 : Int32) (x2 : Int32) (x3 : Int32) (x4 : Int32) (s0 : Int32) (s1 : Int32) (q2 : Nat), f_X2_visit_54 g S R   I a0 x1 x2 x3 x4 s0 s1 q2 = some r → Wk E 7 p l e ({ frames := dF + 3, cells := 0, slots := 0, locals := dL + 70 } : Room) s m args below meth c 0 0 (MQ below (Qw E S R r none) args s 0 0 (fun q => E.1 ≤ q)) 54 [(0, .ref (E.1 + a0)), (1, .int x1), (2, .int x2), (3, .int x3), (4, .int x4)] [.int s0, .int s1, .ref (E.1 + q2)] S R I := by
  intro I a0 x1 x2 x3 x4 s0 s1 q2 h
  rw [f_X2_visit_54] at h
  obtain ⟨ha12, h⟩ := gp_e h
  obtain ⟨I13, eI13, h⟩ := lt_e h
  refine k_iast (pc := 54) C ha12 dX2_visit_54 ?_
  rw [← eI13]
  refine k_aloadn (pc := 55) C dX2_visit_55 (i := 0) rfl 0 rfl ?_
  obtain ⟨hs140, h⟩ := gp_e h
  have hs14 := sok_e hs140
  obtain ⟨b15, hb15, h⟩ := rl_e h
  refine k_getR (pc := 56) C lkF_RX2_18_2 hs14 ir_2_4 hb15 dX2_visit_56 ?_
  refine k_iload (pc := 59) C dX2_visit_59 4 rfl ?_
  refine k_iconst (pc := 61) C (v := (0 : Int32)) dX2_visit_61 (by decide) ?_
  obtain ⟨ha16, h⟩ := gp_e h
  obtain ⟨I17, eI17, h⟩ := lt_e h
  refine k_iast (pc := 62) C ha16 dX2_visit_62 ?_
  rw [← eI17]
  refine k_aloadn (pc := 63) C dX2_visit_63 (i := 0) rfl 0 rfl ?_
  obtain ⟨b18, hb18, h⟩ := rl_e h
  refine k_getR (pc := 64) C lkF_RX2_21_2 hs14 ir_2_5 hb18 dX2_visit_64 ?_
  refine k_iload (pc := 67) C dX2_visit_67 4 rfl ?_
  refine k_iloadn (pc := 69) C dX2_visit_69 (i := 1) rfl 1 rfl ?_
  refine k_if_ne (pc := 70) C dX2_visit_70 (tgt := 77) (by decide) (fun hc19 => ?_) (fun hc19 => ?_)
  · rw [if_neg hc19] at h
    refine k_ldc (pc := 77) C (v := (2147483647 : Int32)) dX2_visit_77 (t3_in 106 (by decide +kernel) rfl) ?_
    exact b_X2_visit_79 C hr hk hg  _ _ _ _ _ _ _ _ _ h
  · rw [if_pos hc19] at h
    refine k_iconst (pc := 73) C (v := (0 : Int32)) dX2_visit_73 (by decide) ?_
    refine k_goto (pc := 74) C dX2_visit_74 (tgt := 79) (by decide) ?_
    exact b_X2_visit_79 C hr hk hg  _ _ _ _ _ _ _ _ _ h
def f_X2_visit_b (g : Sh → Rw → Iw → Nat → Int32 → Int32 → Int32 → Option (Iw)) (S : Sh) (R : Rw)  (I : Iw) (a0 : Nat) (x1 : Int32) (x2 : Int32) (x3 : Int32) : Option (Iw) := bd (f_X2_stateOf S R I x1 x2) (fun r1 => (if (9 : Int32) < x3 then some I else gp (sok S a0 2 11) (rl (R a0 1) (fun b4 => gp (aok S 20 b4 r1) ((if (I b4 r1.toNatClampNeg) = (I a0 2) then some I else rl (R a0 1) (fun b7 => gp (aok S 20 b7 r1) (lt (up2 I b7 r1.toNatClampNeg (I a0 2)) (fun I9 => rl (R a0 3) (fun b10 => (if x1 = 0 then f_X2_visit_54 g S R  I9 a0 x1 x2 x3 r1 (1 : Int32) r1 b10 else f_X2_visit_54 g S R  I9 a0 x1 x2 x3 r1 (0 : Int32) r1 b10)))))))))))
set_option maxHeartbeats 4000000 in
theorem b_X2_visit_b {E : Ev} {p : Program} {l : Launch} {e : Env} {s : State} {m : MethodId} {args : Array Value} {below : List Frame} {meth : Method} {c : Code} {dF dL : Nat} (C : Cx E RX2 cX2_visit 7 p s m c) (hr : meth.sig.returnType = none) (hk : meth.locks = false) {S : Sh} {R : Rw} {r : Iw} {g : Sh → Rw → Iw → Nat → Int32 → Int32 → Int32 → Option (Iw)} (hg : ∀ (S : Sh) (R : Rw) (I : Iw) (a0 : Nat) (x1 : Int32) (x2 : Int32) (x3 : Int32) (r : Iw), g S R I a0 x1 x2 x3 = some r → Mt E l yX2_visit cX2_visit 7 none dF dL [.ref (E.1 + a0), .int x1, .int x2, .int x3] S R I S R r none 0 0) : ∀ (I : Iw) (a0 : Nat) (x1 : Int32) (x2 : Int32) (x3 : Int32), f_X2_visit_b g S R   I a0 x1 x2 x3 = some r → Wk E 7 p l e ({ frames := dF + 3, cells := 0, slots := 0, locals := dL + 70 } : Room) s m args below meth c 0 0 (MQ below (Qw E S R r none) args s 0 0 (fun q => E.1 ≤ q)) 0 [(0, .ref (E.1 + a0)), (1, .int x1), (2, .int x2), (3, .int x3)] [] S R I := by
  intro I a0 x1 x2 x3 h
  rw [f_X2_visit_b] at h
  refine k_iloadn (pc := 0) C dX2_visit_0 (i := 1) rfl 1 rfl ?_
  refine k_iloadn (pc := 1) C dX2_visit_1 (i := 2) rfl 2 rfl ?_
  obtain ⟨r1, hr1, h⟩ := bd_e h
  refine k_S (pc := 2) (st := []) C (c_X2_stateOf hr1) lkS_RX2_74 rfl rfl (Nat.le_of_ble_eq_true rfl) (by show 1 + 1 ≤ dF + 3; omega) (by show 8 + (3 + 11) + 22 ≤ dL + 70; omega) (Nat.le_of_ble_eq_true rfl) (Nat.le_of_ble_eq_true rfl) dX2_visit_2 ?_
  refine k_nf (cells2 := 0) (slots2 := 0) (st2 := [.int r1]) rfl rfl rfl ?_
  refine k_istore (pc := 5) C dX2_visit_5 (by decide) (L2 := [(0, .ref (E.1 + a0)), (1, .int x1), (2, .int x2), (3, .int x3), (4, .int r1)]) rfl ?_
  refine k_iloadn (pc := 7) C dX2_visit_7 (i := 3) rfl 3 rfl ?_
  refine k_bipush (pc := 8) C (v := (9 : Int32)) dX2_visit_8 (by decide) ?_
  refine k_icmp_gt (pc := 10) C dX2_visit_10 (tgt := 27) (by decide) (fun hc2 => ?_) (fun hc2 => ?_)
  · rw [if_pos hc2] at h
    have h := Option.some.inj h
    subst h
    exact k_vret (pc := 27) C hr hk dX2_visit_27
  · rw [if_neg hc2] at h
    refine k_aloadn (pc := 13) C dX2_visit_13 (i := 0) rfl 0 rfl ?_
    obtain ⟨hs30, h⟩ := gp_e h
    have hs3 := sok_e hs30
    obtain ⟨b4, hb4, h⟩ := rl_e h
    refine k_getR (pc := 14) C lkF_RX2_11_2 hs3 ir_2_1 hb4 dX2_visit_14 ?_
    refine k_iload (pc := 17) C dX2_visit_17 4 rfl ?_
    obtain ⟨ha5, h⟩ := gp_e h
    refine k_iald (pc := 19) C ha5 dX2_visit_19 ?_
    refine k_aloadn (pc := 20) C dX2_visit_20 (i := 0) rfl 0 rfl ?_
    refine k_getI (pc := 21) C lkF_RX2_38_2 hs3 ir_2_2 dX2_visit_21 ?_
    refine k_icmp_ne (pc := 24) C dX2_visit_24 (tgt := 28) (by decide) (fun hc6 => ?_) (fun hc6 => ?_)
    · rw [if_neg hc6] at h
      refine k_aloadn (pc := 28) C dX2_visit_28 (i := 0) rfl 0 rfl ?_
      obtain ⟨b7, hb7, h⟩ := rl_e h
      refine k_getR (pc := 29) C lkF_RX2_11_2 hs3 ir_2_1 hb7 dX2_visit_29 ?_
      refine k_iload (pc := 32) C dX2_visit_32 4 rfl ?_
      refine k_aloadn (pc := 34) C dX2_visit_34 (i := 0) rfl 0 rfl ?_
      refine k_getI (pc := 35) C lkF_RX2_38_2 hs3 ir_2_2 dX2_visit_35 ?_
      obtain ⟨ha8, h⟩ := gp_e h
      obtain ⟨I9, eI9, h⟩ := lt_e h
      refine k_iast (pc := 38) C ha8 dX2_visit_38 ?_
      rw [← eI9]
      refine k_aloadn (pc := 39) C dX2_visit_39 (i := 0) rfl 0 rfl ?_
      obtain ⟨b10, hb10, h⟩ := rl_e h
      refine k_getR (pc := 40) C lkF_RX2_15_2 hs3 ir_2_3 hb10 dX2_visit_40 ?_
      refine k_iload (pc := 43) C dX2_visit_43 4 rfl ?_
      refine k_iloadn (pc := 45) C dX2_visit_45 (i := 1) rfl 1 rfl ?_
      refine k_if_ne (pc := 46) C dX2_visit_46 (tgt := 53) (by decide) (fun hc11 => ?_) (fun hc11 => ?_)
      · rw [if_neg hc11] at h
        refine k_iconst (pc := 53) C (v := (0 : Int32)) dX2_visit_53 (by decide) ?_
        exact b_X2_visit_54 C hr hk hg  _ _ _ _ _ _ _ _ _ h
      · rw [if_pos hc11] at h
        refine k_iconst (pc := 49) C (v := (1 : Int32)) dX2_visit_49 (by decide) ?_
        refine k_goto (pc := 50) C dX2_visit_50 (tgt := 54) (by decide) ?_
        exact b_X2_visit_54 C hr hk hg  _ _ _ _ _ _ _ _ _ h
    · rw [if_pos hc6] at h
      have h := Option.some.inj h
      subst h
      exact k_vret (pc := 27) C hr hk dX2_visit_27
def f_X2_visit : Nat → Sh → Rw → Iw → Nat → Int32 → Int32 → Int32 → Option (Iw)
  | 0, _, _, _, _, _, _, _ => none
  | n + 1, S, R, I, a0, x1, x2, x3 => f_X2_visit_b (f_X2_visit n) S R I a0 x1 x2 x3
theorem c_X2_visit_g {E : Ev} {l : Launch} : ∀ (n : Nat) (S : Sh) (R : Rw) (I : Iw) (a0 : Nat) (x1 : Int32) (x2 : Int32) (x3 : Int32) (r : Iw), f_X2_visit n S R I a0 x1 x2 x3 = some r → Mt E l yX2_visit cX2_visit 7 none (3 * n) (70 * n) [.ref (E.1 + a0), .int x1, .int x2, .int x3] S R I S R r none 0 0 := by
  intro n
  induction n with
  | zero =>
    intro S R I a0 x1 x2 x3 r h
    rw [f_X2_visit] at h
    cases h
  | succ n ih =>
    intro S R I a0 x1 x2 x3 r h
    rw [f_X2_visit] at h
    exact mt_of (by decide) (Nat.le_of_ble_eq_true rfl) (fun p e s m args below meth c C hr hk hn => b_X2_visit_b (dF := 3 * n) (dL := 70 * n) C hr hk ih _ _ _ _ _ h)
theorem c_X2_visit {E : Ev} {l : Launch} (n : Nat) {S : Sh} {R : Rw} {I : Iw} {a0 : Nat} {x1 : Int32} {x2 : Int32} {x3 : Int32} {r : Iw} (h : f_X2_visit n S R I a0 x1 x2 x3 = some r) : Mt E l yX2_visit cX2_visit 7 none (3 * n) (70 * n) [.ref (E.1 + a0), .int x1, .int x2, .int x3] S R I S R r none 0 0 := c_X2_visit_g n S R I a0 x1 x2 x3 r h
