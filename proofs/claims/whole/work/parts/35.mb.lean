/-! X12_numberAt, X12_readRule -/
theorem dX12_numberAt_0 : decode cX12_numberAt 0 = .ok (.iconst 0, 1) := by decide +kernel
theorem dX12_numberAt_1 : decode cX12_numberAt 1 = .ok (.istore_n 1, 1) := by decide +kernel
theorem dX12_numberAt_2 : decode cX12_numberAt 2 = .ok (.aload_n 0, 1) := by decide +kernel
theorem dX12_numberAt_3 : decode cX12_numberAt 3 = .ok (.getfield 115, 3) := by decide +kernel
theorem dX12_numberAt_6 : decode cX12_numberAt 6 = .ok (.istore_n 2, 1) := by decide +kernel
theorem dX12_numberAt_7 : decode cX12_numberAt 7 = .ok (.iload_n 2, 1) := by decide +kernel
theorem dX12_numberAt_8 : decode cX12_numberAt 8 = .ok (.aload_n 0, 1) := by decide +kernel
theorem dX12_numberAt_9 : decode cX12_numberAt 9 = .ok (.getfield 112, 3) := by decide +kernel
theorem dX12_numberAt_12 : decode cX12_numberAt 12 = .ok (.if_icmp .ge 37, 3) := by decide +kernel
theorem dX12_numberAt_15 : decode cX12_numberAt 15 = .ok (.aload_n 0, 1) := by decide +kernel
theorem dX12_numberAt_16 : decode cX12_numberAt 16 = .ok (.getfield 112, 3) := by decide +kernel
theorem dX12_numberAt_19 : decode cX12_numberAt 19 = .ok (.aload_n 0, 1) := by decide +kernel
theorem dX12_numberAt_20 : decode cX12_numberAt 20 = .ok (.getfield 115, 3) := by decide +kernel
theorem dX12_numberAt_23 : decode cX12_numberAt 23 = .ok (.isub, 1) := by decide +kernel
theorem dX12_numberAt_24 : decode cX12_numberAt 24 = .ok (.iconst 4, 1) := by decide +kernel
theorem dX12_numberAt_25 : decode cX12_numberAt 25 = .ok (.if_icmp .gt 24, 3) := by decide +kernel
theorem dX12_numberAt_28 : decode cX12_numberAt 28 = .ok (.bipush 10, 2) := by decide +kernel
theorem dX12_numberAt_30 : decode cX12_numberAt 30 = .ok (.iload_n 1, 1) := by decide +kernel
theorem dX12_numberAt_31 : decode cX12_numberAt 31 = .ok (.imul, 1) := by decide +kernel
theorem dX12_numberAt_32 : decode cX12_numberAt 32 = .ok (.aload_n 0, 1) := by decide +kernel
theorem dX12_numberAt_33 : decode cX12_numberAt 33 = .ok (.getfield 19, 3) := by decide +kernel
theorem dX12_numberAt_36 : decode cX12_numberAt 36 = .ok (.iload_n 2, 1) := by decide +kernel
theorem dX12_numberAt_37 : decode cX12_numberAt 37 = .ok (.iaload, 1) := by decide +kernel
theorem dX12_numberAt_38 : decode cX12_numberAt 38 = .ok (.iadd, 1) := by decide +kernel
theorem dX12_numberAt_39 : decode cX12_numberAt 39 = .ok (.bipush 48, 2) := by decide +kernel
theorem dX12_numberAt_41 : decode cX12_numberAt 41 = .ok (.isub, 1) := by decide +kernel
theorem dX12_numberAt_42 : decode cX12_numberAt 42 = .ok (.istore_n 1, 1) := by decide +kernel
theorem dX12_numberAt_43 : decode cX12_numberAt 43 = .ok (.iinc 2 1, 3) := by decide +kernel
theorem dX12_numberAt_46 : decode cX12_numberAt 46 = .ok (.goto (-39), 3) := by decide +kernel
theorem dX12_numberAt_49 : decode cX12_numberAt 49 = .ok (.iload_n 1, 1) := by decide +kernel
theorem dX12_numberAt_50 : decode cX12_numberAt 50 = .ok (.ireturn, 1) := by decide +kernel
def f_X12_numberAt_7 (S : Sh) (R : Rw) (I : Iw)  : Nat → Nat → Int32 → Int32 → Option (Int32)
  | 0, _, _, _ => none
  | n + 1, a0, x1, x2 => gp (sok S a0 12 34) ((if (I a0 7) ≤ x2 then some x1 else (if (4 : Int32) < ((I a0 7) - (I a0 6)) then some x1 else rl (R a0 4) (fun b5 => gp (aok S 20 b5 x2) (lt ((((10 : Int32) * x1) + (I b5 x2.toNatClampNeg)) - (48 : Int32)) (fun y7 => f_X12_numberAt_7 S R I  n a0 y7 (x2 + (1 : Int32))))))))
set_option maxHeartbeats 4000000 in
theorem b_X12_numberAt_7 {E : Ev} {p : Program} {l : Launch} {e : Env} {s : State} {m : MethodId} {args : Array Value} {below : List Frame} {meth : Method} {c : Code} (C : Cx E RX12 cX12_numberAt 3 p s m c) (hr : meth.sig.returnType = (some .int)) (hk : meth.locks = false) {S : Sh} {R : Rw} {I : Iw} {r : Int32}  : ∀ (n : Nat) (a0 : Nat) (x1 : Int32) (x2 : Int32), f_X12_numberAt_7 S R I  n a0 x1 x2 = some r → Wk E 3 p l e ({ frames := 0, cells := 0, slots := 0, locals := 0 } : Room) s m args below meth c 0 0 (MQ below (Qw E S R I (some (.int r))) args s 0 0 (fun q => E.1 ≤ q)) 7 [(0, .ref (E.1 + a0)), (1, .int x1), (2, .int x2)] [] S R I := by
  intro n
  induction n with
  | zero =>
    intro a0 x1 x2 h
    rw [f_X12_numberAt_7] at h
    cases h
  | succ n ih =>
    intro a0 x1 x2 h
    rw [f_X12_numberAt_7] at h
    refine k_iloadn (pc := 7) C dX12_numberAt_7 (i := 2) rfl 2 rfl ?_
    refine k_aloadn (pc := 8) C dX12_numberAt_8 (i := 0) rfl 0 rfl ?_
    obtain ⟨hs20, h⟩ := gp_e h
    have hs2 := sok_e hs20
    refine k_getI (pc := 9) C lkF_RX12_112_12 hs2 ir_12_7 dX12_numberAt_9 ?_
    refine k_icmp_ge (pc := 12) C dX12_numberAt_12 (tgt := 49) (by decide) (fun hc3 => ?_) (fun hc3 => ?_)
    · rw [if_pos hc3] at h
      refine k_iloadn (pc := 49) C dX12_numberAt_49 (i := 1) rfl 1 rfl ?_
      have h := Option.some.inj h
      subst h
      exact k_iret (pc := 50) C hr hk dX12_numberAt_50
    · rw [if_neg hc3] at h
      refine k_aloadn (pc := 15) C dX12_numberAt_15 (i := 0) rfl 0 rfl ?_
      refine k_getI (pc := 16) C lkF_RX12_112_12 hs2 ir_12_7 dX12_numberAt_16 ?_
      refine k_aloadn (pc := 19) C dX12_numberAt_19 (i := 0) rfl 0 rfl ?_
      refine k_getI (pc := 20) C lkF_RX12_115_12 hs2 ir_12_6 dX12_numberAt_20 ?_
      refine k_isub (pc := 23) C dX12_numberAt_23 ?_
      refine k_iconst (pc := 24) C (v := (4 : Int32)) dX12_numberAt_24 (by decide) ?_
      refine k_icmp_gt (pc := 25) C dX12_numberAt_25 (tgt := 49) (by decide) (fun hc4 => ?_) (fun hc4 => ?_)
      · rw [if_pos hc4] at h
        refine k_iloadn (pc := 49) C dX12_numberAt_49 (i := 1) rfl 1 rfl ?_
        have h := Option.some.inj h
        subst h
        exact k_iret (pc := 50) C hr hk dX12_numberAt_50
      · rw [if_neg hc4] at h
        refine k_bipush (pc := 28) C (v := (10 : Int32)) dX12_numberAt_28 (by decide) ?_
        refine k_iloadn (pc := 30) C dX12_numberAt_30 (i := 1) rfl 1 rfl ?_
        refine k_imul (pc := 31) C dX12_numberAt_31 ?_
        refine k_aloadn (pc := 32) C dX12_numberAt_32 (i := 0) rfl 0 rfl ?_
        obtain ⟨b5, hb5, h⟩ := rl_e h
        refine k_getR (pc := 33) C lkF_RX12_19_12 hs2 ir_12_4 hb5 dX12_numberAt_33 ?_
        refine k_iloadn (pc := 36) C dX12_numberAt_36 (i := 2) rfl 2 rfl ?_
        obtain ⟨ha6, h⟩ := gp_e h
        refine k_iald (pc := 37) C ha6 dX12_numberAt_37 ?_
        refine k_iadd (pc := 38) C dX12_numberAt_38 ?_
        refine k_bipush (pc := 39) C (v := (48 : Int32)) dX12_numberAt_39 (by decide) ?_
        refine k_isub (pc := 41) C dX12_numberAt_41 ?_
        obtain ⟨y7, ey7, h⟩ := lt_e h
        rw [← ey7]
        refine k_istoren (pc := 42) C dX12_numberAt_42 (i := 1) rfl (by decide) (L2 := [(0, .ref (E.1 + a0)), (1, .int y7), (2, .int x2)]) rfl ?_
        refine k_iinc (pc := 43) C dX12_numberAt_43 2 rfl (v := x2 + (1 : Int32)) (by rfl) (by decide) (L2 := [(0, .ref (E.1 + a0)), (1, .int y7), (2, .int (x2 + (1 : Int32)))]) rfl ?_
        refine k_goto (pc := 46) C dX12_numberAt_46 (tgt := 7) (by decide) ?_
        exact ih _ _ _ h
def f_X12_numberAt (S : Sh) (R : Rw) (I : Iw)  (a0 : Nat) : Option (Int32) := gp (sok S a0 12 34) (f_X12_numberAt_7 S R I  512 a0 (0 : Int32) (I a0 6))
set_option maxHeartbeats 4000000 in
theorem b_X12_numberAt {E : Ev} {p : Program} {l : Launch} {e : Env} {s : State} {m : MethodId} {args : Array Value} {below : List Frame} {meth : Method} {c : Code} (C : Cx E RX12 cX12_numberAt 3 p s m c) (hr : meth.sig.returnType = (some .int)) (hk : meth.locks = false) {S : Sh} {R : Rw} {I : Iw} {r : Int32}  : ∀ (a0 : Nat), f_X12_numberAt S R I   a0 = some r → Wk E 3 p l e ({ frames := 0, cells := 0, slots := 0, locals := 0 } : Room) s m args below meth c 0 0 (MQ below (Qw E S R I (some (.int r))) args s 0 0 (fun q => E.1 ≤ q)) 0 [(0, .ref (E.1 + a0))] [] S R I := by
  intro a0 h
  rw [f_X12_numberAt] at h
  refine k_iconst (pc := 0) C (v := (0 : Int32)) dX12_numberAt_0 (by decide) ?_
  refine k_istoren (pc := 1) C dX12_numberAt_1 (i := 1) rfl (by decide) (L2 := [(0, .ref (E.1 + a0)), (1, .int (0 : Int32))]) rfl ?_
  refine k_aloadn (pc := 2) C dX12_numberAt_2 (i := 0) rfl 0 rfl ?_
  obtain ⟨hs10, h⟩ := gp_e h
  have hs1 := sok_e hs10
  refine k_getI (pc := 3) C lkF_RX12_115_12 hs1 ir_12_6 dX12_numberAt_3 ?_
  refine k_istoren (pc := 6) C dX12_numberAt_6 (i := 2) rfl (by decide) (L2 := [(0, .ref (E.1 + a0)), (1, .int (0 : Int32)), (2, .int (I a0 6))]) rfl ?_
  exact b_X12_numberAt_7 C hr hk  _ _ _ _ h
theorem c_X12_numberAt {E : Ev} {l : Launch} {S : Sh} {R : Rw} {I : Iw} {a0 : Nat} {r : Int32} (h : f_X12_numberAt S R I a0 = some r) : Mt E l yX12_numberAt cX12_numberAt 3 (some .int) 0 0 [.ref (E.1 + a0)] S R I S R I (some (.int r)) 0 0 := mt_of (by decide) (Nat.le_of_ble_eq_true rfl) (fun p e s m args below meth c C hr hk hn => b_X12_numberAt C hr hk _ h)
theorem lkF_RX12_53_12 : LkF RX12 53 12 14 := ⟨RX12, TX12, 34, "UnlikeNeighboursModel", fc12, by decide, (t5_in 95 (by decide +kernel) rfl), Or.inl rfl⟩
theorem lkF_RX12_59_12 : LkF RX12 59 12 16 := ⟨RX12, TX12, 34, "UnlikeNeighboursModel", fc12, by decide, (t5_in 97 (by decide +kernel) rfl), Or.inl rfl⟩
theorem lkF_RX12_56_12 : LkF RX12 56 12 15 := ⟨RX12, TX12, 34, "UnlikeNeighboursModel", fc12, by decide, (t5_in 96 (by decide +kernel) rfl), Or.inl rfl⟩
theorem lkF_RX12_62_12 : LkF RX12 62 12 17 := ⟨RX12, TX12, 34, "UnlikeNeighboursModel", fc12, by decide, (t5_in 98 (by decide +kernel) rfl), Or.inl rfl⟩
theorem lkF_RX12_65_12 : LkF RX12 65 12 18 := ⟨RX12, TX12, 34, "UnlikeNeighboursModel", fc12, by decide, (t5_in 99 (by decide +kernel) rfl), Or.inl rfl⟩
theorem lkV_RX12_203 : LkV RX12 203 RX12 yX12_numberAt cX12_numberAt 3 (some .int) 0 := ⟨(t6_in 17 (by decide +kernel) rfl), (t6_in 19 (by decide +kernel) rfl), (t0_in 39 (by decide +kernel) rfl), (t6_in 20 (by decide +kernel) rfl), (t1_in 7 (by decide +kernel) rfl), by decide, by decide +kernel⟩
theorem dX12_readRule_0 : decode cX12_readRule 0 = .ok (.iconst (-1), 1) := by decide +kernel
theorem dX12_readRule_1 : decode cX12_readRule 1 = .ok (.istore_n 2, 1) := by decide +kernel
theorem dX12_readRule_2 : decode cX12_readRule 2 = .ok (.iconst 0, 1) := by decide +kernel
theorem dX12_readRule_3 : decode cX12_readRule 3 = .ok (.istore_n 3, 1) := by decide +kernel
theorem dX12_readRule_4 : decode cX12_readRule 4 = .ok (.iload_n 3, 1) := by decide +kernel
theorem dX12_readRule_5 : decode cX12_readRule 5 = .ok (.aload_n 0, 1) := by decide +kernel
theorem dX12_readRule_6 : decode cX12_readRule 6 = .ok (.getfield 53, 3) := by decide +kernel
theorem dX12_readRule_9 : decode cX12_readRule 9 = .ok (.arraylength, 1) := by decide +kernel
theorem dX12_readRule_10 : decode cX12_readRule 10 = .ok (.if_icmp .ge 28, 3) := by decide +kernel
theorem dX12_readRule_13 : decode cX12_readRule 13 = .ok (.aload_n 0, 1) := by decide +kernel
theorem dX12_readRule_14 : decode cX12_readRule 14 = .ok (.aload_n 0, 1) := by decide +kernel
theorem dX12_readRule_15 : decode cX12_readRule 15 = .ok (.getfield 53, 3) := by decide +kernel
theorem dX12_readRule_18 : decode cX12_readRule 18 = .ok (.iload_n 3, 1) := by decide +kernel
theorem dX12_readRule_19 : decode cX12_readRule 19 = .ok (.aaload, 1) := by decide +kernel
theorem dX12_readRule_20 : decode cX12_readRule 20 = .ok (.invokevirtual 155, 3) := by decide +kernel
theorem dX12_readRule_23 : decode cX12_readRule 23 = .ok (.ifCond .eq 7, 3) := by decide +kernel
theorem dX12_readRule_26 : decode cX12_readRule 26 = .ok (.iload_n 3, 1) := by decide +kernel
theorem dX12_readRule_27 : decode cX12_readRule 27 = .ok (.goto 4, 3) := by decide +kernel
theorem dX12_readRule_30 : decode cX12_readRule 30 = .ok (.iload_n 2, 1) := by decide +kernel
theorem dX12_readRule_31 : decode cX12_readRule 31 = .ok (.istore_n 2, 1) := by decide +kernel
theorem dX12_readRule_32 : decode cX12_readRule 32 = .ok (.iinc 3 1, 3) := by decide +kernel
theorem dX12_readRule_35 : decode cX12_readRule 35 = .ok (.goto (-31), 3) := by decide +kernel
theorem dX12_readRule_38 : decode cX12_readRule 38 = .ok (.aload_n 0, 1) := by decide +kernel
theorem dX12_readRule_39 : decode cX12_readRule 39 = .ok (.iload_n 1, 1) := by decide +kernel
theorem dX12_readRule_40 : decode cX12_readRule 40 = .ok (.bipush 8, 2) := by decide +kernel
theorem dX12_readRule_42 : decode cX12_readRule 42 = .ok (.if_icmp .ge 11, 3) := by decide +kernel
theorem dX12_readRule_45 : decode cX12_readRule 45 = .ok (.iload_n 2, 1) := by decide +kernel
theorem dX12_readRule_46 : decode cX12_readRule 46 = .ok (.ifCond .lt 7, 3) := by decide +kernel
theorem dX12_readRule_49 : decode cX12_readRule 49 = .ok (.iconst 1, 1) := by decide +kernel
theorem dX12_readRule_50 : decode cX12_readRule 50 = .ok (.goto 4, 3) := by decide +kernel
theorem dX12_readRule_53 : decode cX12_readRule 53 = .ok (.iconst 0, 1) := by decide +kernel
theorem dX12_readRule_54 : decode cX12_readRule 54 = .ok (.invokevirtual 159, 3) := by decide +kernel
theorem dX12_readRule_57 : decode cX12_readRule 57 = .ok (.aload_n 0, 1) := by decide +kernel
theorem dX12_readRule_58 : decode cX12_readRule 58 = .ok (.getfield 59, 3) := by decide +kernel
theorem dX12_readRule_61 : decode cX12_readRule 61 = .ok (.iload_n 1, 1) := by decide +kernel
theorem dX12_readRule_62 : decode cX12_readRule 62 = .ok (.bipush 8, 2) := by decide +kernel
theorem dX12_readRule_64 : decode cX12_readRule 64 = .ok (.invokestatic 192, 3) := by decide +kernel
theorem dX12_readRule_67 : decode cX12_readRule 67 = .ok (.iload_n 2, 1) := by decide +kernel
theorem dX12_readRule_68 : decode cX12_readRule 68 = .ok (.iastore, 1) := by decide +kernel
theorem dX12_readRule_69 : decode cX12_readRule 69 = .ok (.aload_n 0, 1) := by decide +kernel
theorem dX12_readRule_70 : decode cX12_readRule 70 = .ok (.getfield 56, 3) := by decide +kernel
theorem dX12_readRule_73 : decode cX12_readRule 73 = .ok (.iload_n 1, 1) := by decide +kernel
theorem dX12_readRule_74 : decode cX12_readRule 74 = .ok (.bipush 8, 2) := by decide +kernel
theorem dX12_readRule_76 : decode cX12_readRule 76 = .ok (.invokestatic 192, 3) := by decide +kernel
theorem dX12_readRule_79 : decode cX12_readRule 79 = .ok (.aload_n 0, 1) := by decide +kernel
theorem dX12_readRule_80 : decode cX12_readRule 80 = .ok (.getfield 147, 3) := by decide +kernel
theorem dX12_readRule_83 : decode cX12_readRule 83 = .ok (.iastore, 1) := by decide +kernel
theorem dX12_readRule_84 : decode cX12_readRule 84 = .ok (.aload_n 0, 1) := by decide +kernel
theorem dX12_readRule_85 : decode cX12_readRule 85 = .ok (.getfield 140, 3) := by decide +kernel
theorem dX12_readRule_88 : decode cX12_readRule 88 = .ok (.ifCond .ne 21, 3) := by decide +kernel
theorem dX12_readRule_91 : decode cX12_readRule 91 = .ok (.aload_n 0, 1) := by decide +kernel
theorem dX12_readRule_92 : decode cX12_readRule 92 = .ok (.ldc 195, 2) := by decide +kernel
theorem dX12_readRule_94 : decode cX12_readRule 94 = .ok (.invokevirtual 155, 3) := by decide +kernel
theorem dX12_readRule_97 : decode cX12_readRule 97 = .ok (.ifCond .eq 12, 3) := by decide +kernel
theorem dX12_readRule_100 : decode cX12_readRule 100 = .ok (.aload_n 0, 1) := by decide +kernel
theorem dX12_readRule_101 : decode cX12_readRule 101 = .ok (.iconst 1, 1) := by decide +kernel
theorem dX12_readRule_102 : decode cX12_readRule 102 = .ok (.invokevirtual 159, 3) := by decide +kernel
theorem dX12_readRule_105 : decode cX12_readRule 105 = .ok (.aload_n 0, 1) := by decide +kernel
theorem dX12_readRule_106 : decode cX12_readRule 106 = .ok (.invokevirtual 180, 3) := by decide +kernel
theorem dX12_readRule_109 : decode cX12_readRule 109 = .ok (.aload_n 0, 1) := by decide +kernel
theorem dX12_readRule_110 : decode cX12_readRule 110 = .ok (.getfield 140, 3) := by decide +kernel
theorem dX12_readRule_113 : decode cX12_readRule 113 = .ok (.ifCond .ne 16, 3) := by decide +kernel
theorem dX12_readRule_116 : decode cX12_readRule 116 = .ok (.aload_n 0, 1) := by decide +kernel
theorem dX12_readRule_117 : decode cX12_readRule 117 = .ok (.ldc 197, 2) := by decide +kernel
theorem dX12_readRule_119 : decode cX12_readRule 119 = .ok (.invokevirtual 155, 3) := by decide +kernel
theorem dX12_readRule_122 : decode cX12_readRule 122 = .ok (.ifCond .eq 7, 3) := by decide +kernel
theorem dX12_readRule_125 : decode cX12_readRule 125 = .ok (.iconst 1, 1) := by decide +kernel
theorem dX12_readRule_126 : decode cX12_readRule 126 = .ok (.goto 4, 3) := by decide +kernel
theorem dX12_readRule_129 : decode cX12_readRule 129 = .ok (.iconst 0, 1) := by decide +kernel
theorem dX12_readRule_130 : decode cX12_readRule 130 = .ok (.istore_n 3, 1) := by decide +kernel
theorem dX12_readRule_131 : decode cX12_readRule 131 = .ok (.aload_n 0, 1) := by decide +kernel
theorem dX12_readRule_132 : decode cX12_readRule 132 = .ok (.getfield 140, 3) := by decide +kernel
theorem dX12_readRule_135 : decode cX12_readRule 135 = .ok (.ifCond .ne 16, 3) := by decide +kernel
theorem dX12_readRule_138 : decode cX12_readRule 138 = .ok (.aload_n 0, 1) := by decide +kernel
theorem dX12_readRule_139 : decode cX12_readRule 139 = .ok (.ldc 199, 2) := by decide +kernel
theorem dX12_readRule_141 : decode cX12_readRule 141 = .ok (.invokevirtual 155, 3) := by decide +kernel
theorem dX12_readRule_144 : decode cX12_readRule 144 = .ok (.ifCond .eq 7, 3) := by decide +kernel
theorem dX12_readRule_147 : decode cX12_readRule 147 = .ok (.iconst 1, 1) := by decide +kernel
theorem dX12_readRule_148 : decode cX12_readRule 148 = .ok (.goto 4, 3) := by decide +kernel
theorem dX12_readRule_151 : decode cX12_readRule 151 = .ok (.iconst 0, 1) := by decide +kernel
theorem dX12_readRule_152 : decode cX12_readRule 152 = .ok (.istore 4, 2) := by decide +kernel
theorem dX12_readRule_154 : decode cX12_readRule 154 = .ok (.aload_n 0, 1) := by decide +kernel
theorem dX12_readRule_155 : decode cX12_readRule 155 = .ok (.iload_n 3, 1) := by decide +kernel
theorem dX12_readRule_156 : decode cX12_readRule 156 = .ok (.ifCond .ne 24, 3) := by decide +kernel
theorem dX12_readRule_159 : decode cX12_readRule 159 = .ok (.iload 4, 2) := by decide +kernel
theorem dX12_readRule_161 : decode cX12_readRule 161 = .ok (.ifCond .ne 19, 3) := by decide +kernel
theorem dX12_readRule_164 : decode cX12_readRule 164 = .ok (.aload_n 0, 1) := by decide +kernel
theorem dX12_readRule_165 : decode cX12_readRule 165 = .ok (.getfield 140, 3) := by decide +kernel
theorem dX12_readRule_168 : decode cX12_readRule 168 = .ok (.ifCond .ne 16, 3) := by decide +kernel
theorem dX12_readRule_171 : decode cX12_readRule 171 = .ok (.aload_n 0, 1) := by decide +kernel
theorem dX12_readRule_172 : decode cX12_readRule 172 = .ok (.ldc 201, 2) := by decide +kernel
theorem dX12_readRule_174 : decode cX12_readRule 174 = .ok (.invokevirtual 155, 3) := by decide +kernel
theorem dX12_readRule_177 : decode cX12_readRule 177 = .ok (.ifCond .eq 7, 3) := by decide +kernel
theorem dX12_readRule_180 : decode cX12_readRule 180 = .ok (.iconst 1, 1) := by decide +kernel
theorem dX12_readRule_181 : decode cX12_readRule 181 = .ok (.goto 4, 3) := by decide +kernel
theorem dX12_readRule_184 : decode cX12_readRule 184 = .ok (.iconst 0, 1) := by decide +kernel
theorem dX12_readRule_185 : decode cX12_readRule 185 = .ok (.invokevirtual 159, 3) := by decide +kernel
theorem dX12_readRule_188 : decode cX12_readRule 188 = .ok (.aload_n 0, 1) := by decide +kernel
theorem dX12_readRule_189 : decode cX12_readRule 189 = .ok (.getfield 62, 3) := by decide +kernel
theorem dX12_readRule_192 : decode cX12_readRule 192 = .ok (.iload_n 1, 1) := by decide +kernel
theorem dX12_readRule_193 : decode cX12_readRule 193 = .ok (.bipush 8, 2) := by decide +kernel
theorem dX12_readRule_195 : decode cX12_readRule 195 = .ok (.invokestatic 192, 3) := by decide +kernel
theorem dX12_readRule_198 : decode cX12_readRule 198 = .ok (.iload_n 3, 1) := by decide +kernel
theorem dX12_readRule_199 : decode cX12_readRule 199 = .ok (.ifCond .eq 7, 3) := by decide +kernel
theorem dX12_readRule_202 : decode cX12_readRule 202 = .ok (.iconst 2, 1) := by decide +kernel
theorem dX12_readRule_203 : decode cX12_readRule 203 = .ok (.goto 13, 3) := by decide +kernel
theorem dX12_readRule_206 : decode cX12_readRule 206 = .ok (.iload 4, 2) := by decide +kernel
theorem dX12_readRule_208 : decode cX12_readRule 208 = .ok (.ifCond .eq 7, 3) := by decide +kernel
theorem dX12_readRule_211 : decode cX12_readRule 211 = .ok (.iconst 0, 1) := by decide +kernel
theorem dX12_readRule_212 : decode cX12_readRule 212 = .ok (.goto 4, 3) := by decide +kernel
theorem dX12_readRule_215 : decode cX12_readRule 215 = .ok (.iconst 1, 1) := by decide +kernel
theorem dX12_readRule_216 : decode cX12_readRule 216 = .ok (.iastore, 1) := by decide +kernel
theorem dX12_readRule_217 : decode cX12_readRule 217 = .ok (.iload_n 3, 1) := by decide +kernel
theorem dX12_readRule_218 : decode cX12_readRule 218 = .ok (.ifCond .ne 77, 3) := by decide +kernel
theorem dX12_readRule_221 : decode cX12_readRule 221 = .ok (.aload_n 0, 1) := by decide +kernel
theorem dX12_readRule_222 : decode cX12_readRule 222 = .ok (.getfield 140, 3) := by decide +kernel
theorem dX12_readRule_225 : decode cX12_readRule 225 = .ok (.ifCond .ne 70, 3) := by decide +kernel
theorem dX12_readRule_228 : decode cX12_readRule 228 = .ok (.aload_n 0, 1) := by decide +kernel
theorem dX12_readRule_229 : decode cX12_readRule 229 = .ok (.getfield 65, 3) := by decide +kernel
theorem dX12_readRule_232 : decode cX12_readRule 232 = .ok (.iload_n 1, 1) := by decide +kernel
theorem dX12_readRule_233 : decode cX12_readRule 233 = .ok (.bipush 8, 2) := by decide +kernel
theorem dX12_readRule_235 : decode cX12_readRule 235 = .ok (.invokestatic 192, 3) := by decide +kernel
theorem dX12_readRule_238 : decode cX12_readRule 238 = .ok (.aload_n 0, 1) := by decide +kernel
theorem dX12_readRule_239 : decode cX12_readRule 239 = .ok (.getfield 122, 3) := by decide +kernel
theorem dX12_readRule_242 : decode cX12_readRule 242 = .ok (.iconst 2, 1) := by decide +kernel
theorem dX12_readRule_243 : decode cX12_readRule 243 = .ok (.if_icmp .ne 10, 3) := by decide +kernel
theorem dX12_readRule_246 : decode cX12_readRule 246 = .ok (.aload_n 0, 1) := by decide +kernel
theorem dX12_readRule_247 : decode cX12_readRule 247 = .ok (.invokevirtual 203, 3) := by decide +kernel
theorem dX12_readRule_250 : decode cX12_readRule 250 = .ok (.goto 4, 3) := by decide +kernel
theorem dX12_readRule_253 : decode cX12_readRule 253 = .ok (.iconst 0, 1) := by decide +kernel
theorem dX12_readRule_254 : decode cX12_readRule 254 = .ok (.iastore, 1) := by decide +kernel
theorem dX12_readRule_255 : decode cX12_readRule 255 = .ok (.aload_n 0, 1) := by decide +kernel
theorem dX12_readRule_256 : decode cX12_readRule 256 = .ok (.aload_n 0, 1) := by decide +kernel
theorem dX12_readRule_257 : decode cX12_readRule 257 = .ok (.getfield 122, 3) := by decide +kernel
theorem dX12_readRule_260 : decode cX12_readRule 260 = .ok (.iconst 2, 1) := by decide +kernel
theorem dX12_readRule_261 : decode cX12_readRule 261 = .ok (.if_icmp .ne 30, 3) := by decide +kernel
theorem dX12_readRule_264 : decode cX12_readRule 264 = .ok (.aload_n 0, 1) := by decide +kernel
theorem dX12_readRule_265 : decode cX12_readRule 265 = .ok (.getfield 112, 3) := by decide +kernel
theorem dX12_readRule_268 : decode cX12_readRule 268 = .ok (.aload_n 0, 1) := by decide +kernel
theorem dX12_readRule_269 : decode cX12_readRule 269 = .ok (.getfield 115, 3) := by decide +kernel
theorem dX12_readRule_272 : decode cX12_readRule 272 = .ok (.isub, 1) := by decide +kernel
theorem dX12_readRule_273 : decode cX12_readRule 273 = .ok (.iconst 4, 1) := by decide +kernel
theorem dX12_readRule_274 : decode cX12_readRule 274 = .ok (.if_icmp .gt 17, 3) := by decide +kernel
theorem dX12_readRule_277 : decode cX12_readRule 277 = .ok (.aload_n 0, 1) := by decide +kernel
theorem dX12_readRule_278 : decode cX12_readRule 278 = .ok (.invokevirtual 203, 3) := by decide +kernel
theorem dX12_readRule_281 : decode cX12_readRule 281 = .ok (.sipush 999, 3) := by decide +kernel
theorem dX12_readRule_284 : decode cX12_readRule 284 = .ok (.if_icmp .gt 7, 3) := by decide +kernel
theorem dX12_readRule_287 : decode cX12_readRule 287 = .ok (.iconst 1, 1) := by decide +kernel
theorem dX12_readRule_288 : decode cX12_readRule 288 = .ok (.goto 4, 3) := by decide +kernel
theorem dX12_readRule_291 : decode cX12_readRule 291 = .ok (.iconst 0, 1) := by decide +kernel
theorem dX12_readRule_292 : decode cX12_readRule 292 = .ok (.invokevirtual 159, 3) := by decide +kernel
theorem dX12_readRule_295 : decode cX12_readRule 295 = .ok (.aload_n 0, 1) := by decide +kernel
theorem dX12_readRule_296 : decode cX12_readRule 296 = .ok (.aload_n 0, 1) := by decide +kernel
theorem dX12_readRule_297 : decode cX12_readRule 297 = .ok (.bipush 59, 2) := by decide +kernel
theorem dX12_readRule_299 : decode cX12_readRule 299 = .ok (.invokevirtual 174, 3) := by decide +kernel
theorem dX12_readRule_302 : decode cX12_readRule 302 = .ok (.invokevirtual 159, 3) := by decide +kernel
theorem dX12_readRule_305 : decode cX12_readRule 305 = .ok (.return_, 1) := by decide +kernel
def f_X12_readRule_295 (S : Sh) (R : Rw)  (I : Iw) (a0 : Nat) : Option (Iw) := gp (sok S a0 12 34) (bd (f_X12_isSign S R I a0 (59 : Int32)) (fun r31 => bd (f_X12_must S R I a0 r31) (fun r32 => some r32)))
set_option maxHeartbeats 4000000 in
theorem b_X12_readRule_295 {E : Ev} {p : Program} {l : Launch} {e : Env} {s : State} {m : MethodId} {args : Array Value} {below : List Frame} {meth : Method} {c : Code} (C : Cx E RX12 cX12_readRule 5 p s m c) (hr : meth.sig.returnType = none) (hk : meth.locks = false) {S : Sh} {R : Rw} {r : Iw}  : ∀ (I : Iw) (a0 : Nat), f_X12_readRule_295 S R   I a0 = some r → Wk E 5 p l e ({ frames := 639, cells := 0, slots := 0, locals := 18673 } : Room) s m args below meth c 0 0 (MQ below (Qw E S R r none) args s 0 0 (fun q => E.1 ≤ q)) 295 [(0, .ref (E.1 + a0))] [] S R I := by
  intro I a0 h
  rw [f_X12_readRule_295] at h
  refine k_aloadn (pc := 295) C dX12_readRule_295 (i := 0) rfl 0 rfl ?_
  refine k_aloadn (pc := 296) C dX12_readRule_296 (i := 0) rfl 0 rfl ?_
  refine k_bipush (pc := 297) C (v := (59 : Int32)) dX12_readRule_297 (by decide) ?_
  obtain ⟨hs300, h⟩ := gp_e h
  have hs30 := sok_e hs300
  obtain ⟨r31, hr31, h⟩ := bd_e h
  refine k_V (pc := 299) (st := [.ref (E.1 + a0)]) C (c_X12_isSign hr31) lkV_RX12_174 hs30 rfl rfl rfl (Nat.le_of_ble_eq_true rfl) (Nat.le_of_ble_eq_true rfl) (Nat.le_of_ble_eq_true rfl) (Nat.le_of_ble_eq_true rfl) (Nat.le_of_ble_eq_true rfl) dX12_readRule_299 ?_
  refine k_nf (cells2 := 0) (slots2 := 0) (st2 := [.int r31, .ref (E.1 + a0)]) rfl rfl rfl ?_
  obtain ⟨r32, hr32, h⟩ := bd_e h
  refine k_V (pc := 302) (st := []) C (c_X12_must hr32) lkV_RX12_159 hs30 rfl rfl rfl (Nat.le_of_ble_eq_true rfl) (Nat.le_of_ble_eq_true rfl) (Nat.le_of_ble_eq_true rfl) (Nat.le_of_ble_eq_true rfl) (Nat.le_of_ble_eq_true rfl) dX12_readRule_302 ?_
  refine k_nf (cells2 := 0) (slots2 := 0) (st2 := []) rfl rfl rfl ?_
  have h := Option.some.inj h
  subst h
  exact k_vret (pc := 305) C hr hk dX12_readRule_305
def f_X12_readRule_292 (S : Sh) (R : Rw)  (I : Iw) (a0 : Nat) (s0 : Int32) (q1 : Nat) : Option (Iw) := gp (sok S q1 12 34) (bd (f_X12_must S R I q1 s0) (fun r42 => f_X12_readRule_295 S R  r42 a0))
set_option maxHeartbeats 4000000 in
theorem b_X12_readRule_292 {E : Ev} {p : Program} {l : Launch} {e : Env} {s : State} {m : MethodId} {args : Array Value} {below : List Frame} {meth : Method} {c : Code} (C : Cx E RX12 cX12_readRule 5 p s m c) (hr : meth.sig.returnType = none) (hk : meth.locks = false) {S : Sh} {R : Rw} {r : Iw}  : ∀ (I : Iw) (a0 : Nat) (s0 : Int32) (q1 : Nat), f_X12_readRule_292 S R   I a0 s0 q1 = some r → Wk E 5 p l e ({ frames := 639, cells := 0, slots := 0, locals := 18673 } : Room) s m args below meth c 0 0 (MQ below (Qw E S R r none) args s 0 0 (fun q => E.1 ≤ q)) 292 [(0, .ref (E.1 + a0))] [.int s0, .ref (E.1 + q1)] S R I := by
  intro I a0 s0 q1 h
  rw [f_X12_readRule_292] at h
  obtain ⟨hs410, h⟩ := gp_e h
  have hs41 := sok_e hs410
  obtain ⟨r42, hr42, h⟩ := bd_e h
  refine k_V (pc := 292) (st := []) C (c_X12_must hr42) lkV_RX12_159 hs41 rfl rfl rfl (Nat.le_of_ble_eq_true rfl) (Nat.le_of_ble_eq_true rfl) (Nat.le_of_ble_eq_true rfl) (Nat.le_of_ble_eq_true rfl) (Nat.le_of_ble_eq_true rfl) dX12_readRule_292 ?_
  refine k_nf (cells2 := 0) (slots2 := 0) (st2 := []) rfl rfl rfl ?_
  exact b_X12_readRule_295 C hr hk  _ _ h
def f_X12_readRule_291 (S : Sh) (R : Rw)  (I : Iw) (a0 : Nat) (q0 : Nat) : Option (Iw) := f_X12_readRule_292 S R  I a0 (0 : Int32) q0
set_option maxHeartbeats 4000000 in
theorem b_X12_readRule_291 {E : Ev} {p : Program} {l : Launch} {e : Env} {s : State} {m : MethodId} {args : Array Value} {below : List Frame} {meth : Method} {c : Code} (C : Cx E RX12 cX12_readRule 5 p s m c) (hr : meth.sig.returnType = none) (hk : meth.locks = false) {S : Sh} {R : Rw} {r : Iw}  : ∀ (I : Iw) (a0 : Nat) (q0 : Nat), f_X12_readRule_291 S R   I a0 q0 = some r → Wk E 5 p l e ({ frames := 639, cells := 0, slots := 0, locals := 18673 } : Room) s m args below meth c 0 0 (MQ below (Qw E S R r none) args s 0 0 (fun q => E.1 ≤ q)) 291 [(0, .ref (E.1 + a0))] [.ref (E.1 + q0)] S R I := by
  intro I a0 q0 h
  rw [f_X12_readRule_291] at h
  refine k_iconst (pc := 291) C (v := (0 : Int32)) dX12_readRule_291 (by decide) ?_
  exact b_X12_readRule_292 C hr hk  _ _ _ _ h
def f_X12_readRule_254 (S : Sh) (R : Rw)  (I : Iw) (a0 : Nat) (s0 : Int32) (s1 : Int32) (q2 : Nat) : Option (Iw) := gp (aok S 20 q2 s1) (lt (up2 I q2 s1.toNatClampNeg s0) (fun I38 => gp (sok S a0 12 34) ((if (I38 a0 8) = (2 : Int32) then (if (4 : Int32) < ((I38 a0 7) - (I38 a0 6)) then f_X12_readRule_291 S R  I38 a0 a0 else bd (f_X12_numberAt S R I38 a0) (fun r44 => (if (999 : Int32) < r44 then f_X12_readRule_291 S R  I38 a0 a0 else f_X12_readRule_292 S R  I38 a0 (1 : Int32) a0))) else f_X12_readRule_291 S R  I38 a0 a0))))
set_option maxHeartbeats 4000000 in
theorem b_X12_readRule_254 {E : Ev} {p : Program} {l : Launch} {e : Env} {s : State} {m : MethodId} {args : Array Value} {below : List Frame} {meth : Method} {c : Code} (C : Cx E RX12 cX12_readRule 5 p s m c) (hr : meth.sig.returnType = none) (hk : meth.locks = false) {S : Sh} {R : Rw} {r : Iw}  : ∀ (I : Iw) (a0 : Nat) (s0 : Int32) (s1 : Int32) (q2 : Nat), f_X12_readRule_254 S R   I a0 s0 s1 q2 = some r → Wk E 5 p l e ({ frames := 639, cells := 0, slots := 0, locals := 18673 } : Room) s m args below meth c 0 0 (MQ below (Qw E S R r none) args s 0 0 (fun q => E.1 ≤ q)) 254 [(0, .ref (E.1 + a0))] [.int s0, .int s1, .ref (E.1 + q2)] S R I := by
  intro I a0 s0 s1 q2 h
  rw [f_X12_readRule_254] at h
  obtain ⟨ha37, h⟩ := gp_e h
  obtain ⟨I38, eI38, h⟩ := lt_e h
  refine k_iast (pc := 254) C ha37 dX12_readRule_254 ?_
  rw [← eI38]
  refine k_aloadn (pc := 255) C dX12_readRule_255 (i := 0) rfl 0 rfl ?_
  refine k_aloadn (pc := 256) C dX12_readRule_256 (i := 0) rfl 0 rfl ?_
  obtain ⟨hs390, h⟩ := gp_e h
  have hs39 := sok_e hs390
  refine k_getI (pc := 257) C lkF_RX12_122_12 hs39 ir_12_8 dX12_readRule_257 ?_
  refine k_iconst (pc := 260) C (v := (2 : Int32)) dX12_readRule_260 (by decide) ?_
  refine k_icmp_ne (pc := 261) C dX12_readRule_261 (tgt := 291) (by decide) (fun hc40 => ?_) (fun hc40 => ?_)
  · rw [if_neg hc40] at h
    exact b_X12_readRule_291 C hr hk  _ _ _ h
  · rw [if_pos hc40] at h
    refine k_aloadn (pc := 264) C dX12_readRule_264 (i := 0) rfl 0 rfl ?_
    refine k_getI (pc := 265) C lkF_RX12_112_12 hs39 ir_12_7 dX12_readRule_265 ?_
    refine k_aloadn (pc := 268) C dX12_readRule_268 (i := 0) rfl 0 rfl ?_
    refine k_getI (pc := 269) C lkF_RX12_115_12 hs39 ir_12_6 dX12_readRule_269 ?_
    refine k_isub (pc := 272) C dX12_readRule_272 ?_
    refine k_iconst (pc := 273) C (v := (4 : Int32)) dX12_readRule_273 (by decide) ?_
    refine k_icmp_gt (pc := 274) C dX12_readRule_274 (tgt := 291) (by decide) (fun hc43 => ?_) (fun hc43 => ?_)
    · rw [if_pos hc43] at h
      exact b_X12_readRule_291 C hr hk  _ _ _ h
    · rw [if_neg hc43] at h
      refine k_aloadn (pc := 277) C dX12_readRule_277 (i := 0) rfl 0 rfl ?_
      obtain ⟨r44, hr44, h⟩ := bd_e h
      refine k_V (pc := 278) (st := [.ref (E.1 + a0)]) C (c_X12_numberAt hr44) lkV_RX12_203 hs39 rfl rfl rfl (Nat.le_of_ble_eq_true rfl) (Nat.le_of_ble_eq_true rfl) (Nat.le_of_ble_eq_true rfl) (Nat.le_of_ble_eq_true rfl) (Nat.le_of_ble_eq_true rfl) dX12_readRule_278 ?_
      refine k_nf (cells2 := 0) (slots2 := 0) (st2 := [.int r44, .ref (E.1 + a0)]) rfl rfl rfl ?_
      refine k_sipush (pc := 281) C (v := (999 : Int32)) dX12_readRule_281 (by decide) ?_
      refine k_icmp_gt (pc := 284) C dX12_readRule_284 (tgt := 291) (by decide) (fun hc45 => ?_) (fun hc45 => ?_)
      · rw [if_pos hc45] at h
        exact b_X12_readRule_291 C hr hk  _ _ _ h
      · rw [if_neg hc45] at h
        refine k_iconst (pc := 287) C (v := (1 : Int32)) dX12_readRule_287 (by decide) ?_
        refine k_goto (pc := 288) C dX12_readRule_288 (tgt := 292) (by decide) ?_
        exact b_X12_readRule_292 C hr hk  _ _ _ _ h
def f_X12_readRule_216 (S : Sh) (R : Rw)  (I : Iw) (a0 : Nat) (x1 : Int32) (x3 : Int32) (s0 : Int32) (s1 : Int32) (q2 : Nat) : Option (Iw) := gp (aok S 20 q2 s1) (lt (up2 I q2 s1.toNatClampNeg s0) (fun I28 => (if x3 = 0 then gp (sok S a0 12 34) ((if (I28 a0 9) = 0 then rl (R a0 18) (fun b35 => (if (I28 a0 8) = (2 : Int32) then bd (f_X12_numberAt S R I28 a0) (fun r46 => f_X12_readRule_254 S R  I28 a0 r46 (jmin x1 (8 : Int32)) b35) else f_X12_readRule_254 S R  I28 a0 (0 : Int32) (jmin x1 (8 : Int32)) b35)) else f_X12_readRule_295 S R  I28 a0)) else f_X12_readRule_295 S R  I28 a0)))
set_option maxHeartbeats 4000000 in
theorem b_X12_readRule_216 {E : Ev} {p : Program} {l : Launch} {e : Env} {s : State} {m : MethodId} {args : Array Value} {below : List Frame} {meth : Method} {c : Code} (C : Cx E RX12 cX12_readRule 5 p s m c) (hr : meth.sig.returnType = none) (hk : meth.locks = false) {S : Sh} {R : Rw} {r : Iw}  : ∀ (I : Iw) (a0 : Nat) (x1 : Int32) (x3 : Int32) (s0 : Int32) (s1 : Int32) (q2 : Nat), f_X12_readRule_216 S R   I a0 x1 x3 s0 s1 q2 = some r → Wk E 5 p l e ({ frames := 639, cells := 0, slots := 0, locals := 18673 } : Room) s m args below meth c 0 0 (MQ below (Qw E S R r none) args s 0 0 (fun q => E.1 ≤ q)) 216 [(0, .ref (E.1 + a0)), (1, .int x1), (3, .int x3)] [.int s0, .int s1, .ref (E.1 + q2)] S R I := by
  intro I a0 x1 x3 s0 s1 q2 h
  rw [f_X12_readRule_216] at h
  obtain ⟨ha27, h⟩ := gp_e h
  obtain ⟨I28, eI28, h⟩ := lt_e h
  refine k_iast (pc := 216) C ha27 dX12_readRule_216 ?_
  rw [← eI28]
  refine k_iloadn (pc := 217) C dX12_readRule_217 (i := 3) rfl 2 rfl ?_
  refine k_if_ne (pc := 218) C dX12_readRule_218 (tgt := 295) (by decide) (fun hc29 => ?_) (fun hc29 => ?_)
  · rw [if_neg hc29] at h
    refine k_loc (L2 := [(0, .ref (E.1 + a0))]) [0] rfl ?_
    exact b_X12_readRule_295 C hr hk  _ _ h
  · rw [if_pos hc29] at h
    refine k_aloadn (pc := 221) C dX12_readRule_221 (i := 0) rfl 0 rfl ?_
    obtain ⟨hs330, h⟩ := gp_e h
    have hs33 := sok_e hs330
    refine k_getI (pc := 222) C lkF_RX12_140_12 hs33 ir_12_9 dX12_readRule_222 ?_
    refine k_if_ne (pc := 225) C dX12_readRule_225 (tgt := 295) (by decide) (fun hc34 => ?_) (fun hc34 => ?_)
    · rw [if_neg hc34] at h
      refine k_loc (L2 := [(0, .ref (E.1 + a0))]) [0] rfl ?_
      exact b_X12_readRule_295 C hr hk  _ _ h
    · rw [if_pos hc34] at h
      refine k_aloadn (pc := 228) C dX12_readRule_228 (i := 0) rfl 0 rfl ?_
      obtain ⟨b35, hb35, h⟩ := rl_e h
      refine k_getR (pc := 229) C lkF_RX12_65_12 hs33 ir_12_18 hb35 dX12_readRule_229 ?_
      refine k_iloadn (pc := 232) C dX12_readRule_232 (i := 1) rfl 1 rfl ?_
      refine k_bipush (pc := 233) C (v := (8 : Int32)) dX12_readRule_233 (by decide) ?_
      refine k_mmin (pc := 235) (st := [.ref (E.1 + b35)]) C (t5_in 224 (by decide +kernel) rfl) (Nat.le_of_ble_eq_true rfl) (Nat.le_of_ble_eq_true rfl) (Nat.le_of_ble_eq_true rfl) (Nat.le_of_ble_eq_true rfl) (Nat.le_of_ble_eq_true rfl) dX12_readRule_235 ?_
      refine k_aloadn (pc := 238) C dX12_readRule_238 (i := 0) rfl 0 rfl ?_
      refine k_getI (pc := 239) C lkF_RX12_122_12 hs33 ir_12_8 dX12_readRule_239 ?_
      refine k_iconst (pc := 242) C (v := (2 : Int32)) dX12_readRule_242 (by decide) ?_
      refine k_icmp_ne (pc := 243) C dX12_readRule_243 (tgt := 253) (by decide) (fun hc36 => ?_) (fun hc36 => ?_)
      · rw [if_neg hc36] at h
        refine k_iconst (pc := 253) C (v := (0 : Int32)) dX12_readRule_253 (by decide) ?_
        refine k_loc (L2 := [(0, .ref (E.1 + a0))]) [0] rfl ?_
        exact b_X12_readRule_254 C hr hk  _ _ _ _ _ h
      · rw [if_pos hc36] at h
        refine k_aloadn (pc := 246) C dX12_readRule_246 (i := 0) rfl 0 rfl ?_
        obtain ⟨r46, hr46, h⟩ := bd_e h
        refine k_V (pc := 247) (st := [.int (jmin x1 (8 : Int32)), .ref (E.1 + b35)]) C (c_X12_numberAt hr46) lkV_RX12_203 hs33 rfl rfl rfl (Nat.le_of_ble_eq_true rfl) (Nat.le_of_ble_eq_true rfl) (Nat.le_of_ble_eq_true rfl) (Nat.le_of_ble_eq_true rfl) (Nat.le_of_ble_eq_true rfl) dX12_readRule_247 ?_
        refine k_nf (cells2 := 0) (slots2 := 0) (st2 := [.int r46, .int (jmin x1 (8 : Int32)), .ref (E.1 + b35)]) rfl rfl rfl ?_
        refine k_goto (pc := 250) C dX12_readRule_250 (tgt := 254) (by decide) ?_
        refine k_loc (L2 := [(0, .ref (E.1 + a0))]) [0] rfl ?_
        exact b_X12_readRule_254 C hr hk  _ _ _ _ _ h
def f_X12_readRule_185 (S : Sh) (R : Rw)  (I : Iw) (a0 : Nat) (x1 : Int32) (x3 : Int32) (x4 : Int32) (s0 : Int32) (q1 : Nat) : Option (Iw) := gp (sok S q1 12 34) (bd (f_X12_must S R I q1 s0) (fun r22 => gp (sok S a0 12 34) (rl (R a0 17) (fun b24 => (if x3 = 0 then (if x4 = 0 then f_X12_readRule_216 S R  r22 a0 x1 x3 (1 : Int32) (jmin x1 (8 : Int32)) b24 else f_X12_readRule_216 S R  r22 a0 x1 x3 (0 : Int32) (jmin x1 (8 : Int32)) b24) else f_X12_readRule_216 S R  r22 a0 x1 x3 (2 : Int32) (jmin x1 (8 : Int32)) b24)))))
set_option maxHeartbeats 4000000 in
theorem b_X12_readRule_185 {E : Ev} {p : Program} {l : Launch} {e : Env} {s : State} {m : MethodId} {args : Array Value} {below : List Frame} {meth : Method} {c : Code} (C : Cx E RX12 cX12_readRule 5 p s m c) (hr : meth.sig.returnType = none) (hk : meth.locks = false) {S : Sh} {R : Rw} {r : Iw}  : ∀ (I : Iw) (a0 : Nat) (x1 : Int32) (x3 : Int32) (x4 : Int32) (s0 : Int32) (q1 : Nat), f_X12_readRule_185 S R   I a0 x1 x3 x4 s0 q1 = some r → Wk E 5 p l e ({ frames := 639, cells := 0, slots := 0, locals := 18673 } : Room) s m args below meth c 0 0 (MQ below (Qw E S R r none) args s 0 0 (fun q => E.1 ≤ q)) 185 [(0, .ref (E.1 + a0)), (1, .int x1), (3, .int x3), (4, .int x4)] [.int s0, .ref (E.1 + q1)] S R I := by
  intro I a0 x1 x3 x4 s0 q1 h
  rw [f_X12_readRule_185] at h
  obtain ⟨hs210, h⟩ := gp_e h
  have hs21 := sok_e hs210
  obtain ⟨r22, hr22, h⟩ := bd_e h
  refine k_V (pc := 185) (st := []) C (c_X12_must hr22) lkV_RX12_159 hs21 rfl rfl rfl (Nat.le_of_ble_eq_true rfl) (Nat.le_of_ble_eq_true rfl) (Nat.le_of_ble_eq_true rfl) (Nat.le_of_ble_eq_true rfl) (Nat.le_of_ble_eq_true rfl) dX12_readRule_185 ?_
  refine k_nf (cells2 := 0) (slots2 := 0) (st2 := []) rfl rfl rfl ?_
  refine k_aloadn (pc := 188) C dX12_readRule_188 (i := 0) rfl 0 rfl ?_
  obtain ⟨hs230, h⟩ := gp_e h
  have hs23 := sok_e hs230
  obtain ⟨b24, hb24, h⟩ := rl_e h
  refine k_getR (pc := 189) C lkF_RX12_62_12 hs23 ir_12_17 hb24 dX12_readRule_189 ?_
  refine k_iloadn (pc := 192) C dX12_readRule_192 (i := 1) rfl 1 rfl ?_
  refine k_bipush (pc := 193) C (v := (8 : Int32)) dX12_readRule_193 (by decide) ?_
  refine k_mmin (pc := 195) (st := [.ref (E.1 + b24)]) C (t5_in 224 (by decide +kernel) rfl) (Nat.le_of_ble_eq_true rfl) (Nat.le_of_ble_eq_true rfl) (Nat.le_of_ble_eq_true rfl) (Nat.le_of_ble_eq_true rfl) (Nat.le_of_ble_eq_true rfl) dX12_readRule_195 ?_
  refine k_iloadn (pc := 198) C dX12_readRule_198 (i := 3) rfl 2 rfl ?_
  refine k_if_eq (pc := 199) C dX12_readRule_199 (tgt := 206) (by decide) (fun hc25 => ?_) (fun hc25 => ?_)
  · rw [if_pos hc25] at h
    refine k_iload (pc := 206) C dX12_readRule_206 3 rfl ?_
    refine k_if_eq (pc := 208) C dX12_readRule_208 (tgt := 215) (by decide) (fun hc26 => ?_) (fun hc26 => ?_)
    · rw [if_pos hc26] at h
      refine k_iconst (pc := 215) C (v := (1 : Int32)) dX12_readRule_215 (by decide) ?_
      refine k_loc (L2 := [(0, .ref (E.1 + a0)), (1, .int x1), (3, .int x3)]) [0, 1, 2] rfl ?_
      exact b_X12_readRule_216 C hr hk  _ _ _ _ _ _ _ h
    · rw [if_neg hc26] at h
      refine k_iconst (pc := 211) C (v := (0 : Int32)) dX12_readRule_211 (by decide) ?_
      refine k_goto (pc := 212) C dX12_readRule_212 (tgt := 216) (by decide) ?_
      refine k_loc (L2 := [(0, .ref (E.1 + a0)), (1, .int x1), (3, .int x3)]) [0, 1, 2] rfl ?_
      exact b_X12_readRule_216 C hr hk  _ _ _ _ _ _ _ h
  · rw [if_neg hc25] at h
    refine k_iconst (pc := 202) C (v := (2 : Int32)) dX12_readRule_202 (by decide) ?_
    refine k_goto (pc := 203) C dX12_readRule_203 (tgt := 216) (by decide) ?_
    refine k_loc (L2 := [(0, .ref (E.1 + a0)), (1, .int x1), (3, .int x3)]) [0, 1, 2] rfl ?_
    exact b_X12_readRule_216 C hr hk  _ _ _ _ _ _ _ h
def f_X12_readRule_180 (S : Sh) (R : Rw)  (I : Iw) (a0 : Nat) (x1 : Int32) (x3 : Int32) (x4 : Int32) (q0 : Nat) : Option (Iw) := f_X12_readRule_185 S R  I a0 x1 x3 x4 (1 : Int32) q0
set_option maxHeartbeats 4000000 in
theorem b_X12_readRule_180 {E : Ev} {p : Program} {l : Launch} {e : Env} {s : State} {m : MethodId} {args : Array Value} {below : List Frame} {meth : Method} {c : Code} (C : Cx E RX12 cX12_readRule 5 p s m c) (hr : meth.sig.returnType = none) (hk : meth.locks = false) {S : Sh} {R : Rw} {r : Iw}  : ∀ (I : Iw) (a0 : Nat) (x1 : Int32) (x3 : Int32) (x4 : Int32) (q0 : Nat), f_X12_readRule_180 S R   I a0 x1 x3 x4 q0 = some r → Wk E 5 p l e ({ frames := 639, cells := 0, slots := 0, locals := 18673 } : Room) s m args below meth c 0 0 (MQ below (Qw E S R r none) args s 0 0 (fun q => E.1 ≤ q)) 180 [(0, .ref (E.1 + a0)), (1, .int x1), (3, .int x3), (4, .int x4)] [.ref (E.1 + q0)] S R I := by
  intro I a0 x1 x3 x4 q0 h
  rw [f_X12_readRule_180] at h
  refine k_iconst (pc := 180) C (v := (1 : Int32)) dX12_readRule_180 (by decide) ?_
  refine k_goto (pc := 181) C dX12_readRule_181 (tgt := 185) (by decide) ?_
  exact b_X12_readRule_185 C hr hk  _ _ _ _ _ _ _ h
def f_X12_readRule_184 (S : Sh) (R : Rw)  (I : Iw) (a0 : Nat) (x1 : Int32) (x3 : Int32) (x4 : Int32) (q0 : Nat) : Option (Iw) := f_X12_readRule_185 S R  I a0 x1 x3 x4 (0 : Int32) q0
set_option maxHeartbeats 4000000 in
theorem b_X12_readRule_184 {E : Ev} {p : Program} {l : Launch} {e : Env} {s : State} {m : MethodId} {args : Array Value} {below : List Frame} {meth : Method} {c : Code} (C : Cx E RX12 cX12_readRule 5 p s m c) (hr : meth.sig.returnType = none) (hk : meth.locks = false) {S : Sh} {R : Rw} {r : Iw}  : ∀ (I : Iw) (a0 : Nat) (x1 : Int32) (x3 : Int32) (x4 : Int32) (q0 : Nat), f_X12_readRule_184 S R   I a0 x1 x3 x4 q0 = some r → Wk E 5 p l e ({ frames := 639, cells := 0, slots := 0, locals := 18673 } : Room) s m args below meth c 0 0 (MQ below (Qw E S R r none) args s 0 0 (fun q => E.1 ≤ q)) 184 [(0, .ref (E.1 + a0)), (1, .int x1), (3, .int x3), (4, .int x4)] [.ref (E.1 + q0)] S R I := by
  intro I a0 x1 x3 x4 q0 h
  rw [f_X12_readRule_184] at h
  refine k_iconst (pc := 184) C (v := (0 : Int32)) dX12_readRule_184 (by decide) ?_
  exact b_X12_readRule_185 C hr hk  _ _ _ _ _ _ _ h
def f_X12_readRule_152 (S : Sh) (R : Rw)  (I : Iw) (a0 : Nat) (x1 : Int32) (x3 : Int32) (s0 : Int32) : Option (Iw) := (if x3 = 0 then (if s0 = 0 then gp (sok S a0 12 34) ((if (I a0 9) = 0 then bd (f_X12_isWord S R I a0 18) (fun r50 => (if r50 = 0 then f_X12_readRule_184 S R  I a0 x1 x3 s0 a0 else f_X12_readRule_180 S R  I a0 x1 x3 s0 a0)) else f_X12_readRule_184 S R  I a0 x1 x3 s0 a0)) else f_X12_readRule_180 S R  I a0 x1 x3 s0 a0) else f_X12_readRule_180 S R  I a0 x1 x3 s0 a0)
set_option maxHeartbeats 4000000 in
theorem b_X12_readRule_152 {E : Ev} {p : Program} {l : Launch} {e : Env} {s : State} {m : MethodId} {args : Array Value} {below : List Frame} {meth : Method} {c : Code} (C : Cx E RX12 cX12_readRule 5 p s m c) (hr : meth.sig.returnType = none) (hk : meth.locks = false) {S : Sh} {R : Rw} {r : Iw}  : ∀ (I : Iw) (a0 : Nat) (x1 : Int32) (x3 : Int32) (s0 : Int32), f_X12_readRule_152 S R   I a0 x1 x3 s0 = some r → Wk E 5 p l e ({ frames := 639, cells := 0, slots := 0, locals := 18673 } : Room) s m args below meth c 0 0 (MQ below (Qw E S R r none) args s 0 0 (fun q => E.1 ≤ q)) 152 [(0, .ref (E.1 + a0)), (1, .int x1), (3, .int x3)] [.int s0] S R I := by
  intro I a0 x1 x3 s0 h
  rw [f_X12_readRule_152] at h
  refine k_istore (pc := 152) C dX12_readRule_152 (by decide) (L2 := [(0, .ref (E.1 + a0)), (1, .int x1), (3, .int x3), (4, .int s0)]) rfl ?_
  refine k_aloadn (pc := 154) C dX12_readRule_154 (i := 0) rfl 0 rfl ?_
  refine k_iloadn (pc := 155) C dX12_readRule_155 (i := 3) rfl 2 rfl ?_
  refine k_if_ne (pc := 156) C dX12_readRule_156 (tgt := 180) (by decide) (fun hc20 => ?_) (fun hc20 => ?_)
  · rw [if_neg hc20] at h
    exact b_X12_readRule_180 C hr hk  _ _ _ _ _ _ h
  · rw [if_pos hc20] at h
    refine k_iload (pc := 159) C dX12_readRule_159 3 rfl ?_
    refine k_if_ne (pc := 161) C dX12_readRule_161 (tgt := 180) (by decide) (fun hc47 => ?_) (fun hc47 => ?_)
    · rw [if_neg hc47] at h
      exact b_X12_readRule_180 C hr hk  _ _ _ _ _ _ h
    · rw [if_pos hc47] at h
      refine k_aloadn (pc := 164) C dX12_readRule_164 (i := 0) rfl 0 rfl ?_
      obtain ⟨hs480, h⟩ := gp_e h
      have hs48 := sok_e hs480
      refine k_getI (pc := 165) C lkF_RX12_140_12 hs48 ir_12_9 dX12_readRule_165 ?_
      refine k_if_ne (pc := 168) C dX12_readRule_168 (tgt := 184) (by decide) (fun hc49 => ?_) (fun hc49 => ?_)
      · rw [if_neg hc49] at h
        exact b_X12_readRule_184 C hr hk  _ _ _ _ _ _ h
      · rw [if_pos hc49] at h
        refine k_aloadn (pc := 171) C dX12_readRule_171 (i := 0) rfl 0 rfl ?_
        refine k_ldcS (pc := 172) C (i := 18) rfl dX12_readRule_172 ?_
        obtain ⟨r50, hr50, h⟩ := bd_e h
        refine k_V (pc := 174) (st := [.ref (E.1 + a0)]) C (c_X12_isWord hr50) lkV_RX12_155 hs48 rfl rfl rfl (Nat.le_of_ble_eq_true rfl) (Nat.le_of_ble_eq_true rfl) (Nat.le_of_ble_eq_true rfl) (Nat.le_of_ble_eq_true rfl) (Nat.le_of_ble_eq_true rfl) dX12_readRule_174 ?_
        refine k_nf (cells2 := 0) (slots2 := 0) (st2 := [.int r50, .ref (E.1 + a0)]) rfl rfl rfl ?_
        refine k_if_eq (pc := 177) C dX12_readRule_177 (tgt := 184) (by decide) (fun hc51 => ?_) (fun hc51 => ?_)
        · rw [if_pos hc51] at h
          exact b_X12_readRule_184 C hr hk  _ _ _ _ _ _ h
        · rw [if_neg hc51] at h
          exact b_X12_readRule_180 C hr hk  _ _ _ _ _ _ h
def f_X12_readRule_151 (S : Sh) (R : Rw)  (I : Iw) (a0 : Nat) (x1 : Int32) (x3 : Int32) : Option (Iw) := f_X12_readRule_152 S R  I a0 x1 x3 (0 : Int32)
set_option maxHeartbeats 4000000 in
theorem b_X12_readRule_151 {E : Ev} {p : Program} {l : Launch} {e : Env} {s : State} {m : MethodId} {args : Array Value} {below : List Frame} {meth : Method} {c : Code} (C : Cx E RX12 cX12_readRule 5 p s m c) (hr : meth.sig.returnType = none) (hk : meth.locks = false) {S : Sh} {R : Rw} {r : Iw}  : ∀ (I : Iw) (a0 : Nat) (x1 : Int32) (x3 : Int32), f_X12_readRule_151 S R   I a0 x1 x3 = some r → Wk E 5 p l e ({ frames := 639, cells := 0, slots := 0, locals := 18673 } : Room) s m args below meth c 0 0 (MQ below (Qw E S R r none) args s 0 0 (fun q => E.1 ≤ q)) 151 [(0, .ref (E.1 + a0)), (1, .int x1), (3, .int x3)] [] S R I := by
  intro I a0 x1 x3 h
  rw [f_X12_readRule_151] at h
  refine k_iconst (pc := 151) C (v := (0 : Int32)) dX12_readRule_151 (by decide) ?_
  exact b_X12_readRule_152 C hr hk  _ _ _ _ _ h
def f_X12_readRule_130 (S : Sh) (R : Rw)  (I : Iw) (a0 : Nat) (x1 : Int32) (s0 : Int32) : Option (Iw) := gp (sok S a0 12 34) ((if (I a0 9) = 0 then bd (f_X12_isWord S R I a0 17) (fun r52 => (if r52 = 0 then f_X12_readRule_151 S R  I a0 x1 s0 else f_X12_readRule_152 S R  I a0 x1 s0 (1 : Int32))) else f_X12_readRule_151 S R  I a0 x1 s0))
set_option maxHeartbeats 4000000 in
theorem b_X12_readRule_130 {E : Ev} {p : Program} {l : Launch} {e : Env} {s : State} {m : MethodId} {args : Array Value} {below : List Frame} {meth : Method} {c : Code} (C : Cx E RX12 cX12_readRule 5 p s m c) (hr : meth.sig.returnType = none) (hk : meth.locks = false) {S : Sh} {R : Rw} {r : Iw}  : ∀ (I : Iw) (a0 : Nat) (x1 : Int32) (s0 : Int32), f_X12_readRule_130 S R   I a0 x1 s0 = some r → Wk E 5 p l e ({ frames := 639, cells := 0, slots := 0, locals := 18673 } : Room) s m args below meth c 0 0 (MQ below (Qw E S R r none) args s 0 0 (fun q => E.1 ≤ q)) 130 [(0, .ref (E.1 + a0)), (1, .int x1)] [.int s0] S R I := by
  intro I a0 x1 s0 h
  rw [f_X12_readRule_130] at h
  refine k_istoren (pc := 130) C dX12_readRule_130 (i := 3) rfl (by decide) (L2 := [(0, .ref (E.1 + a0)), (1, .int x1), (3, .int s0)]) rfl ?_
  refine k_aloadn (pc := 131) C dX12_readRule_131 (i := 0) rfl 0 rfl ?_
  obtain ⟨hs180, h⟩ := gp_e h
  have hs18 := sok_e hs180
  refine k_getI (pc := 132) C lkF_RX12_140_12 hs18 ir_12_9 dX12_readRule_132 ?_
  refine k_if_ne (pc := 135) C dX12_readRule_135 (tgt := 151) (by decide) (fun hc19 => ?_) (fun hc19 => ?_)
  · rw [if_neg hc19] at h
    exact b_X12_readRule_151 C hr hk  _ _ _ _ h
  · rw [if_pos hc19] at h
    refine k_aloadn (pc := 138) C dX12_readRule_138 (i := 0) rfl 0 rfl ?_
    refine k_ldcS (pc := 139) C (i := 17) rfl dX12_readRule_139 ?_
    obtain ⟨r52, hr52, h⟩ := bd_e h
    refine k_V (pc := 141) (st := []) C (c_X12_isWord hr52) lkV_RX12_155 hs18 rfl rfl rfl (Nat.le_of_ble_eq_true rfl) (Nat.le_of_ble_eq_true rfl) (Nat.le_of_ble_eq_true rfl) (Nat.le_of_ble_eq_true rfl) (Nat.le_of_ble_eq_true rfl) dX12_readRule_141 ?_
    refine k_nf (cells2 := 0) (slots2 := 0) (st2 := [.int r52]) rfl rfl rfl ?_
    refine k_if_eq (pc := 144) C dX12_readRule_144 (tgt := 151) (by decide) (fun hc53 => ?_) (fun hc53 => ?_)
    · rw [if_pos hc53] at h
      exact b_X12_readRule_151 C hr hk  _ _ _ _ h
    · rw [if_neg hc53] at h
      refine k_iconst (pc := 147) C (v := (1 : Int32)) dX12_readRule_147 (by decide) ?_
      refine k_goto (pc := 148) C dX12_readRule_148 (tgt := 152) (by decide) ?_
      exact b_X12_readRule_152 C hr hk  _ _ _ _ _ h
def f_X12_readRule_129 (S : Sh) (R : Rw)  (I : Iw) (a0 : Nat) (x1 : Int32) : Option (Iw) := f_X12_readRule_130 S R  I a0 x1 (0 : Int32)
set_option maxHeartbeats 4000000 in
theorem b_X12_readRule_129 {E : Ev} {p : Program} {l : Launch} {e : Env} {s : State} {m : MethodId} {args : Array Value} {below : List Frame} {meth : Method} {c : Code} (C : Cx E RX12 cX12_readRule 5 p s m c) (hr : meth.sig.returnType = none) (hk : meth.locks = false) {S : Sh} {R : Rw} {r : Iw}  : ∀ (I : Iw) (a0 : Nat) (x1 : Int32), f_X12_readRule_129 S R   I a0 x1 = some r → Wk E 5 p l e ({ frames := 639, cells := 0, slots := 0, locals := 18673 } : Room) s m args below meth c 0 0 (MQ below (Qw E S R r none) args s 0 0 (fun q => E.1 ≤ q)) 129 [(0, .ref (E.1 + a0)), (1, .int x1)] [] S R I := by
  intro I a0 x1 h
  rw [f_X12_readRule_129] at h
  refine k_iconst (pc := 129) C (v := (0 : Int32)) dX12_readRule_129 (by decide) ?_
  exact b_X12_readRule_130 C hr hk  _ _ _ _ h
def f_X12_readRule_109 (S : Sh) (R : Rw)  (I : Iw) (a0 : Nat) (x1 : Int32) : Option (Iw) := gp (sok S a0 12 34) ((if (I a0 9) = 0 then bd (f_X12_isWord S R I a0 16) (fun r54 => (if r54 = 0 then f_X12_readRule_129 S R  I a0 x1 else f_X12_readRule_130 S R  I a0 x1 (1 : Int32))) else f_X12_readRule_129 S R  I a0 x1))
set_option maxHeartbeats 4000000 in
theorem b_X12_readRule_109 {E : Ev} {p : Program} {l : Launch} {e : Env} {s : State} {m : MethodId} {args : Array Value} {below : List Frame} {meth : Method} {c : Code} (C : Cx E RX12 cX12_readRule 5 p s m c) (hr : meth.sig.returnType = none) (hk : meth.locks = false) {S : Sh} {R : Rw} {r : Iw}  : ∀ (I : Iw) (a0 : Nat) (x1 : Int32), f_X12_readRule_109 S R   I a0 x1 = some r → Wk E 5 p l e ({ frames := 639, cells := 0, slots := 0, locals := 18673 } : Room) s m args below meth c 0 0 (MQ below (Qw E S R r none) args s 0 0 (fun q => E.1 ≤ q)) 109 [(0, .ref (E.1 + a0)), (1, .int x1)] [] S R I := by
  intro I a0 x1 h
  rw [f_X12_readRule_109] at h
  refine k_aloadn (pc := 109) C dX12_readRule_109 (i := 0) rfl 0 rfl ?_
  obtain ⟨hs160, h⟩ := gp_e h
  have hs16 := sok_e hs160
  refine k_getI (pc := 110) C lkF_RX12_140_12 hs16 ir_12_9 dX12_readRule_110 ?_
  refine k_if_ne (pc := 113) C dX12_readRule_113 (tgt := 129) (by decide) (fun hc17 => ?_) (fun hc17 => ?_)
  · rw [if_neg hc17] at h
    exact b_X12_readRule_129 C hr hk  _ _ _ h
  · rw [if_pos hc17] at h
    refine k_aloadn (pc := 116) C dX12_readRule_116 (i := 0) rfl 0 rfl ?_
    refine k_ldcS (pc := 117) C (i := 16) rfl dX12_readRule_117 ?_
    obtain ⟨r54, hr54, h⟩ := bd_e h
    refine k_V (pc := 119) (st := []) C (c_X12_isWord hr54) lkV_RX12_155 hs16 rfl rfl rfl (Nat.le_of_ble_eq_true rfl) (Nat.le_of_ble_eq_true rfl) (Nat.le_of_ble_eq_true rfl) (Nat.le_of_ble_eq_true rfl) (Nat.le_of_ble_eq_true rfl) dX12_readRule_119 ?_
    refine k_nf (cells2 := 0) (slots2 := 0) (st2 := [.int r54]) rfl rfl rfl ?_
    refine k_if_eq (pc := 122) C dX12_readRule_122 (tgt := 129) (by decide) (fun hc55 => ?_) (fun hc55 => ?_)
    · rw [if_pos hc55] at h
      exact b_X12_readRule_129 C hr hk  _ _ _ h
    · rw [if_neg hc55] at h
      refine k_iconst (pc := 125) C (v := (1 : Int32)) dX12_readRule_125 (by decide) ?_
      refine k_goto (pc := 126) C dX12_readRule_126 (tgt := 130) (by decide) ?_
      exact b_X12_readRule_130 C hr hk  _ _ _ _ h
def f_X12_readRule_54 (S : Sh) (R : Rw)  (I : Iw) (a0 : Nat) (x1 : Int32) (x2 : Int32) (s0 : Int32) (q1 : Nat) : Option (Iw) := gp (sok S q1 12 34) (bd (f_X12_must S R I q1 s0) (fun r7 => gp (sok S a0 12 34) (rl (R a0 16) (fun b9 => gp (aok S 20 b9 (jmin x1 (8 : Int32))) (lt (up2 r7 b9 (jmin x1 (8 : Int32)).toNatClampNeg x2) (fun I11 => rl (R a0 15) (fun b12 => gp (aok S 20 b12 (jmin x1 (8 : Int32))) (lt (up2 I11 b12 (jmin x1 (8 : Int32)).toNatClampNeg (I11 a0 12)) (fun I14 => (if (I14 a0 9) = 0 then bd (f_X12_isWord S R I14 a0 12) (fun r56 => (if r56 = 0 then f_X12_readRule_109 S R  I14 a0 x1 else bd (f_X12_must S R I14 a0 (1 : Int32)) (fun r58 => bd (f_X12_condition (f_X12_one 70) S R r58 a0) (fun r59 => f_X12_readRule_109 S R  r59 a0 x1)))) else f_X12_readRule_109 S R  I14 a0 x1))))))))))
set_option maxHeartbeats 4000000 in
theorem b_X12_readRule_54 {E : Ev} {p : Program} {l : Launch} {e : Env} {s : State} {m : MethodId} {args : Array Value} {below : List Frame} {meth : Method} {c : Code} (C : Cx E RX12 cX12_readRule 5 p s m c) (hr : meth.sig.returnType = none) (hk : meth.locks = false) {S : Sh} {R : Rw} {r : Iw}  : ∀ (I : Iw) (a0 : Nat) (x1 : Int32) (x2 : Int32) (s0 : Int32) (q1 : Nat), f_X12_readRule_54 S R   I a0 x1 x2 s0 q1 = some r → Wk E 5 p l e ({ frames := 639, cells := 0, slots := 0, locals := 18673 } : Room) s m args below meth c 0 0 (MQ below (Qw E S R r none) args s 0 0 (fun q => E.1 ≤ q)) 54 [(0, .ref (E.1 + a0)), (1, .int x1), (2, .int x2)] [.int s0, .ref (E.1 + q1)] S R I := by
  intro I a0 x1 x2 s0 q1 h
  rw [f_X12_readRule_54] at h
  obtain ⟨hs60, h⟩ := gp_e h
  have hs6 := sok_e hs60
  obtain ⟨r7, hr7, h⟩ := bd_e h
  refine k_V (pc := 54) (st := []) C (c_X12_must hr7) lkV_RX12_159 hs6 rfl rfl rfl (Nat.le_of_ble_eq_true rfl) (Nat.le_of_ble_eq_true rfl) (Nat.le_of_ble_eq_true rfl) (Nat.le_of_ble_eq_true rfl) (Nat.le_of_ble_eq_true rfl) dX12_readRule_54 ?_
  refine k_nf (cells2 := 0) (slots2 := 0) (st2 := []) rfl rfl rfl ?_
  refine k_aloadn (pc := 57) C dX12_readRule_57 (i := 0) rfl 0 rfl ?_
  obtain ⟨hs80, h⟩ := gp_e h
  have hs8 := sok_e hs80
  obtain ⟨b9, hb9, h⟩ := rl_e h
  refine k_getR (pc := 58) C lkF_RX12_59_12 hs8 ir_12_16 hb9 dX12_readRule_58 ?_
  refine k_iloadn (pc := 61) C dX12_readRule_61 (i := 1) rfl 1 rfl ?_
  refine k_bipush (pc := 62) C (v := (8 : Int32)) dX12_readRule_62 (by decide) ?_
  refine k_mmin (pc := 64) (st := [.ref (E.1 + b9)]) C (t5_in 224 (by decide +kernel) rfl) (Nat.le_of_ble_eq_true rfl) (Nat.le_of_ble_eq_true rfl) (Nat.le_of_ble_eq_true rfl) (Nat.le_of_ble_eq_true rfl) (Nat.le_of_ble_eq_true rfl) dX12_readRule_64 ?_
  refine k_iloadn (pc := 67) C dX12_readRule_67 (i := 2) rfl 2 rfl ?_
  obtain ⟨ha10, h⟩ := gp_e h
  obtain ⟨I11, eI11, h⟩ := lt_e h
  refine k_iast (pc := 68) C ha10 dX12_readRule_68 ?_
  rw [← eI11]
  refine k_aloadn (pc := 69) C dX12_readRule_69 (i := 0) rfl 0 rfl ?_
  obtain ⟨b12, hb12, h⟩ := rl_e h
  refine k_getR (pc := 70) C lkF_RX12_56_12 hs8 ir_12_15 hb12 dX12_readRule_70 ?_
  refine k_iloadn (pc := 73) C dX12_readRule_73 (i := 1) rfl 1 rfl ?_
  refine k_bipush (pc := 74) C (v := (8 : Int32)) dX12_readRule_74 (by decide) ?_
  refine k_mmin (pc := 76) (st := [.ref (E.1 + b12)]) C (t5_in 224 (by decide +kernel) rfl) (Nat.le_of_ble_eq_true rfl) (Nat.le_of_ble_eq_true rfl) (Nat.le_of_ble_eq_true rfl) (Nat.le_of_ble_eq_true rfl) (Nat.le_of_ble_eq_true rfl) dX12_readRule_76 ?_
  refine k_aloadn (pc := 79) C dX12_readRule_79 (i := 0) rfl 0 rfl ?_
  refine k_getI (pc := 80) C lkF_RX12_147_12 hs8 ir_12_12 dX12_readRule_80 ?_
  obtain ⟨ha13, h⟩ := gp_e h
  obtain ⟨I14, eI14, h⟩ := lt_e h
  refine k_iast (pc := 83) C ha13 dX12_readRule_83 ?_
  rw [← eI14]
  refine k_aloadn (pc := 84) C dX12_readRule_84 (i := 0) rfl 0 rfl ?_
  refine k_getI (pc := 85) C lkF_RX12_140_12 hs8 ir_12_9 dX12_readRule_85 ?_
  refine k_if_ne (pc := 88) C dX12_readRule_88 (tgt := 109) (by decide) (fun hc15 => ?_) (fun hc15 => ?_)
  · rw [if_neg hc15] at h
    refine k_loc (L2 := [(0, .ref (E.1 + a0)), (1, .int x1)]) [0, 1] rfl ?_
    exact b_X12_readRule_109 C hr hk  _ _ _ h
  · rw [if_pos hc15] at h
    refine k_aloadn (pc := 91) C dX12_readRule_91 (i := 0) rfl 0 rfl ?_
    refine k_ldcS (pc := 92) C (i := 12) rfl dX12_readRule_92 ?_
    obtain ⟨r56, hr56, h⟩ := bd_e h
    refine k_V (pc := 94) (st := []) C (c_X12_isWord hr56) lkV_RX12_155 hs8 rfl rfl rfl (Nat.le_of_ble_eq_true rfl) (Nat.le_of_ble_eq_true rfl) (Nat.le_of_ble_eq_true rfl) (Nat.le_of_ble_eq_true rfl) (Nat.le_of_ble_eq_true rfl) dX12_readRule_94 ?_
    refine k_nf (cells2 := 0) (slots2 := 0) (st2 := [.int r56]) rfl rfl rfl ?_
    refine k_if_eq (pc := 97) C dX12_readRule_97 (tgt := 109) (by decide) (fun hc57 => ?_) (fun hc57 => ?_)
    · rw [if_pos hc57] at h
      refine k_loc (L2 := [(0, .ref (E.1 + a0)), (1, .int x1)]) [0, 1] rfl ?_
      exact b_X12_readRule_109 C hr hk  _ _ _ h
    · rw [if_neg hc57] at h
      refine k_aloadn (pc := 100) C dX12_readRule_100 (i := 0) rfl 0 rfl ?_
      refine k_iconst (pc := 101) C (v := (1 : Int32)) dX12_readRule_101 (by decide) ?_
      obtain ⟨r58, hr58, h⟩ := bd_e h
      refine k_V (pc := 102) (st := []) C (c_X12_must hr58) lkV_RX12_159 hs8 rfl rfl rfl (Nat.le_of_ble_eq_true rfl) (Nat.le_of_ble_eq_true rfl) (Nat.le_of_ble_eq_true rfl) (Nat.le_of_ble_eq_true rfl) (Nat.le_of_ble_eq_true rfl) dX12_readRule_102 ?_
      refine k_nf (cells2 := 0) (slots2 := 0) (st2 := []) rfl rfl rfl ?_
      refine k_aloadn (pc := 105) C dX12_readRule_105 (i := 0) rfl 0 rfl ?_
      obtain ⟨r59, hr59, h⟩ := bd_e h
      refine k_V (pc := 106) (st := []) C (c_X12_condition (c_X12_one_g 70) hr59) lkV_RX12_180 hs8 rfl rfl rfl (Nat.le_of_ble_eq_true rfl) (Nat.le_of_ble_eq_true rfl) (Nat.le_of_ble_eq_true rfl) (Nat.le_of_ble_eq_true rfl) (Nat.le_of_ble_eq_true rfl) dX12_readRule_106 ?_
      refine k_nf (cells2 := 0) (slots2 := 0) (st2 := []) rfl rfl rfl ?_
      refine k_loc (L2 := [(0, .ref (E.1 + a0)), (1, .int x1)]) [0, 1] rfl ?_
      exact b_X12_readRule_109 C hr hk  _ _ _ h
def f_X12_readRule_53 (S : Sh) (R : Rw)  (I : Iw) (a0 : Nat) (x1 : Int32) (x2 : Int32) (q0 : Nat) : Option (Iw) := f_X12_readRule_54 S R  I a0 x1 x2 (0 : Int32) q0
set_option maxHeartbeats 4000000 in
theorem b_X12_readRule_53 {E : Ev} {p : Program} {l : Launch} {e : Env} {s : State} {m : MethodId} {args : Array Value} {below : List Frame} {meth : Method} {c : Code} (C : Cx E RX12 cX12_readRule 5 p s m c) (hr : meth.sig.returnType = none) (hk : meth.locks = false) {S : Sh} {R : Rw} {r : Iw}  : ∀ (I : Iw) (a0 : Nat) (x1 : Int32) (x2 : Int32) (q0 : Nat), f_X12_readRule_53 S R   I a0 x1 x2 q0 = some r → Wk E 5 p l e ({ frames := 639, cells := 0, slots := 0, locals := 18673 } : Room) s m args below meth c 0 0 (MQ below (Qw E S R r none) args s 0 0 (fun q => E.1 ≤ q)) 53 [(0, .ref (E.1 + a0)), (1, .int x1), (2, .int x2)] [.ref (E.1 + q0)] S R I := by
  intro I a0 x1 x2 q0 h
  rw [f_X12_readRule_53] at h
  refine k_iconst (pc := 53) C (v := (0 : Int32)) dX12_readRule_53 (by decide) ?_
  exact b_X12_readRule_54 C hr hk  _ _ _ _ _ _ h
def f_X12_readRule_31 (S : Sh) (R : Rw) (ko4 : Iw → Nat → Int32 → Int32 → Int32 → Option (Iw)) (I : Iw) (a0 : Nat) (x1 : Int32) (x3 : Int32) (s0 : Int32) : Option (Iw) := ko4 I a0 x1 s0 (x3 + (1 : Int32))
set_option maxHeartbeats 4000000 in
theorem b_X12_readRule_31 {E : Ev} {p : Program} {l : Launch} {e : Env} {s : State} {m : MethodId} {args : Array Value} {below : List Frame} {meth : Method} {c : Code} (C : Cx E RX12 cX12_readRule 5 p s m c) (hr : meth.sig.returnType = none) (hk : meth.locks = false) {S : Sh} {R : Rw} {r : Iw}  {ko4 : Iw → Nat → Int32 → Int32 → Int32 → Option (Iw)} (hko4 : ∀ (I : Iw) (a0 : Nat) (x1 : Int32) (x2 : Int32) (x3 : Int32), ko4 I a0 x1 x2 x3 = some r → Wk E 5 p l e ({ frames := 639, cells := 0, slots := 0, locals := 18673 } : Room) s m args below meth c 0 0 (MQ below (Qw E S R r none) args s 0 0 (fun q => E.1 ≤ q)) 4 [(0, .ref (E.1 + a0)), (1, .int x1), (2, .int x2), (3, .int x3)] [] S R I) : ∀ (I : Iw) (a0 : Nat) (x1 : Int32) (x3 : Int32) (s0 : Int32), f_X12_readRule_31 S R ko4  I a0 x1 x3 s0 = some r → Wk E 5 p l e ({ frames := 639, cells := 0, slots := 0, locals := 18673 } : Room) s m args below meth c 0 0 (MQ below (Qw E S R r none) args s 0 0 (fun q => E.1 ≤ q)) 31 [(0, .ref (E.1 + a0)), (1, .int x1), (3, .int x3)] [.int s0] S R I := by
  intro I a0 x1 x3 s0 h
  rw [f_X12_readRule_31] at h
  refine k_istoren (pc := 31) C dX12_readRule_31 (i := 2) rfl (by decide) (L2 := [(0, .ref (E.1 + a0)), (1, .int x1), (2, .int s0), (3, .int x3)]) rfl ?_
  refine k_iinc (pc := 32) C dX12_readRule_32 3 rfl (v := x3 + (1 : Int32)) (by rfl) (by decide) (L2 := [(0, .ref (E.1 + a0)), (1, .int x1), (2, .int s0), (3, .int (x3 + (1 : Int32)))]) rfl ?_
  refine k_goto (pc := 35) C dX12_readRule_35 (tgt := 4) (by decide) ?_
  exact hko4 _ _ _ _ _ h
def f_X12_readRule_4 (S : Sh) (R : Rw)  : Nat → Iw → Nat → Int32 → Int32 → Int32 → Option (Iw)
  | 0, _, _, _, _, _ => none
  | n + 1, I, a0, x1, x2, x3 => gp (sok S a0 12 34) (rl (R a0 14) (fun b2 => bd (aln S 24 b2) (fun n3 => (if (nI n3) ≤ x3 then (if (8 : Int32) ≤ x1 then f_X12_readRule_53 S R  I a0 x1 x2 a0 else (if x2 < 0 then f_X12_readRule_53 S R  I a0 x1 x2 a0 else f_X12_readRule_54 S R  I a0 x1 x2 (1 : Int32) a0)) else rl (R a0 14) (fun b61 => gp (aok S 24 b61 x3) (rs (R b61 x3.toNatClampNeg) (fun b63 => bd (f_X12_isWord S R I a0 b63) (fun r64 => (if r64 = 0 then f_X12_readRule_31 S R (f_X12_readRule_4 S R  n) I a0 x1 x3 x2 else f_X12_readRule_31 S R (f_X12_readRule_4 S R  n) I a0 x1 x3 x3)))))))))
set_option maxHeartbeats 4000000 in
theorem b_X12_readRule_4 {E : Ev} {p : Program} {l : Launch} {e : Env} {s : State} {m : MethodId} {args : Array Value} {below : List Frame} {meth : Method} {c : Code} (C : Cx E RX12 cX12_readRule 5 p s m c) (hr : meth.sig.returnType = none) (hk : meth.locks = false) {S : Sh} {R : Rw} {r : Iw}  : ∀ (n : Nat) (I : Iw) (a0 : Nat) (x1 : Int32) (x2 : Int32) (x3 : Int32), f_X12_readRule_4 S R  n I a0 x1 x2 x3 = some r → Wk E 5 p l e ({ frames := 639, cells := 0, slots := 0, locals := 18673 } : Room) s m args below meth c 0 0 (MQ below (Qw E S R r none) args s 0 0 (fun q => E.1 ≤ q)) 4 [(0, .ref (E.1 + a0)), (1, .int x1), (2, .int x2), (3, .int x3)] [] S R I := by
  intro n
  induction n with
  | zero =>
    intro I a0 x1 x2 x3 h
    rw [f_X12_readRule_4] at h
    cases h
  | succ n ih =>
    intro I a0 x1 x2 x3 h
    rw [f_X12_readRule_4] at h
    refine k_iloadn (pc := 4) C dX12_readRule_4 (i := 3) rfl 3 rfl ?_
    refine k_aloadn (pc := 5) C dX12_readRule_5 (i := 0) rfl 0 rfl ?_
    obtain ⟨hs10, h⟩ := gp_e h
    have hs1 := sok_e hs10
    obtain ⟨b2, hb2, h⟩ := rl_e h
    refine k_getR (pc := 6) C lkF_RX12_53_12 hs1 ir_12_14 hb2 dX12_readRule_6 ?_
    obtain ⟨n3, hn3, h⟩ := bd_e h
    refine k_alen (pc := 9) C (by decide) hn3 dX12_readRule_9 ?_
    refine k_icmp_ge (pc := 10) C dX12_readRule_10 (tgt := 38) (by decide) (fun hc4 => ?_) (fun hc4 => ?_)
    · rw [if_pos hc4] at h
      refine k_aloadn (pc := 38) C dX12_readRule_38 (i := 0) rfl 0 rfl ?_
      refine k_iloadn (pc := 39) C dX12_readRule_39 (i := 1) rfl 1 rfl ?_
      refine k_bipush (pc := 40) C (v := (8 : Int32)) dX12_readRule_40 (by decide) ?_
      refine k_icmp_ge (pc := 42) C dX12_readRule_42 (tgt := 53) (by decide) (fun hc5 => ?_) (fun hc5 => ?_)
      · rw [if_pos hc5] at h
        refine k_loc (L2 := [(0, .ref (E.1 + a0)), (1, .int x1), (2, .int x2)]) [0, 1, 2] rfl ?_
        exact b_X12_readRule_53 C hr hk  _ _ _ _ _ h
      · rw [if_neg hc5] at h
        refine k_iloadn (pc := 45) C dX12_readRule_45 (i := 2) rfl 2 rfl ?_
        refine k_if_lt (pc := 46) C dX12_readRule_46 (tgt := 53) (by decide) (fun hc60 => ?_) (fun hc60 => ?_)
        · rw [if_pos hc60] at h
          refine k_loc (L2 := [(0, .ref (E.1 + a0)), (1, .int x1), (2, .int x2)]) [0, 1, 2] rfl ?_
          exact b_X12_readRule_53 C hr hk  _ _ _ _ _ h
        · rw [if_neg hc60] at h
          refine k_iconst (pc := 49) C (v := (1 : Int32)) dX12_readRule_49 (by decide) ?_
          refine k_goto (pc := 50) C dX12_readRule_50 (tgt := 54) (by decide) ?_
          refine k_loc (L2 := [(0, .ref (E.1 + a0)), (1, .int x1), (2, .int x2)]) [0, 1, 2] rfl ?_
          exact b_X12_readRule_54 C hr hk  _ _ _ _ _ _ h
    · rw [if_neg hc4] at h
      refine k_aloadn (pc := 13) C dX12_readRule_13 (i := 0) rfl 0 rfl ?_
      refine k_aloadn (pc := 14) C dX12_readRule_14 (i := 0) rfl 0 rfl ?_
      obtain ⟨b61, hb61, h⟩ := rl_e h
      refine k_getR (pc := 15) C lkF_RX12_53_12 hs1 ir_12_14 hb61 dX12_readRule_15 ?_
      refine k_iloadn (pc := 18) C dX12_readRule_18 (i := 3) rfl 3 rfl ?_
      obtain ⟨ha62, h⟩ := gp_e h
      obtain ⟨b63, hb63, h⟩ := rs_e h
      refine k_aald (pc := 19) C (t := 24) (by decide) ha62 dX12_readRule_19 ?_
      rw [hb63]
      refine k_nf (cells2 := 0) (slots2 := 0) (st2 := [.ref (E.2.1 b63), .ref (E.1 + a0)]) rfl rfl rfl ?_
      obtain ⟨r64, hr64, h⟩ := bd_e h
      refine k_V (pc := 20) (st := []) C (c_X12_isWord hr64) lkV_RX12_155 hs1 rfl rfl rfl (Nat.le_of_ble_eq_true rfl) (Nat.le_of_ble_eq_true rfl) (Nat.le_of_ble_eq_true rfl) (Nat.le_of_ble_eq_true rfl) (Nat.le_of_ble_eq_true rfl) dX12_readRule_20 ?_
      refine k_nf (cells2 := 0) (slots2 := 0) (st2 := [.int r64]) rfl rfl rfl ?_
      refine k_if_eq (pc := 23) C dX12_readRule_23 (tgt := 30) (by decide) (fun hc65 => ?_) (fun hc65 => ?_)
      · rw [if_pos hc65] at h
        refine k_iloadn (pc := 30) C dX12_readRule_30 (i := 2) rfl 2 rfl ?_
        refine k_loc (L2 := [(0, .ref (E.1 + a0)), (1, .int x1), (3, .int x3)]) [0, 1, 3] rfl ?_
        exact b_X12_readRule_31 C hr hk ih _ _ _ _ _ h
      · rw [if_neg hc65] at h
        refine k_iloadn (pc := 26) C dX12_readRule_26 (i := 3) rfl 3 rfl ?_
        refine k_goto (pc := 27) C dX12_readRule_27 (tgt := 31) (by decide) ?_
        refine k_loc (L2 := [(0, .ref (E.1 + a0)), (1, .int x1), (3, .int x3)]) [0, 1, 3] rfl ?_
        exact b_X12_readRule_31 C hr hk ih _ _ _ _ _ h
def f_X12_readRule (S : Sh) (R : Rw)  (I : Iw) (a0 : Nat) (x1 : Int32) : Option (Iw) := f_X12_readRule_4 S R  512 I a0 x1 (-1 : Int32) (0 : Int32)
set_option maxHeartbeats 4000000 in
theorem b_X12_readRule {E : Ev} {p : Program} {l : Launch} {e : Env} {s : State} {m : MethodId} {args : Array Value} {below : List Frame} {meth : Method} {c : Code} (C : Cx E RX12 cX12_readRule 5 p s m c) (hr : meth.sig.returnType = none) (hk : meth.locks = false) {S : Sh} {R : Rw} {r : Iw}  : ∀ (I : Iw) (a0 : Nat) (x1 : Int32), f_X12_readRule S R   I a0 x1 = some r → Wk E 5 p l e ({ frames := 639, cells := 0, slots := 0, locals := 18673 } : Room) s m args below meth c 0 0 (MQ below (Qw E S R r none) args s 0 0 (fun q => E.1 ≤ q)) 0 [(0, .ref (E.1 + a0)), (1, .int x1)] [] S R I := by
  intro I a0 x1 h
  rw [f_X12_readRule] at h
  refine k_iconst (pc := 0) C (v := (-1 : Int32)) dX12_readRule_0 (by decide) ?_
  refine k_istoren (pc := 1) C dX12_readRule_1 (i := 2) rfl (by decide) (L2 := [(0, .ref (E.1 + a0)), (1, .int x1), (2, .int (-1 : Int32))]) rfl ?_
  refine k_iconst (pc := 2) C (v := (0 : Int32)) dX12_readRule_2 (by decide) ?_
  refine k_istoren (pc := 3) C dX12_readRule_3 (i := 3) rfl (by decide) (L2 := [(0, .ref (E.1 + a0)), (1, .int x1), (2, .int (-1 : Int32)), (3, .int (0 : Int32))]) rfl ?_
  exact b_X12_readRule_4 C hr hk  _ _ _ _ _ _ h
theorem c_X12_readRule {E : Ev} {l : Launch} {S : Sh} {R : Rw} {I : Iw} {a0 : Nat} {x1 : Int32} {r : Iw} (h : f_X12_readRule S R I a0 x1 = some r) : Mt E l yX12_readRule cX12_readRule 5 none 639 18673 [.ref (E.1 + a0), .int x1] S R I S R r none 0 0 := mt_of (by decide) (Nat.le_of_ble_eq_true rfl) (fun p e s m args below meth c C hr hk hn => b_X12_readRule C hr hk _ _ _ h)
