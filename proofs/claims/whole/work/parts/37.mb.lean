/-! X12_good, X12_above, X12_isUnder, X12_worthOf, X12_fee -/
theorem dX12_good_0 : decode cX12_good 0 = .ok (.iload_n 1, 1) := by decide +kernel
theorem dX12_good_1 : decode cX12_good 1 = .ok (.iconst 1, 1) := by decide +kernel
theorem dX12_good_2 : decode cX12_good 2 = .ok (.iconst 5, 1) := by decide +kernel
theorem dX12_good_3 : decode cX12_good 3 = .ok (.invokestatic 98, 3) := by decide +kernel
theorem dX12_good_6 : decode cX12_good 6 = .ok (.ifCond .eq 34, 3) := by decide +kernel
theorem dX12_good_9 : decode cX12_good 9 = .ok (.iload_n 2, 1) := by decide +kernel
theorem dX12_good_10 : decode cX12_good 10 = .ok (.iconst 0, 1) := by decide +kernel
theorem dX12_good_11 : decode cX12_good 11 = .ok (.iconst 2, 1) := by decide +kernel
theorem dX12_good_12 : decode cX12_good 12 = .ok (.invokestatic 98, 3) := by decide +kernel
theorem dX12_good_15 : decode cX12_good 15 = .ok (.ifCond .eq 25, 3) := by decide +kernel
theorem dX12_good_18 : decode cX12_good 18 = .ok (.iload_n 3, 1) := by decide +kernel
theorem dX12_good_19 : decode cX12_good 19 = .ok (.iconst 0, 1) := by decide +kernel
theorem dX12_good_20 : decode cX12_good 20 = .ok (.bipush 9, 2) := by decide +kernel
theorem dX12_good_22 : decode cX12_good 22 = .ok (.invokestatic 98, 3) := by decide +kernel
theorem dX12_good_25 : decode cX12_good 25 = .ok (.ifCond .eq 15, 3) := by decide +kernel
theorem dX12_good_28 : decode cX12_good 28 = .ok (.iload 4, 2) := by decide +kernel
theorem dX12_good_30 : decode cX12_good 30 = .ok (.iconst 1, 1) := by decide +kernel
theorem dX12_good_31 : decode cX12_good 31 = .ok (.sipush 999, 3) := by decide +kernel
theorem dX12_good_34 : decode cX12_good 34 = .ok (.invokestatic 98, 3) := by decide +kernel
theorem dX12_good_37 : decode cX12_good 37 = .ok (.ifCond .ne 5, 3) := by decide +kernel
theorem dX12_good_40 : decode cX12_good 40 = .ok (.iconst (-1), 1) := by decide +kernel
theorem dX12_good_41 : decode cX12_good 41 = .ok (.ireturn, 1) := by decide +kernel
theorem dX12_good_42 : decode cX12_good 42 = .ok (.aload_n 0, 1) := by decide +kernel
theorem dX12_good_43 : decode cX12_good 43 = .ok (.getfield 9, 3) := by decide +kernel
theorem dX12_good_46 : decode cX12_good 46 = .ok (.iconst 3, 1) := by decide +kernel
theorem dX12_good_47 : decode cX12_good 47 = .ok (.iaload, 1) := by decide +kernel
theorem dX12_good_48 : decode cX12_good 48 = .ok (.istore 5, 2) := by decide +kernel
theorem dX12_good_50 : decode cX12_good 50 = .ok (.iload 5, 2) := by decide +kernel
theorem dX12_good_52 : decode cX12_good 52 = .ok (.bipush 9, 2) := by decide +kernel
theorem dX12_good_54 : decode cX12_good 54 = .ok (.if_icmp .ne 6, 3) := by decide +kernel
theorem dX12_good_57 : decode cX12_good 57 = .ok (.bipush (-2), 2) := by decide +kernel
theorem dX12_good_59 : decode cX12_good 59 = .ok (.ireturn, 1) := by decide +kernel
theorem dX12_good_60 : decode cX12_good 60 = .ok (.aload_n 0, 1) := by decide +kernel
theorem dX12_good_61 : decode cX12_good 61 = .ok (.getfield 9, 3) := by decide +kernel
theorem dX12_good_64 : decode cX12_good 64 = .ok (.iload 5, 2) := by decide +kernel
theorem dX12_good_66 : decode cX12_good 66 = .ok (.iconst 0, 1) := by decide +kernel
theorem dX12_good_67 : decode cX12_good 67 = .ok (.invokestatic 218, 3) := by decide +kernel
theorem dX12_good_70 : decode cX12_good 70 = .ok (.iload_n 1, 1) := by decide +kernel
theorem dX12_good_71 : decode cX12_good 71 = .ok (.iastore, 1) := by decide +kernel
theorem dX12_good_72 : decode cX12_good 72 = .ok (.aload_n 0, 1) := by decide +kernel
theorem dX12_good_73 : decode cX12_good 73 = .ok (.getfield 9, 3) := by decide +kernel
theorem dX12_good_76 : decode cX12_good 76 = .ok (.iload 5, 2) := by decide +kernel
theorem dX12_good_78 : decode cX12_good 78 = .ok (.iconst 1, 1) := by decide +kernel
theorem dX12_good_79 : decode cX12_good 79 = .ok (.invokestatic 218, 3) := by decide +kernel
theorem dX12_good_82 : decode cX12_good 82 = .ok (.iload_n 2, 1) := by decide +kernel
theorem dX12_good_83 : decode cX12_good 83 = .ok (.iastore, 1) := by decide +kernel
theorem dX12_good_84 : decode cX12_good 84 = .ok (.aload_n 0, 1) := by decide +kernel
theorem dX12_good_85 : decode cX12_good 85 = .ok (.getfield 9, 3) := by decide +kernel
theorem dX12_good_88 : decode cX12_good 88 = .ok (.iload 5, 2) := by decide +kernel
theorem dX12_good_90 : decode cX12_good 90 = .ok (.iconst 2, 1) := by decide +kernel
theorem dX12_good_91 : decode cX12_good 91 = .ok (.invokestatic 218, 3) := by decide +kernel
theorem dX12_good_94 : decode cX12_good 94 = .ok (.iload_n 3, 1) := by decide +kernel
theorem dX12_good_95 : decode cX12_good 95 = .ok (.iastore, 1) := by decide +kernel
theorem dX12_good_96 : decode cX12_good 96 = .ok (.aload_n 0, 1) := by decide +kernel
theorem dX12_good_97 : decode cX12_good 97 = .ok (.getfield 9, 3) := by decide +kernel
theorem dX12_good_100 : decode cX12_good 100 = .ok (.iload 5, 2) := by decide +kernel
theorem dX12_good_102 : decode cX12_good 102 = .ok (.iconst 3, 1) := by decide +kernel
theorem dX12_good_103 : decode cX12_good 103 = .ok (.invokestatic 218, 3) := by decide +kernel
theorem dX12_good_106 : decode cX12_good 106 = .ok (.iload 4, 2) := by decide +kernel
theorem dX12_good_108 : decode cX12_good 108 = .ok (.iastore, 1) := by decide +kernel
theorem dX12_good_109 : decode cX12_good 109 = .ok (.aload_n 0, 1) := by decide +kernel
theorem dX12_good_110 : decode cX12_good 110 = .ok (.getfield 9, 3) := by decide +kernel
theorem dX12_good_113 : decode cX12_good 113 = .ok (.iload 5, 2) := by decide +kernel
theorem dX12_good_115 : decode cX12_good 115 = .ok (.iconst 4, 1) := by decide +kernel
theorem dX12_good_116 : decode cX12_good 116 = .ok (.invokestatic 218, 3) := by decide +kernel
theorem dX12_good_119 : decode cX12_good 119 = .ok (.bipush (-9), 2) := by decide +kernel
theorem dX12_good_121 : decode cX12_good 121 = .ok (.iastore, 1) := by decide +kernel
theorem dX12_good_122 : decode cX12_good 122 = .ok (.aload_n 0, 1) := by decide +kernel
theorem dX12_good_123 : decode cX12_good 123 = .ok (.getfield 9, 3) := by decide +kernel
theorem dX12_good_126 : decode cX12_good 126 = .ok (.iconst 3, 1) := by decide +kernel
theorem dX12_good_127 : decode cX12_good 127 = .ok (.dup2, 1) := by decide +kernel
theorem dX12_good_128 : decode cX12_good 128 = .ok (.iaload, 1) := by decide +kernel
theorem dX12_good_129 : decode cX12_good 129 = .ok (.iconst 1, 1) := by decide +kernel
theorem dX12_good_130 : decode cX12_good 130 = .ok (.iadd, 1) := by decide +kernel
theorem dX12_good_131 : decode cX12_good 131 = .ok (.iastore, 1) := by decide +kernel
theorem dX12_good_132 : decode cX12_good 132 = .ok (.iload 5, 2) := by decide +kernel
theorem dX12_good_134 : decode cX12_good 134 = .ok (.ireturn, 1) := by decide +kernel
def f_X12_good (S : Sh) (R : Rw)  (I : Iw) (a0 : Nat) (x1 : Int32) (x2 : Int32) (x3 : Int32) (x4 : Int32) : Option (Iw × Int32) := bd (f_X12_in S R I x1 (1 : Int32) (5 : Int32)) (fun r1 => (if r1 = 0 then some (I, (-1 : Int32)) else bd (f_X12_in S R I x2 (0 : Int32) (2 : Int32)) (fun r3 => (if r3 = 0 then some (I, (-1 : Int32)) else bd (f_X12_in S R I x3 (0 : Int32) (9 : Int32)) (fun r5 => (if r5 = 0 then some (I, (-1 : Int32)) else bd (f_X12_in S R I x4 (1 : Int32) (999 : Int32)) (fun r7 => (if r7 = 0 then some (I, (-1 : Int32)) else gp (sok S a0 12 34) (rl (R a0 0) (fun b10 => gp (aok S 20 b10 (3 : Int32)) ((if (I b10 (3 : Int32).toNatClampNeg) = (9 : Int32) then some (I, (-2 : Int32)) else rl (R a0 0) (fun b13 => bd (f_X12_goodAt S R I (I b10 (3 : Int32).toNatClampNeg) (0 : Int32)) (fun r14 => gp (aok S 20 b13 r14) (lt (up2 I b13 r14.toNatClampNeg x1) (fun I16 => rl (R a0 0) (fun b17 => bd (f_X12_goodAt S R I16 (I b10 (3 : Int32).toNatClampNeg) (1 : Int32)) (fun r18 => gp (aok S 20 b17 r18) (lt (up2 I16 b17 r18.toNatClampNeg x2) (fun I20 => rl (R a0 0) (fun b21 => bd (f_X12_goodAt S R I20 (I b10 (3 : Int32).toNatClampNeg) (2 : Int32)) (fun r22 => gp (aok S 20 b21 r22) (lt (up2 I20 b21 r22.toNatClampNeg x3) (fun I24 => rl (R a0 0) (fun b25 => bd (f_X12_goodAt S R I24 (I b10 (3 : Int32).toNatClampNeg) (3 : Int32)) (fun r26 => gp (aok S 20 b25 r26) (lt (up2 I24 b25 r26.toNatClampNeg x4) (fun I28 => rl (R a0 0) (fun b29 => bd (f_X12_goodAt S R I28 (I b10 (3 : Int32).toNatClampNeg) (4 : Int32)) (fun r30 => gp (aok S 20 b29 r30) (lt (up2 I28 b29 r30.toNatClampNeg (-9 : Int32)) (fun I32 => rl (R a0 0) (fun b33 => gp (aok S 20 b33 (3 : Int32)) (gp (aok S 20 b33 (3 : Int32)) (lt (up2 I32 b33 (3 : Int32).toNatClampNeg ((I32 b33 (3 : Int32).toNatClampNeg) + (1 : Int32))) (fun I36 => some (I36, I b10 (3 : Int32).toNatClampNeg)))))))))))))))))))))))))))))))))))))
set_option maxHeartbeats 4000000 in
theorem b_X12_good {E : Ev} {p : Program} {l : Launch} {e : Env} {s : State} {m : MethodId} {args : Array Value} {below : List Frame} {meth : Method} {c : Code} (C : Cx E RX12 cX12_good 6 p s m c) (hr : meth.sig.returnType = (some .int)) (hk : meth.locks = false) {S : Sh} {R : Rw} {r : Iw × Int32}  : ∀ (I : Iw) (a0 : Nat) (x1 : Int32) (x2 : Int32) (x3 : Int32) (x4 : Int32), f_X12_good S R   I a0 x1 x2 x3 x4 = some r → Wk E 6 p l e ({ frames := 1, cells := 0, slots := 0, locals := 22 } : Room) s m args below meth c 0 0 (MQ below (Qw E S R r.1 (some (.int r.2))) args s 0 0 (fun q => E.1 ≤ q)) 0 [(0, .ref (E.1 + a0)), (1, .int x1), (2, .int x2), (3, .int x3), (4, .int x4)] [] S R I := by
  intro I a0 x1 x2 x3 x4 h
  rw [f_X12_good] at h
  refine k_iloadn (pc := 0) C dX12_good_0 (i := 1) rfl 1 rfl ?_
  refine k_iconst (pc := 1) C (v := (1 : Int32)) dX12_good_1 (by decide) ?_
  refine k_iconst (pc := 2) C (v := (5 : Int32)) dX12_good_2 (by decide) ?_
  obtain ⟨r1, hr1, h⟩ := bd_e h
  refine k_S (pc := 3) (st := []) C (c_X12_in hr1) lkS_RX12_98 rfl rfl (Nat.le_of_ble_eq_true rfl) (Nat.le_of_ble_eq_true rfl) (Nat.le_of_ble_eq_true rfl) (Nat.le_of_ble_eq_true rfl) (Nat.le_of_ble_eq_true rfl) dX12_good_3 ?_
  refine k_nf (cells2 := 0) (slots2 := 0) (st2 := [.int r1]) rfl rfl rfl ?_
  refine k_if_eq (pc := 6) C dX12_good_6 (tgt := 40) (by decide) (fun hc2 => ?_) (fun hc2 => ?_)
  · rw [if_pos hc2] at h
    refine k_iconst (pc := 40) C (v := (-1 : Int32)) dX12_good_40 (by decide) ?_
    have h := Option.some.inj h
    subst h
    exact k_iret (pc := 41) C hr hk dX12_good_41
  · rw [if_neg hc2] at h
    refine k_iloadn (pc := 9) C dX12_good_9 (i := 2) rfl 2 rfl ?_
    refine k_iconst (pc := 10) C (v := (0 : Int32)) dX12_good_10 (by decide) ?_
    refine k_iconst (pc := 11) C (v := (2 : Int32)) dX12_good_11 (by decide) ?_
    obtain ⟨r3, hr3, h⟩ := bd_e h
    refine k_S (pc := 12) (st := []) C (c_X12_in hr3) lkS_RX12_98 rfl rfl (Nat.le_of_ble_eq_true rfl) (Nat.le_of_ble_eq_true rfl) (Nat.le_of_ble_eq_true rfl) (Nat.le_of_ble_eq_true rfl) (Nat.le_of_ble_eq_true rfl) dX12_good_12 ?_
    refine k_nf (cells2 := 0) (slots2 := 0) (st2 := [.int r3]) rfl rfl rfl ?_
    refine k_if_eq (pc := 15) C dX12_good_15 (tgt := 40) (by decide) (fun hc4 => ?_) (fun hc4 => ?_)
    · rw [if_pos hc4] at h
      refine k_iconst (pc := 40) C (v := (-1 : Int32)) dX12_good_40 (by decide) ?_
      have h := Option.some.inj h
      subst h
      exact k_iret (pc := 41) C hr hk dX12_good_41
    · rw [if_neg hc4] at h
      refine k_iloadn (pc := 18) C dX12_good_18 (i := 3) rfl 3 rfl ?_
      refine k_iconst (pc := 19) C (v := (0 : Int32)) dX12_good_19 (by decide) ?_
      refine k_bipush (pc := 20) C (v := (9 : Int32)) dX12_good_20 (by decide) ?_
      obtain ⟨r5, hr5, h⟩ := bd_e h
      refine k_S (pc := 22) (st := []) C (c_X12_in hr5) lkS_RX12_98 rfl rfl (Nat.le_of_ble_eq_true rfl) (Nat.le_of_ble_eq_true rfl) (Nat.le_of_ble_eq_true rfl) (Nat.le_of_ble_eq_true rfl) (Nat.le_of_ble_eq_true rfl) dX12_good_22 ?_
      refine k_nf (cells2 := 0) (slots2 := 0) (st2 := [.int r5]) rfl rfl rfl ?_
      refine k_if_eq (pc := 25) C dX12_good_25 (tgt := 40) (by decide) (fun hc6 => ?_) (fun hc6 => ?_)
      · rw [if_pos hc6] at h
        refine k_iconst (pc := 40) C (v := (-1 : Int32)) dX12_good_40 (by decide) ?_
        have h := Option.some.inj h
        subst h
        exact k_iret (pc := 41) C hr hk dX12_good_41
      · rw [if_neg hc6] at h
        refine k_iload (pc := 28) C dX12_good_28 4 rfl ?_
        refine k_iconst (pc := 30) C (v := (1 : Int32)) dX12_good_30 (by decide) ?_
        refine k_sipush (pc := 31) C (v := (999 : Int32)) dX12_good_31 (by decide) ?_
        obtain ⟨r7, hr7, h⟩ := bd_e h
        refine k_S (pc := 34) (st := []) C (c_X12_in hr7) lkS_RX12_98 rfl rfl (Nat.le_of_ble_eq_true rfl) (Nat.le_of_ble_eq_true rfl) (Nat.le_of_ble_eq_true rfl) (Nat.le_of_ble_eq_true rfl) (Nat.le_of_ble_eq_true rfl) dX12_good_34 ?_
        refine k_nf (cells2 := 0) (slots2 := 0) (st2 := [.int r7]) rfl rfl rfl ?_
        refine k_if_ne (pc := 37) C dX12_good_37 (tgt := 42) (by decide) (fun hc8 => ?_) (fun hc8 => ?_)
        · rw [if_neg hc8] at h
          refine k_aloadn (pc := 42) C dX12_good_42 (i := 0) rfl 0 rfl ?_
          obtain ⟨hs90, h⟩ := gp_e h
          have hs9 := sok_e hs90
          obtain ⟨b10, hb10, h⟩ := rl_e h
          refine k_getR (pc := 43) C lkF_RX12_9_12 hs9 ir_12_0 hb10 dX12_good_43 ?_
          refine k_iconst (pc := 46) C (v := (3 : Int32)) dX12_good_46 (by decide) ?_
          obtain ⟨ha11, h⟩ := gp_e h
          refine k_iald (pc := 47) C ha11 dX12_good_47 ?_
          refine k_istore (pc := 48) C dX12_good_48 (by decide) (L2 := [(0, .ref (E.1 + a0)), (1, .int x1), (2, .int x2), (3, .int x3), (4, .int x4), (5, .int (I b10 (3 : Int32).toNatClampNeg))]) rfl ?_
          refine k_iload (pc := 50) C dX12_good_50 5 rfl ?_
          refine k_bipush (pc := 52) C (v := (9 : Int32)) dX12_good_52 (by decide) ?_
          refine k_icmp_ne (pc := 54) C dX12_good_54 (tgt := 60) (by decide) (fun hc12 => ?_) (fun hc12 => ?_)
          · rw [if_neg hc12] at h
            refine k_aloadn (pc := 60) C dX12_good_60 (i := 0) rfl 0 rfl ?_
            obtain ⟨b13, hb13, h⟩ := rl_e h
            refine k_getR (pc := 61) C lkF_RX12_9_12 hs9 ir_12_0 hb13 dX12_good_61 ?_
            refine k_iload (pc := 64) C dX12_good_64 5 rfl ?_
            refine k_iconst (pc := 66) C (v := (0 : Int32)) dX12_good_66 (by decide) ?_
            obtain ⟨r14, hr14, h⟩ := bd_e h
            refine k_S (pc := 67) (st := [.ref (E.1 + b13)]) C (c_X12_goodAt hr14) lkS_RX12_218 rfl rfl (Nat.le_of_ble_eq_true rfl) (Nat.le_of_ble_eq_true rfl) (Nat.le_of_ble_eq_true rfl) (Nat.le_of_ble_eq_true rfl) (Nat.le_of_ble_eq_true rfl) dX12_good_67 ?_
            refine k_nf (cells2 := 0) (slots2 := 0) (st2 := [.int r14, .ref (E.1 + b13)]) rfl rfl rfl ?_
            refine k_iloadn (pc := 70) C dX12_good_70 (i := 1) rfl 1 rfl ?_
            obtain ⟨ha15, h⟩ := gp_e h
            obtain ⟨I16, eI16, h⟩ := lt_e h
            refine k_iast (pc := 71) C ha15 dX12_good_71 ?_
            rw [← eI16]
            refine k_aloadn (pc := 72) C dX12_good_72 (i := 0) rfl 0 rfl ?_
            obtain ⟨b17, hb17, h⟩ := rl_e h
            refine k_getR (pc := 73) C lkF_RX12_9_12 hs9 ir_12_0 hb17 dX12_good_73 ?_
            refine k_iload (pc := 76) C dX12_good_76 5 rfl ?_
            refine k_iconst (pc := 78) C (v := (1 : Int32)) dX12_good_78 (by decide) ?_
            obtain ⟨r18, hr18, h⟩ := bd_e h
            refine k_S (pc := 79) (st := [.ref (E.1 + b17)]) C (c_X12_goodAt hr18) lkS_RX12_218 rfl rfl (Nat.le_of_ble_eq_true rfl) (Nat.le_of_ble_eq_true rfl) (Nat.le_of_ble_eq_true rfl) (Nat.le_of_ble_eq_true rfl) (Nat.le_of_ble_eq_true rfl) dX12_good_79 ?_
            refine k_nf (cells2 := 0) (slots2 := 0) (st2 := [.int r18, .ref (E.1 + b17)]) rfl rfl rfl ?_
            refine k_iloadn (pc := 82) C dX12_good_82 (i := 2) rfl 2 rfl ?_
            obtain ⟨ha19, h⟩ := gp_e h
            obtain ⟨I20, eI20, h⟩ := lt_e h
            refine k_iast (pc := 83) C ha19 dX12_good_83 ?_
            rw [← eI20]
            refine k_aloadn (pc := 84) C dX12_good_84 (i := 0) rfl 0 rfl ?_
            obtain ⟨b21, hb21, h⟩ := rl_e h
            refine k_getR (pc := 85) C lkF_RX12_9_12 hs9 ir_12_0 hb21 dX12_good_85 ?_
            refine k_iload (pc := 88) C dX12_good_88 5 rfl ?_
            refine k_iconst (pc := 90) C (v := (2 : Int32)) dX12_good_90 (by decide) ?_
            obtain ⟨r22, hr22, h⟩ := bd_e h
            refine k_S (pc := 91) (st := [.ref (E.1 + b21)]) C (c_X12_goodAt hr22) lkS_RX12_218 rfl rfl (Nat.le_of_ble_eq_true rfl) (Nat.le_of_ble_eq_true rfl) (Nat.le_of_ble_eq_true rfl) (Nat.le_of_ble_eq_true rfl) (Nat.le_of_ble_eq_true rfl) dX12_good_91 ?_
            refine k_nf (cells2 := 0) (slots2 := 0) (st2 := [.int r22, .ref (E.1 + b21)]) rfl rfl rfl ?_
            refine k_iloadn (pc := 94) C dX12_good_94 (i := 3) rfl 3 rfl ?_
            obtain ⟨ha23, h⟩ := gp_e h
            obtain ⟨I24, eI24, h⟩ := lt_e h
            refine k_iast (pc := 95) C ha23 dX12_good_95 ?_
            rw [← eI24]
            refine k_aloadn (pc := 96) C dX12_good_96 (i := 0) rfl 0 rfl ?_
            obtain ⟨b25, hb25, h⟩ := rl_e h
            refine k_getR (pc := 97) C lkF_RX12_9_12 hs9 ir_12_0 hb25 dX12_good_97 ?_
            refine k_iload (pc := 100) C dX12_good_100 5 rfl ?_
            refine k_iconst (pc := 102) C (v := (3 : Int32)) dX12_good_102 (by decide) ?_
            obtain ⟨r26, hr26, h⟩ := bd_e h
            refine k_S (pc := 103) (st := [.ref (E.1 + b25)]) C (c_X12_goodAt hr26) lkS_RX12_218 rfl rfl (Nat.le_of_ble_eq_true rfl) (Nat.le_of_ble_eq_true rfl) (Nat.le_of_ble_eq_true rfl) (Nat.le_of_ble_eq_true rfl) (Nat.le_of_ble_eq_true rfl) dX12_good_103 ?_
            refine k_nf (cells2 := 0) (slots2 := 0) (st2 := [.int r26, .ref (E.1 + b25)]) rfl rfl rfl ?_
            refine k_iload (pc := 106) C dX12_good_106 4 rfl ?_
            obtain ⟨ha27, h⟩ := gp_e h
            obtain ⟨I28, eI28, h⟩ := lt_e h
            refine k_iast (pc := 108) C ha27 dX12_good_108 ?_
            rw [← eI28]
            refine k_aloadn (pc := 109) C dX12_good_109 (i := 0) rfl 0 rfl ?_
            obtain ⟨b29, hb29, h⟩ := rl_e h
            refine k_getR (pc := 110) C lkF_RX12_9_12 hs9 ir_12_0 hb29 dX12_good_110 ?_
            refine k_iload (pc := 113) C dX12_good_113 5 rfl ?_
            refine k_iconst (pc := 115) C (v := (4 : Int32)) dX12_good_115 (by decide) ?_
            obtain ⟨r30, hr30, h⟩ := bd_e h
            refine k_S (pc := 116) (st := [.ref (E.1 + b29)]) C (c_X12_goodAt hr30) lkS_RX12_218 rfl rfl (Nat.le_of_ble_eq_true rfl) (Nat.le_of_ble_eq_true rfl) (Nat.le_of_ble_eq_true rfl) (Nat.le_of_ble_eq_true rfl) (Nat.le_of_ble_eq_true rfl) dX12_good_116 ?_
            refine k_nf (cells2 := 0) (slots2 := 0) (st2 := [.int r30, .ref (E.1 + b29)]) rfl rfl rfl ?_
            refine k_bipush (pc := 119) C (v := (-9 : Int32)) dX12_good_119 (by decide) ?_
            obtain ⟨ha31, h⟩ := gp_e h
            obtain ⟨I32, eI32, h⟩ := lt_e h
            refine k_iast (pc := 121) C ha31 dX12_good_121 ?_
            rw [← eI32]
            refine k_aloadn (pc := 122) C dX12_good_122 (i := 0) rfl 0 rfl ?_
            obtain ⟨b33, hb33, h⟩ := rl_e h
            refine k_getR (pc := 123) C lkF_RX12_9_12 hs9 ir_12_0 hb33 dX12_good_123 ?_
            refine k_iconst (pc := 126) C (v := (3 : Int32)) dX12_good_126 (by decide) ?_
            refine k_dup2 (pc := 127) C dX12_good_127 rfl rfl ?_
            obtain ⟨ha34, h⟩ := gp_e h
            refine k_iald (pc := 128) C ha34 dX12_good_128 ?_
            refine k_iconst (pc := 129) C (v := (1 : Int32)) dX12_good_129 (by decide) ?_
            refine k_iadd (pc := 130) C dX12_good_130 ?_
            obtain ⟨ha35, h⟩ := gp_e h
            obtain ⟨I36, eI36, h⟩ := lt_e h
            refine k_iast (pc := 131) C ha35 dX12_good_131 ?_
            rw [← eI36]
            refine k_iload (pc := 132) C dX12_good_132 5 rfl ?_
            have h := Option.some.inj h
            subst h
            exact k_iret (pc := 134) C hr hk dX12_good_134
          · rw [if_pos hc12] at h
            refine k_bipush (pc := 57) C (v := (-2 : Int32)) dX12_good_57 (by decide) ?_
            have h := Option.some.inj h
            subst h
            exact k_iret (pc := 59) C hr hk dX12_good_59
        · rw [if_pos hc8] at h
          refine k_iconst (pc := 40) C (v := (-1 : Int32)) dX12_good_40 (by decide) ?_
          have h := Option.some.inj h
          subst h
          exact k_iret (pc := 41) C hr hk dX12_good_41
theorem c_X12_good {E : Ev} {l : Launch} {S : Sh} {R : Rw} {I : Iw} {a0 : Nat} {x1 : Int32} {x2 : Int32} {x3 : Int32} {x4 : Int32} {r : Iw × Int32} (h : f_X12_good S R I a0 x1 x2 x3 x4 = some r) : Mt E l yX12_good cX12_good 6 (some .int) 1 22 [.ref (E.1 + a0), .int x1, .int x2, .int x3, .int x4] S R I S R r.1 (some (.int r.2)) 0 0 := mt_of (by decide) (Nat.le_of_ble_eq_true rfl) (fun p e s m args below meth c C hr hk hn => b_X12_good C hr hk _ _ _ _ _ _ h)
theorem dX12_above_0 : decode cX12_above 0 = .ok (.iload_n 0, 1) := by decide +kernel
theorem dX12_above_1 : decode cX12_above 1 = .ok (.ifCond .ne 7, 3) := by decide +kernel
theorem dX12_above_4 : decode cX12_above 4 = .ok (.iconst (-1), 1) := by decide +kernel
theorem dX12_above_5 : decode cX12_above 5 = .ok (.goto 22, 3) := by decide +kernel
theorem dX12_above_8 : decode cX12_above 8 = .ok (.iload_n 0, 1) := by decide +kernel
theorem dX12_above_9 : decode cX12_above 9 = .ok (.iconst 3, 1) := by decide +kernel
theorem dX12_above_10 : decode cX12_above 10 = .ok (.if_icmp .ne 7, 3) := by decide +kernel
theorem dX12_above_13 : decode cX12_above 13 = .ok (.iconst 2, 1) := by decide +kernel
theorem dX12_above_14 : decode cX12_above 14 = .ok (.goto 13, 3) := by decide +kernel
theorem dX12_above_17 : decode cX12_above 17 = .ok (.iload_n 0, 1) := by decide +kernel
theorem dX12_above_18 : decode cX12_above 18 = .ok (.iconst 5, 1) := by decide +kernel
theorem dX12_above_19 : decode cX12_above 19 = .ok (.if_icmp .ne 7, 3) := by decide +kernel
theorem dX12_above_22 : decode cX12_above 22 = .ok (.iconst 4, 1) := by decide +kernel
theorem dX12_above_23 : decode cX12_above 23 = .ok (.goto 4, 3) := by decide +kernel
theorem dX12_above_26 : decode cX12_above 26 = .ok (.iconst 0, 1) := by decide +kernel
theorem dX12_above_27 : decode cX12_above 27 = .ok (.ireturn, 1) := by decide +kernel
def f_X12_above (S : Sh) (R : Rw) (I : Iw)  (x0 : Int32) : Option (Int32) := (if x0 = 0 then some (-1 : Int32) else (if x0 = (3 : Int32) then some (2 : Int32) else (if x0 = (5 : Int32) then some (4 : Int32) else some (0 : Int32))))
set_option maxHeartbeats 4000000 in
theorem b_X12_above {E : Ev} {p : Program} {l : Launch} {e : Env} {s : State} {m : MethodId} {args : Array Value} {below : List Frame} {meth : Method} {c : Code} (C : Cx E RX12 cX12_above 1 p s m c) (hr : meth.sig.returnType = (some .int)) (hk : meth.locks = false) {S : Sh} {R : Rw} {I : Iw} {r : Int32}  : ∀ (x0 : Int32), f_X12_above S R I   x0 = some r → Wk E 1 p l e ({ frames := 0, cells := 0, slots := 0, locals := 0 } : Room) s m args below meth c 0 0 (MQ below (Qw E S R I (some (.int r))) args s 0 0 (fun q => E.1 ≤ q)) 0 [(0, .int x0)] [] S R I := by
  intro x0 h
  rw [f_X12_above] at h
  refine k_iloadn (pc := 0) C dX12_above_0 (i := 0) rfl 0 rfl ?_
  refine k_if_ne (pc := 1) C dX12_above_1 (tgt := 8) (by decide) (fun hc1 => ?_) (fun hc1 => ?_)
  · rw [if_neg hc1] at h
    refine k_iloadn (pc := 8) C dX12_above_8 (i := 0) rfl 0 rfl ?_
    refine k_iconst (pc := 9) C (v := (3 : Int32)) dX12_above_9 (by decide) ?_
    refine k_icmp_ne (pc := 10) C dX12_above_10 (tgt := 17) (by decide) (fun hc2 => ?_) (fun hc2 => ?_)
    · rw [if_neg hc2] at h
      refine k_iloadn (pc := 17) C dX12_above_17 (i := 0) rfl 0 rfl ?_
      refine k_iconst (pc := 18) C (v := (5 : Int32)) dX12_above_18 (by decide) ?_
      refine k_icmp_ne (pc := 19) C dX12_above_19 (tgt := 26) (by decide) (fun hc3 => ?_) (fun hc3 => ?_)
      · rw [if_neg hc3] at h
        refine k_iconst (pc := 26) C (v := (0 : Int32)) dX12_above_26 (by decide) ?_
        have h := Option.some.inj h
        subst h
        exact k_iret (pc := 27) C hr hk dX12_above_27
      · rw [if_pos hc3] at h
        refine k_iconst (pc := 22) C (v := (4 : Int32)) dX12_above_22 (by decide) ?_
        refine k_goto (pc := 23) C dX12_above_23 (tgt := 27) (by decide) ?_
        have h := Option.some.inj h
        subst h
        exact k_iret (pc := 27) C hr hk dX12_above_27
    · rw [if_pos hc2] at h
      refine k_iconst (pc := 13) C (v := (2 : Int32)) dX12_above_13 (by decide) ?_
      refine k_goto (pc := 14) C dX12_above_14 (tgt := 27) (by decide) ?_
      have h := Option.some.inj h
      subst h
      exact k_iret (pc := 27) C hr hk dX12_above_27
  · rw [if_pos hc1] at h
    refine k_iconst (pc := 4) C (v := (-1 : Int32)) dX12_above_4 (by decide) ?_
    refine k_goto (pc := 5) C dX12_above_5 (tgt := 27) (by decide) ?_
    have h := Option.some.inj h
    subst h
    exact k_iret (pc := 27) C hr hk dX12_above_27
theorem c_X12_above {E : Ev} {l : Launch} {S : Sh} {R : Rw} {I : Iw} {x0 : Int32} {r : Int32} (h : f_X12_above S R I x0 = some r) : Mt E l yX12_above cX12_above 1 (some .int) 0 0 [.int x0] S R I S R I (some (.int r)) 0 0 := mt_of (by decide) (Nat.le_of_ble_eq_true rfl) (fun p e s m args below meth c C hr hk hn => b_X12_above C hr hk _ h)
theorem lkS_RX12_221 : LkS RX12 221 yX12_above cX12_above 1 (some .int) 1 := ⟨(t6_in 51 (by decide +kernel) rfl), (t6_in 52 (by decide +kernel) rfl), (t6_in 53 (by decide +kernel) rfl), (t1_in 7 (by decide +kernel) rfl), by decide, by decide +kernel⟩
theorem dX12_isUnder_0 : decode cX12_isUnder 0 = .ok (.iload_n 0, 1) := by decide +kernel
theorem dX12_isUnder_1 : decode cX12_isUnder 1 = .ok (.istore_n 2, 1) := by decide +kernel
theorem dX12_isUnder_2 : decode cX12_isUnder 2 = .ok (.iload_n 2, 1) := by decide +kernel
theorem dX12_isUnder_3 : decode cX12_isUnder 3 = .ok (.ifCond .lt 16, 3) := by decide +kernel
theorem dX12_isUnder_6 : decode cX12_isUnder 6 = .ok (.iload_n 2, 1) := by decide +kernel
theorem dX12_isUnder_7 : decode cX12_isUnder 7 = .ok (.iload_n 1, 1) := by decide +kernel
theorem dX12_isUnder_8 : decode cX12_isUnder 8 = .ok (.if_icmp .eq 11, 3) := by decide +kernel
theorem dX12_isUnder_11 : decode cX12_isUnder 11 = .ok (.iload_n 2, 1) := by decide +kernel
theorem dX12_isUnder_12 : decode cX12_isUnder 12 = .ok (.invokestatic 221, 3) := by decide +kernel
theorem dX12_isUnder_15 : decode cX12_isUnder 15 = .ok (.istore_n 2, 1) := by decide +kernel
theorem dX12_isUnder_16 : decode cX12_isUnder 16 = .ok (.goto (-14), 3) := by decide +kernel
theorem dX12_isUnder_19 : decode cX12_isUnder 19 = .ok (.iload_n 2, 1) := by decide +kernel
theorem dX12_isUnder_20 : decode cX12_isUnder 20 = .ok (.ifCond .lt 7, 3) := by decide +kernel
theorem dX12_isUnder_23 : decode cX12_isUnder 23 = .ok (.iconst 1, 1) := by decide +kernel
theorem dX12_isUnder_24 : decode cX12_isUnder 24 = .ok (.goto 4, 3) := by decide +kernel
theorem dX12_isUnder_27 : decode cX12_isUnder 27 = .ok (.iconst 0, 1) := by decide +kernel
theorem dX12_isUnder_28 : decode cX12_isUnder 28 = .ok (.ireturn, 1) := by decide +kernel
def f_X12_isUnder_19 (S : Sh) (R : Rw) (I : Iw)  (x2 : Int32) : Option (Int32) := (if x2 < 0 then some (0 : Int32) else some (1 : Int32))
set_option maxHeartbeats 4000000 in
theorem b_X12_isUnder_19 {E : Ev} {p : Program} {l : Launch} {e : Env} {s : State} {m : MethodId} {args : Array Value} {below : List Frame} {meth : Method} {c : Code} (C : Cx E RX12 cX12_isUnder 3 p s m c) (hr : meth.sig.returnType = (some .boolean)) (hk : meth.locks = false) {S : Sh} {R : Rw} {I : Iw} {r : Int32}  : ∀ (x2 : Int32), f_X12_isUnder_19 S R I   x2 = some r → Wk E 3 p l e ({ frames := 1, cells := 0, slots := 0, locals := 20 } : Room) s m args below meth c 0 0 (MQ below (Qw E S R I (some (.int r))) args s 0 0 (fun q => E.1 ≤ q)) 19 [(2, .int x2)] [] S R I := by
  intro x2 h
  rw [f_X12_isUnder_19] at h
  refine k_iloadn (pc := 19) C dX12_isUnder_19 (i := 2) rfl 0 rfl ?_
  refine k_if_lt (pc := 20) C dX12_isUnder_20 (tgt := 27) (by decide) (fun hc2 => ?_) (fun hc2 => ?_)
  · rw [if_pos hc2] at h
    refine k_iconst (pc := 27) C (v := (0 : Int32)) dX12_isUnder_27 (by decide) ?_
    have h := Option.some.inj h
    subst h
    exact k_zret (pc := 28) C hr hk (Or.inl rfl) dX12_isUnder_28
  · rw [if_neg hc2] at h
    refine k_iconst (pc := 23) C (v := (1 : Int32)) dX12_isUnder_23 (by decide) ?_
    refine k_goto (pc := 24) C dX12_isUnder_24 (tgt := 28) (by decide) ?_
    have h := Option.some.inj h
    subst h
    exact k_zret (pc := 28) C hr hk (Or.inr rfl) dX12_isUnder_28
def f_X12_isUnder_2 (S : Sh) (R : Rw) (I : Iw)  : Nat → Int32 → Int32 → Option (Int32)
  | 0, _, _ => none
  | n + 1, x1, x2 => (if x2 < 0 then f_X12_isUnder_19 S R I  x2 else (if x2 = x1 then f_X12_isUnder_19 S R I  x2 else bd (f_X12_above S R I x2) (fun r4 => f_X12_isUnder_2 S R I  n x1 r4)))
set_option maxHeartbeats 4000000 in
theorem b_X12_isUnder_2 {E : Ev} {p : Program} {l : Launch} {e : Env} {s : State} {m : MethodId} {args : Array Value} {below : List Frame} {meth : Method} {c : Code} (C : Cx E RX12 cX12_isUnder 3 p s m c) (hr : meth.sig.returnType = (some .boolean)) (hk : meth.locks = false) {S : Sh} {R : Rw} {I : Iw} {r : Int32}  : ∀ (n : Nat) (x1 : Int32) (x2 : Int32), f_X12_isUnder_2 S R I  n x1 x2 = some r → Wk E 3 p l e ({ frames := 1, cells := 0, slots := 0, locals := 20 } : Room) s m args below meth c 0 0 (MQ below (Qw E S R I (some (.int r))) args s 0 0 (fun q => E.1 ≤ q)) 2 [(1, .int x1), (2, .int x2)] [] S R I := by
  intro n
  induction n with
  | zero =>
    intro x1 x2 h
    rw [f_X12_isUnder_2] at h
    cases h
  | succ n ih =>
    intro x1 x2 h
    rw [f_X12_isUnder_2] at h
    refine k_iloadn (pc := 2) C dX12_isUnder_2 (i := 2) rfl 1 rfl ?_
    refine k_if_lt (pc := 3) C dX12_isUnder_3 (tgt := 19) (by decide) (fun hc1 => ?_) (fun hc1 => ?_)
    · rw [if_pos hc1] at h
      refine k_loc (L2 := [(2, .int x2)]) [1] rfl ?_
      exact b_X12_isUnder_19 C hr hk  _ h
    · rw [if_neg hc1] at h
      refine k_iloadn (pc := 6) C dX12_isUnder_6 (i := 2) rfl 1 rfl ?_
      refine k_iloadn (pc := 7) C dX12_isUnder_7 (i := 1) rfl 0 rfl ?_
      refine k_icmp_eq (pc := 8) C dX12_isUnder_8 (tgt := 19) (by decide) (fun hc3 => ?_) (fun hc3 => ?_)
      · rw [if_pos hc3] at h
        refine k_loc (L2 := [(2, .int x2)]) [1] rfl ?_
        exact b_X12_isUnder_19 C hr hk  _ h
      · rw [if_neg hc3] at h
        refine k_iloadn (pc := 11) C dX12_isUnder_11 (i := 2) rfl 1 rfl ?_
        obtain ⟨r4, hr4, h⟩ := bd_e h
        refine k_S (pc := 12) (st := []) C (c_X12_above hr4) lkS_RX12_221 rfl rfl (Nat.le_of_ble_eq_true rfl) (Nat.le_of_ble_eq_true rfl) (Nat.le_of_ble_eq_true rfl) (Nat.le_of_ble_eq_true rfl) (Nat.le_of_ble_eq_true rfl) dX12_isUnder_12 ?_
        refine k_nf (cells2 := 0) (slots2 := 0) (st2 := [.int r4]) rfl rfl rfl ?_
        refine k_istoren (pc := 15) C dX12_isUnder_15 (i := 2) rfl (by decide) (L2 := [(1, .int x1), (2, .int r4)]) rfl ?_
        refine k_goto (pc := 16) C dX12_isUnder_16 (tgt := 2) (by decide) ?_
        exact ih _ _ h
def f_X12_isUnder (S : Sh) (R : Rw) (I : Iw)  (x0 : Int32) (x1 : Int32) : Option (Int32) := f_X12_isUnder_2 S R I  512 x1 x0
set_option maxHeartbeats 4000000 in
theorem b_X12_isUnder {E : Ev} {p : Program} {l : Launch} {e : Env} {s : State} {m : MethodId} {args : Array Value} {below : List Frame} {meth : Method} {c : Code} (C : Cx E RX12 cX12_isUnder 3 p s m c) (hr : meth.sig.returnType = (some .boolean)) (hk : meth.locks = false) {S : Sh} {R : Rw} {I : Iw} {r : Int32}  : ∀ (x0 : Int32) (x1 : Int32), f_X12_isUnder S R I   x0 x1 = some r → Wk E 3 p l e ({ frames := 1, cells := 0, slots := 0, locals := 20 } : Room) s m args below meth c 0 0 (MQ below (Qw E S R I (some (.int r))) args s 0 0 (fun q => E.1 ≤ q)) 0 [(0, .int x0), (1, .int x1)] [] S R I := by
  intro x0 x1 h
  rw [f_X12_isUnder] at h
  refine k_iloadn (pc := 0) C dX12_isUnder_0 (i := 0) rfl 0 rfl ?_
  refine k_istoren (pc := 1) C dX12_isUnder_1 (i := 2) rfl (by decide) (L2 := [(0, .int x0), (1, .int x1), (2, .int x0)]) rfl ?_
  refine k_loc (L2 := [(1, .int x1), (2, .int x0)]) [1, 2] rfl ?_
  exact b_X12_isUnder_2 C hr hk  _ _ _ h
theorem c_X12_isUnder {E : Ev} {l : Launch} {S : Sh} {R : Rw} {I : Iw} {x0 : Int32} {x1 : Int32} {r : Int32} (h : f_X12_isUnder S R I x0 x1 = some r) : Mt E l yX12_isUnder cX12_isUnder 3 (some .boolean) 1 20 [.int x0, .int x1] S R I S R I (some (.int r)) 0 0 := mt_of (by decide) (Nat.le_of_ble_eq_true rfl) (fun p e s m args below meth c C hr hk hn => b_X12_isUnder C hr hk _ _ h)
theorem lkS_RX12_224 : LkS RX12 224 yX12_isUnder cX12_isUnder 3 (some .boolean) 2 := ⟨(t6_in 48 (by decide +kernel) rfl), (t6_in 49 (by decide +kernel) rfl), (t6_in 50 (by decide +kernel) rfl), (t1_in 7 (by decide +kernel) rfl), by decide, by decide +kernel⟩
theorem lkV_RX12_228 : LkV RX12 228 RX12 yX12_holds cX12_holds 7 (some .boolean) 3 := ⟨(t6_in 54 (by decide +kernel) rfl), (t6_in 56 (by decide +kernel) rfl), (t0_in 44 (by decide +kernel) rfl), (t6_in 57 (by decide +kernel) rfl), (t1_in 7 (by decide +kernel) rfl), by decide, by decide +kernel⟩
theorem dX12_worthOf_0 : decode cX12_worthOf 0 = .ok (.aload_n 0, 1) := by decide +kernel
theorem dX12_worthOf_1 : decode cX12_worthOf 1 = .ok (.iload_n 1, 1) := by decide +kernel
theorem dX12_worthOf_2 : decode cX12_worthOf 2 = .ok (.iconst 3, 1) := by decide +kernel
theorem dX12_worthOf_3 : decode cX12_worthOf 3 = .ok (.invokevirtual 209, 3) := by decide +kernel
theorem dX12_worthOf_6 : decode cX12_worthOf 6 = .ok (.istore_n 2, 1) := by decide +kernel
theorem dX12_worthOf_7 : decode cX12_worthOf 7 = .ok (.iconst 0, 1) := by decide +kernel
theorem dX12_worthOf_8 : decode cX12_worthOf 8 = .ok (.istore_n 3, 1) := by decide +kernel
theorem dX12_worthOf_9 : decode cX12_worthOf 9 = .ok (.iload_n 3, 1) := by decide +kernel
theorem dX12_worthOf_10 : decode cX12_worthOf 10 = .ok (.aload_n 0, 1) := by decide +kernel
theorem dX12_worthOf_11 : decode cX12_worthOf 11 = .ok (.getfield 9, 3) := by decide +kernel
theorem dX12_worthOf_14 : decode cX12_worthOf 14 = .ok (.iconst 4, 1) := by decide +kernel
theorem dX12_worthOf_15 : decode cX12_worthOf 15 = .ok (.iaload, 1) := by decide +kernel
theorem dX12_worthOf_16 : decode cX12_worthOf 16 = .ok (.if_icmp .ge 122, 3) := by decide +kernel
theorem dX12_worthOf_19 : decode cX12_worthOf 19 = .ok (.bipush 73, 2) := by decide +kernel
theorem dX12_worthOf_21 : decode cX12_worthOf 21 = .ok (.iconst 3, 1) := by decide +kernel
theorem dX12_worthOf_22 : decode cX12_worthOf 22 = .ok (.iload_n 3, 1) := by decide +kernel
theorem dX12_worthOf_23 : decode cX12_worthOf 23 = .ok (.imul, 1) := by decide +kernel
theorem dX12_worthOf_24 : decode cX12_worthOf 24 = .ok (.iadd, 1) := by decide +kernel
theorem dX12_worthOf_25 : decode cX12_worthOf 25 = .ok (.istore 4, 2) := by decide +kernel
theorem dX12_worthOf_27 : decode cX12_worthOf 27 = .ok (.aload_n 0, 1) := by decide +kernel
theorem dX12_worthOf_28 : decode cX12_worthOf 28 = .ok (.iload_n 1, 1) := by decide +kernel
theorem dX12_worthOf_29 : decode cX12_worthOf 29 = .ok (.iconst 0, 1) := by decide +kernel
theorem dX12_worthOf_30 : decode cX12_worthOf 30 = .ok (.invokevirtual 209, 3) := by decide +kernel
theorem dX12_worthOf_33 : decode cX12_worthOf 33 = .ok (.aload_n 0, 1) := by decide +kernel
theorem dX12_worthOf_34 : decode cX12_worthOf 34 = .ok (.getfield 9, 3) := by decide +kernel
theorem dX12_worthOf_37 : decode cX12_worthOf 37 = .ok (.iload 4, 2) := by decide +kernel
theorem dX12_worthOf_39 : decode cX12_worthOf 39 = .ok (.iconst 0, 1) := by decide +kernel
theorem dX12_worthOf_40 : decode cX12_worthOf 40 = .ok (.iadd, 1) := by decide +kernel
theorem dX12_worthOf_41 : decode cX12_worthOf 41 = .ok (.iaload, 1) := by decide +kernel
theorem dX12_worthOf_42 : decode cX12_worthOf 42 = .ok (.invokestatic 224, 3) := by decide +kernel
theorem dX12_worthOf_45 : decode cX12_worthOf 45 = .ok (.ifCond .eq 87, 3) := by decide +kernel
theorem dX12_worthOf_48 : decode cX12_worthOf 48 = .ok (.aload_n 0, 1) := by decide +kernel
theorem dX12_worthOf_49 : decode cX12_worthOf 49 = .ok (.aload_n 0, 1) := by decide +kernel
theorem dX12_worthOf_50 : decode cX12_worthOf 50 = .ok (.getfield 9, 3) := by decide +kernel
theorem dX12_worthOf_53 : decode cX12_worthOf 53 = .ok (.bipush 97, 2) := by decide +kernel
theorem dX12_worthOf_55 : decode cX12_worthOf 55 = .ok (.iload_n 3, 1) := by decide +kernel
theorem dX12_worthOf_56 : decode cX12_worthOf 56 = .ok (.iadd, 1) := by decide +kernel
theorem dX12_worthOf_57 : decode cX12_worthOf 57 = .ok (.iaload, 1) := by decide +kernel
theorem dX12_worthOf_58 : decode cX12_worthOf 58 = .ok (.aload_n 0, 1) := by decide +kernel
theorem dX12_worthOf_59 : decode cX12_worthOf 59 = .ok (.getfield 9, 3) := by decide +kernel
theorem dX12_worthOf_62 : decode cX12_worthOf 62 = .ok (.bipush 97, 2) := by decide +kernel
theorem dX12_worthOf_64 : decode cX12_worthOf 64 = .ok (.iload_n 3, 1) := by decide +kernel
theorem dX12_worthOf_65 : decode cX12_worthOf 65 = .ok (.iadd, 1) := by decide +kernel
theorem dX12_worthOf_66 : decode cX12_worthOf 66 = .ok (.iconst 1, 1) := by decide +kernel
theorem dX12_worthOf_67 : decode cX12_worthOf 67 = .ok (.iadd, 1) := by decide +kernel
theorem dX12_worthOf_68 : decode cX12_worthOf 68 = .ok (.iaload, 1) := by decide +kernel
theorem dX12_worthOf_69 : decode cX12_worthOf 69 = .ok (.iload_n 1, 1) := by decide +kernel
theorem dX12_worthOf_70 : decode cX12_worthOf 70 = .ok (.invokevirtual 228, 3) := by decide +kernel
theorem dX12_worthOf_73 : decode cX12_worthOf 73 = .ok (.ifCond .eq 59, 3) := by decide +kernel
theorem dX12_worthOf_76 : decode cX12_worthOf 76 = .ok (.aload_n 0, 1) := by decide +kernel
theorem dX12_worthOf_77 : decode cX12_worthOf 77 = .ok (.getfield 9, 3) := by decide +kernel
theorem dX12_worthOf_80 : decode cX12_worthOf 80 = .ok (.iload 4, 2) := by decide +kernel
theorem dX12_worthOf_82 : decode cX12_worthOf 82 = .ok (.iconst 2, 1) := by decide +kernel
theorem dX12_worthOf_83 : decode cX12_worthOf 83 = .ok (.iadd, 1) := by decide +kernel
theorem dX12_worthOf_84 : decode cX12_worthOf 84 = .ok (.iaload, 1) := by decide +kernel
theorem dX12_worthOf_85 : decode cX12_worthOf 85 = .ok (.istore 5, 2) := by decide +kernel
theorem dX12_worthOf_87 : decode cX12_worthOf 87 = .ok (.aload_n 0, 1) := by decide +kernel
theorem dX12_worthOf_88 : decode cX12_worthOf 88 = .ok (.getfield 9, 3) := by decide +kernel
theorem dX12_worthOf_91 : decode cX12_worthOf 91 = .ok (.iload 4, 2) := by decide +kernel
theorem dX12_worthOf_93 : decode cX12_worthOf 93 = .ok (.iconst 1, 1) := by decide +kernel
theorem dX12_worthOf_94 : decode cX12_worthOf 94 = .ok (.iadd, 1) := by decide +kernel
theorem dX12_worthOf_95 : decode cX12_worthOf 95 = .ok (.iaload, 1) := by decide +kernel
theorem dX12_worthOf_96 : decode cX12_worthOf 96 = .ok (.iconst 2, 1) := by decide +kernel
theorem dX12_worthOf_97 : decode cX12_worthOf 97 = .ok (.if_icmp .ne 7, 3) := by decide +kernel
theorem dX12_worthOf_100 : decode cX12_worthOf 100 = .ok (.iconst 0, 1) := by decide +kernel
theorem dX12_worthOf_101 : decode cX12_worthOf 101 = .ok (.goto 30, 3) := by decide +kernel
theorem dX12_worthOf_104 : decode cX12_worthOf 104 = .ok (.aload_n 0, 1) := by decide +kernel
theorem dX12_worthOf_105 : decode cX12_worthOf 105 = .ok (.getfield 9, 3) := by decide +kernel
theorem dX12_worthOf_108 : decode cX12_worthOf 108 = .ok (.iload 4, 2) := by decide +kernel
theorem dX12_worthOf_110 : decode cX12_worthOf 110 = .ok (.iconst 1, 1) := by decide +kernel
theorem dX12_worthOf_111 : decode cX12_worthOf 111 = .ok (.iadd, 1) := by decide +kernel
theorem dX12_worthOf_112 : decode cX12_worthOf 112 = .ok (.iaload, 1) := by decide +kernel
theorem dX12_worthOf_113 : decode cX12_worthOf 113 = .ok (.ifCond .ne 10, 3) := by decide +kernel
theorem dX12_worthOf_116 : decode cX12_worthOf 116 = .ok (.iload_n 2, 1) := by decide +kernel
theorem dX12_worthOf_117 : decode cX12_worthOf 117 = .ok (.iload 5, 2) := by decide +kernel
theorem dX12_worthOf_119 : decode cX12_worthOf 119 = .ok (.iadd, 1) := by decide +kernel
theorem dX12_worthOf_120 : decode cX12_worthOf 120 = .ok (.goto 11, 3) := by decide +kernel
theorem dX12_worthOf_123 : decode cX12_worthOf 123 = .ok (.iconst 0, 1) := by decide +kernel
theorem dX12_worthOf_124 : decode cX12_worthOf 124 = .ok (.iload_n 2, 1) := by decide +kernel
theorem dX12_worthOf_125 : decode cX12_worthOf 125 = .ok (.iload 5, 2) := by decide +kernel
theorem dX12_worthOf_127 : decode cX12_worthOf 127 = .ok (.isub, 1) := by decide +kernel
theorem dX12_worthOf_128 : decode cX12_worthOf 128 = .ok (.invokestatic 186, 3) := by decide +kernel
theorem dX12_worthOf_131 : decode cX12_worthOf 131 = .ok (.ireturn, 1) := by decide +kernel
theorem dX12_worthOf_132 : decode cX12_worthOf 132 = .ok (.iinc 3 1, 3) := by decide +kernel
theorem dX12_worthOf_135 : decode cX12_worthOf 135 = .ok (.goto (-126), 3) := by decide +kernel
theorem dX12_worthOf_138 : decode cX12_worthOf 138 = .ok (.iload_n 2, 1) := by decide +kernel
theorem dX12_worthOf_139 : decode cX12_worthOf 139 = .ok (.ireturn, 1) := by decide +kernel
def f_X12_worthOf_132 (S : Sh) (R : Rw) (ko9 : Iw → Nat → Int32 → Int32 → Int32 → Option (Iw × Int32)) (I : Iw) (a0 : Nat) (x1 : Int32) (x2 : Int32) (x3 : Int32) : Option (Iw × Int32) := ko9 I a0 x1 x2 (x3 + (1 : Int32))
set_option maxHeartbeats 4000000 in
theorem b_X12_worthOf_132 {E : Ev} {p : Program} {l : Launch} {e : Env} {s : State} {m : MethodId} {args : Array Value} {below : List Frame} {meth : Method} {c : Code} (C : Cx E RX12 cX12_worthOf 6 p s m c) (hr : meth.sig.returnType = (some .int)) (hk : meth.locks = false) {S : Sh} {R : Rw} {r : Iw × Int32}  {ko9 : Iw → Nat → Int32 → Int32 → Int32 → Option (Iw × Int32)} (hko9 : ∀ (I : Iw) (a0 : Nat) (x1 : Int32) (x2 : Int32) (x3 : Int32), ko9 I a0 x1 x2 x3 = some r → Wk E 6 p l e ({ frames := 4, cells := 0, slots := 0, locals := 91 } : Room) s m args below meth c 0 0 (MQ below (Qw E S R r.1 (some (.int r.2))) args s 0 0 (fun q => E.1 ≤ q)) 9 [(0, .ref (E.1 + a0)), (1, .int x1), (2, .int x2), (3, .int x3)] [] S R I) : ∀ (I : Iw) (a0 : Nat) (x1 : Int32) (x2 : Int32) (x3 : Int32), f_X12_worthOf_132 S R ko9  I a0 x1 x2 x3 = some r → Wk E 6 p l e ({ frames := 4, cells := 0, slots := 0, locals := 91 } : Room) s m args below meth c 0 0 (MQ below (Qw E S R r.1 (some (.int r.2))) args s 0 0 (fun q => E.1 ≤ q)) 132 [(0, .ref (E.1 + a0)), (1, .int x1), (2, .int x2), (3, .int x3)] [] S R I := by
  intro I a0 x1 x2 x3 h
  rw [f_X12_worthOf_132] at h
  refine k_iinc (pc := 132) C dX12_worthOf_132 3 rfl (v := x3 + (1 : Int32)) (by rfl) (by decide) (L2 := [(0, .ref (E.1 + a0)), (1, .int x1), (2, .int x2), (3, .int (x3 + (1 : Int32)))]) rfl ?_
  refine k_goto (pc := 135) C dX12_worthOf_135 (tgt := 9) (by decide) ?_
  exact hko9 _ _ _ _ _ h
def f_X12_worthOf_9 (S : Sh) (R : Rw)  : Nat → Iw → Nat → Int32 → Int32 → Int32 → Option (Iw × Int32)
  | 0, _, _, _, _, _ => none
  | n + 1, I, a0, x1, x2, x3 => gp (sok S a0 12 34) (rl (R a0 0) (fun b4 => gp (aok S 20 b4 (4 : Int32)) ((if (I b4 (4 : Int32).toNatClampNeg) ≤ x3 then some (I, x2) else bd (f_X12_goodIs S R I a0 x1 (0 : Int32)) (fun r7 => rl (R a0 0) (fun b8 => gp (aok S 20 b8 (((73 : Int32) + ((3 : Int32) * x3)) + (0 : Int32))) (bd (f_X12_isUnder S R I r7 (I b8 (((73 : Int32) + ((3 : Int32) * x3)) + (0 : Int32)).toNatClampNeg)) (fun r10 => (if r10 = 0 then f_X12_worthOf_132 S R (f_X12_worthOf_9 S R  n) I a0 x1 x2 x3 else rl (R a0 0) (fun b12 => gp (aok S 20 b12 ((97 : Int32) + x3)) (rl (R a0 0) (fun b14 => gp (aok S 20 b14 (((97 : Int32) + x3) + (1 : Int32))) (bd (f_X12_holds S R I a0 (I b12 ((97 : Int32) + x3).toNatClampNeg) (I b14 (((97 : Int32) + x3) + (1 : Int32)).toNatClampNeg) x1) (fun r16 => (if r16.2 = 0 then f_X12_worthOf_132 S R (f_X12_worthOf_9 S R  n) r16.1 a0 x1 x2 x3 else rl (R a0 0) (fun b18 => gp (aok S 20 b18 (((73 : Int32) + ((3 : Int32) * x3)) + (2 : Int32))) (lt (r16.1 b18 (((73 : Int32) + ((3 : Int32) * x3)) + (2 : Int32)).toNatClampNeg) (fun y20 => rl (R a0 0) (fun b21 => gp (aok S 20 b21 (((73 : Int32) + ((3 : Int32) * x3)) + (1 : Int32))) ((if (r16.1 b21 (((73 : Int32) + ((3 : Int32) * x3)) + (1 : Int32)).toNatClampNeg) = (2 : Int32) then some (r16.1, (0 : Int32)) else rl (R a0 0) (fun b24 => gp (aok S 20 b24 (((73 : Int32) + ((3 : Int32) * x3)) + (1 : Int32))) ((if (r16.1 b24 (((73 : Int32) + ((3 : Int32) * x3)) + (1 : Int32)).toNatClampNeg) = 0 then some (r16.1, x2 + y20) else some (r16.1, jmax (0 : Int32) (x2 - y20))))))))))))))))))))))))))
set_option maxHeartbeats 4000000 in
theorem b_X12_worthOf_9 {E : Ev} {p : Program} {l : Launch} {e : Env} {s : State} {m : MethodId} {args : Array Value} {below : List Frame} {meth : Method} {c : Code} (C : Cx E RX12 cX12_worthOf 6 p s m c) (hr : meth.sig.returnType = (some .int)) (hk : meth.locks = false) {S : Sh} {R : Rw} {r : Iw × Int32}  : ∀ (n : Nat) (I : Iw) (a0 : Nat) (x1 : Int32) (x2 : Int32) (x3 : Int32), f_X12_worthOf_9 S R  n I a0 x1 x2 x3 = some r → Wk E 6 p l e ({ frames := 4, cells := 0, slots := 0, locals := 91 } : Room) s m args below meth c 0 0 (MQ below (Qw E S R r.1 (some (.int r.2))) args s 0 0 (fun q => E.1 ≤ q)) 9 [(0, .ref (E.1 + a0)), (1, .int x1), (2, .int x2), (3, .int x3)] [] S R I := by
  intro n
  induction n with
  | zero =>
    intro I a0 x1 x2 x3 h
    rw [f_X12_worthOf_9] at h
    cases h
  | succ n ih =>
    intro I a0 x1 x2 x3 h
    rw [f_X12_worthOf_9] at h
    refine k_iloadn (pc := 9) C dX12_worthOf_9 (i := 3) rfl 3 rfl ?_
    refine k_aloadn (pc := 10) C dX12_worthOf_10 (i := 0) rfl 0 rfl ?_
    obtain ⟨hs30, h⟩ := gp_e h
    have hs3 := sok_e hs30
    obtain ⟨b4, hb4, h⟩ := rl_e h
    refine k_getR (pc := 11) C lkF_RX12_9_12 hs3 ir_12_0 hb4 dX12_worthOf_11 ?_
    refine k_iconst (pc := 14) C (v := (4 : Int32)) dX12_worthOf_14 (by decide) ?_
    obtain ⟨ha5, h⟩ := gp_e h
    refine k_iald (pc := 15) C ha5 dX12_worthOf_15 ?_
    refine k_icmp_ge (pc := 16) C dX12_worthOf_16 (tgt := 138) (by decide) (fun hc6 => ?_) (fun hc6 => ?_)
    · rw [if_pos hc6] at h
      refine k_iloadn (pc := 138) C dX12_worthOf_138 (i := 2) rfl 2 rfl ?_
      have h := Option.some.inj h
      subst h
      exact k_iret (pc := 139) C hr hk dX12_worthOf_139
    · rw [if_neg hc6] at h
      refine k_bipush (pc := 19) C (v := (73 : Int32)) dX12_worthOf_19 (by decide) ?_
      refine k_iconst (pc := 21) C (v := (3 : Int32)) dX12_worthOf_21 (by decide) ?_
      refine k_iloadn (pc := 22) C dX12_worthOf_22 (i := 3) rfl 3 rfl ?_
      refine k_imul (pc := 23) C dX12_worthOf_23 ?_
      refine k_iadd (pc := 24) C dX12_worthOf_24 ?_
      refine k_istore (pc := 25) C dX12_worthOf_25 (by decide) (L2 := [(0, .ref (E.1 + a0)), (1, .int x1), (2, .int x2), (3, .int x3), (4, .int ((73 : Int32) + ((3 : Int32) * x3)))]) rfl ?_
      refine k_aloadn (pc := 27) C dX12_worthOf_27 (i := 0) rfl 0 rfl ?_
      refine k_iloadn (pc := 28) C dX12_worthOf_28 (i := 1) rfl 1 rfl ?_
      refine k_iconst (pc := 29) C (v := (0 : Int32)) dX12_worthOf_29 (by decide) ?_
      obtain ⟨r7, hr7, h⟩ := bd_e h
      refine k_V (pc := 30) (st := []) C (c_X12_goodIs hr7) lkV_RX12_209 hs3 rfl rfl rfl (Nat.le_of_ble_eq_true rfl) (Nat.le_of_ble_eq_true rfl) (Nat.le_of_ble_eq_true rfl) (Nat.le_of_ble_eq_true rfl) (Nat.le_of_ble_eq_true rfl) dX12_worthOf_30 ?_
      refine k_nf (cells2 := 0) (slots2 := 0) (st2 := [.int r7]) rfl rfl rfl ?_
      refine k_aloadn (pc := 33) C dX12_worthOf_33 (i := 0) rfl 0 rfl ?_
      obtain ⟨b8, hb8, h⟩ := rl_e h
      refine k_getR (pc := 34) C lkF_RX12_9_12 hs3 ir_12_0 hb8 dX12_worthOf_34 ?_
      refine k_iload (pc := 37) C dX12_worthOf_37 4 rfl ?_
      refine k_iconst (pc := 39) C (v := (0 : Int32)) dX12_worthOf_39 (by decide) ?_
      refine k_iadd (pc := 40) C dX12_worthOf_40 ?_
      obtain ⟨ha9, h⟩ := gp_e h
      refine k_iald (pc := 41) C ha9 dX12_worthOf_41 ?_
      obtain ⟨r10, hr10, h⟩ := bd_e h
      refine k_S (pc := 42) (st := []) C (c_X12_isUnder hr10) lkS_RX12_224 rfl rfl (Nat.le_of_ble_eq_true rfl) (Nat.le_of_ble_eq_true rfl) (Nat.le_of_ble_eq_true rfl) (Nat.le_of_ble_eq_true rfl) (Nat.le_of_ble_eq_true rfl) dX12_worthOf_42 ?_
      refine k_nf (cells2 := 0) (slots2 := 0) (st2 := [.int r10]) rfl rfl rfl ?_
      refine k_if_eq (pc := 45) C dX12_worthOf_45 (tgt := 132) (by decide) (fun hc11 => ?_) (fun hc11 => ?_)
      · rw [if_pos hc11] at h
        refine k_loc (L2 := [(0, .ref (E.1 + a0)), (1, .int x1), (2, .int x2), (3, .int x3)]) [0, 1, 2, 3] rfl ?_
        exact b_X12_worthOf_132 C hr hk ih _ _ _ _ _ h
      · rw [if_neg hc11] at h
        refine k_aloadn (pc := 48) C dX12_worthOf_48 (i := 0) rfl 0 rfl ?_
        refine k_aloadn (pc := 49) C dX12_worthOf_49 (i := 0) rfl 0 rfl ?_
        obtain ⟨b12, hb12, h⟩ := rl_e h
        refine k_getR (pc := 50) C lkF_RX12_9_12 hs3 ir_12_0 hb12 dX12_worthOf_50 ?_
        refine k_bipush (pc := 53) C (v := (97 : Int32)) dX12_worthOf_53 (by decide) ?_
        refine k_iloadn (pc := 55) C dX12_worthOf_55 (i := 3) rfl 3 rfl ?_
        refine k_iadd (pc := 56) C dX12_worthOf_56 ?_
        obtain ⟨ha13, h⟩ := gp_e h
        refine k_iald (pc := 57) C ha13 dX12_worthOf_57 ?_
        refine k_aloadn (pc := 58) C dX12_worthOf_58 (i := 0) rfl 0 rfl ?_
        obtain ⟨b14, hb14, h⟩ := rl_e h
        refine k_getR (pc := 59) C lkF_RX12_9_12 hs3 ir_12_0 hb14 dX12_worthOf_59 ?_
        refine k_bipush (pc := 62) C (v := (97 : Int32)) dX12_worthOf_62 (by decide) ?_
        refine k_iloadn (pc := 64) C dX12_worthOf_64 (i := 3) rfl 3 rfl ?_
        refine k_iadd (pc := 65) C dX12_worthOf_65 ?_
        refine k_iconst (pc := 66) C (v := (1 : Int32)) dX12_worthOf_66 (by decide) ?_
        refine k_iadd (pc := 67) C dX12_worthOf_67 ?_
        obtain ⟨ha15, h⟩ := gp_e h
        refine k_iald (pc := 68) C ha15 dX12_worthOf_68 ?_
        refine k_iloadn (pc := 69) C dX12_worthOf_69 (i := 1) rfl 1 rfl ?_
        obtain ⟨r16, hr16, h⟩ := bd_e h
        refine k_V (pc := 70) (st := []) C (c_X12_holds hr16) lkV_RX12_228 hs3 rfl rfl rfl (Nat.le_of_ble_eq_true rfl) (Nat.le_of_ble_eq_true rfl) (Nat.le_of_ble_eq_true rfl) (Nat.le_of_ble_eq_true rfl) (Nat.le_of_ble_eq_true rfl) dX12_worthOf_70 ?_
        refine k_nf (cells2 := 0) (slots2 := 0) (st2 := [.int r16.2]) rfl rfl rfl ?_
        refine k_if_eq (pc := 73) C dX12_worthOf_73 (tgt := 132) (by decide) (fun hc17 => ?_) (fun hc17 => ?_)
        · rw [if_pos hc17] at h
          refine k_loc (L2 := [(0, .ref (E.1 + a0)), (1, .int x1), (2, .int x2), (3, .int x3)]) [0, 1, 2, 3] rfl ?_
          exact b_X12_worthOf_132 C hr hk ih _ _ _ _ _ h
        · rw [if_neg hc17] at h
          refine k_aloadn (pc := 76) C dX12_worthOf_76 (i := 0) rfl 0 rfl ?_
          obtain ⟨b18, hb18, h⟩ := rl_e h
          refine k_getR (pc := 77) C lkF_RX12_9_12 hs3 ir_12_0 hb18 dX12_worthOf_77 ?_
          refine k_iload (pc := 80) C dX12_worthOf_80 4 rfl ?_
          refine k_iconst (pc := 82) C (v := (2 : Int32)) dX12_worthOf_82 (by decide) ?_
          refine k_iadd (pc := 83) C dX12_worthOf_83 ?_
          obtain ⟨ha19, h⟩ := gp_e h
          refine k_iald (pc := 84) C ha19 dX12_worthOf_84 ?_
          obtain ⟨y20, ey20, h⟩ := lt_e h
          rw [← ey20]
          refine k_istore (pc := 85) C dX12_worthOf_85 (by decide) (L2 := [(0, .ref (E.1 + a0)), (1, .int x1), (2, .int x2), (3, .int x3), (4, .int ((73 : Int32) + ((3 : Int32) * x3))), (5, .int y20)]) rfl ?_
          refine k_aloadn (pc := 87) C dX12_worthOf_87 (i := 0) rfl 0 rfl ?_
          obtain ⟨b21, hb21, h⟩ := rl_e h
          refine k_getR (pc := 88) C lkF_RX12_9_12 hs3 ir_12_0 hb21 dX12_worthOf_88 ?_
          refine k_iload (pc := 91) C dX12_worthOf_91 4 rfl ?_
          refine k_iconst (pc := 93) C (v := (1 : Int32)) dX12_worthOf_93 (by decide) ?_
          refine k_iadd (pc := 94) C dX12_worthOf_94 ?_
          obtain ⟨ha22, h⟩ := gp_e h
          refine k_iald (pc := 95) C ha22 dX12_worthOf_95 ?_
          refine k_iconst (pc := 96) C (v := (2 : Int32)) dX12_worthOf_96 (by decide) ?_
          refine k_icmp_ne (pc := 97) C dX12_worthOf_97 (tgt := 104) (by decide) (fun hc23 => ?_) (fun hc23 => ?_)
          · rw [if_neg hc23] at h
            refine k_aloadn (pc := 104) C dX12_worthOf_104 (i := 0) rfl 0 rfl ?_
            obtain ⟨b24, hb24, h⟩ := rl_e h
            refine k_getR (pc := 105) C lkF_RX12_9_12 hs3 ir_12_0 hb24 dX12_worthOf_105 ?_
            refine k_iload (pc := 108) C dX12_worthOf_108 4 rfl ?_
            refine k_iconst (pc := 110) C (v := (1 : Int32)) dX12_worthOf_110 (by decide) ?_
            refine k_iadd (pc := 111) C dX12_worthOf_111 ?_
            obtain ⟨ha25, h⟩ := gp_e h
            refine k_iald (pc := 112) C ha25 dX12_worthOf_112 ?_
            refine k_if_ne (pc := 113) C dX12_worthOf_113 (tgt := 123) (by decide) (fun hc26 => ?_) (fun hc26 => ?_)
            · rw [if_neg hc26] at h
              refine k_iconst (pc := 123) C (v := (0 : Int32)) dX12_worthOf_123 (by decide) ?_
              refine k_iloadn (pc := 124) C dX12_worthOf_124 (i := 2) rfl 2 rfl ?_
              refine k_iload (pc := 125) C dX12_worthOf_125 5 rfl ?_
              refine k_isub (pc := 127) C dX12_worthOf_127 ?_
              refine k_mmax (pc := 128) (st := []) C (t6_in 11 (by decide +kernel) rfl) (Nat.le_of_ble_eq_true rfl) (Nat.le_of_ble_eq_true rfl) (Nat.le_of_ble_eq_true rfl) (Nat.le_of_ble_eq_true rfl) (Nat.le_of_ble_eq_true rfl) dX12_worthOf_128 ?_
              have h := Option.some.inj h
              subst h
              exact k_iret (pc := 131) C hr hk dX12_worthOf_131
            · rw [if_pos hc26] at h
              refine k_iloadn (pc := 116) C dX12_worthOf_116 (i := 2) rfl 2 rfl ?_
              refine k_iload (pc := 117) C dX12_worthOf_117 5 rfl ?_
              refine k_iadd (pc := 119) C dX12_worthOf_119 ?_
              refine k_goto (pc := 120) C dX12_worthOf_120 (tgt := 131) (by decide) ?_
              have h := Option.some.inj h
              subst h
              exact k_iret (pc := 131) C hr hk dX12_worthOf_131
          · rw [if_pos hc23] at h
            refine k_iconst (pc := 100) C (v := (0 : Int32)) dX12_worthOf_100 (by decide) ?_
            refine k_goto (pc := 101) C dX12_worthOf_101 (tgt := 131) (by decide) ?_
            have h := Option.some.inj h
            subst h
            exact k_iret (pc := 131) C hr hk dX12_worthOf_131
def f_X12_worthOf (S : Sh) (R : Rw)  (I : Iw) (a0 : Nat) (x1 : Int32) : Option (Iw × Int32) := gp (sok S a0 12 34) (bd (f_X12_goodIs S R I a0 x1 (3 : Int32)) (fun r2 => f_X12_worthOf_9 S R  512 I a0 x1 r2 (0 : Int32)))
set_option maxHeartbeats 4000000 in
theorem b_X12_worthOf {E : Ev} {p : Program} {l : Launch} {e : Env} {s : State} {m : MethodId} {args : Array Value} {below : List Frame} {meth : Method} {c : Code} (C : Cx E RX12 cX12_worthOf 6 p s m c) (hr : meth.sig.returnType = (some .int)) (hk : meth.locks = false) {S : Sh} {R : Rw} {r : Iw × Int32}  : ∀ (I : Iw) (a0 : Nat) (x1 : Int32), f_X12_worthOf S R   I a0 x1 = some r → Wk E 6 p l e ({ frames := 4, cells := 0, slots := 0, locals := 91 } : Room) s m args below meth c 0 0 (MQ below (Qw E S R r.1 (some (.int r.2))) args s 0 0 (fun q => E.1 ≤ q)) 0 [(0, .ref (E.1 + a0)), (1, .int x1)] [] S R I := by
  intro I a0 x1 h
  rw [f_X12_worthOf] at h
  refine k_aloadn (pc := 0) C dX12_worthOf_0 (i := 0) rfl 0 rfl ?_
  refine k_iloadn (pc := 1) C dX12_worthOf_1 (i := 1) rfl 1 rfl ?_
  refine k_iconst (pc := 2) C (v := (3 : Int32)) dX12_worthOf_2 (by decide) ?_
  obtain ⟨hs10, h⟩ := gp_e h
  have hs1 := sok_e hs10
  obtain ⟨r2, hr2, h⟩ := bd_e h
  refine k_V (pc := 3) (st := []) C (c_X12_goodIs hr2) lkV_RX12_209 hs1 rfl rfl rfl (Nat.le_of_ble_eq_true rfl) (Nat.le_of_ble_eq_true rfl) (Nat.le_of_ble_eq_true rfl) (Nat.le_of_ble_eq_true rfl) (Nat.le_of_ble_eq_true rfl) dX12_worthOf_3 ?_
  refine k_nf (cells2 := 0) (slots2 := 0) (st2 := [.int r2]) rfl rfl rfl ?_
  refine k_istoren (pc := 6) C dX12_worthOf_6 (i := 2) rfl (by decide) (L2 := [(0, .ref (E.1 + a0)), (1, .int x1), (2, .int r2)]) rfl ?_
  refine k_iconst (pc := 7) C (v := (0 : Int32)) dX12_worthOf_7 (by decide) ?_
  refine k_istoren (pc := 8) C dX12_worthOf_8 (i := 3) rfl (by decide) (L2 := [(0, .ref (E.1 + a0)), (1, .int x1), (2, .int r2), (3, .int (0 : Int32))]) rfl ?_
  exact b_X12_worthOf_9 C hr hk  _ _ _ _ _ _ h
theorem c_X12_worthOf {E : Ev} {l : Launch} {S : Sh} {R : Rw} {I : Iw} {a0 : Nat} {x1 : Int32} {r : Iw × Int32} (h : f_X12_worthOf S R I a0 x1 = some r) : Mt E l yX12_worthOf cX12_worthOf 6 (some .int) 4 91 [.ref (E.1 + a0), .int x1] S R I S R r.1 (some (.int r.2)) 0 0 := mt_of (by decide) (Nat.le_of_ble_eq_true rfl) (fun p e s m args below meth c C hr hk hn => b_X12_worthOf C hr hk _ _ _ h)
theorem lkV_RX12_230 : LkV RX12 230 RX12 yX12_worthOf cX12_worthOf 6 (some .int) 1 := ⟨(t6_in 44 (by decide +kernel) rfl), (t6_in 46 (by decide +kernel) rfl), (t0_in 43 (by decide +kernel) rfl), (t6_in 47 (by decide +kernel) rfl), (t1_in 7 (by decide +kernel) rfl), by decide, by decide +kernel⟩
theorem dX12_fee_0 : decode cX12_fee 0 = .ok (.aload_n 0, 1) := by decide +kernel
theorem dX12_fee_1 : decode cX12_fee 1 = .ok (.iload_n 1, 1) := by decide +kernel
theorem dX12_fee_2 : decode cX12_fee 2 = .ok (.invokevirtual 230, 3) := by decide +kernel
theorem dX12_fee_5 : decode cX12_fee 5 = .ok (.istore_n 2, 1) := by decide +kernel
theorem dX12_fee_6 : decode cX12_fee 6 = .ok (.aload_n 0, 1) := by decide +kernel
theorem dX12_fee_7 : decode cX12_fee 7 = .ok (.iload_n 1, 1) := by decide +kernel
theorem dX12_fee_8 : decode cX12_fee 8 = .ok (.iconst 0, 1) := by decide +kernel
theorem dX12_fee_9 : decode cX12_fee 9 = .ok (.invokevirtual 209, 3) := by decide +kernel
theorem dX12_fee_12 : decode cX12_fee 12 = .ok (.tableswitch 76 1 4 #[32, 36, 48, 71], 32) := by decide +kernel
theorem dX12_fee_44 : decode cX12_fee 44 = .ok (.iload_n 2, 1) := by decide +kernel
theorem dX12_fee_45 : decode cX12_fee 45 = .ok (.iconst 2, 1) := by decide +kernel
theorem dX12_fee_46 : decode cX12_fee 46 = .ok (.idiv, 1) := by decide +kernel
theorem dX12_fee_47 : decode cX12_fee 47 = .ok (.ireturn, 1) := by decide +kernel
theorem dX12_fee_48 : decode cX12_fee 48 = .ok (.iload_n 2, 1) := by decide +kernel
theorem dX12_fee_49 : decode cX12_fee 49 = .ok (.bipush 10, 2) := by decide +kernel
theorem dX12_fee_51 : decode cX12_fee 51 = .ok (.aload_n 0, 1) := by decide +kernel
theorem dX12_fee_52 : decode cX12_fee 52 = .ok (.getfield 9, 3) := by decide +kernel
theorem dX12_fee_55 : decode cX12_fee 55 = .ok (.iconst 1, 1) := by decide +kernel
theorem dX12_fee_56 : decode cX12_fee 56 = .ok (.iaload, 1) := by decide +kernel
theorem dX12_fee_57 : decode cX12_fee 57 = .ok (.imul, 1) := by decide +kernel
theorem dX12_fee_58 : decode cX12_fee 58 = .ok (.iadd, 1) := by decide +kernel
theorem dX12_fee_59 : decode cX12_fee 59 = .ok (.ireturn, 1) := by decide +kernel
theorem dX12_fee_60 : decode cX12_fee 60 = .ok (.iconst 0, 1) := by decide +kernel
theorem dX12_fee_61 : decode cX12_fee 61 = .ok (.iload_n 2, 1) := by decide +kernel
theorem dX12_fee_62 : decode cX12_fee 62 = .ok (.bipush 10, 2) := by decide +kernel
theorem dX12_fee_64 : decode cX12_fee 64 = .ok (.aload_n 0, 1) := by decide +kernel
theorem dX12_fee_65 : decode cX12_fee 65 = .ok (.getfield 9, 3) := by decide +kernel
theorem dX12_fee_68 : decode cX12_fee 68 = .ok (.iconst 1, 1) := by decide +kernel
theorem dX12_fee_69 : decode cX12_fee 69 = .ok (.iaload, 1) := by decide +kernel
theorem dX12_fee_70 : decode cX12_fee 70 = .ok (.imul, 1) := by decide +kernel
theorem dX12_fee_71 : decode cX12_fee 71 = .ok (.iadd, 1) := by decide +kernel
theorem dX12_fee_72 : decode cX12_fee 72 = .ok (.aload_n 0, 1) := by decide +kernel
theorem dX12_fee_73 : decode cX12_fee 73 = .ok (.iload_n 1, 1) := by decide +kernel
theorem dX12_fee_74 : decode cX12_fee 74 = .ok (.iconst 2, 1) := by decide +kernel
theorem dX12_fee_75 : decode cX12_fee 75 = .ok (.invokevirtual 209, 3) := by decide +kernel
theorem dX12_fee_78 : decode cX12_fee 78 = .ok (.isub, 1) := by decide +kernel
theorem dX12_fee_79 : decode cX12_fee 79 = .ok (.invokestatic 186, 3) := by decide +kernel
theorem dX12_fee_82 : decode cX12_fee 82 = .ok (.ireturn, 1) := by decide +kernel
theorem dX12_fee_83 : decode cX12_fee 83 = .ok (.iload_n 2, 1) := by decide +kernel
theorem dX12_fee_84 : decode cX12_fee 84 = .ok (.bipush 50, 2) := by decide +kernel
theorem dX12_fee_86 : decode cX12_fee 86 = .ok (.iadd, 1) := by decide +kernel
theorem dX12_fee_87 : decode cX12_fee 87 = .ok (.ireturn, 1) := by decide +kernel
theorem dX12_fee_88 : decode cX12_fee 88 = .ok (.iconst 2, 1) := by decide +kernel
theorem dX12_fee_89 : decode cX12_fee 89 = .ok (.iload_n 2, 1) := by decide +kernel
theorem dX12_fee_90 : decode cX12_fee 90 = .ok (.bipush 50, 2) := by decide +kernel
theorem dX12_fee_92 : decode cX12_fee 92 = .ok (.iadd, 1) := by decide +kernel
theorem dX12_fee_93 : decode cX12_fee 93 = .ok (.imul, 1) := by decide +kernel
theorem dX12_fee_94 : decode cX12_fee 94 = .ok (.ireturn, 1) := by decide +kernel
def f_X12_fee (S : Sh) (R : Rw)  (I : Iw) (a0 : Nat) (x1 : Int32) : Option (Iw × Int32) := gp (sok S a0 12 34) (bd (f_X12_worthOf S R I a0 x1) (fun r2 => bd (f_X12_goodIs S R r2.1 a0 x1 (0 : Int32)) (fun r3 => (if r3 = (1 : Int32) then some (r2.1, r2.2 / (2 : Int32)) else (if r3 = (2 : Int32) then rl (R a0 0) (fun b4 => gp (aok S 20 b4 (1 : Int32)) (some (r2.1, r2.2 + ((10 : Int32) * (r2.1 b4 (1 : Int32).toNatClampNeg))))) else (if r3 = (3 : Int32) then rl (R a0 0) (fun b6 => gp (aok S 20 b6 (1 : Int32)) (bd (f_X12_goodIs S R r2.1 a0 x1 (2 : Int32)) (fun r8 => some (r2.1, jmax (0 : Int32) ((r2.2 + ((10 : Int32) * (r2.1 b6 (1 : Int32).toNatClampNeg))) - r8))))) else (if r3 = (4 : Int32) then some (r2.1, r2.2 + (50 : Int32)) else some (r2.1, (2 : Int32) * (r2.2 + (50 : Int32))))))))))
set_option maxHeartbeats 4000000 in
theorem b_X12_fee {E : Ev} {p : Program} {l : Launch} {e : Env} {s : State} {m : MethodId} {args : Array Value} {below : List Frame} {meth : Method} {c : Code} (C : Cx E RX12 cX12_fee 3 p s m c) (hr : meth.sig.returnType = (some .int)) (hk : meth.locks = false) {S : Sh} {R : Rw} {r : Iw × Int32}  : ∀ (I : Iw) (a0 : Nat) (x1 : Int32), f_X12_fee S R   I a0 x1 = some r → Wk E 3 p l e ({ frames := 5, cells := 0, slots := 0, locals := 116 } : Room) s m args below meth c 0 0 (MQ below (Qw E S R r.1 (some (.int r.2))) args s 0 0 (fun q => E.1 ≤ q)) 0 [(0, .ref (E.1 + a0)), (1, .int x1)] [] S R I := by
  intro I a0 x1 h
  rw [f_X12_fee] at h
  refine k_aloadn (pc := 0) C dX12_fee_0 (i := 0) rfl 0 rfl ?_
  refine k_iloadn (pc := 1) C dX12_fee_1 (i := 1) rfl 1 rfl ?_
  obtain ⟨hs10, h⟩ := gp_e h
  have hs1 := sok_e hs10
  obtain ⟨r2, hr2, h⟩ := bd_e h
  refine k_V (pc := 2) (st := []) C (c_X12_worthOf hr2) lkV_RX12_230 hs1 rfl rfl rfl (Nat.le_of_ble_eq_true rfl) (Nat.le_of_ble_eq_true rfl) (Nat.le_of_ble_eq_true rfl) (Nat.le_of_ble_eq_true rfl) (Nat.le_of_ble_eq_true rfl) dX12_fee_2 ?_
  refine k_nf (cells2 := 0) (slots2 := 0) (st2 := [.int r2.2]) rfl rfl rfl ?_
  refine k_istoren (pc := 5) C dX12_fee_5 (i := 2) rfl (by decide) (L2 := [(0, .ref (E.1 + a0)), (1, .int x1), (2, .int r2.2)]) rfl ?_
  refine k_aloadn (pc := 6) C dX12_fee_6 (i := 0) rfl 0 rfl ?_
  refine k_iloadn (pc := 7) C dX12_fee_7 (i := 1) rfl 1 rfl ?_
  refine k_iconst (pc := 8) C (v := (0 : Int32)) dX12_fee_8 (by decide) ?_
  obtain ⟨r3, hr3, h⟩ := bd_e h
  refine k_V (pc := 9) (st := []) C (c_X12_goodIs hr3) lkV_RX12_209 hs1 rfl rfl rfl (Nat.le_of_ble_eq_true rfl) (Nat.le_of_ble_eq_true rfl) (Nat.le_of_ble_eq_true rfl) (Nat.le_of_ble_eq_true rfl) (Nat.le_of_ble_eq_true rfl) dX12_fee_9 ?_
  refine k_nf (cells2 := 0) (slots2 := 0) (st2 := [.int r3]) rfl rfl rfl ?_
  by_cases hc9 : r3 = (1 : Int32)
  · rw [if_pos hc9] at h
    refine k_tabIn (pc := 12) C dX12_fee_12 (by rw [hc9]; decide) (by rw [hc9]; decide) (off := 32) (by rw [hc9]; rfl) (tgt := 44) (by decide) ?_
    refine k_iloadn (pc := 44) C dX12_fee_44 (i := 2) rfl 2 rfl ?_
    refine k_iconst (pc := 45) C (v := (2 : Int32)) dX12_fee_45 (by decide) ?_
    refine k_idiv (pc := 46) C dX12_fee_46 (by decide) ?_
    have h := Option.some.inj h
    subst h
    exact k_iret (pc := 47) C hr hk dX12_fee_47
  · rw [if_neg hc9] at h
    by_cases hc10 : r3 = (2 : Int32)
    · rw [if_pos hc10] at h
      refine k_tabIn (pc := 12) C dX12_fee_12 (by rw [hc10]; decide) (by rw [hc10]; decide) (off := 36) (by rw [hc10]; rfl) (tgt := 48) (by decide) ?_
      refine k_iloadn (pc := 48) C dX12_fee_48 (i := 2) rfl 2 rfl ?_
      refine k_bipush (pc := 49) C (v := (10 : Int32)) dX12_fee_49 (by decide) ?_
      refine k_aloadn (pc := 51) C dX12_fee_51 (i := 0) rfl 0 rfl ?_
      obtain ⟨b4, hb4, h⟩ := rl_e h
      refine k_getR (pc := 52) C lkF_RX12_9_12 hs1 ir_12_0 hb4 dX12_fee_52 ?_
      refine k_iconst (pc := 55) C (v := (1 : Int32)) dX12_fee_55 (by decide) ?_
      obtain ⟨ha5, h⟩ := gp_e h
      refine k_iald (pc := 56) C ha5 dX12_fee_56 ?_
      refine k_imul (pc := 57) C dX12_fee_57 ?_
      refine k_iadd (pc := 58) C dX12_fee_58 ?_
      have h := Option.some.inj h
      subst h
      exact k_iret (pc := 59) C hr hk dX12_fee_59
    · rw [if_neg hc10] at h
      by_cases hc11 : r3 = (3 : Int32)
      · rw [if_pos hc11] at h
        refine k_tabIn (pc := 12) C dX12_fee_12 (by rw [hc11]; decide) (by rw [hc11]; decide) (off := 48) (by rw [hc11]; rfl) (tgt := 60) (by decide) ?_
        refine k_iconst (pc := 60) C (v := (0 : Int32)) dX12_fee_60 (by decide) ?_
        refine k_iloadn (pc := 61) C dX12_fee_61 (i := 2) rfl 2 rfl ?_
        refine k_bipush (pc := 62) C (v := (10 : Int32)) dX12_fee_62 (by decide) ?_
        refine k_aloadn (pc := 64) C dX12_fee_64 (i := 0) rfl 0 rfl ?_
        obtain ⟨b6, hb6, h⟩ := rl_e h
        refine k_getR (pc := 65) C lkF_RX12_9_12 hs1 ir_12_0 hb6 dX12_fee_65 ?_
        refine k_iconst (pc := 68) C (v := (1 : Int32)) dX12_fee_68 (by decide) ?_
        obtain ⟨ha7, h⟩ := gp_e h
        refine k_iald (pc := 69) C ha7 dX12_fee_69 ?_
        refine k_imul (pc := 70) C dX12_fee_70 ?_
        refine k_iadd (pc := 71) C dX12_fee_71 ?_
        refine k_aloadn (pc := 72) C dX12_fee_72 (i := 0) rfl 0 rfl ?_
        refine k_iloadn (pc := 73) C dX12_fee_73 (i := 1) rfl 1 rfl ?_
        refine k_iconst (pc := 74) C (v := (2 : Int32)) dX12_fee_74 (by decide) ?_
        obtain ⟨r8, hr8, h⟩ := bd_e h
        refine k_V (pc := 75) (st := [.int (r2.2 + ((10 : Int32) * (r2.1 b6 (1 : Int32).toNatClampNeg))), .int (0 : Int32)]) C (c_X12_goodIs hr8) lkV_RX12_209 hs1 rfl rfl rfl (Nat.le_of_ble_eq_true rfl) (Nat.le_of_ble_eq_true rfl) (Nat.le_of_ble_eq_true rfl) (Nat.le_of_ble_eq_true rfl) (Nat.le_of_ble_eq_true rfl) dX12_fee_75 ?_
        refine k_nf (cells2 := 0) (slots2 := 0) (st2 := [.int r8, .int (r2.2 + ((10 : Int32) * (r2.1 b6 (1 : Int32).toNatClampNeg))), .int (0 : Int32)]) rfl rfl rfl ?_
        refine k_isub (pc := 78) C dX12_fee_78 ?_
        refine k_mmax (pc := 79) (st := []) C (t6_in 11 (by decide +kernel) rfl) (Nat.le_of_ble_eq_true rfl) (Nat.le_of_ble_eq_true rfl) (Nat.le_of_ble_eq_true rfl) (Nat.le_of_ble_eq_true rfl) (Nat.le_of_ble_eq_true rfl) dX12_fee_79 ?_
        have h := Option.some.inj h
        subst h
        exact k_iret (pc := 82) C hr hk dX12_fee_82
      · rw [if_neg hc11] at h
        by_cases hc12 : r3 = (4 : Int32)
        · rw [if_pos hc12] at h
          refine k_tabIn (pc := 12) C dX12_fee_12 (by rw [hc12]; decide) (by rw [hc12]; decide) (off := 71) (by rw [hc12]; rfl) (tgt := 83) (by decide) ?_
          refine k_iloadn (pc := 83) C dX12_fee_83 (i := 2) rfl 2 rfl ?_
          refine k_bipush (pc := 84) C (v := (50 : Int32)) dX12_fee_84 (by decide) ?_
          refine k_iadd (pc := 86) C dX12_fee_86 ?_
          have h := Option.some.inj h
          subst h
          exact k_iret (pc := 87) C hr hk dX12_fee_87
        · rw [if_neg hc12] at h
          refine k_tabOut (pc := 12) C dX12_fee_12 (tab_out r3 1 4 (fun z h1 h2 hz => by
            have hz2 : z = 1 ∨ z = 2 ∨ z = 3 ∨ z = 4 := by omega
            rcases hz2 with rfl | rfl | rfl | rfl
            · exact hc9 (Int32.toInt_inj.mp (hz.trans (by decide)))
            · exact hc10 (Int32.toInt_inj.mp (hz.trans (by decide)))
            · exact hc11 (Int32.toInt_inj.mp (hz.trans (by decide)))
            · exact hc12 (Int32.toInt_inj.mp (hz.trans (by decide)))
            ) ) (tgt := 88) (by decide) ?_
          refine k_iconst (pc := 88) C (v := (2 : Int32)) dX12_fee_88 (by decide) ?_
          refine k_iloadn (pc := 89) C dX12_fee_89 (i := 2) rfl 2 rfl ?_
          refine k_bipush (pc := 90) C (v := (50 : Int32)) dX12_fee_90 (by decide) ?_
          refine k_iadd (pc := 92) C dX12_fee_92 ?_
          refine k_imul (pc := 93) C dX12_fee_93 ?_
          have h := Option.some.inj h
          subst h
          exact k_iret (pc := 94) C hr hk dX12_fee_94
theorem c_X12_fee {E : Ev} {l : Launch} {S : Sh} {R : Rw} {I : Iw} {a0 : Nat} {x1 : Int32} {r : Iw × Int32} (h : f_X12_fee S R I a0 x1 = some r) : Mt E l yX12_fee cX12_fee 3 (some .int) 5 116 [.ref (E.1 + a0), .int x1] S R I S R r.1 (some (.int r.2)) 0 0 := mt_of (by decide) (Nat.le_of_ble_eq_true rfl) (fun p e s m args below meth c C hr hk hn => b_X12_fee C hr hk _ _ _ h)
