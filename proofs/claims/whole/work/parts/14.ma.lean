/-! X7_fee, X7_last, X2_study, X2_wins, X2_leastCost, X2_leadsOn, X2_leastNext -/
theorem lkF_RX7_21_7 : LkF RX7 21 7 3 := ⟨RX7, TX7, 16, "UnlikeNeighbours$Shed", fc7, by decide, (t1_in 77 (by decide +kernel) rfl), Or.inl rfl⟩
theorem lkF_RX7_37_7 : LkF RX7 37 7 11 := ⟨RX7, TX7, 16, "UnlikeNeighbours$Shed", fc7, by decide, (t1_in 97 (by decide +kernel) rfl), Or.inl rfl⟩
theorem lkV_RX7_99 : LkV RX7 99 RX5 yX5_changeFor cX5_changeFor 4 (some .int) 2 := ⟨(t2_in 73 (by decide +kernel) rfl), (t2_in 74 (by decide +kernel) rfl), (t2_in 75 (by decide +kernel) rfl), (t2_in 76 (by decide +kernel) rfl), (t1_in 3 (by decide +kernel) rfl), by decide, by decide +kernel⟩
theorem lkF_RX7_9_7 : LkF RX7 9 7 0 := ⟨RX7, TX7, 16, "UnlikeNeighbours$Shed", fc7, by decide, (t1_in 69 (by decide +kernel) rfl), Or.inl rfl⟩
theorem lkF_RX7_106_7 : LkF RX7 106 7 10 := ⟨RX7, TX7, 16, "UnlikeNeighbours$Shed", fc7, by decide, (t1_in 96 (by decide +kernel) rfl), Or.inl rfl⟩
theorem lkF_RX7_18_7 : LkF RX7 18 7 2 := ⟨RX7, TX7, 16, "UnlikeNeighbours$Shed", fc7, by decide, (t1_in 74 (by decide +kernel) rfl), Or.inl rfl⟩
theorem dX7_fee_0 : decode cX7_fee 0 = .ok (.aload_n 0, 1) := by decide +kernel
theorem dX7_fee_1 : decode cX7_fee 1 = .ok (.iload_n 1, 1) := by decide +kernel
theorem dX7_fee_2 : decode cX7_fee 2 = .ok (.invokevirtual 62, 3) := by decide +kernel
theorem dX7_fee_5 : decode cX7_fee 5 = .ok (.ifCond .ne 5, 3) := by decide +kernel
theorem dX7_fee_8 : decode cX7_fee 8 = .ok (.iconst 0, 1) := by decide +kernel
theorem dX7_fee_9 : decode cX7_fee 9 = .ok (.ireturn, 1) := by decide +kernel
theorem dX7_fee_10 : decode cX7_fee 10 = .ok (.iconst 0, 1) := by decide +kernel
theorem dX7_fee_11 : decode cX7_fee 11 = .ok (.aload_n 0, 1) := by decide +kernel
theorem dX7_fee_12 : decode cX7_fee 12 = .ok (.getfield 21, 3) := by decide +kernel
theorem dX7_fee_15 : decode cX7_fee 15 = .ok (.iload_n 1, 1) := by decide +kernel
theorem dX7_fee_16 : decode cX7_fee 16 = .ok (.iaload, 1) := by decide +kernel
theorem dX7_fee_17 : decode cX7_fee 17 = .ok (.aload_n 0, 1) := by decide +kernel
theorem dX7_fee_18 : decode cX7_fee 18 = .ok (.getfield 37, 3) := by decide +kernel
theorem dX7_fee_21 : decode cX7_fee 21 = .ok (.aload_n 0, 1) := by decide +kernel
theorem dX7_fee_22 : decode cX7_fee 22 = .ok (.iload_n 1, 1) := by decide +kernel
theorem dX7_fee_23 : decode cX7_fee 23 = .ok (.invokevirtual 99, 3) := by decide +kernel
theorem dX7_fee_26 : decode cX7_fee 26 = .ok (.iadd, 1) := by decide +kernel
theorem dX7_fee_27 : decode cX7_fee 27 = .ok (.invokestatic 103, 3) := by decide +kernel
theorem dX7_fee_30 : decode cX7_fee 30 = .ok (.istore_n 2, 1) := by decide +kernel
theorem dX7_fee_31 : decode cX7_fee 31 = .ok (.aload_n 0, 1) := by decide +kernel
theorem dX7_fee_32 : decode cX7_fee 32 = .ok (.getfield 9, 3) := by decide +kernel
theorem dX7_fee_35 : decode cX7_fee 35 = .ok (.iload_n 1, 1) := by decide +kernel
theorem dX7_fee_36 : decode cX7_fee 36 = .ok (.iaload, 1) := by decide +kernel
theorem dX7_fee_37 : decode cX7_fee 37 = .ok (.tableswitch 71 1 4 #[31, 35, 45, 66], 31) := by decide +kernel
theorem dX7_fee_68 : decode cX7_fee 68 = .ok (.iload_n 2, 1) := by decide +kernel
theorem dX7_fee_69 : decode cX7_fee 69 = .ok (.iconst 2, 1) := by decide +kernel
theorem dX7_fee_70 : decode cX7_fee 70 = .ok (.idiv, 1) := by decide +kernel
theorem dX7_fee_71 : decode cX7_fee 71 = .ok (.ireturn, 1) := by decide +kernel
theorem dX7_fee_72 : decode cX7_fee 72 = .ok (.iload_n 2, 1) := by decide +kernel
theorem dX7_fee_73 : decode cX7_fee 73 = .ok (.bipush 10, 2) := by decide +kernel
theorem dX7_fee_75 : decode cX7_fee 75 = .ok (.aload_n 0, 1) := by decide +kernel
theorem dX7_fee_76 : decode cX7_fee 76 = .ok (.getfield 106, 3) := by decide +kernel
theorem dX7_fee_79 : decode cX7_fee 79 = .ok (.imul, 1) := by decide +kernel
theorem dX7_fee_80 : decode cX7_fee 80 = .ok (.iadd, 1) := by decide +kernel
theorem dX7_fee_81 : decode cX7_fee 81 = .ok (.ireturn, 1) := by decide +kernel
theorem dX7_fee_82 : decode cX7_fee 82 = .ok (.iconst 0, 1) := by decide +kernel
theorem dX7_fee_83 : decode cX7_fee 83 = .ok (.iload_n 2, 1) := by decide +kernel
theorem dX7_fee_84 : decode cX7_fee 84 = .ok (.bipush 10, 2) := by decide +kernel
theorem dX7_fee_86 : decode cX7_fee 86 = .ok (.aload_n 0, 1) := by decide +kernel
theorem dX7_fee_87 : decode cX7_fee 87 = .ok (.getfield 106, 3) := by decide +kernel
theorem dX7_fee_90 : decode cX7_fee 90 = .ok (.imul, 1) := by decide +kernel
theorem dX7_fee_91 : decode cX7_fee 91 = .ok (.iadd, 1) := by decide +kernel
theorem dX7_fee_92 : decode cX7_fee 92 = .ok (.aload_n 0, 1) := by decide +kernel
theorem dX7_fee_93 : decode cX7_fee 93 = .ok (.getfield 18, 3) := by decide +kernel
theorem dX7_fee_96 : decode cX7_fee 96 = .ok (.iload_n 1, 1) := by decide +kernel
theorem dX7_fee_97 : decode cX7_fee 97 = .ok (.iaload, 1) := by decide +kernel
theorem dX7_fee_98 : decode cX7_fee 98 = .ok (.isub, 1) := by decide +kernel
theorem dX7_fee_99 : decode cX7_fee 99 = .ok (.invokestatic 103, 3) := by decide +kernel
theorem dX7_fee_102 : decode cX7_fee 102 = .ok (.ireturn, 1) := by decide +kernel
theorem dX7_fee_103 : decode cX7_fee 103 = .ok (.iload_n 2, 1) := by decide +kernel
theorem dX7_fee_104 : decode cX7_fee 104 = .ok (.bipush 50, 2) := by decide +kernel
theorem dX7_fee_106 : decode cX7_fee 106 = .ok (.iadd, 1) := by decide +kernel
theorem dX7_fee_107 : decode cX7_fee 107 = .ok (.ireturn, 1) := by decide +kernel
theorem dX7_fee_108 : decode cX7_fee 108 = .ok (.iconst 2, 1) := by decide +kernel
theorem dX7_fee_109 : decode cX7_fee 109 = .ok (.iload_n 2, 1) := by decide +kernel
theorem dX7_fee_110 : decode cX7_fee 110 = .ok (.bipush 50, 2) := by decide +kernel
theorem dX7_fee_112 : decode cX7_fee 112 = .ok (.iadd, 1) := by decide +kernel
theorem dX7_fee_113 : decode cX7_fee 113 = .ok (.imul, 1) := by decide +kernel
theorem dX7_fee_114 : decode cX7_fee 114 = .ok (.ireturn, 1) := by decide +kernel
def f_X7_fee (S : Sh) (R : Rw) (I : Iw)  (a0 : Nat) (x1 : Int32) : Option (Int32) := gp (sok S a0 7 16) (bd (f_X7_has S R I a0 x1) (fun r2 => (if r2 = 0 then some (0 : Int32) else rl (R a0 3) (fun b4 => gp (aok S 20 b4 x1) (rl (R a0 11) (fun b6 => gp (sok S b6 5 8) (bd (f_X5_changeFor S R I b6 a0 x1) (fun r8 => rl (R a0 0) (fun b9 => gp (aok S 20 b9 x1) ((if (I b9 x1.toNatClampNeg) = (1 : Int32) then some ((jmax (0 : Int32) ((I b4 x1.toNatClampNeg) + r8)) / (2 : Int32)) else (if (I b9 x1.toNatClampNeg) = (2 : Int32) then some ((jmax (0 : Int32) ((I b4 x1.toNatClampNeg) + r8)) + ((10 : Int32) * (I a0 10))) else (if (I b9 x1.toNatClampNeg) = (3 : Int32) then rl (R a0 2) (fun b11 => gp (aok S 20 b11 x1) (some (jmax (0 : Int32) (((jmax (0 : Int32) ((I b4 x1.toNatClampNeg) + r8)) + ((10 : Int32) * (I a0 10))) - (I b11 x1.toNatClampNeg))))) else (if (I b9 x1.toNatClampNeg) = (4 : Int32) then some ((jmax (0 : Int32) ((I b4 x1.toNatClampNeg) + r8)) + (50 : Int32)) else some ((2 : Int32) * ((jmax (0 : Int32) ((I b4 x1.toNatClampNeg) + r8)) + (50 : Int32)))))))))))))))))
set_option maxHeartbeats 4000000 in
theorem b_X7_fee {E : Ev} {p : Program} {l : Launch} {e : Env} {s : State} {m : MethodId} {args : Array Value} {below : List Frame} {meth : Method} {c : Code} (C : Cx E RX7 cX7_fee 3 p s m c) (hr : meth.sig.returnType = (some .int)) (hk : meth.locks = false) {S : Sh} {R : Rw} {I : Iw} {r : Int32}  : ∀ (a0 : Nat) (x1 : Int32), f_X7_fee S R I   a0 x1 = some r → Wk E 3 p l e ({ frames := 4, cells := 0, slots := 0, locals := 95 } : Room) s m args below meth c 0 0 (MQ below (Qw E S R I (some (.int r))) args s 0 0 (fun q => E.1 ≤ q)) 0 [(0, .ref (E.1 + a0)), (1, .int x1)] [] S R I := by
  intro a0 x1 h
  rw [f_X7_fee] at h
  refine k_aloadn (pc := 0) C dX7_fee_0 (i := 0) rfl 0 rfl ?_
  refine k_iloadn (pc := 1) C dX7_fee_1 (i := 1) rfl 1 rfl ?_
  obtain ⟨hs10, h⟩ := gp_e h
  have hs1 := sok_e hs10
  obtain ⟨r2, hr2, h⟩ := bd_e h
  refine k_V (pc := 2) (st := []) C (c_X7_has hr2) lkV_RX7_62 hs1 rfl rfl rfl (Nat.le_of_ble_eq_true rfl) (Nat.le_of_ble_eq_true rfl) (Nat.le_of_ble_eq_true rfl) (Nat.le_of_ble_eq_true rfl) (Nat.le_of_ble_eq_true rfl) dX7_fee_2 ?_
  refine k_nf (cells2 := 0) (slots2 := 0) (st2 := [.int r2]) rfl rfl rfl ?_
  refine k_if_ne (pc := 5) C dX7_fee_5 (tgt := 10) (by decide) (fun hc3 => ?_) (fun hc3 => ?_)
  · rw [if_neg hc3] at h
    refine k_iconst (pc := 10) C (v := (0 : Int32)) dX7_fee_10 (by decide) ?_
    refine k_aloadn (pc := 11) C dX7_fee_11 (i := 0) rfl 0 rfl ?_
    obtain ⟨b4, hb4, h⟩ := rl_e h
    refine k_getR (pc := 12) C lkF_RX7_21_7 hs1 ir_7_3 hb4 dX7_fee_12 ?_
    refine k_iloadn (pc := 15) C dX7_fee_15 (i := 1) rfl 1 rfl ?_
    obtain ⟨ha5, h⟩ := gp_e h
    refine k_iald (pc := 16) C ha5 dX7_fee_16 ?_
    refine k_aloadn (pc := 17) C dX7_fee_17 (i := 0) rfl 0 rfl ?_
    obtain ⟨b6, hb6, h⟩ := rl_e h
    refine k_getR (pc := 18) C lkF_RX7_37_7 hs1 ir_7_11 hb6 dX7_fee_18 ?_
    refine k_aloadn (pc := 21) C dX7_fee_21 (i := 0) rfl 0 rfl ?_
    refine k_iloadn (pc := 22) C dX7_fee_22 (i := 1) rfl 1 rfl ?_
    obtain ⟨hs70, h⟩ := gp_e h
    have hs7 := sok_e hs70
    obtain ⟨r8, hr8, h⟩ := bd_e h
    refine k_V (pc := 23) (st := [.int (I b4 x1.toNatClampNeg), .int (0 : Int32)]) C (c_X5_changeFor hr8) lkV_RX7_99 hs7 rfl rfl rfl (Nat.le_of_ble_eq_true rfl) (Nat.le_of_ble_eq_true rfl) (Nat.le_of_ble_eq_true rfl) (Nat.le_of_ble_eq_true rfl) (Nat.le_of_ble_eq_true rfl) dX7_fee_23 ?_
    refine k_nf (cells2 := 0) (slots2 := 0) (st2 := [.int r8, .int (I b4 x1.toNatClampNeg), .int (0 : Int32)]) rfl rfl rfl ?_
    refine k_iadd (pc := 26) C dX7_fee_26 ?_
    refine k_mmax (pc := 27) (st := []) C (t2_in 93 (by decide +kernel) rfl) (Nat.le_of_ble_eq_true rfl) (Nat.le_of_ble_eq_true rfl) (Nat.le_of_ble_eq_true rfl) (Nat.le_of_ble_eq_true rfl) (Nat.le_of_ble_eq_true rfl) dX7_fee_27 ?_
    refine k_istoren (pc := 30) C dX7_fee_30 (i := 2) rfl (by decide) (L2 := [(0, .ref (E.1 + a0)), (1, .int x1), (2, .int (jmax (0 : Int32) ((I b4 x1.toNatClampNeg) + r8)))]) rfl ?_
    refine k_aloadn (pc := 31) C dX7_fee_31 (i := 0) rfl 0 rfl ?_
    obtain ⟨b9, hb9, h⟩ := rl_e h
    refine k_getR (pc := 32) C lkF_RX7_9_7 hs1 ir_7_0 hb9 dX7_fee_32 ?_
    refine k_iloadn (pc := 35) C dX7_fee_35 (i := 1) rfl 1 rfl ?_
    obtain ⟨ha10, h⟩ := gp_e h
    refine k_iald (pc := 36) C ha10 dX7_fee_36 ?_
    by_cases hc13 : (I b9 x1.toNatClampNeg) = (1 : Int32)
    · rw [if_pos hc13] at h
      refine k_tabIn (pc := 37) C dX7_fee_37 (by rw [hc13]; decide) (by rw [hc13]; decide) (off := 31) (by rw [hc13]; rfl) (tgt := 68) (by decide) ?_
      refine k_iloadn (pc := 68) C dX7_fee_68 (i := 2) rfl 2 rfl ?_
      refine k_iconst (pc := 69) C (v := (2 : Int32)) dX7_fee_69 (by decide) ?_
      refine k_idiv (pc := 70) C dX7_fee_70 (by decide) ?_
      have h := Option.some.inj h
      subst h
      exact k_iret (pc := 71) C hr hk dX7_fee_71
    · rw [if_neg hc13] at h
      by_cases hc14 : (I b9 x1.toNatClampNeg) = (2 : Int32)
      · rw [if_pos hc14] at h
        refine k_tabIn (pc := 37) C dX7_fee_37 (by rw [hc14]; decide) (by rw [hc14]; decide) (off := 35) (by rw [hc14]; rfl) (tgt := 72) (by decide) ?_
        refine k_iloadn (pc := 72) C dX7_fee_72 (i := 2) rfl 2 rfl ?_
        refine k_bipush (pc := 73) C (v := (10 : Int32)) dX7_fee_73 (by decide) ?_
        refine k_aloadn (pc := 75) C dX7_fee_75 (i := 0) rfl 0 rfl ?_
        refine k_getI (pc := 76) C lkF_RX7_106_7 hs1 ir_7_10 dX7_fee_76 ?_
        refine k_imul (pc := 79) C dX7_fee_79 ?_
        refine k_iadd (pc := 80) C dX7_fee_80 ?_
        have h := Option.some.inj h
        subst h
        exact k_iret (pc := 81) C hr hk dX7_fee_81
      · rw [if_neg hc14] at h
        by_cases hc15 : (I b9 x1.toNatClampNeg) = (3 : Int32)
        · rw [if_pos hc15] at h
          refine k_tabIn (pc := 37) C dX7_fee_37 (by rw [hc15]; decide) (by rw [hc15]; decide) (off := 45) (by rw [hc15]; rfl) (tgt := 82) (by decide) ?_
          refine k_iconst (pc := 82) C (v := (0 : Int32)) dX7_fee_82 (by decide) ?_
          refine k_iloadn (pc := 83) C dX7_fee_83 (i := 2) rfl 2 rfl ?_
          refine k_bipush (pc := 84) C (v := (10 : Int32)) dX7_fee_84 (by decide) ?_
          refine k_aloadn (pc := 86) C dX7_fee_86 (i := 0) rfl 0 rfl ?_
          refine k_getI (pc := 87) C lkF_RX7_106_7 hs1 ir_7_10 dX7_fee_87 ?_
          refine k_imul (pc := 90) C dX7_fee_90 ?_
          refine k_iadd (pc := 91) C dX7_fee_91 ?_
          refine k_aloadn (pc := 92) C dX7_fee_92 (i := 0) rfl 0 rfl ?_
          obtain ⟨b11, hb11, h⟩ := rl_e h
          refine k_getR (pc := 93) C lkF_RX7_18_7 hs1 ir_7_2 hb11 dX7_fee_93 ?_
          refine k_iloadn (pc := 96) C dX7_fee_96 (i := 1) rfl 1 rfl ?_
          obtain ⟨ha12, h⟩ := gp_e h
          refine k_iald (pc := 97) C ha12 dX7_fee_97 ?_
          refine k_isub (pc := 98) C dX7_fee_98 ?_
          refine k_mmax (pc := 99) (st := []) C (t2_in 93 (by decide +kernel) rfl) (Nat.le_of_ble_eq_true rfl) (Nat.le_of_ble_eq_true rfl) (Nat.le_of_ble_eq_true rfl) (Nat.le_of_ble_eq_true rfl) (Nat.le_of_ble_eq_true rfl) dX7_fee_99 ?_
          have h := Option.some.inj h
          subst h
          exact k_iret (pc := 102) C hr hk dX7_fee_102
        · rw [if_neg hc15] at h
          by_cases hc16 : (I b9 x1.toNatClampNeg) = (4 : Int32)
          · rw [if_pos hc16] at h
            refine k_tabIn (pc := 37) C dX7_fee_37 (by rw [hc16]; decide) (by rw [hc16]; decide) (off := 66) (by rw [hc16]; rfl) (tgt := 103) (by decide) ?_
            refine k_iloadn (pc := 103) C dX7_fee_103 (i := 2) rfl 2 rfl ?_
            refine k_bipush (pc := 104) C (v := (50 : Int32)) dX7_fee_104 (by decide) ?_
            refine k_iadd (pc := 106) C dX7_fee_106 ?_
            have h := Option.some.inj h
            subst h
            exact k_iret (pc := 107) C hr hk dX7_fee_107
          · rw [if_neg hc16] at h
            refine k_tabOut (pc := 37) C dX7_fee_37 (tab_out (I b9 x1.toNatClampNeg) 1 4 (fun z h1 h2 hz => by
              have hz2 : z = 1 ∨ z = 2 ∨ z = 3 ∨ z = 4 := by omega
              rcases hz2 with rfl | rfl | rfl | rfl
              · exact hc13 (Int32.toInt_inj.mp (hz.trans (by decide)))
              · exact hc14 (Int32.toInt_inj.mp (hz.trans (by decide)))
              · exact hc15 (Int32.toInt_inj.mp (hz.trans (by decide)))
              · exact hc16 (Int32.toInt_inj.mp (hz.trans (by decide)))
              ) ) (tgt := 108) (by decide) ?_
            refine k_iconst (pc := 108) C (v := (2 : Int32)) dX7_fee_108 (by decide) ?_
            refine k_iloadn (pc := 109) C dX7_fee_109 (i := 2) rfl 2 rfl ?_
            refine k_bipush (pc := 110) C (v := (50 : Int32)) dX7_fee_110 (by decide) ?_
            refine k_iadd (pc := 112) C dX7_fee_112 ?_
            refine k_imul (pc := 113) C dX7_fee_113 ?_
            have h := Option.some.inj h
            subst h
            exact k_iret (pc := 114) C hr hk dX7_fee_114
  · rw [if_pos hc3] at h
    refine k_iconst (pc := 8) C (v := (0 : Int32)) dX7_fee_8 (by decide) ?_
    have h := Option.some.inj h
    subst h
    exact k_iret (pc := 9) C hr hk dX7_fee_9
theorem c_X7_fee {E : Ev} {l : Launch} {S : Sh} {R : Rw} {I : Iw} {a0 : Nat} {x1 : Int32} {r : Int32} (h : f_X7_fee S R I a0 x1 = some r) : Mt E l yX7_fee cX7_fee 3 (some .int) 4 95 [.ref (E.1 + a0), .int x1] S R I S R I (some (.int r)) 0 0 := mt_of (by decide) (Nat.le_of_ble_eq_true rfl) (fun p e s m args below meth c C hr hk hn => b_X7_fee C hr hk _ _ h)
theorem lkF_RX7_82_7 : LkF RX7 82 7 8 := ⟨RX7, TX7, 16, "UnlikeNeighbours$Shed", fc7, by decide, (t1_in 89 (by decide +kernel) rfl), Or.inl rfl⟩
theorem lkF_RX7_27_7 : LkF RX7 27 7 7 := ⟨RX7, TX7, 16, "UnlikeNeighbours$Shed", fc7, by decide, (t1_in 87 (by decide +kernel) rfl), Or.inl rfl⟩
theorem dX7_last_0 : decode cX7_last 0 = .ok (.aload_n 0, 1) := by decide +kernel
theorem dX7_last_1 : decode cX7_last 1 = .ok (.getfield 82, 3) := by decide +kernel
theorem dX7_last_4 : decode cX7_last 4 = .ok (.ifCond .le 17, 3) := by decide +kernel
theorem dX7_last_7 : decode cX7_last 7 = .ok (.aload_n 0, 1) := by decide +kernel
theorem dX7_last_8 : decode cX7_last 8 = .ok (.getfield 27, 3) := by decide +kernel
theorem dX7_last_11 : decode cX7_last 11 = .ok (.aload_n 0, 1) := by decide +kernel
theorem dX7_last_12 : decode cX7_last 12 = .ok (.getfield 82, 3) := by decide +kernel
theorem dX7_last_15 : decode cX7_last 15 = .ok (.iconst 1, 1) := by decide +kernel
theorem dX7_last_16 : decode cX7_last 16 = .ok (.isub, 1) := by decide +kernel
theorem dX7_last_17 : decode cX7_last 17 = .ok (.iaload, 1) := by decide +kernel
theorem dX7_last_18 : decode cX7_last 18 = .ok (.goto 4, 3) := by decide +kernel
theorem dX7_last_21 : decode cX7_last 21 = .ok (.iconst (-1), 1) := by decide +kernel
theorem dX7_last_22 : decode cX7_last 22 = .ok (.ireturn, 1) := by decide +kernel
def f_X7_last (S : Sh) (R : Rw) (I : Iw)  (a0 : Nat) : Option (Int32) := gp (sok S a0 7 16) ((if (I a0 8) ≤ 0 then some (-1 : Int32) else rl (R a0 7) (fun b3 => gp (aok S 20 b3 ((I a0 8) - (1 : Int32))) (some (I b3 ((I a0 8) - (1 : Int32)).toNatClampNeg)))))
set_option maxHeartbeats 4000000 in
theorem b_X7_last {E : Ev} {p : Program} {l : Launch} {e : Env} {s : State} {m : MethodId} {args : Array Value} {below : List Frame} {meth : Method} {c : Code} (C : Cx E RX7 cX7_last 1 p s m c) (hr : meth.sig.returnType = (some .int)) (hk : meth.locks = false) {S : Sh} {R : Rw} {I : Iw} {r : Int32}  : ∀ (a0 : Nat), f_X7_last S R I   a0 = some r → Wk E 1 p l e ({ frames := 0, cells := 0, slots := 0, locals := 0 } : Room) s m args below meth c 0 0 (MQ below (Qw E S R I (some (.int r))) args s 0 0 (fun q => E.1 ≤ q)) 0 [(0, .ref (E.1 + a0))] [] S R I := by
  intro a0 h
  rw [f_X7_last] at h
  refine k_aloadn (pc := 0) C dX7_last_0 (i := 0) rfl 0 rfl ?_
  obtain ⟨hs10, h⟩ := gp_e h
  have hs1 := sok_e hs10
  refine k_getI (pc := 1) C lkF_RX7_82_7 hs1 ir_7_8 dX7_last_1 ?_
  refine k_if_le (pc := 4) C dX7_last_4 (tgt := 21) (by decide) (fun hc2 => ?_) (fun hc2 => ?_)
  · rw [if_pos hc2] at h
    refine k_iconst (pc := 21) C (v := (-1 : Int32)) dX7_last_21 (by decide) ?_
    have h := Option.some.inj h
    subst h
    exact k_iret (pc := 22) C hr hk dX7_last_22
  · rw [if_neg hc2] at h
    refine k_aloadn (pc := 7) C dX7_last_7 (i := 0) rfl 0 rfl ?_
    obtain ⟨b3, hb3, h⟩ := rl_e h
    refine k_getR (pc := 8) C lkF_RX7_27_7 hs1 ir_7_7 hb3 dX7_last_8 ?_
    refine k_aloadn (pc := 11) C dX7_last_11 (i := 0) rfl 0 rfl ?_
    refine k_getI (pc := 12) C lkF_RX7_82_7 hs1 ir_7_8 dX7_last_12 ?_
    refine k_iconst (pc := 15) C (v := (1 : Int32)) dX7_last_15 (by decide) ?_
    refine k_isub (pc := 16) C dX7_last_16 ?_
    obtain ⟨ha4, h⟩ := gp_e h
    refine k_iald (pc := 17) C ha4 dX7_last_17 ?_
    refine k_goto (pc := 18) C dX7_last_18 (tgt := 22) (by decide) ?_
    have h := Option.some.inj h
    subst h
    exact k_iret (pc := 22) C hr hk dX7_last_22
theorem c_X7_last {E : Ev} {l : Launch} {S : Sh} {R : Rw} {I : Iw} {a0 : Nat} {r : Int32} (h : f_X7_last S R I a0 = some r) : Mt E l yX7_last cX7_last 1 (some .int) 0 0 [.ref (E.1 + a0)] S R I S R I (some (.int r)) 0 0 := mt_of (by decide) (Nat.le_of_ble_eq_true rfl) (fun p e s m args below meth c C hr hk hn => b_X7_last C hr hk _ h)
theorem lkP_RX2_38_2 : LkP RX2 38 2 2 .int := ⟨RX2, TX2, 11, "UnlikeNeighbours$Orders", fc2, by decide, (t1_in 178 (by decide +kernel) rfl), Or.inl rfl, rfl, by decide +kernel⟩
theorem lkF_RX2_45_7 : LkF RX2 45 7 6 := ⟨RX7, TX7, 16, "UnlikeNeighbours$Shed", fc7, by decide, (t1_in 84 (by decide +kernel) rfl), Or.inl rfl⟩
theorem lkP_RX2_56_2 : LkP RX2 56 2 8 .int := ⟨RX2, TX2, 11, "UnlikeNeighbours$Orders", fc2, by decide, (t1_in 184 (by decide +kernel) rfl), Or.inl rfl, rfl, by decide +kernel⟩
theorem lkV_RX2_62 : LkV RX2 62 RX7 yX7_last cX7_last 1 (some .int) 0 := ⟨(t3_in 97 (by decide +kernel) rfl), (t2_in 101 (by decide +kernel) rfl), (t2_in 102 (by decide +kernel) rfl), (t2_in 103 (by decide +kernel) rfl), (t1_in 2 (by decide +kernel) rfl), by decide, by decide +kernel⟩
theorem lkV_RX2_70 : LkV RX2 70 RX2 yX2_waysBehind cX2_waysBehind 3 (some .int) 2 := ⟨(t3_in 122 (by decide +kernel) rfl), (t3_in 123 (by decide +kernel) rfl), (t3_in 124 (by decide +kernel) rfl), (t3_in 125 (by decide +kernel) rfl), (t1_in 5 (by decide +kernel) rfl), by decide, by decide +kernel⟩
theorem lkV_RX2_59 : LkV RX2 59 RX7 yX7_fee cX7_fee 3 (some .int) 1 := ⟨(t3_in 96 (by decide +kernel) rfl), (t2_in 69 (by decide +kernel) rfl), (t2_in 70 (by decide +kernel) rfl), (t2_in 71 (by decide +kernel) rfl), (t1_in 2 (by decide +kernel) rfl), by decide, by decide +kernel⟩
theorem dX2_study_0 : decode cX2_study 0 = .ok (.aload_n 0, 1) := by decide +kernel
theorem dX2_study_1 : decode cX2_study 1 = .ok (.dup, 1) := by decide +kernel
theorem dX2_study_2 : decode cX2_study 2 = .ok (.getfield 38, 3) := by decide +kernel
theorem dX2_study_5 : decode cX2_study 5 = .ok (.iconst 1, 1) := by decide +kernel
theorem dX2_study_6 : decode cX2_study 6 = .ok (.iadd, 1) := by decide +kernel
theorem dX2_study_7 : decode cX2_study 7 = .ok (.putfield 38, 3) := by decide +kernel
theorem dX2_study_10 : decode cX2_study 10 = .ok (.aload_n 0, 1) := by decide +kernel
theorem dX2_study_11 : decode cX2_study 11 = .ok (.iconst 0, 1) := by decide +kernel
theorem dX2_study_12 : decode cX2_study 12 = .ok (.putfield 42, 3) := by decide +kernel
theorem dX2_study_15 : decode cX2_study 15 = .ok (.aload_n 0, 1) := by decide +kernel
theorem dX2_study_16 : decode cX2_study 16 = .ok (.aload_n 0, 1) := by decide +kernel
theorem dX2_study_17 : decode cX2_study 17 = .ok (.getfield 34, 3) := by decide +kernel
theorem dX2_study_20 : decode cX2_study 20 = .ok (.getfield 45, 3) := by decide +kernel
theorem dX2_study_23 : decode cX2_study 23 = .ok (.invokestatic 50, 3) := by decide +kernel
theorem dX2_study_26 : decode cX2_study 26 = .ok (.putfield 56, 3) := by decide +kernel
theorem dX2_study_29 : decode cX2_study 29 = .ok (.iconst 0, 1) := by decide +kernel
theorem dX2_study_30 : decode cX2_study 30 = .ok (.istore_n 1, 1) := by decide +kernel
theorem dX2_study_31 : decode cX2_study 31 = .ok (.iload_n 1, 1) := by decide +kernel
theorem dX2_study_32 : decode cX2_study 32 = .ok (.bipush 9, 2) := by decide +kernel
theorem dX2_study_34 : decode cX2_study 34 = .ok (.if_icmp .ge 23, 3) := by decide +kernel
theorem dX2_study_37 : decode cX2_study 37 = .ok (.aload_n 0, 1) := by decide +kernel
theorem dX2_study_38 : decode cX2_study 38 = .ok (.getfield 28, 3) := by decide +kernel
theorem dX2_study_41 : decode cX2_study 41 = .ok (.iload_n 1, 1) := by decide +kernel
theorem dX2_study_42 : decode cX2_study 42 = .ok (.aload_n 0, 1) := by decide +kernel
theorem dX2_study_43 : decode cX2_study 43 = .ok (.getfield 34, 3) := by decide +kernel
theorem dX2_study_46 : decode cX2_study 46 = .ok (.iload_n 1, 1) := by decide +kernel
theorem dX2_study_47 : decode cX2_study 47 = .ok (.invokevirtual 59, 3) := by decide +kernel
theorem dX2_study_50 : decode cX2_study 50 = .ok (.iastore, 1) := by decide +kernel
theorem dX2_study_51 : decode cX2_study 51 = .ok (.iinc 1 1, 3) := by decide +kernel
theorem dX2_study_54 : decode cX2_study 54 = .ok (.goto (-23), 3) := by decide +kernel
theorem dX2_study_57 : decode cX2_study 57 = .ok (.aload_n 0, 1) := by decide +kernel
theorem dX2_study_58 : decode cX2_study 58 = .ok (.aload_n 0, 1) := by decide +kernel
theorem dX2_study_59 : decode cX2_study 59 = .ok (.getfield 34, 3) := by decide +kernel
theorem dX2_study_62 : decode cX2_study 62 = .ok (.getfield 45, 3) := by decide +kernel
theorem dX2_study_65 : decode cX2_study 65 = .ok (.aload_n 0, 1) := by decide +kernel
theorem dX2_study_66 : decode cX2_study 66 = .ok (.getfield 34, 3) := by decide +kernel
theorem dX2_study_69 : decode cX2_study 69 = .ok (.invokevirtual 62, 3) := by decide +kernel
theorem dX2_study_72 : decode cX2_study 72 = .ok (.iconst 0, 1) := by decide +kernel
theorem dX2_study_73 : decode cX2_study 73 = .ok (.invokevirtual 66, 3) := by decide +kernel
theorem dX2_study_76 : decode cX2_study 76 = .ok (.aload_n 0, 1) := by decide +kernel
theorem dX2_study_77 : decode cX2_study 77 = .ok (.aload_n 0, 1) := by decide +kernel
theorem dX2_study_78 : decode cX2_study 78 = .ok (.getfield 34, 3) := by decide +kernel
theorem dX2_study_81 : decode cX2_study 81 = .ok (.getfield 45, 3) := by decide +kernel
theorem dX2_study_84 : decode cX2_study 84 = .ok (.aload_n 0, 1) := by decide +kernel
theorem dX2_study_85 : decode cX2_study 85 = .ok (.getfield 34, 3) := by decide +kernel
theorem dX2_study_88 : decode cX2_study 88 = .ok (.invokevirtual 62, 3) := by decide +kernel
theorem dX2_study_91 : decode cX2_study 91 = .ok (.invokevirtual 70, 3) := by decide +kernel
theorem dX2_study_94 : decode cX2_study 94 = .ok (.ireturn, 1) := by decide +kernel
def f_X2_study_31 (S : Sh) (R : Rw)  : Nat → Iw → Nat → Int32 → Option (Iw × Int32)
  | 0, _, _, _ => none
  | n + 1, I, a0, x1 => (if (9 : Int32) ≤ x1 then gp (sok S a0 2 11) (rl (R a0 0) (fun b10 => gp (sok S b10 7 16) (rl (R a0 0) (fun b12 => gp (sok S b12 7 16) (bd (f_X7_last S R I b12) (fun r14 => bd (f_X2_visit 12 S R I a0 (I b10 6) r14 (0 : Int32)) (fun r15 => rl (R a0 0) (fun b16 => gp (sok S b16 7 16) (rl (R a0 0) (fun b18 => gp (sok S b18 7 16) (bd (f_X7_last S R r15 b18) (fun r20 => bd (f_X2_waysBehind S R r15 a0 (r15 b16 6) r20) (fun r21 => some (r15, r21)))))))))))))) else gp (sok S a0 2 11) (rl (R a0 7) (fun b23 => rl (R a0 0) (fun b24 => gp (sok S b24 7 16) (bd (f_X7_fee S R I b24 x1) (fun r26 => gp (aok S 20 b23 x1) (lt (up2 I b23 x1.toNatClampNeg r26) (fun I28 => f_X2_study_31 S R  n I28 a0 (x1 + (1 : Int32))))))))))
set_option maxHeartbeats 4000000 in
theorem b_X2_study_31 {E : Ev} {p : Program} {l : Launch} {e : Env} {s : State} {m : MethodId} {args : Array Value} {below : List Frame} {meth : Method} {c : Code} (C : Cx E RX2 cX2_study 2 p s m c) (hr : meth.sig.returnType = (some .int)) (hk : meth.locks = false) {S : Sh} {R : Rw} {r : Iw × Int32}  : ∀ (n : Nat) (I : Iw) (a0 : Nat) (x1 : Int32), f_X2_study_31 S R  n I a0 x1 = some r → Wk E 2 p l e ({ frames := 37, cells := 0, slots := 0, locals := 866 } : Room) s m args below meth c 0 0 (MQ below (Qw E S R r.1 (some (.int r.2))) args s 0 0 (fun q => E.1 ≤ q)) 31 [(0, .ref (E.1 + a0)), (1, .int x1)] [] S R I := by
  intro n
  induction n with
  | zero =>
    intro I a0 x1 h
    rw [f_X2_study_31] at h
    cases h
  | succ n ih =>
    intro I a0 x1 h
    rw [f_X2_study_31] at h
    refine k_iloadn (pc := 31) C dX2_study_31 (i := 1) rfl 1 rfl ?_
    refine k_bipush (pc := 32) C (v := (9 : Int32)) dX2_study_32 (by decide) ?_
    refine k_icmp_ge (pc := 34) C dX2_study_34 (tgt := 57) (by decide) (fun hc8 => ?_) (fun hc8 => ?_)
    · rw [if_pos hc8] at h
      refine k_aloadn (pc := 57) C dX2_study_57 (i := 0) rfl 0 rfl ?_
      refine k_aloadn (pc := 58) C dX2_study_58 (i := 0) rfl 0 rfl ?_
      obtain ⟨hs90, h⟩ := gp_e h
      have hs9 := sok_e hs90
      obtain ⟨b10, hb10, h⟩ := rl_e h
      refine k_getR (pc := 59) C lkF_RX2_34_2 hs9 ir_2_0 hb10 dX2_study_59 ?_
      obtain ⟨hs110, h⟩ := gp_e h
      have hs11 := sok_e hs110
      refine k_getI (pc := 62) C lkF_RX2_45_7 hs11 ir_7_6 dX2_study_62 ?_
      refine k_aloadn (pc := 65) C dX2_study_65 (i := 0) rfl 0 rfl ?_
      obtain ⟨b12, hb12, h⟩ := rl_e h
      refine k_getR (pc := 66) C lkF_RX2_34_2 hs9 ir_2_0 hb12 dX2_study_66 ?_
      obtain ⟨hs130, h⟩ := gp_e h
      have hs13 := sok_e hs130
      obtain ⟨r14, hr14, h⟩ := bd_e h
      refine k_V (pc := 69) (st := [.int (I b10 6), .ref (E.1 + a0)]) C (c_X7_last hr14) lkV_RX2_62 hs13 rfl rfl rfl (Nat.le_of_ble_eq_true rfl) (Nat.le_of_ble_eq_true rfl) (Nat.le_of_ble_eq_true rfl) (Nat.le_of_ble_eq_true rfl) (Nat.le_of_ble_eq_true rfl) dX2_study_69 ?_
      refine k_nf (cells2 := 0) (slots2 := 0) (st2 := [.int r14, .int (I b10 6), .ref (E.1 + a0)]) rfl rfl rfl ?_
      refine k_iconst (pc := 72) C (v := (0 : Int32)) dX2_study_72 (by decide) ?_
      obtain ⟨r15, hr15, h⟩ := bd_e h
      refine k_V (pc := 73) (st := []) C (c_X2_visit 12 hr15) lkV_RX2_66 hs9 rfl rfl rfl (Nat.le_of_ble_eq_true rfl) (Nat.le_of_ble_eq_true rfl) (Nat.le_of_ble_eq_true rfl) (Nat.le_of_ble_eq_true rfl) (Nat.le_of_ble_eq_true rfl) dX2_study_73 ?_
      refine k_nf (cells2 := 0) (slots2 := 0) (st2 := []) rfl rfl rfl ?_
      refine k_aloadn (pc := 76) C dX2_study_76 (i := 0) rfl 0 rfl ?_
      refine k_aloadn (pc := 77) C dX2_study_77 (i := 0) rfl 0 rfl ?_
      obtain ⟨b16, hb16, h⟩ := rl_e h
      refine k_getR (pc := 78) C lkF_RX2_34_2 hs9 ir_2_0 hb16 dX2_study_78 ?_
      obtain ⟨hs170, h⟩ := gp_e h
      have hs17 := sok_e hs170
      refine k_getI (pc := 81) C lkF_RX2_45_7 hs17 ir_7_6 dX2_study_81 ?_
      refine k_aloadn (pc := 84) C dX2_study_84 (i := 0) rfl 0 rfl ?_
      obtain ⟨b18, hb18, h⟩ := rl_e h
      refine k_getR (pc := 85) C lkF_RX2_34_2 hs9 ir_2_0 hb18 dX2_study_85 ?_
      obtain ⟨hs190, h⟩ := gp_e h
      have hs19 := sok_e hs190
      obtain ⟨r20, hr20, h⟩ := bd_e h
      refine k_V (pc := 88) (st := [.int (r15 b16 6), .ref (E.1 + a0)]) C (c_X7_last hr20) lkV_RX2_62 hs19 rfl rfl rfl (Nat.le_of_ble_eq_true rfl) (Nat.le_of_ble_eq_true rfl) (Nat.le_of_ble_eq_true rfl) (Nat.le_of_ble_eq_true rfl) (Nat.le_of_ble_eq_true rfl) dX2_study_88 ?_
      refine k_nf (cells2 := 0) (slots2 := 0) (st2 := [.int r20, .int (r15 b16 6), .ref (E.1 + a0)]) rfl rfl rfl ?_
      obtain ⟨r21, hr21, h⟩ := bd_e h
      refine k_V (pc := 91) (st := []) C (c_X2_waysBehind hr21) lkV_RX2_70 hs9 rfl rfl rfl (Nat.le_of_ble_eq_true rfl) (Nat.le_of_ble_eq_true rfl) (Nat.le_of_ble_eq_true rfl) (Nat.le_of_ble_eq_true rfl) (Nat.le_of_ble_eq_true rfl) dX2_study_91 ?_
      refine k_nf (cells2 := 0) (slots2 := 0) (st2 := [.int r21]) rfl rfl rfl ?_
      have h := Option.some.inj h
      subst h
      exact k_iret (pc := 94) C hr hk dX2_study_94
    · rw [if_neg hc8] at h
      refine k_aloadn (pc := 37) C dX2_study_37 (i := 0) rfl 0 rfl ?_
      obtain ⟨hs220, h⟩ := gp_e h
      have hs22 := sok_e hs220
      obtain ⟨b23, hb23, h⟩ := rl_e h
      refine k_getR (pc := 38) C lkF_RX2_28_2 hs22 ir_2_7 hb23 dX2_study_38 ?_
      refine k_iloadn (pc := 41) C dX2_study_41 (i := 1) rfl 1 rfl ?_
      refine k_aloadn (pc := 42) C dX2_study_42 (i := 0) rfl 0 rfl ?_
      obtain ⟨b24, hb24, h⟩ := rl_e h
      refine k_getR (pc := 43) C lkF_RX2_34_2 hs22 ir_2_0 hb24 dX2_study_43 ?_
      refine k_iloadn (pc := 46) C dX2_study_46 (i := 1) rfl 1 rfl ?_
      obtain ⟨hs250, h⟩ := gp_e h
      have hs25 := sok_e hs250
      obtain ⟨r26, hr26, h⟩ := bd_e h
      refine k_V (pc := 47) (st := [.int x1, .ref (E.1 + b23)]) C (c_X7_fee hr26) lkV_RX2_59 hs25 rfl rfl rfl (Nat.le_of_ble_eq_true rfl) (Nat.le_of_ble_eq_true rfl) (Nat.le_of_ble_eq_true rfl) (Nat.le_of_ble_eq_true rfl) (Nat.le_of_ble_eq_true rfl) dX2_study_47 ?_
      refine k_nf (cells2 := 0) (slots2 := 0) (st2 := [.int r26, .int x1, .ref (E.1 + b23)]) rfl rfl rfl ?_
      obtain ⟨ha27, h⟩ := gp_e h
      obtain ⟨I28, eI28, h⟩ := lt_e h
      refine k_iast (pc := 50) C ha27 dX2_study_50 ?_
      rw [← eI28]
      refine k_iinc (pc := 51) C dX2_study_51 1 rfl (v := x1 + (1 : Int32)) (by rfl) (by decide) (L2 := [(0, .ref (E.1 + a0)), (1, .int (x1 + (1 : Int32)))]) rfl ?_
      refine k_goto (pc := 54) C dX2_study_54 (tgt := 31) (by decide) ?_
      exact ih _ _ _ h
def f_X2_study (S : Sh) (R : Rw)  (I : Iw) (a0 : Nat) : Option (Iw × Int32) := gp (sok S a0 2 11) (lt (up2 I a0 2 ((I a0 2) + (1 : Int32))) (fun I2 => lt (up2 I2 a0 9 (0 : Int32)) (fun I3 => rl (R a0 0) (fun b4 => gp (sok S b4 7 16) (bd (f_J6_bitCount_0f7a4 S R I3 (I3 b4 6)) (fun r6 => lt (up2 I3 a0 8 r6) (fun I7 => f_X2_study_31 S R  512 I7 a0 (0 : Int32))))))))
set_option maxHeartbeats 4000000 in
theorem b_X2_study {E : Ev} {p : Program} {l : Launch} {e : Env} {s : State} {m : MethodId} {args : Array Value} {below : List Frame} {meth : Method} {c : Code} (C : Cx E RX2 cX2_study 2 p s m c) (hr : meth.sig.returnType = (some .int)) (hk : meth.locks = false) {S : Sh} {R : Rw} {r : Iw × Int32}  : ∀ (I : Iw) (a0 : Nat), f_X2_study S R   I a0 = some r → Wk E 2 p l e ({ frames := 37, cells := 0, slots := 0, locals := 866 } : Room) s m args below meth c 0 0 (MQ below (Qw E S R r.1 (some (.int r.2))) args s 0 0 (fun q => E.1 ≤ q)) 0 [(0, .ref (E.1 + a0))] [] S R I := by
  intro I a0 h
  rw [f_X2_study] at h
  refine k_aloadn (pc := 0) C dX2_study_0 (i := 0) rfl 0 rfl ?_
  refine k_dup (pc := 1) C dX2_study_1 rfl ?_
  obtain ⟨hs10, h⟩ := gp_e h
  have hs1 := sok_e hs10
  refine k_getI (pc := 2) C lkF_RX2_38_2 hs1 ir_2_2 dX2_study_2 ?_
  refine k_iconst (pc := 5) C (v := (1 : Int32)) dX2_study_5 (by decide) ?_
  refine k_iadd (pc := 6) C dX2_study_6 ?_
  obtain ⟨I2, eI2, h⟩ := lt_e h
  refine k_putI (pc := 7) C lkP_RX2_38_2 hs1 ir_2_2 dX2_study_7 ?_
  rw [← eI2]
  refine k_aloadn (pc := 10) C dX2_study_10 (i := 0) rfl 0 rfl ?_
  refine k_iconst (pc := 11) C (v := (0 : Int32)) dX2_study_11 (by decide) ?_
  obtain ⟨I3, eI3, h⟩ := lt_e h
  refine k_putI (pc := 12) C lkP_RX2_42_2 hs1 ir_2_9 dX2_study_12 ?_
  rw [← eI3]
  refine k_aloadn (pc := 15) C dX2_study_15 (i := 0) rfl 0 rfl ?_
  refine k_aloadn (pc := 16) C dX2_study_16 (i := 0) rfl 0 rfl ?_
  obtain ⟨b4, hb4, h⟩ := rl_e h
  refine k_getR (pc := 17) C lkF_RX2_34_2 hs1 ir_2_0 hb4 dX2_study_17 ?_
  obtain ⟨hs50, h⟩ := gp_e h
  have hs5 := sok_e hs50
  refine k_getI (pc := 20) C lkF_RX2_45_7 hs5 ir_7_6 dX2_study_20 ?_
  obtain ⟨r6, hr6, h⟩ := bd_e h
  refine k_S (pc := 23) (st := [.ref (E.1 + a0)]) C (c_J6_bitCount_0f7a4 hr6) lkS_RX2_50 rfl rfl (Nat.le_of_ble_eq_true rfl) (Nat.le_of_ble_eq_true rfl) (Nat.le_of_ble_eq_true rfl) (Nat.le_of_ble_eq_true rfl) (Nat.le_of_ble_eq_true rfl) dX2_study_23 ?_
  refine k_nf (cells2 := 0) (slots2 := 0) (st2 := [.int r6, .ref (E.1 + a0)]) rfl rfl rfl ?_
  obtain ⟨I7, eI7, h⟩ := lt_e h
  refine k_putI (pc := 26) C lkP_RX2_56_2 hs1 ir_2_8 dX2_study_26 ?_
  rw [← eI7]
  refine k_iconst (pc := 29) C (v := (0 : Int32)) dX2_study_29 (by decide) ?_
  refine k_istoren (pc := 30) C dX2_study_30 (i := 1) rfl (by decide) (L2 := [(0, .ref (E.1 + a0)), (1, .int (0 : Int32))]) rfl ?_
  exact b_X2_study_31 C hr hk  _ _ _ _ h
theorem c_X2_study {E : Ev} {l : Launch} {S : Sh} {R : Rw} {I : Iw} {a0 : Nat} {r : Iw × Int32} (h : f_X2_study S R I a0 = some r) : Mt E l yX2_study cX2_study 2 (some .int) 37 866 [.ref (E.1 + a0)] S R I S R r.1 (some (.int r.2)) 0 0 := mt_of (by decide) (Nat.le_of_ble_eq_true rfl) (fun p e s m args below meth c C hr hk hn => b_X2_study C hr hk _ _ h)
theorem dX2_wins_0 : decode cX2_wins 0 = .ok (.aload_n 0, 1) := by decide +kernel
theorem dX2_wins_1 : decode cX2_wins 1 = .ok (.getfield 24, 3) := by decide +kernel
theorem dX2_wins_4 : decode cX2_wins 4 = .ok (.iload_n 1, 1) := by decide +kernel
theorem dX2_wins_5 : decode cX2_wins 5 = .ok (.iload_n 2, 1) := by decide +kernel
theorem dX2_wins_6 : decode cX2_wins 6 = .ok (.invokestatic 74, 3) := by decide +kernel
theorem dX2_wins_9 : decode cX2_wins 9 = .ok (.baload, 1) := by decide +kernel
theorem dX2_wins_10 : decode cX2_wins 10 = .ok (.ireturn, 1) := by decide +kernel
def f_X2_wins (S : Sh) (R : Rw) (I : Iw)  (a0 : Nat) (x1 : Int32) (x2 : Int32) : Option (Int32) := gp (sok S a0 2 11) (rl (R a0 6) (fun b2 => bd (f_X2_stateOf S R I x1 x2) (fun r3 => gp (aok S 22 b2 r3) (gp (zok (I b2 r3.toNatClampNeg)) (some (I b2 r3.toNatClampNeg))))))
set_option maxHeartbeats 4000000 in
theorem b_X2_wins {E : Ev} {p : Program} {l : Launch} {e : Env} {s : State} {m : MethodId} {args : Array Value} {below : List Frame} {meth : Method} {c : Code} (C : Cx E RX2 cX2_wins 3 p s m c) (hr : meth.sig.returnType = (some .boolean)) (hk : meth.locks = false) {S : Sh} {R : Rw} {I : Iw} {r : Int32}  : ∀ (a0 : Nat) (x1 : Int32) (x2 : Int32), f_X2_wins S R I   a0 x1 x2 = some r → Wk E 3 p l e ({ frames := 2, cells := 0, slots := 0, locals := 44 } : Room) s m args below meth c 0 0 (MQ below (Qw E S R I (some (.int r))) args s 0 0 (fun q => E.1 ≤ q)) 0 [(0, .ref (E.1 + a0)), (1, .int x1), (2, .int x2)] [] S R I := by
  intro a0 x1 x2 h
  rw [f_X2_wins] at h
  refine k_aloadn (pc := 0) C dX2_wins_0 (i := 0) rfl 0 rfl ?_
  obtain ⟨hs10, h⟩ := gp_e h
  have hs1 := sok_e hs10
  obtain ⟨b2, hb2, h⟩ := rl_e h
  refine k_getR (pc := 1) C lkF_RX2_24_2 hs1 ir_2_6 hb2 dX2_wins_1 ?_
  refine k_iloadn (pc := 4) C dX2_wins_4 (i := 1) rfl 1 rfl ?_
  refine k_iloadn (pc := 5) C dX2_wins_5 (i := 2) rfl 2 rfl ?_
  obtain ⟨r3, hr3, h⟩ := bd_e h
  refine k_S (pc := 6) (st := [.ref (E.1 + b2)]) C (c_X2_stateOf hr3) lkS_RX2_74 rfl rfl (Nat.le_of_ble_eq_true rfl) (Nat.le_of_ble_eq_true rfl) (Nat.le_of_ble_eq_true rfl) (Nat.le_of_ble_eq_true rfl) (Nat.le_of_ble_eq_true rfl) dX2_wins_6 ?_
  refine k_nf (cells2 := 0) (slots2 := 0) (st2 := [.int r3, .ref (E.1 + b2)]) rfl rfl rfl ?_
  obtain ⟨ha4, h⟩ := gp_e h
  refine k_zald (pc := 9) C ha4 dX2_wins_9 ?_
  obtain ⟨hz5, h⟩ := gp_e h
  have h := Option.some.inj h
  subst h
  exact k_zret (pc := 10) C hr hk (of_decide_eq_true hz5) dX2_wins_10
theorem c_X2_wins {E : Ev} {l : Launch} {S : Sh} {R : Rw} {I : Iw} {a0 : Nat} {x1 : Int32} {x2 : Int32} {r : Int32} (h : f_X2_wins S R I a0 x1 x2 = some r) : Mt E l yX2_wins cX2_wins 3 (some .boolean) 2 44 [.ref (E.1 + a0), .int x1, .int x2] S R I S R I (some (.int r)) 0 0 := mt_of (by decide) (Nat.le_of_ble_eq_true rfl) (fun p e s m args below meth c C hr hk hn => b_X2_wins C hr hk _ _ _ h)
theorem dX2_leastCost_0 : decode cX2_leastCost 0 = .ok (.aload_n 0, 1) := by decide +kernel
theorem dX2_leastCost_1 : decode cX2_leastCost 1 = .ok (.getfield 34, 3) := by decide +kernel
theorem dX2_leastCost_4 : decode cX2_leastCost 4 = .ok (.getfield 45, 3) := by decide +kernel
theorem dX2_leastCost_7 : decode cX2_leastCost 7 = .ok (.aload_n 0, 1) := by decide +kernel
theorem dX2_leastCost_8 : decode cX2_leastCost 8 = .ok (.getfield 34, 3) := by decide +kernel
theorem dX2_leastCost_11 : decode cX2_leastCost 11 = .ok (.invokevirtual 62, 3) := by decide +kernel
theorem dX2_leastCost_14 : decode cX2_leastCost 14 = .ok (.invokestatic 74, 3) := by decide +kernel
theorem dX2_leastCost_17 : decode cX2_leastCost 17 = .ok (.istore_n 1, 1) := by decide +kernel
theorem dX2_leastCost_18 : decode cX2_leastCost 18 = .ok (.aload_n 0, 1) := by decide +kernel
theorem dX2_leastCost_19 : decode cX2_leastCost 19 = .ok (.getfield 15, 3) := by decide +kernel
theorem dX2_leastCost_22 : decode cX2_leastCost 22 = .ok (.iload_n 1, 1) := by decide +kernel
theorem dX2_leastCost_23 : decode cX2_leastCost 23 = .ok (.iaload, 1) := by decide +kernel
theorem dX2_leastCost_24 : decode cX2_leastCost 24 = .ok (.ifCond .le 12, 3) := by decide +kernel
theorem dX2_leastCost_27 : decode cX2_leastCost 27 = .ok (.aload_n 0, 1) := by decide +kernel
theorem dX2_leastCost_28 : decode cX2_leastCost 28 = .ok (.getfield 21, 3) := by decide +kernel
theorem dX2_leastCost_31 : decode cX2_leastCost 31 = .ok (.iload_n 1, 1) := by decide +kernel
theorem dX2_leastCost_32 : decode cX2_leastCost 32 = .ok (.iaload, 1) := by decide +kernel
theorem dX2_leastCost_33 : decode cX2_leastCost 33 = .ok (.goto 5, 3) := by decide +kernel
theorem dX2_leastCost_36 : decode cX2_leastCost 36 = .ok (.bipush (-3), 2) := by decide +kernel
theorem dX2_leastCost_38 : decode cX2_leastCost 38 = .ok (.ireturn, 1) := by decide +kernel
def f_X2_leastCost (S : Sh) (R : Rw) (I : Iw)  (a0 : Nat) : Option (Int32) := gp (sok S a0 2 11) (rl (R a0 0) (fun b2 => gp (sok S b2 7 16) (rl (R a0 0) (fun b4 => gp (sok S b4 7 16) (bd (f_X7_last S R I b4) (fun r6 => bd (f_X2_stateOf S R I (I b2 6) r6) (fun r7 => rl (R a0 3) (fun b8 => gp (aok S 20 b8 r7) ((if (I b8 r7.toNatClampNeg) ≤ 0 then some (-3 : Int32) else rl (R a0 5) (fun b11 => gp (aok S 20 b11 r7) (some (I b11 r7.toNatClampNeg)))))))))))))
set_option maxHeartbeats 4000000 in
theorem b_X2_leastCost {E : Ev} {p : Program} {l : Launch} {e : Env} {s : State} {m : MethodId} {args : Array Value} {below : List Frame} {meth : Method} {c : Code} (C : Cx E RX2 cX2_leastCost 2 p s m c) (hr : meth.sig.returnType = (some .int)) (hk : meth.locks = false) {S : Sh} {R : Rw} {I : Iw} {r : Int32}  : ∀ (a0 : Nat), f_X2_leastCost S R I   a0 = some r → Wk E 2 p l e ({ frames := 2, cells := 0, slots := 0, locals := 44 } : Room) s m args below meth c 0 0 (MQ below (Qw E S R I (some (.int r))) args s 0 0 (fun q => E.1 ≤ q)) 0 [(0, .ref (E.1 + a0))] [] S R I := by
  intro a0 h
  rw [f_X2_leastCost] at h
  refine k_aloadn (pc := 0) C dX2_leastCost_0 (i := 0) rfl 0 rfl ?_
  obtain ⟨hs10, h⟩ := gp_e h
  have hs1 := sok_e hs10
  obtain ⟨b2, hb2, h⟩ := rl_e h
  refine k_getR (pc := 1) C lkF_RX2_34_2 hs1 ir_2_0 hb2 dX2_leastCost_1 ?_
  obtain ⟨hs30, h⟩ := gp_e h
  have hs3 := sok_e hs30
  refine k_getI (pc := 4) C lkF_RX2_45_7 hs3 ir_7_6 dX2_leastCost_4 ?_
  refine k_aloadn (pc := 7) C dX2_leastCost_7 (i := 0) rfl 0 rfl ?_
  obtain ⟨b4, hb4, h⟩ := rl_e h
  refine k_getR (pc := 8) C lkF_RX2_34_2 hs1 ir_2_0 hb4 dX2_leastCost_8 ?_
  obtain ⟨hs50, h⟩ := gp_e h
  have hs5 := sok_e hs50
  obtain ⟨r6, hr6, h⟩ := bd_e h
  refine k_V (pc := 11) (st := [.int (I b2 6)]) C (c_X7_last hr6) lkV_RX2_62 hs5 rfl rfl rfl (Nat.le_of_ble_eq_true rfl) (Nat.le_of_ble_eq_true rfl) (Nat.le_of_ble_eq_true rfl) (Nat.le_of_ble_eq_true rfl) (Nat.le_of_ble_eq_true rfl) dX2_leastCost_11 ?_
  refine k_nf (cells2 := 0) (slots2 := 0) (st2 := [.int r6, .int (I b2 6)]) rfl rfl rfl ?_
  obtain ⟨r7, hr7, h⟩ := bd_e h
  refine k_S (pc := 14) (st := []) C (c_X2_stateOf hr7) lkS_RX2_74 rfl rfl (Nat.le_of_ble_eq_true rfl) (Nat.le_of_ble_eq_true rfl) (Nat.le_of_ble_eq_true rfl) (Nat.le_of_ble_eq_true rfl) (Nat.le_of_ble_eq_true rfl) dX2_leastCost_14 ?_
  refine k_nf (cells2 := 0) (slots2 := 0) (st2 := [.int r7]) rfl rfl rfl ?_
  refine k_istoren (pc := 17) C dX2_leastCost_17 (i := 1) rfl (by decide) (L2 := [(0, .ref (E.1 + a0)), (1, .int r7)]) rfl ?_
  refine k_aloadn (pc := 18) C dX2_leastCost_18 (i := 0) rfl 0 rfl ?_
  obtain ⟨b8, hb8, h⟩ := rl_e h
  refine k_getR (pc := 19) C lkF_RX2_15_2 hs1 ir_2_3 hb8 dX2_leastCost_19 ?_
  refine k_iloadn (pc := 22) C dX2_leastCost_22 (i := 1) rfl 1 rfl ?_
  obtain ⟨ha9, h⟩ := gp_e h
  refine k_iald (pc := 23) C ha9 dX2_leastCost_23 ?_
  refine k_if_le (pc := 24) C dX2_leastCost_24 (tgt := 36) (by decide) (fun hc10 => ?_) (fun hc10 => ?_)
  · rw [if_pos hc10] at h
    refine k_bipush (pc := 36) C (v := (-3 : Int32)) dX2_leastCost_36 (by decide) ?_
    have h := Option.some.inj h
    subst h
    exact k_iret (pc := 38) C hr hk dX2_leastCost_38
  · rw [if_neg hc10] at h
    refine k_aloadn (pc := 27) C dX2_leastCost_27 (i := 0) rfl 0 rfl ?_
    obtain ⟨b11, hb11, h⟩ := rl_e h
    refine k_getR (pc := 28) C lkF_RX2_21_2 hs1 ir_2_5 hb11 dX2_leastCost_28 ?_
    refine k_iloadn (pc := 31) C dX2_leastCost_31 (i := 1) rfl 1 rfl ?_
    obtain ⟨ha12, h⟩ := gp_e h
    refine k_iald (pc := 32) C ha12 dX2_leastCost_32 ?_
    refine k_goto (pc := 33) C dX2_leastCost_33 (tgt := 38) (by decide) ?_
    have h := Option.some.inj h
    subst h
    exact k_iret (pc := 38) C hr hk dX2_leastCost_38
theorem c_X2_leastCost {E : Ev} {l : Launch} {S : Sh} {R : Rw} {I : Iw} {a0 : Nat} {r : Int32} (h : f_X2_leastCost S R I a0 = some r) : Mt E l yX2_leastCost cX2_leastCost 2 (some .int) 2 44 [.ref (E.1 + a0)] S R I S R I (some (.int r)) 0 0 := mt_of (by decide) (Nat.le_of_ble_eq_true rfl) (fun p e s m args below meth c C hr hk hn => b_X2_leastCost C hr hk _ h)
theorem dX2_leadsOn_0 : decode cX2_leadsOn 0 = .ok (.iload_n 1, 1) := by decide +kernel
theorem dX2_leadsOn_1 : decode cX2_leadsOn 1 = .ok (.iload_n 2, 1) := by decide +kernel
theorem dX2_leadsOn_2 : decode cX2_leadsOn 2 = .ok (.invokestatic 74, 3) := by decide +kernel
theorem dX2_leadsOn_5 : decode cX2_leadsOn 5 = .ok (.istore 5, 2) := by decide +kernel
theorem dX2_leadsOn_7 : decode cX2_leadsOn 7 = .ok (.iload_n 1, 1) := by decide +kernel
theorem dX2_leadsOn_8 : decode cX2_leadsOn 8 = .ok (.iload_n 3, 1) := by decide +kernel
theorem dX2_leadsOn_9 : decode cX2_leadsOn 9 = .ok (.invokestatic 89, 3) := by decide +kernel
theorem dX2_leadsOn_12 : decode cX2_leadsOn 12 = .ok (.iload_n 3, 1) := by decide +kernel
theorem dX2_leadsOn_13 : decode cX2_leadsOn 13 = .ok (.invokestatic 74, 3) := by decide +kernel
theorem dX2_leadsOn_16 : decode cX2_leadsOn 16 = .ok (.istore 6, 2) := by decide +kernel
theorem dX2_leadsOn_18 : decode cX2_leadsOn 18 = .ok (.iload 4, 2) := by decide +kernel
theorem dX2_leadsOn_20 : decode cX2_leadsOn 20 = .ok (.lookupswitch 69 #[(0, 28), (1, 44)], 28) := by decide +kernel
theorem dX2_leadsOn_48 : decode cX2_leadsOn 48 = .ok (.aload_n 0, 1) := by decide +kernel
theorem dX2_leadsOn_49 : decode cX2_leadsOn 49 = .ok (.getfield 15, 3) := by decide +kernel
theorem dX2_leadsOn_52 : decode cX2_leadsOn 52 = .ok (.iload 6, 2) := by decide +kernel
theorem dX2_leadsOn_54 : decode cX2_leadsOn 54 = .ok (.iaload, 1) := by decide +kernel
theorem dX2_leadsOn_55 : decode cX2_leadsOn 55 = .ok (.ifCond .le 7, 3) := by decide +kernel
theorem dX2_leadsOn_58 : decode cX2_leadsOn 58 = .ok (.iconst 1, 1) := by decide +kernel
theorem dX2_leadsOn_59 : decode cX2_leadsOn 59 = .ok (.goto 4, 3) := by decide +kernel
theorem dX2_leadsOn_62 : decode cX2_leadsOn 62 = .ok (.iconst 0, 1) := by decide +kernel
theorem dX2_leadsOn_63 : decode cX2_leadsOn 63 = .ok (.ireturn, 1) := by decide +kernel
theorem dX2_leadsOn_64 : decode cX2_leadsOn 64 = .ok (.aload_n 0, 1) := by decide +kernel
theorem dX2_leadsOn_65 : decode cX2_leadsOn 65 = .ok (.getfield 18, 3) := by decide +kernel
theorem dX2_leadsOn_68 : decode cX2_leadsOn 68 = .ok (.iload 6, 2) := by decide +kernel
theorem dX2_leadsOn_70 : decode cX2_leadsOn 70 = .ok (.iaload, 1) := by decide +kernel
theorem dX2_leadsOn_71 : decode cX2_leadsOn 71 = .ok (.iconst 1, 1) := by decide +kernel
theorem dX2_leadsOn_72 : decode cX2_leadsOn 72 = .ok (.iadd, 1) := by decide +kernel
theorem dX2_leadsOn_73 : decode cX2_leadsOn 73 = .ok (.aload_n 0, 1) := by decide +kernel
theorem dX2_leadsOn_74 : decode cX2_leadsOn 74 = .ok (.getfield 18, 3) := by decide +kernel
theorem dX2_leadsOn_77 : decode cX2_leadsOn 77 = .ok (.iload 5, 2) := by decide +kernel
theorem dX2_leadsOn_79 : decode cX2_leadsOn 79 = .ok (.iaload, 1) := by decide +kernel
theorem dX2_leadsOn_80 : decode cX2_leadsOn 80 = .ok (.if_icmp .ne 7, 3) := by decide +kernel
theorem dX2_leadsOn_83 : decode cX2_leadsOn 83 = .ok (.iconst 1, 1) := by decide +kernel
theorem dX2_leadsOn_84 : decode cX2_leadsOn 84 = .ok (.goto 4, 3) := by decide +kernel
theorem dX2_leadsOn_87 : decode cX2_leadsOn 87 = .ok (.iconst 0, 1) := by decide +kernel
theorem dX2_leadsOn_88 : decode cX2_leadsOn 88 = .ok (.ireturn, 1) := by decide +kernel
theorem dX2_leadsOn_89 : decode cX2_leadsOn 89 = .ok (.aload_n 0, 1) := by decide +kernel
theorem dX2_leadsOn_90 : decode cX2_leadsOn 90 = .ok (.getfield 15, 3) := by decide +kernel
theorem dX2_leadsOn_93 : decode cX2_leadsOn 93 = .ok (.iload 6, 2) := by decide +kernel
theorem dX2_leadsOn_95 : decode cX2_leadsOn 95 = .ok (.iaload, 1) := by decide +kernel
theorem dX2_leadsOn_96 : decode cX2_leadsOn 96 = .ok (.ifCond .le 31, 3) := by decide +kernel
theorem dX2_leadsOn_99 : decode cX2_leadsOn 99 = .ok (.aload_n 0, 1) := by decide +kernel
theorem dX2_leadsOn_100 : decode cX2_leadsOn 100 = .ok (.iload_n 1, 1) := by decide +kernel
theorem dX2_leadsOn_101 : decode cX2_leadsOn 101 = .ok (.iload_n 3, 1) := by decide +kernel
theorem dX2_leadsOn_102 : decode cX2_leadsOn 102 = .ok (.invokevirtual 97, 3) := by decide +kernel
theorem dX2_leadsOn_105 : decode cX2_leadsOn 105 = .ok (.aload_n 0, 1) := by decide +kernel
theorem dX2_leadsOn_106 : decode cX2_leadsOn 106 = .ok (.getfield 21, 3) := by decide +kernel
theorem dX2_leadsOn_109 : decode cX2_leadsOn 109 = .ok (.iload 6, 2) := by decide +kernel
theorem dX2_leadsOn_111 : decode cX2_leadsOn 111 = .ok (.iaload, 1) := by decide +kernel
theorem dX2_leadsOn_112 : decode cX2_leadsOn 112 = .ok (.iadd, 1) := by decide +kernel
theorem dX2_leadsOn_113 : decode cX2_leadsOn 113 = .ok (.aload_n 0, 1) := by decide +kernel
theorem dX2_leadsOn_114 : decode cX2_leadsOn 114 = .ok (.getfield 21, 3) := by decide +kernel
theorem dX2_leadsOn_117 : decode cX2_leadsOn 117 = .ok (.iload 5, 2) := by decide +kernel
theorem dX2_leadsOn_119 : decode cX2_leadsOn 119 = .ok (.iaload, 1) := by decide +kernel
theorem dX2_leadsOn_120 : decode cX2_leadsOn 120 = .ok (.if_icmp .ne 7, 3) := by decide +kernel
theorem dX2_leadsOn_123 : decode cX2_leadsOn 123 = .ok (.iconst 1, 1) := by decide +kernel
theorem dX2_leadsOn_124 : decode cX2_leadsOn 124 = .ok (.goto 4, 3) := by decide +kernel
theorem dX2_leadsOn_127 : decode cX2_leadsOn 127 = .ok (.iconst 0, 1) := by decide +kernel
theorem dX2_leadsOn_128 : decode cX2_leadsOn 128 = .ok (.ireturn, 1) := by decide +kernel
def f_X2_leadsOn (S : Sh) (R : Rw) (I : Iw)  (a0 : Nat) (x1 : Int32) (x2 : Int32) (x3 : Int32) (x4 : Int32) : Option (Int32) := bd (f_X2_stateOf S R I x1 x2) (fun r1 => bd (f_X11_without S R I x1 x3) (fun r2 => bd (f_X2_stateOf S R I r2 x3) (fun r3 => (if x4 = (0 : Int32) then gp (sok S a0 2 11) (rl (R a0 3) (fun b5 => gp (aok S 20 b5 r3) ((if (I b5 r3.toNatClampNeg) ≤ 0 then some (0 : Int32) else some (1 : Int32))))) else (if x4 = (1 : Int32) then gp (sok S a0 2 11) (rl (R a0 4) (fun b9 => gp (aok S 20 b9 r3) (rl (R a0 4) (fun b11 => gp (aok S 20 b11 r1) ((if ((I b9 r3.toNatClampNeg) + (1 : Int32)) = (I b11 r1.toNatClampNeg) then some (1 : Int32) else some (0 : Int32))))))) else gp (sok S a0 2 11) (rl (R a0 3) (fun b15 => gp (aok S 20 b15 r3) ((if (I b15 r3.toNatClampNeg) ≤ 0 then some (0 : Int32) else bd (f_X2_costOf S R I a0 x1 x3) (fun r18 => rl (R a0 5) (fun b19 => gp (aok S 20 b19 r3) (rl (R a0 5) (fun b21 => gp (aok S 20 b21 r1) ((if (r18 + (I b19 r3.toNatClampNeg)) = (I b21 r1.toNatClampNeg) then some (1 : Int32) else some (0 : Int32))))))))))))))))
set_option maxHeartbeats 4000000 in
theorem b_X2_leadsOn {E : Ev} {p : Program} {l : Launch} {e : Env} {s : State} {m : MethodId} {args : Array Value} {below : List Frame} {meth : Method} {c : Code} (C : Cx E RX2 cX2_leadsOn 7 p s m c) (hr : meth.sig.returnType = (some .boolean)) (hk : meth.locks = false) {S : Sh} {R : Rw} {I : Iw} {r : Int32}  : ∀ (a0 : Nat) (x1 : Int32) (x2 : Int32) (x3 : Int32) (x4 : Int32), f_X2_leadsOn S R I   a0 x1 x2 x3 x4 = some r → Wk E 7 p l e ({ frames := 2, cells := 0, slots := 0, locals := 44 } : Room) s m args below meth c 0 0 (MQ below (Qw E S R I (some (.int r))) args s 0 0 (fun q => E.1 ≤ q)) 0 [(0, .ref (E.1 + a0)), (1, .int x1), (2, .int x2), (3, .int x3), (4, .int x4)] [] S R I := by
  intro a0 x1 x2 x3 x4 h
  rw [f_X2_leadsOn] at h
  refine k_iloadn (pc := 0) C dX2_leadsOn_0 (i := 1) rfl 1 rfl ?_
  refine k_iloadn (pc := 1) C dX2_leadsOn_1 (i := 2) rfl 2 rfl ?_
  obtain ⟨r1, hr1, h⟩ := bd_e h
  refine k_S (pc := 2) (st := []) C (c_X2_stateOf hr1) lkS_RX2_74 rfl rfl (Nat.le_of_ble_eq_true rfl) (Nat.le_of_ble_eq_true rfl) (Nat.le_of_ble_eq_true rfl) (Nat.le_of_ble_eq_true rfl) (Nat.le_of_ble_eq_true rfl) dX2_leadsOn_2 ?_
  refine k_nf (cells2 := 0) (slots2 := 0) (st2 := [.int r1]) rfl rfl rfl ?_
  refine k_istore (pc := 5) C dX2_leadsOn_5 (by decide) (L2 := [(0, .ref (E.1 + a0)), (1, .int x1), (2, .int x2), (3, .int x3), (4, .int x4), (5, .int r1)]) rfl ?_
  refine k_iloadn (pc := 7) C dX2_leadsOn_7 (i := 1) rfl 1 rfl ?_
  refine k_iloadn (pc := 8) C dX2_leadsOn_8 (i := 3) rfl 3 rfl ?_
  obtain ⟨r2, hr2, h⟩ := bd_e h
  refine k_SN (pc := 9) (st := []) C (c_X11_without hr2) lkSN_RX2_89 rfl rfl (Nat.le_of_ble_eq_true rfl) (Nat.le_of_ble_eq_true rfl) (Nat.le_of_ble_eq_true rfl) (Nat.le_of_ble_eq_true rfl) (Nat.le_of_ble_eq_true rfl) dX2_leadsOn_9 ?_
  refine k_nf (cells2 := 0) (slots2 := 0) (st2 := [.int r2]) rfl rfl rfl ?_
  refine k_iloadn (pc := 12) C dX2_leadsOn_12 (i := 3) rfl 3 rfl ?_
  obtain ⟨r3, hr3, h⟩ := bd_e h
  refine k_S (pc := 13) (st := []) C (c_X2_stateOf hr3) lkS_RX2_74 rfl rfl (Nat.le_of_ble_eq_true rfl) (Nat.le_of_ble_eq_true rfl) (Nat.le_of_ble_eq_true rfl) (Nat.le_of_ble_eq_true rfl) (Nat.le_of_ble_eq_true rfl) dX2_leadsOn_13 ?_
  refine k_nf (cells2 := 0) (slots2 := 0) (st2 := [.int r3]) rfl rfl rfl ?_
  refine k_istore (pc := 16) C dX2_leadsOn_16 (by decide) (L2 := [(0, .ref (E.1 + a0)), (1, .int x1), (2, .int x2), (3, .int x3), (4, .int x4), (5, .int r1), (6, .int r3)]) rfl ?_
  refine k_iload (pc := 18) C dX2_leadsOn_18 4 rfl ?_
  by_cases hc24 : x4 = (0 : Int32)
  · rw [if_pos hc24] at h
    refine k_look (pc := 20) C dX2_leadsOn_20 (by decide) (off := 28) (by rw [hc24]; rfl) (tgt := 48) (by decide) ?_
    refine k_aloadn (pc := 48) C dX2_leadsOn_48 (i := 0) rfl 0 rfl ?_
    obtain ⟨hs40, h⟩ := gp_e h
    have hs4 := sok_e hs40
    obtain ⟨b5, hb5, h⟩ := rl_e h
    refine k_getR (pc := 49) C lkF_RX2_15_2 hs4 ir_2_3 hb5 dX2_leadsOn_49 ?_
    refine k_iload (pc := 52) C dX2_leadsOn_52 6 rfl ?_
    obtain ⟨ha6, h⟩ := gp_e h
    refine k_iald (pc := 54) C ha6 dX2_leadsOn_54 ?_
    refine k_if_le (pc := 55) C dX2_leadsOn_55 (tgt := 62) (by decide) (fun hc7 => ?_) (fun hc7 => ?_)
    · rw [if_pos hc7] at h
      refine k_iconst (pc := 62) C (v := (0 : Int32)) dX2_leadsOn_62 (by decide) ?_
      have h := Option.some.inj h
      subst h
      exact k_zret (pc := 63) C hr hk (Or.inl rfl) dX2_leadsOn_63
    · rw [if_neg hc7] at h
      refine k_iconst (pc := 58) C (v := (1 : Int32)) dX2_leadsOn_58 (by decide) ?_
      refine k_goto (pc := 59) C dX2_leadsOn_59 (tgt := 63) (by decide) ?_
      have h := Option.some.inj h
      subst h
      exact k_zret (pc := 63) C hr hk (Or.inr rfl) dX2_leadsOn_63
  · rw [if_neg hc24] at h
    by_cases hc25 : x4 = (1 : Int32)
    · rw [if_pos hc25] at h
      refine k_look (pc := 20) C dX2_leadsOn_20 (by decide) (off := 44) (by rw [hc25]; rfl) (tgt := 64) (by decide) ?_
      refine k_aloadn (pc := 64) C dX2_leadsOn_64 (i := 0) rfl 0 rfl ?_
      obtain ⟨hs80, h⟩ := gp_e h
      have hs8 := sok_e hs80
      obtain ⟨b9, hb9, h⟩ := rl_e h
      refine k_getR (pc := 65) C lkF_RX2_18_2 hs8 ir_2_4 hb9 dX2_leadsOn_65 ?_
      refine k_iload (pc := 68) C dX2_leadsOn_68 6 rfl ?_
      obtain ⟨ha10, h⟩ := gp_e h
      refine k_iald (pc := 70) C ha10 dX2_leadsOn_70 ?_
      refine k_iconst (pc := 71) C (v := (1 : Int32)) dX2_leadsOn_71 (by decide) ?_
      refine k_iadd (pc := 72) C dX2_leadsOn_72 ?_
      refine k_aloadn (pc := 73) C dX2_leadsOn_73 (i := 0) rfl 0 rfl ?_
      obtain ⟨b11, hb11, h⟩ := rl_e h
      refine k_getR (pc := 74) C lkF_RX2_18_2 hs8 ir_2_4 hb11 dX2_leadsOn_74 ?_
      refine k_iload (pc := 77) C dX2_leadsOn_77 5 rfl ?_
      obtain ⟨ha12, h⟩ := gp_e h
      refine k_iald (pc := 79) C ha12 dX2_leadsOn_79 ?_
      refine k_icmp_ne (pc := 80) C dX2_leadsOn_80 (tgt := 87) (by decide) (fun hc13 => ?_) (fun hc13 => ?_)
      · rw [if_neg hc13] at h
        refine k_iconst (pc := 87) C (v := (0 : Int32)) dX2_leadsOn_87 (by decide) ?_
        have h := Option.some.inj h
        subst h
        exact k_zret (pc := 88) C hr hk (Or.inl rfl) dX2_leadsOn_88
      · rw [if_pos hc13] at h
        refine k_iconst (pc := 83) C (v := (1 : Int32)) dX2_leadsOn_83 (by decide) ?_
        refine k_goto (pc := 84) C dX2_leadsOn_84 (tgt := 88) (by decide) ?_
        have h := Option.some.inj h
        subst h
        exact k_zret (pc := 88) C hr hk (Or.inr rfl) dX2_leadsOn_88
    · rw [if_neg hc25] at h
      refine k_look (pc := 20) C dX2_leadsOn_20 (by decide) (off := 69) (look_cons (look_ne hc24 (by decide)) (look_cons (look_ne hc25 (by decide)) rfl)) (tgt := 89) (by decide) ?_
      refine k_aloadn (pc := 89) C dX2_leadsOn_89 (i := 0) rfl 0 rfl ?_
      obtain ⟨hs140, h⟩ := gp_e h
      have hs14 := sok_e hs140
      obtain ⟨b15, hb15, h⟩ := rl_e h
      refine k_getR (pc := 90) C lkF_RX2_15_2 hs14 ir_2_3 hb15 dX2_leadsOn_90 ?_
      refine k_iload (pc := 93) C dX2_leadsOn_93 6 rfl ?_
      obtain ⟨ha16, h⟩ := gp_e h
      refine k_iald (pc := 95) C ha16 dX2_leadsOn_95 ?_
      refine k_if_le (pc := 96) C dX2_leadsOn_96 (tgt := 127) (by decide) (fun hc17 => ?_) (fun hc17 => ?_)
      · rw [if_pos hc17] at h
        refine k_iconst (pc := 127) C (v := (0 : Int32)) dX2_leadsOn_127 (by decide) ?_
        have h := Option.some.inj h
        subst h
        exact k_zret (pc := 128) C hr hk (Or.inl rfl) dX2_leadsOn_128
      · rw [if_neg hc17] at h
        refine k_aloadn (pc := 99) C dX2_leadsOn_99 (i := 0) rfl 0 rfl ?_
        refine k_iloadn (pc := 100) C dX2_leadsOn_100 (i := 1) rfl 1 rfl ?_
        refine k_iloadn (pc := 101) C dX2_leadsOn_101 (i := 3) rfl 3 rfl ?_
        obtain ⟨r18, hr18, h⟩ := bd_e h
        refine k_V (pc := 102) (st := []) C (c_X2_costOf hr18) lkV_RX2_97 hs14 rfl rfl rfl (Nat.le_of_ble_eq_true rfl) (Nat.le_of_ble_eq_true rfl) (Nat.le_of_ble_eq_true rfl) (Nat.le_of_ble_eq_true rfl) (Nat.le_of_ble_eq_true rfl) dX2_leadsOn_102 ?_
        refine k_nf (cells2 := 0) (slots2 := 0) (st2 := [.int r18]) rfl rfl rfl ?_
        refine k_aloadn (pc := 105) C dX2_leadsOn_105 (i := 0) rfl 0 rfl ?_
        obtain ⟨b19, hb19, h⟩ := rl_e h
        refine k_getR (pc := 106) C lkF_RX2_21_2 hs14 ir_2_5 hb19 dX2_leadsOn_106 ?_
        refine k_iload (pc := 109) C dX2_leadsOn_109 6 rfl ?_
        obtain ⟨ha20, h⟩ := gp_e h
        refine k_iald (pc := 111) C ha20 dX2_leadsOn_111 ?_
        refine k_iadd (pc := 112) C dX2_leadsOn_112 ?_
        refine k_aloadn (pc := 113) C dX2_leadsOn_113 (i := 0) rfl 0 rfl ?_
        obtain ⟨b21, hb21, h⟩ := rl_e h
        refine k_getR (pc := 114) C lkF_RX2_21_2 hs14 ir_2_5 hb21 dX2_leadsOn_114 ?_
        refine k_iload (pc := 117) C dX2_leadsOn_117 5 rfl ?_
        obtain ⟨ha22, h⟩ := gp_e h
        refine k_iald (pc := 119) C ha22 dX2_leadsOn_119 ?_
        refine k_icmp_ne (pc := 120) C dX2_leadsOn_120 (tgt := 127) (by decide) (fun hc23 => ?_) (fun hc23 => ?_)
        · rw [if_neg hc23] at h
          refine k_iconst (pc := 127) C (v := (0 : Int32)) dX2_leadsOn_127 (by decide) ?_
          have h := Option.some.inj h
          subst h
          exact k_zret (pc := 128) C hr hk (Or.inl rfl) dX2_leadsOn_128
        · rw [if_pos hc23] at h
          refine k_iconst (pc := 123) C (v := (1 : Int32)) dX2_leadsOn_123 (by decide) ?_
          refine k_goto (pc := 124) C dX2_leadsOn_124 (tgt := 128) (by decide) ?_
          have h := Option.some.inj h
          subst h
          exact k_zret (pc := 128) C hr hk (Or.inr rfl) dX2_leadsOn_128
theorem c_X2_leadsOn {E : Ev} {l : Launch} {S : Sh} {R : Rw} {I : Iw} {a0 : Nat} {x1 : Int32} {x2 : Int32} {x3 : Int32} {x4 : Int32} {r : Int32} (h : f_X2_leadsOn S R I a0 x1 x2 x3 x4 = some r) : Mt E l yX2_leadsOn cX2_leadsOn 7 (some .boolean) 2 44 [.ref (E.1 + a0), .int x1, .int x2, .int x3, .int x4] S R I S R I (some (.int r)) 0 0 := mt_of (by decide) (Nat.le_of_ble_eq_true rfl) (fun p e s m args below meth c C hr hk hn => b_X2_leadsOn C hr hk _ _ _ _ _ h)
theorem lkV_RX2_111 : LkV RX2 111 RX2 yX2_leadsOn cX2_leadsOn 7 (some .boolean) 4 := ⟨(t3_in 142 (by decide +kernel) rfl), (t3_in 144 (by decide +kernel) rfl), (t0_in 22 (by decide +kernel) rfl), (t3_in 145 (by decide +kernel) rfl), (t1_in 5 (by decide +kernel) rfl), by decide, by decide +kernel⟩
theorem dX2_leastNext_0 : decode cX2_leastNext 0 = .ok (.aload_n 0, 1) := by decide +kernel
theorem dX2_leastNext_1 : decode cX2_leastNext 1 = .ok (.getfield 34, 3) := by decide +kernel
theorem dX2_leastNext_4 : decode cX2_leastNext 4 = .ok (.iload_n 1, 1) := by decide +kernel
theorem dX2_leastNext_5 : decode cX2_leastNext 5 = .ok (.iload_n 2, 1) := by decide +kernel
theorem dX2_leastNext_6 : decode cX2_leastNext 6 = .ok (.invokevirtual 78, 3) := by decide +kernel
theorem dX2_leastNext_9 : decode cX2_leastNext 9 = .ok (.istore 4, 2) := by decide +kernel
theorem dX2_leastNext_11 : decode cX2_leastNext 11 = .ok (.iconst 0, 1) := by decide +kernel
theorem dX2_leastNext_12 : decode cX2_leastNext 12 = .ok (.istore 5, 2) := by decide +kernel
theorem dX2_leastNext_14 : decode cX2_leastNext 14 = .ok (.iload 5, 2) := by decide +kernel
theorem dX2_leastNext_16 : decode cX2_leastNext 16 = .ok (.bipush 9, 2) := by decide +kernel
theorem dX2_leastNext_18 : decode cX2_leastNext 18 = .ok (.if_icmp .ge 34, 3) := by decide +kernel
theorem dX2_leastNext_21 : decode cX2_leastNext 21 = .ok (.iload 4, 2) := by decide +kernel
theorem dX2_leastNext_23 : decode cX2_leastNext 23 = .ok (.iload 5, 2) := by decide +kernel
theorem dX2_leastNext_25 : decode cX2_leastNext 25 = .ok (.invokestatic 81, 3) := by decide +kernel
theorem dX2_leastNext_28 : decode cX2_leastNext 28 = .ok (.ifCond .eq 18, 3) := by decide +kernel
theorem dX2_leastNext_31 : decode cX2_leastNext 31 = .ok (.aload_n 0, 1) := by decide +kernel
theorem dX2_leastNext_32 : decode cX2_leastNext 32 = .ok (.iload_n 1, 1) := by decide +kernel
theorem dX2_leastNext_33 : decode cX2_leastNext 33 = .ok (.iload_n 2, 1) := by decide +kernel
theorem dX2_leastNext_34 : decode cX2_leastNext 34 = .ok (.iload 5, 2) := by decide +kernel
theorem dX2_leastNext_36 : decode cX2_leastNext 36 = .ok (.iload_n 3, 1) := by decide +kernel
theorem dX2_leastNext_37 : decode cX2_leastNext 37 = .ok (.invokevirtual 111, 3) := by decide +kernel
theorem dX2_leastNext_40 : decode cX2_leastNext 40 = .ok (.ifCond .eq 6, 3) := by decide +kernel
theorem dX2_leastNext_43 : decode cX2_leastNext 43 = .ok (.iload 5, 2) := by decide +kernel
theorem dX2_leastNext_45 : decode cX2_leastNext 45 = .ok (.ireturn, 1) := by decide +kernel
theorem dX2_leastNext_46 : decode cX2_leastNext 46 = .ok (.iinc 5 1, 3) := by decide +kernel
theorem dX2_leastNext_49 : decode cX2_leastNext 49 = .ok (.goto (-35), 3) := by decide +kernel
theorem dX2_leastNext_52 : decode cX2_leastNext 52 = .ok (.bipush (-3), 2) := by decide +kernel
theorem dX2_leastNext_54 : decode cX2_leastNext 54 = .ok (.ireturn, 1) := by decide +kernel
def f_X2_leastNext_46 (S : Sh) (R : Rw) (I : Iw) (ko14 : Nat → Int32 → Int32 → Int32 → Int32 → Int32 → Option (Int32)) (a0 : Nat) (x1 : Int32) (x2 : Int32) (x3 : Int32) (x4 : Int32) (x5 : Int32) : Option (Int32) := ko14 a0 x1 x2 x3 x4 (x5 + (1 : Int32))
set_option maxHeartbeats 4000000 in
theorem b_X2_leastNext_46 {E : Ev} {p : Program} {l : Launch} {e : Env} {s : State} {m : MethodId} {args : Array Value} {below : List Frame} {meth : Method} {c : Code} (C : Cx E RX2 cX2_leastNext 6 p s m c) (hr : meth.sig.returnType = (some .int)) (hk : meth.locks = false) {S : Sh} {R : Rw} {I : Iw} {r : Int32}  {ko14 : Nat → Int32 → Int32 → Int32 → Int32 → Int32 → Option (Int32)} (hko14 : ∀ (a0 : Nat) (x1 : Int32) (x2 : Int32) (x3 : Int32) (x4 : Int32) (x5 : Int32), ko14 a0 x1 x2 x3 x4 x5 = some r → Wk E 6 p l e ({ frames := 3, cells := 0, slots := 0, locals := 70 } : Room) s m args below meth c 0 0 (MQ below (Qw E S R I (some (.int r))) args s 0 0 (fun q => E.1 ≤ q)) 14 [(0, .ref (E.1 + a0)), (1, .int x1), (2, .int x2), (3, .int x3), (4, .int x4), (5, .int x5)] [] S R I) : ∀ (a0 : Nat) (x1 : Int32) (x2 : Int32) (x3 : Int32) (x4 : Int32) (x5 : Int32), f_X2_leastNext_46 S R I ko14  a0 x1 x2 x3 x4 x5 = some r → Wk E 6 p l e ({ frames := 3, cells := 0, slots := 0, locals := 70 } : Room) s m args below meth c 0 0 (MQ below (Qw E S R I (some (.int r))) args s 0 0 (fun q => E.1 ≤ q)) 46 [(0, .ref (E.1 + a0)), (1, .int x1), (2, .int x2), (3, .int x3), (4, .int x4), (5, .int x5)] [] S R I := by
  intro a0 x1 x2 x3 x4 x5 h
  rw [f_X2_leastNext_46] at h
  refine k_iinc (pc := 46) C dX2_leastNext_46 5 rfl (v := x5 + (1 : Int32)) (by rfl) (by decide) (L2 := [(0, .ref (E.1 + a0)), (1, .int x1), (2, .int x2), (3, .int x3), (4, .int x4), (5, .int (x5 + (1 : Int32)))]) rfl ?_
  refine k_goto (pc := 49) C dX2_leastNext_49 (tgt := 14) (by decide) ?_
  exact hko14 _ _ _ _ _ _ h
def f_X2_leastNext_14 (S : Sh) (R : Rw) (I : Iw)  : Nat → Nat → Int32 → Int32 → Int32 → Int32 → Int32 → Option (Int32)
  | 0, _, _, _, _, _, _ => none
  | n + 1, a0, x1, x2, x3, x4, x5 => (if (9 : Int32) ≤ x5 then some (-3 : Int32) else bd (f_X11_holds S R I x4 x5) (fun r6 => (if r6 = 0 then f_X2_leastNext_46 S R I (f_X2_leastNext_14 S R I  n) a0 x1 x2 x3 x4 x5 else gp (sok S a0 2 11) (bd (f_X2_leadsOn S R I a0 x1 x2 x5 x3) (fun r9 => (if r9 = 0 then f_X2_leastNext_46 S R I (f_X2_leastNext_14 S R I  n) a0 x1 x2 x3 x4 x5 else some x5))))))
set_option maxHeartbeats 4000000 in
theorem b_X2_leastNext_14 {E : Ev} {p : Program} {l : Launch} {e : Env} {s : State} {m : MethodId} {args : Array Value} {below : List Frame} {meth : Method} {c : Code} (C : Cx E RX2 cX2_leastNext 6 p s m c) (hr : meth.sig.returnType = (some .int)) (hk : meth.locks = false) {S : Sh} {R : Rw} {I : Iw} {r : Int32}  : ∀ (n : Nat) (a0 : Nat) (x1 : Int32) (x2 : Int32) (x3 : Int32) (x4 : Int32) (x5 : Int32), f_X2_leastNext_14 S R I  n a0 x1 x2 x3 x4 x5 = some r → Wk E 6 p l e ({ frames := 3, cells := 0, slots := 0, locals := 70 } : Room) s m args below meth c 0 0 (MQ below (Qw E S R I (some (.int r))) args s 0 0 (fun q => E.1 ≤ q)) 14 [(0, .ref (E.1 + a0)), (1, .int x1), (2, .int x2), (3, .int x3), (4, .int x4), (5, .int x5)] [] S R I := by
  intro n
  induction n with
  | zero =>
    intro a0 x1 x2 x3 x4 x5 h
    rw [f_X2_leastNext_14] at h
    cases h
  | succ n ih =>
    intro a0 x1 x2 x3 x4 x5 h
    rw [f_X2_leastNext_14] at h
    refine k_iload (pc := 14) C dX2_leastNext_14 5 rfl ?_
    refine k_bipush (pc := 16) C (v := (9 : Int32)) dX2_leastNext_16 (by decide) ?_
    refine k_icmp_ge (pc := 18) C dX2_leastNext_18 (tgt := 52) (by decide) (fun hc5 => ?_) (fun hc5 => ?_)
    · rw [if_pos hc5] at h
      refine k_bipush (pc := 52) C (v := (-3 : Int32)) dX2_leastNext_52 (by decide) ?_
      have h := Option.some.inj h
      subst h
      exact k_iret (pc := 54) C hr hk dX2_leastNext_54
    · rw [if_neg hc5] at h
      refine k_iload (pc := 21) C dX2_leastNext_21 4 rfl ?_
      refine k_iload (pc := 23) C dX2_leastNext_23 5 rfl ?_
      obtain ⟨r6, hr6, h⟩ := bd_e h
      refine k_SN (pc := 25) (st := []) C (c_X11_holds hr6) lkSN_RX2_81 rfl rfl (Nat.le_of_ble_eq_true rfl) (Nat.le_of_ble_eq_true rfl) (Nat.le_of_ble_eq_true rfl) (Nat.le_of_ble_eq_true rfl) (Nat.le_of_ble_eq_true rfl) dX2_leastNext_25 ?_
      refine k_nf (cells2 := 0) (slots2 := 0) (st2 := [.int r6]) rfl rfl rfl ?_
      refine k_if_eq (pc := 28) C dX2_leastNext_28 (tgt := 46) (by decide) (fun hc7 => ?_) (fun hc7 => ?_)
      · rw [if_pos hc7] at h
        exact b_X2_leastNext_46 C hr hk ih _ _ _ _ _ _ h
      · rw [if_neg hc7] at h
        refine k_aloadn (pc := 31) C dX2_leastNext_31 (i := 0) rfl 0 rfl ?_
        refine k_iloadn (pc := 32) C dX2_leastNext_32 (i := 1) rfl 1 rfl ?_
        refine k_iloadn (pc := 33) C dX2_leastNext_33 (i := 2) rfl 2 rfl ?_
        refine k_iload (pc := 34) C dX2_leastNext_34 5 rfl ?_
        refine k_iloadn (pc := 36) C dX2_leastNext_36 (i := 3) rfl 3 rfl ?_
        obtain ⟨hs80, h⟩ := gp_e h
        have hs8 := sok_e hs80
        obtain ⟨r9, hr9, h⟩ := bd_e h
        refine k_V (pc := 37) (st := []) C (c_X2_leadsOn hr9) lkV_RX2_111 hs8 rfl rfl rfl (Nat.le_of_ble_eq_true rfl) (Nat.le_of_ble_eq_true rfl) (Nat.le_of_ble_eq_true rfl) (Nat.le_of_ble_eq_true rfl) (Nat.le_of_ble_eq_true rfl) dX2_leastNext_37 ?_
        refine k_nf (cells2 := 0) (slots2 := 0) (st2 := [.int r9]) rfl rfl rfl ?_
        refine k_if_eq (pc := 40) C dX2_leastNext_40 (tgt := 46) (by decide) (fun hc10 => ?_) (fun hc10 => ?_)
        · rw [if_pos hc10] at h
          exact b_X2_leastNext_46 C hr hk ih _ _ _ _ _ _ h
        · rw [if_neg hc10] at h
          refine k_iload (pc := 43) C dX2_leastNext_43 5 rfl ?_
          have h := Option.some.inj h
          subst h
          exact k_iret (pc := 45) C hr hk dX2_leastNext_45
def f_X2_leastNext (S : Sh) (R : Rw) (I : Iw)  (a0 : Nat) (x1 : Int32) (x2 : Int32) (x3 : Int32) : Option (Int32) := gp (sok S a0 2 11) (rl (R a0 0) (fun b2 => gp (sok S b2 7 16) (bd (f_X7_mayGo S R I b2 x1 x2) (fun r4 => f_X2_leastNext_14 S R I  512 a0 x1 x2 x3 r4 (0 : Int32)))))
set_option maxHeartbeats 4000000 in
theorem b_X2_leastNext {E : Ev} {p : Program} {l : Launch} {e : Env} {s : State} {m : MethodId} {args : Array Value} {below : List Frame} {meth : Method} {c : Code} (C : Cx E RX2 cX2_leastNext 6 p s m c) (hr : meth.sig.returnType = (some .int)) (hk : meth.locks = false) {S : Sh} {R : Rw} {I : Iw} {r : Int32}  : ∀ (a0 : Nat) (x1 : Int32) (x2 : Int32) (x3 : Int32), f_X2_leastNext S R I   a0 x1 x2 x3 = some r → Wk E 6 p l e ({ frames := 3, cells := 0, slots := 0, locals := 70 } : Room) s m args below meth c 0 0 (MQ below (Qw E S R I (some (.int r))) args s 0 0 (fun q => E.1 ≤ q)) 0 [(0, .ref (E.1 + a0)), (1, .int x1), (2, .int x2), (3, .int x3)] [] S R I := by
  intro a0 x1 x2 x3 h
  rw [f_X2_leastNext] at h
  refine k_aloadn (pc := 0) C dX2_leastNext_0 (i := 0) rfl 0 rfl ?_
  obtain ⟨hs10, h⟩ := gp_e h
  have hs1 := sok_e hs10
  obtain ⟨b2, hb2, h⟩ := rl_e h
  refine k_getR (pc := 1) C lkF_RX2_34_2 hs1 ir_2_0 hb2 dX2_leastNext_1 ?_
  refine k_iloadn (pc := 4) C dX2_leastNext_4 (i := 1) rfl 1 rfl ?_
  refine k_iloadn (pc := 5) C dX2_leastNext_5 (i := 2) rfl 2 rfl ?_
  obtain ⟨hs30, h⟩ := gp_e h
  have hs3 := sok_e hs30
  obtain ⟨r4, hr4, h⟩ := bd_e h
  refine k_V (pc := 6) (st := []) C (c_X7_mayGo hr4) lkV_RX2_78 hs3 rfl rfl rfl (Nat.le_of_ble_eq_true rfl) (Nat.le_of_ble_eq_true rfl) (Nat.le_of_ble_eq_true rfl) (Nat.le_of_ble_eq_true rfl) (Nat.le_of_ble_eq_true rfl) dX2_leastNext_6 ?_
  refine k_nf (cells2 := 0) (slots2 := 0) (st2 := [.int r4]) rfl rfl rfl ?_
  refine k_istore (pc := 9) C dX2_leastNext_9 (by decide) (L2 := [(0, .ref (E.1 + a0)), (1, .int x1), (2, .int x2), (3, .int x3), (4, .int r4)]) rfl ?_
  refine k_iconst (pc := 11) C (v := (0 : Int32)) dX2_leastNext_11 (by decide) ?_
  refine k_istore (pc := 12) C dX2_leastNext_12 (by decide) (L2 := [(0, .ref (E.1 + a0)), (1, .int x1), (2, .int x2), (3, .int x3), (4, .int r4), (5, .int (0 : Int32))]) rfl ?_
  exact b_X2_leastNext_14 C hr hk  _ _ _ _ _ _ _ h
theorem c_X2_leastNext {E : Ev} {l : Launch} {S : Sh} {R : Rw} {I : Iw} {a0 : Nat} {x1 : Int32} {x2 : Int32} {x3 : Int32} {r : Int32} (h : f_X2_leastNext S R I a0 x1 x2 x3 = some r) : Mt E l yX2_leastNext cX2_leastNext 6 (some .int) 3 70 [.ref (E.1 + a0), .int x1, .int x2, .int x3] S R I S R I (some (.int r)) 0 0 := mt_of (by decide) (Nat.le_of_ble_eq_true rfl) (fun p e s m args below meth c C hr hk hn => b_X2_leastNext C hr hk _ _ _ _ h)
