/-! X12_goesOn, X12_findFirst, X12_orderTold -/
theorem dX12_goesOn_0 : decode cX12_goesOn 0 = .ok (.iload_n 1, 1) := by decide +kernel
theorem dX12_goesOn_1 : decode cX12_goesOn 1 = .ok (.lookupswitch 56 #[(0, 27), (1, 40)], 27) := by decide +kernel
theorem dX12_goesOn_28 : decode cX12_goesOn 28 = .ok (.aload_n 0, 1) := by decide +kernel
theorem dX12_goesOn_29 : decode cX12_goesOn 29 = .ok (.invokevirtual 275, 3) := by decide +kernel
theorem dX12_goesOn_32 : decode cX12_goesOn 32 = .ok (.ifCond .le 7, 3) := by decide +kernel
theorem dX12_goesOn_35 : decode cX12_goesOn 35 = .ok (.iconst 1, 1) := by decide +kernel
theorem dX12_goesOn_36 : decode cX12_goesOn 36 = .ok (.goto 4, 3) := by decide +kernel
theorem dX12_goesOn_39 : decode cX12_goesOn 39 = .ok (.iconst 0, 1) := by decide +kernel
theorem dX12_goesOn_40 : decode cX12_goesOn 40 = .ok (.ireturn, 1) := by decide +kernel
theorem dX12_goesOn_41 : decode cX12_goesOn 41 = .ok (.iconst 1, 1) := by decide +kernel
theorem dX12_goesOn_42 : decode cX12_goesOn 42 = .ok (.aload_n 0, 1) := by decide +kernel
theorem dX12_goesOn_43 : decode cX12_goesOn 43 = .ok (.invokevirtual 278, 3) := by decide +kernel
theorem dX12_goesOn_46 : decode cX12_goesOn 46 = .ok (.iadd, 1) := by decide +kernel
theorem dX12_goesOn_47 : decode cX12_goesOn 47 = .ok (.iload_n 3, 1) := by decide +kernel
theorem dX12_goesOn_48 : decode cX12_goesOn 48 = .ok (.if_icmp .ne 7, 3) := by decide +kernel
theorem dX12_goesOn_51 : decode cX12_goesOn 51 = .ok (.iconst 1, 1) := by decide +kernel
theorem dX12_goesOn_52 : decode cX12_goesOn 52 = .ok (.goto 4, 3) := by decide +kernel
theorem dX12_goesOn_55 : decode cX12_goesOn 55 = .ok (.iconst 0, 1) := by decide +kernel
theorem dX12_goesOn_56 : decode cX12_goesOn 56 = .ok (.ireturn, 1) := by decide +kernel
theorem dX12_goesOn_57 : decode cX12_goesOn 57 = .ok (.aload_n 0, 1) := by decide +kernel
theorem dX12_goesOn_58 : decode cX12_goesOn 58 = .ok (.iload_n 2, 1) := by decide +kernel
theorem dX12_goesOn_59 : decode cX12_goesOn 59 = .ok (.iconst 1, 1) := by decide +kernel
theorem dX12_goesOn_60 : decode cX12_goesOn 60 = .ok (.iadd, 1) := by decide +kernel
theorem dX12_goesOn_61 : decode cX12_goesOn 61 = .ok (.invokevirtual 281, 3) := by decide +kernel
theorem dX12_goesOn_64 : decode cX12_goesOn 64 = .ok (.istore 5, 2) := by decide +kernel
theorem dX12_goesOn_66 : decode cX12_goesOn 66 = .ok (.iload 5, 2) := by decide +kernel
theorem dX12_goesOn_68 : decode cX12_goesOn 68 = .ok (.ifCond .lt 18, 3) := by decide +kernel
theorem dX12_goesOn_71 : decode cX12_goesOn 71 = .ok (.iload_n 2, 1) := by decide +kernel
theorem dX12_goesOn_72 : decode cX12_goesOn 72 = .ok (.iload 4, 2) := by decide +kernel
theorem dX12_goesOn_74 : decode cX12_goesOn 74 = .ok (.imul, 1) := by decide +kernel
theorem dX12_goesOn_75 : decode cX12_goesOn 75 = .ok (.iload 5, 2) := by decide +kernel
theorem dX12_goesOn_77 : decode cX12_goesOn 77 = .ok (.iadd, 1) := by decide +kernel
theorem dX12_goesOn_78 : decode cX12_goesOn 78 = .ok (.iload_n 3, 1) := by decide +kernel
theorem dX12_goesOn_79 : decode cX12_goesOn 79 = .ok (.if_icmp .ne 7, 3) := by decide +kernel
theorem dX12_goesOn_82 : decode cX12_goesOn 82 = .ok (.iconst 1, 1) := by decide +kernel
theorem dX12_goesOn_83 : decode cX12_goesOn 83 = .ok (.goto 4, 3) := by decide +kernel
theorem dX12_goesOn_86 : decode cX12_goesOn 86 = .ok (.iconst 0, 1) := by decide +kernel
theorem dX12_goesOn_87 : decode cX12_goesOn 87 = .ok (.ireturn, 1) := by decide +kernel
def f_X12_goesOn (S : Sh) (R : Rw)  (I : Iw) (a0 : Nat) (x1 : Int32) (x2 : Int32) (x3 : Int32) (x4 : Int32) : Option (Iw × Int32) := (if x1 = (0 : Int32) then gp (sok S a0 12 34) (bd (f_X12_waysOn 12 S R I a0) (fun r2 => (if r2.2 ≤ 0 then some (r2.1, (0 : Int32)) else some (r2.1, (1 : Int32))))) else (if x1 = (1 : Int32) then gp (sok S a0 12 34) (bd (f_X12_longestOn 12 S R I a0) (fun r5 => (if ((1 : Int32) + r5.2) = x3 then some (r5.1, (1 : Int32)) else some (r5.1, (0 : Int32))))) else gp (sok S a0 12 34) (bd (f_X12_costOn 12 S R I a0 (x2 + (1 : Int32))) (fun r8 => (if r8.2 < 0 then some (r8.1, (0 : Int32)) else (if ((x2 * x4) + r8.2) = x3 then some (r8.1, (1 : Int32)) else some (r8.1, (0 : Int32))))))))
set_option maxHeartbeats 4000000 in
theorem b_X12_goesOn {E : Ev} {p : Program} {l : Launch} {e : Env} {s : State} {m : MethodId} {args : Array Value} {below : List Frame} {meth : Method} {c : Code} (C : Cx E RX12 cX12_goesOn 6 p s m c) (hr : meth.sig.returnType = (some .boolean)) (hk : meth.locks = false) {S : Sh} {R : Rw} {r : Iw × Int32}  : ∀ (I : Iw) (a0 : Nat) (x1 : Int32) (x2 : Int32) (x3 : Int32) (x4 : Int32), f_X12_goesOn S R   I a0 x1 x2 x3 x4 = some r → Wk E 6 p l e ({ frames := 73, cells := 0, slots := 0, locals := 1681 } : Room) s m args below meth c 0 0 (MQ below (Qw E S R r.1 (some (.int r.2))) args s 0 0 (fun q => E.1 ≤ q)) 0 [(0, .ref (E.1 + a0)), (1, .int x1), (2, .int x2), (3, .int x3), (4, .int x4)] [] S R I := by
  intro I a0 x1 x2 x3 x4 h
  rw [f_X12_goesOn] at h
  refine k_iloadn (pc := 0) C dX12_goesOn_0 (i := 1) rfl 1 rfl ?_
  by_cases hc11 : x1 = (0 : Int32)
  · rw [if_pos hc11] at h
    refine k_look (pc := 1) C dX12_goesOn_1 (by decide) (off := 27) (by rw [hc11]; rfl) (tgt := 28) (by decide) ?_
    refine k_aloadn (pc := 28) C dX12_goesOn_28 (i := 0) rfl 0 rfl ?_
    obtain ⟨hs10, h⟩ := gp_e h
    have hs1 := sok_e hs10
    obtain ⟨r2, hr2, h⟩ := bd_e h
    refine k_V (pc := 29) (st := []) C (c_X12_waysOn 12 hr2) lkV_RX12_275 hs1 rfl rfl rfl (Nat.le_of_ble_eq_true rfl) (Nat.le_of_ble_eq_true rfl) (Nat.le_of_ble_eq_true rfl) (Nat.le_of_ble_eq_true rfl) (Nat.le_of_ble_eq_true rfl) dX12_goesOn_29 ?_
    refine k_nf (cells2 := 0) (slots2 := 0) (st2 := [.int r2.2]) rfl rfl rfl ?_
    refine k_if_le (pc := 32) C dX12_goesOn_32 (tgt := 39) (by decide) (fun hc3 => ?_) (fun hc3 => ?_)
    · rw [if_pos hc3] at h
      refine k_iconst (pc := 39) C (v := (0 : Int32)) dX12_goesOn_39 (by decide) ?_
      have h := Option.some.inj h
      subst h
      exact k_zret (pc := 40) C hr hk (Or.inl rfl) dX12_goesOn_40
    · rw [if_neg hc3] at h
      refine k_iconst (pc := 35) C (v := (1 : Int32)) dX12_goesOn_35 (by decide) ?_
      refine k_goto (pc := 36) C dX12_goesOn_36 (tgt := 40) (by decide) ?_
      have h := Option.some.inj h
      subst h
      exact k_zret (pc := 40) C hr hk (Or.inr rfl) dX12_goesOn_40
  · rw [if_neg hc11] at h
    by_cases hc12 : x1 = (1 : Int32)
    · rw [if_pos hc12] at h
      refine k_look (pc := 1) C dX12_goesOn_1 (by decide) (off := 40) (by rw [hc12]; rfl) (tgt := 41) (by decide) ?_
      refine k_iconst (pc := 41) C (v := (1 : Int32)) dX12_goesOn_41 (by decide) ?_
      refine k_aloadn (pc := 42) C dX12_goesOn_42 (i := 0) rfl 0 rfl ?_
      obtain ⟨hs40, h⟩ := gp_e h
      have hs4 := sok_e hs40
      obtain ⟨r5, hr5, h⟩ := bd_e h
      refine k_V (pc := 43) (st := [.int (1 : Int32)]) C (c_X12_longestOn 12 hr5) lkV_RX12_278 hs4 rfl rfl rfl (Nat.le_of_ble_eq_true rfl) (Nat.le_of_ble_eq_true rfl) (Nat.le_of_ble_eq_true rfl) (Nat.le_of_ble_eq_true rfl) (Nat.le_of_ble_eq_true rfl) dX12_goesOn_43 ?_
      refine k_nf (cells2 := 0) (slots2 := 0) (st2 := [.int r5.2, .int (1 : Int32)]) rfl rfl rfl ?_
      refine k_iadd (pc := 46) C dX12_goesOn_46 ?_
      refine k_iloadn (pc := 47) C dX12_goesOn_47 (i := 3) rfl 3 rfl ?_
      refine k_icmp_ne (pc := 48) C dX12_goesOn_48 (tgt := 55) (by decide) (fun hc6 => ?_) (fun hc6 => ?_)
      · rw [if_neg hc6] at h
        refine k_iconst (pc := 55) C (v := (0 : Int32)) dX12_goesOn_55 (by decide) ?_
        have h := Option.some.inj h
        subst h
        exact k_zret (pc := 56) C hr hk (Or.inl rfl) dX12_goesOn_56
      · rw [if_pos hc6] at h
        refine k_iconst (pc := 51) C (v := (1 : Int32)) dX12_goesOn_51 (by decide) ?_
        refine k_goto (pc := 52) C dX12_goesOn_52 (tgt := 56) (by decide) ?_
        have h := Option.some.inj h
        subst h
        exact k_zret (pc := 56) C hr hk (Or.inr rfl) dX12_goesOn_56
    · rw [if_neg hc12] at h
      refine k_look (pc := 1) C dX12_goesOn_1 (by decide) (off := 56) (look_cons (look_ne hc11 (by decide)) (look_cons (look_ne hc12 (by decide)) rfl)) (tgt := 57) (by decide) ?_
      refine k_aloadn (pc := 57) C dX12_goesOn_57 (i := 0) rfl 0 rfl ?_
      refine k_iloadn (pc := 58) C dX12_goesOn_58 (i := 2) rfl 2 rfl ?_
      refine k_iconst (pc := 59) C (v := (1 : Int32)) dX12_goesOn_59 (by decide) ?_
      refine k_iadd (pc := 60) C dX12_goesOn_60 ?_
      obtain ⟨hs70, h⟩ := gp_e h
      have hs7 := sok_e hs70
      obtain ⟨r8, hr8, h⟩ := bd_e h
      refine k_V (pc := 61) (st := []) C (c_X12_costOn 12 hr8) lkV_RX12_281 hs7 rfl rfl rfl (Nat.le_of_ble_eq_true rfl) (Nat.le_of_ble_eq_true rfl) (Nat.le_of_ble_eq_true rfl) (Nat.le_of_ble_eq_true rfl) (Nat.le_of_ble_eq_true rfl) dX12_goesOn_61 ?_
      refine k_nf (cells2 := 0) (slots2 := 0) (st2 := [.int r8.2]) rfl rfl rfl ?_
      refine k_istore (pc := 64) C dX12_goesOn_64 (by decide) (L2 := [(0, .ref (E.1 + a0)), (1, .int x1), (2, .int x2), (3, .int x3), (4, .int x4), (5, .int r8.2)]) rfl ?_
      refine k_iload (pc := 66) C dX12_goesOn_66 5 rfl ?_
      refine k_if_lt (pc := 68) C dX12_goesOn_68 (tgt := 86) (by decide) (fun hc9 => ?_) (fun hc9 => ?_)
      · rw [if_pos hc9] at h
        refine k_iconst (pc := 86) C (v := (0 : Int32)) dX12_goesOn_86 (by decide) ?_
        have h := Option.some.inj h
        subst h
        exact k_zret (pc := 87) C hr hk (Or.inl rfl) dX12_goesOn_87
      · rw [if_neg hc9] at h
        refine k_iloadn (pc := 71) C dX12_goesOn_71 (i := 2) rfl 2 rfl ?_
        refine k_iload (pc := 72) C dX12_goesOn_72 4 rfl ?_
        refine k_imul (pc := 74) C dX12_goesOn_74 ?_
        refine k_iload (pc := 75) C dX12_goesOn_75 5 rfl ?_
        refine k_iadd (pc := 77) C dX12_goesOn_77 ?_
        refine k_iloadn (pc := 78) C dX12_goesOn_78 (i := 3) rfl 3 rfl ?_
        refine k_icmp_ne (pc := 79) C dX12_goesOn_79 (tgt := 86) (by decide) (fun hc10 => ?_) (fun hc10 => ?_)
        · rw [if_neg hc10] at h
          refine k_iconst (pc := 86) C (v := (0 : Int32)) dX12_goesOn_86 (by decide) ?_
          have h := Option.some.inj h
          subst h
          exact k_zret (pc := 87) C hr hk (Or.inl rfl) dX12_goesOn_87
        · rw [if_pos hc10] at h
          refine k_iconst (pc := 82) C (v := (1 : Int32)) dX12_goesOn_82 (by decide) ?_
          refine k_goto (pc := 83) C dX12_goesOn_83 (tgt := 87) (by decide) ?_
          have h := Option.some.inj h
          subst h
          exact k_zret (pc := 87) C hr hk (Or.inr rfl) dX12_goesOn_87
theorem c_X12_goesOn {E : Ev} {l : Launch} {S : Sh} {R : Rw} {I : Iw} {a0 : Nat} {x1 : Int32} {x2 : Int32} {x3 : Int32} {x4 : Int32} {r : Iw × Int32} (h : f_X12_goesOn S R I a0 x1 x2 x3 x4 = some r) : Mt E l yX12_goesOn cX12_goesOn 6 (some .boolean) 73 1681 [.ref (E.1 + a0), .int x1, .int x2, .int x3, .int x4] S R I S R r.1 (some (.int r.2)) 0 0 := mt_of (by decide) (Nat.le_of_ble_eq_true rfl) (fun p e s m args below meth c C hr hk hn => b_X12_goesOn C hr hk _ _ _ _ _ _ h)
theorem lkP_RX12_291_12 : LkP RX12 291 12 21 .int := ⟨RX12, TX12, 34, "UnlikeNeighboursModel", fc12, by decide, (t5_in 102 (by decide +kernel) rfl), Or.inl rfl, rfl, by decide +kernel⟩
theorem lkF_RX12_291_12 : LkF RX12 291 12 21 := ⟨RX12, TX12, 34, "UnlikeNeighboursModel", fc12, by decide, (t5_in 102 (by decide +kernel) rfl), Or.inl rfl⟩
theorem lkV_RX12_294 : LkV RX12 294 RX12 yX12_goesOn cX12_goesOn 6 (some .boolean) 4 := ⟨(t6_in 182 (by decide +kernel) rfl), (t6_in 184 (by decide +kernel) rfl), (t0_in 62 (by decide +kernel) rfl), (t6_in 185 (by decide +kernel) rfl), (t1_in 7 (by decide +kernel) rfl), by decide, by decide +kernel⟩
theorem lkF_RX12_71_12 : LkF RX12 71 12 20 := ⟨RX12, TX12, 34, "UnlikeNeighboursModel", fc12, by decide, (t5_in 101 (by decide +kernel) rfl), Or.inl rfl⟩
theorem dX12_findFirst_0 : decode cX12_findFirst 0 = .ok (.aload_n 0, 1) := by decide +kernel
theorem dX12_findFirst_1 : decode cX12_findFirst 1 = .ok (.getfield 9, 3) := by decide +kernel
theorem dX12_findFirst_4 : decode cX12_findFirst 4 = .ok (.iconst 5, 1) := by decide +kernel
theorem dX12_findFirst_5 : decode cX12_findFirst 5 = .ok (.iaload, 1) := by decide +kernel
theorem dX12_findFirst_6 : decode cX12_findFirst 6 = .ok (.istore_n 2, 1) := by decide +kernel
theorem dX12_findFirst_7 : decode cX12_findFirst 7 = .ok (.aload_n 0, 1) := by decide +kernel
theorem dX12_findFirst_8 : decode cX12_findFirst 8 = .ok (.iconst 0, 1) := by decide +kernel
theorem dX12_findFirst_9 : decode cX12_findFirst 9 = .ok (.putfield 291, 3) := by decide +kernel
theorem dX12_findFirst_12 : decode cX12_findFirst 12 = .ok (.iload_n 1, 1) := by decide +kernel
theorem dX12_findFirst_13 : decode cX12_findFirst 13 = .ok (.ifCond .ne 10, 3) := by decide +kernel
theorem dX12_findFirst_16 : decode cX12_findFirst 16 = .ok (.aload_n 0, 1) := by decide +kernel
theorem dX12_findFirst_17 : decode cX12_findFirst 17 = .ok (.invokevirtual 275, 3) := by decide +kernel
theorem dX12_findFirst_20 : decode cX12_findFirst 20 = .ok (.goto 20, 3) := by decide +kernel
theorem dX12_findFirst_23 : decode cX12_findFirst 23 = .ok (.iload_n 1, 1) := by decide +kernel
theorem dX12_findFirst_24 : decode cX12_findFirst 24 = .ok (.iconst 1, 1) := by decide +kernel
theorem dX12_findFirst_25 : decode cX12_findFirst 25 = .ok (.if_icmp .ne 10, 3) := by decide +kernel
theorem dX12_findFirst_28 : decode cX12_findFirst 28 = .ok (.aload_n 0, 1) := by decide +kernel
theorem dX12_findFirst_29 : decode cX12_findFirst 29 = .ok (.invokevirtual 278, 3) := by decide +kernel
theorem dX12_findFirst_32 : decode cX12_findFirst 32 = .ok (.goto 8, 3) := by decide +kernel
theorem dX12_findFirst_35 : decode cX12_findFirst 35 = .ok (.aload_n 0, 1) := by decide +kernel
theorem dX12_findFirst_36 : decode cX12_findFirst 36 = .ok (.iconst 1, 1) := by decide +kernel
theorem dX12_findFirst_37 : decode cX12_findFirst 37 = .ok (.invokevirtual 281, 3) := by decide +kernel
theorem dX12_findFirst_40 : decode cX12_findFirst 40 = .ok (.istore_n 3, 1) := by decide +kernel
theorem dX12_findFirst_41 : decode cX12_findFirst 41 = .ok (.iload_n 1, 1) := by decide +kernel
theorem dX12_findFirst_42 : decode cX12_findFirst 42 = .ok (.ifCond .ne 15, 3) := by decide +kernel
theorem dX12_findFirst_45 : decode cX12_findFirst 45 = .ok (.iload_n 3, 1) := by decide +kernel
theorem dX12_findFirst_46 : decode cX12_findFirst 46 = .ok (.ifCond .le 7, 3) := by decide +kernel
theorem dX12_findFirst_49 : decode cX12_findFirst 49 = .ok (.iconst 1, 1) := by decide +kernel
theorem dX12_findFirst_50 : decode cX12_findFirst 50 = .ok (.goto 16, 3) := by decide +kernel
theorem dX12_findFirst_53 : decode cX12_findFirst 53 = .ok (.iconst 0, 1) := by decide +kernel
theorem dX12_findFirst_54 : decode cX12_findFirst 54 = .ok (.goto 12, 3) := by decide +kernel
theorem dX12_findFirst_57 : decode cX12_findFirst 57 = .ok (.iload_n 3, 1) := by decide +kernel
theorem dX12_findFirst_58 : decode cX12_findFirst 58 = .ok (.ifCond .lt 7, 3) := by decide +kernel
theorem dX12_findFirst_61 : decode cX12_findFirst 61 = .ok (.iconst 1, 1) := by decide +kernel
theorem dX12_findFirst_62 : decode cX12_findFirst 62 = .ok (.goto 4, 3) := by decide +kernel
theorem dX12_findFirst_65 : decode cX12_findFirst 65 = .ok (.iconst 0, 1) := by decide +kernel
theorem dX12_findFirst_66 : decode cX12_findFirst 66 = .ok (.istore 4, 2) := by decide +kernel
theorem dX12_findFirst_68 : decode cX12_findFirst 68 = .ok (.iload 4, 2) := by decide +kernel
theorem dX12_findFirst_70 : decode cX12_findFirst 70 = .ok (.istore 5, 2) := by decide +kernel
theorem dX12_findFirst_72 : decode cX12_findFirst 72 = .ok (.iload 5, 2) := by decide +kernel
theorem dX12_findFirst_74 : decode cX12_findFirst 74 = .ok (.ifCond .eq 137, 3) := by decide +kernel
theorem dX12_findFirst_77 : decode cX12_findFirst 77 = .ok (.iconst 0, 1) := by decide +kernel
theorem dX12_findFirst_78 : decode cX12_findFirst 78 = .ok (.istore 5, 2) := by decide +kernel
theorem dX12_findFirst_80 : decode cX12_findFirst 80 = .ok (.iconst 0, 1) := by decide +kernel
theorem dX12_findFirst_81 : decode cX12_findFirst 81 = .ok (.istore 6, 2) := by decide +kernel
theorem dX12_findFirst_83 : decode cX12_findFirst 83 = .ok (.iload 6, 2) := by decide +kernel
theorem dX12_findFirst_85 : decode cX12_findFirst 85 = .ok (.aload_n 0, 1) := by decide +kernel
theorem dX12_findFirst_86 : decode cX12_findFirst 86 = .ok (.getfield 9, 3) := by decide +kernel
theorem dX12_findFirst_89 : decode cX12_findFirst 89 = .ok (.iconst 3, 1) := by decide +kernel
theorem dX12_findFirst_90 : decode cX12_findFirst 90 = .ok (.iaload, 1) := by decide +kernel
theorem dX12_findFirst_91 : decode cX12_findFirst 91 = .ok (.if_icmp .ge 117, 3) := by decide +kernel
theorem dX12_findFirst_94 : decode cX12_findFirst 94 = .ok (.iload 5, 2) := by decide +kernel
theorem dX12_findFirst_96 : decode cX12_findFirst 96 = .ok (.ifCond .ne 112, 3) := by decide +kernel
theorem dX12_findFirst_99 : decode cX12_findFirst 99 = .ok (.aload_n 0, 1) := by decide +kernel
theorem dX12_findFirst_100 : decode cX12_findFirst 100 = .ok (.iload 6, 2) := by decide +kernel
theorem dX12_findFirst_102 : decode cX12_findFirst 102 = .ok (.invokevirtual 257, 3) := by decide +kernel
theorem dX12_findFirst_105 : decode cX12_findFirst 105 = .ok (.ifCond .eq 97, 3) := by decide +kernel
theorem dX12_findFirst_108 : decode cX12_findFirst 108 = .ok (.aload_n 0, 1) := by decide +kernel
theorem dX12_findFirst_109 : decode cX12_findFirst 109 = .ok (.iload 6, 2) := by decide +kernel
theorem dX12_findFirst_111 : decode cX12_findFirst 111 = .ok (.invokevirtual 254, 3) := by decide +kernel
theorem dX12_findFirst_114 : decode cX12_findFirst 114 = .ok (.istore 7, 2) := by decide +kernel
theorem dX12_findFirst_116 : decode cX12_findFirst 116 = .ok (.aload_n 0, 1) := by decide +kernel
theorem dX12_findFirst_117 : decode cX12_findFirst 117 = .ok (.iload 6, 2) := by decide +kernel
theorem dX12_findFirst_119 : decode cX12_findFirst 119 = .ok (.invokevirtual 263, 3) := by decide +kernel
theorem dX12_findFirst_122 : decode cX12_findFirst 122 = .ok (.aload_n 0, 1) := by decide +kernel
theorem dX12_findFirst_123 : decode cX12_findFirst 123 = .ok (.iload_n 1, 1) := by decide +kernel
theorem dX12_findFirst_124 : decode cX12_findFirst 124 = .ok (.aload_n 0, 1) := by decide +kernel
theorem dX12_findFirst_125 : decode cX12_findFirst 125 = .ok (.getfield 291, 3) := by decide +kernel
theorem dX12_findFirst_128 : decode cX12_findFirst 128 = .ok (.iconst 1, 1) := by decide +kernel
theorem dX12_findFirst_129 : decode cX12_findFirst 129 = .ok (.iadd, 1) := by decide +kernel
theorem dX12_findFirst_130 : decode cX12_findFirst 130 = .ok (.iload_n 3, 1) := by decide +kernel
theorem dX12_findFirst_131 : decode cX12_findFirst 131 = .ok (.iload 7, 2) := by decide +kernel
theorem dX12_findFirst_133 : decode cX12_findFirst 133 = .ok (.invokevirtual 294, 3) := by decide +kernel
theorem dX12_findFirst_136 : decode cX12_findFirst 136 = .ok (.istore 5, 2) := by decide +kernel
theorem dX12_findFirst_138 : decode cX12_findFirst 138 = .ok (.iload 5, 2) := by decide +kernel
theorem dX12_findFirst_140 : decode cX12_findFirst 140 = .ok (.ifCond .eq 57, 3) := by decide +kernel
theorem dX12_findFirst_143 : decode cX12_findFirst 143 = .ok (.aload_n 0, 1) := by decide +kernel
theorem dX12_findFirst_144 : decode cX12_findFirst 144 = .ok (.getfield 71, 3) := by decide +kernel
theorem dX12_findFirst_147 : decode cX12_findFirst 147 = .ok (.aload_n 0, 1) := by decide +kernel
theorem dX12_findFirst_148 : decode cX12_findFirst 148 = .ok (.getfield 291, 3) := by decide +kernel
theorem dX12_findFirst_151 : decode cX12_findFirst 151 = .ok (.iload 6, 2) := by decide +kernel
theorem dX12_findFirst_153 : decode cX12_findFirst 153 = .ok (.iastore, 1) := by decide +kernel
theorem dX12_findFirst_154 : decode cX12_findFirst 154 = .ok (.aload_n 0, 1) := by decide +kernel
theorem dX12_findFirst_155 : decode cX12_findFirst 155 = .ok (.dup, 1) := by decide +kernel
theorem dX12_findFirst_156 : decode cX12_findFirst 156 = .ok (.getfield 291, 3) := by decide +kernel
theorem dX12_findFirst_159 : decode cX12_findFirst 159 = .ok (.iconst 1, 1) := by decide +kernel
theorem dX12_findFirst_160 : decode cX12_findFirst 160 = .ok (.iadd, 1) := by decide +kernel
theorem dX12_findFirst_161 : decode cX12_findFirst 161 = .ok (.putfield 291, 3) := by decide +kernel
theorem dX12_findFirst_164 : decode cX12_findFirst 164 = .ok (.iload_n 1, 1) := by decide +kernel
theorem dX12_findFirst_165 : decode cX12_findFirst 165 = .ok (.iconst 1, 1) := by decide +kernel
theorem dX12_findFirst_166 : decode cX12_findFirst 166 = .ok (.if_icmp .ne 9, 3) := by decide +kernel
theorem dX12_findFirst_169 : decode cX12_findFirst 169 = .ok (.iload_n 3, 1) := by decide +kernel
theorem dX12_findFirst_170 : decode cX12_findFirst 170 = .ok (.iconst 1, 1) := by decide +kernel
theorem dX12_findFirst_171 : decode cX12_findFirst 171 = .ok (.isub, 1) := by decide +kernel
theorem dX12_findFirst_172 : decode cX12_findFirst 172 = .ok (.goto 21, 3) := by decide +kernel
theorem dX12_findFirst_175 : decode cX12_findFirst 175 = .ok (.iload_n 1, 1) := by decide +kernel
theorem dX12_findFirst_176 : decode cX12_findFirst 176 = .ok (.iconst 2, 1) := by decide +kernel
theorem dX12_findFirst_177 : decode cX12_findFirst 177 = .ok (.if_icmp .ne 15, 3) := by decide +kernel
theorem dX12_findFirst_180 : decode cX12_findFirst 180 = .ok (.iload_n 3, 1) := by decide +kernel
theorem dX12_findFirst_181 : decode cX12_findFirst 181 = .ok (.aload_n 0, 1) := by decide +kernel
theorem dX12_findFirst_182 : decode cX12_findFirst 182 = .ok (.getfield 291, 3) := by decide +kernel
theorem dX12_findFirst_185 : decode cX12_findFirst 185 = .ok (.iload 7, 2) := by decide +kernel
theorem dX12_findFirst_187 : decode cX12_findFirst 187 = .ok (.imul, 1) := by decide +kernel
theorem dX12_findFirst_188 : decode cX12_findFirst 188 = .ok (.isub, 1) := by decide +kernel
theorem dX12_findFirst_189 : decode cX12_findFirst 189 = .ok (.goto 4, 3) := by decide +kernel
theorem dX12_findFirst_192 : decode cX12_findFirst 192 = .ok (.iload_n 3, 1) := by decide +kernel
theorem dX12_findFirst_193 : decode cX12_findFirst 193 = .ok (.istore_n 3, 1) := by decide +kernel
theorem dX12_findFirst_194 : decode cX12_findFirst 194 = .ok (.goto 8, 3) := by decide +kernel
theorem dX12_findFirst_197 : decode cX12_findFirst 197 = .ok (.aload_n 0, 1) := by decide +kernel
theorem dX12_findFirst_198 : decode cX12_findFirst 198 = .ok (.invokevirtual 269, 3) := by decide +kernel
theorem dX12_findFirst_201 : decode cX12_findFirst 201 = .ok (.pop, 1) := by decide +kernel
theorem dX12_findFirst_202 : decode cX12_findFirst 202 = .ok (.iinc 6 1, 3) := by decide +kernel
theorem dX12_findFirst_205 : decode cX12_findFirst 205 = .ok (.goto (-122), 3) := by decide +kernel
theorem dX12_findFirst_208 : decode cX12_findFirst 208 = .ok (.goto (-136), 3) := by decide +kernel
theorem dX12_findFirst_211 : decode cX12_findFirst 211 = .ok (.aload_n 0, 1) := by decide +kernel
theorem dX12_findFirst_212 : decode cX12_findFirst 212 = .ok (.getfield 9, 3) := by decide +kernel
theorem dX12_findFirst_215 : decode cX12_findFirst 215 = .ok (.iconst 5, 1) := by decide +kernel
theorem dX12_findFirst_216 : decode cX12_findFirst 216 = .ok (.iaload, 1) := by decide +kernel
theorem dX12_findFirst_217 : decode cX12_findFirst 217 = .ok (.iload_n 2, 1) := by decide +kernel
theorem dX12_findFirst_218 : decode cX12_findFirst 218 = .ok (.if_icmp .le 11, 3) := by decide +kernel
theorem dX12_findFirst_221 : decode cX12_findFirst 221 = .ok (.aload_n 0, 1) := by decide +kernel
theorem dX12_findFirst_222 : decode cX12_findFirst 222 = .ok (.invokevirtual 269, 3) := by decide +kernel
theorem dX12_findFirst_225 : decode cX12_findFirst 225 = .ok (.pop, 1) := by decide +kernel
theorem dX12_findFirst_226 : decode cX12_findFirst 226 = .ok (.goto (-15), 3) := by decide +kernel
theorem dX12_findFirst_229 : decode cX12_findFirst 229 = .ok (.iload 4, 2) := by decide +kernel
theorem dX12_findFirst_231 : decode cX12_findFirst 231 = .ok (.ireturn, 1) := by decide +kernel
def f_X12_findFirst_211 (S : Sh) (R : Rw)  : Nat → Iw → Nat → Int32 → Int32 → Option (Iw × Int32)
  | 0, _, _, _, _ => none
  | n + 1, I, a0, x2, x4 => gp (sok S a0 12 34) (rl (R a0 0) (fun b12 => gp (aok S 20 b12 (5 : Int32)) ((if (I b12 (5 : Int32).toNatClampNeg) ≤ x2 then gp (zok x4) (some (I, x4)) else bd (f_X12_home S R I a0) (fun r16 => f_X12_findFirst_211 S R  n r16.1 a0 x2 x4)))))
set_option maxHeartbeats 4000000 in
theorem b_X12_findFirst_211 {E : Ev} {p : Program} {l : Launch} {e : Env} {s : State} {m : MethodId} {args : Array Value} {below : List Frame} {meth : Method} {c : Code} (C : Cx E RX12 cX12_findFirst 8 p s m c) (hr : meth.sig.returnType = (some .boolean)) (hk : meth.locks = false) {S : Sh} {R : Rw} {r : Iw × Int32}  : ∀ (n : Nat) (I : Iw) (a0 : Nat) (x2 : Int32) (x4 : Int32), f_X12_findFirst_211 S R  n I a0 x2 x4 = some r → Wk E 8 p l e ({ frames := 74, cells := 0, slots := 0, locals := 1706 } : Room) s m args below meth c 0 0 (MQ below (Qw E S R r.1 (some (.int r.2))) args s 0 0 (fun q => E.1 ≤ q)) 211 [(0, .ref (E.1 + a0)), (2, .int x2), (4, .int x4)] [] S R I := by
  intro n
  induction n with
  | zero =>
    intro I a0 x2 x4 h
    rw [f_X12_findFirst_211] at h
    cases h
  | succ n ih =>
    intro I a0 x2 x4 h
    rw [f_X12_findFirst_211] at h
    refine k_aloadn (pc := 211) C dX12_findFirst_211 (i := 0) rfl 0 rfl ?_
    obtain ⟨hs110, h⟩ := gp_e h
    have hs11 := sok_e hs110
    obtain ⟨b12, hb12, h⟩ := rl_e h
    refine k_getR (pc := 212) C lkF_RX12_9_12 hs11 ir_12_0 hb12 dX12_findFirst_212 ?_
    refine k_iconst (pc := 215) C (v := (5 : Int32)) dX12_findFirst_215 (by decide) ?_
    obtain ⟨ha13, h⟩ := gp_e h
    refine k_iald (pc := 216) C ha13 dX12_findFirst_216 ?_
    refine k_iloadn (pc := 217) C dX12_findFirst_217 (i := 2) rfl 1 rfl ?_
    refine k_icmp_le (pc := 218) C dX12_findFirst_218 (tgt := 229) (by decide) (fun hc14 => ?_) (fun hc14 => ?_)
    · rw [if_pos hc14] at h
      refine k_iload (pc := 229) C dX12_findFirst_229 2 rfl ?_
      obtain ⟨hz15, h⟩ := gp_e h
      have h := Option.some.inj h
      subst h
      exact k_zret (pc := 231) C hr hk (of_decide_eq_true hz15) dX12_findFirst_231
    · rw [if_neg hc14] at h
      refine k_aloadn (pc := 221) C dX12_findFirst_221 (i := 0) rfl 0 rfl ?_
      obtain ⟨r16, hr16, h⟩ := bd_e h
      refine k_V (pc := 222) (st := []) C (c_X12_home hr16) lkV_RX12_269 hs11 rfl rfl rfl (Nat.le_of_ble_eq_true rfl) (Nat.le_of_ble_eq_true rfl) (Nat.le_of_ble_eq_true rfl) (Nat.le_of_ble_eq_true rfl) (Nat.le_of_ble_eq_true rfl) dX12_findFirst_222 ?_
      refine k_nf (cells2 := 0) (slots2 := 0) (st2 := [.int r16.2]) rfl rfl rfl ?_
      refine k_pop (pc := 225) C dX12_findFirst_225 rfl ?_
      refine k_goto (pc := 226) C dX12_findFirst_226 (tgt := 211) (by decide) ?_
      exact ih _ _ _ _ h
def f_X12_findFirst_208 (S : Sh) (R : Rw) (ko72 : Iw → Nat → Int32 → Int32 → Int32 → Int32 → Int32 → Option (Iw × Int32)) (I : Iw) (a0 : Nat) (x1 : Int32) (x2 : Int32) (x3 : Int32) (x4 : Int32) (x5 : Int32) : Option (Iw × Int32) := ko72 I a0 x1 x2 x3 x4 x5
set_option maxHeartbeats 4000000 in
theorem b_X12_findFirst_208 {E : Ev} {p : Program} {l : Launch} {e : Env} {s : State} {m : MethodId} {args : Array Value} {below : List Frame} {meth : Method} {c : Code} (C : Cx E RX12 cX12_findFirst 8 p s m c) (hr : meth.sig.returnType = (some .boolean)) (hk : meth.locks = false) {S : Sh} {R : Rw} {r : Iw × Int32}  {ko72 : Iw → Nat → Int32 → Int32 → Int32 → Int32 → Int32 → Option (Iw × Int32)} (hko72 : ∀ (I : Iw) (a0 : Nat) (x1 : Int32) (x2 : Int32) (x3 : Int32) (x4 : Int32) (x5 : Int32), ko72 I a0 x1 x2 x3 x4 x5 = some r → Wk E 8 p l e ({ frames := 74, cells := 0, slots := 0, locals := 1706 } : Room) s m args below meth c 0 0 (MQ below (Qw E S R r.1 (some (.int r.2))) args s 0 0 (fun q => E.1 ≤ q)) 72 [(0, .ref (E.1 + a0)), (1, .int x1), (2, .int x2), (3, .int x3), (4, .int x4), (5, .int x5)] [] S R I) : ∀ (I : Iw) (a0 : Nat) (x1 : Int32) (x2 : Int32) (x3 : Int32) (x4 : Int32) (x5 : Int32), f_X12_findFirst_208 S R ko72  I a0 x1 x2 x3 x4 x5 = some r → Wk E 8 p l e ({ frames := 74, cells := 0, slots := 0, locals := 1706 } : Room) s m args below meth c 0 0 (MQ below (Qw E S R r.1 (some (.int r.2))) args s 0 0 (fun q => E.1 ≤ q)) 208 [(0, .ref (E.1 + a0)), (1, .int x1), (2, .int x2), (3, .int x3), (4, .int x4), (5, .int x5)] [] S R I := by
  intro I a0 x1 x2 x3 x4 x5 h
  rw [f_X12_findFirst_208] at h
  refine k_goto (pc := 208) C dX12_findFirst_208 (tgt := 72) (by decide) ?_
  exact hko72 _ _ _ _ _ _ _ h
def f_X12_findFirst_202 (S : Sh) (R : Rw) (ko72 : Iw → Nat → Int32 → Int32 → Int32 → Int32 → Int32 → Option (Iw × Int32)) (ko83 : Iw → Nat → Int32 → Int32 → Int32 → Int32 → Int32 → Int32 → Option (Iw × Int32)) (I : Iw) (a0 : Nat) (x1 : Int32) (x2 : Int32) (x3 : Int32) (x4 : Int32) (x5 : Int32) (x6 : Int32) : Option (Iw × Int32) := ko83 I a0 x1 x2 x3 x4 x5 (x6 + (1 : Int32))
set_option maxHeartbeats 4000000 in
theorem b_X12_findFirst_202 {E : Ev} {p : Program} {l : Launch} {e : Env} {s : State} {m : MethodId} {args : Array Value} {below : List Frame} {meth : Method} {c : Code} (C : Cx E RX12 cX12_findFirst 8 p s m c) (hr : meth.sig.returnType = (some .boolean)) (hk : meth.locks = false) {S : Sh} {R : Rw} {r : Iw × Int32}  {ko72 : Iw → Nat → Int32 → Int32 → Int32 → Int32 → Int32 → Option (Iw × Int32)} (hko72 : ∀ (I : Iw) (a0 : Nat) (x1 : Int32) (x2 : Int32) (x3 : Int32) (x4 : Int32) (x5 : Int32), ko72 I a0 x1 x2 x3 x4 x5 = some r → Wk E 8 p l e ({ frames := 74, cells := 0, slots := 0, locals := 1706 } : Room) s m args below meth c 0 0 (MQ below (Qw E S R r.1 (some (.int r.2))) args s 0 0 (fun q => E.1 ≤ q)) 72 [(0, .ref (E.1 + a0)), (1, .int x1), (2, .int x2), (3, .int x3), (4, .int x4), (5, .int x5)] [] S R I) {ko83 : Iw → Nat → Int32 → Int32 → Int32 → Int32 → Int32 → Int32 → Option (Iw × Int32)} (hko83 : ∀ (I : Iw) (a0 : Nat) (x1 : Int32) (x2 : Int32) (x3 : Int32) (x4 : Int32) (x5 : Int32) (x6 : Int32), ko83 I a0 x1 x2 x3 x4 x5 x6 = some r → Wk E 8 p l e ({ frames := 74, cells := 0, slots := 0, locals := 1706 } : Room) s m args below meth c 0 0 (MQ below (Qw E S R r.1 (some (.int r.2))) args s 0 0 (fun q => E.1 ≤ q)) 83 [(0, .ref (E.1 + a0)), (1, .int x1), (2, .int x2), (3, .int x3), (4, .int x4), (5, .int x5), (6, .int x6)] [] S R I) : ∀ (I : Iw) (a0 : Nat) (x1 : Int32) (x2 : Int32) (x3 : Int32) (x4 : Int32) (x5 : Int32) (x6 : Int32), f_X12_findFirst_202 S R ko72 ko83  I a0 x1 x2 x3 x4 x5 x6 = some r → Wk E 8 p l e ({ frames := 74, cells := 0, slots := 0, locals := 1706 } : Room) s m args below meth c 0 0 (MQ below (Qw E S R r.1 (some (.int r.2))) args s 0 0 (fun q => E.1 ≤ q)) 202 [(0, .ref (E.1 + a0)), (1, .int x1), (2, .int x2), (3, .int x3), (4, .int x4), (5, .int x5), (6, .int x6)] [] S R I := by
  intro I a0 x1 x2 x3 x4 x5 x6 h
  rw [f_X12_findFirst_202] at h
  refine k_iinc (pc := 202) C dX12_findFirst_202 6 rfl (v := x6 + (1 : Int32)) (by rfl) (by decide) (L2 := [(0, .ref (E.1 + a0)), (1, .int x1), (2, .int x2), (3, .int x3), (4, .int x4), (5, .int x5), (6, .int (x6 + (1 : Int32)))]) rfl ?_
  refine k_goto (pc := 205) C dX12_findFirst_205 (tgt := 83) (by decide) ?_
  exact hko83 _ _ _ _ _ _ _ _ h
def f_X12_findFirst_193 (S : Sh) (R : Rw) (ko72 : Iw → Nat → Int32 → Int32 → Int32 → Int32 → Int32 → Option (Iw × Int32)) (ko83 : Iw → Nat → Int32 → Int32 → Int32 → Int32 → Int32 → Int32 → Option (Iw × Int32)) (I : Iw) (a0 : Nat) (x1 : Int32) (x2 : Int32) (x4 : Int32) (x5 : Int32) (x6 : Int32) (s0 : Int32) : Option (Iw × Int32) := f_X12_findFirst_202 S R ko72 ko83 I a0 x1 x2 s0 x4 x5 x6
set_option maxHeartbeats 4000000 in
theorem b_X12_findFirst_193 {E : Ev} {p : Program} {l : Launch} {e : Env} {s : State} {m : MethodId} {args : Array Value} {below : List Frame} {meth : Method} {c : Code} (C : Cx E RX12 cX12_findFirst 8 p s m c) (hr : meth.sig.returnType = (some .boolean)) (hk : meth.locks = false) {S : Sh} {R : Rw} {r : Iw × Int32}  {ko72 : Iw → Nat → Int32 → Int32 → Int32 → Int32 → Int32 → Option (Iw × Int32)} (hko72 : ∀ (I : Iw) (a0 : Nat) (x1 : Int32) (x2 : Int32) (x3 : Int32) (x4 : Int32) (x5 : Int32), ko72 I a0 x1 x2 x3 x4 x5 = some r → Wk E 8 p l e ({ frames := 74, cells := 0, slots := 0, locals := 1706 } : Room) s m args below meth c 0 0 (MQ below (Qw E S R r.1 (some (.int r.2))) args s 0 0 (fun q => E.1 ≤ q)) 72 [(0, .ref (E.1 + a0)), (1, .int x1), (2, .int x2), (3, .int x3), (4, .int x4), (5, .int x5)] [] S R I) {ko83 : Iw → Nat → Int32 → Int32 → Int32 → Int32 → Int32 → Int32 → Option (Iw × Int32)} (hko83 : ∀ (I : Iw) (a0 : Nat) (x1 : Int32) (x2 : Int32) (x3 : Int32) (x4 : Int32) (x5 : Int32) (x6 : Int32), ko83 I a0 x1 x2 x3 x4 x5 x6 = some r → Wk E 8 p l e ({ frames := 74, cells := 0, slots := 0, locals := 1706 } : Room) s m args below meth c 0 0 (MQ below (Qw E S R r.1 (some (.int r.2))) args s 0 0 (fun q => E.1 ≤ q)) 83 [(0, .ref (E.1 + a0)), (1, .int x1), (2, .int x2), (3, .int x3), (4, .int x4), (5, .int x5), (6, .int x6)] [] S R I) : ∀ (I : Iw) (a0 : Nat) (x1 : Int32) (x2 : Int32) (x4 : Int32) (x5 : Int32) (x6 : Int32) (s0 : Int32), f_X12_findFirst_193 S R ko72 ko83  I a0 x1 x2 x4 x5 x6 s0 = some r → Wk E 8 p l e ({ frames := 74, cells := 0, slots := 0, locals := 1706 } : Room) s m args below meth c 0 0 (MQ below (Qw E S R r.1 (some (.int r.2))) args s 0 0 (fun q => E.1 ≤ q)) 193 [(0, .ref (E.1 + a0)), (1, .int x1), (2, .int x2), (4, .int x4), (5, .int x5), (6, .int x6)] [.int s0] S R I := by
  intro I a0 x1 x2 x4 x5 x6 s0 h
  rw [f_X12_findFirst_193] at h
  refine k_istoren (pc := 193) C dX12_findFirst_193 (i := 3) rfl (by decide) (L2 := [(0, .ref (E.1 + a0)), (1, .int x1), (2, .int x2), (3, .int s0), (4, .int x4), (5, .int x5), (6, .int x6)]) rfl ?_
  refine k_goto (pc := 194) C dX12_findFirst_194 (tgt := 202) (by decide) ?_
  exact b_X12_findFirst_202 C hr hk hko72 hko83 _ _ _ _ _ _ _ _ h
def f_X12_findFirst_83 (S : Sh) (R : Rw) (ko72 : Iw → Nat → Int32 → Int32 → Int32 → Int32 → Int32 → Option (Iw × Int32)) : Nat → Iw → Nat → Int32 → Int32 → Int32 → Int32 → Int32 → Int32 → Option (Iw × Int32)
  | 0, _, _, _, _, _, _, _, _ => none
  | n + 1, I, a0, x1, x2, x3, x4, x5, x6 => gp (sok S a0 12 34) (rl (R a0 0) (fun b18 => gp (aok S 20 b18 (3 : Int32)) ((if (I b18 (3 : Int32).toNatClampNeg) ≤ x6 then f_X12_findFirst_208 S R ko72 I a0 x1 x2 x3 x4 x5 else (if x5 = 0 then bd (f_X12_mayGo S R I a0 x6) (fun r22 => (if r22 = 0 then f_X12_findFirst_202 S R ko72 (f_X12_findFirst_83 S R ko72 n) I a0 x1 x2 x3 x4 x5 x6 else bd (f_X12_fee S R I a0 x6) (fun r24 => bd (f_X12_out S R r24.1 a0 x6) (fun r25 => bd (f_X12_goesOn S R r25 a0 x1 ((r25 a0 21) + (1 : Int32)) x3 r24.2) (fun r26 => (if r26.2 = 0 then bd (f_X12_home S R r26.1 a0) (fun r28 => f_X12_findFirst_202 S R ko72 (f_X12_findFirst_83 S R ko72 n) r28.1 a0 x1 x2 x3 x4 r26.2 x6) else rl (R a0 20) (fun b29 => gp (aok S 20 b29 (r26.1 a0 21)) (lt (up2 r26.1 b29 (r26.1 a0 21).toNatClampNeg x6) (fun I31 => lt (up2 I31 a0 21 ((I31 a0 21) + (1 : Int32))) (fun I32 => (if x1 = (1 : Int32) then f_X12_findFirst_193 S R ko72 (f_X12_findFirst_83 S R ko72 n) I32 a0 x1 x2 x4 r26.2 x6 (x3 - (1 : Int32)) else (if x1 = (2 : Int32) then f_X12_findFirst_193 S R ko72 (f_X12_findFirst_83 S R ko72 n) I32 a0 x1 x2 x4 r26.2 x6 (x3 - ((I32 a0 21) * r24.2)) else f_X12_findFirst_193 S R ko72 (f_X12_findFirst_83 S R ko72 n) I32 a0 x1 x2 x4 r26.2 x6 x3)))))))))))) else f_X12_findFirst_208 S R ko72 I a0 x1 x2 x3 x4 x5)))))
set_option maxHeartbeats 4000000 in
theorem b_X12_findFirst_83 {E : Ev} {p : Program} {l : Launch} {e : Env} {s : State} {m : MethodId} {args : Array Value} {below : List Frame} {meth : Method} {c : Code} (C : Cx E RX12 cX12_findFirst 8 p s m c) (hr : meth.sig.returnType = (some .boolean)) (hk : meth.locks = false) {S : Sh} {R : Rw} {r : Iw × Int32}  {ko72 : Iw → Nat → Int32 → Int32 → Int32 → Int32 → Int32 → Option (Iw × Int32)} (hko72 : ∀ (I : Iw) (a0 : Nat) (x1 : Int32) (x2 : Int32) (x3 : Int32) (x4 : Int32) (x5 : Int32), ko72 I a0 x1 x2 x3 x4 x5 = some r → Wk E 8 p l e ({ frames := 74, cells := 0, slots := 0, locals := 1706 } : Room) s m args below meth c 0 0 (MQ below (Qw E S R r.1 (some (.int r.2))) args s 0 0 (fun q => E.1 ≤ q)) 72 [(0, .ref (E.1 + a0)), (1, .int x1), (2, .int x2), (3, .int x3), (4, .int x4), (5, .int x5)] [] S R I) : ∀ (n : Nat) (I : Iw) (a0 : Nat) (x1 : Int32) (x2 : Int32) (x3 : Int32) (x4 : Int32) (x5 : Int32) (x6 : Int32), f_X12_findFirst_83 S R ko72 n I a0 x1 x2 x3 x4 x5 x6 = some r → Wk E 8 p l e ({ frames := 74, cells := 0, slots := 0, locals := 1706 } : Room) s m args below meth c 0 0 (MQ below (Qw E S R r.1 (some (.int r.2))) args s 0 0 (fun q => E.1 ≤ q)) 83 [(0, .ref (E.1 + a0)), (1, .int x1), (2, .int x2), (3, .int x3), (4, .int x4), (5, .int x5), (6, .int x6)] [] S R I := by
  intro n
  induction n with
  | zero =>
    intro I a0 x1 x2 x3 x4 x5 x6 h
    rw [f_X12_findFirst_83] at h
    cases h
  | succ n ih =>
    intro I a0 x1 x2 x3 x4 x5 x6 h
    rw [f_X12_findFirst_83] at h
    refine k_iload (pc := 83) C dX12_findFirst_83 6 rfl ?_
    refine k_aloadn (pc := 85) C dX12_findFirst_85 (i := 0) rfl 0 rfl ?_
    obtain ⟨hs170, h⟩ := gp_e h
    have hs17 := sok_e hs170
    obtain ⟨b18, hb18, h⟩ := rl_e h
    refine k_getR (pc := 86) C lkF_RX12_9_12 hs17 ir_12_0 hb18 dX12_findFirst_86 ?_
    refine k_iconst (pc := 89) C (v := (3 : Int32)) dX12_findFirst_89 (by decide) ?_
    obtain ⟨ha19, h⟩ := gp_e h
    refine k_iald (pc := 90) C ha19 dX12_findFirst_90 ?_
    refine k_icmp_ge (pc := 91) C dX12_findFirst_91 (tgt := 208) (by decide) (fun hc20 => ?_) (fun hc20 => ?_)
    · rw [if_pos hc20] at h
      refine k_loc (L2 := [(0, .ref (E.1 + a0)), (1, .int x1), (2, .int x2), (3, .int x3), (4, .int x4), (5, .int x5)]) [0, 1, 2, 3, 4, 5] rfl ?_
      exact b_X12_findFirst_208 C hr hk hko72 _ _ _ _ _ _ _ h
    · rw [if_neg hc20] at h
      refine k_iload (pc := 94) C dX12_findFirst_94 5 rfl ?_
      refine k_if_ne (pc := 96) C dX12_findFirst_96 (tgt := 208) (by decide) (fun hc21 => ?_) (fun hc21 => ?_)
      · rw [if_neg hc21] at h
        refine k_loc (L2 := [(0, .ref (E.1 + a0)), (1, .int x1), (2, .int x2), (3, .int x3), (4, .int x4), (5, .int x5)]) [0, 1, 2, 3, 4, 5] rfl ?_
        exact b_X12_findFirst_208 C hr hk hko72 _ _ _ _ _ _ _ h
      · rw [if_pos hc21] at h
        refine k_aloadn (pc := 99) C dX12_findFirst_99 (i := 0) rfl 0 rfl ?_
        refine k_iload (pc := 100) C dX12_findFirst_100 6 rfl ?_
        obtain ⟨r22, hr22, h⟩ := bd_e h
        refine k_V (pc := 102) (st := []) C (c_X12_mayGo hr22) lkV_RX12_257 hs17 rfl rfl rfl (Nat.le_of_ble_eq_true rfl) (Nat.le_of_ble_eq_true rfl) (Nat.le_of_ble_eq_true rfl) (Nat.le_of_ble_eq_true rfl) (Nat.le_of_ble_eq_true rfl) dX12_findFirst_102 ?_
        refine k_nf (cells2 := 0) (slots2 := 0) (st2 := [.int r22]) rfl rfl rfl ?_
        refine k_if_eq (pc := 105) C dX12_findFirst_105 (tgt := 202) (by decide) (fun hc23 => ?_) (fun hc23 => ?_)
        · rw [if_pos hc23] at h
          exact b_X12_findFirst_202 C hr hk hko72 ih _ _ _ _ _ _ _ _ h
        · rw [if_neg hc23] at h
          refine k_aloadn (pc := 108) C dX12_findFirst_108 (i := 0) rfl 0 rfl ?_
          refine k_iload (pc := 109) C dX12_findFirst_109 6 rfl ?_
          obtain ⟨r24, hr24, h⟩ := bd_e h
          refine k_V (pc := 111) (st := []) C (c_X12_fee hr24) lkV_RX12_254 hs17 rfl rfl rfl (Nat.le_of_ble_eq_true rfl) (Nat.le_of_ble_eq_true rfl) (Nat.le_of_ble_eq_true rfl) (Nat.le_of_ble_eq_true rfl) (Nat.le_of_ble_eq_true rfl) dX12_findFirst_111 ?_
          refine k_nf (cells2 := 0) (slots2 := 0) (st2 := [.int r24.2]) rfl rfl rfl ?_
          refine k_istore (pc := 114) C dX12_findFirst_114 (by decide) (L2 := [(0, .ref (E.1 + a0)), (1, .int x1), (2, .int x2), (3, .int x3), (4, .int x4), (5, .int x5), (6, .int x6), (7, .int r24.2)]) rfl ?_
          refine k_aloadn (pc := 116) C dX12_findFirst_116 (i := 0) rfl 0 rfl ?_
          refine k_iload (pc := 117) C dX12_findFirst_117 6 rfl ?_
          obtain ⟨r25, hr25, h⟩ := bd_e h
          refine k_V (pc := 119) (st := []) C (c_X12_out hr25) lkV_RX12_263 hs17 rfl rfl rfl (Nat.le_of_ble_eq_true rfl) (Nat.le_of_ble_eq_true rfl) (Nat.le_of_ble_eq_true rfl) (Nat.le_of_ble_eq_true rfl) (Nat.le_of_ble_eq_true rfl) dX12_findFirst_119 ?_
          refine k_nf (cells2 := 0) (slots2 := 0) (st2 := []) rfl rfl rfl ?_
          refine k_aloadn (pc := 122) C dX12_findFirst_122 (i := 0) rfl 0 rfl ?_
          refine k_iloadn (pc := 123) C dX12_findFirst_123 (i := 1) rfl 1 rfl ?_
          refine k_aloadn (pc := 124) C dX12_findFirst_124 (i := 0) rfl 0 rfl ?_
          refine k_getI (pc := 125) C lkF_RX12_291_12 hs17 ir_12_21 dX12_findFirst_125 ?_
          refine k_iconst (pc := 128) C (v := (1 : Int32)) dX12_findFirst_128 (by decide) ?_
          refine k_iadd (pc := 129) C dX12_findFirst_129 ?_
          refine k_iloadn (pc := 130) C dX12_findFirst_130 (i := 3) rfl 3 rfl ?_
          refine k_iload (pc := 131) C dX12_findFirst_131 7 rfl ?_
          obtain ⟨r26, hr26, h⟩ := bd_e h
          refine k_V (pc := 133) (st := []) C (c_X12_goesOn hr26) lkV_RX12_294 hs17 rfl rfl rfl (Nat.le_of_ble_eq_true rfl) (Nat.le_of_ble_eq_true rfl) (Nat.le_of_ble_eq_true rfl) (Nat.le_of_ble_eq_true rfl) (Nat.le_of_ble_eq_true rfl) dX12_findFirst_133 ?_
          refine k_nf (cells2 := 0) (slots2 := 0) (st2 := [.int r26.2]) rfl rfl rfl ?_
          refine k_istore (pc := 136) C dX12_findFirst_136 (by decide) (L2 := [(0, .ref (E.1 + a0)), (1, .int x1), (2, .int x2), (3, .int x3), (4, .int x4), (5, .int r26.2), (6, .int x6), (7, .int r24.2)]) rfl ?_
          refine k_iload (pc := 138) C dX12_findFirst_138 5 rfl ?_
          refine k_if_eq (pc := 140) C dX12_findFirst_140 (tgt := 197) (by decide) (fun hc27 => ?_) (fun hc27 => ?_)
          · rw [if_pos hc27] at h
            refine k_aloadn (pc := 197) C dX12_findFirst_197 (i := 0) rfl 0 rfl ?_
            obtain ⟨r28, hr28, h⟩ := bd_e h
            refine k_V (pc := 198) (st := []) C (c_X12_home hr28) lkV_RX12_269 hs17 rfl rfl rfl (Nat.le_of_ble_eq_true rfl) (Nat.le_of_ble_eq_true rfl) (Nat.le_of_ble_eq_true rfl) (Nat.le_of_ble_eq_true rfl) (Nat.le_of_ble_eq_true rfl) dX12_findFirst_198 ?_
            refine k_nf (cells2 := 0) (slots2 := 0) (st2 := [.int r28.2]) rfl rfl rfl ?_
            refine k_pop (pc := 201) C dX12_findFirst_201 rfl ?_
            refine k_loc (L2 := [(0, .ref (E.1 + a0)), (1, .int x1), (2, .int x2), (3, .int x3), (4, .int x4), (5, .int r26.2), (6, .int x6)]) [0, 1, 2, 3, 4, 5, 6] rfl ?_
            exact b_X12_findFirst_202 C hr hk hko72 ih _ _ _ _ _ _ _ _ h
          · rw [if_neg hc27] at h
            refine k_aloadn (pc := 143) C dX12_findFirst_143 (i := 0) rfl 0 rfl ?_
            obtain ⟨b29, hb29, h⟩ := rl_e h
            refine k_getR (pc := 144) C lkF_RX12_71_12 hs17 ir_12_20 hb29 dX12_findFirst_144 ?_
            refine k_aloadn (pc := 147) C dX12_findFirst_147 (i := 0) rfl 0 rfl ?_
            refine k_getI (pc := 148) C lkF_RX12_291_12 hs17 ir_12_21 dX12_findFirst_148 ?_
            refine k_iload (pc := 151) C dX12_findFirst_151 6 rfl ?_
            obtain ⟨ha30, h⟩ := gp_e h
            obtain ⟨I31, eI31, h⟩ := lt_e h
            refine k_iast (pc := 153) C ha30 dX12_findFirst_153 ?_
            rw [← eI31]
            refine k_aloadn (pc := 154) C dX12_findFirst_154 (i := 0) rfl 0 rfl ?_
            refine k_dup (pc := 155) C dX12_findFirst_155 rfl ?_
            refine k_getI (pc := 156) C lkF_RX12_291_12 hs17 ir_12_21 dX12_findFirst_156 ?_
            refine k_iconst (pc := 159) C (v := (1 : Int32)) dX12_findFirst_159 (by decide) ?_
            refine k_iadd (pc := 160) C dX12_findFirst_160 ?_
            obtain ⟨I32, eI32, h⟩ := lt_e h
            refine k_putI (pc := 161) C lkP_RX12_291_12 hs17 ir_12_21 dX12_findFirst_161 ?_
            rw [← eI32]
            refine k_iloadn (pc := 164) C dX12_findFirst_164 (i := 1) rfl 1 rfl ?_
            refine k_iconst (pc := 165) C (v := (1 : Int32)) dX12_findFirst_165 (by decide) ?_
            refine k_icmp_ne (pc := 166) C dX12_findFirst_166 (tgt := 175) (by decide) (fun hc33 => ?_) (fun hc33 => ?_)
            · rw [if_neg hc33] at h
              refine k_iloadn (pc := 175) C dX12_findFirst_175 (i := 1) rfl 1 rfl ?_
              refine k_iconst (pc := 176) C (v := (2 : Int32)) dX12_findFirst_176 (by decide) ?_
              refine k_icmp_ne (pc := 177) C dX12_findFirst_177 (tgt := 192) (by decide) (fun hc34 => ?_) (fun hc34 => ?_)
              · rw [if_neg hc34] at h
                refine k_iloadn (pc := 192) C dX12_findFirst_192 (i := 3) rfl 3 rfl ?_
                refine k_loc (L2 := [(0, .ref (E.1 + a0)), (1, .int x1), (2, .int x2), (4, .int x4), (5, .int r26.2), (6, .int x6)]) [0, 1, 2, 4, 5, 6] rfl ?_
                exact b_X12_findFirst_193 C hr hk hko72 ih _ _ _ _ _ _ _ _ h
              · rw [if_pos hc34] at h
                refine k_iloadn (pc := 180) C dX12_findFirst_180 (i := 3) rfl 3 rfl ?_
                refine k_aloadn (pc := 181) C dX12_findFirst_181 (i := 0) rfl 0 rfl ?_
                refine k_getI (pc := 182) C lkF_RX12_291_12 hs17 ir_12_21 dX12_findFirst_182 ?_
                refine k_iload (pc := 185) C dX12_findFirst_185 7 rfl ?_
                refine k_imul (pc := 187) C dX12_findFirst_187 ?_
                refine k_isub (pc := 188) C dX12_findFirst_188 ?_
                refine k_goto (pc := 189) C dX12_findFirst_189 (tgt := 193) (by decide) ?_
                refine k_loc (L2 := [(0, .ref (E.1 + a0)), (1, .int x1), (2, .int x2), (4, .int x4), (5, .int r26.2), (6, .int x6)]) [0, 1, 2, 4, 5, 6] rfl ?_
                exact b_X12_findFirst_193 C hr hk hko72 ih _ _ _ _ _ _ _ _ h
            · rw [if_pos hc33] at h
              refine k_iloadn (pc := 169) C dX12_findFirst_169 (i := 3) rfl 3 rfl ?_
              refine k_iconst (pc := 170) C (v := (1 : Int32)) dX12_findFirst_170 (by decide) ?_
              refine k_isub (pc := 171) C dX12_findFirst_171 ?_
              refine k_goto (pc := 172) C dX12_findFirst_172 (tgt := 193) (by decide) ?_
              refine k_loc (L2 := [(0, .ref (E.1 + a0)), (1, .int x1), (2, .int x2), (4, .int x4), (5, .int r26.2), (6, .int x6)]) [0, 1, 2, 4, 5, 6] rfl ?_
              exact b_X12_findFirst_193 C hr hk hko72 ih _ _ _ _ _ _ _ _ h
def f_X12_findFirst_72 (S : Sh) (R : Rw)  : Nat → Iw → Nat → Int32 → Int32 → Int32 → Int32 → Int32 → Option (Iw × Int32)
  | 0, _, _, _, _, _, _, _ => none
  | n + 1, I, a0, x1, x2, x3, x4, x5 => (if x5 = 0 then f_X12_findFirst_211 S R  512 I a0 x2 x4 else f_X12_findFirst_83 S R (f_X12_findFirst_72 S R  n) 512 I a0 x1 x2 x3 x4 (0 : Int32) (0 : Int32))
set_option maxHeartbeats 4000000 in
theorem b_X12_findFirst_72 {E : Ev} {p : Program} {l : Launch} {e : Env} {s : State} {m : MethodId} {args : Array Value} {below : List Frame} {meth : Method} {c : Code} (C : Cx E RX12 cX12_findFirst 8 p s m c) (hr : meth.sig.returnType = (some .boolean)) (hk : meth.locks = false) {S : Sh} {R : Rw} {r : Iw × Int32}  : ∀ (n : Nat) (I : Iw) (a0 : Nat) (x1 : Int32) (x2 : Int32) (x3 : Int32) (x4 : Int32) (x5 : Int32), f_X12_findFirst_72 S R  n I a0 x1 x2 x3 x4 x5 = some r → Wk E 8 p l e ({ frames := 74, cells := 0, slots := 0, locals := 1706 } : Room) s m args below meth c 0 0 (MQ below (Qw E S R r.1 (some (.int r.2))) args s 0 0 (fun q => E.1 ≤ q)) 72 [(0, .ref (E.1 + a0)), (1, .int x1), (2, .int x2), (3, .int x3), (4, .int x4), (5, .int x5)] [] S R I := by
  intro n
  induction n with
  | zero =>
    intro I a0 x1 x2 x3 x4 x5 h
    rw [f_X12_findFirst_72] at h
    cases h
  | succ n ih =>
    intro I a0 x1 x2 x3 x4 x5 h
    rw [f_X12_findFirst_72] at h
    refine k_iload (pc := 72) C dX12_findFirst_72 5 rfl ?_
    refine k_if_eq (pc := 74) C dX12_findFirst_74 (tgt := 211) (by decide) (fun hc10 => ?_) (fun hc10 => ?_)
    · rw [if_pos hc10] at h
      refine k_loc (L2 := [(0, .ref (E.1 + a0)), (2, .int x2), (4, .int x4)]) [0, 2, 4] rfl ?_
      exact b_X12_findFirst_211 C hr hk  _ _ _ _ _ h
    · rw [if_neg hc10] at h
      refine k_iconst (pc := 77) C (v := (0 : Int32)) dX12_findFirst_77 (by decide) ?_
      refine k_istore (pc := 78) C dX12_findFirst_78 (by decide) (L2 := [(0, .ref (E.1 + a0)), (1, .int x1), (2, .int x2), (3, .int x3), (4, .int x4), (5, .int (0 : Int32))]) rfl ?_
      refine k_iconst (pc := 80) C (v := (0 : Int32)) dX12_findFirst_80 (by decide) ?_
      refine k_istore (pc := 81) C dX12_findFirst_81 (by decide) (L2 := [(0, .ref (E.1 + a0)), (1, .int x1), (2, .int x2), (3, .int x3), (4, .int x4), (5, .int (0 : Int32)), (6, .int (0 : Int32))]) rfl ?_
      exact b_X12_findFirst_83 C hr hk ih _ _ _ _ _ _ _ _ _ h
def f_X12_findFirst_66 (S : Sh) (R : Rw)  (I : Iw) (a0 : Nat) (x1 : Int32) (x2 : Int32) (x3 : Int32) (s0 : Int32) : Option (Iw × Int32) := f_X12_findFirst_72 S R  512 I a0 x1 x2 x3 s0 s0
set_option maxHeartbeats 4000000 in
theorem b_X12_findFirst_66 {E : Ev} {p : Program} {l : Launch} {e : Env} {s : State} {m : MethodId} {args : Array Value} {below : List Frame} {meth : Method} {c : Code} (C : Cx E RX12 cX12_findFirst 8 p s m c) (hr : meth.sig.returnType = (some .boolean)) (hk : meth.locks = false) {S : Sh} {R : Rw} {r : Iw × Int32}  : ∀ (I : Iw) (a0 : Nat) (x1 : Int32) (x2 : Int32) (x3 : Int32) (s0 : Int32), f_X12_findFirst_66 S R   I a0 x1 x2 x3 s0 = some r → Wk E 8 p l e ({ frames := 74, cells := 0, slots := 0, locals := 1706 } : Room) s m args below meth c 0 0 (MQ below (Qw E S R r.1 (some (.int r.2))) args s 0 0 (fun q => E.1 ≤ q)) 66 [(0, .ref (E.1 + a0)), (1, .int x1), (2, .int x2), (3, .int x3)] [.int s0] S R I := by
  intro I a0 x1 x2 x3 s0 h
  rw [f_X12_findFirst_66] at h
  refine k_istore (pc := 66) C dX12_findFirst_66 (by decide) (L2 := [(0, .ref (E.1 + a0)), (1, .int x1), (2, .int x2), (3, .int x3), (4, .int s0)]) rfl ?_
  refine k_iload (pc := 68) C dX12_findFirst_68 4 rfl ?_
  refine k_istore (pc := 70) C dX12_findFirst_70 (by decide) (L2 := [(0, .ref (E.1 + a0)), (1, .int x1), (2, .int x2), (3, .int x3), (4, .int s0), (5, .int s0)]) rfl ?_
  exact b_X12_findFirst_72 C hr hk  _ _ _ _ _ _ _ _ h
def f_X12_findFirst_40 (S : Sh) (R : Rw)  (I : Iw) (a0 : Nat) (x1 : Int32) (x2 : Int32) (s0 : Int32) : Option (Iw × Int32) := (if x1 = 0 then (if s0 ≤ 0 then f_X12_findFirst_66 S R  I a0 x1 x2 s0 (0 : Int32) else f_X12_findFirst_66 S R  I a0 x1 x2 s0 (1 : Int32)) else (if s0 < 0 then f_X12_findFirst_66 S R  I a0 x1 x2 s0 (0 : Int32) else f_X12_findFirst_66 S R  I a0 x1 x2 s0 (1 : Int32)))
set_option maxHeartbeats 4000000 in
theorem b_X12_findFirst_40 {E : Ev} {p : Program} {l : Launch} {e : Env} {s : State} {m : MethodId} {args : Array Value} {below : List Frame} {meth : Method} {c : Code} (C : Cx E RX12 cX12_findFirst 8 p s m c) (hr : meth.sig.returnType = (some .boolean)) (hk : meth.locks = false) {S : Sh} {R : Rw} {r : Iw × Int32}  : ∀ (I : Iw) (a0 : Nat) (x1 : Int32) (x2 : Int32) (s0 : Int32), f_X12_findFirst_40 S R   I a0 x1 x2 s0 = some r → Wk E 8 p l e ({ frames := 74, cells := 0, slots := 0, locals := 1706 } : Room) s m args below meth c 0 0 (MQ below (Qw E S R r.1 (some (.int r.2))) args s 0 0 (fun q => E.1 ≤ q)) 40 [(0, .ref (E.1 + a0)), (1, .int x1), (2, .int x2)] [.int s0] S R I := by
  intro I a0 x1 x2 s0 h
  rw [f_X12_findFirst_40] at h
  refine k_istoren (pc := 40) C dX12_findFirst_40 (i := 3) rfl (by decide) (L2 := [(0, .ref (E.1 + a0)), (1, .int x1), (2, .int x2), (3, .int s0)]) rfl ?_
  refine k_iloadn (pc := 41) C dX12_findFirst_41 (i := 1) rfl 1 rfl ?_
  refine k_if_ne (pc := 42) C dX12_findFirst_42 (tgt := 57) (by decide) (fun hc8 => ?_) (fun hc8 => ?_)
  · rw [if_neg hc8] at h
    refine k_iloadn (pc := 57) C dX12_findFirst_57 (i := 3) rfl 3 rfl ?_
    refine k_if_lt (pc := 58) C dX12_findFirst_58 (tgt := 65) (by decide) (fun hc9 => ?_) (fun hc9 => ?_)
    · rw [if_pos hc9] at h
      refine k_iconst (pc := 65) C (v := (0 : Int32)) dX12_findFirst_65 (by decide) ?_
      exact b_X12_findFirst_66 C hr hk  _ _ _ _ _ _ h
    · rw [if_neg hc9] at h
      refine k_iconst (pc := 61) C (v := (1 : Int32)) dX12_findFirst_61 (by decide) ?_
      refine k_goto (pc := 62) C dX12_findFirst_62 (tgt := 66) (by decide) ?_
      exact b_X12_findFirst_66 C hr hk  _ _ _ _ _ _ h
  · rw [if_pos hc8] at h
    refine k_iloadn (pc := 45) C dX12_findFirst_45 (i := 3) rfl 3 rfl ?_
    refine k_if_le (pc := 46) C dX12_findFirst_46 (tgt := 53) (by decide) (fun hc35 => ?_) (fun hc35 => ?_)
    · rw [if_pos hc35] at h
      refine k_iconst (pc := 53) C (v := (0 : Int32)) dX12_findFirst_53 (by decide) ?_
      refine k_goto (pc := 54) C dX12_findFirst_54 (tgt := 66) (by decide) ?_
      exact b_X12_findFirst_66 C hr hk  _ _ _ _ _ _ h
    · rw [if_neg hc35] at h
      refine k_iconst (pc := 49) C (v := (1 : Int32)) dX12_findFirst_49 (by decide) ?_
      refine k_goto (pc := 50) C dX12_findFirst_50 (tgt := 66) (by decide) ?_
      exact b_X12_findFirst_66 C hr hk  _ _ _ _ _ _ h
def f_X12_findFirst (S : Sh) (R : Rw)  (I : Iw) (a0 : Nat) (x1 : Int32) : Option (Iw × Int32) := gp (sok S a0 12 34) (rl (R a0 0) (fun b2 => gp (aok S 20 b2 (5 : Int32)) (lt (up2 I a0 21 (0 : Int32)) (fun I4 => (if x1 = 0 then bd (f_X12_waysOn 12 S R I4 a0) (fun r37 => f_X12_findFirst_40 S R  r37.1 a0 x1 (I b2 (5 : Int32).toNatClampNeg) r37.2) else (if x1 = (1 : Int32) then bd (f_X12_longestOn 12 S R I4 a0) (fun r36 => f_X12_findFirst_40 S R  r36.1 a0 x1 (I b2 (5 : Int32).toNatClampNeg) r36.2) else bd (f_X12_costOn 12 S R I4 a0 (1 : Int32)) (fun r7 => f_X12_findFirst_40 S R  r7.1 a0 x1 (I b2 (5 : Int32).toNatClampNeg) r7.2)))))))
set_option maxHeartbeats 4000000 in
theorem b_X12_findFirst {E : Ev} {p : Program} {l : Launch} {e : Env} {s : State} {m : MethodId} {args : Array Value} {below : List Frame} {meth : Method} {c : Code} (C : Cx E RX12 cX12_findFirst 8 p s m c) (hr : meth.sig.returnType = (some .boolean)) (hk : meth.locks = false) {S : Sh} {R : Rw} {r : Iw × Int32}  : ∀ (I : Iw) (a0 : Nat) (x1 : Int32), f_X12_findFirst S R   I a0 x1 = some r → Wk E 8 p l e ({ frames := 74, cells := 0, slots := 0, locals := 1706 } : Room) s m args below meth c 0 0 (MQ below (Qw E S R r.1 (some (.int r.2))) args s 0 0 (fun q => E.1 ≤ q)) 0 [(0, .ref (E.1 + a0)), (1, .int x1)] [] S R I := by
  intro I a0 x1 h
  rw [f_X12_findFirst] at h
  refine k_aloadn (pc := 0) C dX12_findFirst_0 (i := 0) rfl 0 rfl ?_
  obtain ⟨hs10, h⟩ := gp_e h
  have hs1 := sok_e hs10
  obtain ⟨b2, hb2, h⟩ := rl_e h
  refine k_getR (pc := 1) C lkF_RX12_9_12 hs1 ir_12_0 hb2 dX12_findFirst_1 ?_
  refine k_iconst (pc := 4) C (v := (5 : Int32)) dX12_findFirst_4 (by decide) ?_
  obtain ⟨ha3, h⟩ := gp_e h
  refine k_iald (pc := 5) C ha3 dX12_findFirst_5 ?_
  refine k_istoren (pc := 6) C dX12_findFirst_6 (i := 2) rfl (by decide) (L2 := [(0, .ref (E.1 + a0)), (1, .int x1), (2, .int (I b2 (5 : Int32).toNatClampNeg))]) rfl ?_
  refine k_aloadn (pc := 7) C dX12_findFirst_7 (i := 0) rfl 0 rfl ?_
  refine k_iconst (pc := 8) C (v := (0 : Int32)) dX12_findFirst_8 (by decide) ?_
  obtain ⟨I4, eI4, h⟩ := lt_e h
  refine k_putI (pc := 9) C lkP_RX12_291_12 hs1 ir_12_21 dX12_findFirst_9 ?_
  rw [← eI4]
  refine k_iloadn (pc := 12) C dX12_findFirst_12 (i := 1) rfl 1 rfl ?_
  refine k_if_ne (pc := 13) C dX12_findFirst_13 (tgt := 23) (by decide) (fun hc5 => ?_) (fun hc5 => ?_)
  · rw [if_neg hc5] at h
    refine k_iloadn (pc := 23) C dX12_findFirst_23 (i := 1) rfl 1 rfl ?_
    refine k_iconst (pc := 24) C (v := (1 : Int32)) dX12_findFirst_24 (by decide) ?_
    refine k_icmp_ne (pc := 25) C dX12_findFirst_25 (tgt := 35) (by decide) (fun hc6 => ?_) (fun hc6 => ?_)
    · rw [if_neg hc6] at h
      refine k_aloadn (pc := 35) C dX12_findFirst_35 (i := 0) rfl 0 rfl ?_
      refine k_iconst (pc := 36) C (v := (1 : Int32)) dX12_findFirst_36 (by decide) ?_
      obtain ⟨r7, hr7, h⟩ := bd_e h
      refine k_V (pc := 37) (st := []) C (c_X12_costOn 12 hr7) lkV_RX12_281 hs1 rfl rfl rfl (Nat.le_of_ble_eq_true rfl) (Nat.le_of_ble_eq_true rfl) (Nat.le_of_ble_eq_true rfl) (Nat.le_of_ble_eq_true rfl) (Nat.le_of_ble_eq_true rfl) dX12_findFirst_37 ?_
      refine k_nf (cells2 := 0) (slots2 := 0) (st2 := [.int r7.2]) rfl rfl rfl ?_
      exact b_X12_findFirst_40 C hr hk  _ _ _ _ _ h
    · rw [if_pos hc6] at h
      refine k_aloadn (pc := 28) C dX12_findFirst_28 (i := 0) rfl 0 rfl ?_
      obtain ⟨r36, hr36, h⟩ := bd_e h
      refine k_V (pc := 29) (st := []) C (c_X12_longestOn 12 hr36) lkV_RX12_278 hs1 rfl rfl rfl (Nat.le_of_ble_eq_true rfl) (Nat.le_of_ble_eq_true rfl) (Nat.le_of_ble_eq_true rfl) (Nat.le_of_ble_eq_true rfl) (Nat.le_of_ble_eq_true rfl) dX12_findFirst_29 ?_
      refine k_nf (cells2 := 0) (slots2 := 0) (st2 := [.int r36.2]) rfl rfl rfl ?_
      refine k_goto (pc := 32) C dX12_findFirst_32 (tgt := 40) (by decide) ?_
      exact b_X12_findFirst_40 C hr hk  _ _ _ _ _ h
  · rw [if_pos hc5] at h
    refine k_aloadn (pc := 16) C dX12_findFirst_16 (i := 0) rfl 0 rfl ?_
    obtain ⟨r37, hr37, h⟩ := bd_e h
    refine k_V (pc := 17) (st := []) C (c_X12_waysOn 12 hr37) lkV_RX12_275 hs1 rfl rfl rfl (Nat.le_of_ble_eq_true rfl) (Nat.le_of_ble_eq_true rfl) (Nat.le_of_ble_eq_true rfl) (Nat.le_of_ble_eq_true rfl) (Nat.le_of_ble_eq_true rfl) dX12_findFirst_17 ?_
    refine k_nf (cells2 := 0) (slots2 := 0) (st2 := [.int r37.2]) rfl rfl rfl ?_
    refine k_goto (pc := 20) C dX12_findFirst_20 (tgt := 40) (by decide) ?_
    exact b_X12_findFirst_40 C hr hk  _ _ _ _ _ h
theorem c_X12_findFirst {E : Ev} {l : Launch} {S : Sh} {R : Rw} {I : Iw} {a0 : Nat} {x1 : Int32} {r : Iw × Int32} (h : f_X12_findFirst S R I a0 x1 = some r) : Mt E l yX12_findFirst cX12_findFirst 8 (some .boolean) 74 1706 [.ref (E.1 + a0), .int x1] S R I S R r.1 (some (.int r.2)) 0 0 := mt_of (by decide) (Nat.le_of_ble_eq_true rfl) (fun p e s m args below meth c C hr hk hn => b_X12_findFirst C hr hk _ _ _ h)
theorem lkV_RX12_298 : LkV RX12 298 RX12 yX12_findFirst cX12_findFirst 8 (some .boolean) 1 := ⟨(t6_in 170 (by decide +kernel) rfl), (t6_in 172 (by decide +kernel) rfl), (t0_in 59 (by decide +kernel) rfl), (t6_in 173 (by decide +kernel) rfl), (t1_in 7 (by decide +kernel) rfl), by decide, by decide +kernel⟩
theorem dX12_orderTold_0 : decode cX12_orderTold 0 = .ok (.iload_n 2, 1) := by decide +kernel
theorem dX12_orderTold_1 : decode cX12_orderTold 1 = .ok (.iconst 0, 1) := by decide +kernel
theorem dX12_orderTold_2 : decode cX12_orderTold 2 = .ok (.bipush 8, 2) := by decide +kernel
theorem dX12_orderTold_4 : decode cX12_orderTold 4 = .ok (.invokestatic 98, 3) := by decide +kernel
theorem dX12_orderTold_7 : decode cX12_orderTold 7 = .ok (.ifCond .ne 5, 3) := by decide +kernel
theorem dX12_orderTold_10 : decode cX12_orderTold 10 = .ok (.iconst (-1), 1) := by decide +kernel
theorem dX12_orderTold_11 : decode cX12_orderTold 11 = .ok (.ireturn, 1) := by decide +kernel
theorem dX12_orderTold_12 : decode cX12_orderTold 12 = .ok (.aload_n 0, 1) := by decide +kernel
theorem dX12_orderTold_13 : decode cX12_orderTold 13 = .ok (.iload_n 1, 1) := by decide +kernel
theorem dX12_orderTold_14 : decode cX12_orderTold 14 = .ok (.invokevirtual 298, 3) := by decide +kernel
theorem dX12_orderTold_17 : decode cX12_orderTold 17 = .ok (.ifCond .eq 20, 3) := by decide +kernel
theorem dX12_orderTold_20 : decode cX12_orderTold 20 = .ok (.iload_n 2, 1) := by decide +kernel
theorem dX12_orderTold_21 : decode cX12_orderTold 21 = .ok (.aload_n 0, 1) := by decide +kernel
theorem dX12_orderTold_22 : decode cX12_orderTold 22 = .ok (.getfield 291, 3) := by decide +kernel
theorem dX12_orderTold_25 : decode cX12_orderTold 25 = .ok (.if_icmp .ge 12, 3) := by decide +kernel
theorem dX12_orderTold_28 : decode cX12_orderTold 28 = .ok (.aload_n 0, 1) := by decide +kernel
theorem dX12_orderTold_29 : decode cX12_orderTold 29 = .ok (.getfield 71, 3) := by decide +kernel
theorem dX12_orderTold_32 : decode cX12_orderTold 32 = .ok (.iload_n 2, 1) := by decide +kernel
theorem dX12_orderTold_33 : decode cX12_orderTold 33 = .ok (.iaload, 1) := by decide +kernel
theorem dX12_orderTold_34 : decode cX12_orderTold 34 = .ok (.goto 5, 3) := by decide +kernel
theorem dX12_orderTold_37 : decode cX12_orderTold 37 = .ok (.bipush (-3), 2) := by decide +kernel
theorem dX12_orderTold_39 : decode cX12_orderTold 39 = .ok (.ireturn, 1) := by decide +kernel
def f_X12_orderTold (S : Sh) (R : Rw)  (I : Iw) (a0 : Nat) (x1 : Int32) (x2 : Int32) : Option (Iw × Int32) := bd (f_X12_in S R I x2 (0 : Int32) (8 : Int32)) (fun r1 => (if r1 = 0 then some (I, (-1 : Int32)) else gp (sok S a0 12 34) (bd (f_X12_findFirst S R I a0 x1) (fun r4 => (if r4.2 = 0 then some (r4.1, (-3 : Int32)) else (if (r4.1 a0 21) ≤ x2 then some (r4.1, (-3 : Int32)) else rl (R a0 20) (fun b7 => gp (aok S 20 b7 x2) (some (r4.1, r4.1 b7 x2.toNatClampNeg)))))))))
set_option maxHeartbeats 4000000 in
theorem b_X12_orderTold {E : Ev} {p : Program} {l : Launch} {e : Env} {s : State} {m : MethodId} {args : Array Value} {below : List Frame} {meth : Method} {c : Code} (C : Cx E RX12 cX12_orderTold 3 p s m c) (hr : meth.sig.returnType = (some .int)) (hk : meth.locks = false) {S : Sh} {R : Rw} {r : Iw × Int32}  : ∀ (I : Iw) (a0 : Nat) (x1 : Int32) (x2 : Int32), f_X12_orderTold S R   I a0 x1 x2 = some r → Wk E 3 p l e ({ frames := 75, cells := 0, slots := 0, locals := 1733 } : Room) s m args below meth c 0 0 (MQ below (Qw E S R r.1 (some (.int r.2))) args s 0 0 (fun q => E.1 ≤ q)) 0 [(0, .ref (E.1 + a0)), (1, .int x1), (2, .int x2)] [] S R I := by
  intro I a0 x1 x2 h
  rw [f_X12_orderTold] at h
  refine k_iloadn (pc := 0) C dX12_orderTold_0 (i := 2) rfl 2 rfl ?_
  refine k_iconst (pc := 1) C (v := (0 : Int32)) dX12_orderTold_1 (by decide) ?_
  refine k_bipush (pc := 2) C (v := (8 : Int32)) dX12_orderTold_2 (by decide) ?_
  obtain ⟨r1, hr1, h⟩ := bd_e h
  refine k_S (pc := 4) (st := []) C (c_X12_in hr1) lkS_RX12_98 rfl rfl (Nat.le_of_ble_eq_true rfl) (Nat.le_of_ble_eq_true rfl) (Nat.le_of_ble_eq_true rfl) (Nat.le_of_ble_eq_true rfl) (Nat.le_of_ble_eq_true rfl) dX12_orderTold_4 ?_
  refine k_nf (cells2 := 0) (slots2 := 0) (st2 := [.int r1]) rfl rfl rfl ?_
  refine k_if_ne (pc := 7) C dX12_orderTold_7 (tgt := 12) (by decide) (fun hc2 => ?_) (fun hc2 => ?_)
  · rw [if_neg hc2] at h
    refine k_aloadn (pc := 12) C dX12_orderTold_12 (i := 0) rfl 0 rfl ?_
    refine k_iloadn (pc := 13) C dX12_orderTold_13 (i := 1) rfl 1 rfl ?_
    obtain ⟨hs30, h⟩ := gp_e h
    have hs3 := sok_e hs30
    obtain ⟨r4, hr4, h⟩ := bd_e h
    refine k_V (pc := 14) (st := []) C (c_X12_findFirst hr4) lkV_RX12_298 hs3 rfl rfl rfl (Nat.le_of_ble_eq_true rfl) (Nat.le_of_ble_eq_true rfl) (Nat.le_of_ble_eq_true rfl) (Nat.le_of_ble_eq_true rfl) (Nat.le_of_ble_eq_true rfl) dX12_orderTold_14 ?_
    refine k_nf (cells2 := 0) (slots2 := 0) (st2 := [.int r4.2]) rfl rfl rfl ?_
    refine k_if_eq (pc := 17) C dX12_orderTold_17 (tgt := 37) (by decide) (fun hc5 => ?_) (fun hc5 => ?_)
    · rw [if_pos hc5] at h
      refine k_bipush (pc := 37) C (v := (-3 : Int32)) dX12_orderTold_37 (by decide) ?_
      have h := Option.some.inj h
      subst h
      exact k_iret (pc := 39) C hr hk dX12_orderTold_39
    · rw [if_neg hc5] at h
      refine k_iloadn (pc := 20) C dX12_orderTold_20 (i := 2) rfl 2 rfl ?_
      refine k_aloadn (pc := 21) C dX12_orderTold_21 (i := 0) rfl 0 rfl ?_
      refine k_getI (pc := 22) C lkF_RX12_291_12 hs3 ir_12_21 dX12_orderTold_22 ?_
      refine k_icmp_ge (pc := 25) C dX12_orderTold_25 (tgt := 37) (by decide) (fun hc6 => ?_) (fun hc6 => ?_)
      · rw [if_pos hc6] at h
        refine k_bipush (pc := 37) C (v := (-3 : Int32)) dX12_orderTold_37 (by decide) ?_
        have h := Option.some.inj h
        subst h
        exact k_iret (pc := 39) C hr hk dX12_orderTold_39
      · rw [if_neg hc6] at h
        refine k_aloadn (pc := 28) C dX12_orderTold_28 (i := 0) rfl 0 rfl ?_
        obtain ⟨b7, hb7, h⟩ := rl_e h
        refine k_getR (pc := 29) C lkF_RX12_71_12 hs3 ir_12_20 hb7 dX12_orderTold_29 ?_
        refine k_iloadn (pc := 32) C dX12_orderTold_32 (i := 2) rfl 2 rfl ?_
        obtain ⟨ha8, h⟩ := gp_e h
        refine k_iald (pc := 33) C ha8 dX12_orderTold_33 ?_
        refine k_goto (pc := 34) C dX12_orderTold_34 (tgt := 39) (by decide) ?_
        have h := Option.some.inj h
        subst h
        exact k_iret (pc := 39) C hr hk dX12_orderTold_39
  · rw [if_pos hc2] at h
    refine k_iconst (pc := 10) C (v := (-1 : Int32)) dX12_orderTold_10 (by decide) ?_
    have h := Option.some.inj h
    subst h
    exact k_iret (pc := 11) C hr hk dX12_orderTold_11
theorem c_X12_orderTold {E : Ev} {l : Launch} {S : Sh} {R : Rw} {I : Iw} {a0 : Nat} {x1 : Int32} {x2 : Int32} {r : Iw × Int32} (h : f_X12_orderTold S R I a0 x1 x2 = some r) : Mt E l yX12_orderTold cX12_orderTold 3 (some .int) 75 1733 [.ref (E.1 + a0), .int x1, .int x2] S R I S R r.1 (some (.int r.2)) 0 0 := mt_of (by decide) (Nat.le_of_ble_eq_true rfl) (fun p e s m args below meth c C hr hk hn => b_X12_orderTold C hr hk _ _ _ _ h)
