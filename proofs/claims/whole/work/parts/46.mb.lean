/-! X12_prove, X12_isRow, X12_row, X12_alterRow, X12_judge -/
theorem lkP_RX12_323_12 : LkP RX12 323 12 23 .int := ⟨RX12, TX12, 34, "UnlikeNeighboursModel", fc12, by decide, (t5_in 104 (by decide +kernel) rfl), Or.inl rfl, rfl, by decide +kernel⟩
theorem lkF_RX12_323_12 : LkF RX12 323 12 23 := ⟨RX12, TX12, 34, "UnlikeNeighboursModel", fc12, by decide, (t5_in 104 (by decide +kernel) rfl), Or.inl rfl⟩
theorem lkF_RX12_74_12 : LkF RX12 74 12 22 := ⟨RX12, TX12, 34, "UnlikeNeighboursModel", fc12, by decide, (t5_in 103 (by decide +kernel) rfl), Or.inl rfl⟩
theorem dX12_prove_0 : decode cX12_prove 0 = .ok (.aload_n 0, 1) := by decide +kernel
theorem dX12_prove_1 : decode cX12_prove 1 = .ok (.iconst 0, 1) := by decide +kernel
theorem dX12_prove_2 : decode cX12_prove 2 = .ok (.invokevirtual 298, 3) := by decide +kernel
theorem dX12_prove_5 : decode cX12_prove 5 = .ok (.ifCond .ne 6, 3) := by decide +kernel
theorem dX12_prove_8 : decode cX12_prove 8 = .ok (.bipush (-3), 2) := by decide +kernel
theorem dX12_prove_10 : decode cX12_prove 10 = .ok (.ireturn, 1) := by decide +kernel
theorem dX12_prove_11 : decode cX12_prove 11 = .ok (.aload_n 0, 1) := by decide +kernel
theorem dX12_prove_12 : decode cX12_prove 12 = .ok (.aload_n 0, 1) := by decide +kernel
theorem dX12_prove_13 : decode cX12_prove 13 = .ok (.getfield 291, 3) := by decide +kernel
theorem dX12_prove_16 : decode cX12_prove 16 = .ok (.putfield 323, 3) := by decide +kernel
theorem dX12_prove_19 : decode cX12_prove 19 = .ok (.iconst 0, 1) := by decide +kernel
theorem dX12_prove_20 : decode cX12_prove 20 = .ok (.istore_n 1, 1) := by decide +kernel
theorem dX12_prove_21 : decode cX12_prove 21 = .ok (.iload_n 1, 1) := by decide +kernel
theorem dX12_prove_22 : decode cX12_prove 22 = .ok (.aload_n 0, 1) := by decide +kernel
theorem dX12_prove_23 : decode cX12_prove 23 = .ok (.getfield 291, 3) := by decide +kernel
theorem dX12_prove_26 : decode cX12_prove 26 = .ok (.if_icmp .ge 61, 3) := by decide +kernel
theorem dX12_prove_29 : decode cX12_prove 29 = .ok (.aload_n 0, 1) := by decide +kernel
theorem dX12_prove_30 : decode cX12_prove 30 = .ok (.getfield 74, 3) := by decide +kernel
theorem dX12_prove_33 : decode cX12_prove 33 = .ok (.iconst 3, 1) := by decide +kernel
theorem dX12_prove_34 : decode cX12_prove 34 = .ok (.iload_n 1, 1) := by decide +kernel
theorem dX12_prove_35 : decode cX12_prove 35 = .ok (.imul, 1) := by decide +kernel
theorem dX12_prove_36 : decode cX12_prove 36 = .ok (.aload_n 0, 1) := by decide +kernel
theorem dX12_prove_37 : decode cX12_prove 37 = .ok (.getfield 71, 3) := by decide +kernel
theorem dX12_prove_40 : decode cX12_prove 40 = .ok (.iload_n 1, 1) := by decide +kernel
theorem dX12_prove_41 : decode cX12_prove 41 = .ok (.iaload, 1) := by decide +kernel
theorem dX12_prove_42 : decode cX12_prove 42 = .ok (.iastore, 1) := by decide +kernel
theorem dX12_prove_43 : decode cX12_prove 43 = .ok (.aload_n 0, 1) := by decide +kernel
theorem dX12_prove_44 : decode cX12_prove 44 = .ok (.getfield 74, 3) := by decide +kernel
theorem dX12_prove_47 : decode cX12_prove 47 = .ok (.iconst 3, 1) := by decide +kernel
theorem dX12_prove_48 : decode cX12_prove 48 = .ok (.iload_n 1, 1) := by decide +kernel
theorem dX12_prove_49 : decode cX12_prove 49 = .ok (.imul, 1) := by decide +kernel
theorem dX12_prove_50 : decode cX12_prove 50 = .ok (.iconst 1, 1) := by decide +kernel
theorem dX12_prove_51 : decode cX12_prove 51 = .ok (.iadd, 1) := by decide +kernel
theorem dX12_prove_52 : decode cX12_prove 52 = .ok (.aload_n 0, 1) := by decide +kernel
theorem dX12_prove_53 : decode cX12_prove 53 = .ok (.getfield 291, 3) := by decide +kernel
theorem dX12_prove_56 : decode cX12_prove 56 = .ok (.iconst 1, 1) := by decide +kernel
theorem dX12_prove_57 : decode cX12_prove 57 = .ok (.isub, 1) := by decide +kernel
theorem dX12_prove_58 : decode cX12_prove 58 = .ok (.iload_n 1, 1) := by decide +kernel
theorem dX12_prove_59 : decode cX12_prove 59 = .ok (.isub, 1) := by decide +kernel
theorem dX12_prove_60 : decode cX12_prove 60 = .ok (.iastore, 1) := by decide +kernel
theorem dX12_prove_61 : decode cX12_prove 61 = .ok (.aload_n 0, 1) := by decide +kernel
theorem dX12_prove_62 : decode cX12_prove 62 = .ok (.getfield 74, 3) := by decide +kernel
theorem dX12_prove_65 : decode cX12_prove 65 = .ok (.iconst 3, 1) := by decide +kernel
theorem dX12_prove_66 : decode cX12_prove 66 = .ok (.iload_n 1, 1) := by decide +kernel
theorem dX12_prove_67 : decode cX12_prove 67 = .ok (.imul, 1) := by decide +kernel
theorem dX12_prove_68 : decode cX12_prove 68 = .ok (.iconst 2, 1) := by decide +kernel
theorem dX12_prove_69 : decode cX12_prove 69 = .ok (.iadd, 1) := by decide +kernel
theorem dX12_prove_70 : decode cX12_prove 70 = .ok (.aload_n 0, 1) := by decide +kernel
theorem dX12_prove_71 : decode cX12_prove 71 = .ok (.aload_n 0, 1) := by decide +kernel
theorem dX12_prove_72 : decode cX12_prove 72 = .ok (.getfield 71, 3) := by decide +kernel
theorem dX12_prove_75 : decode cX12_prove 75 = .ok (.iload_n 1, 1) := by decide +kernel
theorem dX12_prove_76 : decode cX12_prove 76 = .ok (.iaload, 1) := by decide +kernel
theorem dX12_prove_77 : decode cX12_prove 77 = .ok (.invokevirtual 254, 3) := by decide +kernel
theorem dX12_prove_80 : decode cX12_prove 80 = .ok (.iastore, 1) := by decide +kernel
theorem dX12_prove_81 : decode cX12_prove 81 = .ok (.iinc 1 1, 3) := by decide +kernel
theorem dX12_prove_84 : decode cX12_prove 84 = .ok (.goto (-63), 3) := by decide +kernel
theorem dX12_prove_87 : decode cX12_prove 87 = .ok (.aload_n 0, 1) := by decide +kernel
theorem dX12_prove_88 : decode cX12_prove 88 = .ok (.getfield 323, 3) := by decide +kernel
theorem dX12_prove_91 : decode cX12_prove 91 = .ok (.ireturn, 1) := by decide +kernel
def f_X12_prove_21 (S : Sh) (R : Rw)  : Nat → Iw → Nat → Int32 → Option (Iw × Int32)
  | 0, _, _, _ => none
  | n + 1, I, a0, x1 => gp (sok S a0 12 34) ((if (I a0 21) ≤ x1 then some (I, I a0 23) else rl (R a0 22) (fun b7 => rl (R a0 20) (fun b8 => gp (aok S 20 b8 x1) (gp (aok S 20 b7 ((3 : Int32) * x1)) (lt (up2 I b7 ((3 : Int32) * x1).toNatClampNeg (I b8 x1.toNatClampNeg)) (fun I11 => rl (R a0 22) (fun b12 => gp (aok S 20 b12 (((3 : Int32) * x1) + (1 : Int32))) (lt (up2 I11 b12 (((3 : Int32) * x1) + (1 : Int32)).toNatClampNeg (((I11 a0 21) - (1 : Int32)) - x1)) (fun I14 => rl (R a0 22) (fun b15 => rl (R a0 20) (fun b16 => gp (aok S 20 b16 x1) (bd (f_X12_fee S R I14 a0 (I14 b16 x1.toNatClampNeg)) (fun r18 => gp (aok S 20 b15 (((3 : Int32) * x1) + (2 : Int32))) (lt (up2 r18.1 b15 (((3 : Int32) * x1) + (2 : Int32)).toNatClampNeg r18.2) (fun I20 => f_X12_prove_21 S R  n I20 a0 (x1 + (1 : Int32))))))))))))))))))
set_option maxHeartbeats 4000000 in
theorem b_X12_prove_21 {E : Ev} {p : Program} {l : Launch} {e : Env} {s : State} {m : MethodId} {args : Array Value} {below : List Frame} {meth : Method} {c : Code} (C : Cx E RX12 cX12_prove 2 p s m c) (hr : meth.sig.returnType = (some .int)) (hk : meth.locks = false) {S : Sh} {R : Rw} {r : Iw × Int32}  : ∀ (n : Nat) (I : Iw) (a0 : Nat) (x1 : Int32), f_X12_prove_21 S R  n I a0 x1 = some r → Wk E 2 p l e ({ frames := 75, cells := 0, slots := 0, locals := 1733 } : Room) s m args below meth c 0 0 (MQ below (Qw E S R r.1 (some (.int r.2))) args s 0 0 (fun q => E.1 ≤ q)) 21 [(0, .ref (E.1 + a0)), (1, .int x1)] [] S R I := by
  intro n
  induction n with
  | zero =>
    intro I a0 x1 h
    rw [f_X12_prove_21] at h
    cases h
  | succ n ih =>
    intro I a0 x1 h
    rw [f_X12_prove_21] at h
    refine k_iloadn (pc := 21) C dX12_prove_21 (i := 1) rfl 1 rfl ?_
    refine k_aloadn (pc := 22) C dX12_prove_22 (i := 0) rfl 0 rfl ?_
    obtain ⟨hs50, h⟩ := gp_e h
    have hs5 := sok_e hs50
    refine k_getI (pc := 23) C lkF_RX12_291_12 hs5 ir_12_21 dX12_prove_23 ?_
    refine k_icmp_ge (pc := 26) C dX12_prove_26 (tgt := 87) (by decide) (fun hc6 => ?_) (fun hc6 => ?_)
    · rw [if_pos hc6] at h
      refine k_aloadn (pc := 87) C dX12_prove_87 (i := 0) rfl 0 rfl ?_
      refine k_getI (pc := 88) C lkF_RX12_323_12 hs5 ir_12_23 dX12_prove_88 ?_
      have h := Option.some.inj h
      subst h
      exact k_iret (pc := 91) C hr hk dX12_prove_91
    · rw [if_neg hc6] at h
      refine k_aloadn (pc := 29) C dX12_prove_29 (i := 0) rfl 0 rfl ?_
      obtain ⟨b7, hb7, h⟩ := rl_e h
      refine k_getR (pc := 30) C lkF_RX12_74_12 hs5 ir_12_22 hb7 dX12_prove_30 ?_
      refine k_iconst (pc := 33) C (v := (3 : Int32)) dX12_prove_33 (by decide) ?_
      refine k_iloadn (pc := 34) C dX12_prove_34 (i := 1) rfl 1 rfl ?_
      refine k_imul (pc := 35) C dX12_prove_35 ?_
      refine k_aloadn (pc := 36) C dX12_prove_36 (i := 0) rfl 0 rfl ?_
      obtain ⟨b8, hb8, h⟩ := rl_e h
      refine k_getR (pc := 37) C lkF_RX12_71_12 hs5 ir_12_20 hb8 dX12_prove_37 ?_
      refine k_iloadn (pc := 40) C dX12_prove_40 (i := 1) rfl 1 rfl ?_
      obtain ⟨ha9, h⟩ := gp_e h
      refine k_iald (pc := 41) C ha9 dX12_prove_41 ?_
      obtain ⟨ha10, h⟩ := gp_e h
      obtain ⟨I11, eI11, h⟩ := lt_e h
      refine k_iast (pc := 42) C ha10 dX12_prove_42 ?_
      rw [← eI11]
      refine k_aloadn (pc := 43) C dX12_prove_43 (i := 0) rfl 0 rfl ?_
      obtain ⟨b12, hb12, h⟩ := rl_e h
      refine k_getR (pc := 44) C lkF_RX12_74_12 hs5 ir_12_22 hb12 dX12_prove_44 ?_
      refine k_iconst (pc := 47) C (v := (3 : Int32)) dX12_prove_47 (by decide) ?_
      refine k_iloadn (pc := 48) C dX12_prove_48 (i := 1) rfl 1 rfl ?_
      refine k_imul (pc := 49) C dX12_prove_49 ?_
      refine k_iconst (pc := 50) C (v := (1 : Int32)) dX12_prove_50 (by decide) ?_
      refine k_iadd (pc := 51) C dX12_prove_51 ?_
      refine k_aloadn (pc := 52) C dX12_prove_52 (i := 0) rfl 0 rfl ?_
      refine k_getI (pc := 53) C lkF_RX12_291_12 hs5 ir_12_21 dX12_prove_53 ?_
      refine k_iconst (pc := 56) C (v := (1 : Int32)) dX12_prove_56 (by decide) ?_
      refine k_isub (pc := 57) C dX12_prove_57 ?_
      refine k_iloadn (pc := 58) C dX12_prove_58 (i := 1) rfl 1 rfl ?_
      refine k_isub (pc := 59) C dX12_prove_59 ?_
      obtain ⟨ha13, h⟩ := gp_e h
      obtain ⟨I14, eI14, h⟩ := lt_e h
      refine k_iast (pc := 60) C ha13 dX12_prove_60 ?_
      rw [← eI14]
      refine k_aloadn (pc := 61) C dX12_prove_61 (i := 0) rfl 0 rfl ?_
      obtain ⟨b15, hb15, h⟩ := rl_e h
      refine k_getR (pc := 62) C lkF_RX12_74_12 hs5 ir_12_22 hb15 dX12_prove_62 ?_
      refine k_iconst (pc := 65) C (v := (3 : Int32)) dX12_prove_65 (by decide) ?_
      refine k_iloadn (pc := 66) C dX12_prove_66 (i := 1) rfl 1 rfl ?_
      refine k_imul (pc := 67) C dX12_prove_67 ?_
      refine k_iconst (pc := 68) C (v := (2 : Int32)) dX12_prove_68 (by decide) ?_
      refine k_iadd (pc := 69) C dX12_prove_69 ?_
      refine k_aloadn (pc := 70) C dX12_prove_70 (i := 0) rfl 0 rfl ?_
      refine k_aloadn (pc := 71) C dX12_prove_71 (i := 0) rfl 0 rfl ?_
      obtain ⟨b16, hb16, h⟩ := rl_e h
      refine k_getR (pc := 72) C lkF_RX12_71_12 hs5 ir_12_20 hb16 dX12_prove_72 ?_
      refine k_iloadn (pc := 75) C dX12_prove_75 (i := 1) rfl 1 rfl ?_
      obtain ⟨ha17, h⟩ := gp_e h
      refine k_iald (pc := 76) C ha17 dX12_prove_76 ?_
      obtain ⟨r18, hr18, h⟩ := bd_e h
      refine k_V (pc := 77) (st := [.int (((3 : Int32) * x1) + (2 : Int32)), .ref (E.1 + b15)]) C (c_X12_fee hr18) lkV_RX12_254 hs5 rfl rfl rfl (Nat.le_of_ble_eq_true rfl) (Nat.le_of_ble_eq_true rfl) (Nat.le_of_ble_eq_true rfl) (Nat.le_of_ble_eq_true rfl) (Nat.le_of_ble_eq_true rfl) dX12_prove_77 ?_
      refine k_nf (cells2 := 0) (slots2 := 0) (st2 := [.int r18.2, .int (((3 : Int32) * x1) + (2 : Int32)), .ref (E.1 + b15)]) rfl rfl rfl ?_
      obtain ⟨ha19, h⟩ := gp_e h
      obtain ⟨I20, eI20, h⟩ := lt_e h
      refine k_iast (pc := 80) C ha19 dX12_prove_80 ?_
      rw [← eI20]
      refine k_iinc (pc := 81) C dX12_prove_81 1 rfl (v := x1 + (1 : Int32)) (by rfl) (by decide) (L2 := [(0, .ref (E.1 + a0)), (1, .int (x1 + (1 : Int32)))]) rfl ?_
      refine k_goto (pc := 84) C dX12_prove_84 (tgt := 21) (by decide) ?_
      exact ih _ _ _ h
def f_X12_prove (S : Sh) (R : Rw)  (I : Iw) (a0 : Nat) : Option (Iw × Int32) := gp (sok S a0 12 34) (bd (f_X12_findFirst S R I a0 (0 : Int32)) (fun r2 => (if r2.2 = 0 then some (r2.1, (-3 : Int32)) else lt (up2 r2.1 a0 23 (r2.1 a0 21)) (fun I4 => f_X12_prove_21 S R  512 I4 a0 (0 : Int32)))))
set_option maxHeartbeats 4000000 in
theorem b_X12_prove {E : Ev} {p : Program} {l : Launch} {e : Env} {s : State} {m : MethodId} {args : Array Value} {below : List Frame} {meth : Method} {c : Code} (C : Cx E RX12 cX12_prove 2 p s m c) (hr : meth.sig.returnType = (some .int)) (hk : meth.locks = false) {S : Sh} {R : Rw} {r : Iw × Int32}  : ∀ (I : Iw) (a0 : Nat), f_X12_prove S R   I a0 = some r → Wk E 2 p l e ({ frames := 75, cells := 0, slots := 0, locals := 1733 } : Room) s m args below meth c 0 0 (MQ below (Qw E S R r.1 (some (.int r.2))) args s 0 0 (fun q => E.1 ≤ q)) 0 [(0, .ref (E.1 + a0))] [] S R I := by
  intro I a0 h
  rw [f_X12_prove] at h
  refine k_aloadn (pc := 0) C dX12_prove_0 (i := 0) rfl 0 rfl ?_
  refine k_iconst (pc := 1) C (v := (0 : Int32)) dX12_prove_1 (by decide) ?_
  obtain ⟨hs10, h⟩ := gp_e h
  have hs1 := sok_e hs10
  obtain ⟨r2, hr2, h⟩ := bd_e h
  refine k_V (pc := 2) (st := []) C (c_X12_findFirst hr2) lkV_RX12_298 hs1 rfl rfl rfl (Nat.le_of_ble_eq_true rfl) (Nat.le_of_ble_eq_true rfl) (Nat.le_of_ble_eq_true rfl) (Nat.le_of_ble_eq_true rfl) (Nat.le_of_ble_eq_true rfl) dX12_prove_2 ?_
  refine k_nf (cells2 := 0) (slots2 := 0) (st2 := [.int r2.2]) rfl rfl rfl ?_
  refine k_if_ne (pc := 5) C dX12_prove_5 (tgt := 11) (by decide) (fun hc3 => ?_) (fun hc3 => ?_)
  · rw [if_neg hc3] at h
    refine k_aloadn (pc := 11) C dX12_prove_11 (i := 0) rfl 0 rfl ?_
    refine k_aloadn (pc := 12) C dX12_prove_12 (i := 0) rfl 0 rfl ?_
    refine k_getI (pc := 13) C lkF_RX12_291_12 hs1 ir_12_21 dX12_prove_13 ?_
    obtain ⟨I4, eI4, h⟩ := lt_e h
    refine k_putI (pc := 16) C lkP_RX12_323_12 hs1 ir_12_23 dX12_prove_16 ?_
    rw [← eI4]
    refine k_iconst (pc := 19) C (v := (0 : Int32)) dX12_prove_19 (by decide) ?_
    refine k_istoren (pc := 20) C dX12_prove_20 (i := 1) rfl (by decide) (L2 := [(0, .ref (E.1 + a0)), (1, .int (0 : Int32))]) rfl ?_
    exact b_X12_prove_21 C hr hk  _ _ _ _ h
  · rw [if_pos hc3] at h
    refine k_bipush (pc := 8) C (v := (-3 : Int32)) dX12_prove_8 (by decide) ?_
    have h := Option.some.inj h
    subst h
    exact k_iret (pc := 10) C hr hk dX12_prove_10
theorem c_X12_prove {E : Ev} {l : Launch} {S : Sh} {R : Rw} {I : Iw} {a0 : Nat} {r : Iw × Int32} (h : f_X12_prove S R I a0 = some r) : Mt E l yX12_prove cX12_prove 2 (some .int) 75 1733 [.ref (E.1 + a0)] S R I S R r.1 (some (.int r.2)) 0 0 := mt_of (by decide) (Nat.le_of_ble_eq_true rfl) (fun p e s m args below meth c C hr hk hn => b_X12_prove C hr hk _ _ h)
theorem dX12_isRow_0 : decode cX12_isRow 0 = .ok (.iload_n 1, 1) := by decide +kernel
theorem dX12_isRow_1 : decode cX12_isRow 1 = .ok (.iconst 0, 1) := by decide +kernel
theorem dX12_isRow_2 : decode cX12_isRow 2 = .ok (.aload_n 0, 1) := by decide +kernel
theorem dX12_isRow_3 : decode cX12_isRow 3 = .ok (.getfield 323, 3) := by decide +kernel
theorem dX12_isRow_6 : decode cX12_isRow 6 = .ok (.iconst 1, 1) := by decide +kernel
theorem dX12_isRow_7 : decode cX12_isRow 7 = .ok (.isub, 1) := by decide +kernel
theorem dX12_isRow_8 : decode cX12_isRow 8 = .ok (.invokestatic 98, 3) := by decide +kernel
theorem dX12_isRow_11 : decode cX12_isRow 11 = .ok (.ifCond .eq 16, 3) := by decide +kernel
theorem dX12_isRow_14 : decode cX12_isRow 14 = .ok (.iload_n 2, 1) := by decide +kernel
theorem dX12_isRow_15 : decode cX12_isRow 15 = .ok (.iconst 0, 1) := by decide +kernel
theorem dX12_isRow_16 : decode cX12_isRow 16 = .ok (.iconst 2, 1) := by decide +kernel
theorem dX12_isRow_17 : decode cX12_isRow 17 = .ok (.invokestatic 98, 3) := by decide +kernel
theorem dX12_isRow_20 : decode cX12_isRow 20 = .ok (.ifCond .eq 7, 3) := by decide +kernel
theorem dX12_isRow_23 : decode cX12_isRow 23 = .ok (.iconst 1, 1) := by decide +kernel
theorem dX12_isRow_24 : decode cX12_isRow 24 = .ok (.goto 4, 3) := by decide +kernel
theorem dX12_isRow_27 : decode cX12_isRow 27 = .ok (.iconst 0, 1) := by decide +kernel
theorem dX12_isRow_28 : decode cX12_isRow 28 = .ok (.ireturn, 1) := by decide +kernel
def f_X12_isRow (S : Sh) (R : Rw) (I : Iw)  (a0 : Nat) (x1 : Int32) (x2 : Int32) : Option (Int32) := gp (sok S a0 12 34) (bd (f_X12_in S R I x1 (0 : Int32) ((I a0 23) - (1 : Int32))) (fun r2 => (if r2 = 0 then some (0 : Int32) else bd (f_X12_in S R I x2 (0 : Int32) (2 : Int32)) (fun r4 => (if r4 = 0 then some (0 : Int32) else some (1 : Int32))))))
set_option maxHeartbeats 4000000 in
theorem b_X12_isRow {E : Ev} {p : Program} {l : Launch} {e : Env} {s : State} {m : MethodId} {args : Array Value} {below : List Frame} {meth : Method} {c : Code} (C : Cx E RX12 cX12_isRow 3 p s m c) (hr : meth.sig.returnType = (some .boolean)) (hk : meth.locks = false) {S : Sh} {R : Rw} {I : Iw} {r : Int32}  : ∀ (a0 : Nat) (x1 : Int32) (x2 : Int32), f_X12_isRow S R I   a0 x1 x2 = some r → Wk E 3 p l e ({ frames := 1, cells := 0, slots := 0, locals := 22 } : Room) s m args below meth c 0 0 (MQ below (Qw E S R I (some (.int r))) args s 0 0 (fun q => E.1 ≤ q)) 0 [(0, .ref (E.1 + a0)), (1, .int x1), (2, .int x2)] [] S R I := by
  intro a0 x1 x2 h
  rw [f_X12_isRow] at h
  refine k_iloadn (pc := 0) C dX12_isRow_0 (i := 1) rfl 1 rfl ?_
  refine k_iconst (pc := 1) C (v := (0 : Int32)) dX12_isRow_1 (by decide) ?_
  refine k_aloadn (pc := 2) C dX12_isRow_2 (i := 0) rfl 0 rfl ?_
  obtain ⟨hs10, h⟩ := gp_e h
  have hs1 := sok_e hs10
  refine k_getI (pc := 3) C lkF_RX12_323_12 hs1 ir_12_23 dX12_isRow_3 ?_
  refine k_iconst (pc := 6) C (v := (1 : Int32)) dX12_isRow_6 (by decide) ?_
  refine k_isub (pc := 7) C dX12_isRow_7 ?_
  obtain ⟨r2, hr2, h⟩ := bd_e h
  refine k_S (pc := 8) (st := []) C (c_X12_in hr2) lkS_RX12_98 rfl rfl (Nat.le_of_ble_eq_true rfl) (Nat.le_of_ble_eq_true rfl) (Nat.le_of_ble_eq_true rfl) (Nat.le_of_ble_eq_true rfl) (Nat.le_of_ble_eq_true rfl) dX12_isRow_8 ?_
  refine k_nf (cells2 := 0) (slots2 := 0) (st2 := [.int r2]) rfl rfl rfl ?_
  refine k_if_eq (pc := 11) C dX12_isRow_11 (tgt := 27) (by decide) (fun hc3 => ?_) (fun hc3 => ?_)
  · rw [if_pos hc3] at h
    refine k_iconst (pc := 27) C (v := (0 : Int32)) dX12_isRow_27 (by decide) ?_
    have h := Option.some.inj h
    subst h
    exact k_zret (pc := 28) C hr hk (Or.inl rfl) dX12_isRow_28
  · rw [if_neg hc3] at h
    refine k_iloadn (pc := 14) C dX12_isRow_14 (i := 2) rfl 2 rfl ?_
    refine k_iconst (pc := 15) C (v := (0 : Int32)) dX12_isRow_15 (by decide) ?_
    refine k_iconst (pc := 16) C (v := (2 : Int32)) dX12_isRow_16 (by decide) ?_
    obtain ⟨r4, hr4, h⟩ := bd_e h
    refine k_S (pc := 17) (st := []) C (c_X12_in hr4) lkS_RX12_98 rfl rfl (Nat.le_of_ble_eq_true rfl) (Nat.le_of_ble_eq_true rfl) (Nat.le_of_ble_eq_true rfl) (Nat.le_of_ble_eq_true rfl) (Nat.le_of_ble_eq_true rfl) dX12_isRow_17 ?_
    refine k_nf (cells2 := 0) (slots2 := 0) (st2 := [.int r4]) rfl rfl rfl ?_
    refine k_if_eq (pc := 20) C dX12_isRow_20 (tgt := 27) (by decide) (fun hc5 => ?_) (fun hc5 => ?_)
    · rw [if_pos hc5] at h
      refine k_iconst (pc := 27) C (v := (0 : Int32)) dX12_isRow_27 (by decide) ?_
      have h := Option.some.inj h
      subst h
      exact k_zret (pc := 28) C hr hk (Or.inl rfl) dX12_isRow_28
    · rw [if_neg hc5] at h
      refine k_iconst (pc := 23) C (v := (1 : Int32)) dX12_isRow_23 (by decide) ?_
      refine k_goto (pc := 24) C dX12_isRow_24 (tgt := 28) (by decide) ?_
      have h := Option.some.inj h
      subst h
      exact k_zret (pc := 28) C hr hk (Or.inr rfl) dX12_isRow_28
theorem c_X12_isRow {E : Ev} {l : Launch} {S : Sh} {R : Rw} {I : Iw} {a0 : Nat} {x1 : Int32} {x2 : Int32} {r : Int32} (h : f_X12_isRow S R I a0 x1 x2 = some r) : Mt E l yX12_isRow cX12_isRow 3 (some .boolean) 1 22 [.ref (E.1 + a0), .int x1, .int x2] S R I S R I (some (.int r)) 0 0 := mt_of (by decide) (Nat.le_of_ble_eq_true rfl) (fun p e s m args below meth c C hr hk hn => b_X12_isRow C hr hk _ _ _ h)
theorem lkV_RX12_326 : LkV RX12 326 RX12 yX12_isRow cX12_isRow 3 (some .boolean) 2 := ⟨(t7_in 55 (by decide +kernel) rfl), (t7_in 57 (by decide +kernel) rfl), (t0_in 70 (by decide +kernel) rfl), (t7_in 58 (by decide +kernel) rfl), (t1_in 7 (by decide +kernel) rfl), by decide, by decide +kernel⟩
theorem dX12_row_0 : decode cX12_row 0 = .ok (.aload_n 0, 1) := by decide +kernel
theorem dX12_row_1 : decode cX12_row 1 = .ok (.iload_n 1, 1) := by decide +kernel
theorem dX12_row_2 : decode cX12_row 2 = .ok (.iload_n 2, 1) := by decide +kernel
theorem dX12_row_3 : decode cX12_row 3 = .ok (.invokevirtual 326, 3) := by decide +kernel
theorem dX12_row_6 : decode cX12_row 6 = .ok (.ifCond .eq 16, 3) := by decide +kernel
theorem dX12_row_9 : decode cX12_row 9 = .ok (.aload_n 0, 1) := by decide +kernel
theorem dX12_row_10 : decode cX12_row 10 = .ok (.getfield 74, 3) := by decide +kernel
theorem dX12_row_13 : decode cX12_row 13 = .ok (.iconst 3, 1) := by decide +kernel
theorem dX12_row_14 : decode cX12_row 14 = .ok (.iload_n 1, 1) := by decide +kernel
theorem dX12_row_15 : decode cX12_row 15 = .ok (.imul, 1) := by decide +kernel
theorem dX12_row_16 : decode cX12_row 16 = .ok (.iload_n 2, 1) := by decide +kernel
theorem dX12_row_17 : decode cX12_row 17 = .ok (.iadd, 1) := by decide +kernel
theorem dX12_row_18 : decode cX12_row 18 = .ok (.iaload, 1) := by decide +kernel
theorem dX12_row_19 : decode cX12_row 19 = .ok (.goto 5, 3) := by decide +kernel
theorem dX12_row_22 : decode cX12_row 22 = .ok (.bipush (-9), 2) := by decide +kernel
theorem dX12_row_24 : decode cX12_row 24 = .ok (.ireturn, 1) := by decide +kernel
def f_X12_row (S : Sh) (R : Rw) (I : Iw)  (a0 : Nat) (x1 : Int32) (x2 : Int32) : Option (Int32) := gp (sok S a0 12 34) (bd (f_X12_isRow S R I a0 x1 x2) (fun r2 => (if r2 = 0 then some (-9 : Int32) else rl (R a0 22) (fun b4 => gp (aok S 20 b4 (((3 : Int32) * x1) + x2)) (some (I b4 (((3 : Int32) * x1) + x2).toNatClampNeg))))))
set_option maxHeartbeats 4000000 in
theorem b_X12_row {E : Ev} {p : Program} {l : Launch} {e : Env} {s : State} {m : MethodId} {args : Array Value} {below : List Frame} {meth : Method} {c : Code} (C : Cx E RX12 cX12_row 3 p s m c) (hr : meth.sig.returnType = (some .int)) (hk : meth.locks = false) {S : Sh} {R : Rw} {I : Iw} {r : Int32}  : ∀ (a0 : Nat) (x1 : Int32) (x2 : Int32), f_X12_row S R I   a0 x1 x2 = some r → Wk E 3 p l e ({ frames := 2, cells := 0, slots := 0, locals := 44 } : Room) s m args below meth c 0 0 (MQ below (Qw E S R I (some (.int r))) args s 0 0 (fun q => E.1 ≤ q)) 0 [(0, .ref (E.1 + a0)), (1, .int x1), (2, .int x2)] [] S R I := by
  intro a0 x1 x2 h
  rw [f_X12_row] at h
  refine k_aloadn (pc := 0) C dX12_row_0 (i := 0) rfl 0 rfl ?_
  refine k_iloadn (pc := 1) C dX12_row_1 (i := 1) rfl 1 rfl ?_
  refine k_iloadn (pc := 2) C dX12_row_2 (i := 2) rfl 2 rfl ?_
  obtain ⟨hs10, h⟩ := gp_e h
  have hs1 := sok_e hs10
  obtain ⟨r2, hr2, h⟩ := bd_e h
  refine k_V (pc := 3) (st := []) C (c_X12_isRow hr2) lkV_RX12_326 hs1 rfl rfl rfl (Nat.le_of_ble_eq_true rfl) (Nat.le_of_ble_eq_true rfl) (Nat.le_of_ble_eq_true rfl) (Nat.le_of_ble_eq_true rfl) (Nat.le_of_ble_eq_true rfl) dX12_row_3 ?_
  refine k_nf (cells2 := 0) (slots2 := 0) (st2 := [.int r2]) rfl rfl rfl ?_
  refine k_if_eq (pc := 6) C dX12_row_6 (tgt := 22) (by decide) (fun hc3 => ?_) (fun hc3 => ?_)
  · rw [if_pos hc3] at h
    refine k_bipush (pc := 22) C (v := (-9 : Int32)) dX12_row_22 (by decide) ?_
    have h := Option.some.inj h
    subst h
    exact k_iret (pc := 24) C hr hk dX12_row_24
  · rw [if_neg hc3] at h
    refine k_aloadn (pc := 9) C dX12_row_9 (i := 0) rfl 0 rfl ?_
    obtain ⟨b4, hb4, h⟩ := rl_e h
    refine k_getR (pc := 10) C lkF_RX12_74_12 hs1 ir_12_22 hb4 dX12_row_10 ?_
    refine k_iconst (pc := 13) C (v := (3 : Int32)) dX12_row_13 (by decide) ?_
    refine k_iloadn (pc := 14) C dX12_row_14 (i := 1) rfl 1 rfl ?_
    refine k_imul (pc := 15) C dX12_row_15 ?_
    refine k_iloadn (pc := 16) C dX12_row_16 (i := 2) rfl 2 rfl ?_
    refine k_iadd (pc := 17) C dX12_row_17 ?_
    obtain ⟨ha5, h⟩ := gp_e h
    refine k_iald (pc := 18) C ha5 dX12_row_18 ?_
    refine k_goto (pc := 19) C dX12_row_19 (tgt := 24) (by decide) ?_
    have h := Option.some.inj h
    subst h
    exact k_iret (pc := 24) C hr hk dX12_row_24
theorem c_X12_row {E : Ev} {l : Launch} {S : Sh} {R : Rw} {I : Iw} {a0 : Nat} {x1 : Int32} {x2 : Int32} {r : Int32} (h : f_X12_row S R I a0 x1 x2 = some r) : Mt E l yX12_row cX12_row 3 (some .int) 2 44 [.ref (E.1 + a0), .int x1, .int x2] S R I S R I (some (.int r)) 0 0 := mt_of (by decide) (Nat.le_of_ble_eq_true rfl) (fun p e s m args below meth c C hr hk hn => b_X12_row C hr hk _ _ _ h)
theorem dX12_alterRow_0 : decode cX12_alterRow 0 = .ok (.aload_n 0, 1) := by decide +kernel
theorem dX12_alterRow_1 : decode cX12_alterRow 1 = .ok (.iload_n 1, 1) := by decide +kernel
theorem dX12_alterRow_2 : decode cX12_alterRow 2 = .ok (.iload_n 2, 1) := by decide +kernel
theorem dX12_alterRow_3 : decode cX12_alterRow 3 = .ok (.invokevirtual 326, 3) := by decide +kernel
theorem dX12_alterRow_6 : decode cX12_alterRow 6 = .ok (.ifCond .ne 6, 3) := by decide +kernel
theorem dX12_alterRow_9 : decode cX12_alterRow 9 = .ok (.bipush (-9), 2) := by decide +kernel
theorem dX12_alterRow_11 : decode cX12_alterRow 11 = .ok (.ireturn, 1) := by decide +kernel
theorem dX12_alterRow_12 : decode cX12_alterRow 12 = .ok (.aload_n 0, 1) := by decide +kernel
theorem dX12_alterRow_13 : decode cX12_alterRow 13 = .ok (.getfield 74, 3) := by decide +kernel
theorem dX12_alterRow_16 : decode cX12_alterRow 16 = .ok (.iconst 3, 1) := by decide +kernel
theorem dX12_alterRow_17 : decode cX12_alterRow 17 = .ok (.iload_n 1, 1) := by decide +kernel
theorem dX12_alterRow_18 : decode cX12_alterRow 18 = .ok (.imul, 1) := by decide +kernel
theorem dX12_alterRow_19 : decode cX12_alterRow 19 = .ok (.iload_n 2, 1) := by decide +kernel
theorem dX12_alterRow_20 : decode cX12_alterRow 20 = .ok (.iadd, 1) := by decide +kernel
theorem dX12_alterRow_21 : decode cX12_alterRow 21 = .ok (.iaload, 1) := by decide +kernel
theorem dX12_alterRow_22 : decode cX12_alterRow 22 = .ok (.istore 4, 2) := by decide +kernel
theorem dX12_alterRow_24 : decode cX12_alterRow 24 = .ok (.aload_n 0, 1) := by decide +kernel
theorem dX12_alterRow_25 : decode cX12_alterRow 25 = .ok (.getfield 74, 3) := by decide +kernel
theorem dX12_alterRow_28 : decode cX12_alterRow 28 = .ok (.iconst 3, 1) := by decide +kernel
theorem dX12_alterRow_29 : decode cX12_alterRow 29 = .ok (.iload_n 1, 1) := by decide +kernel
theorem dX12_alterRow_30 : decode cX12_alterRow 30 = .ok (.imul, 1) := by decide +kernel
theorem dX12_alterRow_31 : decode cX12_alterRow 31 = .ok (.iload_n 2, 1) := by decide +kernel
theorem dX12_alterRow_32 : decode cX12_alterRow 32 = .ok (.iadd, 1) := by decide +kernel
theorem dX12_alterRow_33 : decode cX12_alterRow 33 = .ok (.iload_n 3, 1) := by decide +kernel
theorem dX12_alterRow_34 : decode cX12_alterRow 34 = .ok (.iastore, 1) := by decide +kernel
theorem dX12_alterRow_35 : decode cX12_alterRow 35 = .ok (.iload 4, 2) := by decide +kernel
theorem dX12_alterRow_37 : decode cX12_alterRow 37 = .ok (.ireturn, 1) := by decide +kernel
def f_X12_alterRow (S : Sh) (R : Rw)  (I : Iw) (a0 : Nat) (x1 : Int32) (x2 : Int32) (x3 : Int32) : Option (Iw × Int32) := gp (sok S a0 12 34) (bd (f_X12_isRow S R I a0 x1 x2) (fun r2 => (if r2 = 0 then some (I, (-9 : Int32)) else rl (R a0 22) (fun b4 => gp (aok S 20 b4 (((3 : Int32) * x1) + x2)) (rl (R a0 22) (fun b6 => gp (aok S 20 b6 (((3 : Int32) * x1) + x2)) (lt (up2 I b6 (((3 : Int32) * x1) + x2).toNatClampNeg x3) (fun I8 => some (I8, I b4 (((3 : Int32) * x1) + x2).toNatClampNeg)))))))))
set_option maxHeartbeats 4000000 in
theorem b_X12_alterRow {E : Ev} {p : Program} {l : Launch} {e : Env} {s : State} {m : MethodId} {args : Array Value} {below : List Frame} {meth : Method} {c : Code} (C : Cx E RX12 cX12_alterRow 5 p s m c) (hr : meth.sig.returnType = (some .int)) (hk : meth.locks = false) {S : Sh} {R : Rw} {r : Iw × Int32}  : ∀ (I : Iw) (a0 : Nat) (x1 : Int32) (x2 : Int32) (x3 : Int32), f_X12_alterRow S R   I a0 x1 x2 x3 = some r → Wk E 5 p l e ({ frames := 2, cells := 0, slots := 0, locals := 44 } : Room) s m args below meth c 0 0 (MQ below (Qw E S R r.1 (some (.int r.2))) args s 0 0 (fun q => E.1 ≤ q)) 0 [(0, .ref (E.1 + a0)), (1, .int x1), (2, .int x2), (3, .int x3)] [] S R I := by
  intro I a0 x1 x2 x3 h
  rw [f_X12_alterRow] at h
  refine k_aloadn (pc := 0) C dX12_alterRow_0 (i := 0) rfl 0 rfl ?_
  refine k_iloadn (pc := 1) C dX12_alterRow_1 (i := 1) rfl 1 rfl ?_
  refine k_iloadn (pc := 2) C dX12_alterRow_2 (i := 2) rfl 2 rfl ?_
  obtain ⟨hs10, h⟩ := gp_e h
  have hs1 := sok_e hs10
  obtain ⟨r2, hr2, h⟩ := bd_e h
  refine k_V (pc := 3) (st := []) C (c_X12_isRow hr2) lkV_RX12_326 hs1 rfl rfl rfl (Nat.le_of_ble_eq_true rfl) (Nat.le_of_ble_eq_true rfl) (Nat.le_of_ble_eq_true rfl) (Nat.le_of_ble_eq_true rfl) (Nat.le_of_ble_eq_true rfl) dX12_alterRow_3 ?_
  refine k_nf (cells2 := 0) (slots2 := 0) (st2 := [.int r2]) rfl rfl rfl ?_
  refine k_if_ne (pc := 6) C dX12_alterRow_6 (tgt := 12) (by decide) (fun hc3 => ?_) (fun hc3 => ?_)
  · rw [if_neg hc3] at h
    refine k_aloadn (pc := 12) C dX12_alterRow_12 (i := 0) rfl 0 rfl ?_
    obtain ⟨b4, hb4, h⟩ := rl_e h
    refine k_getR (pc := 13) C lkF_RX12_74_12 hs1 ir_12_22 hb4 dX12_alterRow_13 ?_
    refine k_iconst (pc := 16) C (v := (3 : Int32)) dX12_alterRow_16 (by decide) ?_
    refine k_iloadn (pc := 17) C dX12_alterRow_17 (i := 1) rfl 1 rfl ?_
    refine k_imul (pc := 18) C dX12_alterRow_18 ?_
    refine k_iloadn (pc := 19) C dX12_alterRow_19 (i := 2) rfl 2 rfl ?_
    refine k_iadd (pc := 20) C dX12_alterRow_20 ?_
    obtain ⟨ha5, h⟩ := gp_e h
    refine k_iald (pc := 21) C ha5 dX12_alterRow_21 ?_
    refine k_istore (pc := 22) C dX12_alterRow_22 (by decide) (L2 := [(0, .ref (E.1 + a0)), (1, .int x1), (2, .int x2), (3, .int x3), (4, .int (I b4 (((3 : Int32) * x1) + x2).toNatClampNeg))]) rfl ?_
    refine k_aloadn (pc := 24) C dX12_alterRow_24 (i := 0) rfl 0 rfl ?_
    obtain ⟨b6, hb6, h⟩ := rl_e h
    refine k_getR (pc := 25) C lkF_RX12_74_12 hs1 ir_12_22 hb6 dX12_alterRow_25 ?_
    refine k_iconst (pc := 28) C (v := (3 : Int32)) dX12_alterRow_28 (by decide) ?_
    refine k_iloadn (pc := 29) C dX12_alterRow_29 (i := 1) rfl 1 rfl ?_
    refine k_imul (pc := 30) C dX12_alterRow_30 ?_
    refine k_iloadn (pc := 31) C dX12_alterRow_31 (i := 2) rfl 2 rfl ?_
    refine k_iadd (pc := 32) C dX12_alterRow_32 ?_
    refine k_iloadn (pc := 33) C dX12_alterRow_33 (i := 3) rfl 3 rfl ?_
    obtain ⟨ha7, h⟩ := gp_e h
    obtain ⟨I8, eI8, h⟩ := lt_e h
    refine k_iast (pc := 34) C ha7 dX12_alterRow_34 ?_
    rw [← eI8]
    refine k_iload (pc := 35) C dX12_alterRow_35 4 rfl ?_
    have h := Option.some.inj h
    subst h
    exact k_iret (pc := 37) C hr hk dX12_alterRow_37
  · rw [if_pos hc3] at h
    refine k_bipush (pc := 9) C (v := (-9 : Int32)) dX12_alterRow_9 (by decide) ?_
    have h := Option.some.inj h
    subst h
    exact k_iret (pc := 11) C hr hk dX12_alterRow_11
theorem c_X12_alterRow {E : Ev} {l : Launch} {S : Sh} {R : Rw} {I : Iw} {a0 : Nat} {x1 : Int32} {x2 : Int32} {x3 : Int32} {r : Iw × Int32} (h : f_X12_alterRow S R I a0 x1 x2 x3 = some r) : Mt E l yX12_alterRow cX12_alterRow 5 (some .int) 2 44 [.ref (E.1 + a0), .int x1, .int x2, .int x3] S R I S R r.1 (some (.int r.2)) 0 0 := mt_of (by decide) (Nat.le_of_ble_eq_true rfl) (fun p e s m args below meth c C hr hk hn => b_X12_alterRow C hr hk _ _ _ _ _ h)
theorem dX12_judge_0 : decode cX12_judge 0 = .ok (.aload_n 0, 1) := by decide +kernel
theorem dX12_judge_1 : decode cX12_judge 1 = .ok (.getfield 9, 3) := by decide +kernel
theorem dX12_judge_4 : decode cX12_judge 4 = .ok (.aload_n 0, 1) := by decide +kernel
theorem dX12_judge_5 : decode cX12_judge 5 = .ok (.getfield 16, 3) := by decide +kernel
theorem dX12_judge_8 : decode cX12_judge 8 = .ok (.invokestatic 102, 3) := by decide +kernel
theorem dX12_judge_11 : decode cX12_judge 11 = .ok (.iconst 0, 1) := by decide +kernel
theorem dX12_judge_12 : decode cX12_judge 12 = .ok (.istore_n 1, 1) := by decide +kernel
theorem dX12_judge_13 : decode cX12_judge 13 = .ok (.iconst 0, 1) := by decide +kernel
theorem dX12_judge_14 : decode cX12_judge 14 = .ok (.istore_n 2, 1) := by decide +kernel
theorem dX12_judge_15 : decode cX12_judge 15 = .ok (.iload_n 2, 1) := by decide +kernel
theorem dX12_judge_16 : decode cX12_judge 16 = .ok (.aload_n 0, 1) := by decide +kernel
theorem dX12_judge_17 : decode cX12_judge 17 = .ok (.getfield 323, 3) := by decide +kernel
theorem dX12_judge_20 : decode cX12_judge 20 = .ok (.if_icmp .ge 130, 3) := by decide +kernel
theorem dX12_judge_23 : decode cX12_judge 23 = .ok (.iload_n 1, 1) := by decide +kernel
theorem dX12_judge_24 : decode cX12_judge 24 = .ok (.ifCond .ne 126, 3) := by decide +kernel
theorem dX12_judge_27 : decode cX12_judge 27 = .ok (.aload_n 0, 1) := by decide +kernel
theorem dX12_judge_28 : decode cX12_judge 28 = .ok (.getfield 74, 3) := by decide +kernel
theorem dX12_judge_31 : decode cX12_judge 31 = .ok (.iconst 3, 1) := by decide +kernel
theorem dX12_judge_32 : decode cX12_judge 32 = .ok (.iload_n 2, 1) := by decide +kernel
theorem dX12_judge_33 : decode cX12_judge 33 = .ok (.imul, 1) := by decide +kernel
theorem dX12_judge_34 : decode cX12_judge 34 = .ok (.iaload, 1) := by decide +kernel
theorem dX12_judge_35 : decode cX12_judge 35 = .ok (.istore_n 3, 1) := by decide +kernel
theorem dX12_judge_36 : decode cX12_judge 36 = .ok (.aload_n 0, 1) := by decide +kernel
theorem dX12_judge_37 : decode cX12_judge 37 = .ok (.iload_n 3, 1) := by decide +kernel
theorem dX12_judge_38 : decode cX12_judge 38 = .ok (.iconst 3, 1) := by decide +kernel
theorem dX12_judge_39 : decode cX12_judge 39 = .ok (.invokevirtual 251, 3) := by decide +kernel
theorem dX12_judge_42 : decode cX12_judge 42 = .ok (.ifCond .eq 52, 3) := by decide +kernel
theorem dX12_judge_45 : decode cX12_judge 45 = .ok (.aload_n 0, 1) := by decide +kernel
theorem dX12_judge_46 : decode cX12_judge 46 = .ok (.iload_n 3, 1) := by decide +kernel
theorem dX12_judge_47 : decode cX12_judge 47 = .ok (.invokevirtual 257, 3) := by decide +kernel
theorem dX12_judge_50 : decode cX12_judge 50 = .ok (.ifCond .eq 44, 3) := by decide +kernel
theorem dX12_judge_53 : decode cX12_judge 53 = .ok (.aload_n 0, 1) := by decide +kernel
theorem dX12_judge_54 : decode cX12_judge 54 = .ok (.getfield 74, 3) := by decide +kernel
theorem dX12_judge_57 : decode cX12_judge 57 = .ok (.iconst 3, 1) := by decide +kernel
theorem dX12_judge_58 : decode cX12_judge 58 = .ok (.iload_n 2, 1) := by decide +kernel
theorem dX12_judge_59 : decode cX12_judge 59 = .ok (.imul, 1) := by decide +kernel
theorem dX12_judge_60 : decode cX12_judge 60 = .ok (.iconst 2, 1) := by decide +kernel
theorem dX12_judge_61 : decode cX12_judge 61 = .ok (.iadd, 1) := by decide +kernel
theorem dX12_judge_62 : decode cX12_judge 62 = .ok (.iaload, 1) := by decide +kernel
theorem dX12_judge_63 : decode cX12_judge 63 = .ok (.aload_n 0, 1) := by decide +kernel
theorem dX12_judge_64 : decode cX12_judge 64 = .ok (.iload_n 3, 1) := by decide +kernel
theorem dX12_judge_65 : decode cX12_judge 65 = .ok (.invokevirtual 254, 3) := by decide +kernel
theorem dX12_judge_68 : decode cX12_judge 68 = .ok (.if_icmp .ne 26, 3) := by decide +kernel
theorem dX12_judge_71 : decode cX12_judge 71 = .ok (.aload_n 0, 1) := by decide +kernel
theorem dX12_judge_72 : decode cX12_judge 72 = .ok (.getfield 74, 3) := by decide +kernel
theorem dX12_judge_75 : decode cX12_judge 75 = .ok (.iconst 3, 1) := by decide +kernel
theorem dX12_judge_76 : decode cX12_judge 76 = .ok (.iload_n 2, 1) := by decide +kernel
theorem dX12_judge_77 : decode cX12_judge 77 = .ok (.imul, 1) := by decide +kernel
theorem dX12_judge_78 : decode cX12_judge 78 = .ok (.iconst 1, 1) := by decide +kernel
theorem dX12_judge_79 : decode cX12_judge 79 = .ok (.iadd, 1) := by decide +kernel
theorem dX12_judge_80 : decode cX12_judge 80 = .ok (.iaload, 1) := by decide +kernel
theorem dX12_judge_81 : decode cX12_judge 81 = .ok (.aload_n 0, 1) := by decide +kernel
theorem dX12_judge_82 : decode cX12_judge 82 = .ok (.invokevirtual 272, 3) := by decide +kernel
theorem dX12_judge_85 : decode cX12_judge 85 = .ok (.iconst 1, 1) := by decide +kernel
theorem dX12_judge_86 : decode cX12_judge 86 = .ok (.isub, 1) := by decide +kernel
theorem dX12_judge_87 : decode cX12_judge 87 = .ok (.if_icmp .ne 7, 3) := by decide +kernel
theorem dX12_judge_90 : decode cX12_judge 90 = .ok (.iconst 1, 1) := by decide +kernel
theorem dX12_judge_91 : decode cX12_judge 91 = .ok (.goto 4, 3) := by decide +kernel
theorem dX12_judge_94 : decode cX12_judge 94 = .ok (.iconst 0, 1) := by decide +kernel
theorem dX12_judge_95 : decode cX12_judge 95 = .ok (.istore 4, 2) := by decide +kernel
theorem dX12_judge_97 : decode cX12_judge 97 = .ok (.iload 4, 2) := by decide +kernel
theorem dX12_judge_99 : decode cX12_judge 99 = .ok (.ifCond .eq 32, 3) := by decide +kernel
theorem dX12_judge_102 : decode cX12_judge 102 = .ok (.aload_n 0, 1) := by decide +kernel
theorem dX12_judge_103 : decode cX12_judge 103 = .ok (.iload_n 3, 1) := by decide +kernel
theorem dX12_judge_104 : decode cX12_judge 104 = .ok (.invokevirtual 263, 3) := by decide +kernel
theorem dX12_judge_107 : decode cX12_judge 107 = .ok (.iload_n 2, 1) := by decide +kernel
theorem dX12_judge_108 : decode cX12_judge 108 = .ok (.aload_n 0, 1) := by decide +kernel
theorem dX12_judge_109 : decode cX12_judge 109 = .ok (.getfield 323, 3) := by decide +kernel
theorem dX12_judge_112 : decode cX12_judge 112 = .ok (.iconst 1, 1) := by decide +kernel
theorem dX12_judge_113 : decode cX12_judge 113 = .ok (.isub, 1) := by decide +kernel
theorem dX12_judge_114 : decode cX12_judge 114 = .ok (.if_icmp .lt 10, 3) := by decide +kernel
theorem dX12_judge_117 : decode cX12_judge 117 = .ok (.aload_n 0, 1) := by decide +kernel
theorem dX12_judge_118 : decode cX12_judge 118 = .ok (.invokevirtual 313, 3) := by decide +kernel
theorem dX12_judge_121 : decode cX12_judge 121 = .ok (.ifCond .ne 7, 3) := by decide +kernel
theorem dX12_judge_124 : decode cX12_judge 124 = .ok (.iconst 1, 1) := by decide +kernel
theorem dX12_judge_125 : decode cX12_judge 125 = .ok (.goto 4, 3) := by decide +kernel
theorem dX12_judge_128 : decode cX12_judge 128 = .ok (.iconst 0, 1) := by decide +kernel
theorem dX12_judge_129 : decode cX12_judge 129 = .ok (.istore 4, 2) := by decide +kernel
theorem dX12_judge_131 : decode cX12_judge 131 = .ok (.iload 4, 2) := by decide +kernel
theorem dX12_judge_133 : decode cX12_judge 133 = .ok (.ifCond .eq 7, 3) := by decide +kernel
theorem dX12_judge_136 : decode cX12_judge 136 = .ok (.iconst 0, 1) := by decide +kernel
theorem dX12_judge_137 : decode cX12_judge 137 = .ok (.goto 6, 3) := by decide +kernel
theorem dX12_judge_140 : decode cX12_judge 140 = .ok (.iload_n 2, 1) := by decide +kernel
theorem dX12_judge_141 : decode cX12_judge 141 = .ok (.iconst 1, 1) := by decide +kernel
theorem dX12_judge_142 : decode cX12_judge 142 = .ok (.iadd, 1) := by decide +kernel
theorem dX12_judge_143 : decode cX12_judge 143 = .ok (.istore_n 1, 1) := by decide +kernel
theorem dX12_judge_144 : decode cX12_judge 144 = .ok (.iinc 2 1, 3) := by decide +kernel
theorem dX12_judge_147 : decode cX12_judge 147 = .ok (.goto (-132), 3) := by decide +kernel
theorem dX12_judge_150 : decode cX12_judge 150 = .ok (.aload_n 0, 1) := by decide +kernel
theorem dX12_judge_151 : decode cX12_judge 151 = .ok (.iload_n 1, 1) := by decide +kernel
theorem dX12_judge_152 : decode cX12_judge 152 = .ok (.invokevirtual 320, 3) := by decide +kernel
theorem dX12_judge_155 : decode cX12_judge 155 = .ok (.ireturn, 1) := by decide +kernel
def f_X12_judge_150 (S : Sh) (R : Rw)  (I : Iw) (a0 : Nat) (x1 : Int32) : Option (Iw × Int32) := gp (sok S a0 12 34) (bd (f_X12_back S R I a0 x1) (fun r8 => some (r8.1, r8.2)))
set_option maxHeartbeats 4000000 in
theorem b_X12_judge_150 {E : Ev} {p : Program} {l : Launch} {e : Env} {s : State} {m : MethodId} {args : Array Value} {below : List Frame} {meth : Method} {c : Code} (C : Cx E RX12 cX12_judge 5 p s m c) (hr : meth.sig.returnType = (some .int)) (hk : meth.locks = false) {S : Sh} {R : Rw} {r : Iw × Int32}  : ∀ (I : Iw) (a0 : Nat) (x1 : Int32), f_X12_judge_150 S R   I a0 x1 = some r → Wk E 5 p l e ({ frames := 6, cells := 0, slots := 0, locals := 138 } : Room) s m args below meth c 0 0 (MQ below (Qw E S R r.1 (some (.int r.2))) args s 0 0 (fun q => E.1 ≤ q)) 150 [(0, .ref (E.1 + a0)), (1, .int x1)] [] S R I := by
  intro I a0 x1 h
  rw [f_X12_judge_150] at h
  refine k_aloadn (pc := 150) C dX12_judge_150 (i := 0) rfl 0 rfl ?_
  refine k_iloadn (pc := 151) C dX12_judge_151 (i := 1) rfl 1 rfl ?_
  obtain ⟨hs70, h⟩ := gp_e h
  have hs7 := sok_e hs70
  obtain ⟨r8, hr8, h⟩ := bd_e h
  refine k_V (pc := 152) (st := []) C (c_X12_back hr8) lkV_RX12_320 hs7 rfl rfl rfl (Nat.le_of_ble_eq_true rfl) (Nat.le_of_ble_eq_true rfl) (Nat.le_of_ble_eq_true rfl) (Nat.le_of_ble_eq_true rfl) (Nat.le_of_ble_eq_true rfl) dX12_judge_152 ?_
  refine k_nf (cells2 := 0) (slots2 := 0) (st2 := [.int r8.2]) rfl rfl rfl ?_
  have h := Option.some.inj h
  subst h
  exact k_iret (pc := 155) C hr hk dX12_judge_155
def f_X12_judge_143 (S : Sh) (R : Rw) (ko15 : Iw → Nat → Int32 → Int32 → Option (Iw × Int32)) (I : Iw) (a0 : Nat) (x2 : Int32) (s0 : Int32) : Option (Iw × Int32) := ko15 I a0 s0 (x2 + (1 : Int32))
set_option maxHeartbeats 4000000 in
theorem b_X12_judge_143 {E : Ev} {p : Program} {l : Launch} {e : Env} {s : State} {m : MethodId} {args : Array Value} {below : List Frame} {meth : Method} {c : Code} (C : Cx E RX12 cX12_judge 5 p s m c) (hr : meth.sig.returnType = (some .int)) (hk : meth.locks = false) {S : Sh} {R : Rw} {r : Iw × Int32}  {ko15 : Iw → Nat → Int32 → Int32 → Option (Iw × Int32)} (hko15 : ∀ (I : Iw) (a0 : Nat) (x1 : Int32) (x2 : Int32), ko15 I a0 x1 x2 = some r → Wk E 5 p l e ({ frames := 6, cells := 0, slots := 0, locals := 138 } : Room) s m args below meth c 0 0 (MQ below (Qw E S R r.1 (some (.int r.2))) args s 0 0 (fun q => E.1 ≤ q)) 15 [(0, .ref (E.1 + a0)), (1, .int x1), (2, .int x2)] [] S R I) : ∀ (I : Iw) (a0 : Nat) (x2 : Int32) (s0 : Int32), f_X12_judge_143 S R ko15  I a0 x2 s0 = some r → Wk E 5 p l e ({ frames := 6, cells := 0, slots := 0, locals := 138 } : Room) s m args below meth c 0 0 (MQ below (Qw E S R r.1 (some (.int r.2))) args s 0 0 (fun q => E.1 ≤ q)) 143 [(0, .ref (E.1 + a0)), (2, .int x2)] [.int s0] S R I := by
  intro I a0 x2 s0 h
  rw [f_X12_judge_143] at h
  refine k_istoren (pc := 143) C dX12_judge_143 (i := 1) rfl (by decide) (L2 := [(0, .ref (E.1 + a0)), (1, .int s0), (2, .int x2)]) rfl ?_
  refine k_iinc (pc := 144) C dX12_judge_144 2 rfl (v := x2 + (1 : Int32)) (by rfl) (by decide) (L2 := [(0, .ref (E.1 + a0)), (1, .int s0), (2, .int (x2 + (1 : Int32)))]) rfl ?_
  refine k_goto (pc := 147) C dX12_judge_147 (tgt := 15) (by decide) ?_
  exact hko15 _ _ _ _ h
def f_X12_judge_131 (S : Sh) (R : Rw) (ko15 : Iw → Nat → Int32 → Int32 → Option (Iw × Int32)) (I : Iw) (a0 : Nat) (x2 : Int32) (x4 : Int32) : Option (Iw × Int32) := (if x4 = 0 then f_X12_judge_143 S R ko15 I a0 x2 (x2 + (1 : Int32)) else f_X12_judge_143 S R ko15 I a0 x2 (0 : Int32))
set_option maxHeartbeats 4000000 in
theorem b_X12_judge_131 {E : Ev} {p : Program} {l : Launch} {e : Env} {s : State} {m : MethodId} {args : Array Value} {below : List Frame} {meth : Method} {c : Code} (C : Cx E RX12 cX12_judge 5 p s m c) (hr : meth.sig.returnType = (some .int)) (hk : meth.locks = false) {S : Sh} {R : Rw} {r : Iw × Int32}  {ko15 : Iw → Nat → Int32 → Int32 → Option (Iw × Int32)} (hko15 : ∀ (I : Iw) (a0 : Nat) (x1 : Int32) (x2 : Int32), ko15 I a0 x1 x2 = some r → Wk E 5 p l e ({ frames := 6, cells := 0, slots := 0, locals := 138 } : Room) s m args below meth c 0 0 (MQ below (Qw E S R r.1 (some (.int r.2))) args s 0 0 (fun q => E.1 ≤ q)) 15 [(0, .ref (E.1 + a0)), (1, .int x1), (2, .int x2)] [] S R I) : ∀ (I : Iw) (a0 : Nat) (x2 : Int32) (x4 : Int32), f_X12_judge_131 S R ko15  I a0 x2 x4 = some r → Wk E 5 p l e ({ frames := 6, cells := 0, slots := 0, locals := 138 } : Room) s m args below meth c 0 0 (MQ below (Qw E S R r.1 (some (.int r.2))) args s 0 0 (fun q => E.1 ≤ q)) 131 [(0, .ref (E.1 + a0)), (2, .int x2), (4, .int x4)] [] S R I := by
  intro I a0 x2 x4 h
  rw [f_X12_judge_131] at h
  refine k_iload (pc := 131) C dX12_judge_131 2 rfl ?_
  refine k_if_eq (pc := 133) C dX12_judge_133 (tgt := 140) (by decide) (fun hc15 => ?_) (fun hc15 => ?_)
  · rw [if_pos hc15] at h
    refine k_iloadn (pc := 140) C dX12_judge_140 (i := 2) rfl 1 rfl ?_
    refine k_iconst (pc := 141) C (v := (1 : Int32)) dX12_judge_141 (by decide) ?_
    refine k_iadd (pc := 142) C dX12_judge_142 ?_
    refine k_loc (L2 := [(0, .ref (E.1 + a0)), (2, .int x2)]) [0, 1] rfl ?_
    exact b_X12_judge_143 C hr hk hko15 _ _ _ _ h
  · rw [if_neg hc15] at h
    refine k_iconst (pc := 136) C (v := (0 : Int32)) dX12_judge_136 (by decide) ?_
    refine k_goto (pc := 137) C dX12_judge_137 (tgt := 143) (by decide) ?_
    refine k_loc (L2 := [(0, .ref (E.1 + a0)), (2, .int x2)]) [0, 1] rfl ?_
    exact b_X12_judge_143 C hr hk hko15 _ _ _ _ h
def f_X12_judge_129 (S : Sh) (R : Rw) (ko15 : Iw → Nat → Int32 → Int32 → Option (Iw × Int32)) (I : Iw) (a0 : Nat) (x2 : Int32) (s0 : Int32) : Option (Iw × Int32) := f_X12_judge_131 S R ko15 I a0 x2 s0
set_option maxHeartbeats 4000000 in
theorem b_X12_judge_129 {E : Ev} {p : Program} {l : Launch} {e : Env} {s : State} {m : MethodId} {args : Array Value} {below : List Frame} {meth : Method} {c : Code} (C : Cx E RX12 cX12_judge 5 p s m c) (hr : meth.sig.returnType = (some .int)) (hk : meth.locks = false) {S : Sh} {R : Rw} {r : Iw × Int32}  {ko15 : Iw → Nat → Int32 → Int32 → Option (Iw × Int32)} (hko15 : ∀ (I : Iw) (a0 : Nat) (x1 : Int32) (x2 : Int32), ko15 I a0 x1 x2 = some r → Wk E 5 p l e ({ frames := 6, cells := 0, slots := 0, locals := 138 } : Room) s m args below meth c 0 0 (MQ below (Qw E S R r.1 (some (.int r.2))) args s 0 0 (fun q => E.1 ≤ q)) 15 [(0, .ref (E.1 + a0)), (1, .int x1), (2, .int x2)] [] S R I) : ∀ (I : Iw) (a0 : Nat) (x2 : Int32) (s0 : Int32), f_X12_judge_129 S R ko15  I a0 x2 s0 = some r → Wk E 5 p l e ({ frames := 6, cells := 0, slots := 0, locals := 138 } : Room) s m args below meth c 0 0 (MQ below (Qw E S R r.1 (some (.int r.2))) args s 0 0 (fun q => E.1 ≤ q)) 129 [(0, .ref (E.1 + a0)), (2, .int x2)] [.int s0] S R I := by
  intro I a0 x2 s0 h
  rw [f_X12_judge_129] at h
  refine k_istore (pc := 129) C dX12_judge_129 (by decide) (L2 := [(0, .ref (E.1 + a0)), (2, .int x2), (4, .int s0)]) rfl ?_
  exact b_X12_judge_131 C hr hk hko15 _ _ _ _ h
def f_X12_judge_124 (S : Sh) (R : Rw) (ko15 : Iw → Nat → Int32 → Int32 → Option (Iw × Int32)) (I : Iw) (a0 : Nat) (x2 : Int32) : Option (Iw × Int32) := f_X12_judge_129 S R ko15 I a0 x2 (1 : Int32)
set_option maxHeartbeats 4000000 in
theorem b_X12_judge_124 {E : Ev} {p : Program} {l : Launch} {e : Env} {s : State} {m : MethodId} {args : Array Value} {below : List Frame} {meth : Method} {c : Code} (C : Cx E RX12 cX12_judge 5 p s m c) (hr : meth.sig.returnType = (some .int)) (hk : meth.locks = false) {S : Sh} {R : Rw} {r : Iw × Int32}  {ko15 : Iw → Nat → Int32 → Int32 → Option (Iw × Int32)} (hko15 : ∀ (I : Iw) (a0 : Nat) (x1 : Int32) (x2 : Int32), ko15 I a0 x1 x2 = some r → Wk E 5 p l e ({ frames := 6, cells := 0, slots := 0, locals := 138 } : Room) s m args below meth c 0 0 (MQ below (Qw E S R r.1 (some (.int r.2))) args s 0 0 (fun q => E.1 ≤ q)) 15 [(0, .ref (E.1 + a0)), (1, .int x1), (2, .int x2)] [] S R I) : ∀ (I : Iw) (a0 : Nat) (x2 : Int32), f_X12_judge_124 S R ko15  I a0 x2 = some r → Wk E 5 p l e ({ frames := 6, cells := 0, slots := 0, locals := 138 } : Room) s m args below meth c 0 0 (MQ below (Qw E S R r.1 (some (.int r.2))) args s 0 0 (fun q => E.1 ≤ q)) 124 [(0, .ref (E.1 + a0)), (2, .int x2)] [] S R I := by
  intro I a0 x2 h
  rw [f_X12_judge_124] at h
  refine k_iconst (pc := 124) C (v := (1 : Int32)) dX12_judge_124 (by decide) ?_
  refine k_goto (pc := 125) C dX12_judge_125 (tgt := 129) (by decide) ?_
  exact b_X12_judge_129 C hr hk hko15 _ _ _ _ h
def f_X12_judge_95 (S : Sh) (R : Rw) (ko15 : Iw → Nat → Int32 → Int32 → Option (Iw × Int32)) (I : Iw) (a0 : Nat) (x2 : Int32) (x3 : Int32) (s0 : Int32) : Option (Iw × Int32) := (if s0 = 0 then f_X12_judge_131 S R ko15 I a0 x2 s0 else gp (sok S a0 12 34) (bd (f_X12_out S R I a0 x3) (fun r17 => (if x2 < ((r17 a0 23) - (1 : Int32)) then f_X12_judge_124 S R ko15 r17 a0 x2 else bd (f_X12_may S R r17 a0) (fun r19 => (if r19 = 0 then f_X12_judge_124 S R ko15 r17 a0 x2 else f_X12_judge_129 S R ko15 r17 a0 x2 (0 : Int32)))))))
set_option maxHeartbeats 4000000 in
theorem b_X12_judge_95 {E : Ev} {p : Program} {l : Launch} {e : Env} {s : State} {m : MethodId} {args : Array Value} {below : List Frame} {meth : Method} {c : Code} (C : Cx E RX12 cX12_judge 5 p s m c) (hr : meth.sig.returnType = (some .int)) (hk : meth.locks = false) {S : Sh} {R : Rw} {r : Iw × Int32}  {ko15 : Iw → Nat → Int32 → Int32 → Option (Iw × Int32)} (hko15 : ∀ (I : Iw) (a0 : Nat) (x1 : Int32) (x2 : Int32), ko15 I a0 x1 x2 = some r → Wk E 5 p l e ({ frames := 6, cells := 0, slots := 0, locals := 138 } : Room) s m args below meth c 0 0 (MQ below (Qw E S R r.1 (some (.int r.2))) args s 0 0 (fun q => E.1 ≤ q)) 15 [(0, .ref (E.1 + a0)), (1, .int x1), (2, .int x2)] [] S R I) : ∀ (I : Iw) (a0 : Nat) (x2 : Int32) (x3 : Int32) (s0 : Int32), f_X12_judge_95 S R ko15  I a0 x2 x3 s0 = some r → Wk E 5 p l e ({ frames := 6, cells := 0, slots := 0, locals := 138 } : Room) s m args below meth c 0 0 (MQ below (Qw E S R r.1 (some (.int r.2))) args s 0 0 (fun q => E.1 ≤ q)) 95 [(0, .ref (E.1 + a0)), (2, .int x2), (3, .int x3)] [.int s0] S R I := by
  intro I a0 x2 x3 s0 h
  rw [f_X12_judge_95] at h
  refine k_istore (pc := 95) C dX12_judge_95 (by decide) (L2 := [(0, .ref (E.1 + a0)), (2, .int x2), (3, .int x3), (4, .int s0)]) rfl ?_
  refine k_iload (pc := 97) C dX12_judge_97 3 rfl ?_
  refine k_if_eq (pc := 99) C dX12_judge_99 (tgt := 131) (by decide) (fun hc14 => ?_) (fun hc14 => ?_)
  · rw [if_pos hc14] at h
    refine k_loc (L2 := [(0, .ref (E.1 + a0)), (2, .int x2), (4, .int s0)]) [0, 1, 3] rfl ?_
    exact b_X12_judge_131 C hr hk hko15 _ _ _ _ h
  · rw [if_neg hc14] at h
    refine k_aloadn (pc := 102) C dX12_judge_102 (i := 0) rfl 0 rfl ?_
    refine k_iloadn (pc := 103) C dX12_judge_103 (i := 3) rfl 2 rfl ?_
    obtain ⟨hs160, h⟩ := gp_e h
    have hs16 := sok_e hs160
    obtain ⟨r17, hr17, h⟩ := bd_e h
    refine k_V (pc := 104) (st := []) C (c_X12_out hr17) lkV_RX12_263 hs16 rfl rfl rfl (Nat.le_of_ble_eq_true rfl) (Nat.le_of_ble_eq_true rfl) (Nat.le_of_ble_eq_true rfl) (Nat.le_of_ble_eq_true rfl) (Nat.le_of_ble_eq_true rfl) dX12_judge_104 ?_
    refine k_nf (cells2 := 0) (slots2 := 0) (st2 := []) rfl rfl rfl ?_
    refine k_iloadn (pc := 107) C dX12_judge_107 (i := 2) rfl 1 rfl ?_
    refine k_aloadn (pc := 108) C dX12_judge_108 (i := 0) rfl 0 rfl ?_
    refine k_getI (pc := 109) C lkF_RX12_323_12 hs16 ir_12_23 dX12_judge_109 ?_
    refine k_iconst (pc := 112) C (v := (1 : Int32)) dX12_judge_112 (by decide) ?_
    refine k_isub (pc := 113) C dX12_judge_113 ?_
    refine k_icmp_lt (pc := 114) C dX12_judge_114 (tgt := 124) (by decide) (fun hc18 => ?_) (fun hc18 => ?_)
    · rw [if_pos hc18] at h
      refine k_loc (L2 := [(0, .ref (E.1 + a0)), (2, .int x2)]) [0, 1] rfl ?_
      exact b_X12_judge_124 C hr hk hko15 _ _ _ h
    · rw [if_neg hc18] at h
      refine k_aloadn (pc := 117) C dX12_judge_117 (i := 0) rfl 0 rfl ?_
      obtain ⟨r19, hr19, h⟩ := bd_e h
      refine k_V (pc := 118) (st := []) C (c_X12_may hr19) lkV_RX12_313 hs16 rfl rfl rfl (Nat.le_of_ble_eq_true rfl) (Nat.le_of_ble_eq_true rfl) (Nat.le_of_ble_eq_true rfl) (Nat.le_of_ble_eq_true rfl) (Nat.le_of_ble_eq_true rfl) dX12_judge_118 ?_
      refine k_nf (cells2 := 0) (slots2 := 0) (st2 := [.int r19]) rfl rfl rfl ?_
      refine k_if_ne (pc := 121) C dX12_judge_121 (tgt := 128) (by decide) (fun hc20 => ?_) (fun hc20 => ?_)
      · rw [if_neg hc20] at h
        refine k_iconst (pc := 128) C (v := (0 : Int32)) dX12_judge_128 (by decide) ?_
        refine k_loc (L2 := [(0, .ref (E.1 + a0)), (2, .int x2)]) [0, 1] rfl ?_
        exact b_X12_judge_129 C hr hk hko15 _ _ _ _ h
      · rw [if_pos hc20] at h
        refine k_loc (L2 := [(0, .ref (E.1 + a0)), (2, .int x2)]) [0, 1] rfl ?_
        exact b_X12_judge_124 C hr hk hko15 _ _ _ h
def f_X12_judge_94 (S : Sh) (R : Rw) (ko15 : Iw → Nat → Int32 → Int32 → Option (Iw × Int32)) (I : Iw) (a0 : Nat) (x2 : Int32) (x3 : Int32) : Option (Iw × Int32) := f_X12_judge_95 S R ko15 I a0 x2 x3 (0 : Int32)
set_option maxHeartbeats 4000000 in
theorem b_X12_judge_94 {E : Ev} {p : Program} {l : Launch} {e : Env} {s : State} {m : MethodId} {args : Array Value} {below : List Frame} {meth : Method} {c : Code} (C : Cx E RX12 cX12_judge 5 p s m c) (hr : meth.sig.returnType = (some .int)) (hk : meth.locks = false) {S : Sh} {R : Rw} {r : Iw × Int32}  {ko15 : Iw → Nat → Int32 → Int32 → Option (Iw × Int32)} (hko15 : ∀ (I : Iw) (a0 : Nat) (x1 : Int32) (x2 : Int32), ko15 I a0 x1 x2 = some r → Wk E 5 p l e ({ frames := 6, cells := 0, slots := 0, locals := 138 } : Room) s m args below meth c 0 0 (MQ below (Qw E S R r.1 (some (.int r.2))) args s 0 0 (fun q => E.1 ≤ q)) 15 [(0, .ref (E.1 + a0)), (1, .int x1), (2, .int x2)] [] S R I) : ∀ (I : Iw) (a0 : Nat) (x2 : Int32) (x3 : Int32), f_X12_judge_94 S R ko15  I a0 x2 x3 = some r → Wk E 5 p l e ({ frames := 6, cells := 0, slots := 0, locals := 138 } : Room) s m args below meth c 0 0 (MQ below (Qw E S R r.1 (some (.int r.2))) args s 0 0 (fun q => E.1 ≤ q)) 94 [(0, .ref (E.1 + a0)), (2, .int x2), (3, .int x3)] [] S R I := by
  intro I a0 x2 x3 h
  rw [f_X12_judge_94] at h
  refine k_iconst (pc := 94) C (v := (0 : Int32)) dX12_judge_94 (by decide) ?_
  exact b_X12_judge_95 C hr hk hko15 _ _ _ _ _ h
def f_X12_judge_15 (S : Sh) (R : Rw)  : Nat → Iw → Nat → Int32 → Int32 → Option (Iw × Int32)
  | 0, _, _, _, _ => none
  | n + 1, I, a0, x1, x2 => gp (sok S a0 12 34) ((if (I a0 23) ≤ x2 then f_X12_judge_150 S R  I a0 x1 else (if x1 = 0 then rl (R a0 22) (fun b10 => gp (aok S 20 b10 ((3 : Int32) * x2)) (bd (f_X12_is S R I a0 (I b10 ((3 : Int32) * x2).toNatClampNeg) (3 : Int32)) (fun r12 => (if r12 = 0 then f_X12_judge_94 S R (f_X12_judge_15 S R  n) I a0 x2 (I b10 ((3 : Int32) * x2).toNatClampNeg) else bd (f_X12_mayGo S R I a0 (I b10 ((3 : Int32) * x2).toNatClampNeg)) (fun r21 => (if r21 = 0 then f_X12_judge_94 S R (f_X12_judge_15 S R  n) I a0 x2 (I b10 ((3 : Int32) * x2).toNatClampNeg) else rl (R a0 22) (fun b23 => gp (aok S 20 b23 (((3 : Int32) * x2) + (2 : Int32))) (bd (f_X12_fee S R I a0 (I b10 ((3 : Int32) * x2).toNatClampNeg)) (fun r25 => (if (I b23 (((3 : Int32) * x2) + (2 : Int32)).toNatClampNeg) = r25.2 then rl (R a0 22) (fun b27 => gp (aok S 20 b27 (((3 : Int32) * x2) + (1 : Int32))) (bd (f_X12_inMany S R r25.1 a0) (fun r29 => (if (r25.1 b27 (((3 : Int32) * x2) + (1 : Int32)).toNatClampNeg) = (r29 - (1 : Int32)) then f_X12_judge_95 S R (f_X12_judge_15 S R  n) r25.1 a0 x2 (I b10 ((3 : Int32) * x2).toNatClampNeg) (1 : Int32) else f_X12_judge_94 S R (f_X12_judge_15 S R  n) r25.1 a0 x2 (I b10 ((3 : Int32) * x2).toNatClampNeg))))) else f_X12_judge_94 S R (f_X12_judge_15 S R  n) r25.1 a0 x2 (I b10 ((3 : Int32) * x2).toNatClampNeg))))))))))) else f_X12_judge_150 S R  I a0 x1)))
set_option maxHeartbeats 4000000 in
theorem b_X12_judge_15 {E : Ev} {p : Program} {l : Launch} {e : Env} {s : State} {m : MethodId} {args : Array Value} {below : List Frame} {meth : Method} {c : Code} (C : Cx E RX12 cX12_judge 5 p s m c) (hr : meth.sig.returnType = (some .int)) (hk : meth.locks = false) {S : Sh} {R : Rw} {r : Iw × Int32}  : ∀ (n : Nat) (I : Iw) (a0 : Nat) (x1 : Int32) (x2 : Int32), f_X12_judge_15 S R  n I a0 x1 x2 = some r → Wk E 5 p l e ({ frames := 6, cells := 0, slots := 0, locals := 138 } : Room) s m args below meth c 0 0 (MQ below (Qw E S R r.1 (some (.int r.2))) args s 0 0 (fun q => E.1 ≤ q)) 15 [(0, .ref (E.1 + a0)), (1, .int x1), (2, .int x2)] [] S R I := by
  intro n
  induction n with
  | zero =>
    intro I a0 x1 x2 h
    rw [f_X12_judge_15] at h
    cases h
  | succ n ih =>
    intro I a0 x1 x2 h
    rw [f_X12_judge_15] at h
    refine k_iloadn (pc := 15) C dX12_judge_15 (i := 2) rfl 2 rfl ?_
    refine k_aloadn (pc := 16) C dX12_judge_16 (i := 0) rfl 0 rfl ?_
    obtain ⟨hs50, h⟩ := gp_e h
    have hs5 := sok_e hs50
    refine k_getI (pc := 17) C lkF_RX12_323_12 hs5 ir_12_23 dX12_judge_17 ?_
    refine k_icmp_ge (pc := 20) C dX12_judge_20 (tgt := 150) (by decide) (fun hc6 => ?_) (fun hc6 => ?_)
    · rw [if_pos hc6] at h
      refine k_loc (L2 := [(0, .ref (E.1 + a0)), (1, .int x1)]) [0, 1] rfl ?_
      exact b_X12_judge_150 C hr hk  _ _ _ h
    · rw [if_neg hc6] at h
      refine k_iloadn (pc := 23) C dX12_judge_23 (i := 1) rfl 1 rfl ?_
      refine k_if_ne (pc := 24) C dX12_judge_24 (tgt := 150) (by decide) (fun hc9 => ?_) (fun hc9 => ?_)
      · rw [if_neg hc9] at h
        refine k_loc (L2 := [(0, .ref (E.1 + a0)), (1, .int x1)]) [0, 1] rfl ?_
        exact b_X12_judge_150 C hr hk  _ _ _ h
      · rw [if_pos hc9] at h
        refine k_aloadn (pc := 27) C dX12_judge_27 (i := 0) rfl 0 rfl ?_
        obtain ⟨b10, hb10, h⟩ := rl_e h
        refine k_getR (pc := 28) C lkF_RX12_74_12 hs5 ir_12_22 hb10 dX12_judge_28 ?_
        refine k_iconst (pc := 31) C (v := (3 : Int32)) dX12_judge_31 (by decide) ?_
        refine k_iloadn (pc := 32) C dX12_judge_32 (i := 2) rfl 2 rfl ?_
        refine k_imul (pc := 33) C dX12_judge_33 ?_
        obtain ⟨ha11, h⟩ := gp_e h
        refine k_iald (pc := 34) C ha11 dX12_judge_34 ?_
        refine k_istoren (pc := 35) C dX12_judge_35 (i := 3) rfl (by decide) (L2 := [(0, .ref (E.1 + a0)), (1, .int x1), (2, .int x2), (3, .int (I b10 ((3 : Int32) * x2).toNatClampNeg))]) rfl ?_
        refine k_aloadn (pc := 36) C dX12_judge_36 (i := 0) rfl 0 rfl ?_
        refine k_iloadn (pc := 37) C dX12_judge_37 (i := 3) rfl 3 rfl ?_
        refine k_iconst (pc := 38) C (v := (3 : Int32)) dX12_judge_38 (by decide) ?_
        obtain ⟨r12, hr12, h⟩ := bd_e h
        refine k_V (pc := 39) (st := []) C (c_X12_is hr12) lkV_RX12_251 hs5 rfl rfl rfl (Nat.le_of_ble_eq_true rfl) (Nat.le_of_ble_eq_true rfl) (Nat.le_of_ble_eq_true rfl) (Nat.le_of_ble_eq_true rfl) (Nat.le_of_ble_eq_true rfl) dX12_judge_39 ?_
        refine k_nf (cells2 := 0) (slots2 := 0) (st2 := [.int r12]) rfl rfl rfl ?_
        refine k_if_eq (pc := 42) C dX12_judge_42 (tgt := 94) (by decide) (fun hc13 => ?_) (fun hc13 => ?_)
        · rw [if_pos hc13] at h
          refine k_loc (L2 := [(0, .ref (E.1 + a0)), (2, .int x2), (3, .int (I b10 ((3 : Int32) * x2).toNatClampNeg))]) [0, 2, 3] rfl ?_
          exact b_X12_judge_94 C hr hk ih _ _ _ _ h
        · rw [if_neg hc13] at h
          refine k_aloadn (pc := 45) C dX12_judge_45 (i := 0) rfl 0 rfl ?_
          refine k_iloadn (pc := 46) C dX12_judge_46 (i := 3) rfl 3 rfl ?_
          obtain ⟨r21, hr21, h⟩ := bd_e h
          refine k_V (pc := 47) (st := []) C (c_X12_mayGo hr21) lkV_RX12_257 hs5 rfl rfl rfl (Nat.le_of_ble_eq_true rfl) (Nat.le_of_ble_eq_true rfl) (Nat.le_of_ble_eq_true rfl) (Nat.le_of_ble_eq_true rfl) (Nat.le_of_ble_eq_true rfl) dX12_judge_47 ?_
          refine k_nf (cells2 := 0) (slots2 := 0) (st2 := [.int r21]) rfl rfl rfl ?_
          refine k_if_eq (pc := 50) C dX12_judge_50 (tgt := 94) (by decide) (fun hc22 => ?_) (fun hc22 => ?_)
          · rw [if_pos hc22] at h
            refine k_loc (L2 := [(0, .ref (E.1 + a0)), (2, .int x2), (3, .int (I b10 ((3 : Int32) * x2).toNatClampNeg))]) [0, 2, 3] rfl ?_
            exact b_X12_judge_94 C hr hk ih _ _ _ _ h
          · rw [if_neg hc22] at h
            refine k_aloadn (pc := 53) C dX12_judge_53 (i := 0) rfl 0 rfl ?_
            obtain ⟨b23, hb23, h⟩ := rl_e h
            refine k_getR (pc := 54) C lkF_RX12_74_12 hs5 ir_12_22 hb23 dX12_judge_54 ?_
            refine k_iconst (pc := 57) C (v := (3 : Int32)) dX12_judge_57 (by decide) ?_
            refine k_iloadn (pc := 58) C dX12_judge_58 (i := 2) rfl 2 rfl ?_
            refine k_imul (pc := 59) C dX12_judge_59 ?_
            refine k_iconst (pc := 60) C (v := (2 : Int32)) dX12_judge_60 (by decide) ?_
            refine k_iadd (pc := 61) C dX12_judge_61 ?_
            obtain ⟨ha24, h⟩ := gp_e h
            refine k_iald (pc := 62) C ha24 dX12_judge_62 ?_
            refine k_aloadn (pc := 63) C dX12_judge_63 (i := 0) rfl 0 rfl ?_
            refine k_iloadn (pc := 64) C dX12_judge_64 (i := 3) rfl 3 rfl ?_
            obtain ⟨r25, hr25, h⟩ := bd_e h
            refine k_V (pc := 65) (st := [.int (I b23 (((3 : Int32) * x2) + (2 : Int32)).toNatClampNeg)]) C (c_X12_fee hr25) lkV_RX12_254 hs5 rfl rfl rfl (Nat.le_of_ble_eq_true rfl) (Nat.le_of_ble_eq_true rfl) (Nat.le_of_ble_eq_true rfl) (Nat.le_of_ble_eq_true rfl) (Nat.le_of_ble_eq_true rfl) dX12_judge_65 ?_
            refine k_nf (cells2 := 0) (slots2 := 0) (st2 := [.int r25.2, .int (I b23 (((3 : Int32) * x2) + (2 : Int32)).toNatClampNeg)]) rfl rfl rfl ?_
            refine k_icmp_ne (pc := 68) C dX12_judge_68 (tgt := 94) (by decide) (fun hc26 => ?_) (fun hc26 => ?_)
            · rw [if_neg hc26] at h
              refine k_loc (L2 := [(0, .ref (E.1 + a0)), (2, .int x2), (3, .int (I b10 ((3 : Int32) * x2).toNatClampNeg))]) [0, 2, 3] rfl ?_
              exact b_X12_judge_94 C hr hk ih _ _ _ _ h
            · rw [if_pos hc26] at h
              refine k_aloadn (pc := 71) C dX12_judge_71 (i := 0) rfl 0 rfl ?_
              obtain ⟨b27, hb27, h⟩ := rl_e h
              refine k_getR (pc := 72) C lkF_RX12_74_12 hs5 ir_12_22 hb27 dX12_judge_72 ?_
              refine k_iconst (pc := 75) C (v := (3 : Int32)) dX12_judge_75 (by decide) ?_
              refine k_iloadn (pc := 76) C dX12_judge_76 (i := 2) rfl 2 rfl ?_
              refine k_imul (pc := 77) C dX12_judge_77 ?_
              refine k_iconst (pc := 78) C (v := (1 : Int32)) dX12_judge_78 (by decide) ?_
              refine k_iadd (pc := 79) C dX12_judge_79 ?_
              obtain ⟨ha28, h⟩ := gp_e h
              refine k_iald (pc := 80) C ha28 dX12_judge_80 ?_
              refine k_aloadn (pc := 81) C dX12_judge_81 (i := 0) rfl 0 rfl ?_
              obtain ⟨r29, hr29, h⟩ := bd_e h
              refine k_V (pc := 82) (st := [.int (r25.1 b27 (((3 : Int32) * x2) + (1 : Int32)).toNatClampNeg)]) C (c_X12_inMany hr29) lkV_RX12_272 hs5 rfl rfl rfl (Nat.le_of_ble_eq_true rfl) (Nat.le_of_ble_eq_true rfl) (Nat.le_of_ble_eq_true rfl) (Nat.le_of_ble_eq_true rfl) (Nat.le_of_ble_eq_true rfl) dX12_judge_82 ?_
              refine k_nf (cells2 := 0) (slots2 := 0) (st2 := [.int r29, .int (r25.1 b27 (((3 : Int32) * x2) + (1 : Int32)).toNatClampNeg)]) rfl rfl rfl ?_
              refine k_iconst (pc := 85) C (v := (1 : Int32)) dX12_judge_85 (by decide) ?_
              refine k_isub (pc := 86) C dX12_judge_86 ?_
              refine k_icmp_ne (pc := 87) C dX12_judge_87 (tgt := 94) (by decide) (fun hc30 => ?_) (fun hc30 => ?_)
              · rw [if_neg hc30] at h
                refine k_loc (L2 := [(0, .ref (E.1 + a0)), (2, .int x2), (3, .int (I b10 ((3 : Int32) * x2).toNatClampNeg))]) [0, 2, 3] rfl ?_
                exact b_X12_judge_94 C hr hk ih _ _ _ _ h
              · rw [if_pos hc30] at h
                refine k_iconst (pc := 90) C (v := (1 : Int32)) dX12_judge_90 (by decide) ?_
                refine k_goto (pc := 91) C dX12_judge_91 (tgt := 95) (by decide) ?_
                refine k_loc (L2 := [(0, .ref (E.1 + a0)), (2, .int x2), (3, .int (I b10 ((3 : Int32) * x2).toNatClampNeg))]) [0, 2, 3] rfl ?_
                exact b_X12_judge_95 C hr hk ih _ _ _ _ _ h
def f_X12_judge (S : Sh) (R : Rw)  (I : Iw) (a0 : Nat) : Option (Iw × Int32) := gp (sok S a0 12 34) (rl (R a0 0) (fun b2 => rl (R a0 2) (fun b3 => bd (f_X12_copy S R I b2 b3) (fun r4 => f_X12_judge_15 S R  512 r4 a0 (0 : Int32) (0 : Int32)))))
set_option maxHeartbeats 4000000 in
theorem b_X12_judge {E : Ev} {p : Program} {l : Launch} {e : Env} {s : State} {m : MethodId} {args : Array Value} {below : List Frame} {meth : Method} {c : Code} (C : Cx E RX12 cX12_judge 5 p s m c) (hr : meth.sig.returnType = (some .int)) (hk : meth.locks = false) {S : Sh} {R : Rw} {r : Iw × Int32}  : ∀ (I : Iw) (a0 : Nat), f_X12_judge S R   I a0 = some r → Wk E 5 p l e ({ frames := 6, cells := 0, slots := 0, locals := 138 } : Room) s m args below meth c 0 0 (MQ below (Qw E S R r.1 (some (.int r.2))) args s 0 0 (fun q => E.1 ≤ q)) 0 [(0, .ref (E.1 + a0))] [] S R I := by
  intro I a0 h
  rw [f_X12_judge] at h
  refine k_aloadn (pc := 0) C dX12_judge_0 (i := 0) rfl 0 rfl ?_
  obtain ⟨hs10, h⟩ := gp_e h
  have hs1 := sok_e hs10
  obtain ⟨b2, hb2, h⟩ := rl_e h
  refine k_getR (pc := 1) C lkF_RX12_9_12 hs1 ir_12_0 hb2 dX12_judge_1 ?_
  refine k_aloadn (pc := 4) C dX12_judge_4 (i := 0) rfl 0 rfl ?_
  obtain ⟨b3, hb3, h⟩ := rl_e h
  refine k_getR (pc := 5) C lkF_RX12_16_12 hs1 ir_12_2 hb3 dX12_judge_5 ?_
  obtain ⟨r4, hr4, h⟩ := bd_e h
  refine k_S (pc := 8) (st := []) C (c_X12_copy hr4) lkS_RX12_102 rfl rfl (Nat.le_of_ble_eq_true rfl) (Nat.le_of_ble_eq_true rfl) (Nat.le_of_ble_eq_true rfl) (Nat.le_of_ble_eq_true rfl) (Nat.le_of_ble_eq_true rfl) dX12_judge_8 ?_
  refine k_nf (cells2 := 0) (slots2 := 0) (st2 := []) rfl rfl rfl ?_
  refine k_iconst (pc := 11) C (v := (0 : Int32)) dX12_judge_11 (by decide) ?_
  refine k_istoren (pc := 12) C dX12_judge_12 (i := 1) rfl (by decide) (L2 := [(0, .ref (E.1 + a0)), (1, .int (0 : Int32))]) rfl ?_
  refine k_iconst (pc := 13) C (v := (0 : Int32)) dX12_judge_13 (by decide) ?_
  refine k_istoren (pc := 14) C dX12_judge_14 (i := 2) rfl (by decide) (L2 := [(0, .ref (E.1 + a0)), (1, .int (0 : Int32)), (2, .int (0 : Int32))]) rfl ?_
  exact b_X12_judge_15 C hr hk  _ _ _ _ _ h
theorem c_X12_judge {E : Ev} {l : Launch} {S : Sh} {R : Rw} {I : Iw} {a0 : Nat} {r : Iw × Int32} (h : f_X12_judge S R I a0 = some r) : Mt E l yX12_judge cX12_judge 5 (some .int) 6 138 [.ref (E.1 + a0)] S R I S R r.1 (some (.int r.2)) 0 0 := mt_of (by decide) (Nat.le_of_ble_eq_true rfl) (fun p e s m args below meth c C hr hk hn => b_X12_judge C hr hk _ _ h)
