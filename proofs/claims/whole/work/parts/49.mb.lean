/-! X12_onShelf, X12_kindOf, X12_taken, X12_began, X12_hasOwn, X12_bodyFrom, X12_voiced -/
theorem dX12_onShelf_0 : decode cX12_onShelf 0 = .ok (.aload_n 0, 1) := by decide +kernel
theorem dX12_onShelf_1 : decode cX12_onShelf 1 = .ok (.getfield 86, 3) := by decide +kernel
theorem dX12_onShelf_4 : decode cX12_onShelf 4 = .ok (.iload_n 1, 1) := by decide +kernel
theorem dX12_onShelf_5 : decode cX12_onShelf 5 = .ok (.iaload, 1) := by decide +kernel
theorem dX12_onShelf_6 : decode cX12_onShelf 6 = .ok (.iconst 1, 1) := by decide +kernel
theorem dX12_onShelf_7 : decode cX12_onShelf 7 = .ok (.if_icmp .ne 21, 3) := by decide +kernel
theorem dX12_onShelf_10 : decode cX12_onShelf 10 = .ok (.aload_n 0, 1) := by decide +kernel
theorem dX12_onShelf_11 : decode cX12_onShelf 11 = .ok (.aload_n 0, 1) := by decide +kernel
theorem dX12_onShelf_12 : decode cX12_onShelf 12 = .ok (.getfield 89, 3) := by decide +kernel
theorem dX12_onShelf_15 : decode cX12_onShelf 15 = .ok (.iload_n 1, 1) := by decide +kernel
theorem dX12_onShelf_16 : decode cX12_onShelf 16 = .ok (.iaload, 1) := by decide +kernel
theorem dX12_onShelf_17 : decode cX12_onShelf 17 = .ok (.iconst 3, 1) := by decide +kernel
theorem dX12_onShelf_18 : decode cX12_onShelf 18 = .ok (.invokevirtual 251, 3) := by decide +kernel
theorem dX12_onShelf_21 : decode cX12_onShelf 21 = .ok (.ifCond .ne 7, 3) := by decide +kernel
theorem dX12_onShelf_24 : decode cX12_onShelf 24 = .ok (.iconst 0, 1) := by decide +kernel
theorem dX12_onShelf_25 : decode cX12_onShelf 25 = .ok (.goto 9, 3) := by decide +kernel
theorem dX12_onShelf_28 : decode cX12_onShelf 28 = .ok (.aload_n 0, 1) := by decide +kernel
theorem dX12_onShelf_29 : decode cX12_onShelf 29 = .ok (.getfield 86, 3) := by decide +kernel
theorem dX12_onShelf_32 : decode cX12_onShelf 32 = .ok (.iload_n 1, 1) := by decide +kernel
theorem dX12_onShelf_33 : decode cX12_onShelf 33 = .ok (.iaload, 1) := by decide +kernel
theorem dX12_onShelf_34 : decode cX12_onShelf 34 = .ok (.ireturn, 1) := by decide +kernel
def f_X12_onShelf_28 (S : Sh) (R : Rw) (I : Iw)  (a0 : Nat) (x1 : Int32) : Option (Int32) := gp (sok S a0 12 34) (rl (R a0 27) (fun b6 => gp (aok S 20 b6 x1) (some (I b6 x1.toNatClampNeg))))
set_option maxHeartbeats 4000000 in
theorem b_X12_onShelf_28 {E : Ev} {p : Program} {l : Launch} {e : Env} {s : State} {m : MethodId} {args : Array Value} {below : List Frame} {meth : Method} {c : Code} (C : Cx E RX12 cX12_onShelf 2 p s m c) (hr : meth.sig.returnType = (some .int)) (hk : meth.locks = false) {S : Sh} {R : Rw} {I : Iw} {r : Int32}  : ∀ (a0 : Nat) (x1 : Int32), f_X12_onShelf_28 S R I   a0 x1 = some r → Wk E 2 p l e ({ frames := 2, cells := 0, slots := 0, locals := 44 } : Room) s m args below meth c 0 0 (MQ below (Qw E S R I (some (.int r))) args s 0 0 (fun q => E.1 ≤ q)) 28 [(0, .ref (E.1 + a0)), (1, .int x1)] [] S R I := by
  intro a0 x1 h
  rw [f_X12_onShelf_28] at h
  refine k_aloadn (pc := 28) C dX12_onShelf_28 (i := 0) rfl 0 rfl ?_
  obtain ⟨hs50, h⟩ := gp_e h
  have hs5 := sok_e hs50
  obtain ⟨b6, hb6, h⟩ := rl_e h
  refine k_getR (pc := 29) C lkF_RX12_86_12 hs5 ir_12_27 hb6 dX12_onShelf_29 ?_
  refine k_iloadn (pc := 32) C dX12_onShelf_32 (i := 1) rfl 1 rfl ?_
  obtain ⟨ha7, h⟩ := gp_e h
  refine k_iald (pc := 33) C ha7 dX12_onShelf_33 ?_
  have h := Option.some.inj h
  subst h
  exact k_iret (pc := 34) C hr hk dX12_onShelf_34
def f_X12_onShelf (S : Sh) (R : Rw) (I : Iw)  (a0 : Nat) (x1 : Int32) : Option (Int32) := gp (sok S a0 12 34) (rl (R a0 27) (fun b2 => gp (aok S 20 b2 x1) ((if (I b2 x1.toNatClampNeg) = (1 : Int32) then rl (R a0 28) (fun b8 => gp (aok S 20 b8 x1) (bd (f_X12_is S R I a0 (I b8 x1.toNatClampNeg) (3 : Int32)) (fun r10 => (if r10 = 0 then some (0 : Int32) else f_X12_onShelf_28 S R I  a0 x1)))) else f_X12_onShelf_28 S R I  a0 x1))))
set_option maxHeartbeats 4000000 in
theorem b_X12_onShelf {E : Ev} {p : Program} {l : Launch} {e : Env} {s : State} {m : MethodId} {args : Array Value} {below : List Frame} {meth : Method} {c : Code} (C : Cx E RX12 cX12_onShelf 2 p s m c) (hr : meth.sig.returnType = (some .int)) (hk : meth.locks = false) {S : Sh} {R : Rw} {I : Iw} {r : Int32}  : ∀ (a0 : Nat) (x1 : Int32), f_X12_onShelf S R I   a0 x1 = some r → Wk E 2 p l e ({ frames := 2, cells := 0, slots := 0, locals := 44 } : Room) s m args below meth c 0 0 (MQ below (Qw E S R I (some (.int r))) args s 0 0 (fun q => E.1 ≤ q)) 0 [(0, .ref (E.1 + a0)), (1, .int x1)] [] S R I := by
  intro a0 x1 h
  rw [f_X12_onShelf] at h
  refine k_aloadn (pc := 0) C dX12_onShelf_0 (i := 0) rfl 0 rfl ?_
  obtain ⟨hs10, h⟩ := gp_e h
  have hs1 := sok_e hs10
  obtain ⟨b2, hb2, h⟩ := rl_e h
  refine k_getR (pc := 1) C lkF_RX12_86_12 hs1 ir_12_27 hb2 dX12_onShelf_1 ?_
  refine k_iloadn (pc := 4) C dX12_onShelf_4 (i := 1) rfl 1 rfl ?_
  obtain ⟨ha3, h⟩ := gp_e h
  refine k_iald (pc := 5) C ha3 dX12_onShelf_5 ?_
  refine k_iconst (pc := 6) C (v := (1 : Int32)) dX12_onShelf_6 (by decide) ?_
  refine k_icmp_ne (pc := 7) C dX12_onShelf_7 (tgt := 28) (by decide) (fun hc4 => ?_) (fun hc4 => ?_)
  · rw [if_neg hc4] at h
    exact b_X12_onShelf_28 C hr hk  _ _ h
  · rw [if_pos hc4] at h
    refine k_aloadn (pc := 10) C dX12_onShelf_10 (i := 0) rfl 0 rfl ?_
    refine k_aloadn (pc := 11) C dX12_onShelf_11 (i := 0) rfl 0 rfl ?_
    obtain ⟨b8, hb8, h⟩ := rl_e h
    refine k_getR (pc := 12) C lkF_RX12_89_12 hs1 ir_12_28 hb8 dX12_onShelf_12 ?_
    refine k_iloadn (pc := 15) C dX12_onShelf_15 (i := 1) rfl 1 rfl ?_
    obtain ⟨ha9, h⟩ := gp_e h
    refine k_iald (pc := 16) C ha9 dX12_onShelf_16 ?_
    refine k_iconst (pc := 17) C (v := (3 : Int32)) dX12_onShelf_17 (by decide) ?_
    obtain ⟨r10, hr10, h⟩ := bd_e h
    refine k_V (pc := 18) (st := []) C (c_X12_is hr10) lkV_RX12_251 hs1 rfl rfl rfl (Nat.le_of_ble_eq_true rfl) (Nat.le_of_ble_eq_true rfl) (Nat.le_of_ble_eq_true rfl) (Nat.le_of_ble_eq_true rfl) (Nat.le_of_ble_eq_true rfl) dX12_onShelf_18 ?_
    refine k_nf (cells2 := 0) (slots2 := 0) (st2 := [.int r10]) rfl rfl rfl ?_
    refine k_if_ne (pc := 21) C dX12_onShelf_21 (tgt := 28) (by decide) (fun hc11 => ?_) (fun hc11 => ?_)
    · rw [if_neg hc11] at h
      exact b_X12_onShelf_28 C hr hk  _ _ h
    · rw [if_pos hc11] at h
      refine k_iconst (pc := 24) C (v := (0 : Int32)) dX12_onShelf_24 (by decide) ?_
      refine k_goto (pc := 25) C dX12_onShelf_25 (tgt := 34) (by decide) ?_
      have h := Option.some.inj h
      subst h
      exact k_iret (pc := 34) C hr hk dX12_onShelf_34
theorem c_X12_onShelf {E : Ev} {l : Launch} {S : Sh} {R : Rw} {I : Iw} {a0 : Nat} {x1 : Int32} {r : Int32} (h : f_X12_onShelf S R I a0 x1 = some r) : Mt E l yX12_onShelf cX12_onShelf 2 (some .int) 2 44 [.ref (E.1 + a0), .int x1] S R I S R I (some (.int r)) 0 0 := mt_of (by decide) (Nat.le_of_ble_eq_true rfl) (fun p e s m args below meth c C hr hk hn => b_X12_onShelf C hr hk _ _ h)
theorem dX12_kindOf_0 : decode cX12_kindOf 0 = .ok (.aload_n 0, 1) := by decide +kernel
theorem dX12_kindOf_1 : decode cX12_kindOf 1 = .ok (.iload_n 1, 1) := by decide +kernel
theorem dX12_kindOf_2 : decode cX12_kindOf 2 = .ok (.iconst 0, 1) := by decide +kernel
theorem dX12_kindOf_3 : decode cX12_kindOf 3 = .ok (.invokevirtual 209, 3) := by decide +kernel
theorem dX12_kindOf_6 : decode cX12_kindOf 6 = .ok (.ireturn, 1) := by decide +kernel
def f_X12_kindOf (S : Sh) (R : Rw) (I : Iw)  (a0 : Nat) (x1 : Int32) : Option (Int32) := gp (sok S a0 12 34) (bd (f_X12_goodIs S R I a0 x1 (0 : Int32)) (fun r2 => some r2))
set_option maxHeartbeats 4000000 in
theorem b_X12_kindOf {E : Ev} {p : Program} {l : Launch} {e : Env} {s : State} {m : MethodId} {args : Array Value} {below : List Frame} {meth : Method} {c : Code} (C : Cx E RX12 cX12_kindOf 2 p s m c) (hr : meth.sig.returnType = (some .int)) (hk : meth.locks = false) {S : Sh} {R : Rw} {I : Iw} {r : Int32}  : ∀ (a0 : Nat) (x1 : Int32), f_X12_kindOf S R I   a0 x1 = some r → Wk E 2 p l e ({ frames := 2, cells := 0, slots := 0, locals := 43 } : Room) s m args below meth c 0 0 (MQ below (Qw E S R I (some (.int r))) args s 0 0 (fun q => E.1 ≤ q)) 0 [(0, .ref (E.1 + a0)), (1, .int x1)] [] S R I := by
  intro a0 x1 h
  rw [f_X12_kindOf] at h
  refine k_aloadn (pc := 0) C dX12_kindOf_0 (i := 0) rfl 0 rfl ?_
  refine k_iloadn (pc := 1) C dX12_kindOf_1 (i := 1) rfl 1 rfl ?_
  refine k_iconst (pc := 2) C (v := (0 : Int32)) dX12_kindOf_2 (by decide) ?_
  obtain ⟨hs10, h⟩ := gp_e h
  have hs1 := sok_e hs10
  obtain ⟨r2, hr2, h⟩ := bd_e h
  refine k_V (pc := 3) (st := []) C (c_X12_goodIs hr2) lkV_RX12_209 hs1 rfl rfl rfl (Nat.le_of_ble_eq_true rfl) (Nat.le_of_ble_eq_true rfl) (Nat.le_of_ble_eq_true rfl) (Nat.le_of_ble_eq_true rfl) (Nat.le_of_ble_eq_true rfl) dX12_kindOf_3 ?_
  refine k_nf (cells2 := 0) (slots2 := 0) (st2 := [.int r2]) rfl rfl rfl ?_
  have h := Option.some.inj h
  subst h
  exact k_iret (pc := 6) C hr hk dX12_kindOf_6
theorem c_X12_kindOf {E : Ev} {l : Launch} {S : Sh} {R : Rw} {I : Iw} {a0 : Nat} {x1 : Int32} {r : Int32} (h : f_X12_kindOf S R I a0 x1 = some r) : Mt E l yX12_kindOf cX12_kindOf 2 (some .int) 2 43 [.ref (E.1 + a0), .int x1] S R I S R I (some (.int r)) 0 0 := mt_of (by decide) (Nat.le_of_ble_eq_true rfl) (fun p e s m args below meth c C hr hk hn => b_X12_kindOf C hr hk _ _ h)
theorem lkV_RX12_338 : LkV RX12 338 RX12 yX12_onShelf cX12_onShelf 2 (some .int) 1 := ⟨(t7_in 103 (by decide +kernel) rfl), (t7_in 105 (by decide +kernel) rfl), (t0_in 72 (by decide +kernel) rfl), (t7_in 106 (by decide +kernel) rfl), (t1_in 7 (by decide +kernel) rfl), by decide, by decide +kernel⟩
theorem lkV_RX12_341 : LkV RX12 341 RX12 yX12_kindOf cX12_kindOf 2 (some .int) 1 := ⟨(t7_in 107 (by decide +kernel) rfl), (t7_in 109 (by decide +kernel) rfl), (t0_in 73 (by decide +kernel) rfl), (t7_in 110 (by decide +kernel) rfl), (t1_in 7 (by decide +kernel) rfl), by decide, by decide +kernel⟩
theorem dX12_taken_0 : decode cX12_taken 0 = .ok (.iload_n 1, 1) := by decide +kernel
theorem dX12_taken_1 : decode cX12_taken 1 = .ok (.iconst 0, 1) := by decide +kernel
theorem dX12_taken_2 : decode cX12_taken 2 = .ok (.iconst 3, 1) := by decide +kernel
theorem dX12_taken_3 : decode cX12_taken 3 = .ok (.invokestatic 98, 3) := by decide +kernel
theorem dX12_taken_6 : decode cX12_taken 6 = .ok (.ifCond .eq 23, 3) := by decide +kernel
theorem dX12_taken_9 : decode cX12_taken 9 = .ok (.iload_n 2, 1) := by decide +kernel
theorem dX12_taken_10 : decode cX12_taken 10 = .ok (.iconst 0, 1) := by decide +kernel
theorem dX12_taken_11 : decode cX12_taken 11 = .ok (.iconst 5, 1) := by decide +kernel
theorem dX12_taken_12 : decode cX12_taken 12 = .ok (.invokestatic 98, 3) := by decide +kernel
theorem dX12_taken_15 : decode cX12_taken 15 = .ok (.ifCond .ne 16, 3) := by decide +kernel
theorem dX12_taken_18 : decode cX12_taken 18 = .ok (.iload_n 2, 1) := by decide +kernel
theorem dX12_taken_19 : decode cX12_taken 19 = .ok (.bipush 10, 2) := by decide +kernel
theorem dX12_taken_21 : decode cX12_taken 21 = .ok (.bipush 14, 2) := by decide +kernel
theorem dX12_taken_23 : decode cX12_taken 23 = .ok (.invokestatic 98, 3) := by decide +kernel
theorem dX12_taken_26 : decode cX12_taken 26 = .ok (.ifCond .ne 5, 3) := by decide +kernel
theorem dX12_taken_29 : decode cX12_taken 29 = .ok (.iconst (-1), 1) := by decide +kernel
theorem dX12_taken_30 : decode cX12_taken 30 = .ok (.ireturn, 1) := by decide +kernel
theorem dX12_taken_31 : decode cX12_taken 31 = .ok (.aload_n 0, 1) := by decide +kernel
theorem dX12_taken_32 : decode cX12_taken 32 = .ok (.iload_n 1, 1) := by decide +kernel
theorem dX12_taken_33 : decode cX12_taken 33 = .ok (.invokevirtual 338, 3) := by decide +kernel
theorem dX12_taken_36 : decode cX12_taken 36 = .ok (.istore_n 3, 1) := by decide +kernel
theorem dX12_taken_37 : decode cX12_taken 37 = .ok (.iload_n 3, 1) := by decide +kernel
theorem dX12_taken_38 : decode cX12_taken 38 = .ok (.ifCond .ne 6, 3) := by decide +kernel
theorem dX12_taken_41 : decode cX12_taken 41 = .ok (.bipush (-11), 2) := by decide +kernel
theorem dX12_taken_43 : decode cX12_taken 43 = .ok (.ireturn, 1) := by decide +kernel
theorem dX12_taken_44 : decode cX12_taken 44 = .ok (.iload_n 3, 1) := by decide +kernel
theorem dX12_taken_45 : decode cX12_taken 45 = .ok (.iconst 2, 1) := by decide +kernel
theorem dX12_taken_46 : decode cX12_taken 46 = .ok (.if_icmp .ne 28, 3) := by decide +kernel
theorem dX12_taken_49 : decode cX12_taken 49 = .ok (.iload_n 2, 1) := by decide +kernel
theorem dX12_taken_50 : decode cX12_taken 50 = .ok (.bipush 10, 2) := by decide +kernel
theorem dX12_taken_52 : decode cX12_taken 52 = .ok (.aload_n 0, 1) := by decide +kernel
theorem dX12_taken_53 : decode cX12_taken 53 = .ok (.getfield 89, 3) := by decide +kernel
theorem dX12_taken_56 : decode cX12_taken 56 = .ok (.iload_n 1, 1) := by decide +kernel
theorem dX12_taken_57 : decode cX12_taken 57 = .ok (.iaload, 1) := by decide +kernel
theorem dX12_taken_58 : decode cX12_taken 58 = .ok (.iadd, 1) := by decide +kernel
theorem dX12_taken_59 : decode cX12_taken 59 = .ok (.if_icmp .ne 12, 3) := by decide +kernel
theorem dX12_taken_62 : decode cX12_taken 62 = .ok (.aload_n 0, 1) := by decide +kernel
theorem dX12_taken_63 : decode cX12_taken 63 = .ok (.getfield 92, 3) := by decide +kernel
theorem dX12_taken_66 : decode cX12_taken 66 = .ok (.iload_n 1, 1) := by decide +kernel
theorem dX12_taken_67 : decode cX12_taken 67 = .ok (.iaload, 1) := by decide +kernel
theorem dX12_taken_68 : decode cX12_taken 68 = .ok (.goto 5, 3) := by decide +kernel
theorem dX12_taken_71 : decode cX12_taken 71 = .ok (.bipush (-13), 2) := by decide +kernel
theorem dX12_taken_73 : decode cX12_taken 73 = .ok (.ireturn, 1) := by decide +kernel
theorem dX12_taken_74 : decode cX12_taken 74 = .ok (.iload_n 2, 1) := by decide +kernel
theorem dX12_taken_75 : decode cX12_taken 75 = .ok (.iconst 5, 1) := by decide +kernel
theorem dX12_taken_76 : decode cX12_taken 76 = .ok (.if_icmp .gt 29, 3) := by decide +kernel
theorem dX12_taken_79 : decode cX12_taken 79 = .ok (.aload_n 0, 1) := by decide +kernel
theorem dX12_taken_80 : decode cX12_taken 80 = .ok (.aload_n 0, 1) := by decide +kernel
theorem dX12_taken_81 : decode cX12_taken 81 = .ok (.getfield 89, 3) := by decide +kernel
theorem dX12_taken_84 : decode cX12_taken 84 = .ok (.iload_n 1, 1) := by decide +kernel
theorem dX12_taken_85 : decode cX12_taken 85 = .ok (.iaload, 1) := by decide +kernel
theorem dX12_taken_86 : decode cX12_taken 86 = .ok (.invokevirtual 341, 3) := by decide +kernel
theorem dX12_taken_89 : decode cX12_taken 89 = .ok (.iload_n 2, 1) := by decide +kernel
theorem dX12_taken_90 : decode cX12_taken 90 = .ok (.invokestatic 224, 3) := by decide +kernel
theorem dX12_taken_93 : decode cX12_taken 93 = .ok (.ifCond .eq 12, 3) := by decide +kernel
theorem dX12_taken_96 : decode cX12_taken 96 = .ok (.aload_n 0, 1) := by decide +kernel
theorem dX12_taken_97 : decode cX12_taken 97 = .ok (.getfield 89, 3) := by decide +kernel
theorem dX12_taken_100 : decode cX12_taken 100 = .ok (.iload_n 1, 1) := by decide +kernel
theorem dX12_taken_101 : decode cX12_taken 101 = .ok (.iaload, 1) := by decide +kernel
theorem dX12_taken_102 : decode cX12_taken 102 = .ok (.goto 5, 3) := by decide +kernel
theorem dX12_taken_105 : decode cX12_taken 105 = .ok (.bipush (-13), 2) := by decide +kernel
theorem dX12_taken_107 : decode cX12_taken 107 = .ok (.ireturn, 1) := by decide +kernel
def f_X12_taken_31 (S : Sh) (R : Rw) (I : Iw)  (a0 : Nat) (x1 : Int32) (x2 : Int32) : Option (Int32) := gp (sok S a0 12 34) (bd (f_X12_onShelf S R I a0 x1) (fun r6 => (if r6 = 0 then some (-11 : Int32) else (if r6 = (2 : Int32) then rl (R a0 28) (fun b17 => gp (aok S 20 b17 x1) ((if x2 = ((10 : Int32) + (I b17 x1.toNatClampNeg)) then rl (R a0 29) (fun b20 => gp (aok S 20 b20 x1) (some (I b20 x1.toNatClampNeg))) else some (-13 : Int32)))) else (if (5 : Int32) < x2 then some (-13 : Int32) else rl (R a0 28) (fun b10 => gp (aok S 20 b10 x1) (bd (f_X12_kindOf S R I a0 (I b10 x1.toNatClampNeg)) (fun r12 => bd (f_X12_isUnder S R I r12 x2) (fun r13 => (if r13 = 0 then some (-13 : Int32) else rl (R a0 28) (fun b15 => gp (aok S 20 b15 x1) (some (I b15 x1.toNatClampNeg)))))))))))))
set_option maxHeartbeats 4000000 in
theorem b_X12_taken_31 {E : Ev} {p : Program} {l : Launch} {e : Env} {s : State} {m : MethodId} {args : Array Value} {below : List Frame} {meth : Method} {c : Code} (C : Cx E RX12 cX12_taken 4 p s m c) (hr : meth.sig.returnType = (some .int)) (hk : meth.locks = false) {S : Sh} {R : Rw} {I : Iw} {r : Int32}  : ∀ (a0 : Nat) (x1 : Int32) (x2 : Int32), f_X12_taken_31 S R I   a0 x1 x2 = some r → Wk E 4 p l e ({ frames := 3, cells := 0, slots := 0, locals := 65 } : Room) s m args below meth c 0 0 (MQ below (Qw E S R I (some (.int r))) args s 0 0 (fun q => E.1 ≤ q)) 31 [(0, .ref (E.1 + a0)), (1, .int x1), (2, .int x2)] [] S R I := by
  intro a0 x1 x2 h
  rw [f_X12_taken_31] at h
  refine k_aloadn (pc := 31) C dX12_taken_31 (i := 0) rfl 0 rfl ?_
  refine k_iloadn (pc := 32) C dX12_taken_32 (i := 1) rfl 1 rfl ?_
  obtain ⟨hs50, h⟩ := gp_e h
  have hs5 := sok_e hs50
  obtain ⟨r6, hr6, h⟩ := bd_e h
  refine k_V (pc := 33) (st := []) C (c_X12_onShelf hr6) lkV_RX12_338 hs5 rfl rfl rfl (Nat.le_of_ble_eq_true rfl) (Nat.le_of_ble_eq_true rfl) (Nat.le_of_ble_eq_true rfl) (Nat.le_of_ble_eq_true rfl) (Nat.le_of_ble_eq_true rfl) dX12_taken_33 ?_
  refine k_nf (cells2 := 0) (slots2 := 0) (st2 := [.int r6]) rfl rfl rfl ?_
  refine k_istoren (pc := 36) C dX12_taken_36 (i := 3) rfl (by decide) (L2 := [(0, .ref (E.1 + a0)), (1, .int x1), (2, .int x2), (3, .int r6)]) rfl ?_
  refine k_iloadn (pc := 37) C dX12_taken_37 (i := 3) rfl 3 rfl ?_
  refine k_if_ne (pc := 38) C dX12_taken_38 (tgt := 44) (by decide) (fun hc7 => ?_) (fun hc7 => ?_)
  · rw [if_neg hc7] at h
    refine k_iloadn (pc := 44) C dX12_taken_44 (i := 3) rfl 3 rfl ?_
    refine k_iconst (pc := 45) C (v := (2 : Int32)) dX12_taken_45 (by decide) ?_
    refine k_icmp_ne (pc := 46) C dX12_taken_46 (tgt := 74) (by decide) (fun hc8 => ?_) (fun hc8 => ?_)
    · rw [if_neg hc8] at h
      refine k_iloadn (pc := 74) C dX12_taken_74 (i := 2) rfl 2 rfl ?_
      refine k_iconst (pc := 75) C (v := (5 : Int32)) dX12_taken_75 (by decide) ?_
      refine k_icmp_gt (pc := 76) C dX12_taken_76 (tgt := 105) (by decide) (fun hc9 => ?_) (fun hc9 => ?_)
      · rw [if_pos hc9] at h
        refine k_bipush (pc := 105) C (v := (-13 : Int32)) dX12_taken_105 (by decide) ?_
        have h := Option.some.inj h
        subst h
        exact k_iret (pc := 107) C hr hk dX12_taken_107
      · rw [if_neg hc9] at h
        refine k_aloadn (pc := 79) C dX12_taken_79 (i := 0) rfl 0 rfl ?_
        refine k_aloadn (pc := 80) C dX12_taken_80 (i := 0) rfl 0 rfl ?_
        obtain ⟨b10, hb10, h⟩ := rl_e h
        refine k_getR (pc := 81) C lkF_RX12_89_12 hs5 ir_12_28 hb10 dX12_taken_81 ?_
        refine k_iloadn (pc := 84) C dX12_taken_84 (i := 1) rfl 1 rfl ?_
        obtain ⟨ha11, h⟩ := gp_e h
        refine k_iald (pc := 85) C ha11 dX12_taken_85 ?_
        obtain ⟨r12, hr12, h⟩ := bd_e h
        refine k_V (pc := 86) (st := []) C (c_X12_kindOf hr12) lkV_RX12_341 hs5 rfl rfl rfl (Nat.le_of_ble_eq_true rfl) (Nat.le_of_ble_eq_true rfl) (Nat.le_of_ble_eq_true rfl) (Nat.le_of_ble_eq_true rfl) (Nat.le_of_ble_eq_true rfl) dX12_taken_86 ?_
        refine k_nf (cells2 := 0) (slots2 := 0) (st2 := [.int r12]) rfl rfl rfl ?_
        refine k_iloadn (pc := 89) C dX12_taken_89 (i := 2) rfl 2 rfl ?_
        obtain ⟨r13, hr13, h⟩ := bd_e h
        refine k_S (pc := 90) (st := []) C (c_X12_isUnder hr13) lkS_RX12_224 rfl rfl (Nat.le_of_ble_eq_true rfl) (Nat.le_of_ble_eq_true rfl) (Nat.le_of_ble_eq_true rfl) (Nat.le_of_ble_eq_true rfl) (Nat.le_of_ble_eq_true rfl) dX12_taken_90 ?_
        refine k_nf (cells2 := 0) (slots2 := 0) (st2 := [.int r13]) rfl rfl rfl ?_
        refine k_if_eq (pc := 93) C dX12_taken_93 (tgt := 105) (by decide) (fun hc14 => ?_) (fun hc14 => ?_)
        · rw [if_pos hc14] at h
          refine k_bipush (pc := 105) C (v := (-13 : Int32)) dX12_taken_105 (by decide) ?_
          have h := Option.some.inj h
          subst h
          exact k_iret (pc := 107) C hr hk dX12_taken_107
        · rw [if_neg hc14] at h
          refine k_aloadn (pc := 96) C dX12_taken_96 (i := 0) rfl 0 rfl ?_
          obtain ⟨b15, hb15, h⟩ := rl_e h
          refine k_getR (pc := 97) C lkF_RX12_89_12 hs5 ir_12_28 hb15 dX12_taken_97 ?_
          refine k_iloadn (pc := 100) C dX12_taken_100 (i := 1) rfl 1 rfl ?_
          obtain ⟨ha16, h⟩ := gp_e h
          refine k_iald (pc := 101) C ha16 dX12_taken_101 ?_
          refine k_goto (pc := 102) C dX12_taken_102 (tgt := 107) (by decide) ?_
          have h := Option.some.inj h
          subst h
          exact k_iret (pc := 107) C hr hk dX12_taken_107
    · rw [if_pos hc8] at h
      refine k_iloadn (pc := 49) C dX12_taken_49 (i := 2) rfl 2 rfl ?_
      refine k_bipush (pc := 50) C (v := (10 : Int32)) dX12_taken_50 (by decide) ?_
      refine k_aloadn (pc := 52) C dX12_taken_52 (i := 0) rfl 0 rfl ?_
      obtain ⟨b17, hb17, h⟩ := rl_e h
      refine k_getR (pc := 53) C lkF_RX12_89_12 hs5 ir_12_28 hb17 dX12_taken_53 ?_
      refine k_iloadn (pc := 56) C dX12_taken_56 (i := 1) rfl 1 rfl ?_
      obtain ⟨ha18, h⟩ := gp_e h
      refine k_iald (pc := 57) C ha18 dX12_taken_57 ?_
      refine k_iadd (pc := 58) C dX12_taken_58 ?_
      refine k_icmp_ne (pc := 59) C dX12_taken_59 (tgt := 71) (by decide) (fun hc19 => ?_) (fun hc19 => ?_)
      · rw [if_neg hc19] at h
        refine k_bipush (pc := 71) C (v := (-13 : Int32)) dX12_taken_71 (by decide) ?_
        have h := Option.some.inj h
        subst h
        exact k_iret (pc := 73) C hr hk dX12_taken_73
      · rw [if_pos hc19] at h
        refine k_aloadn (pc := 62) C dX12_taken_62 (i := 0) rfl 0 rfl ?_
        obtain ⟨b20, hb20, h⟩ := rl_e h
        refine k_getR (pc := 63) C lkF_RX12_92_12 hs5 ir_12_29 hb20 dX12_taken_63 ?_
        refine k_iloadn (pc := 66) C dX12_taken_66 (i := 1) rfl 1 rfl ?_
        obtain ⟨ha21, h⟩ := gp_e h
        refine k_iald (pc := 67) C ha21 dX12_taken_67 ?_
        refine k_goto (pc := 68) C dX12_taken_68 (tgt := 73) (by decide) ?_
        have h := Option.some.inj h
        subst h
        exact k_iret (pc := 73) C hr hk dX12_taken_73
  · rw [if_pos hc7] at h
    refine k_bipush (pc := 41) C (v := (-11 : Int32)) dX12_taken_41 (by decide) ?_
    have h := Option.some.inj h
    subst h
    exact k_iret (pc := 43) C hr hk dX12_taken_43
def f_X12_taken (S : Sh) (R : Rw) (I : Iw)  (a0 : Nat) (x1 : Int32) (x2 : Int32) : Option (Int32) := bd (f_X12_in S R I x1 (0 : Int32) (3 : Int32)) (fun r1 => (if r1 = 0 then some (-1 : Int32) else bd (f_X12_in S R I x2 (0 : Int32) (5 : Int32)) (fun r3 => (if r3 = 0 then bd (f_X12_in S R I x2 (10 : Int32) (14 : Int32)) (fun r22 => (if r22 = 0 then some (-1 : Int32) else f_X12_taken_31 S R I  a0 x1 x2)) else f_X12_taken_31 S R I  a0 x1 x2))))
set_option maxHeartbeats 4000000 in
theorem b_X12_taken {E : Ev} {p : Program} {l : Launch} {e : Env} {s : State} {m : MethodId} {args : Array Value} {below : List Frame} {meth : Method} {c : Code} (C : Cx E RX12 cX12_taken 4 p s m c) (hr : meth.sig.returnType = (some .int)) (hk : meth.locks = false) {S : Sh} {R : Rw} {I : Iw} {r : Int32}  : ∀ (a0 : Nat) (x1 : Int32) (x2 : Int32), f_X12_taken S R I   a0 x1 x2 = some r → Wk E 4 p l e ({ frames := 3, cells := 0, slots := 0, locals := 65 } : Room) s m args below meth c 0 0 (MQ below (Qw E S R I (some (.int r))) args s 0 0 (fun q => E.1 ≤ q)) 0 [(0, .ref (E.1 + a0)), (1, .int x1), (2, .int x2)] [] S R I := by
  intro a0 x1 x2 h
  rw [f_X12_taken] at h
  refine k_iloadn (pc := 0) C dX12_taken_0 (i := 1) rfl 1 rfl ?_
  refine k_iconst (pc := 1) C (v := (0 : Int32)) dX12_taken_1 (by decide) ?_
  refine k_iconst (pc := 2) C (v := (3 : Int32)) dX12_taken_2 (by decide) ?_
  obtain ⟨r1, hr1, h⟩ := bd_e h
  refine k_S (pc := 3) (st := []) C (c_X12_in hr1) lkS_RX12_98 rfl rfl (Nat.le_of_ble_eq_true rfl) (Nat.le_of_ble_eq_true rfl) (Nat.le_of_ble_eq_true rfl) (Nat.le_of_ble_eq_true rfl) (Nat.le_of_ble_eq_true rfl) dX12_taken_3 ?_
  refine k_nf (cells2 := 0) (slots2 := 0) (st2 := [.int r1]) rfl rfl rfl ?_
  refine k_if_eq (pc := 6) C dX12_taken_6 (tgt := 29) (by decide) (fun hc2 => ?_) (fun hc2 => ?_)
  · rw [if_pos hc2] at h
    refine k_iconst (pc := 29) C (v := (-1 : Int32)) dX12_taken_29 (by decide) ?_
    have h := Option.some.inj h
    subst h
    exact k_iret (pc := 30) C hr hk dX12_taken_30
  · rw [if_neg hc2] at h
    refine k_iloadn (pc := 9) C dX12_taken_9 (i := 2) rfl 2 rfl ?_
    refine k_iconst (pc := 10) C (v := (0 : Int32)) dX12_taken_10 (by decide) ?_
    refine k_iconst (pc := 11) C (v := (5 : Int32)) dX12_taken_11 (by decide) ?_
    obtain ⟨r3, hr3, h⟩ := bd_e h
    refine k_S (pc := 12) (st := []) C (c_X12_in hr3) lkS_RX12_98 rfl rfl (Nat.le_of_ble_eq_true rfl) (Nat.le_of_ble_eq_true rfl) (Nat.le_of_ble_eq_true rfl) (Nat.le_of_ble_eq_true rfl) (Nat.le_of_ble_eq_true rfl) dX12_taken_12 ?_
    refine k_nf (cells2 := 0) (slots2 := 0) (st2 := [.int r3]) rfl rfl rfl ?_
    refine k_if_ne (pc := 15) C dX12_taken_15 (tgt := 31) (by decide) (fun hc4 => ?_) (fun hc4 => ?_)
    · rw [if_neg hc4] at h
      exact b_X12_taken_31 C hr hk  _ _ _ h
    · rw [if_pos hc4] at h
      refine k_iloadn (pc := 18) C dX12_taken_18 (i := 2) rfl 2 rfl ?_
      refine k_bipush (pc := 19) C (v := (10 : Int32)) dX12_taken_19 (by decide) ?_
      refine k_bipush (pc := 21) C (v := (14 : Int32)) dX12_taken_21 (by decide) ?_
      obtain ⟨r22, hr22, h⟩ := bd_e h
      refine k_S (pc := 23) (st := []) C (c_X12_in hr22) lkS_RX12_98 rfl rfl (Nat.le_of_ble_eq_true rfl) (Nat.le_of_ble_eq_true rfl) (Nat.le_of_ble_eq_true rfl) (Nat.le_of_ble_eq_true rfl) (Nat.le_of_ble_eq_true rfl) dX12_taken_23 ?_
      refine k_nf (cells2 := 0) (slots2 := 0) (st2 := [.int r22]) rfl rfl rfl ?_
      refine k_if_ne (pc := 26) C dX12_taken_26 (tgt := 31) (by decide) (fun hc23 => ?_) (fun hc23 => ?_)
      · rw [if_neg hc23] at h
        exact b_X12_taken_31 C hr hk  _ _ _ h
      · rw [if_pos hc23] at h
        refine k_iconst (pc := 29) C (v := (-1 : Int32)) dX12_taken_29 (by decide) ?_
        have h := Option.some.inj h
        subst h
        exact k_iret (pc := 30) C hr hk dX12_taken_30
theorem c_X12_taken {E : Ev} {l : Launch} {S : Sh} {R : Rw} {I : Iw} {a0 : Nat} {x1 : Int32} {x2 : Int32} {r : Int32} (h : f_X12_taken S R I a0 x1 x2 = some r) : Mt E l yX12_taken cX12_taken 4 (some .int) 3 65 [.ref (E.1 + a0), .int x1, .int x2] S R I S R I (some (.int r)) 0 0 := mt_of (by decide) (Nat.le_of_ble_eq_true rfl) (fun p e s m args below meth c C hr hk hn => b_X12_taken C hr hk _ _ _ h)
theorem lkF_RX12_344_12 : LkF RX12 344 12 31 := ⟨RX12, TX12, 34, "UnlikeNeighboursModel", fc12, by decide, (t5_in 112 (by decide +kernel) rfl), Or.inl rfl⟩
theorem lkF_RX12_95_12 : LkF RX12 95 12 30 := ⟨RX12, TX12, 34, "UnlikeNeighboursModel", fc12, by decide, (t5_in 111 (by decide +kernel) rfl), Or.inl rfl⟩
theorem lkP_RX12_344_12 : LkP RX12 344 12 31 .int := ⟨RX12, TX12, 34, "UnlikeNeighboursModel", fc12, by decide, (t5_in 112 (by decide +kernel) rfl), Or.inl rfl, rfl, by decide +kernel⟩
theorem dX12_began_0 : decode cX12_began 0 = .ok (.aload_n 0, 1) := by decide +kernel
theorem dX12_began_1 : decode cX12_began 1 = .ok (.getfield 344, 3) := by decide +kernel
theorem dX12_began_4 : decode cX12_began 4 = .ok (.bipush 30, 2) := by decide +kernel
theorem dX12_began_6 : decode cX12_began 6 = .ok (.if_icmp .ge 23, 3) := by decide +kernel
theorem dX12_began_9 : decode cX12_began 9 = .ok (.aload_n 0, 1) := by decide +kernel
theorem dX12_began_10 : decode cX12_began 10 = .ok (.getfield 95, 3) := by decide +kernel
theorem dX12_began_13 : decode cX12_began 13 = .ok (.aload_n 0, 1) := by decide +kernel
theorem dX12_began_14 : decode cX12_began 14 = .ok (.getfield 344, 3) := by decide +kernel
theorem dX12_began_17 : decode cX12_began 17 = .ok (.iload_n 1, 1) := by decide +kernel
theorem dX12_began_18 : decode cX12_began 18 = .ok (.iastore, 1) := by decide +kernel
theorem dX12_began_19 : decode cX12_began 19 = .ok (.aload_n 0, 1) := by decide +kernel
theorem dX12_began_20 : decode cX12_began 20 = .ok (.dup, 1) := by decide +kernel
theorem dX12_began_21 : decode cX12_began 21 = .ok (.getfield 344, 3) := by decide +kernel
theorem dX12_began_24 : decode cX12_began 24 = .ok (.iconst 1, 1) := by decide +kernel
theorem dX12_began_25 : decode cX12_began 25 = .ok (.iadd, 1) := by decide +kernel
theorem dX12_began_26 : decode cX12_began 26 = .ok (.putfield 344, 3) := by decide +kernel
theorem dX12_began_29 : decode cX12_began 29 = .ok (.return_, 1) := by decide +kernel
def f_X12_began (S : Sh) (R : Rw)  (I : Iw) (a0 : Nat) (x1 : Int32) : Option (Iw) := gp (sok S a0 12 34) ((if (30 : Int32) ≤ (I a0 31) then some I else rl (R a0 30) (fun b3 => gp (aok S 20 b3 (I a0 31)) (lt (up2 I b3 (I a0 31).toNatClampNeg x1) (fun I5 => lt (up2 I5 a0 31 ((I5 a0 31) + (1 : Int32))) (fun I6 => some I6))))))
set_option maxHeartbeats 4000000 in
theorem b_X12_began {E : Ev} {p : Program} {l : Launch} {e : Env} {s : State} {m : MethodId} {args : Array Value} {below : List Frame} {meth : Method} {c : Code} (C : Cx E RX12 cX12_began 2 p s m c) (hr : meth.sig.returnType = none) (hk : meth.locks = false) {S : Sh} {R : Rw} {r : Iw}  : ∀ (I : Iw) (a0 : Nat) (x1 : Int32), f_X12_began S R   I a0 x1 = some r → Wk E 2 p l e ({ frames := 0, cells := 0, slots := 0, locals := 0 } : Room) s m args below meth c 0 0 (MQ below (Qw E S R r none) args s 0 0 (fun q => E.1 ≤ q)) 0 [(0, .ref (E.1 + a0)), (1, .int x1)] [] S R I := by
  intro I a0 x1 h
  rw [f_X12_began] at h
  refine k_aloadn (pc := 0) C dX12_began_0 (i := 0) rfl 0 rfl ?_
  obtain ⟨hs10, h⟩ := gp_e h
  have hs1 := sok_e hs10
  refine k_getI (pc := 1) C lkF_RX12_344_12 hs1 ir_12_31 dX12_began_1 ?_
  refine k_bipush (pc := 4) C (v := (30 : Int32)) dX12_began_4 (by decide) ?_
  refine k_icmp_ge (pc := 6) C dX12_began_6 (tgt := 29) (by decide) (fun hc2 => ?_) (fun hc2 => ?_)
  · rw [if_pos hc2] at h
    have h := Option.some.inj h
    subst h
    exact k_vret (pc := 29) C hr hk dX12_began_29
  · rw [if_neg hc2] at h
    refine k_aloadn (pc := 9) C dX12_began_9 (i := 0) rfl 0 rfl ?_
    obtain ⟨b3, hb3, h⟩ := rl_e h
    refine k_getR (pc := 10) C lkF_RX12_95_12 hs1 ir_12_30 hb3 dX12_began_10 ?_
    refine k_aloadn (pc := 13) C dX12_began_13 (i := 0) rfl 0 rfl ?_
    refine k_getI (pc := 14) C lkF_RX12_344_12 hs1 ir_12_31 dX12_began_14 ?_
    refine k_iloadn (pc := 17) C dX12_began_17 (i := 1) rfl 1 rfl ?_
    obtain ⟨ha4, h⟩ := gp_e h
    obtain ⟨I5, eI5, h⟩ := lt_e h
    refine k_iast (pc := 18) C ha4 dX12_began_18 ?_
    rw [← eI5]
    refine k_aloadn (pc := 19) C dX12_began_19 (i := 0) rfl 0 rfl ?_
    refine k_dup (pc := 20) C dX12_began_20 rfl ?_
    refine k_getI (pc := 21) C lkF_RX12_344_12 hs1 ir_12_31 dX12_began_21 ?_
    refine k_iconst (pc := 24) C (v := (1 : Int32)) dX12_began_24 (by decide) ?_
    refine k_iadd (pc := 25) C dX12_began_25 ?_
    obtain ⟨I6, eI6, h⟩ := lt_e h
    refine k_putI (pc := 26) C lkP_RX12_344_12 hs1 ir_12_31 dX12_began_26 ?_
    rw [← eI6]
    have h := Option.some.inj h
    subst h
    exact k_vret (pc := 29) C hr hk dX12_began_29
theorem c_X12_began {E : Ev} {l : Launch} {S : Sh} {R : Rw} {I : Iw} {a0 : Nat} {x1 : Int32} {r : Iw} (h : f_X12_began S R I a0 x1 = some r) : Mt E l yX12_began cX12_began 2 none 0 0 [.ref (E.1 + a0), .int x1] S R I S R r none 0 0 := mt_of (by decide) (Nat.le_of_ble_eq_true rfl) (fun p e s m args below meth c C hr hk hn => b_X12_began C hr hk _ _ _ h)
theorem dX12_hasOwn_0 : decode cX12_hasOwn 0 = .ok (.iload_n 0, 1) := by decide +kernel
theorem dX12_hasOwn_1 : decode cX12_hasOwn 1 = .ok (.tableswitch 84 0 4 #[35, 37, 47, 58, 73], 35) := by decide +kernel
theorem dX12_hasOwn_36 : decode cX12_hasOwn 36 = .ok (.iconst 1, 1) := by decide +kernel
theorem dX12_hasOwn_37 : decode cX12_hasOwn 37 = .ok (.ireturn, 1) := by decide +kernel
theorem dX12_hasOwn_38 : decode cX12_hasOwn 38 = .ok (.iload_n 1, 1) := by decide +kernel
theorem dX12_hasOwn_39 : decode cX12_hasOwn 39 = .ok (.ifCond .ne 7, 3) := by decide +kernel
theorem dX12_hasOwn_42 : decode cX12_hasOwn 42 = .ok (.iconst 1, 1) := by decide +kernel
theorem dX12_hasOwn_43 : decode cX12_hasOwn 43 = .ok (.goto 4, 3) := by decide +kernel
theorem dX12_hasOwn_46 : decode cX12_hasOwn 46 = .ok (.iconst 0, 1) := by decide +kernel
theorem dX12_hasOwn_47 : decode cX12_hasOwn 47 = .ok (.ireturn, 1) := by decide +kernel
theorem dX12_hasOwn_48 : decode cX12_hasOwn 48 = .ok (.iload_n 1, 1) := by decide +kernel
theorem dX12_hasOwn_49 : decode cX12_hasOwn 49 = .ok (.iconst 1, 1) := by decide +kernel
theorem dX12_hasOwn_50 : decode cX12_hasOwn 50 = .ok (.if_icmp .ne 7, 3) := by decide +kernel
theorem dX12_hasOwn_53 : decode cX12_hasOwn 53 = .ok (.iconst 1, 1) := by decide +kernel
theorem dX12_hasOwn_54 : decode cX12_hasOwn 54 = .ok (.goto 4, 3) := by decide +kernel
theorem dX12_hasOwn_57 : decode cX12_hasOwn 57 = .ok (.iconst 0, 1) := by decide +kernel
theorem dX12_hasOwn_58 : decode cX12_hasOwn 58 = .ok (.ireturn, 1) := by decide +kernel
theorem dX12_hasOwn_59 : decode cX12_hasOwn 59 = .ok (.iload_n 1, 1) := by decide +kernel
theorem dX12_hasOwn_60 : decode cX12_hasOwn 60 = .ok (.ifCond .eq 8, 3) := by decide +kernel
theorem dX12_hasOwn_63 : decode cX12_hasOwn 63 = .ok (.iload_n 1, 1) := by decide +kernel
theorem dX12_hasOwn_64 : decode cX12_hasOwn 64 = .ok (.iconst 3, 1) := by decide +kernel
theorem dX12_hasOwn_65 : decode cX12_hasOwn 65 = .ok (.if_icmp .ne 7, 3) := by decide +kernel
theorem dX12_hasOwn_68 : decode cX12_hasOwn 68 = .ok (.iconst 1, 1) := by decide +kernel
theorem dX12_hasOwn_69 : decode cX12_hasOwn 69 = .ok (.goto 4, 3) := by decide +kernel
theorem dX12_hasOwn_72 : decode cX12_hasOwn 72 = .ok (.iconst 0, 1) := by decide +kernel
theorem dX12_hasOwn_73 : decode cX12_hasOwn 73 = .ok (.ireturn, 1) := by decide +kernel
theorem dX12_hasOwn_74 : decode cX12_hasOwn 74 = .ok (.iload_n 1, 1) := by decide +kernel
theorem dX12_hasOwn_75 : decode cX12_hasOwn 75 = .ok (.iconst 2, 1) := by decide +kernel
theorem dX12_hasOwn_76 : decode cX12_hasOwn 76 = .ok (.if_icmp .ne 7, 3) := by decide +kernel
theorem dX12_hasOwn_79 : decode cX12_hasOwn 79 = .ok (.iconst 1, 1) := by decide +kernel
theorem dX12_hasOwn_80 : decode cX12_hasOwn 80 = .ok (.goto 4, 3) := by decide +kernel
theorem dX12_hasOwn_83 : decode cX12_hasOwn 83 = .ok (.iconst 0, 1) := by decide +kernel
theorem dX12_hasOwn_84 : decode cX12_hasOwn 84 = .ok (.ireturn, 1) := by decide +kernel
theorem dX12_hasOwn_85 : decode cX12_hasOwn 85 = .ok (.iload_n 1, 1) := by decide +kernel
theorem dX12_hasOwn_86 : decode cX12_hasOwn 86 = .ok (.iconst 1, 1) := by decide +kernel
theorem dX12_hasOwn_87 : decode cX12_hasOwn 87 = .ok (.if_icmp .eq 8, 3) := by decide +kernel
theorem dX12_hasOwn_90 : decode cX12_hasOwn 90 = .ok (.iload_n 1, 1) := by decide +kernel
theorem dX12_hasOwn_91 : decode cX12_hasOwn 91 = .ok (.iconst 2, 1) := by decide +kernel
theorem dX12_hasOwn_92 : decode cX12_hasOwn 92 = .ok (.if_icmp .ne 7, 3) := by decide +kernel
theorem dX12_hasOwn_95 : decode cX12_hasOwn 95 = .ok (.iconst 1, 1) := by decide +kernel
theorem dX12_hasOwn_96 : decode cX12_hasOwn 96 = .ok (.goto 4, 3) := by decide +kernel
theorem dX12_hasOwn_99 : decode cX12_hasOwn 99 = .ok (.iconst 0, 1) := by decide +kernel
theorem dX12_hasOwn_100 : decode cX12_hasOwn 100 = .ok (.ireturn, 1) := by decide +kernel
def f_X12_hasOwn_68 (S : Sh) (R : Rw) (I : Iw)   : Option (Int32) := some (1 : Int32)
set_option maxHeartbeats 4000000 in
theorem b_X12_hasOwn_68 {E : Ev} {p : Program} {l : Launch} {e : Env} {s : State} {m : MethodId} {args : Array Value} {below : List Frame} {meth : Method} {c : Code} (C : Cx E RX12 cX12_hasOwn 2 p s m c) (hr : meth.sig.returnType = (some .boolean)) (hk : meth.locks = false) {S : Sh} {R : Rw} {I : Iw} {r : Int32}  : f_X12_hasOwn_68 S R I    = some r → Wk E 2 p l e ({ frames := 0, cells := 0, slots := 0, locals := 0 } : Room) s m args below meth c 0 0 (MQ below (Qw E S R I (some (.int r))) args s 0 0 (fun q => E.1 ≤ q)) 68 [] [] S R I := by
  intro  h
  rw [f_X12_hasOwn_68] at h
  refine k_iconst (pc := 68) C (v := (1 : Int32)) dX12_hasOwn_68 (by decide) ?_
  refine k_goto (pc := 69) C dX12_hasOwn_69 (tgt := 73) (by decide) ?_
  have h := Option.some.inj h
  subst h
  exact k_zret (pc := 73) C hr hk (Or.inr rfl) dX12_hasOwn_73
def f_X12_hasOwn_95 (S : Sh) (R : Rw) (I : Iw)   : Option (Int32) := some (1 : Int32)
set_option maxHeartbeats 4000000 in
theorem b_X12_hasOwn_95 {E : Ev} {p : Program} {l : Launch} {e : Env} {s : State} {m : MethodId} {args : Array Value} {below : List Frame} {meth : Method} {c : Code} (C : Cx E RX12 cX12_hasOwn 2 p s m c) (hr : meth.sig.returnType = (some .boolean)) (hk : meth.locks = false) {S : Sh} {R : Rw} {I : Iw} {r : Int32}  : f_X12_hasOwn_95 S R I    = some r → Wk E 2 p l e ({ frames := 0, cells := 0, slots := 0, locals := 0 } : Room) s m args below meth c 0 0 (MQ below (Qw E S R I (some (.int r))) args s 0 0 (fun q => E.1 ≤ q)) 95 [] [] S R I := by
  intro  h
  rw [f_X12_hasOwn_95] at h
  refine k_iconst (pc := 95) C (v := (1 : Int32)) dX12_hasOwn_95 (by decide) ?_
  refine k_goto (pc := 96) C dX12_hasOwn_96 (tgt := 100) (by decide) ?_
  have h := Option.some.inj h
  subst h
  exact k_zret (pc := 100) C hr hk (Or.inr rfl) dX12_hasOwn_100
def f_X12_hasOwn (S : Sh) (R : Rw) (I : Iw)  (x0 : Int32) (x1 : Int32) : Option (Int32) := (if x0 = (0 : Int32) then some (1 : Int32) else (if x0 = (1 : Int32) then (if x1 = 0 then some (1 : Int32) else some (0 : Int32)) else (if x0 = (2 : Int32) then (if x1 = (1 : Int32) then some (1 : Int32) else some (0 : Int32)) else (if x0 = (3 : Int32) then (if x1 = 0 then f_X12_hasOwn_68 S R I   else (if x1 = (3 : Int32) then f_X12_hasOwn_68 S R I   else some (0 : Int32))) else (if x0 = (4 : Int32) then (if x1 = (2 : Int32) then some (1 : Int32) else some (0 : Int32)) else (if x1 = (1 : Int32) then f_X12_hasOwn_95 S R I   else (if x1 = (2 : Int32) then f_X12_hasOwn_95 S R I   else some (0 : Int32))))))))
set_option maxHeartbeats 4000000 in
theorem b_X12_hasOwn {E : Ev} {p : Program} {l : Launch} {e : Env} {s : State} {m : MethodId} {args : Array Value} {below : List Frame} {meth : Method} {c : Code} (C : Cx E RX12 cX12_hasOwn 2 p s m c) (hr : meth.sig.returnType = (some .boolean)) (hk : meth.locks = false) {S : Sh} {R : Rw} {I : Iw} {r : Int32}  : ∀ (x0 : Int32) (x1 : Int32), f_X12_hasOwn S R I   x0 x1 = some r → Wk E 2 p l e ({ frames := 0, cells := 0, slots := 0, locals := 0 } : Room) s m args below meth c 0 0 (MQ below (Qw E S R I (some (.int r))) args s 0 0 (fun q => E.1 ≤ q)) 0 [(0, .int x0), (1, .int x1)] [] S R I := by
  intro x0 x1 h
  rw [f_X12_hasOwn] at h
  refine k_iloadn (pc := 0) C dX12_hasOwn_0 (i := 0) rfl 0 rfl ?_
  by_cases hc8 : x0 = (0 : Int32)
  · rw [if_pos hc8] at h
    refine k_tabIn (pc := 1) C dX12_hasOwn_1 (by rw [hc8]; decide) (by rw [hc8]; decide) (off := 35) (by rw [hc8]; rfl) (tgt := 36) (by decide) ?_
    refine k_iconst (pc := 36) C (v := (1 : Int32)) dX12_hasOwn_36 (by decide) ?_
    have h := Option.some.inj h
    subst h
    exact k_zret (pc := 37) C hr hk (Or.inr rfl) dX12_hasOwn_37
  · rw [if_neg hc8] at h
    by_cases hc9 : x0 = (1 : Int32)
    · rw [if_pos hc9] at h
      refine k_tabIn (pc := 1) C dX12_hasOwn_1 (by rw [hc9]; decide) (by rw [hc9]; decide) (off := 37) (by rw [hc9]; rfl) (tgt := 38) (by decide) ?_
      refine k_iloadn (pc := 38) C dX12_hasOwn_38 (i := 1) rfl 1 rfl ?_
      refine k_if_ne (pc := 39) C dX12_hasOwn_39 (tgt := 46) (by decide) (fun hc1 => ?_) (fun hc1 => ?_)
      · rw [if_neg hc1] at h
        refine k_iconst (pc := 46) C (v := (0 : Int32)) dX12_hasOwn_46 (by decide) ?_
        have h := Option.some.inj h
        subst h
        exact k_zret (pc := 47) C hr hk (Or.inl rfl) dX12_hasOwn_47
      · rw [if_pos hc1] at h
        refine k_iconst (pc := 42) C (v := (1 : Int32)) dX12_hasOwn_42 (by decide) ?_
        refine k_goto (pc := 43) C dX12_hasOwn_43 (tgt := 47) (by decide) ?_
        have h := Option.some.inj h
        subst h
        exact k_zret (pc := 47) C hr hk (Or.inr rfl) dX12_hasOwn_47
    · rw [if_neg hc9] at h
      by_cases hc10 : x0 = (2 : Int32)
      · rw [if_pos hc10] at h
        refine k_tabIn (pc := 1) C dX12_hasOwn_1 (by rw [hc10]; decide) (by rw [hc10]; decide) (off := 47) (by rw [hc10]; rfl) (tgt := 48) (by decide) ?_
        refine k_iloadn (pc := 48) C dX12_hasOwn_48 (i := 1) rfl 1 rfl ?_
        refine k_iconst (pc := 49) C (v := (1 : Int32)) dX12_hasOwn_49 (by decide) ?_
        refine k_icmp_ne (pc := 50) C dX12_hasOwn_50 (tgt := 57) (by decide) (fun hc2 => ?_) (fun hc2 => ?_)
        · rw [if_neg hc2] at h
          refine k_iconst (pc := 57) C (v := (0 : Int32)) dX12_hasOwn_57 (by decide) ?_
          have h := Option.some.inj h
          subst h
          exact k_zret (pc := 58) C hr hk (Or.inl rfl) dX12_hasOwn_58
        · rw [if_pos hc2] at h
          refine k_iconst (pc := 53) C (v := (1 : Int32)) dX12_hasOwn_53 (by decide) ?_
          refine k_goto (pc := 54) C dX12_hasOwn_54 (tgt := 58) (by decide) ?_
          have h := Option.some.inj h
          subst h
          exact k_zret (pc := 58) C hr hk (Or.inr rfl) dX12_hasOwn_58
      · rw [if_neg hc10] at h
        by_cases hc11 : x0 = (3 : Int32)
        · rw [if_pos hc11] at h
          refine k_tabIn (pc := 1) C dX12_hasOwn_1 (by rw [hc11]; decide) (by rw [hc11]; decide) (off := 58) (by rw [hc11]; rfl) (tgt := 59) (by decide) ?_
          refine k_iloadn (pc := 59) C dX12_hasOwn_59 (i := 1) rfl 1 rfl ?_
          refine k_if_eq (pc := 60) C dX12_hasOwn_60 (tgt := 68) (by decide) (fun hc3 => ?_) (fun hc3 => ?_)
          · rw [if_pos hc3] at h
            refine k_loc (L2 := []) [] rfl ?_
            exact b_X12_hasOwn_68 C hr hk   h
          · rw [if_neg hc3] at h
            refine k_iloadn (pc := 63) C dX12_hasOwn_63 (i := 1) rfl 1 rfl ?_
            refine k_iconst (pc := 64) C (v := (3 : Int32)) dX12_hasOwn_64 (by decide) ?_
            refine k_icmp_ne (pc := 65) C dX12_hasOwn_65 (tgt := 72) (by decide) (fun hc4 => ?_) (fun hc4 => ?_)
            · rw [if_neg hc4] at h
              refine k_iconst (pc := 72) C (v := (0 : Int32)) dX12_hasOwn_72 (by decide) ?_
              have h := Option.some.inj h
              subst h
              exact k_zret (pc := 73) C hr hk (Or.inl rfl) dX12_hasOwn_73
            · rw [if_pos hc4] at h
              refine k_loc (L2 := []) [] rfl ?_
              exact b_X12_hasOwn_68 C hr hk   h
        · rw [if_neg hc11] at h
          by_cases hc12 : x0 = (4 : Int32)
          · rw [if_pos hc12] at h
            refine k_tabIn (pc := 1) C dX12_hasOwn_1 (by rw [hc12]; decide) (by rw [hc12]; decide) (off := 73) (by rw [hc12]; rfl) (tgt := 74) (by decide) ?_
            refine k_iloadn (pc := 74) C dX12_hasOwn_74 (i := 1) rfl 1 rfl ?_
            refine k_iconst (pc := 75) C (v := (2 : Int32)) dX12_hasOwn_75 (by decide) ?_
            refine k_icmp_ne (pc := 76) C dX12_hasOwn_76 (tgt := 83) (by decide) (fun hc5 => ?_) (fun hc5 => ?_)
            · rw [if_neg hc5] at h
              refine k_iconst (pc := 83) C (v := (0 : Int32)) dX12_hasOwn_83 (by decide) ?_
              have h := Option.some.inj h
              subst h
              exact k_zret (pc := 84) C hr hk (Or.inl rfl) dX12_hasOwn_84
            · rw [if_pos hc5] at h
              refine k_iconst (pc := 79) C (v := (1 : Int32)) dX12_hasOwn_79 (by decide) ?_
              refine k_goto (pc := 80) C dX12_hasOwn_80 (tgt := 84) (by decide) ?_
              have h := Option.some.inj h
              subst h
              exact k_zret (pc := 84) C hr hk (Or.inr rfl) dX12_hasOwn_84
          · rw [if_neg hc12] at h
            refine k_tabOut (pc := 1) C dX12_hasOwn_1 (tab_out x0 0 4 (fun z h1 h2 hz => by
              have hz2 : z = 0 ∨ z = 1 ∨ z = 2 ∨ z = 3 ∨ z = 4 := by omega
              rcases hz2 with rfl | rfl | rfl | rfl | rfl
              · exact hc8 (Int32.toInt_inj.mp (hz.trans (by decide)))
              · exact hc9 (Int32.toInt_inj.mp (hz.trans (by decide)))
              · exact hc10 (Int32.toInt_inj.mp (hz.trans (by decide)))
              · exact hc11 (Int32.toInt_inj.mp (hz.trans (by decide)))
              · exact hc12 (Int32.toInt_inj.mp (hz.trans (by decide)))
              ) ) (tgt := 85) (by decide) ?_
            refine k_iloadn (pc := 85) C dX12_hasOwn_85 (i := 1) rfl 1 rfl ?_
            refine k_iconst (pc := 86) C (v := (1 : Int32)) dX12_hasOwn_86 (by decide) ?_
            refine k_icmp_eq (pc := 87) C dX12_hasOwn_87 (tgt := 95) (by decide) (fun hc6 => ?_) (fun hc6 => ?_)
            · rw [if_pos hc6] at h
              refine k_loc (L2 := []) [] rfl ?_
              exact b_X12_hasOwn_95 C hr hk   h
            · rw [if_neg hc6] at h
              refine k_iloadn (pc := 90) C dX12_hasOwn_90 (i := 1) rfl 1 rfl ?_
              refine k_iconst (pc := 91) C (v := (2 : Int32)) dX12_hasOwn_91 (by decide) ?_
              refine k_icmp_ne (pc := 92) C dX12_hasOwn_92 (tgt := 99) (by decide) (fun hc7 => ?_) (fun hc7 => ?_)
              · rw [if_neg hc7] at h
                refine k_iconst (pc := 99) C (v := (0 : Int32)) dX12_hasOwn_99 (by decide) ?_
                have h := Option.some.inj h
                subst h
                exact k_zret (pc := 100) C hr hk (Or.inl rfl) dX12_hasOwn_100
              · rw [if_pos hc7] at h
                refine k_loc (L2 := []) [] rfl ?_
                exact b_X12_hasOwn_95 C hr hk   h
theorem c_X12_hasOwn {E : Ev} {l : Launch} {S : Sh} {R : Rw} {I : Iw} {x0 : Int32} {x1 : Int32} {r : Int32} (h : f_X12_hasOwn S R I x0 x1 = some r) : Mt E l yX12_hasOwn cX12_hasOwn 2 (some .boolean) 0 0 [.int x0, .int x1] S R I S R I (some (.int r)) 0 0 := mt_of (by decide) (Nat.le_of_ble_eq_true rfl) (fun p e s m args below meth c C hr hk hn => b_X12_hasOwn C hr hk _ _ h)
theorem lkS_RX12_354 : LkS RX12 354 yX12_hasOwn cX12_hasOwn 2 (some .boolean) 2 := ⟨(t7_in 123 (by decide +kernel) rfl), (t7_in 124 (by decide +kernel) rfl), (t7_in 125 (by decide +kernel) rfl), (t1_in 7 (by decide +kernel) rfl), by decide, by decide +kernel⟩
theorem lkF_RX12_357_12 : LkF RX12 357 12 33 := ⟨RX12, TX12, 34, "UnlikeNeighboursModel", fc12, by decide, (t5_in 114 (by decide +kernel) rfl), Or.inl rfl⟩
theorem lkV_RX12_360 : LkV RX12 360 RX12 yX12_body cX12_body 7 (some .int) 3 := ⟨(t7_in 126 (by decide +kernel) rfl), (t7_in 128 (by decide +kernel) rfl), (t0_in 76 (by decide +kernel) rfl), (t7_in 129 (by decide +kernel) rfl), (t1_in 7 (by decide +kernel) rfl), by decide, by decide +kernel⟩
theorem dX12_bodyFrom_0 : decode cX12_bodyFrom 0 = .ok (.iload_n 1, 1) := by decide +kernel
theorem dX12_bodyFrom_1 : decode cX12_bodyFrom 1 = .ok (.istore 4, 2) := by decide +kernel
theorem dX12_bodyFrom_3 : decode cX12_bodyFrom 3 = .ok (.iload 4, 2) := by decide +kernel
theorem dX12_bodyFrom_5 : decode cX12_bodyFrom 5 = .ok (.iload_n 2, 1) := by decide +kernel
theorem dX12_bodyFrom_6 : decode cX12_bodyFrom 6 = .ok (.invokestatic 354, 3) := by decide +kernel
theorem dX12_bodyFrom_9 : decode cX12_bodyFrom 9 = .ok (.ifCond .ne 13, 3) := by decide +kernel
theorem dX12_bodyFrom_12 : decode cX12_bodyFrom 12 = .ok (.iload 4, 2) := by decide +kernel
theorem dX12_bodyFrom_14 : decode cX12_bodyFrom 14 = .ok (.invokestatic 221, 3) := by decide +kernel
theorem dX12_bodyFrom_17 : decode cX12_bodyFrom 17 = .ok (.istore 4, 2) := by decide +kernel
theorem dX12_bodyFrom_19 : decode cX12_bodyFrom 19 = .ok (.goto (-16), 3) := by decide +kernel
theorem dX12_bodyFrom_22 : decode cX12_bodyFrom 22 = .ok (.aload_n 0, 1) := by decide +kernel
theorem dX12_bodyFrom_23 : decode cX12_bodyFrom 23 = .ok (.getfield 357, 3) := by decide +kernel
theorem dX12_bodyFrom_26 : decode cX12_bodyFrom 26 = .ok (.ifCond .eq 7, 3) := by decide +kernel
theorem dX12_bodyFrom_29 : decode cX12_bodyFrom 29 = .ok (.iconst 0, 1) := by decide +kernel
theorem dX12_bodyFrom_30 : decode cX12_bodyFrom 30 = .ok (.goto 11, 3) := by decide +kernel
theorem dX12_bodyFrom_33 : decode cX12_bodyFrom 33 = .ok (.aload_n 0, 1) := by decide +kernel
theorem dX12_bodyFrom_34 : decode cX12_bodyFrom 34 = .ok (.iload 4, 2) := by decide +kernel
theorem dX12_bodyFrom_36 : decode cX12_bodyFrom 36 = .ok (.iload_n 2, 1) := by decide +kernel
theorem dX12_bodyFrom_37 : decode cX12_bodyFrom 37 = .ok (.iload_n 3, 1) := by decide +kernel
theorem dX12_bodyFrom_38 : decode cX12_bodyFrom 38 = .ok (.invokevirtual 360, 3) := by decide +kernel
theorem dX12_bodyFrom_41 : decode cX12_bodyFrom 41 = .ok (.ireturn, 1) := by decide +kernel
def f_X12_bodyFrom_3 (g : Sh → Rw → Iw → Nat → Int32 → Int32 → Int32 → Option (Iw × Int32)) (S : Sh) (R : Rw)  : Nat → Iw → Nat → Int32 → Int32 → Int32 → Option (Iw × Int32)
  | 0, _, _, _, _, _ => none
  | n + 1, I, a0, x2, x3, x4 => bd (f_X12_hasOwn S R I x4 x2) (fun r1 => (if r1 = 0 then bd (f_X12_above S R I x4) (fun r6 => f_X12_bodyFrom_3 g S R  n I a0 x2 x3 r6) else gp (sok S a0 12 34) ((if (I a0 33) = 0 then bd (g S R I a0 x4 x2 x3) (fun r5 => some (r5.1, r5.2)) else some (I, (0 : Int32))))))
set_option maxHeartbeats 4000000 in
theorem b_X12_bodyFrom_3 {E : Ev} {p : Program} {l : Launch} {e : Env} {s : State} {m : MethodId} {args : Array Value} {below : List Frame} {meth : Method} {c : Code} {dF dL : Nat} (C : Cx E RX12 cX12_bodyFrom 5 p s m c) (hr : meth.sig.returnType = (some .int)) (hk : meth.locks = false) {S : Sh} {R : Rw} {r : Iw × Int32} {g : Sh → Rw → Iw → Nat → Int32 → Int32 → Int32 → Option (Iw × Int32)} (hg : ∀ (S : Sh) (R : Rw) (I : Iw) (a0 : Nat) (x1 : Int32) (x2 : Int32) (x3 : Int32) (r : Iw × Int32), g S R I a0 x1 x2 x3 = some r → Mt E l yX12_body cX12_body 7 (some .int) dF dL [.ref (E.1 + a0), .int x1, .int x2, .int x3] S R I S R r.1 (some (.int r.2)) 0 0) : ∀ (n : Nat) (I : Iw) (a0 : Nat) (x2 : Int32) (x3 : Int32) (x4 : Int32), f_X12_bodyFrom_3 g S R  n I a0 x2 x3 x4 = some r → Wk E 5 p l e ({ frames := dF + 1, cells := 0, slots := 0, locals := dL + 26 } : Room) s m args below meth c 0 0 (MQ below (Qw E S R r.1 (some (.int r.2))) args s 0 0 (fun q => E.1 ≤ q)) 3 [(0, .ref (E.1 + a0)), (2, .int x2), (3, .int x3), (4, .int x4)] [] S R I := by
  intro n
  induction n with
  | zero =>
    intro I a0 x2 x3 x4 h
    rw [f_X12_bodyFrom_3] at h
    cases h
  | succ n ih =>
    intro I a0 x2 x3 x4 h
    rw [f_X12_bodyFrom_3] at h
    refine k_iload (pc := 3) C dX12_bodyFrom_3 3 rfl ?_
    refine k_iloadn (pc := 5) C dX12_bodyFrom_5 (i := 2) rfl 1 rfl ?_
    obtain ⟨r1, hr1, h⟩ := bd_e h
    refine k_S (pc := 6) (st := []) C (c_X12_hasOwn hr1) lkS_RX12_354 rfl rfl (Nat.le_of_ble_eq_true rfl) (by show 0 + 1 ≤ dF + 1; omega) (by show 8 + (2 + 11) + 0 ≤ dL + 26; omega) (Nat.le_of_ble_eq_true rfl) (Nat.le_of_ble_eq_true rfl) dX12_bodyFrom_6 ?_
    refine k_nf (cells2 := 0) (slots2 := 0) (st2 := [.int r1]) rfl rfl rfl ?_
    refine k_if_ne (pc := 9) C dX12_bodyFrom_9 (tgt := 22) (by decide) (fun hc2 => ?_) (fun hc2 => ?_)
    · rw [if_neg hc2] at h
      refine k_aloadn (pc := 22) C dX12_bodyFrom_22 (i := 0) rfl 0 rfl ?_
      obtain ⟨hs30, h⟩ := gp_e h
      have hs3 := sok_e hs30
      refine k_getI (pc := 23) C lkF_RX12_357_12 hs3 ir_12_33 dX12_bodyFrom_23 ?_
      refine k_if_eq (pc := 26) C dX12_bodyFrom_26 (tgt := 33) (by decide) (fun hc4 => ?_) (fun hc4 => ?_)
      · rw [if_pos hc4] at h
        refine k_aloadn (pc := 33) C dX12_bodyFrom_33 (i := 0) rfl 0 rfl ?_
        refine k_iload (pc := 34) C dX12_bodyFrom_34 3 rfl ?_
        refine k_iloadn (pc := 36) C dX12_bodyFrom_36 (i := 2) rfl 1 rfl ?_
        refine k_iloadn (pc := 37) C dX12_bodyFrom_37 (i := 3) rfl 2 rfl ?_
        obtain ⟨r5, hr5, h⟩ := bd_e h
        refine k_V (pc := 38) (st := []) C (hg _ _ _ _ _ _ _ _ hr5) lkV_RX12_360 hs3 rfl rfl rfl (Nat.le_of_ble_eq_true rfl) (by show dF + 1 ≤ dF + 1; omega) (by show 8 + (7 + 11) + dL ≤ dL + 26; omega) (Nat.le_of_ble_eq_true rfl) (Nat.le_of_ble_eq_true rfl) dX12_bodyFrom_38 ?_
        refine k_nf (cells2 := 0) (slots2 := 0) (st2 := [.int r5.2]) rfl rfl rfl ?_
        have h := Option.some.inj h
        subst h
        exact k_iret (pc := 41) C hr hk dX12_bodyFrom_41
      · rw [if_neg hc4] at h
        refine k_iconst (pc := 29) C (v := (0 : Int32)) dX12_bodyFrom_29 (by decide) ?_
        refine k_goto (pc := 30) C dX12_bodyFrom_30 (tgt := 41) (by decide) ?_
        have h := Option.some.inj h
        subst h
        exact k_iret (pc := 41) C hr hk dX12_bodyFrom_41
    · rw [if_pos hc2] at h
      refine k_iload (pc := 12) C dX12_bodyFrom_12 3 rfl ?_
      obtain ⟨r6, hr6, h⟩ := bd_e h
      refine k_S (pc := 14) (st := []) C (c_X12_above hr6) lkS_RX12_221 rfl rfl (Nat.le_of_ble_eq_true rfl) (by show 0 + 1 ≤ dF + 1; omega) (by show 8 + (1 + 11) + 0 ≤ dL + 26; omega) (Nat.le_of_ble_eq_true rfl) (Nat.le_of_ble_eq_true rfl) dX12_bodyFrom_14 ?_
      refine k_nf (cells2 := 0) (slots2 := 0) (st2 := [.int r6]) rfl rfl rfl ?_
      refine k_istore (pc := 17) C dX12_bodyFrom_17 (by decide) (L2 := [(0, .ref (E.1 + a0)), (2, .int x2), (3, .int x3), (4, .int r6)]) rfl ?_
      refine k_goto (pc := 19) C dX12_bodyFrom_19 (tgt := 3) (by decide) ?_
      exact ih _ _ _ _ _ h
def f_X12_bodyFrom (g : Sh → Rw → Iw → Nat → Int32 → Int32 → Int32 → Option (Iw × Int32)) (S : Sh) (R : Rw)  (I : Iw) (a0 : Nat) (x1 : Int32) (x2 : Int32) (x3 : Int32) : Option (Iw × Int32) := f_X12_bodyFrom_3 g S R  512 I a0 x2 x3 x1
set_option maxHeartbeats 4000000 in
theorem b_X12_bodyFrom {E : Ev} {p : Program} {l : Launch} {e : Env} {s : State} {m : MethodId} {args : Array Value} {below : List Frame} {meth : Method} {c : Code} {dF dL : Nat} (C : Cx E RX12 cX12_bodyFrom 5 p s m c) (hr : meth.sig.returnType = (some .int)) (hk : meth.locks = false) {S : Sh} {R : Rw} {r : Iw × Int32} {g : Sh → Rw → Iw → Nat → Int32 → Int32 → Int32 → Option (Iw × Int32)} (hg : ∀ (S : Sh) (R : Rw) (I : Iw) (a0 : Nat) (x1 : Int32) (x2 : Int32) (x3 : Int32) (r : Iw × Int32), g S R I a0 x1 x2 x3 = some r → Mt E l yX12_body cX12_body 7 (some .int) dF dL [.ref (E.1 + a0), .int x1, .int x2, .int x3] S R I S R r.1 (some (.int r.2)) 0 0) : ∀ (I : Iw) (a0 : Nat) (x1 : Int32) (x2 : Int32) (x3 : Int32), f_X12_bodyFrom g S R   I a0 x1 x2 x3 = some r → Wk E 5 p l e ({ frames := dF + 1, cells := 0, slots := 0, locals := dL + 26 } : Room) s m args below meth c 0 0 (MQ below (Qw E S R r.1 (some (.int r.2))) args s 0 0 (fun q => E.1 ≤ q)) 0 [(0, .ref (E.1 + a0)), (1, .int x1), (2, .int x2), (3, .int x3)] [] S R I := by
  intro I a0 x1 x2 x3 h
  rw [f_X12_bodyFrom] at h
  refine k_iloadn (pc := 0) C dX12_bodyFrom_0 (i := 1) rfl 1 rfl ?_
  refine k_istore (pc := 1) C dX12_bodyFrom_1 (by decide) (L2 := [(0, .ref (E.1 + a0)), (1, .int x1), (2, .int x2), (3, .int x3), (4, .int x1)]) rfl ?_
  refine k_loc (L2 := [(0, .ref (E.1 + a0)), (2, .int x2), (3, .int x3), (4, .int x1)]) [0, 2, 3, 4] rfl ?_
  exact b_X12_bodyFrom_3 C hr hk hg  _ _ _ _ _ _ h
theorem c_X12_bodyFrom {E : Ev} {l : Launch} {dF dL : Nat} {S : Sh} {R : Rw} {I : Iw} {g : Sh → Rw → Iw → Nat → Int32 → Int32 → Int32 → Option (Iw × Int32)} (hg : ∀ (S : Sh) (R : Rw) (I : Iw) (a0 : Nat) (x1 : Int32) (x2 : Int32) (x3 : Int32) (r : Iw × Int32), g S R I a0 x1 x2 x3 = some r → Mt E l yX12_body cX12_body 7 (some .int) dF dL [.ref (E.1 + a0), .int x1, .int x2, .int x3] S R I S R r.1 (some (.int r.2)) 0 0) {a0 : Nat} {x1 : Int32} {x2 : Int32} {x3 : Int32} {r : Iw × Int32} (h : f_X12_bodyFrom g S R I a0 x1 x2 x3 = some r) : Mt E l yX12_bodyFrom cX12_bodyFrom 5 (some .int) (dF + 1) (dL + 26) [.ref (E.1 + a0), .int x1, .int x2, .int x3] S R I S R r.1 (some (.int r.2)) 0 0 := mt_of (by decide) (Nat.le_of_ble_eq_true rfl) (fun p e s m args below meth c C hr hk hn => b_X12_bodyFrom C hr hk hg _ _ _ _ _ h)
theorem lkF_RX12_347_12 : LkF RX12 347 12 32 := ⟨RX12, TX12, 34, "UnlikeNeighboursModel", fc12, by decide, (t5_in 113 (by decide +kernel) rfl), Or.inl rfl⟩
theorem lkV_RX12_350 : LkV RX12 350 RX12 yX12_bodyFrom cX12_bodyFrom 5 (some .int) 3 := ⟨(t7_in 119 (by decide +kernel) rfl), (t7_in 121 (by decide +kernel) rfl), (t0_in 75 (by decide +kernel) rfl), (t7_in 122 (by decide +kernel) rfl), (t1_in 7 (by decide +kernel) rfl), by decide, by decide +kernel⟩
theorem dX12_voiced_0 : decode cX12_voiced 0 = .ok (.aload_n 0, 1) := by decide +kernel
theorem dX12_voiced_1 : decode cX12_voiced 1 = .ok (.aload_n 0, 1) := by decide +kernel
theorem dX12_voiced_2 : decode cX12_voiced 2 = .ok (.aload_n 0, 1) := by decide +kernel
theorem dX12_voiced_3 : decode cX12_voiced 3 = .ok (.getfield 347, 3) := by decide +kernel
theorem dX12_voiced_6 : decode cX12_voiced 6 = .ok (.invokevirtual 341, 3) := by decide +kernel
theorem dX12_voiced_9 : decode cX12_voiced 9 = .ok (.iload_n 1, 1) := by decide +kernel
theorem dX12_voiced_10 : decode cX12_voiced 10 = .ok (.iload_n 2, 1) := by decide +kernel
theorem dX12_voiced_11 : decode cX12_voiced 11 = .ok (.invokevirtual 350, 3) := by decide +kernel
theorem dX12_voiced_14 : decode cX12_voiced 14 = .ok (.ireturn, 1) := by decide +kernel
def f_X12_voiced (g : Sh → Rw → Iw → Nat → Int32 → Int32 → Int32 → Option (Iw × Int32)) (S : Sh) (R : Rw)  (I : Iw) (a0 : Nat) (x1 : Int32) (x2 : Int32) : Option (Iw × Int32) := gp (sok S a0 12 34) (bd (f_X12_kindOf S R I a0 (I a0 32)) (fun r2 => bd (f_X12_bodyFrom g S R I a0 r2 x1 x2) (fun r3 => some (r3.1, r3.2))))
set_option maxHeartbeats 4000000 in
theorem b_X12_voiced {E : Ev} {p : Program} {l : Launch} {e : Env} {s : State} {m : MethodId} {args : Array Value} {below : List Frame} {meth : Method} {c : Code} {dF dL : Nat} (C : Cx E RX12 cX12_voiced 3 p s m c) (hr : meth.sig.returnType = (some .int)) (hk : meth.locks = false) {S : Sh} {R : Rw} {r : Iw × Int32} {g : Sh → Rw → Iw → Nat → Int32 → Int32 → Int32 → Option (Iw × Int32)} (hg : ∀ (S : Sh) (R : Rw) (I : Iw) (a0 : Nat) (x1 : Int32) (x2 : Int32) (x3 : Int32) (r : Iw × Int32), g S R I a0 x1 x2 x3 = some r → Mt E l yX12_body cX12_body 7 (some .int) dF dL [.ref (E.1 + a0), .int x1, .int x2, .int x3] S R I S R r.1 (some (.int r.2)) 0 0) : ∀ (I : Iw) (a0 : Nat) (x1 : Int32) (x2 : Int32), f_X12_voiced g S R   I a0 x1 x2 = some r → Wk E 3 p l e ({ frames := dF + 3, cells := 0, slots := 0, locals := dL + 64 } : Room) s m args below meth c 0 0 (MQ below (Qw E S R r.1 (some (.int r.2))) args s 0 0 (fun q => E.1 ≤ q)) 0 [(0, .ref (E.1 + a0)), (1, .int x1), (2, .int x2)] [] S R I := by
  intro I a0 x1 x2 h
  rw [f_X12_voiced] at h
  refine k_aloadn (pc := 0) C dX12_voiced_0 (i := 0) rfl 0 rfl ?_
  refine k_aloadn (pc := 1) C dX12_voiced_1 (i := 0) rfl 0 rfl ?_
  refine k_aloadn (pc := 2) C dX12_voiced_2 (i := 0) rfl 0 rfl ?_
  obtain ⟨hs10, h⟩ := gp_e h
  have hs1 := sok_e hs10
  refine k_getI (pc := 3) C lkF_RX12_347_12 hs1 ir_12_32 dX12_voiced_3 ?_
  obtain ⟨r2, hr2, h⟩ := bd_e h
  refine k_V (pc := 6) (st := [.ref (E.1 + a0)]) C (c_X12_kindOf hr2) lkV_RX12_341 hs1 rfl rfl rfl (Nat.le_of_ble_eq_true rfl) (by show 2 + 1 ≤ dF + 3; omega) (by show 8 + (2 + 11) + 43 ≤ dL + 64; omega) (Nat.le_of_ble_eq_true rfl) (Nat.le_of_ble_eq_true rfl) dX12_voiced_6 ?_
  refine k_nf (cells2 := 0) (slots2 := 0) (st2 := [.int r2, .ref (E.1 + a0)]) rfl rfl rfl ?_
  refine k_iloadn (pc := 9) C dX12_voiced_9 (i := 1) rfl 1 rfl ?_
  refine k_iloadn (pc := 10) C dX12_voiced_10 (i := 2) rfl 2 rfl ?_
  obtain ⟨r3, hr3, h⟩ := bd_e h
  refine k_V (pc := 11) (st := []) C (c_X12_bodyFrom hg hr3) lkV_RX12_350 hs1 rfl rfl rfl (Nat.le_of_ble_eq_true rfl) (by show (dF + 1) + 1 ≤ dF + 3; omega) (by show 8 + (5 + 11) + (dL + 26) ≤ dL + 64; omega) (Nat.le_of_ble_eq_true rfl) (Nat.le_of_ble_eq_true rfl) dX12_voiced_11 ?_
  refine k_nf (cells2 := 0) (slots2 := 0) (st2 := [.int r3.2]) rfl rfl rfl ?_
  have h := Option.some.inj h
  subst h
  exact k_iret (pc := 14) C hr hk dX12_voiced_14
theorem c_X12_voiced {E : Ev} {l : Launch} {dF dL : Nat} {S : Sh} {R : Rw} {I : Iw} {g : Sh → Rw → Iw → Nat → Int32 → Int32 → Int32 → Option (Iw × Int32)} (hg : ∀ (S : Sh) (R : Rw) (I : Iw) (a0 : Nat) (x1 : Int32) (x2 : Int32) (x3 : Int32) (r : Iw × Int32), g S R I a0 x1 x2 x3 = some r → Mt E l yX12_body cX12_body 7 (some .int) dF dL [.ref (E.1 + a0), .int x1, .int x2, .int x3] S R I S R r.1 (some (.int r.2)) 0 0) {a0 : Nat} {x1 : Int32} {x2 : Int32} {r : Iw × Int32} (h : f_X12_voiced g S R I a0 x1 x2 = some r) : Mt E l yX12_voiced cX12_voiced 3 (some .int) (dF + 3) (dL + 64) [.ref (E.1 + a0), .int x1, .int x2] S R I S R r.1 (some (.int r.2)) 0 0 := mt_of (by decide) (Nat.le_of_ble_eq_true rfl) (fun p e s m args below meth c C hr hk hn => b_X12_voiced C hr hk hg _ _ _ _ h)
