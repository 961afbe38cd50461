/-! X12_onShelf, X12_kindOf, X12_taken, X12_began, X12_hasOwn, X12_bodyFrom, X12_voiced, X12_body -/
theorem dX12_onShelf_0 : decode cX12_onShelf 0 = .ok (.aload_n 0, 1) := by decide +kernel
theorem dX12_onShelf_1 : decode cX12_onShelf 1 = .ok (.getfield 86, 3) := by decide +kernel
theorem dX12_onShelf_4 : decode cX12_onShelf 4 = .ok (.iload_n 1, 1) := by decide +kernel
theorem dX12_onShelf_5 : decode cX12_onShelf 5 = .ok (.iaload, 1) := by decide +kernel
theorem dX12_onShelf_6 : decode cX12_onShelf 6 = .ok (.iconst 1, 1) := by decide +kernel
theorem dX12_onShelf_7 : decode cX12_onShelf 7 = .ok (.if_icmp .ne 21, 3) := by decide +kernel
theorem dX12_onShelf_10 : decode cX12_onShelf 10 = .ok (.aload_n 0, 1) := by decide +kernel
theorem dX12_onShelf_11 : decode cX12_onShelf 11 = .ok (.aload_n 0, 1) := by decide +kernel
theorem dX12_onShelf_12 : decode cX12_onShelf 12 = .ok (.getfield 89, 3) := by decide +kernel
theorem dX12_onShelf_15 : decode cX12_onShelf 15 = .ok (.iload_n 1, 1) := by decide +kernel
theorem dX12_onShelf_16 : decode cX12_onShelf 16 = .ok (.iaload, 1) := by decide +kernel
theorem dX12_onShelf_17 : decode cX12_onShelf 17 = .ok (.iconst 3, 1) := by decide +kernel
theorem dX12_onShelf_18 : decode cX12_onShelf 18 = .ok (.invokevirtual 251, 3) := by decide +kernel
theorem dX12_onShelf_21 : decode cX12_onShelf 21 = .ok (.ifCond .ne 7, 3) := by decide +kernel
theorem dX12_onShelf_24 : decode cX12_onShelf 24 = .ok (.iconst 0, 1) := by decide +kernel
theorem dX12_onShelf_25 : decode cX12_onShelf 25 = .ok (.goto 9, 3) := by decide +kernel
theorem dX12_onShelf_28 : decode cX12_onShelf 28 = .ok (.aload_n 0, 1) := by decide +kernel
theorem dX12_onShelf_29 : decode cX12_onShelf 29 = .ok (.getfield 86, 3) := by decide +kernel
theorem dX12_onShelf_32 : decode cX12_onShelf 32 = .ok (.iload_n 1, 1) := by decide +kernel
theorem dX12_onShelf_33 : decode cX12_onShelf 33 = .ok (.iaload, 1) := by decide +kernel
theorem dX12_onShelf_34 : decode cX12_onShelf 34 = .ok (.ireturn, 1) := by decide +kernel
def f_X12_onShelf_28 (S : Sh) (R : Rw) (I : Iw)  (a0 : Nat) (x1 : Int32) : Option (Int32) := gp (sok S a0 12 34) (rl (R a0 27) (fun b6 => gp (aok S 20 b6 x1) (some (I b6 x1.toNatClampNeg))))
set_option maxHeartbeats 4000000 in
theorem b_X12_onShelf_28 {E : Ev} {p : Program} {l : Launch} {e : Env} {s : State} {m : MethodId} {args : Array Value} {below : List Frame} {meth : Method} {c : Code} (C : Cx E RX12 cX12_onShelf 2 p s m c) (hr : meth.sig.returnType = (some .int)) (hk : meth.locks = false) {S : Sh} {R : Rw} {I : Iw} {r : Int32}  : ∀ (a0 : Nat) (x1 : Int32), f_X12_onShelf_28 S R I   a0 x1 = some r → Wk E 2 p l e ({ frames := 2, cells := 0, slots := 0, locals := 44 } : Room) s m args below meth c 0 0 (MQ below (Qw E S R I (some (.int r))) args s 0 0 (fun q => E.1 ≤ q)) 28 [(0, .ref (E.1 + a0)), (1, .int x1)] [] S R I := by
  intro a0 x1 h
  rw [f_X12_onShelf_28] at h
  refine k_aloadn (pc := 28) C dX12_onShelf_28 (i := 0) rfl 0 rfl ?_
  obtain ⟨hs50, h⟩ := gp_e h
  have hs5 := sok_e hs50
  obtain ⟨b6, hb6, h⟩ := rl_e h
  refine k_getR (pc := 29) C lkF_RX12_86_12 hs5 ir_12_27 hb6 dX12_onShelf_29 ?_
  refine k_iloadn (pc := 32) C dX12_onShelf_32 (i := 1) rfl 1 rfl ?_
  obtain ⟨ha7, h⟩ := gp_e h
  refine k_iald (pc := 33) C ha7 dX12_onShelf_33 ?_
  cases h
  exact k_iret (pc := 34) C hr hk dX12_onShelf_34
def f_X12_onShelf (S : Sh) (R : Rw) (I : Iw)  (a0 : Nat) (x1 : Int32) : Option (Int32) := gp (sok S a0 12 34) (rl (R a0 27) (fun b2 => gp (aok S 20 b2 x1) ((if (I b2 x1.toNatClampNeg) = (1 : Int32) then rl (R a0 28) (fun b8 => gp (aok S 20 b8 x1) (bd (f_X12_is S R I a0 (I b8 x1.toNatClampNeg) (3 : Int32)) (fun r10 => (if r10 = 0 then some (0 : Int32) else f_X12_onShelf_28 S R I  a0 x1)))) else f_X12_onShelf_28 S R I  a0 x1))))
set_option maxHeartbeats 4000000 in
theorem b_X12_onShelf {E : Ev} {p : Program} {l : Launch} {e : Env} {s : State} {m : MethodId} {args : Array Value} {below : List Frame} {meth : Method} {c : Code} (C : Cx E RX12 cX12_onShelf 2 p s m c) (hr : meth.sig.returnType = (some .int)) (hk : meth.locks = false) {S : Sh} {R : Rw} {I : Iw} {r : Int32}  : ∀ (a0 : Nat) (x1 : Int32), f_X12_onShelf S R I   a0 x1 = some r → Wk E 2 p l e ({ frames := 2, cells := 0, slots := 0, locals := 44 } : Room) s m args below meth c 0 0 (MQ below (Qw E S R I (some (.int r))) args s 0 0 (fun q => E.1 ≤ q)) 0 [(0, .ref (E.1 + a0)), (1, .int x1)] [] S R I := by
  intro a0 x1 h
  rw [f_X12_onShelf] at h
  refine k_aloadn (pc := 0) C dX12_onShelf_0 (i := 0) rfl 0 rfl ?_
  obtain ⟨hs10, h⟩ := gp_e h
  have hs1 := sok_e hs10
  obtain ⟨b2, hb2, h⟩ := rl_e h
  refine k_getR (pc := 1) C lkF_RX12_86_12 hs1 ir_12_27 hb2 dX12_onShelf_1 ?_
  refine k_iloadn (pc := 4) C dX12_onShelf_4 (i := 1) rfl 1 rfl ?_
  obtain ⟨ha3, h⟩ := gp_e h
  refine k_iald (pc := 5) C ha3 dX12_onShelf_5 ?_
  refine k_iconst (pc := 6) C (v := (1 : Int32)) dX12_onShelf_6 (by decide) ?_
  refine k_icmp_ne (pc := 7) C dX12_onShelf_7 (tgt := 28) (by decide) (fun hc4 => ?_) (fun hc4 => ?_)
  · rw [if_neg hc4] at h
    exact b_X12_onShelf_28 C hr hk  _ _ h
  · rw [if_pos hc4] at h
    refine k_aloadn (pc := 10) C dX12_onShelf_10 (i := 0) rfl 0 rfl ?_
    refine k_aloadn (pc := 11) C dX12_onShelf_11 (i := 0) rfl 0 rfl ?_
    obtain ⟨b8, hb8, h⟩ := rl_e h
    refine k_getR (pc := 12) C lkF_RX12_89_12 hs1 ir_12_28 hb8 dX12_onShelf_12 ?_
    refine k_iloadn (pc := 15) C dX12_onShelf_15 (i := 1) rfl 1 rfl ?_
    obtain ⟨ha9, h⟩ := gp_e h
    refine k_iald (pc := 16) C ha9 dX12_onShelf_16 ?_
    refine k_iconst (pc := 17) C (v := (3 : Int32)) dX12_onShelf_17 (by decide) ?_
    obtain ⟨r10, hr10, h⟩ := bd_e h
    refine k_V (pc := 18) (st := []) C (c_X12_is hr10) lkV_RX12_251 hs1 rfl rfl rfl (Nat.le_of_ble_eq_true rfl) (Nat.le_of_ble_eq_true rfl) (Nat.le_of_ble_eq_true rfl) (Nat.le_of_ble_eq_true rfl) (Nat.le_of_ble_eq_true rfl) dX12_onShelf_18 ?_
    refine k_nf (cells2 := 0) (slots2 := 0) (st2 := [.int r10]) rfl rfl rfl ?_
    refine k_if_ne (pc := 21) C dX12_onShelf_21 (tgt := 28) (by decide) (fun hc11 => ?_) (fun hc11 => ?_)
    · rw [if_neg hc11] at h
      exact b_X12_onShelf_28 C hr hk  _ _ h
    · rw [if_pos hc11] at h
      refine k_iconst (pc := 24) C (v := (0 : Int32)) dX12_onShelf_24 (by decide) ?_
      refine k_goto (pc := 25) C dX12_onShelf_25 (tgt := 34) (by decide) ?_
      cases h
      exact k_iret (pc := 34) C hr hk dX12_onShelf_34
theorem c_X12_onShelf {E : Ev} {l : Launch} {S : Sh} {R : Rw} {I : Iw} {a0 : Nat} {x1 : Int32} {r : Int32} (h : f_X12_onShelf S R I a0 x1 = some r) : Mt E l yX12_onShelf cX12_onShelf 2 (some .int) 2 44 [.ref (E.1 + a0), .int x1] S R I S R I (some (.int r)) 0 0 := mt_of (by decide) (Nat.le_of_ble_eq_true rfl) (fun p e s m args below meth c C hr hk hn => b_X12_onShelf C hr hk _ _ h)
theorem dX12_kindOf_0 : decode cX12_kindOf 0 = .ok (.aload_n 0, 1) := by decide +kernel
theorem dX12_kindOf_1 : decode cX12_kindOf 1 = .ok (.iload_n 1, 1) := by decide +kernel
theorem dX12_kindOf_2 : decode cX12_kindOf 2 = .ok (.iconst 0, 1) := by decide +kernel
theorem dX12_kindOf_3 : decode cX12_kindOf 3 = .ok (.invokevirtual 209, 3) := by decide +kernel
theorem dX12_kindOf_6 : decode cX12_kindOf 6 = .ok (.ireturn, 1) := by decide +kernel
def f_X12_kindOf (S : Sh) (R : Rw) (I : Iw)  (a0 : Nat) (x1 : Int32) : Option (Int32) := gp (sok S a0 12 34) (bd (f_X12_goodIs S R I a0 x1 (0 : Int32)) (fun r2 => some r2))
set_option maxHeartbeats 4000000 in
theorem b_X12_kindOf {E : Ev} {p : Program} {l : Launch} {e : Env} {s : State} {m : MethodId} {args : Array Value} {below : List Frame} {meth : Method} {c : Code} (C : Cx E RX12 cX12_kindOf 2 p s m c) (hr : meth.sig.returnType = (some .int)) (hk : meth.locks = false) {S : Sh} {R : Rw} {I : Iw} {r : Int32}  : ∀ (a0 : Nat) (x1 : Int32), f_X12_kindOf S R I   a0 x1 = some r → Wk E 2 p l e ({ frames := 2, cells := 0, slots := 0, locals := 43 } : Room) s m args below meth c 0 0 (MQ below (Qw E S R I (some (.int r))) args s 0 0 (fun q => E.1 ≤ q)) 0 [(0, .ref (E.1 + a0)), (1, .int x1)] [] S R I := by
  intro a0 x1 h
  rw [f_X12_kindOf] at h
  refine k_aloadn (pc := 0) C dX12_kindOf_0 (i := 0) rfl 0 rfl ?_
  refine k_iloadn (pc := 1) C dX12_kindOf_1 (i := 1) rfl 1 rfl ?_
  refine k_iconst (pc := 2) C (v := (0 : Int32)) dX12_kindOf_2 (by decide) ?_
  obtain ⟨hs10, h⟩ := gp_e h
  have hs1 := sok_e hs10
  obtain ⟨r2, hr2, h⟩ := bd_e h
  refine k_V (pc := 3) (st := []) C (c_X12_goodIs hr2) lkV_RX12_209 hs1 rfl rfl rfl (Nat.le_of_ble_eq_true rfl) (Nat.le_of_ble_eq_true rfl) (Nat.le_of_ble_eq_true rfl) (Nat.le_of_ble_eq_true rfl) (Nat.le_of_ble_eq_true rfl) dX12_kindOf_3 ?_
  refine k_nf (cells2 := 0) (slots2 := 0) (st2 := [.int r2]) rfl rfl rfl ?_
  cases h
  exact k_iret (pc := 6) C hr hk dX12_kindOf_6
theorem c_X12_kindOf {E : Ev} {l : Launch} {S : Sh} {R : Rw} {I : Iw} {a0 : Nat} {x1 : Int32} {r : Int32} (h : f_X12_kindOf S R I a0 x1 = some r) : Mt E l yX12_kindOf cX12_kindOf 2 (some .int) 2 43 [.ref (E.1 + a0), .int x1] S R I S R I (some (.int r)) 0 0 := mt_of (by decide) (Nat.le_of_ble_eq_true rfl) (fun p e s m args below meth c C hr hk hn => b_X12_kindOf C hr hk _ _ h)
theorem lkV_RX12_338 : LkV RX12 338 RX12 yX12_onShelf cX12_onShelf 2 (some .int) 1 := ⟨(t7_in 103 (by decide +kernel) rfl), (t7_in 105 (by decide +kernel) rfl), (t0_in 72 (by decide +kernel) rfl), (t7_in 106 (by decide +kernel) rfl), (t1_in 7 (by decide +kernel) rfl), by decide, by decide +kernel⟩
theorem lkV_RX12_341 : LkV RX12 341 RX12 yX12_kindOf cX12_kindOf 2 (some .int) 1 := ⟨(t7_in 107 (by decide +kernel) rfl), (t7_in 109 (by decide +kernel) rfl), (t0_in 73 (by decide +kernel) rfl), (t7_in 110 (by decide +kernel) rfl), (t1_in 7 (by decide +kernel) rfl), by decide, by decide +kernel⟩
theorem dX12_taken_0 : decode cX12_taken 0 = .ok (.iload_n 1, 1) := by decide +kernel
theorem dX12_taken_1 : decode cX12_taken 1 = .ok (.iconst 0, 1) := by decide +kernel
theorem dX12_taken_2 : decode cX12_taken 2 = .ok (.iconst 3, 1) := by decide +kernel
theorem dX12_taken_3 : decode cX12_taken 3 = .ok (.invokestatic 98, 3) := by decide +kernel
theorem dX12_taken_6 : decode cX12_taken 6 = .ok (.ifCond .eq 23, 3) := by decide +kernel
theorem dX12_taken_9 : decode cX12_taken 9 = .ok (.iload_n 2, 1) := by decide +kernel
theorem dX12_taken_10 : decode cX12_taken 10 = .ok (.iconst 0, 1) := by decide +kernel
theorem dX12_taken_11 : decode cX12_taken 11 = .ok (.iconst 5, 1) := by decide +kernel
theorem dX12_taken_12 : decode cX12_taken 12 = .ok (.invokestatic 98, 3) := by decide +kernel
theorem dX12_taken_15 : decode cX12_taken 15 = .ok (.ifCond .ne 16, 3) := by decide +kernel
theorem dX12_taken_18 : decode cX12_taken 18 = .ok (.iload_n 2, 1) := by decide +kernel
theorem dX12_taken_19 : decode cX12_taken 19 = .ok (.bipush 10, 2) := by decide +kernel
theorem dX12_taken_21 : decode cX12_taken 21 = .ok (.bipush 14, 2) := by decide +kernel
theorem dX12_taken_23 : decode cX12_taken 23 = .ok (.invokestatic 98, 3) := by decide +kernel
theorem dX12_taken_26 : decode cX12_taken 26 = .ok (.ifCond .ne 5, 3) := by decide +kernel
theorem dX12_taken_29 : decode cX12_taken 29 = .ok (.iconst (-1), 1) := by decide +kernel
theorem dX12_taken_30 : decode cX12_taken 30 = .ok (.ireturn, 1) := by decide +kernel
theorem dX12_taken_31 : decode cX12_taken 31 = .ok (.aload_n 0, 1) := by decide +kernel
theorem dX12_taken_32 : decode cX12_taken 32 = .ok (.iload_n 1, 1) := by decide +kernel
theorem dX12_taken_33 : decode cX12_taken 33 = .ok (.invokevirtual 338, 3) := by decide +kernel
theorem dX12_taken_36 : decode cX12_taken 36 = .ok (.istore_n 3, 1) := by decide +kernel
theorem dX12_taken_37 : decode cX12_taken 37 = .ok (.iload_n 3, 1) := by decide +kernel
theorem dX12_taken_38 : decode cX12_taken 38 = .ok (.ifCond .ne 6, 3) := by decide +kernel
theorem dX12_taken_41 : decode cX12_taken 41 = .ok (.bipush (-11), 2) := by decide +kernel
theorem dX12_taken_43 : decode cX12_taken 43 = .ok (.ireturn, 1) := by decide +kernel
theorem dX12_taken_44 : decode cX12_taken 44 = .ok (.iload_n 3, 1) := by decide +kernel
theorem dX12_taken_45 : decode cX12_taken 45 = .ok (.iconst 2, 1) := by decide +kernel
theorem dX12_taken_46 : decode cX12_taken 46 = .ok (.if_icmp .ne 28, 3) := by decide +kernel
theorem dX12_taken_49 : decode cX12_taken 49 = .ok (.iload_n 2, 1) := by decide +kernel
theorem dX12_taken_50 : decode cX12_taken 50 = .ok (.bipush 10, 2) := by decide +kernel
theorem dX12_taken_52 : decode cX12_taken 52 = .ok (.aload_n 0, 1) := by decide +kernel
theorem dX12_taken_53 : decode cX12_taken 53 = .ok (.getfield 89, 3) := by decide +kernel
theorem dX12_taken_56 : decode cX12_taken 56 = .ok (.iload_n 1, 1) := by decide +kernel
theorem dX12_taken_57 : decode cX12_taken 57 = .ok (.iaload, 1) := by decide +kernel
theorem dX12_taken_58 : decode cX12_taken 58 = .ok (.iadd, 1) := by decide +kernel
theorem dX12_taken_59 : decode cX12_taken 59 = .ok (.if_icmp .ne 12, 3) := by decide +kernel
theorem dX12_taken_62 : decode cX12_taken 62 = .ok (.aload_n 0, 1) := by decide +kernel
theorem dX12_taken_63 : decode cX12_taken 63 = .ok (.getfield 92, 3) := by decide +kernel
theorem dX12_taken_66 : decode cX12_taken 66 = .ok (.iload_n 1, 1) := by decide +kernel
theorem dX12_taken_67 : decode cX12_taken 67 = .ok (.iaload, 1) := by decide +kernel
theorem dX12_taken_68 : decode cX12_taken 68 = .ok (.goto 5, 3) := by decide +kernel
theorem dX12_taken_71 : decode cX12_taken 71 = .ok (.bipush (-13), 2) := by decide +kernel
theorem dX12_taken_73 : decode cX12_taken 73 = .ok (.ireturn, 1) := by decide +kernel
theorem dX12_taken_74 : decode cX12_taken 74 = .ok (.iload_n 2, 1) := by decide +kernel
theorem dX12_taken_75 : decode cX12_taken 75 = .ok (.iconst 5, 1) := by decide +kernel
theorem dX12_taken_76 : decode cX12_taken 76 = .ok (.if_icmp .gt 29, 3) := by decide +kernel
theorem dX12_taken_79 : decode cX12_taken 79 = .ok (.aload_n 0, 1) := by decide +kernel
theorem dX12_taken_80 : decode cX12_taken 80 = .ok (.aload_n 0, 1) := by decide +kernel
theorem dX12_taken_81 : decode cX12_taken 81 = .ok (.getfield 89, 3) := by decide +kernel
theorem dX12_taken_84 : decode cX12_taken 84 = .ok (.iload_n 1, 1) := by decide +kernel
theorem dX12_taken_85 : decode cX12_taken 85 = .ok (.iaload, 1) := by decide +kernel
theorem dX12_taken_86 : decode cX12_taken 86 = .ok (.invokevirtual 341, 3) := by decide +kernel
theorem dX12_taken_89 : decode cX12_taken 89 = .ok (.iload_n 2, 1) := by decide +kernel
theorem dX12_taken_90 : decode cX12_taken 90 = .ok (.invokestatic 224, 3) := by decide +kernel
theorem dX12_taken_93 : decode cX12_taken 93 = .ok (.ifCond .eq 12, 3) := by decide +kernel
theorem dX12_taken_96 : decode cX12_taken 96 = .ok (.aload_n 0, 1) := by decide +kernel
theorem dX12_taken_97 : decode cX12_taken 97 = .ok (.getfield 89, 3) := by decide +kernel
theorem dX12_taken_100 : decode cX12_taken 100 = .ok (.iload_n 1, 1) := by decide +kernel
theorem dX12_taken_101 : decode cX12_taken 101 = .ok (.iaload, 1) := by decide +kernel
theorem dX12_taken_102 : decode cX12_taken 102 = .ok (.goto 5, 3) := by decide +kernel
theorem dX12_taken_105 : decode cX12_taken 105 = .ok (.bipush (-13), 2) := by decide +kernel
theorem dX12_taken_107 : decode cX12_taken 107 = .ok (.ireturn, 1) := by decide +kernel
def f_X12_taken_31 (S : Sh) (R : Rw) (I : Iw)  (a0 : Nat) (x1 : Int32) (x2 : Int32) : Option (Int32) := gp (sok S a0 12 34) (bd (f_X12_onShelf S R I a0 x1) (fun r6 => (if r6 = 0 then some (-11 : Int32) else (if r6 = (2 : Int32) then rl (R a0 28) (fun b17 => gp (aok S 20 b17 x1) ((if x2 = ((10 : Int32) + (I b17 x1.toNatClampNeg)) then rl (R a0 29) (fun b20 => gp (aok S 20 b20 x1) (some (I b20 x1.toNatClampNeg))) else some (-13 : Int32)))) else (if (5 : Int32) < x2 then some (-13 : Int32) else rl (R a0 28) (fun b10 => gp (aok S 20 b10 x1) (bd (f_X12_kindOf S R I a0 (I b10 x1.toNatClampNeg)) (fun r12 => bd (f_X12_isUnder S R I r12 x2) (fun r13 => (if r13 = 0 then some (-13 : Int32) else rl (R a0 28) (fun b15 => gp (aok S 20 b15 x1) (some (I b15 x1.toNatClampNeg)))))))))))))
set_option maxHeartbeats 4000000 in
theorem b_X12_taken_31 {E : Ev} {p : Program} {l : Launch} {e : Env} {s : State} {m : MethodId} {args : Array Value} {below : List Frame} {meth : Method} {c : Code} (C : Cx E RX12 cX12_taken 4 p s m c) (hr : meth.sig.returnType = (some .int)) (hk : meth.locks = false) {S : Sh} {R : Rw} {I : Iw} {r : Int32}  : ∀ (a0 : Nat) (x1 : Int32) (x2 : Int32), f_X12_taken_31 S R I   a0 x1 x2 = some r → Wk E 4 p l e ({ frames := 3, cells := 0, slots := 0, locals := 65 } : Room) s m args below meth c 0 0 (MQ below (Qw E S R I (some (.int r))) args s 0 0 (fun q => E.1 ≤ q)) 31 [(0, .ref (E.1 + a0)), (1, .int x1), (2, .int x2)] [] S R I := by
  intro a0 x1 x2 h
  rw [f_X12_taken_31] at h
  refine k_aloadn (pc := 31) C dX12_taken_31 (i := 0) rfl 0 rfl ?_
  refine k_iloadn (pc := 32) C dX12_taken_32 (i := 1) rfl 1 rfl ?_
  obtain ⟨hs50, h⟩ := gp_e h
  have hs5 := sok_e hs50
  obtain ⟨r6, hr6, h⟩ := bd_e h
  refine k_V (pc := 33) (st := []) C (c_X12_onShelf hr6) lkV_RX12_338 hs5 rfl rfl rfl (Nat.le_of_ble_eq_true rfl) (Nat.le_of_ble_eq_true rfl) (Nat.le_of_ble_eq_true rfl) (Nat.le_of_ble_eq_true rfl) (Nat.le_of_ble_eq_true rfl) dX12_taken_33 ?_
  refine k_nf (cells2 := 0) (slots2 := 0) (st2 := [.int r6]) rfl rfl rfl ?_
  refine k_istoren (pc := 36) C dX12_taken_36 (i := 3) rfl (by decide) (L2 := [(0, .ref (E.1 + a0)), (1, .int x1), (2, .int x2), (3, .int r6)]) rfl ?_
  refine k_iloadn (pc := 37) C dX12_taken_37 (i := 3) rfl 3 rfl ?_
  refine k_if_ne (pc := 38) C dX12_taken_38 (tgt := 44) (by decide) (fun hc7 => ?_) (fun hc7 => ?_)
  · rw [if_neg hc7] at h
    refine k_iloadn (pc := 44) C dX12_taken_44 (i := 3) rfl 3 rfl ?_
    refine k_iconst (pc := 45) C (v := (2 : Int32)) dX12_taken_45 (by decide) ?_
    refine k_icmp_ne (pc := 46) C dX12_taken_46 (tgt := 74) (by decide) (fun hc8 => ?_) (fun hc8 => ?_)
    · rw [if_neg hc8] at h
      refine k_iloadn (pc := 74) C dX12_taken_74 (i := 2) rfl 2 rfl ?_
      refine k_iconst (pc := 75) C (v := (5 : Int32)) dX12_taken_75 (by decide) ?_
      refine k_icmp_gt (pc := 76) C dX12_taken_76 (tgt := 105) (by decide) (fun hc9 => ?_) (fun hc9 => ?_)
      · rw [if_pos hc9] at h
        refine k_bipush (pc := 105) C (v := (-13 : Int32)) dX12_taken_105 (by decide) ?_
        cases h
        exact k_iret (pc := 107) C hr hk dX12_taken_107
      · rw [if_neg hc9] at h
        refine k_aloadn (pc := 79) C dX12_taken_79 (i := 0) rfl 0 rfl ?_
        refine k_aloadn (pc := 80) C dX12_taken_80 (i := 0) rfl 0 rfl ?_
        obtain ⟨b10, hb10, h⟩ := rl_e h
        refine k_getR (pc := 81) C lkF_RX12_89_12 hs5 ir_12_28 hb10 dX12_taken_81 ?_
        refine k_iloadn (pc := 84) C dX12_taken_84 (i := 1) rfl 1 rfl ?_
        obtain ⟨ha11, h⟩ := gp_e h
        refine k_iald (pc := 85) C ha11 dX12_taken_85 ?_
        obtain ⟨r12, hr12, h⟩ := bd_e h
        refine k_V (pc := 86) (st := []) C (c_X12_kindOf hr12) lkV_RX12_341 hs5 rfl rfl rfl (Nat.le_of_ble_eq_true rfl) (Nat.le_of_ble_eq_true rfl) (Nat.le_of_ble_eq_true rfl) (Nat.le_of_ble_eq_true rfl) (Nat.le_of_ble_eq_true rfl) dX12_taken_86 ?_
        refine k_nf (cells2 := 0) (slots2 := 0) (st2 := [.int r12]) rfl rfl rfl ?_
        refine k_iloadn (pc := 89) C dX12_taken_89 (i := 2) rfl 2 rfl ?_
        obtain ⟨r13, hr13, h⟩ := bd_e h
        refine k_S (pc := 90) (st := []) C (c_X12_isUnder hr13) lkS_RX12_224 rfl rfl (Nat.le_of_ble_eq_true rfl) (Nat.le_of_ble_eq_true rfl) (Nat.le_of_ble_eq_true rfl) (Nat.le_of_ble_eq_true rfl) (Nat.le_of_ble_eq_true rfl) dX12_taken_90 ?_
        refine k_nf (cells2 := 0) (slots2 := 0) (st2 := [.int r13]) rfl rfl rfl ?_
        refine k_if_eq (pc := 93) C dX12_taken_93 (tgt := 105) (by decide) (fun hc14 => ?_) (fun hc14 => ?_)
        · rw [if_pos hc14] at h
          refine k_bipush (pc := 105) C (v := (-13 : Int32)) dX12_taken_105 (by decide) ?_
          cases h
          exact k_iret (pc := 107) C hr hk dX12_taken_107
        · rw [if_neg hc14] at h
          refine k_aloadn (pc := 96) C dX12_taken_96 (i := 0) rfl 0 rfl ?_
          obtain ⟨b15, hb15, h⟩ := rl_e h
          refine k_getR (pc := 97) C lkF_RX12_89_12 hs5 ir_12_28 hb15 dX12_taken_97 ?_
          refine k_iloadn (pc := 100) C dX12_taken_100 (i := 1) rfl 1 rfl ?_
          obtain ⟨ha16, h⟩ := gp_e h
          refine k_iald (pc := 101) C ha16 dX12_taken_101 ?_
          refine k_goto (pc := 102) C dX12_taken_102 (tgt := 107) (by decide) ?_
          cases h
          exact k_iret (pc := 107) C hr hk dX12_taken_107
    · rw [if_pos hc8] at h
      refine k_iloadn (pc := 49) C dX12_taken_49 (i := 2) rfl 2 rfl ?_
      refine k_bipush (pc := 50) C (v := (10 : Int32)) dX12_taken_50 (by decide) ?_
      refine k_aloadn (pc := 52) C dX12_taken_52 (i := 0) rfl 0 rfl ?_
      obtain ⟨b17, hb17, h⟩ := rl_e h
      refine k_getR (pc := 53) C lkF_RX12_89_12 hs5 ir_12_28 hb17 dX12_taken_53 ?_
      refine k_iloadn (pc := 56) C dX12_taken_56 (i := 1) rfl 1 rfl ?_
      obtain ⟨ha18, h⟩ := gp_e h
      refine k_iald (pc := 57) C ha18 dX12_taken_57 ?_
      refine k_iadd (pc := 58) C dX12_taken_58 ?_
      refine k_icmp_ne (pc := 59) C dX12_taken_59 (tgt := 71) (by decide) (fun hc19 => ?_) (fun hc19 => ?_)
      · rw [if_neg hc19] at h
        refine k_bipush (pc := 71) C (v := (-13 : Int32)) dX12_taken_71 (by decide) ?_
        cases h
        exact k_iret (pc := 73) C hr hk dX12_taken_73
      · rw [if_pos hc19] at h
        refine k_aloadn (pc := 62) C dX12_taken_62 (i := 0) rfl 0 rfl ?_
        obtain ⟨b20, hb20, h⟩ := rl_e h
        refine k_getR (pc := 63) C lkF_RX12_92_12 hs5 ir_12_29 hb20 dX12_taken_63 ?_
        refine k_iloadn (pc := 66) C dX12_taken_66 (i := 1) rfl 1 rfl ?_
        obtain ⟨ha21, h⟩ := gp_e h
        refine k_iald (pc := 67) C ha21 dX12_taken_67 ?_
        refine k_goto (pc := 68) C dX12_taken_68 (tgt := 73) (by decide) ?_
        cases h
        exact k_iret (pc := 73) C hr hk dX12_taken_73
  · rw [if_pos hc7] at h
    refine k_bipush (pc := 41) C (v := (-11 : Int32)) dX12_taken_41 (by decide) ?_
    cases h
    exact k_iret (pc := 43) C hr hk dX12_taken_43
def f_X12_taken (S : Sh) (R : Rw) (I : Iw)  (a0 : Nat) (x1 : Int32) (x2 : Int32) : Option (Int32) := bd (f_X12_in S R I x1 (0 : Int32) (3 : Int32)) (fun r1 => (if r1 = 0 then some (-1 : Int32) else bd (f_X12_in S R I x2 (0 : Int32) (5 : Int32)) (fun r3 => (if r3 = 0 then bd (f_X12_in S R I x2 (10 : Int32) (14 : Int32)) (fun r22 => (if r22 = 0 then some (-1 : Int32) else f_X12_taken_31 S R I  a0 x1 x2)) else f_X12_taken_31 S R I  a0 x1 x2))))
set_option maxHeartbeats 4000000 in
theorem b_X12_taken {E : Ev} {p : Program} {l : Launch} {e : Env} {s : State} {m : MethodId} {args : Array Value} {below : List Frame} {meth : Method} {c : Code} (C : Cx E RX12 cX12_taken 4 p s m c) (hr : meth.sig.returnType = (some .int)) (hk : meth.locks = false) {S : Sh} {R : Rw} {I : Iw} {r : Int32}  : ∀ (a0 : Nat) (x1 : Int32) (x2 : Int32), f_X12_taken S R I   a0 x1 x2 = some r → Wk E 4 p l e ({ frames := 3, cells := 0, slots := 0, locals := 65 } : Room) s m args below meth c 0 0 (MQ below (Qw E S R I (some (.int r))) args s 0 0 (fun q => E.1 ≤ q)) 0 [(0, .ref (E.1 + a0)), (1, .int x1), (2, .int x2)] [] S R I := by
  intro a0 x1 x2 h
  rw [f_X12_taken] at h
  refine k_iloadn (pc := 0) C dX12_taken_0 (i := 1) rfl 1 rfl ?_
  refine k_iconst (pc := 1) C (v := (0 : Int32)) dX12_taken_1 (by decide) ?_
  refine k_iconst (pc := 2) C (v := (3 : Int32)) dX12_taken_2 (by decide) ?_
  obtain ⟨r1, hr1, h⟩ := bd_e h
  refine k_S (pc := 3) (st := []) C (c_X12_in hr1) lkS_RX12_98 rfl rfl (Nat.le_of_ble_eq_true rfl) (Nat.le_of_ble_eq_true rfl) (Nat.le_of_ble_eq_true rfl) (Nat.le_of_ble_eq_true rfl) (Nat.le_of_ble_eq_true rfl) dX12_taken_3 ?_
  refine k_nf (cells2 := 0) (slots2 := 0) (st2 := [.int r1]) rfl rfl rfl ?_
  refine k_if_eq (pc := 6) C dX12_taken_6 (tgt := 29) (by decide) (fun hc2 => ?_) (fun hc2 => ?_)
  · rw [if_pos hc2] at h
    refine k_iconst (pc := 29) C (v := (-1 : Int32)) dX12_taken_29 (by decide) ?_
    cases h
    exact k_iret (pc := 30) C hr hk dX12_taken_30
  · rw [if_neg hc2] at h
    refine k_iloadn (pc := 9) C dX12_taken_9 (i := 2) rfl 2 rfl ?_
    refine k_iconst (pc := 10) C (v := (0 : Int32)) dX12_taken_10 (by decide) ?_
    refine k_iconst (pc := 11) C (v := (5 : Int32)) dX12_taken_11 (by decide) ?_
    obtain ⟨r3, hr3, h⟩ := bd_e h
    refine k_S (pc := 12) (st := []) C (c_X12_in hr3) lkS_RX12_98 rfl rfl (Nat.le_of_ble_eq_true rfl) (Nat.le_of_ble_eq_true rfl) (Nat.le_of_ble_eq_true rfl) (Nat.le_of_ble_eq_true rfl) (Nat.le_of_ble_eq_true rfl) dX12_taken_12 ?_
    refine k_nf (cells2 := 0) (slots2 := 0) (st2 := [.int r3]) rfl rfl rfl ?_
    refine k_if_ne (pc := 15) C dX12_taken_15 (tgt := 31) (by decide) (fun hc4 => ?_) (fun hc4 => ?_)
    · rw [if_neg hc4] at h
      exact b_X12_taken_31 C hr hk  _ _ _ h
    · rw [if_pos hc4] at h
      refine k_iloadn (pc := 18) C dX12_taken_18 (i := 2) rfl 2 rfl ?_
      refine k_bipush (pc := 19) C (v := (10 : Int32)) dX12_taken_19 (by decide) ?_
      refine k_bipush (pc := 21) C (v := (14 : Int32)) dX12_taken_21 (by decide) ?_
      obtain ⟨r22, hr22, h⟩ := bd_e h
      refine k_S (pc := 23) (st := []) C (c_X12_in hr22) lkS_RX12_98 rfl rfl (Nat.le_of_ble_eq_true rfl) (Nat.le_of_ble_eq_true rfl) (Nat.le_of_ble_eq_true rfl) (Nat.le_of_ble_eq_true rfl) (Nat.le_of_ble_eq_true rfl) dX12_taken_23 ?_
      refine k_nf (cells2 := 0) (slots2 := 0) (st2 := [.int r22]) rfl rfl rfl ?_
      refine k_if_ne (pc := 26) C dX12_taken_26 (tgt := 31) (by decide) (fun hc23 => ?_) (fun hc23 => ?_)
      · rw [if_neg hc23] at h
        exact b_X12_taken_31 C hr hk  _ _ _ h
      · rw [if_pos hc23] at h
        refine k_iconst (pc := 29) C (v := (-1 : Int32)) dX12_taken_29 (by decide) ?_
        cases h
        exact k_iret (pc := 30) C hr hk dX12_taken_30
theorem c_X12_taken {E : Ev} {l : Launch} {S : Sh} {R : Rw} {I : Iw} {a0 : Nat} {x1 : Int32} {x2 : Int32} {r : Int32} (h : f_X12_taken S R I a0 x1 x2 = some r) : Mt E l yX12_taken cX12_taken 4 (some .int) 3 65 [.ref (E.1 + a0), .int x1, .int x2] S R I S R I (some (.int r)) 0 0 := mt_of (by decide) (Nat.le_of_ble_eq_true rfl) (fun p e s m args below meth c C hr hk hn => b_X12_taken C hr hk _ _ _ h)
theorem lkF_RX12_344_12 : LkF RX12 344 12 31 := ⟨RX12, TX12, 34, "UnlikeNeighboursModel", fc12, by decide, (t5_in 112 (by decide +kernel) rfl), Or.inl rfl⟩
theorem lkF_RX12_95_12 : LkF RX12 95 12 30 := ⟨RX12, TX12, 34, "UnlikeNeighboursModel", fc12, by decide, (t5_in 111 (by decide +kernel) rfl), Or.inl rfl⟩
theorem lkP_RX12_344_12 : LkP RX12 344 12 31 .int := ⟨RX12, TX12, 34, "UnlikeNeighboursModel", fc12, by decide, (t5_in 112 (by decide +kernel) rfl), Or.inl rfl, rfl, by decide +kernel⟩
theorem dX12_began_0 : decode cX12_began 0 = .ok (.aload_n 0, 1) := by decide +kernel
theorem dX12_began_1 : decode cX12_began 1 = .ok (.getfield 344, 3) := by decide +kernel
theorem dX12_began_4 : decode cX12_began 4 = .ok (.bipush 30, 2) := by decide +kernel
theorem dX12_began_6 : decode cX12_began 6 = .ok (.if_icmp .ge 23, 3) := by decide +kernel
theorem dX12_began_9 : decode cX12_began 9 = .ok (.aload_n 0, 1) := by decide +kernel
theorem dX12_began_10 : decode cX12_began 10 = .ok (.getfield 95, 3) := by decide +kernel
theorem dX12_began_13 : decode cX12_began 13 = .ok (.aload_n 0, 1) := by decide +kernel
theorem dX12_began_14 : decode cX12_began 14 = .ok (.getfield 344, 3) := by decide +kernel
theorem dX12_began_17 : decode cX12_began 17 = .ok (.iload_n 1, 1) := by decide +kernel
theorem dX12_began_18 : decode cX12_began 18 = .ok (.iastore, 1) := by decide +kernel
theorem dX12_began_19 : decode cX12_began 19 = .ok (.aload_n 0, 1) := by decide +kernel
theorem dX12_began_20 : decode cX12_began 20 = .ok (.dup, 1) := by decide +kernel
theorem dX12_began_21 : decode cX12_began 21 = .ok (.getfield 344, 3) := by decide +kernel
theorem dX12_began_24 : decode cX12_began 24 = .ok (.iconst 1, 1) := by decide +kernel
theorem dX12_began_25 : decode cX12_began 25 = .ok (.iadd, 1) := by decide +kernel
theorem dX12_began_26 : decode cX12_began 26 = .ok (.putfield 344, 3) := by decide +kernel
theorem dX12_began_29 : decode cX12_began 29 = .ok (.return_, 1) := by decide +kernel
def f_X12_began (S : Sh) (R : Rw)  (I : Iw) (a0 : Nat) (x1 : Int32) : Option (Iw) := gp (sok S a0 12 34) ((if (30 : Int32) ≤ (I a0 31) then some I else rl (R a0 30) (fun b3 => gp (aok S 20 b3 (I a0 31)) (lt (up2 I b3 (I a0 31).toNatClampNeg x1) (fun I5 => lt (up2 I5 a0 31 ((I5 a0 31) + (1 : Int32))) (fun I6 => some I6))))))
set_option maxHeartbeats 4000000 in
theorem b_X12_began {E : Ev} {p : Program} {l : Launch} {e : Env} {s : State} {m : MethodId} {args : Array Value} {below : List Frame} {meth : Method} {c : Code} (C : Cx E RX12 cX12_began 2 p s m c) (hr : meth.sig.returnType = none) (hk : meth.locks = false) {S : Sh} {R : Rw} {r : Iw}  : ∀ (I : Iw) (a0 : Nat) (x1 : Int32), f_X12_began S R   I a0 x1 = some r → Wk E 2 p l e ({ frames := 0, cells := 0, slots := 0, locals := 0 } : Room) s m args below meth c 0 0 (MQ below (Qw E S R r none) args s 0 0 (fun q => E.1 ≤ q)) 0 [(0, .ref (E.1 + a0)), (1, .int x1)] [] S R I := by
  intro I a0 x1 h
  rw [f_X12_began] at h
  refine k_aloadn (pc := 0) C dX12_began_0 (i := 0) rfl 0 rfl ?_
  obtain ⟨hs10, h⟩ := gp_e h
  have hs1 := sok_e hs10
  refine k_getI (pc := 1) C lkF_RX12_344_12 hs1 ir_12_31 dX12_began_1 ?_
  refine k_bipush (pc := 4) C (v := (30 : Int32)) dX12_began_4 (by decide) ?_
  refine k_icmp_ge (pc := 6) C dX12_began_6 (tgt := 29) (by decide) (fun hc2 => ?_) (fun hc2 => ?_)
  · rw [if_pos hc2] at h
    cases h
    exact k_vret (pc := 29) C hr hk dX12_began_29
  · rw [if_neg hc2] at h
    refine k_aloadn (pc := 9) C dX12_began_9 (i := 0) rfl 0 rfl ?_
    obtain ⟨b3, hb3, h⟩ := rl_e h
    refine k_getR (pc := 10) C lkF_RX12_95_12 hs1 ir_12_30 hb3 dX12_began_10 ?_
    refine k_aloadn (pc := 13) C dX12_began_13 (i := 0) rfl 0 rfl ?_
    refine k_getI (pc := 14) C lkF_RX12_344_12 hs1 ir_12_31 dX12_began_14 ?_
    refine k_iloadn (pc := 17) C dX12_began_17 (i := 1) rfl 1 rfl ?_
    obtain ⟨ha4, h⟩ := gp_e h
    obtain ⟨I5, eI5, h⟩ := lt_e h
    refine k_iast (pc := 18) C ha4 dX12_began_18 ?_
    rw [← eI5]
    refine k_aloadn (pc := 19) C dX12_began_19 (i := 0) rfl 0 rfl ?_
    refine k_dup (pc := 20) C dX12_began_20 rfl ?_
    refine k_getI (pc := 21) C lkF_RX12_344_12 hs1 ir_12_31 dX12_began_21 ?_
    refine k_iconst (pc := 24) C (v := (1 : Int32)) dX12_began_24 (by decide) ?_
    refine k_iadd (pc := 25) C dX12_began_25 ?_
    obtain ⟨I6, eI6, h⟩ := lt_e h
    refine k_putI (pc := 26) C lkP_RX12_344_12 hs1 ir_12_31 dX12_began_26 ?_
    rw [← eI6]
    cases h
    exact k_vret (pc := 29) C hr hk dX12_began_29
theorem c_X12_began {E : Ev} {l : Launch} {S : Sh} {R : Rw} {I : Iw} {a0 : Nat} {x1 : Int32} {r : Iw} (h : f_X12_began S R I a0 x1 = some r) : Mt E l yX12_began cX12_began 2 none 0 0 [.ref (E.1 + a0), .int x1] S R I S R r none 0 0 := mt_of (by decide) (Nat.le_of_ble_eq_true rfl) (fun p e s m args below meth c C hr hk hn => b_X12_began C hr hk _ _ _ h)
theorem dX12_hasOwn_0 : decode cX12_hasOwn 0 = .ok (.iload_n 0, 1) := by decide +kernel
theorem dX12_hasOwn_1 : decode cX12_hasOwn 1 = .ok (.tableswitch 84 0 4 #[35, 37, 47, 58, 73], 35) := by decide +kernel
theorem dX12_hasOwn_36 : decode cX12_hasOwn 36 = .ok (.iconst 1, 1) := by decide +kernel
theorem dX12_hasOwn_37 : decode cX12_hasOwn 37 = .ok (.ireturn, 1) := by decide +kernel
theorem dX12_hasOwn_38 : decode cX12_hasOwn 38 = .ok (.iload_n 1, 1) := by decide +kernel
theorem dX12_hasOwn_39 : decode cX12_hasOwn 39 = .ok (.ifCond .ne 7, 3) := by decide +kernel
theorem dX12_hasOwn_42 : decode cX12_hasOwn 42 = .ok (.iconst 1, 1) := by decide +kernel
theorem dX12_hasOwn_43 : decode cX12_hasOwn 43 = .ok (.goto 4, 3) := by decide +kernel
theorem dX12_hasOwn_46 : decode cX12_hasOwn 46 = .ok (.iconst 0, 1) := by decide +kernel
theorem dX12_hasOwn_47 : decode cX12_hasOwn 47 = .ok (.ireturn, 1) := by decide +kernel
theorem dX12_hasOwn_48 : decode cX12_hasOwn 48 = .ok (.iload_n 1, 1) := by decide +kernel
theorem dX12_hasOwn_49 : decode cX12_hasOwn 49 = .ok (.iconst 1, 1) := by decide +kernel
theorem dX12_hasOwn_50 : decode cX12_hasOwn 50 = .ok (.if_icmp .ne 7, 3) := by decide +kernel
theorem dX12_hasOwn_53 : decode cX12_hasOwn 53 = .ok (.iconst 1, 1) := by decide +kernel
theorem dX12_hasOwn_54 : decode cX12_hasOwn 54 = .ok (.goto 4, 3) := by decide +kernel
theorem dX12_hasOwn_57 : decode cX12_hasOwn 57 = .ok (.iconst 0, 1) := by decide +kernel
theorem dX12_hasOwn_58 : decode cX12_hasOwn 58 = .ok (.ireturn, 1) := by decide +kernel
theorem dX12_hasOwn_59 : decode cX12_hasOwn 59 = .ok (.iload_n 1, 1) := by decide +kernel
theorem dX12_hasOwn_60 : decode cX12_hasOwn 60 = .ok (.ifCond .eq 8, 3) := by decide +kernel
theorem dX12_hasOwn_63 : decode cX12_hasOwn 63 = .ok (.iload_n 1, 1) := by decide +kernel
theorem dX12_hasOwn_64 : decode cX12_hasOwn 64 = .ok (.iconst 3, 1) := by decide +kernel
theorem dX12_hasOwn_65 : decode cX12_hasOwn 65 = .ok (.if_icmp .ne 7, 3) := by decide +kernel
theorem dX12_hasOwn_68 : decode cX12_hasOwn 68 = .ok (.iconst 1, 1) := by decide +kernel
theorem dX12_hasOwn_69 : decode cX12_hasOwn 69 = .ok (.goto 4, 3) := by decide +kernel
theorem dX12_hasOwn_72 : decode cX12_hasOwn 72 = .ok (.iconst 0, 1) := by decide +kernel
theorem dX12_hasOwn_73 : decode cX12_hasOwn 73 = .ok (.ireturn, 1) := by decide +kernel
theorem dX12_hasOwn_74 : decode cX12_hasOwn 74 = .ok (.iload_n 1, 1) := by decide +kernel
theorem dX12_hasOwn_75 : decode cX12_hasOwn 75 = .ok (.iconst 2, 1) := by decide +kernel
theorem dX12_hasOwn_76 : decode cX12_hasOwn 76 = .ok (.if_icmp .ne 7, 3) := by decide +kernel
theorem dX12_hasOwn_79 : decode cX12_hasOwn 79 = .ok (.iconst 1, 1) := by decide +kernel
theorem dX12_hasOwn_80 : decode cX12_hasOwn 80 = .ok (.goto 4, 3) := by decide +kernel
theorem dX12_hasOwn_83 : decode cX12_hasOwn 83 = .ok (.iconst 0, 1) := by decide +kernel
theorem dX12_hasOwn_84 : decode cX12_hasOwn 84 = .ok (.ireturn, 1) := by decide +kernel
theorem dX12_hasOwn_85 : decode cX12_hasOwn 85 = .ok (.iload_n 1, 1) := by decide +kernel
theorem dX12_hasOwn_86 : decode cX12_hasOwn 86 = .ok (.iconst 1, 1) := by decide +kernel
theorem dX12_hasOwn_87 : decode cX12_hasOwn 87 = .ok (.if_icmp .eq 8, 3) := by decide +kernel
theorem dX12_hasOwn_90 : decode cX12_hasOwn 90 = .ok (.iload_n 1, 1) := by decide +kernel
theorem dX12_hasOwn_91 : decode cX12_hasOwn 91 = .ok (.iconst 2, 1) := by decide +kernel
theorem dX12_hasOwn_92 : decode cX12_hasOwn 92 = .ok (.if_icmp .ne 7, 3) := by decide +kernel
theorem dX12_hasOwn_95 : decode cX12_hasOwn 95 = .ok (.iconst 1, 1) := by decide +kernel
theorem dX12_hasOwn_96 : decode cX12_hasOwn 96 = .ok (.goto 4, 3) := by decide +kernel
theorem dX12_hasOwn_99 : decode cX12_hasOwn 99 = .ok (.iconst 0, 1) := by decide +kernel
theorem dX12_hasOwn_100 : decode cX12_hasOwn 100 = .ok (.ireturn, 1) := by decide +kernel
def f_X12_hasOwn_68 (S : Sh) (R : Rw) (I : Iw)   : Option (Int32) := some (1 : Int32)
set_option maxHeartbeats 4000000 in
theorem b_X12_hasOwn_68 {E : Ev} {p : Program} {l : Launch} {e : Env} {s : State} {m : MethodId} {args : Array Value} {below : List Frame} {meth : Method} {c : Code} (C : Cx E RX12 cX12_hasOwn 2 p s m c) (hr : meth.sig.returnType = (some .boolean)) (hk : meth.locks = false) {S : Sh} {R : Rw} {I : Iw} {r : Int32}  : f_X12_hasOwn_68 S R I    = some r → Wk E 2 p l e ({ frames := 0, cells := 0, slots := 0, locals := 0 } : Room) s m args below meth c 0 0 (MQ below (Qw E S R I (some (.int r))) args s 0 0 (fun q => E.1 ≤ q)) 68 [] [] S R I := by
  intro  h
  rw [f_X12_hasOwn_68] at h
  refine k_iconst (pc := 68) C (v := (1 : Int32)) dX12_hasOwn_68 (by decide) ?_
  refine k_goto (pc := 69) C dX12_hasOwn_69 (tgt := 73) (by decide) ?_
  cases h
  exact k_zret (pc := 73) C hr hk (Or.inr rfl) dX12_hasOwn_73
def f_X12_hasOwn_95 (S : Sh) (R : Rw) (I : Iw)   : Option (Int32) := some (1 : Int32)
set_option maxHeartbeats 4000000 in
theorem b_X12_hasOwn_95 {E : Ev} {p : Program} {l : Launch} {e : Env} {s : State} {m : MethodId} {args : Array Value} {below : List Frame} {meth : Method} {c : Code} (C : Cx E RX12 cX12_hasOwn 2 p s m c) (hr : meth.sig.returnType = (some .boolean)) (hk : meth.locks = false) {S : Sh} {R : Rw} {I : Iw} {r : Int32}  : f_X12_hasOwn_95 S R I    = some r → Wk E 2 p l e ({ frames := 0, cells := 0, slots := 0, locals := 0 } : Room) s m args below meth c 0 0 (MQ below (Qw E S R I (some (.int r))) args s 0 0 (fun q => E.1 ≤ q)) 95 [] [] S R I := by
  intro  h
  rw [f_X12_hasOwn_95] at h
  refine k_iconst (pc := 95) C (v := (1 : Int32)) dX12_hasOwn_95 (by decide) ?_
  refine k_goto (pc := 96) C dX12_hasOwn_96 (tgt := 100) (by decide) ?_
  cases h
  exact k_zret (pc := 100) C hr hk (Or.inr rfl) dX12_hasOwn_100
def f_X12_hasOwn (S : Sh) (R : Rw) (I : Iw)  (x0 : Int32) (x1 : Int32) : Option (Int32) := (if x0 = (0 : Int32) then some (1 : Int32) else (if x0 = (1 : Int32) then (if x1 = 0 then some (1 : Int32) else some (0 : Int32)) else (if x0 = (2 : Int32) then (if x1 = (1 : Int32) then some (1 : Int32) else some (0 : Int32)) else (if x0 = (3 : Int32) then (if x1 = 0 then f_X12_hasOwn_68 S R I   else (if x1 = (3 : Int32) then f_X12_hasOwn_68 S R I   else some (0 : Int32))) else (if x0 = (4 : Int32) then (if x1 = (2 : Int32) then some (1 : Int32) else some (0 : Int32)) else (if x1 = (1 : Int32) then f_X12_hasOwn_95 S R I   else (if x1 = (2 : Int32) then f_X12_hasOwn_95 S R I   else some (0 : Int32))))))))
set_option maxHeartbeats 4000000 in
theorem b_X12_hasOwn {E : Ev} {p : Program} {l : Launch} {e : Env} {s : State} {m : MethodId} {args : Array Value} {below : List Frame} {meth : Method} {c : Code} (C : Cx E RX12 cX12_hasOwn 2 p s m c) (hr : meth.sig.returnType = (some .boolean)) (hk : meth.locks = false) {S : Sh} {R : Rw} {I : Iw} {r : Int32}  : ∀ (x0 : Int32) (x1 : Int32), f_X12_hasOwn S R I   x0 x1 = some r → Wk E 2 p l e ({ frames := 0, cells := 0, slots := 0, locals := 0 } : Room) s m args below meth c 0 0 (MQ below (Qw E S R I (some (.int r))) args s 0 0 (fun q => E.1 ≤ q)) 0 [(0, .int x0), (1, .int x1)] [] S R I := by
  intro x0 x1 h
  rw [f_X12_hasOwn] at h
  refine k_iloadn (pc := 0) C dX12_hasOwn_0 (i := 0) rfl 0 rfl ?_
  by_cases hc8 : x0 = (0 : Int32)
  · rw [if_pos hc8] at h
    refine k_tabIn (pc := 1) C dX12_hasOwn_1 (by rw [hc8]; decide) (by rw [hc8]; decide) (off := 35) (by rw [hc8]; rfl) (tgt := 36) (by decide) ?_
    refine k_iconst (pc := 36) C (v := (1 : Int32)) dX12_hasOwn_36 (by decide) ?_
    cases h
    exact k_zret (pc := 37) C hr hk (Or.inr rfl) dX12_hasOwn_37
  · rw [if_neg hc8] at h
    by_cases hc9 : x0 = (1 : Int32)
    · rw [if_pos hc9] at h
      refine k_tabIn (pc := 1) C dX12_hasOwn_1 (by rw [hc9]; decide) (by rw [hc9]; decide) (off := 37) (by rw [hc9]; rfl) (tgt := 38) (by decide) ?_
      refine k_iloadn (pc := 38) C dX12_hasOwn_38 (i := 1) rfl 1 rfl ?_
      refine k_if_ne (pc := 39) C dX12_hasOwn_39 (tgt := 46) (by decide) (fun hc1 => ?_) (fun hc1 => ?_)
      · rw [if_neg hc1] at h
        refine k_iconst (pc := 46) C (v := (0 : Int32)) dX12_hasOwn_46 (by decide) ?_
        cases h
        exact k_zret (pc := 47) C hr hk (Or.inl rfl) dX12_hasOwn_47
      · rw [if_pos hc1] at h
        refine k_iconst (pc := 42) C (v := (1 : Int32)) dX12_hasOwn_42 (by decide) ?_
        refine k_goto (pc := 43) C dX12_hasOwn_43 (tgt := 47) (by decide) ?_
        cases h
        exact k_zret (pc := 47) C hr hk (Or.inr rfl) dX12_hasOwn_47
    · rw [if_neg hc9] at h
      by_cases hc10 : x0 = (2 : Int32)
      · rw [if_pos hc10] at h
        refine k_tabIn (pc := 1) C dX12_hasOwn_1 (by rw [hc10]; decide) (by rw [hc10]; decide) (off := 47) (by rw [hc10]; rfl) (tgt := 48) (by decide) ?_
        refine k_iloadn (pc := 48) C dX12_hasOwn_48 (i := 1) rfl 1 rfl ?_
        refine k_iconst (pc := 49) C (v := (1 : Int32)) dX12_hasOwn_49 (by decide) ?_
        refine k_icmp_ne (pc := 50) C dX12_hasOwn_50 (tgt := 57) (by decide) (fun hc2 => ?_) (fun hc2 => ?_)
        · rw [if_neg hc2] at h
          refine k_iconst (pc := 57) C (v := (0 : Int32)) dX12_hasOwn_57 (by decide) ?_
          cases h
          exact k_zret (pc := 58) C hr hk (Or.inl rfl) dX12_hasOwn_58
        · rw [if_pos hc2] at h
          refine k_iconst (pc := 53) C (v := (1 : Int32)) dX12_hasOwn_53 (by decide) ?_
          refine k_goto (pc := 54) C dX12_hasOwn_54 (tgt := 58) (by decide) ?_
          cases h
          exact k_zret (pc := 58) C hr hk (Or.inr rfl) dX12_hasOwn_58
      · rw [if_neg hc10] at h
        by_cases hc11 : x0 = (3 : Int32)
        · rw [if_pos hc11] at h
          refine k_tabIn (pc := 1) C dX12_hasOwn_1 (by rw [hc11]; decide) (by rw [hc11]; decide) (off := 58) (by rw [hc11]; rfl) (tgt := 59) (by decide) ?_
          refine k_iloadn (pc := 59) C dX12_hasOwn_59 (i := 1) rfl 1 rfl ?_
          refine k_if_eq (pc := 60) C dX12_hasOwn_60 (tgt := 68) (by decide) (fun hc3 => ?_) (fun hc3 => ?_)
          · rw [if_pos hc3] at h
            refine k_loc (L2 := []) [] rfl ?_
            exact b_X12_hasOwn_68 C hr hk   h
          · rw [if_neg hc3] at h
            refine k_iloadn (pc := 63) C dX12_hasOwn_63 (i := 1) rfl 1 rfl ?_
            refine k_iconst (pc := 64) C (v := (3 : Int32)) dX12_hasOwn_64 (by decide) ?_
            refine k_icmp_ne (pc := 65) C dX12_hasOwn_65 (tgt := 72) (by decide) (fun hc4 => ?_) (fun hc4 => ?_)
            · rw [if_neg hc4] at h
              refine k_iconst (pc := 72) C (v := (0 : Int32)) dX12_hasOwn_72 (by decide) ?_
              cases h
              exact k_zret (pc := 73) C hr hk (Or.inl rfl) dX12_hasOwn_73
            · rw [if_pos hc4] at h
              refine k_loc (L2 := []) [] rfl ?_
              exact b_X12_hasOwn_68 C hr hk   h
        · rw [if_neg hc11] at h
          by_cases hc12 : x0 = (4 : Int32)
          · rw [if_pos hc12] at h
            refine k_tabIn (pc := 1) C dX12_hasOwn_1 (by rw [hc12]; decide) (by rw [hc12]; decide) (off := 73) (by rw [hc12]; rfl) (tgt := 74) (by decide) ?_
            refine k_iloadn (pc := 74) C dX12_hasOwn_74 (i := 1) rfl 1 rfl ?_
            refine k_iconst (pc := 75) C (v := (2 : Int32)) dX12_hasOwn_75 (by decide) ?_
            refine k_icmp_ne (pc := 76) C dX12_hasOwn_76 (tgt := 83) (by decide) (fun hc5 => ?_) (fun hc5 => ?_)
            · rw [if_neg hc5] at h
              refine k_iconst (pc := 83) C (v := (0 : Int32)) dX12_hasOwn_83 (by decide) ?_
              cases h
              exact k_zret (pc := 84) C hr hk (Or.inl rfl) dX12_hasOwn_84
            · rw [if_pos hc5] at h
              refine k_iconst (pc := 79) C (v := (1 : Int32)) dX12_hasOwn_79 (by decide) ?_
              refine k_goto (pc := 80) C dX12_hasOwn_80 (tgt := 84) (by decide) ?_
              cases h
              exact k_zret (pc := 84) C hr hk (Or.inr rfl) dX12_hasOwn_84
          · rw [if_neg hc12] at h
            refine k_tabOut (pc := 1) C dX12_hasOwn_1 (tab_out x0 0 4 (fun z h1 h2 hz => by
              have hz2 : z = 0 ∨ z = 1 ∨ z = 2 ∨ z = 3 ∨ z = 4 := by omega
              rcases hz2 with rfl | rfl | rfl | rfl | rfl
              · exact hc8 (Int32.toInt_inj.mp (hz.trans (by decide)))
              · exact hc9 (Int32.toInt_inj.mp (hz.trans (by decide)))
              · exact hc10 (Int32.toInt_inj.mp (hz.trans (by decide)))
              · exact hc11 (Int32.toInt_inj.mp (hz.trans (by decide)))
              · exact hc12 (Int32.toInt_inj.mp (hz.trans (by decide)))
              ) ) (tgt := 85) (by decide) ?_
            refine k_iloadn (pc := 85) C dX12_hasOwn_85 (i := 1) rfl 1 rfl ?_
            refine k_iconst (pc := 86) C (v := (1 : Int32)) dX12_hasOwn_86 (by decide) ?_
            refine k_icmp_eq (pc := 87) C dX12_hasOwn_87 (tgt := 95) (by decide) (fun hc6 => ?_) (fun hc6 => ?_)
            · rw [if_pos hc6] at h
              refine k_loc (L2 := []) [] rfl ?_
              exact b_X12_hasOwn_95 C hr hk   h
            · rw [if_neg hc6] at h
              refine k_iloadn (pc := 90) C dX12_hasOwn_90 (i := 1) rfl 1 rfl ?_
              refine k_iconst (pc := 91) C (v := (2 : Int32)) dX12_hasOwn_91 (by decide) ?_
              refine k_icmp_ne (pc := 92) C dX12_hasOwn_92 (tgt := 99) (by decide) (fun hc7 => ?_) (fun hc7 => ?_)
              · rw [if_neg hc7] at h
                refine k_iconst (pc := 99) C (v := (0 : Int32)) dX12_hasOwn_99 (by decide) ?_
                cases h
                exact k_zret (pc := 100) C hr hk (Or.inl rfl) dX12_hasOwn_100
              · rw [if_pos hc7] at h
                refine k_loc (L2 := []) [] rfl ?_
                exact b_X12_hasOwn_95 C hr hk   h
theorem c_X12_hasOwn {E : Ev} {l : Launch} {S : Sh} {R : Rw} {I : Iw} {x0 : Int32} {x1 : Int32} {r : Int32} (h : f_X12_hasOwn S R I x0 x1 = some r) : Mt E l yX12_hasOwn cX12_hasOwn 2 (some .boolean) 0 0 [.int x0, .int x1] S R I S R I (some (.int r)) 0 0 := mt_of (by decide) (Nat.le_of_ble_eq_true rfl) (fun p e s m args below meth c C hr hk hn => b_X12_hasOwn C hr hk _ _ h)
theorem lkS_RX12_354 : LkS RX12 354 yX12_hasOwn cX12_hasOwn 2 (some .boolean) 2 := ⟨(t7_in 123 (by decide +kernel) rfl), (t7_in 124 (by decide +kernel) rfl), (t7_in 125 (by decide +kernel) rfl), (t1_in 7 (by decide +kernel) rfl), by decide, by decide +kernel⟩
theorem lkF_RX12_357_12 : LkF RX12 357 12 33 := ⟨RX12, TX12, 34, "UnlikeNeighboursModel", fc12, by decide, (t5_in 114 (by decide +kernel) rfl), Or.inl rfl⟩
theorem lkV_RX12_360 : LkV RX12 360 RX12 yX12_body cX12_body 7 (some .int) 3 := ⟨(t7_in 126 (by decide +kernel) rfl), (t7_in 128 (by decide +kernel) rfl), (t0_in 76 (by decide +kernel) rfl), (t7_in 129 (by decide +kernel) rfl), (t1_in 7 (by decide +kernel) rfl), by decide, by decide +kernel⟩
theorem dX12_bodyFrom_0 : decode cX12_bodyFrom 0 = .ok (.iload_n 1, 1) := by decide +kernel
theorem dX12_bodyFrom_1 : decode cX12_bodyFrom 1 = .ok (.istore 4, 2) := by decide +kernel
theorem dX12_bodyFrom_3 : decode cX12_bodyFrom 3 = .ok (.iload 4, 2) := by decide +kernel
theorem dX12_bodyFrom_5 : decode cX12_bodyFrom 5 = .ok (.iload_n 2, 1) := by decide +kernel
theorem dX12_bodyFrom_6 : decode cX12_bodyFrom 6 = .ok (.invokestatic 354, 3) := by decide +kernel
theorem dX12_bodyFrom_9 : decode cX12_bodyFrom 9 = .ok (.ifCond .ne 13, 3) := by decide +kernel
theorem dX12_bodyFrom_12 : decode cX12_bodyFrom 12 = .ok (.iload 4, 2) := by decide +kernel
theorem dX12_bodyFrom_14 : decode cX12_bodyFrom 14 = .ok (.invokestatic 221, 3) := by decide +kernel
theorem dX12_bodyFrom_17 : decode cX12_bodyFrom 17 = .ok (.istore 4, 2) := by decide +kernel
theorem dX12_bodyFrom_19 : decode cX12_bodyFrom 19 = .ok (.goto (-16), 3) := by decide +kernel
theorem dX12_bodyFrom_22 : decode cX12_bodyFrom 22 = .ok (.aload_n 0, 1) := by decide +kernel
theorem dX12_bodyFrom_23 : decode cX12_bodyFrom 23 = .ok (.getfield 357, 3) := by decide +kernel
theorem dX12_bodyFrom_26 : decode cX12_bodyFrom 26 = .ok (.ifCond .eq 7, 3) := by decide +kernel
theorem dX12_bodyFrom_29 : decode cX12_bodyFrom 29 = .ok (.iconst 0, 1) := by decide +kernel
theorem dX12_bodyFrom_30 : decode cX12_bodyFrom 30 = .ok (.goto 11, 3) := by decide +kernel
theorem dX12_bodyFrom_33 : decode cX12_bodyFrom 33 = .ok (.aload_n 0, 1) := by decide +kernel
theorem dX12_bodyFrom_34 : decode cX12_bodyFrom 34 = .ok (.iload 4, 2) := by decide +kernel
theorem dX12_bodyFrom_36 : decode cX12_bodyFrom 36 = .ok (.iload_n 2, 1) := by decide +kernel
theorem dX12_bodyFrom_37 : decode cX12_bodyFrom 37 = .ok (.iload_n 3, 1) := by decide +kernel
theorem dX12_bodyFrom_38 : decode cX12_bodyFrom 38 = .ok (.invokevirtual 360, 3) := by decide +kernel
theorem dX12_bodyFrom_41 : decode cX12_bodyFrom 41 = .ok (.ireturn, 1) := by decide +kernel
def f_X12_bodyFrom_3 (g : Sh → Rw → Iw → Nat → Int32 → Int32 → Int32 → Option (Iw × Int32)) (S : Sh) (R : Rw)  : Nat → Iw → Nat → Int32 → Int32 → Int32 → Option (Iw × Int32)
  | 0, _, _, _, _, _ => none
  | n + 1, I, a0, x2, x3, x4 => bd (f_X12_hasOwn S R I x4 x2) (fun r1 => (if r1 = 0 then bd (f_X12_above S R I x4) (fun r6 => f_X12_bodyFrom_3 g S R  n I a0 x2 x3 r6) else gp (sok S a0 12 34) ((if (I a0 33) = 0 then bd (g S R I a0 x4 x2 x3) (fun r5 => some (r5.1, r5.2)) else some (I, (0 : Int32))))))
set_option maxHeartbeats 4000000 in
theorem b_X12_bodyFrom_3 {E : Ev} {p : Program} {l : Launch} {e : Env} {s : State} {m : MethodId} {args : Array Value} {below : List Frame} {meth : Method} {c : Code} {dF dL : Nat} (C : Cx E RX12 cX12_bodyFrom 5 p s m c) (hr : meth.sig.returnType = (some .int)) (hk : meth.locks = false) {S : Sh} {R : Rw} {r : Iw × Int32} {g : Sh → Rw → Iw → Nat → Int32 → Int32 → Int32 → Option (Iw × Int32)} (hg : ∀ (S : Sh) (R : Rw) (I : Iw) (a0 : Nat) (x1 : Int32) (x2 : Int32) (x3 : Int32) (r : Iw × Int32), g S R I a0 x1 x2 x3 = some r → Mt E l yX12_body cX12_body 7 (some .int) dF dL [.ref (E.1 + a0), .int x1, .int x2, .int x3] S R I S R r.1 (some (.int r.2)) 0 0) : ∀ (n : Nat) (I : Iw) (a0 : Nat) (x2 : Int32) (x3 : Int32) (x4 : Int32), f_X12_bodyFrom_3 g S R  n I a0 x2 x3 x4 = some r → Wk E 5 p l e ({ frames := dF + 1, cells := 0, slots := 0, locals := dL + 26 } : Room) s m args below meth c 0 0 (MQ below (Qw E S R r.1 (some (.int r.2))) args s 0 0 (fun q => E.1 ≤ q)) 3 [(0, .ref (E.1 + a0)), (2, .int x2), (3, .int x3), (4, .int x4)] [] S R I := by
  intro n
  induction n with
  | zero =>
    intro I a0 x2 x3 x4 h
    rw [f_X12_bodyFrom_3] at h
    cases h
  | succ n ih =>
    intro I a0 x2 x3 x4 h
    rw [f_X12_bodyFrom_3] at h
    refine k_iload (pc := 3) C dX12_bodyFrom_3 3 rfl ?_
    refine k_iloadn (pc := 5) C dX12_bodyFrom_5 (i := 2) rfl 1 rfl ?_
    obtain ⟨r1, hr1, h⟩ := bd_e h
    refine k_S (pc := 6) (st := []) C (c_X12_hasOwn hr1) lkS_RX12_354 rfl rfl (Nat.le_of_ble_eq_true rfl) (by show 0 + 1 ≤ dF + 1; omega) (by show 8 + (2 + 11) + 0 ≤ dL + 26; omega) (Nat.le_of_ble_eq_true rfl) (Nat.le_of_ble_eq_true rfl) dX12_bodyFrom_6 ?_
    refine k_nf (cells2 := 0) (slots2 := 0) (st2 := [.int r1]) rfl rfl rfl ?_
    refine k_if_ne (pc := 9) C dX12_bodyFrom_9 (tgt := 22) (by decide) (fun hc2 => ?_) (fun hc2 => ?_)
    · rw [if_neg hc2] at h
      refine k_aloadn (pc := 22) C dX12_bodyFrom_22 (i := 0) rfl 0 rfl ?_
      obtain ⟨hs30, h⟩ := gp_e h
      have hs3 := sok_e hs30
      refine k_getI (pc := 23) C lkF_RX12_357_12 hs3 ir_12_33 dX12_bodyFrom_23 ?_
      refine k_if_eq (pc := 26) C dX12_bodyFrom_26 (tgt := 33) (by decide) (fun hc4 => ?_) (fun hc4 => ?_)
      · rw [if_pos hc4] at h
        refine k_aloadn (pc := 33) C dX12_bodyFrom_33 (i := 0) rfl 0 rfl ?_
        refine k_iload (pc := 34) C dX12_bodyFrom_34 3 rfl ?_
        refine k_iloadn (pc := 36) C dX12_bodyFrom_36 (i := 2) rfl 1 rfl ?_
        refine k_iloadn (pc := 37) C dX12_bodyFrom_37 (i := 3) rfl 2 rfl ?_
        obtain ⟨r5, hr5, h⟩ := bd_e h
        refine k_V (pc := 38) (st := []) C (hg _ _ _ _ _ _ _ _ hr5) lkV_RX12_360 hs3 rfl rfl rfl (Nat.le_of_ble_eq_true rfl) (by show dF + 1 ≤ dF + 1; omega) (by show 8 + (7 + 11) + dL ≤ dL + 26; omega) (Nat.le_of_ble_eq_true rfl) (Nat.le_of_ble_eq_true rfl) dX12_bodyFrom_38 ?_
        refine k_nf (cells2 := 0) (slots2 := 0) (st2 := [.int r5.2]) rfl rfl rfl ?_
        cases h
        exact k_iret (pc := 41) C hr hk dX12_bodyFrom_41
      · rw [if_neg hc4] at h
        refine k_iconst (pc := 29) C (v := (0 : Int32)) dX12_bodyFrom_29 (by decide) ?_
        refine k_goto (pc := 30) C dX12_bodyFrom_30 (tgt := 41) (by decide) ?_
        cases h
        exact k_iret (pc := 41) C hr hk dX12_bodyFrom_41
    · rw [if_pos hc2] at h
      refine k_iload (pc := 12) C dX12_bodyFrom_12 3 rfl ?_
      obtain ⟨r6, hr6, h⟩ := bd_e h
      refine k_S (pc := 14) (st := []) C (c_X12_above hr6) lkS_RX12_221 rfl rfl (Nat.le_of_ble_eq_true rfl) (by show 0 + 1 ≤ dF + 1; omega) (by show 8 + (1 + 11) + 0 ≤ dL + 26; omega) (Nat.le_of_ble_eq_true rfl) (Nat.le_of_ble_eq_true rfl) dX12_bodyFrom_14 ?_
      refine k_nf (cells2 := 0) (slots2 := 0) (st2 := [.int r6]) rfl rfl rfl ?_
      refine k_istore (pc := 17) C dX12_bodyFrom_17 (by decide) (L2 := [(0, .ref (E.1 + a0)), (2, .int x2), (3, .int x3), (4, .int r6)]) rfl ?_
      refine k_goto (pc := 19) C dX12_bodyFrom_19 (tgt := 3) (by decide) ?_
      exact ih _ _ _ _ _ h
def f_X12_bodyFrom (g : Sh → Rw → Iw → Nat → Int32 → Int32 → Int32 → Option (Iw × Int32)) (S : Sh) (R : Rw)  (I : Iw) (a0 : Nat) (x1 : Int32) (x2 : Int32) (x3 : Int32) : Option (Iw × Int32) := f_X12_bodyFrom_3 g S R  512 I a0 x2 x3 x1
set_option maxHeartbeats 4000000 in
theorem b_X12_bodyFrom {E : Ev} {p : Program} {l : Launch} {e : Env} {s : State} {m : MethodId} {args : Array Value} {below : List Frame} {meth : Method} {c : Code} {dF dL : Nat} (C : Cx E RX12 cX12_bodyFrom 5 p s m c) (hr : meth.sig.returnType = (some .int)) (hk : meth.locks = false) {S : Sh} {R : Rw} {r : Iw × Int32} {g : Sh → Rw → Iw → Nat → Int32 → Int32 → Int32 → Option (Iw × Int32)} (hg : ∀ (S : Sh) (R : Rw) (I : Iw) (a0 : Nat) (x1 : Int32) (x2 : Int32) (x3 : Int32) (r : Iw × Int32), g S R I a0 x1 x2 x3 = some r → Mt E l yX12_body cX12_body 7 (some .int) dF dL [.ref (E.1 + a0), .int x1, .int x2, .int x3] S R I S R r.1 (some (.int r.2)) 0 0) : ∀ (I : Iw) (a0 : Nat) (x1 : Int32) (x2 : Int32) (x3 : Int32), f_X12_bodyFrom g S R   I a0 x1 x2 x3 = some r → Wk E 5 p l e ({ frames := dF + 1, cells := 0, slots := 0, locals := dL + 26 } : Room) s m args below meth c 0 0 (MQ below (Qw E S R r.1 (some (.int r.2))) args s 0 0 (fun q => E.1 ≤ q)) 0 [(0, .ref (E.1 + a0)), (1, .int x1), (2, .int x2), (3, .int x3)] [] S R I := by
  intro I a0 x1 x2 x3 h
  rw [f_X12_bodyFrom] at h
  refine k_iloadn (pc := 0) C dX12_bodyFrom_0 (i := 1) rfl 1 rfl ?_
  refine k_istore (pc := 1) C dX12_bodyFrom_1 (by decide) (L2 := [(0, .ref (E.1 + a0)), (1, .int x1), (2, .int x2), (3, .int x3), (4, .int x1)]) rfl ?_
  refine k_loc (L2 := [(0, .ref (E.1 + a0)), (2, .int x2), (3, .int x3), (4, .int x1)]) [0, 2, 3, 4] rfl ?_
  exact b_X12_bodyFrom_3 C hr hk hg  _ _ _ _ _ _ h
theorem c_X12_bodyFrom {E : Ev} {l : Launch} {dF dL : Nat} {S : Sh} {R : Rw} {I : Iw} {g : Sh → Rw → Iw → Nat → Int32 → Int32 → Int32 → Option (Iw × Int32)} (hg : ∀ (S : Sh) (R : Rw) (I : Iw) (a0 : Nat) (x1 : Int32) (x2 : Int32) (x3 : Int32) (r : Iw × Int32), g S R I a0 x1 x2 x3 = some r → Mt E l yX12_body cX12_body 7 (some .int) dF dL [.ref (E.1 + a0), .int x1, .int x2, .int x3] S R I S R r.1 (some (.int r.2)) 0 0) {a0 : Nat} {x1 : Int32} {x2 : Int32} {x3 : Int32} {r : Iw × Int32} (h : f_X12_bodyFrom g S R I a0 x1 x2 x3 = some r) : Mt E l yX12_bodyFrom cX12_bodyFrom 5 (some .int) (dF + 1) (dL + 26) [.ref (E.1 + a0), .int x1, .int x2, .int x3] S R I S R r.1 (some (.int r.2)) 0 0 := mt_of (by decide) (Nat.le_of_ble_eq_true rfl) (fun p e s m args below meth c C hr hk hn => b_X12_bodyFrom C hr hk hg _ _ _ _ _ h)
theorem lkF_RX12_347_12 : LkF RX12 347 12 32 := ⟨RX12, TX12, 34, "UnlikeNeighboursModel", fc12, by decide, (t5_in 113 (by decide +kernel) rfl), Or.inl rfl⟩
theorem lkV_RX12_350 : LkV RX12 350 RX12 yX12_bodyFrom cX12_bodyFrom 5 (some .int) 3 := ⟨(t7_in 119 (by decide +kernel) rfl), (t7_in 121 (by decide +kernel) rfl), (t0_in 75 (by decide +kernel) rfl), (t7_in 122 (by decide +kernel) rfl), (t1_in 7 (by decide +kernel) rfl), by decide, by decide +kernel⟩
theorem dX12_voiced_0 : decode cX12_voiced 0 = .ok (.aload_n 0, 1) := by decide +kernel
theorem dX12_voiced_1 : decode cX12_voiced 1 = .ok (.aload_n 0, 1) := by decide +kernel
theorem dX12_voiced_2 : decode cX12_voiced 2 = .ok (.aload_n 0, 1) := by decide +kernel
theorem dX12_voiced_3 : decode cX12_voiced 3 = .ok (.getfield 347, 3) := by decide +kernel
theorem dX12_voiced_6 : decode cX12_voiced 6 = .ok (.invokevirtual 341, 3) := by decide +kernel
theorem dX12_voiced_9 : decode cX12_voiced 9 = .ok (.iload_n 1, 1) := by decide +kernel
theorem dX12_voiced_10 : decode cX12_voiced 10 = .ok (.iload_n 2, 1) := by decide +kernel
theorem dX12_voiced_11 : decode cX12_voiced 11 = .ok (.invokevirtual 350, 3) := by decide +kernel
theorem dX12_voiced_14 : decode cX12_voiced 14 = .ok (.ireturn, 1) := by decide +kernel
def f_X12_voiced (g : Sh → Rw → Iw → Nat → Int32 → Int32 → Int32 → Option (Iw × Int32)) (S : Sh) (R : Rw)  (I : Iw) (a0 : Nat) (x1 : Int32) (x2 : Int32) : Option (Iw × Int32) := gp (sok S a0 12 34) (bd (f_X12_kindOf S R I a0 (I a0 32)) (fun r2 => bd (f_X12_bodyFrom g S R I a0 r2 x1 x2) (fun r3 => some (r3.1, r3.2))))
set_option maxHeartbeats 4000000 in
theorem b_X12_voiced {E : Ev} {p : Program} {l : Launch} {e : Env} {s : State} {m : MethodId} {args : Array Value} {below : List Frame} {meth : Method} {c : Code} {dF dL : Nat} (C : Cx E RX12 cX12_voiced 3 p s m c) (hr : meth.sig.returnType = (some .int)) (hk : meth.locks = false) {S : Sh} {R : Rw} {r : Iw × Int32} {g : Sh → Rw → Iw → Nat → Int32 → Int32 → Int32 → Option (Iw × Int32)} (hg : ∀ (S : Sh) (R : Rw) (I : Iw) (a0 : Nat) (x1 : Int32) (x2 : Int32) (x3 : Int32) (r : Iw × Int32), g S R I a0 x1 x2 x3 = some r → Mt E l yX12_body cX12_body 7 (some .int) dF dL [.ref (E.1 + a0), .int x1, .int x2, .int x3] S R I S R r.1 (some (.int r.2)) 0 0) : ∀ (I : Iw) (a0 : Nat) (x1 : Int32) (x2 : Int32), f_X12_voiced g S R   I a0 x1 x2 = some r → Wk E 3 p l e ({ frames := dF + 3, cells := 0, slots := 0, locals := dL + 64 } : Room) s m args below meth c 0 0 (MQ below (Qw E S R r.1 (some (.int r.2))) args s 0 0 (fun q => E.1 ≤ q)) 0 [(0, .ref (E.1 + a0)), (1, .int x1), (2, .int x2)] [] S R I := by
  intro I a0 x1 x2 h
  rw [f_X12_voiced] at h
  refine k_aloadn (pc := 0) C dX12_voiced_0 (i := 0) rfl 0 rfl ?_
  refine k_aloadn (pc := 1) C dX12_voiced_1 (i := 0) rfl 0 rfl ?_
  refine k_aloadn (pc := 2) C dX12_voiced_2 (i := 0) rfl 0 rfl ?_
  obtain ⟨hs10, h⟩ := gp_e h
  have hs1 := sok_e hs10
  refine k_getI (pc := 3) C lkF_RX12_347_12 hs1 ir_12_32 dX12_voiced_3 ?_
  obtain ⟨r2, hr2, h⟩ := bd_e h
  refine k_V (pc := 6) (st := [.ref (E.1 + a0)]) C (c_X12_kindOf hr2) lkV_RX12_341 hs1 rfl rfl rfl (Nat.le_of_ble_eq_true rfl) (by show 2 + 1 ≤ dF + 3; omega) (by show 8 + (2 + 11) + 43 ≤ dL + 64; omega) (Nat.le_of_ble_eq_true rfl) (Nat.le_of_ble_eq_true rfl) dX12_voiced_6 ?_
  refine k_nf (cells2 := 0) (slots2 := 0) (st2 := [.int r2, .ref (E.1 + a0)]) rfl rfl rfl ?_
  refine k_iloadn (pc := 9) C dX12_voiced_9 (i := 1) rfl 1 rfl ?_
  refine k_iloadn (pc := 10) C dX12_voiced_10 (i := 2) rfl 2 rfl ?_
  obtain ⟨r3, hr3, h⟩ := bd_e h
  refine k_V (pc := 11) (st := []) C (c_X12_bodyFrom hg hr3) lkV_RX12_350 hs1 rfl rfl rfl (Nat.le_of_ble_eq_true rfl) (by show (dF + 1) + 1 ≤ dF + 3; omega) (by show 8 + (5 + 11) + (dL + 26) ≤ dL + 64; omega) (Nat.le_of_ble_eq_true rfl) (Nat.le_of_ble_eq_true rfl) dX12_voiced_11 ?_
  refine k_nf (cells2 := 0) (slots2 := 0) (st2 := [.int r3.2]) rfl rfl rfl ?_
  cases h
  exact k_iret (pc := 14) C hr hk dX12_voiced_14
theorem c_X12_voiced {E : Ev} {l : Launch} {dF dL : Nat} {S : Sh} {R : Rw} {I : Iw} {g : Sh → Rw → Iw → Nat → Int32 → Int32 → Int32 → Option (Iw × Int32)} (hg : ∀ (S : Sh) (R : Rw) (I : Iw) (a0 : Nat) (x1 : Int32) (x2 : Int32) (x3 : Int32) (r : Iw × Int32), g S R I a0 x1 x2 x3 = some r → Mt E l yX12_body cX12_body 7 (some .int) dF dL [.ref (E.1 + a0), .int x1, .int x2, .int x3] S R I S R r.1 (some (.int r.2)) 0 0) {a0 : Nat} {x1 : Int32} {x2 : Int32} {r : Iw × Int32} (h : f_X12_voiced g S R I a0 x1 x2 = some r) : Mt E l yX12_voiced cX12_voiced 3 (some .int) (dF + 3) (dL + 64) [.ref (E.1 + a0), .int x1, .int x2] S R I S R r.1 (some (.int r.2)) 0 0 := mt_of (by decide) (Nat.le_of_ble_eq_true rfl) (fun p e s m args below meth c C hr hk hn => b_X12_voiced C hr hk hg _ _ _ _ h)
theorem lkV_RX12_363 : LkV RX12 363 RX12 yX12_began cX12_began 2 none 1 := ⟨(t7_in 130 (by decide +kernel) rfl), (t7_in 132 (by decide +kernel) rfl), (t0_in 77 (by decide +kernel) rfl), (t7_in 133 (by decide +kernel) rfl), (t1_in 7 (by decide +kernel) rfl), by decide, by decide +kernel⟩
theorem lkV_RX12_366 : LkV RX12 366 RX12 yX12_voiced cX12_voiced 3 (some .int) 2 := ⟨(t7_in 115 (by decide +kernel) rfl), (t7_in 117 (by decide +kernel) rfl), (t0_in 74 (by decide +kernel) rfl), (t7_in 118 (by decide +kernel) rfl), (t1_in 7 (by decide +kernel) rfl), by decide, by decide +kernel⟩
theorem lkP_RX12_357_12 : LkP RX12 357 12 33 .boolean := ⟨RX12, TX12, 34, "UnlikeNeighboursModel", fc12, by decide, (t5_in 114 (by decide +kernel) rfl), Or.inl rfl, rfl, by decide +kernel⟩
theorem dX12_body_0 : decode cX12_body 0 = .ok (.aload_n 0, 1) := by decide +kernel
theorem dX12_body_1 : decode cX12_body 1 = .ok (.getfield 347, 3) := by decide +kernel
theorem dX12_body_4 : decode cX12_body 4 = .ok (.istore 4, 2) := by decide +kernel
theorem dX12_body_6 : decode cX12_body 6 = .ok (.aload_n 0, 1) := by decide +kernel
theorem dX12_body_7 : decode cX12_body 7 = .ok (.aload_n 0, 1) := by decide +kernel
theorem dX12_body_8 : decode cX12_body 8 = .ok (.getfield 347, 3) := by decide +kernel
theorem dX12_body_11 : decode cX12_body 11 = .ok (.iconst 2, 1) := by decide +kernel
theorem dX12_body_12 : decode cX12_body 12 = .ok (.invokevirtual 209, 3) := by decide +kernel
theorem dX12_body_15 : decode cX12_body 15 = .ok (.istore 5, 2) := by decide +kernel
theorem dX12_body_17 : decode cX12_body 17 = .ok (.iconst 4, 1) := by decide +kernel
theorem dX12_body_18 : decode cX12_body 18 = .ok (.iload_n 1, 1) := by decide +kernel
theorem dX12_body_19 : decode cX12_body 19 = .ok (.imul, 1) := by decide +kernel
theorem dX12_body_20 : decode cX12_body 20 = .ok (.iload_n 2, 1) := by decide +kernel
theorem dX12_body_21 : decode cX12_body 21 = .ok (.iadd, 1) := by decide +kernel
theorem dX12_body_22 : decode cX12_body 22 = .ok (.tableswitch 292 0 21 #[102, 113, 128, 169, 185, 292, 292, 292, 292, 201, 292, 292, 218, 292, 292, 235, 292, 292, 261, 292, 292, 277], 102) := by decide +kernel
theorem dX12_body_124 : decode cX12_body 124 = .ok (.aload_n 0, 1) := by decide +kernel
theorem dX12_body_125 : decode cX12_body 125 = .ok (.bipush 10, 2) := by decide +kernel
theorem dX12_body_127 : decode cX12_body 127 = .ok (.invokevirtual 363, 3) := by decide +kernel
theorem dX12_body_130 : decode cX12_body 130 = .ok (.iload_n 3, 1) := by decide +kernel
theorem dX12_body_131 : decode cX12_body 131 = .ok (.iload 4, 2) := by decide +kernel
theorem dX12_body_133 : decode cX12_body 133 = .ok (.isub, 1) := by decide +kernel
theorem dX12_body_134 : decode cX12_body 134 = .ok (.ireturn, 1) := by decide +kernel
theorem dX12_body_135 : decode cX12_body 135 = .ok (.aload_n 0, 1) := by decide +kernel
theorem dX12_body_136 : decode cX12_body 136 = .ok (.bipush 11, 2) := by decide +kernel
theorem dX12_body_138 : decode cX12_body 138 = .ok (.invokevirtual 363, 3) := by decide +kernel
theorem dX12_body_141 : decode cX12_body 141 = .ok (.aload_n 0, 1) := by decide +kernel
theorem dX12_body_142 : decode cX12_body 142 = .ok (.iconst 0, 1) := by decide +kernel
theorem dX12_body_143 : decode cX12_body 143 = .ok (.iload_n 3, 1) := by decide +kernel
theorem dX12_body_144 : decode cX12_body 144 = .ok (.invokevirtual 366, 3) := by decide +kernel
theorem dX12_body_147 : decode cX12_body 147 = .ok (.iconst 3, 1) := by decide +kernel
theorem dX12_body_148 : decode cX12_body 148 = .ok (.imul, 1) := by decide +kernel
theorem dX12_body_149 : decode cX12_body 149 = .ok (.ireturn, 1) := by decide +kernel
theorem dX12_body_150 : decode cX12_body 150 = .ok (.aload_n 0, 1) := by decide +kernel
theorem dX12_body_151 : decode cX12_body 151 = .ok (.bipush 12, 2) := by decide +kernel
theorem dX12_body_153 : decode cX12_body 153 = .ok (.invokevirtual 363, 3) := by decide +kernel
theorem dX12_body_156 : decode cX12_body 156 = .ok (.aload_n 0, 1) := by decide +kernel
theorem dX12_body_157 : decode cX12_body 157 = .ok (.iload 5, 2) := by decide +kernel
theorem dX12_body_159 : decode cX12_body 159 = .ok (.iload 4, 2) := by decide +kernel
theorem dX12_body_161 : decode cX12_body 161 = .ok (.if_icmp .ne 7, 3) := by decide +kernel
theorem dX12_body_164 : decode cX12_body 164 = .ok (.iconst 1, 1) := by decide +kernel
theorem dX12_body_165 : decode cX12_body 165 = .ok (.goto 4, 3) := by decide +kernel
theorem dX12_body_168 : decode cX12_body 168 = .ok (.iconst 0, 1) := by decide +kernel
theorem dX12_body_169 : decode cX12_body 169 = .ok (.putfield 357, 3) := by decide +kernel
theorem dX12_body_172 : decode cX12_body 172 = .ok (.aload_n 0, 1) := by decide +kernel
theorem dX12_body_173 : decode cX12_body 173 = .ok (.getfield 357, 3) := by decide +kernel
theorem dX12_body_176 : decode cX12_body 176 = .ok (.ifCond .eq 7, 3) := by decide +kernel
theorem dX12_body_179 : decode cX12_body 179 = .ok (.iconst 0, 1) := by decide +kernel
theorem dX12_body_180 : decode cX12_body 180 = .ok (.goto 10, 3) := by decide +kernel
theorem dX12_body_183 : decode cX12_body 183 = .ok (.iload_n 3, 1) := by decide +kernel
theorem dX12_body_184 : decode cX12_body 184 = .ok (.iload 5, 2) := by decide +kernel
theorem dX12_body_186 : decode cX12_body 186 = .ok (.iload 4, 2) := by decide +kernel
theorem dX12_body_188 : decode cX12_body 188 = .ok (.isub, 1) := by decide +kernel
theorem dX12_body_189 : decode cX12_body 189 = .ok (.idiv, 1) := by decide +kernel
theorem dX12_body_190 : decode cX12_body 190 = .ok (.ireturn, 1) := by decide +kernel
theorem dX12_body_191 : decode cX12_body 191 = .ok (.aload_n 0, 1) := by decide +kernel
theorem dX12_body_192 : decode cX12_body 192 = .ok (.bipush 13, 2) := by decide +kernel
theorem dX12_body_194 : decode cX12_body 194 = .ok (.invokevirtual 363, 3) := by decide +kernel
theorem dX12_body_197 : decode cX12_body 197 = .ok (.aload_n 0, 1) := by decide +kernel
theorem dX12_body_198 : decode cX12_body 198 = .ok (.iconst 1, 1) := by decide +kernel
theorem dX12_body_199 : decode cX12_body 199 = .ok (.iload_n 3, 1) := by decide +kernel
theorem dX12_body_200 : decode cX12_body 200 = .ok (.invokevirtual 366, 3) := by decide +kernel
theorem dX12_body_203 : decode cX12_body 203 = .ok (.iload 5, 2) := by decide +kernel
theorem dX12_body_205 : decode cX12_body 205 = .ok (.ixor, 1) := by decide +kernel
theorem dX12_body_206 : decode cX12_body 206 = .ok (.ireturn, 1) := by decide +kernel
theorem dX12_body_207 : decode cX12_body 207 = .ok (.aload_n 0, 1) := by decide +kernel
theorem dX12_body_208 : decode cX12_body 208 = .ok (.bipush 20, 2) := by decide +kernel
theorem dX12_body_210 : decode cX12_body 210 = .ok (.invokevirtual 363, 3) := by decide +kernel
theorem dX12_body_213 : decode cX12_body 213 = .ok (.aload_n 0, 1) := by decide +kernel
theorem dX12_body_214 : decode cX12_body 214 = .ok (.iconst 0, 1) := by decide +kernel
theorem dX12_body_215 : decode cX12_body 215 = .ok (.iconst 0, 1) := by decide +kernel
theorem dX12_body_216 : decode cX12_body 216 = .ok (.iload_n 3, 1) := by decide +kernel
theorem dX12_body_217 : decode cX12_body 217 = .ok (.invokevirtual 350, 3) := by decide +kernel
theorem dX12_body_220 : decode cX12_body 220 = .ok (.iconst 2, 1) := by decide +kernel
theorem dX12_body_221 : decode cX12_body 221 = .ok (.imul, 1) := by decide +kernel
theorem dX12_body_222 : decode cX12_body 222 = .ok (.ireturn, 1) := by decide +kernel
theorem dX12_body_223 : decode cX12_body 223 = .ok (.aload_n 0, 1) := by decide +kernel
theorem dX12_body_224 : decode cX12_body 224 = .ok (.bipush 30, 2) := by decide +kernel
theorem dX12_body_226 : decode cX12_body 226 = .ok (.invokevirtual 363, 3) := by decide +kernel
theorem dX12_body_229 : decode cX12_body 229 = .ok (.aload_n 0, 1) := by decide +kernel
theorem dX12_body_230 : decode cX12_body 230 = .ok (.iconst 0, 1) := by decide +kernel
theorem dX12_body_231 : decode cX12_body 231 = .ok (.iconst 1, 1) := by decide +kernel
theorem dX12_body_232 : decode cX12_body 232 = .ok (.iload_n 3, 1) := by decide +kernel
theorem dX12_body_233 : decode cX12_body 233 = .ok (.invokevirtual 350, 3) := by decide +kernel
theorem dX12_body_236 : decode cX12_body 236 = .ok (.iload 5, 2) := by decide +kernel
theorem dX12_body_238 : decode cX12_body 238 = .ok (.iadd, 1) := by decide +kernel
theorem dX12_body_239 : decode cX12_body 239 = .ok (.ireturn, 1) := by decide +kernel
theorem dX12_body_240 : decode cX12_body 240 = .ok (.aload_n 0, 1) := by decide +kernel
theorem dX12_body_241 : decode cX12_body 241 = .ok (.bipush 50, 2) := by decide +kernel
theorem dX12_body_243 : decode cX12_body 243 = .ok (.invokevirtual 363, 3) := by decide +kernel
theorem dX12_body_246 : decode cX12_body 246 = .ok (.aload_n 0, 1) := by decide +kernel
theorem dX12_body_247 : decode cX12_body 247 = .ok (.iconst 2, 1) := by decide +kernel
theorem dX12_body_248 : decode cX12_body 248 = .ok (.iconst 0, 1) := by decide +kernel
theorem dX12_body_249 : decode cX12_body 249 = .ok (.iload_n 3, 1) := by decide +kernel
theorem dX12_body_250 : decode cX12_body 250 = .ok (.invokevirtual 350, 3) := by decide +kernel
theorem dX12_body_253 : decode cX12_body 253 = .ok (.iload 5, 2) := by decide +kernel
theorem dX12_body_255 : decode cX12_body 255 = .ok (.ixor, 1) := by decide +kernel
theorem dX12_body_256 : decode cX12_body 256 = .ok (.ireturn, 1) := by decide +kernel
theorem dX12_body_257 : decode cX12_body 257 = .ok (.aload_n 0, 1) := by decide +kernel
theorem dX12_body_258 : decode cX12_body 258 = .ok (.bipush 51, 2) := by decide +kernel
theorem dX12_body_260 : decode cX12_body 260 = .ok (.invokevirtual 363, 3) := by decide +kernel
theorem dX12_body_263 : decode cX12_body 263 = .ok (.aload_n 0, 1) := by decide +kernel
theorem dX12_body_264 : decode cX12_body 264 = .ok (.iconst 2, 1) := by decide +kernel
theorem dX12_body_265 : decode cX12_body 265 = .ok (.iconst 3, 1) := by decide +kernel
theorem dX12_body_266 : decode cX12_body 266 = .ok (.iload_n 3, 1) := by decide +kernel
theorem dX12_body_267 : decode cX12_body 267 = .ok (.invokevirtual 350, 3) := by decide +kernel
theorem dX12_body_270 : decode cX12_body 270 = .ok (.istore 6, 2) := by decide +kernel
theorem dX12_body_272 : decode cX12_body 272 = .ok (.iload 6, 2) := by decide +kernel
theorem dX12_body_274 : decode cX12_body 274 = .ok (.aload_n 0, 1) := by decide +kernel
theorem dX12_body_275 : decode cX12_body 275 = .ok (.iconst 2, 1) := by decide +kernel
theorem dX12_body_276 : decode cX12_body 276 = .ok (.iload 4, 2) := by decide +kernel
theorem dX12_body_278 : decode cX12_body 278 = .ok (.invokevirtual 366, 3) := by decide +kernel
theorem dX12_body_281 : decode cX12_body 281 = .ok (.isub, 1) := by decide +kernel
theorem dX12_body_282 : decode cX12_body 282 = .ok (.ireturn, 1) := by decide +kernel
theorem dX12_body_283 : decode cX12_body 283 = .ok (.aload_n 0, 1) := by decide +kernel
theorem dX12_body_284 : decode cX12_body 284 = .ok (.bipush 40, 2) := by decide +kernel
theorem dX12_body_286 : decode cX12_body 286 = .ok (.invokevirtual 363, 3) := by decide +kernel
theorem dX12_body_289 : decode cX12_body 289 = .ok (.aload_n 0, 1) := by decide +kernel
theorem dX12_body_290 : decode cX12_body 290 = .ok (.iconst 0, 1) := by decide +kernel
theorem dX12_body_291 : decode cX12_body 291 = .ok (.iconst 2, 1) := by decide +kernel
theorem dX12_body_292 : decode cX12_body 292 = .ok (.iload_n 3, 1) := by decide +kernel
theorem dX12_body_293 : decode cX12_body 293 = .ok (.iconst 1, 1) := by decide +kernel
theorem dX12_body_294 : decode cX12_body 294 = .ok (.isub, 1) := by decide +kernel
theorem dX12_body_295 : decode cX12_body 295 = .ok (.invokevirtual 350, 3) := by decide +kernel
theorem dX12_body_298 : decode cX12_body 298 = .ok (.ireturn, 1) := by decide +kernel
theorem dX12_body_299 : decode cX12_body 299 = .ok (.aload_n 0, 1) := by decide +kernel
theorem dX12_body_300 : decode cX12_body 300 = .ok (.bipush 60, 2) := by decide +kernel
theorem dX12_body_302 : decode cX12_body 302 = .ok (.invokevirtual 363, 3) := by decide +kernel
theorem dX12_body_305 : decode cX12_body 305 = .ok (.aload_n 0, 1) := by decide +kernel
theorem dX12_body_306 : decode cX12_body 306 = .ok (.iconst 4, 1) := by decide +kernel
theorem dX12_body_307 : decode cX12_body 307 = .ok (.iconst 1, 1) := by decide +kernel
theorem dX12_body_308 : decode cX12_body 308 = .ok (.iload_n 3, 1) := by decide +kernel
theorem dX12_body_309 : decode cX12_body 309 = .ok (.invokevirtual 350, 3) := by decide +kernel
theorem dX12_body_312 : decode cX12_body 312 = .ok (.ineg, 1) := by decide +kernel
theorem dX12_body_313 : decode cX12_body 313 = .ok (.ireturn, 1) := by decide +kernel
theorem dX12_body_314 : decode cX12_body 314 = .ok (.aload_n 0, 1) := by decide +kernel
theorem dX12_body_315 : decode cX12_body 315 = .ok (.bipush 61, 2) := by decide +kernel
theorem dX12_body_317 : decode cX12_body 317 = .ok (.invokevirtual 363, 3) := by decide +kernel
theorem dX12_body_320 : decode cX12_body 320 = .ok (.aload_n 0, 1) := by decide +kernel
theorem dX12_body_321 : decode cX12_body 321 = .ok (.iconst 4, 1) := by decide +kernel
theorem dX12_body_322 : decode cX12_body 322 = .ok (.iconst 2, 1) := by decide +kernel
theorem dX12_body_323 : decode cX12_body 323 = .ok (.iload_n 3, 1) := by decide +kernel
theorem dX12_body_324 : decode cX12_body 324 = .ok (.invokevirtual 350, 3) := by decide +kernel
theorem dX12_body_327 : decode cX12_body 327 = .ok (.istore 6, 2) := by decide +kernel
theorem dX12_body_329 : decode cX12_body 329 = .ok (.iload 6, 2) := by decide +kernel
theorem dX12_body_331 : decode cX12_body 331 = .ok (.aload_n 0, 1) := by decide +kernel
theorem dX12_body_332 : decode cX12_body 332 = .ok (.iconst 0, 1) := by decide +kernel
theorem dX12_body_333 : decode cX12_body 333 = .ok (.iload 5, 2) := by decide +kernel
theorem dX12_body_335 : decode cX12_body 335 = .ok (.invokevirtual 366, 3) := by decide +kernel
theorem dX12_body_338 : decode cX12_body 338 = .ok (.iadd, 1) := by decide +kernel
theorem dX12_body_339 : decode cX12_body 339 = .ok (.ireturn, 1) := by decide +kernel
def f_X12_body_169 (g : Sh → Rw → Iw → Nat → Int32 → Int32 → Int32 → Option (Iw × Int32)) (S : Sh) (R : Rw)  (I : Iw) (a0 : Nat) (x3 : Int32) (x4 : Int32) (x5 : Int32) (s0 : Int32) (q1 : Nat) : Option (Iw × Int32) := gp (sok S q1 12 34) (gp (zok s0) (lt (up2 I q1 33 s0) (fun I10 => gp (sok S a0 12 34) ((if (I10 a0 33) = 0 then gp (nz (x5 - x4)) (some (I10, x3 / (x5 - x4))) else some (I10, (0 : Int32)))))))
set_option maxHeartbeats 4000000 in
theorem b_X12_body_169 {E : Ev} {p : Program} {l : Launch} {e : Env} {s : State} {m : MethodId} {args : Array Value} {below : List Frame} {meth : Method} {c : Code} {dF dL : Nat} (C : Cx E RX12 cX12_body 7 p s m c) (hr : meth.sig.returnType = (some .int)) (hk : meth.locks = false) {S : Sh} {R : Rw} {r : Iw × Int32} {g : Sh → Rw → Iw → Nat → Int32 → Int32 → Int32 → Option (Iw × Int32)} (hg : ∀ (S : Sh) (R : Rw) (I : Iw) (a0 : Nat) (x1 : Int32) (x2 : Int32) (x3 : Int32) (r : Iw × Int32), g S R I a0 x1 x2 x3 = some r → Mt E l yX12_body cX12_body 7 (some .int) dF dL [.ref (E.1 + a0), .int x1, .int x2, .int x3] S R I S R r.1 (some (.int r.2)) 0 0) : ∀ (I : Iw) (a0 : Nat) (x3 : Int32) (x4 : Int32) (x5 : Int32) (s0 : Int32) (q1 : Nat), f_X12_body_169 g S R   I a0 x3 x4 x5 s0 q1 = some r → Wk E 7 p l e ({ frames := dF + 4, cells := 0, slots := 0, locals := dL + 86 } : Room) s m args below meth c 0 0 (MQ below (Qw E S R r.1 (some (.int r.2))) args s 0 0 (fun q => E.1 ≤ q)) 169 [(0, .ref (E.1 + a0)), (3, .int x3), (4, .int x4), (5, .int x5)] [.int s0, .ref (E.1 + q1)] S R I := by
  intro I a0 x3 x4 x5 s0 q1 h
  rw [f_X12_body_169] at h
  obtain ⟨hs80, h⟩ := gp_e h
  have hs8 := sok_e hs80
  obtain ⟨hz9, h⟩ := gp_e h
  obtain ⟨I10, eI10, h⟩ := lt_e h
  refine k_putZ (pc := 169) C lkP_RX12_357_12 hs8 ir_12_33 (of_decide_eq_true hz9) dX12_body_169 ?_
  rw [← eI10]
  refine k_aloadn (pc := 172) C dX12_body_172 (i := 0) rfl 0 rfl ?_
  obtain ⟨hs110, h⟩ := gp_e h
  have hs11 := sok_e hs110
  refine k_getI (pc := 173) C lkF_RX12_357_12 hs11 ir_12_33 dX12_body_173 ?_
  refine k_if_eq (pc := 176) C dX12_body_176 (tgt := 183) (by decide) (fun hc12 => ?_) (fun hc12 => ?_)
  · rw [if_pos hc12] at h
    refine k_iloadn (pc := 183) C dX12_body_183 (i := 3) rfl 1 rfl ?_
    refine k_iload (pc := 184) C dX12_body_184 3 rfl ?_
    refine k_iload (pc := 186) C dX12_body_186 2 rfl ?_
    refine k_isub (pc := 188) C dX12_body_188 ?_
    obtain ⟨hz13, h⟩ := gp_e h
    refine k_idiv (pc := 189) C dX12_body_189 (of_decide_eq_true hz13) ?_
    cases h
    exact k_iret (pc := 190) C hr hk dX12_body_190
  · rw [if_neg hc12] at h
    refine k_iconst (pc := 179) C (v := (0 : Int32)) dX12_body_179 (by decide) ?_
    refine k_goto (pc := 180) C dX12_body_180 (tgt := 190) (by decide) ?_
    cases h
    exact k_iret (pc := 190) C hr hk dX12_body_190
def f_X12_body_b (g : Sh → Rw → Iw → Nat → Int32 → Int32 → Int32 → Option (Iw × Int32)) (S : Sh) (R : Rw)  (I : Iw) (a0 : Nat) (x1 : Int32) (x2 : Int32) (x3 : Int32) : Option (Iw × Int32) := gp (sok S a0 12 34) (bd (f_X12_goodIs S R I a0 (I a0 32) (2 : Int32)) (fun r2 => (if (((4 : Int32) * x1) + x2) = (0 : Int32) then bd (f_X12_began S R I a0 (10 : Int32)) (fun r3 => some (r3, x3 - (I a0 32))) else (if (((4 : Int32) * x1) + x2) = (1 : Int32) then bd (f_X12_began S R I a0 (11 : Int32)) (fun r4 => bd (f_X12_voiced g S R r4 a0 (0 : Int32) x3) (fun r5 => some (r5.1, r5.2 * (3 : Int32)))) else (if (((4 : Int32) * x1) + x2) = (2 : Int32) then bd (f_X12_began S R I a0 (12 : Int32)) (fun r6 => (if r2 = (I a0 32) then f_X12_body_169 g S R  r6 a0 x3 (I a0 32) r2 (1 : Int32) a0 else f_X12_body_169 g S R  r6 a0 x3 (I a0 32) r2 (0 : Int32) a0)) else (if (((4 : Int32) * x1) + x2) = (3 : Int32) then bd (f_X12_began S R I a0 (13 : Int32)) (fun r14 => bd (f_X12_voiced g S R r14 a0 (1 : Int32) x3) (fun r15 => some (r15.1, r15.2 ^^^ r2))) else (if (((4 : Int32) * x1) + x2) = (4 : Int32) then bd (f_X12_began S R I a0 (20 : Int32)) (fun r16 => bd (f_X12_bodyFrom g S R r16 a0 (0 : Int32) (0 : Int32) x3) (fun r17 => some (r17.1, r17.2 * (2 : Int32)))) else (if (((4 : Int32) * x1) + x2) = (5 : Int32) then bd (f_X12_began S R I a0 (61 : Int32)) (fun r18 => bd (f_X12_bodyFrom g S R r18 a0 (4 : Int32) (2 : Int32) x3) (fun r19 => bd (f_X12_voiced g S R r19.1 a0 (0 : Int32) r2) (fun r20 => some (r20.1, r19.2 + r20.2)))) else (if (((4 : Int32) * x1) + x2) = (6 : Int32) then bd (f_X12_began S R I a0 (61 : Int32)) (fun r21 => bd (f_X12_bodyFrom g S R r21 a0 (4 : Int32) (2 : Int32) x3) (fun r22 => bd (f_X12_voiced g S R r22.1 a0 (0 : Int32) r2) (fun r23 => some (r23.1, r22.2 + r23.2)))) else (if (((4 : Int32) * x1) + x2) = (7 : Int32) then bd (f_X12_began S R I a0 (61 : Int32)) (fun r24 => bd (f_X12_bodyFrom g S R r24 a0 (4 : Int32) (2 : Int32) x3) (fun r25 => bd (f_X12_voiced g S R r25.1 a0 (0 : Int32) r2) (fun r26 => some (r26.1, r25.2 + r26.2)))) else (if (((4 : Int32) * x1) + x2) = (8 : Int32) then bd (f_X12_began S R I a0 (61 : Int32)) (fun r27 => bd (f_X12_bodyFrom g S R r27 a0 (4 : Int32) (2 : Int32) x3) (fun r28 => bd (f_X12_voiced g S R r28.1 a0 (0 : Int32) r2) (fun r29 => some (r29.1, r28.2 + r29.2)))) else (if (((4 : Int32) * x1) + x2) = (9 : Int32) then bd (f_X12_began S R I a0 (30 : Int32)) (fun r30 => bd (f_X12_bodyFrom g S R r30 a0 (0 : Int32) (1 : Int32) x3) (fun r31 => some (r31.1, r31.2 + r2))) else (if (((4 : Int32) * x1) + x2) = (10 : Int32) then bd (f_X12_began S R I a0 (61 : Int32)) (fun r32 => bd (f_X12_bodyFrom g S R r32 a0 (4 : Int32) (2 : Int32) x3) (fun r33 => bd (f_X12_voiced g S R r33.1 a0 (0 : Int32) r2) (fun r34 => some (r34.1, r33.2 + r34.2)))) else (if (((4 : Int32) * x1) + x2) = (11 : Int32) then bd (f_X12_began S R I a0 (61 : Int32)) (fun r35 => bd (f_X12_bodyFrom g S R r35 a0 (4 : Int32) (2 : Int32) x3) (fun r36 => bd (f_X12_voiced g S R r36.1 a0 (0 : Int32) r2) (fun r37 => some (r37.1, r36.2 + r37.2)))) else (if (((4 : Int32) * x1) + x2) = (12 : Int32) then bd (f_X12_began S R I a0 (50 : Int32)) (fun r38 => bd (f_X12_bodyFrom g S R r38 a0 (2 : Int32) (0 : Int32) x3) (fun r39 => some (r39.1, r39.2 ^^^ r2))) else (if (((4 : Int32) * x1) + x2) = (13 : Int32) then bd (f_X12_began S R I a0 (61 : Int32)) (fun r40 => bd (f_X12_bodyFrom g S R r40 a0 (4 : Int32) (2 : Int32) x3) (fun r41 => bd (f_X12_voiced g S R r41.1 a0 (0 : Int32) r2) (fun r42 => some (r42.1, r41.2 + r42.2)))) else (if (((4 : Int32) * x1) + x2) = (14 : Int32) then bd (f_X12_began S R I a0 (61 : Int32)) (fun r43 => bd (f_X12_bodyFrom g S R r43 a0 (4 : Int32) (2 : Int32) x3) (fun r44 => bd (f_X12_voiced g S R r44.1 a0 (0 : Int32) r2) (fun r45 => some (r45.1, r44.2 + r45.2)))) else (if (((4 : Int32) * x1) + x2) = (15 : Int32) then bd (f_X12_began S R I a0 (51 : Int32)) (fun r46 => bd (f_X12_bodyFrom g S R r46 a0 (2 : Int32) (3 : Int32) x3) (fun r47 => bd (f_X12_voiced g S R r47.1 a0 (2 : Int32) (I a0 32)) (fun r48 => some (r48.1, r47.2 - r48.2)))) else (if (((4 : Int32) * x1) + x2) = (16 : Int32) then bd (f_X12_began S R I a0 (61 : Int32)) (fun r49 => bd (f_X12_bodyFrom g S R r49 a0 (4 : Int32) (2 : Int32) x3) (fun r50 => bd (f_X12_voiced g S R r50.1 a0 (0 : Int32) r2) (fun r51 => some (r51.1, r50.2 + r51.2)))) else (if (((4 : Int32) * x1) + x2) = (17 : Int32) then bd (f_X12_began S R I a0 (61 : Int32)) (fun r52 => bd (f_X12_bodyFrom g S R r52 a0 (4 : Int32) (2 : Int32) x3) (fun r53 => bd (f_X12_voiced g S R r53.1 a0 (0 : Int32) r2) (fun r54 => some (r54.1, r53.2 + r54.2)))) else (if (((4 : Int32) * x1) + x2) = (18 : Int32) then bd (f_X12_began S R I a0 (40 : Int32)) (fun r55 => bd (f_X12_bodyFrom g S R r55 a0 (0 : Int32) (2 : Int32) (x3 - (1 : Int32))) (fun r56 => some (r56.1, r56.2))) else (if (((4 : Int32) * x1) + x2) = (19 : Int32) then bd (f_X12_began S R I a0 (61 : Int32)) (fun r57 => bd (f_X12_bodyFrom g S R r57 a0 (4 : Int32) (2 : Int32) x3) (fun r58 => bd (f_X12_voiced g S R r58.1 a0 (0 : Int32) r2) (fun r59 => some (r59.1, r58.2 + r59.2)))) else (if (((4 : Int32) * x1) + x2) = (20 : Int32) then bd (f_X12_began S R I a0 (61 : Int32)) (fun r60 => bd (f_X12_bodyFrom g S R r60 a0 (4 : Int32) (2 : Int32) x3) (fun r61 => bd (f_X12_voiced g S R r61.1 a0 (0 : Int32) r2) (fun r62 => some (r62.1, r61.2 + r62.2)))) else (if (((4 : Int32) * x1) + x2) = (21 : Int32) then bd (f_X12_began S R I a0 (60 : Int32)) (fun r63 => bd (f_X12_bodyFrom g S R r63 a0 (4 : Int32) (1 : Int32) x3) (fun r64 => some (r64.1, -r64.2))) else bd (f_X12_began S R I a0 (61 : Int32)) (fun r65 => bd (f_X12_bodyFrom g S R r65 a0 (4 : Int32) (2 : Int32) x3) (fun r66 => bd (f_X12_voiced g S R r66.1 a0 (0 : Int32) r2) (fun r67 => some (r67.1, r66.2 + r67.2))))))))))))))))))))))))))))
set_option maxHeartbeats 4000000 in
theorem b_X12_body_b {E : Ev} {p : Program} {l : Launch} {e : Env} {s : State} {m : MethodId} {args : Array Value} {below : List Frame} {meth : Method} {c : Code} {dF dL : Nat} (C : Cx E RX12 cX12_body 7 p s m c) (hr : meth.sig.returnType = (some .int)) (hk : meth.locks = false) {S : Sh} {R : Rw} {r : Iw × Int32} {g : Sh → Rw → Iw → Nat → Int32 → Int32 → Int32 → Option (Iw × Int32)} (hg : ∀ (S : Sh) (R : Rw) (I : Iw) (a0 : Nat) (x1 : Int32) (x2 : Int32) (x3 : Int32) (r : Iw × Int32), g S R I a0 x1 x2 x3 = some r → Mt E l yX12_body cX12_body 7 (some .int) dF dL [.ref (E.1 + a0), .int x1, .int x2, .int x3] S R I S R r.1 (some (.int r.2)) 0 0) : ∀ (I : Iw) (a0 : Nat) (x1 : Int32) (x2 : Int32) (x3 : Int32), f_X12_body_b g S R   I a0 x1 x2 x3 = some r → Wk E 7 p l e ({ frames := dF + 4, cells := 0, slots := 0, locals := dL + 86 } : Room) s m args below meth c 0 0 (MQ below (Qw E S R r.1 (some (.int r.2))) args s 0 0 (fun q => E.1 ≤ q)) 0 [(0, .ref (E.1 + a0)), (1, .int x1), (2, .int x2), (3, .int x3)] [] S R I := by
  intro I a0 x1 x2 x3 h
  rw [f_X12_body_b] at h
  refine k_aloadn (pc := 0) C dX12_body_0 (i := 0) rfl 0 rfl ?_
  obtain ⟨hs10, h⟩ := gp_e h
  have hs1 := sok_e hs10
  refine k_getI (pc := 1) C lkF_RX12_347_12 hs1 ir_12_32 dX12_body_1 ?_
  refine k_istore (pc := 4) C dX12_body_4 (by decide) (L2 := [(0, .ref (E.1 + a0)), (1, .int x1), (2, .int x2), (3, .int x3), (4, .int (I a0 32))]) rfl ?_
  refine k_aloadn (pc := 6) C dX12_body_6 (i := 0) rfl 0 rfl ?_
  refine k_aloadn (pc := 7) C dX12_body_7 (i := 0) rfl 0 rfl ?_
  refine k_getI (pc := 8) C lkF_RX12_347_12 hs1 ir_12_32 dX12_body_8 ?_
  refine k_iconst (pc := 11) C (v := (2 : Int32)) dX12_body_11 (by decide) ?_
  obtain ⟨r2, hr2, h⟩ := bd_e h
  refine k_V (pc := 12) (st := []) C (c_X12_goodIs hr2) lkV_RX12_209 hs1 rfl rfl rfl (Nat.le_of_ble_eq_true rfl) (by show 1 + 1 ≤ dF + 4; omega) (by show 8 + (3 + 11) + 21 ≤ dL + 86; omega) (Nat.le_of_ble_eq_true rfl) (Nat.le_of_ble_eq_true rfl) dX12_body_12 ?_
  refine k_nf (cells2 := 0) (slots2 := 0) (st2 := [.int r2]) rfl rfl rfl ?_
  refine k_istore (pc := 15) C dX12_body_15 (by decide) (L2 := [(0, .ref (E.1 + a0)), (1, .int x1), (2, .int x2), (3, .int x3), (4, .int (I a0 32)), (5, .int r2)]) rfl ?_
  refine k_iconst (pc := 17) C (v := (4 : Int32)) dX12_body_17 (by decide) ?_
  refine k_iloadn (pc := 18) C dX12_body_18 (i := 1) rfl 1 rfl ?_
  refine k_imul (pc := 19) C dX12_body_19 ?_
  refine k_iloadn (pc := 20) C dX12_body_20 (i := 2) rfl 2 rfl ?_
  refine k_iadd (pc := 21) C dX12_body_21 ?_
  by_cases hc68 : (((4 : Int32) * x1) + x2) = (0 : Int32)
  · rw [if_pos hc68] at h
    refine k_tabIn (pc := 22) C dX12_body_22 (by rw [hc68]; decide) (by rw [hc68]; decide) (off := 102) (by rw [hc68]; rfl) (tgt := 124) (by decide) ?_
    refine k_aloadn (pc := 124) C dX12_body_124 (i := 0) rfl 0 rfl ?_
    refine k_bipush (pc := 125) C (v := (10 : Int32)) dX12_body_125 (by decide) ?_
    obtain ⟨r3, hr3, h⟩ := bd_e h
    refine k_V (pc := 127) (st := []) C (c_X12_began hr3) lkV_RX12_363 hs1 rfl rfl rfl (Nat.le_of_ble_eq_true rfl) (by show 0 + 1 ≤ dF + 4; omega) (by show 8 + (2 + 11) + 0 ≤ dL + 86; omega) (Nat.le_of_ble_eq_true rfl) (Nat.le_of_ble_eq_true rfl) dX12_body_127 ?_
    refine k_nf (cells2 := 0) (slots2 := 0) (st2 := []) rfl rfl rfl ?_
    refine k_iloadn (pc := 130) C dX12_body_130 (i := 3) rfl 3 rfl ?_
    refine k_iload (pc := 131) C dX12_body_131 4 rfl ?_
    refine k_isub (pc := 133) C dX12_body_133 ?_
    cases h
    exact k_iret (pc := 134) C hr hk dX12_body_134
  · rw [if_neg hc68] at h
    by_cases hc69 : (((4 : Int32) * x1) + x2) = (1 : Int32)
    · rw [if_pos hc69] at h
      refine k_tabIn (pc := 22) C dX12_body_22 (by rw [hc69]; decide) (by rw [hc69]; decide) (off := 113) (by rw [hc69]; rfl) (tgt := 135) (by decide) ?_
      refine k_aloadn (pc := 135) C dX12_body_135 (i := 0) rfl 0 rfl ?_
      refine k_bipush (pc := 136) C (v := (11 : Int32)) dX12_body_136 (by decide) ?_
      obtain ⟨r4, hr4, h⟩ := bd_e h
      refine k_V (pc := 138) (st := []) C (c_X12_began hr4) lkV_RX12_363 hs1 rfl rfl rfl (Nat.le_of_ble_eq_true rfl) (by show 0 + 1 ≤ dF + 4; omega) (by show 8 + (2 + 11) + 0 ≤ dL + 86; omega) (Nat.le_of_ble_eq_true rfl) (Nat.le_of_ble_eq_true rfl) dX12_body_138 ?_
      refine k_nf (cells2 := 0) (slots2 := 0) (st2 := []) rfl rfl rfl ?_
      refine k_aloadn (pc := 141) C dX12_body_141 (i := 0) rfl 0 rfl ?_
      refine k_iconst (pc := 142) C (v := (0 : Int32)) dX12_body_142 (by decide) ?_
      refine k_iloadn (pc := 143) C dX12_body_143 (i := 3) rfl 3 rfl ?_
      obtain ⟨r5, hr5, h⟩ := bd_e h
      refine k_V (pc := 144) (st := []) C (c_X12_voiced hg hr5) lkV_RX12_366 hs1 rfl rfl rfl (Nat.le_of_ble_eq_true rfl) (by show (dF + 3) + 1 ≤ dF + 4; omega) (by show 8 + (3 + 11) + (dL + 64) ≤ dL + 86; omega) (Nat.le_of_ble_eq_true rfl) (Nat.le_of_ble_eq_true rfl) dX12_body_144 ?_
      refine k_nf (cells2 := 0) (slots2 := 0) (st2 := [.int r5.2]) rfl rfl rfl ?_
      refine k_iconst (pc := 147) C (v := (3 : Int32)) dX12_body_147 (by decide) ?_
      refine k_imul (pc := 148) C dX12_body_148 ?_
      cases h
      exact k_iret (pc := 149) C hr hk dX12_body_149
    · rw [if_neg hc69] at h
      by_cases hc70 : (((4 : Int32) * x1) + x2) = (2 : Int32)
      · rw [if_pos hc70] at h
        refine k_tabIn (pc := 22) C dX12_body_22 (by rw [hc70]; decide) (by rw [hc70]; decide) (off := 128) (by rw [hc70]; rfl) (tgt := 150) (by decide) ?_
        refine k_aloadn (pc := 150) C dX12_body_150 (i := 0) rfl 0 rfl ?_
        refine k_bipush (pc := 151) C (v := (12 : Int32)) dX12_body_151 (by decide) ?_
        obtain ⟨r6, hr6, h⟩ := bd_e h
        refine k_V (pc := 153) (st := []) C (c_X12_began hr6) lkV_RX12_363 hs1 rfl rfl rfl (Nat.le_of_ble_eq_true rfl) (by show 0 + 1 ≤ dF + 4; omega) (by show 8 + (2 + 11) + 0 ≤ dL + 86; omega) (Nat.le_of_ble_eq_true rfl) (Nat.le_of_ble_eq_true rfl) dX12_body_153 ?_
        refine k_nf (cells2 := 0) (slots2 := 0) (st2 := []) rfl rfl rfl ?_
        refine k_aloadn (pc := 156) C dX12_body_156 (i := 0) rfl 0 rfl ?_
        refine k_iload (pc := 157) C dX12_body_157 5 rfl ?_
        refine k_iload (pc := 159) C dX12_body_159 4 rfl ?_
        refine k_icmp_ne (pc := 161) C dX12_body_161 (tgt := 168) (by decide) (fun hc7 => ?_) (fun hc7 => ?_)
        · rw [if_neg hc7] at h
          refine k_iconst (pc := 168) C (v := (0 : Int32)) dX12_body_168 (by decide) ?_
          refine k_loc (L2 := [(0, .ref (E.1 + a0)), (3, .int x3), (4, .int (I a0 32)), (5, .int r2)]) [0, 3, 4, 5] rfl ?_
          exact b_X12_body_169 C hr hk hg  _ _ _ _ _ _ _ h
        · rw [if_pos hc7] at h
          refine k_iconst (pc := 164) C (v := (1 : Int32)) dX12_body_164 (by decide) ?_
          refine k_goto (pc := 165) C dX12_body_165 (tgt := 169) (by decide) ?_
          refine k_loc (L2 := [(0, .ref (E.1 + a0)), (3, .int x3), (4, .int (I a0 32)), (5, .int r2)]) [0, 3, 4, 5] rfl ?_
          exact b_X12_body_169 C hr hk hg  _ _ _ _ _ _ _ h
      · rw [if_neg hc70] at h
        by_cases hc71 : (((4 : Int32) * x1) + x2) = (3 : Int32)
        · rw [if_pos hc71] at h
          refine k_tabIn (pc := 22) C dX12_body_22 (by rw [hc71]; decide) (by rw [hc71]; decide) (off := 169) (by rw [hc71]; rfl) (tgt := 191) (by decide) ?_
          refine k_aloadn (pc := 191) C dX12_body_191 (i := 0) rfl 0 rfl ?_
          refine k_bipush (pc := 192) C (v := (13 : Int32)) dX12_body_192 (by decide) ?_
          obtain ⟨r14, hr14, h⟩ := bd_e h
          refine k_V (pc := 194) (st := []) C (c_X12_began hr14) lkV_RX12_363 hs1 rfl rfl rfl (Nat.le_of_ble_eq_true rfl) (by show 0 + 1 ≤ dF + 4; omega) (by show 8 + (2 + 11) + 0 ≤ dL + 86; omega) (Nat.le_of_ble_eq_true rfl) (Nat.le_of_ble_eq_true rfl) dX12_body_194 ?_
          refine k_nf (cells2 := 0) (slots2 := 0) (st2 := []) rfl rfl rfl ?_
          refine k_aloadn (pc := 197) C dX12_body_197 (i := 0) rfl 0 rfl ?_
          refine k_iconst (pc := 198) C (v := (1 : Int32)) dX12_body_198 (by decide) ?_
          refine k_iloadn (pc := 199) C dX12_body_199 (i := 3) rfl 3 rfl ?_
          obtain ⟨r15, hr15, h⟩ := bd_e h
          refine k_V (pc := 200) (st := []) C (c_X12_voiced hg hr15) lkV_RX12_366 hs1 rfl rfl rfl (Nat.le_of_ble_eq_true rfl) (by show (dF + 3) + 1 ≤ dF + 4; omega) (by show 8 + (3 + 11) + (dL + 64) ≤ dL + 86; omega) (Nat.le_of_ble_eq_true rfl) (Nat.le_of_ble_eq_true rfl) dX12_body_200 ?_
          refine k_nf (cells2 := 0) (slots2 := 0) (st2 := [.int r15.2]) rfl rfl rfl ?_
          refine k_iload (pc := 203) C dX12_body_203 5 rfl ?_
          refine k_ixor (pc := 205) C dX12_body_205 ?_
          cases h
          exact k_iret (pc := 206) C hr hk dX12_body_206
        · rw [if_neg hc71] at h
          by_cases hc72 : (((4 : Int32) * x1) + x2) = (4 : Int32)
          · rw [if_pos hc72] at h
            refine k_tabIn (pc := 22) C dX12_body_22 (by rw [hc72]; decide) (by rw [hc72]; decide) (off := 185) (by rw [hc72]; rfl) (tgt := 207) (by decide) ?_
            refine k_aloadn (pc := 207) C dX12_body_207 (i := 0) rfl 0 rfl ?_
            refine k_bipush (pc := 208) C (v := (20 : Int32)) dX12_body_208 (by decide) ?_
            obtain ⟨r16, hr16, h⟩ := bd_e h
            refine k_V (pc := 210) (st := []) C (c_X12_began hr16) lkV_RX12_363 hs1 rfl rfl rfl (Nat.le_of_ble_eq_true rfl) (by show 0 + 1 ≤ dF + 4; omega) (by show 8 + (2 + 11) + 0 ≤ dL + 86; omega) (Nat.le_of_ble_eq_true rfl) (Nat.le_of_ble_eq_true rfl) dX12_body_210 ?_
            refine k_nf (cells2 := 0) (slots2 := 0) (st2 := []) rfl rfl rfl ?_
            refine k_aloadn (pc := 213) C dX12_body_213 (i := 0) rfl 0 rfl ?_
            refine k_iconst (pc := 214) C (v := (0 : Int32)) dX12_body_214 (by decide) ?_
            refine k_iconst (pc := 215) C (v := (0 : Int32)) dX12_body_215 (by decide) ?_
            refine k_iloadn (pc := 216) C dX12_body_216 (i := 3) rfl 3 rfl ?_
            obtain ⟨r17, hr17, h⟩ := bd_e h
            refine k_V (pc := 217) (st := []) C (c_X12_bodyFrom hg hr17) lkV_RX12_350 hs1 rfl rfl rfl (Nat.le_of_ble_eq_true rfl) (by show (dF + 1) + 1 ≤ dF + 4; omega) (by show 8 + (5 + 11) + (dL + 26) ≤ dL + 86; omega) (Nat.le_of_ble_eq_true rfl) (Nat.le_of_ble_eq_true rfl) dX12_body_217 ?_
            refine k_nf (cells2 := 0) (slots2 := 0) (st2 := [.int r17.2]) rfl rfl rfl ?_
            refine k_iconst (pc := 220) C (v := (2 : Int32)) dX12_body_220 (by decide) ?_
            refine k_imul (pc := 221) C dX12_body_221 ?_
            cases h
            exact k_iret (pc := 222) C hr hk dX12_body_222
          · rw [if_neg hc72] at h
            by_cases hc73 : (((4 : Int32) * x1) + x2) = (5 : Int32)
            · rw [if_pos hc73] at h
              refine k_tabIn (pc := 22) C dX12_body_22 (by rw [hc73]; decide) (by rw [hc73]; decide) (off := 292) (by rw [hc73]; rfl) (tgt := 314) (by decide) ?_
              refine k_aloadn (pc := 314) C dX12_body_314 (i := 0) rfl 0 rfl ?_
              refine k_bipush (pc := 315) C (v := (61 : Int32)) dX12_body_315 (by decide) ?_
              obtain ⟨r18, hr18, h⟩ := bd_e h
              refine k_V (pc := 317) (st := []) C (c_X12_began hr18) lkV_RX12_363 hs1 rfl rfl rfl (Nat.le_of_ble_eq_true rfl) (by show 0 + 1 ≤ dF + 4; omega) (by show 8 + (2 + 11) + 0 ≤ dL + 86; omega) (Nat.le_of_ble_eq_true rfl) (Nat.le_of_ble_eq_true rfl) dX12_body_317 ?_
              refine k_nf (cells2 := 0) (slots2 := 0) (st2 := []) rfl rfl rfl ?_
              refine k_aloadn (pc := 320) C dX12_body_320 (i := 0) rfl 0 rfl ?_
              refine k_iconst (pc := 321) C (v := (4 : Int32)) dX12_body_321 (by decide) ?_
              refine k_iconst (pc := 322) C (v := (2 : Int32)) dX12_body_322 (by decide) ?_
              refine k_iloadn (pc := 323) C dX12_body_323 (i := 3) rfl 3 rfl ?_
              obtain ⟨r19, hr19, h⟩ := bd_e h
              refine k_V (pc := 324) (st := []) C (c_X12_bodyFrom hg hr19) lkV_RX12_350 hs1 rfl rfl rfl (Nat.le_of_ble_eq_true rfl) (by show (dF + 1) + 1 ≤ dF + 4; omega) (by show 8 + (5 + 11) + (dL + 26) ≤ dL + 86; omega) (Nat.le_of_ble_eq_true rfl) (Nat.le_of_ble_eq_true rfl) dX12_body_324 ?_
              refine k_nf (cells2 := 0) (slots2 := 0) (st2 := [.int r19.2]) rfl rfl rfl ?_
              refine k_istore (pc := 327) C dX12_body_327 (by decide) (L2 := [(0, .ref (E.1 + a0)), (1, .int x1), (2, .int x2), (3, .int x3), (4, .int (I a0 32)), (5, .int r2), (6, .int r19.2)]) rfl ?_
              refine k_iload (pc := 329) C dX12_body_329 6 rfl ?_
              refine k_aloadn (pc := 331) C dX12_body_331 (i := 0) rfl 0 rfl ?_
              refine k_iconst (pc := 332) C (v := (0 : Int32)) dX12_body_332 (by decide) ?_
              refine k_iload (pc := 333) C dX12_body_333 5 rfl ?_
              obtain ⟨r20, hr20, h⟩ := bd_e h
              refine k_V (pc := 335) (st := [.int r19.2]) C (c_X12_voiced hg hr20) lkV_RX12_366 hs1 rfl rfl rfl (Nat.le_of_ble_eq_true rfl) (by show (dF + 3) + 1 ≤ dF + 4; omega) (by show 8 + (3 + 11) + (dL + 64) ≤ dL + 86; omega) (Nat.le_of_ble_eq_true rfl) (Nat.le_of_ble_eq_true rfl) dX12_body_335 ?_
              refine k_nf (cells2 := 0) (slots2 := 0) (st2 := [.int r20.2, .int r19.2]) rfl rfl rfl ?_
              refine k_iadd (pc := 338) C dX12_body_338 ?_
              cases h
              exact k_iret (pc := 339) C hr hk dX12_body_339
            · rw [if_neg hc73] at h
              by_cases hc74 : (((4 : Int32) * x1) + x2) = (6 : Int32)
              · rw [if_pos hc74] at h
                refine k_tabIn (pc := 22) C dX12_body_22 (by rw [hc74]; decide) (by rw [hc74]; decide) (off := 292) (by rw [hc74]; rfl) (tgt := 314) (by decide) ?_
                refine k_aloadn (pc := 314) C dX12_body_314 (i := 0) rfl 0 rfl ?_
                refine k_bipush (pc := 315) C (v := (61 : Int32)) dX12_body_315 (by decide) ?_
                obtain ⟨r21, hr21, h⟩ := bd_e h
                refine k_V (pc := 317) (st := []) C (c_X12_began hr21) lkV_RX12_363 hs1 rfl rfl rfl (Nat.le_of_ble_eq_true rfl) (by show 0 + 1 ≤ dF + 4; omega) (by show 8 + (2 + 11) + 0 ≤ dL + 86; omega) (Nat.le_of_ble_eq_true rfl) (Nat.le_of_ble_eq_true rfl) dX12_body_317 ?_
                refine k_nf (cells2 := 0) (slots2 := 0) (st2 := []) rfl rfl rfl ?_
                refine k_aloadn (pc := 320) C dX12_body_320 (i := 0) rfl 0 rfl ?_
                refine k_iconst (pc := 321) C (v := (4 : Int32)) dX12_body_321 (by decide) ?_
                refine k_iconst (pc := 322) C (v := (2 : Int32)) dX12_body_322 (by decide) ?_
                refine k_iloadn (pc := 323) C dX12_body_323 (i := 3) rfl 3 rfl ?_
                obtain ⟨r22, hr22, h⟩ := bd_e h
                refine k_V (pc := 324) (st := []) C (c_X12_bodyFrom hg hr22) lkV_RX12_350 hs1 rfl rfl rfl (Nat.le_of_ble_eq_true rfl) (by show (dF + 1) + 1 ≤ dF + 4; omega) (by show 8 + (5 + 11) + (dL + 26) ≤ dL + 86; omega) (Nat.le_of_ble_eq_true rfl) (Nat.le_of_ble_eq_true rfl) dX12_body_324 ?_
                refine k_nf (cells2 := 0) (slots2 := 0) (st2 := [.int r22.2]) rfl rfl rfl ?_
                refine k_istore (pc := 327) C dX12_body_327 (by decide) (L2 := [(0, .ref (E.1 + a0)), (1, .int x1), (2, .int x2), (3, .int x3), (4, .int (I a0 32)), (5, .int r2), (6, .int r22.2)]) rfl ?_
                refine k_iload (pc := 329) C dX12_body_329 6 rfl ?_
                refine k_aloadn (pc := 331) C dX12_body_331 (i := 0) rfl 0 rfl ?_
                refine k_iconst (pc := 332) C (v := (0 : Int32)) dX12_body_332 (by decide) ?_
                refine k_iload (pc := 333) C dX12_body_333 5 rfl ?_
                obtain ⟨r23, hr23, h⟩ := bd_e h
                refine k_V (pc := 335) (st := [.int r22.2]) C (c_X12_voiced hg hr23) lkV_RX12_366 hs1 rfl rfl rfl (Nat.le_of_ble_eq_true rfl) (by show (dF + 3) + 1 ≤ dF + 4; omega) (by show 8 + (3 + 11) + (dL + 64) ≤ dL + 86; omega) (Nat.le_of_ble_eq_true rfl) (Nat.le_of_ble_eq_true rfl) dX12_body_335 ?_
                refine k_nf (cells2 := 0) (slots2 := 0) (st2 := [.int r23.2, .int r22.2]) rfl rfl rfl ?_
                refine k_iadd (pc := 338) C dX12_body_338 ?_
                cases h
                exact k_iret (pc := 339) C hr hk dX12_body_339
              · rw [if_neg hc74] at h
                by_cases hc75 : (((4 : Int32) * x1) + x2) = (7 : Int32)
                · rw [if_pos hc75] at h
                  refine k_tabIn (pc := 22) C dX12_body_22 (by rw [hc75]; decide) (by rw [hc75]; decide) (off := 292) (by rw [hc75]; rfl) (tgt := 314) (by decide) ?_
                  refine k_aloadn (pc := 314) C dX12_body_314 (i := 0) rfl 0 rfl ?_
                  refine k_bipush (pc := 315) C (v := (61 : Int32)) dX12_body_315 (by decide) ?_
                  obtain ⟨r24, hr24, h⟩ := bd_e h
                  refine k_V (pc := 317) (st := []) C (c_X12_began hr24) lkV_RX12_363 hs1 rfl rfl rfl (Nat.le_of_ble_eq_true rfl) (by show 0 + 1 ≤ dF + 4; omega) (by show 8 + (2 + 11) + 0 ≤ dL + 86; omega) (Nat.le_of_ble_eq_true rfl) (Nat.le_of_ble_eq_true rfl) dX12_body_317 ?_
                  refine k_nf (cells2 := 0) (slots2 := 0) (st2 := []) rfl rfl rfl ?_
                  refine k_aloadn (pc := 320) C dX12_body_320 (i := 0) rfl 0 rfl ?_
                  refine k_iconst (pc := 321) C (v := (4 : Int32)) dX12_body_321 (by decide) ?_
                  refine k_iconst (pc := 322) C (v := (2 : Int32)) dX12_body_322 (by decide) ?_
                  refine k_iloadn (pc := 323) C dX12_body_323 (i := 3) rfl 3 rfl ?_
                  obtain ⟨r25, hr25, h⟩ := bd_e h
                  refine k_V (pc := 324) (st := []) C (c_X12_bodyFrom hg hr25) lkV_RX12_350 hs1 rfl rfl rfl (Nat.le_of_ble_eq_true rfl) (by show (dF + 1) + 1 ≤ dF + 4; omega) (by show 8 + (5 + 11) + (dL + 26) ≤ dL + 86; omega) (Nat.le_of_ble_eq_true rfl) (Nat.le_of_ble_eq_true rfl) dX12_body_324 ?_
                  refine k_nf (cells2 := 0) (slots2 := 0) (st2 := [.int r25.2]) rfl rfl rfl ?_
                  refine k_istore (pc := 327) C dX12_body_327 (by decide) (L2 := [(0, .ref (E.1 + a0)), (1, .int x1), (2, .int x2), (3, .int x3), (4, .int (I a0 32)), (5, .int r2), (6, .int r25.2)]) rfl ?_
                  refine k_iload (pc := 329) C dX12_body_329 6 rfl ?_
                  refine k_aloadn (pc := 331) C dX12_body_331 (i := 0) rfl 0 rfl ?_
                  refine k_iconst (pc := 332) C (v := (0 : Int32)) dX12_body_332 (by decide) ?_
                  refine k_iload (pc := 333) C dX12_body_333 5 rfl ?_
                  obtain ⟨r26, hr26, h⟩ := bd_e h
                  refine k_V (pc := 335) (st := [.int r25.2]) C (c_X12_voiced hg hr26) lkV_RX12_366 hs1 rfl rfl rfl (Nat.le_of_ble_eq_true rfl) (by show (dF + 3) + 1 ≤ dF + 4; omega) (by show 8 + (3 + 11) + (dL + 64) ≤ dL + 86; omega) (Nat.le_of_ble_eq_true rfl) (Nat.le_of_ble_eq_true rfl) dX12_body_335 ?_
                  refine k_nf (cells2 := 0) (slots2 := 0) (st2 := [.int r26.2, .int r25.2]) rfl rfl rfl ?_
                  refine k_iadd (pc := 338) C dX12_body_338 ?_
                  cases h
                  exact k_iret (pc := 339) C hr hk dX12_body_339
                · rw [if_neg hc75] at h
                  by_cases hc76 : (((4 : Int32) * x1) + x2) = (8 : Int32)
                  · rw [if_pos hc76] at h
                    refine k_tabIn (pc := 22) C dX12_body_22 (by rw [hc76]; decide) (by rw [hc76]; decide) (off := 292) (by rw [hc76]; rfl) (tgt := 314) (by decide) ?_
                    refine k_aloadn (pc := 314) C dX12_body_314 (i := 0) rfl 0 rfl ?_
                    refine k_bipush (pc := 315) C (v := (61 : Int32)) dX12_body_315 (by decide) ?_
                    obtain ⟨r27, hr27, h⟩ := bd_e h
                    refine k_V (pc := 317) (st := []) C (c_X12_began hr27) lkV_RX12_363 hs1 rfl rfl rfl (Nat.le_of_ble_eq_true rfl) (by show 0 + 1 ≤ dF + 4; omega) (by show 8 + (2 + 11) + 0 ≤ dL + 86; omega) (Nat.le_of_ble_eq_true rfl) (Nat.le_of_ble_eq_true rfl) dX12_body_317 ?_
                    refine k_nf (cells2 := 0) (slots2 := 0) (st2 := []) rfl rfl rfl ?_
                    refine k_aloadn (pc := 320) C dX12_body_320 (i := 0) rfl 0 rfl ?_
                    refine k_iconst (pc := 321) C (v := (4 : Int32)) dX12_body_321 (by decide) ?_
                    refine k_iconst (pc := 322) C (v := (2 : Int32)) dX12_body_322 (by decide) ?_
                    refine k_iloadn (pc := 323) C dX12_body_323 (i := 3) rfl 3 rfl ?_
                    obtain ⟨r28, hr28, h⟩ := bd_e h
                    refine k_V (pc := 324) (st := []) C (c_X12_bodyFrom hg hr28) lkV_RX12_350 hs1 rfl rfl rfl (Nat.le_of_ble_eq_true rfl) (by show (dF + 1) + 1 ≤ dF + 4; omega) (by show 8 + (5 + 11) + (dL + 26) ≤ dL + 86; omega) (Nat.le_of_ble_eq_true rfl) (Nat.le_of_ble_eq_true rfl) dX12_body_324 ?_
                    refine k_nf (cells2 := 0) (slots2 := 0) (st2 := [.int r28.2]) rfl rfl rfl ?_
                    refine k_istore (pc := 327) C dX12_body_327 (by decide) (L2 := [(0, .ref (E.1 + a0)), (1, .int x1), (2, .int x2), (3, .int x3), (4, .int (I a0 32)), (5, .int r2), (6, .int r28.2)]) rfl ?_
                    refine k_iload (pc := 329) C dX12_body_329 6 rfl ?_
                    refine k_aloadn (pc := 331) C dX12_body_331 (i := 0) rfl 0 rfl ?_
                    refine k_iconst (pc := 332) C (v := (0 : Int32)) dX12_body_332 (by decide) ?_
                    refine k_iload (pc := 333) C dX12_body_333 5 rfl ?_
                    obtain ⟨r29, hr29, h⟩ := bd_e h
                    refine k_V (pc := 335) (st := [.int r28.2]) C (c_X12_voiced hg hr29) lkV_RX12_366 hs1 rfl rfl rfl (Nat.le_of_ble_eq_true rfl) (by show (dF + 3) + 1 ≤ dF + 4; omega) (by show 8 + (3 + 11) + (dL + 64) ≤ dL + 86; omega) (Nat.le_of_ble_eq_true rfl) (Nat.le_of_ble_eq_true rfl) dX12_body_335 ?_
                    refine k_nf (cells2 := 0) (slots2 := 0) (st2 := [.int r29.2, .int r28.2]) rfl rfl rfl ?_
                    refine k_iadd (pc := 338) C dX12_body_338 ?_
                    cases h
                    exact k_iret (pc := 339) C hr hk dX12_body_339
                  · rw [if_neg hc76] at h
                    by_cases hc77 : (((4 : Int32) * x1) + x2) = (9 : Int32)
                    · rw [if_pos hc77] at h
                      refine k_tabIn (pc := 22) C dX12_body_22 (by rw [hc77]; decide) (by rw [hc77]; decide) (off := 201) (by rw [hc77]; rfl) (tgt := 223) (by decide) ?_
                      refine k_aloadn (pc := 223) C dX12_body_223 (i := 0) rfl 0 rfl ?_
                      refine k_bipush (pc := 224) C (v := (30 : Int32)) dX12_body_224 (by decide) ?_
                      obtain ⟨r30, hr30, h⟩ := bd_e h
                      refine k_V (pc := 226) (st := []) C (c_X12_began hr30) lkV_RX12_363 hs1 rfl rfl rfl (Nat.le_of_ble_eq_true rfl) (by show 0 + 1 ≤ dF + 4; omega) (by show 8 + (2 + 11) + 0 ≤ dL + 86; omega) (Nat.le_of_ble_eq_true rfl) (Nat.le_of_ble_eq_true rfl) dX12_body_226 ?_
                      refine k_nf (cells2 := 0) (slots2 := 0) (st2 := []) rfl rfl rfl ?_
                      refine k_aloadn (pc := 229) C dX12_body_229 (i := 0) rfl 0 rfl ?_
                      refine k_iconst (pc := 230) C (v := (0 : Int32)) dX12_body_230 (by decide) ?_
                      refine k_iconst (pc := 231) C (v := (1 : Int32)) dX12_body_231 (by decide) ?_
                      refine k_iloadn (pc := 232) C dX12_body_232 (i := 3) rfl 3 rfl ?_
                      obtain ⟨r31, hr31, h⟩ := bd_e h
                      refine k_V (pc := 233) (st := []) C (c_X12_bodyFrom hg hr31) lkV_RX12_350 hs1 rfl rfl rfl (Nat.le_of_ble_eq_true rfl) (by show (dF + 1) + 1 ≤ dF + 4; omega) (by show 8 + (5 + 11) + (dL + 26) ≤ dL + 86; omega) (Nat.le_of_ble_eq_true rfl) (Nat.le_of_ble_eq_true rfl) dX12_body_233 ?_
                      refine k_nf (cells2 := 0) (slots2 := 0) (st2 := [.int r31.2]) rfl rfl rfl ?_
                      refine k_iload (pc := 236) C dX12_body_236 5 rfl ?_
                      refine k_iadd (pc := 238) C dX12_body_238 ?_
                      cases h
                      exact k_iret (pc := 239) C hr hk dX12_body_239
                    · rw [if_neg hc77] at h
                      by_cases hc78 : (((4 : Int32) * x1) + x2) = (10 : Int32)
                      · rw [if_pos hc78] at h
                        refine k_tabIn (pc := 22) C dX12_body_22 (by rw [hc78]; decide) (by rw [hc78]; decide) (off := 292) (by rw [hc78]; rfl) (tgt := 314) (by decide) ?_
                        refine k_aloadn (pc := 314) C dX12_body_314 (i := 0) rfl 0 rfl ?_
                        refine k_bipush (pc := 315) C (v := (61 : Int32)) dX12_body_315 (by decide) ?_
                        obtain ⟨r32, hr32, h⟩ := bd_e h
                        refine k_V (pc := 317) (st := []) C (c_X12_began hr32) lkV_RX12_363 hs1 rfl rfl rfl (Nat.le_of_ble_eq_true rfl) (by show 0 + 1 ≤ dF + 4; omega) (by show 8 + (2 + 11) + 0 ≤ dL + 86; omega) (Nat.le_of_ble_eq_true rfl) (Nat.le_of_ble_eq_true rfl) dX12_body_317 ?_
                        refine k_nf (cells2 := 0) (slots2 := 0) (st2 := []) rfl rfl rfl ?_
                        refine k_aloadn (pc := 320) C dX12_body_320 (i := 0) rfl 0 rfl ?_
                        refine k_iconst (pc := 321) C (v := (4 : Int32)) dX12_body_321 (by decide) ?_
                        refine k_iconst (pc := 322) C (v := (2 : Int32)) dX12_body_322 (by decide) ?_
                        refine k_iloadn (pc := 323) C dX12_body_323 (i := 3) rfl 3 rfl ?_
                        obtain ⟨r33, hr33, h⟩ := bd_e h
                        refine k_V (pc := 324) (st := []) C (c_X12_bodyFrom hg hr33) lkV_RX12_350 hs1 rfl rfl rfl (Nat.le_of_ble_eq_true rfl) (by show (dF + 1) + 1 ≤ dF + 4; omega) (by show 8 + (5 + 11) + (dL + 26) ≤ dL + 86; omega) (Nat.le_of_ble_eq_true rfl) (Nat.le_of_ble_eq_true rfl) dX12_body_324 ?_
                        refine k_nf (cells2 := 0) (slots2 := 0) (st2 := [.int r33.2]) rfl rfl rfl ?_
                        refine k_istore (pc := 327) C dX12_body_327 (by decide) (L2 := [(0, .ref (E.1 + a0)), (1, .int x1), (2, .int x2), (3, .int x3), (4, .int (I a0 32)), (5, .int r2), (6, .int r33.2)]) rfl ?_
                        refine k_iload (pc := 329) C dX12_body_329 6 rfl ?_
                        refine k_aloadn (pc := 331) C dX12_body_331 (i := 0) rfl 0 rfl ?_
                        refine k_iconst (pc := 332) C (v := (0 : Int32)) dX12_body_332 (by decide) ?_
                        refine k_iload (pc := 333) C dX12_body_333 5 rfl ?_
                        obtain ⟨r34, hr34, h⟩ := bd_e h
                        refine k_V (pc := 335) (st := [.int r33.2]) C (c_X12_voiced hg hr34) lkV_RX12_366 hs1 rfl rfl rfl (Nat.le_of_ble_eq_true rfl) (by show (dF + 3) + 1 ≤ dF + 4; omega) (by show 8 + (3 + 11) + (dL + 64) ≤ dL + 86; omega) (Nat.le_of_ble_eq_true rfl) (Nat.le_of_ble_eq_true rfl) dX12_body_335 ?_
                        refine k_nf (cells2 := 0) (slots2 := 0) (st2 := [.int r34.2, .int r33.2]) rfl rfl rfl ?_
                        refine k_iadd (pc := 338) C dX12_body_338 ?_
                        cases h
                        exact k_iret (pc := 339) C hr hk dX12_body_339
                      · rw [if_neg hc78] at h
                        by_cases hc79 : (((4 : Int32) * x1) + x2) = (11 : Int32)
                        · rw [if_pos hc79] at h
                          refine k_tabIn (pc := 22) C dX12_body_22 (by rw [hc79]; decide) (by rw [hc79]; decide) (off := 292) (by rw [hc79]; rfl) (tgt := 314) (by decide) ?_
                          refine k_aloadn (pc := 314) C dX12_body_314 (i := 0) rfl 0 rfl ?_
                          refine k_bipush (pc := 315) C (v := (61 : Int32)) dX12_body_315 (by decide) ?_
                          obtain ⟨r35, hr35, h⟩ := bd_e h
                          refine k_V (pc := 317) (st := []) C (c_X12_began hr35) lkV_RX12_363 hs1 rfl rfl rfl (Nat.le_of_ble_eq_true rfl) (by show 0 + 1 ≤ dF + 4; omega) (by show 8 + (2 + 11) + 0 ≤ dL + 86; omega) (Nat.le_of_ble_eq_true rfl) (Nat.le_of_ble_eq_true rfl) dX12_body_317 ?_
                          refine k_nf (cells2 := 0) (slots2 := 0) (st2 := []) rfl rfl rfl ?_
                          refine k_aloadn (pc := 320) C dX12_body_320 (i := 0) rfl 0 rfl ?_
                          refine k_iconst (pc := 321) C (v := (4 : Int32)) dX12_body_321 (by decide) ?_
                          refine k_iconst (pc := 322) C (v := (2 : Int32)) dX12_body_322 (by decide) ?_
                          refine k_iloadn (pc := 323) C dX12_body_323 (i := 3) rfl 3 rfl ?_
                          obtain ⟨r36, hr36, h⟩ := bd_e h
                          refine k_V (pc := 324) (st := []) C (c_X12_bodyFrom hg hr36) lkV_RX12_350 hs1 rfl rfl rfl (Nat.le_of_ble_eq_true rfl) (by show (dF + 1) + 1 ≤ dF + 4; omega) (by show 8 + (5 + 11) + (dL + 26) ≤ dL + 86; omega) (Nat.le_of_ble_eq_true rfl) (Nat.le_of_ble_eq_true rfl) dX12_body_324 ?_
                          refine k_nf (cells2 := 0) (slots2 := 0) (st2 := [.int r36.2]) rfl rfl rfl ?_
                          refine k_istore (pc := 327) C dX12_body_327 (by decide) (L2 := [(0, .ref (E.1 + a0)), (1, .int x1), (2, .int x2), (3, .int x3), (4, .int (I a0 32)), (5, .int r2), (6, .int r36.2)]) rfl ?_
                          refine k_iload (pc := 329) C dX12_body_329 6 rfl ?_
                          refine k_aloadn (pc := 331) C dX12_body_331 (i := 0) rfl 0 rfl ?_
                          refine k_iconst (pc := 332) C (v := (0 : Int32)) dX12_body_332 (by decide) ?_
                          refine k_iload (pc := 333) C dX12_body_333 5 rfl ?_
                          obtain ⟨r37, hr37, h⟩ := bd_e h
                          refine k_V (pc := 335) (st := [.int r36.2]) C (c_X12_voiced hg hr37) lkV_RX12_366 hs1 rfl rfl rfl (Nat.le_of_ble_eq_true rfl) (by show (dF + 3) + 1 ≤ dF + 4; omega) (by show 8 + (3 + 11) + (dL + 64) ≤ dL + 86; omega) (Nat.le_of_ble_eq_true rfl) (Nat.le_of_ble_eq_true rfl) dX12_body_335 ?_
                          refine k_nf (cells2 := 0) (slots2 := 0) (st2 := [.int r37.2, .int r36.2]) rfl rfl rfl ?_
                          refine k_iadd (pc := 338) C dX12_body_338 ?_
                          cases h
                          exact k_iret (pc := 339) C hr hk dX12_body_339
                        · rw [if_neg hc79] at h
                          by_cases hc80 : (((4 : Int32) * x1) + x2) = (12 : Int32)
                          · rw [if_pos hc80] at h
                            refine k_tabIn (pc := 22) C dX12_body_22 (by rw [hc80]; decide) (by rw [hc80]; decide) (off := 218) (by rw [hc80]; rfl) (tgt := 240) (by decide) ?_
                            refine k_aloadn (pc := 240) C dX12_body_240 (i := 0) rfl 0 rfl ?_
                            refine k_bipush (pc := 241) C (v := (50 : Int32)) dX12_body_241 (by decide) ?_
                            obtain ⟨r38, hr38, h⟩ := bd_e h
                            refine k_V (pc := 243) (st := []) C (c_X12_began hr38) lkV_RX12_363 hs1 rfl rfl rfl (Nat.le_of_ble_eq_true rfl) (by show 0 + 1 ≤ dF + 4; omega) (by show 8 + (2 + 11) + 0 ≤ dL + 86; omega) (Nat.le_of_ble_eq_true rfl) (Nat.le_of_ble_eq_true rfl) dX12_body_243 ?_
                            refine k_nf (cells2 := 0) (slots2 := 0) (st2 := []) rfl rfl rfl ?_
                            refine k_aloadn (pc := 246) C dX12_body_246 (i := 0) rfl 0 rfl ?_
                            refine k_iconst (pc := 247) C (v := (2 : Int32)) dX12_body_247 (by decide) ?_
                            refine k_iconst (pc := 248) C (v := (0 : Int32)) dX12_body_248 (by decide) ?_
                            refine k_iloadn (pc := 249) C dX12_body_249 (i := 3) rfl 3 rfl ?_
                            obtain ⟨r39, hr39, h⟩ := bd_e h
                            refine k_V (pc := 250) (st := []) C (c_X12_bodyFrom hg hr39) lkV_RX12_350 hs1 rfl rfl rfl (Nat.le_of_ble_eq_true rfl) (by show (dF + 1) + 1 ≤ dF + 4; omega) (by show 8 + (5 + 11) + (dL + 26) ≤ dL + 86; omega) (Nat.le_of_ble_eq_true rfl) (Nat.le_of_ble_eq_true rfl) dX12_body_250 ?_
                            refine k_nf (cells2 := 0) (slots2 := 0) (st2 := [.int r39.2]) rfl rfl rfl ?_
                            refine k_iload (pc := 253) C dX12_body_253 5 rfl ?_
                            refine k_ixor (pc := 255) C dX12_body_255 ?_
                            cases h
                            exact k_iret (pc := 256) C hr hk dX12_body_256
                          · rw [if_neg hc80] at h
                            by_cases hc81 : (((4 : Int32) * x1) + x2) = (13 : Int32)
                            · rw [if_pos hc81] at h
                              refine k_tabIn (pc := 22) C dX12_body_22 (by rw [hc81]; decide) (by rw [hc81]; decide) (off := 292) (by rw [hc81]; rfl) (tgt := 314) (by decide) ?_
                              refine k_aloadn (pc := 314) C dX12_body_314 (i := 0) rfl 0 rfl ?_
                              refine k_bipush (pc := 315) C (v := (61 : Int32)) dX12_body_315 (by decide) ?_
                              obtain ⟨r40, hr40, h⟩ := bd_e h
                              refine k_V (pc := 317) (st := []) C (c_X12_began hr40) lkV_RX12_363 hs1 rfl rfl rfl (Nat.le_of_ble_eq_true rfl) (by show 0 + 1 ≤ dF + 4; omega) (by show 8 + (2 + 11) + 0 ≤ dL + 86; omega) (Nat.le_of_ble_eq_true rfl) (Nat.le_of_ble_eq_true rfl) dX12_body_317 ?_
                              refine k_nf (cells2 := 0) (slots2 := 0) (st2 := []) rfl rfl rfl ?_
                              refine k_aloadn (pc := 320) C dX12_body_320 (i := 0) rfl 0 rfl ?_
                              refine k_iconst (pc := 321) C (v := (4 : Int32)) dX12_body_321 (by decide) ?_
                              refine k_iconst (pc := 322) C (v := (2 : Int32)) dX12_body_322 (by decide) ?_
                              refine k_iloadn (pc := 323) C dX12_body_323 (i := 3) rfl 3 rfl ?_
                              obtain ⟨r41, hr41, h⟩ := bd_e h
                              refine k_V (pc := 324) (st := []) C (c_X12_bodyFrom hg hr41) lkV_RX12_350 hs1 rfl rfl rfl (Nat.le_of_ble_eq_true rfl) (by show (dF + 1) + 1 ≤ dF + 4; omega) (by show 8 + (5 + 11) + (dL + 26) ≤ dL + 86; omega) (Nat.le_of_ble_eq_true rfl) (Nat.le_of_ble_eq_true rfl) dX12_body_324 ?_
                              refine k_nf (cells2 := 0) (slots2 := 0) (st2 := [.int r41.2]) rfl rfl rfl ?_
                              refine k_istore (pc := 327) C dX12_body_327 (by decide) (L2 := [(0, .ref (E.1 + a0)), (1, .int x1), (2, .int x2), (3, .int x3), (4, .int (I a0 32)), (5, .int r2), (6, .int r41.2)]) rfl ?_
                              refine k_iload (pc := 329) C dX12_body_329 6 rfl ?_
                              refine k_aloadn (pc := 331) C dX12_body_331 (i := 0) rfl 0 rfl ?_
                              refine k_iconst (pc := 332) C (v := (0 : Int32)) dX12_body_332 (by decide) ?_
                              refine k_iload (pc := 333) C dX12_body_333 5 rfl ?_
                              obtain ⟨r42, hr42, h⟩ := bd_e h
                              refine k_V (pc := 335) (st := [.int r41.2]) C (c_X12_voiced hg hr42) lkV_RX12_366 hs1 rfl rfl rfl (Nat.le_of_ble_eq_true rfl) (by show (dF + 3) + 1 ≤ dF + 4; omega) (by show 8 + (3 + 11) + (dL + 64) ≤ dL + 86; omega) (Nat.le_of_ble_eq_true rfl) (Nat.le_of_ble_eq_true rfl) dX12_body_335 ?_
                              refine k_nf (cells2 := 0) (slots2 := 0) (st2 := [.int r42.2, .int r41.2]) rfl rfl rfl ?_
                              refine k_iadd (pc := 338) C dX12_body_338 ?_
                              cases h
                              exact k_iret (pc := 339) C hr hk dX12_body_339
                            · rw [if_neg hc81] at h
                              by_cases hc82 : (((4 : Int32) * x1) + x2) = (14 : Int32)
                              · rw [if_pos hc82] at h
                                refine k_tabIn (pc := 22) C dX12_body_22 (by rw [hc82]; decide) (by rw [hc82]; decide) (off := 292) (by rw [hc82]; rfl) (tgt := 314) (by decide) ?_
                                refine k_aloadn (pc := 314) C dX12_body_314 (i := 0) rfl 0 rfl ?_
                                refine k_bipush (pc := 315) C (v := (61 : Int32)) dX12_body_315 (by decide) ?_
                                obtain ⟨r43, hr43, h⟩ := bd_e h
                                refine k_V (pc := 317) (st := []) C (c_X12_began hr43) lkV_RX12_363 hs1 rfl rfl rfl (Nat.le_of_ble_eq_true rfl) (by show 0 + 1 ≤ dF + 4; omega) (by show 8 + (2 + 11) + 0 ≤ dL + 86; omega) (Nat.le_of_ble_eq_true rfl) (Nat.le_of_ble_eq_true rfl) dX12_body_317 ?_
                                refine k_nf (cells2 := 0) (slots2 := 0) (st2 := []) rfl rfl rfl ?_
                                refine k_aloadn (pc := 320) C dX12_body_320 (i := 0) rfl 0 rfl ?_
                                refine k_iconst (pc := 321) C (v := (4 : Int32)) dX12_body_321 (by decide) ?_
                                refine k_iconst (pc := 322) C (v := (2 : Int32)) dX12_body_322 (by decide) ?_
                                refine k_iloadn (pc := 323) C dX12_body_323 (i := 3) rfl 3 rfl ?_
                                obtain ⟨r44, hr44, h⟩ := bd_e h
                                refine k_V (pc := 324) (st := []) C (c_X12_bodyFrom hg hr44) lkV_RX12_350 hs1 rfl rfl rfl (Nat.le_of_ble_eq_true rfl) (by show (dF + 1) + 1 ≤ dF + 4; omega) (by show 8 + (5 + 11) + (dL + 26) ≤ dL + 86; omega) (Nat.le_of_ble_eq_true rfl) (Nat.le_of_ble_eq_true rfl) dX12_body_324 ?_
                                refine k_nf (cells2 := 0) (slots2 := 0) (st2 := [.int r44.2]) rfl rfl rfl ?_
                                refine k_istore (pc := 327) C dX12_body_327 (by decide) (L2 := [(0, .ref (E.1 + a0)), (1, .int x1), (2, .int x2), (3, .int x3), (4, .int (I a0 32)), (5, .int r2), (6, .int r44.2)]) rfl ?_
                                refine k_iload (pc := 329) C dX12_body_329 6 rfl ?_
                                refine k_aloadn (pc := 331) C dX12_body_331 (i := 0) rfl 0 rfl ?_
                                refine k_iconst (pc := 332) C (v := (0 : Int32)) dX12_body_332 (by decide) ?_
                                refine k_iload (pc := 333) C dX12_body_333 5 rfl ?_
                                obtain ⟨r45, hr45, h⟩ := bd_e h
                                refine k_V (pc := 335) (st := [.int r44.2]) C (c_X12_voiced hg hr45) lkV_RX12_366 hs1 rfl rfl rfl (Nat.le_of_ble_eq_true rfl) (by show (dF + 3) + 1 ≤ dF + 4; omega) (by show 8 + (3 + 11) + (dL + 64) ≤ dL + 86; omega) (Nat.le_of_ble_eq_true rfl) (Nat.le_of_ble_eq_true rfl) dX12_body_335 ?_
                                refine k_nf (cells2 := 0) (slots2 := 0) (st2 := [.int r45.2, .int r44.2]) rfl rfl rfl ?_
                                refine k_iadd (pc := 338) C dX12_body_338 ?_
                                cases h
                                exact k_iret (pc := 339) C hr hk dX12_body_339
                              · rw [if_neg hc82] at h
                                by_cases hc83 : (((4 : Int32) * x1) + x2) = (15 : Int32)
                                · rw [if_pos hc83] at h
                                  refine k_tabIn (pc := 22) C dX12_body_22 (by rw [hc83]; decide) (by rw [hc83]; decide) (off := 235) (by rw [hc83]; rfl) (tgt := 257) (by decide) ?_
                                  refine k_aloadn (pc := 257) C dX12_body_257 (i := 0) rfl 0 rfl ?_
                                  refine k_bipush (pc := 258) C (v := (51 : Int32)) dX12_body_258 (by decide) ?_
                                  obtain ⟨r46, hr46, h⟩ := bd_e h
                                  refine k_V (pc := 260) (st := []) C (c_X12_began hr46) lkV_RX12_363 hs1 rfl rfl rfl (Nat.le_of_ble_eq_true rfl) (by show 0 + 1 ≤ dF + 4; omega) (by show 8 + (2 + 11) + 0 ≤ dL + 86; omega) (Nat.le_of_ble_eq_true rfl) (Nat.le_of_ble_eq_true rfl) dX12_body_260 ?_
                                  refine k_nf (cells2 := 0) (slots2 := 0) (st2 := []) rfl rfl rfl ?_
                                  refine k_aloadn (pc := 263) C dX12_body_263 (i := 0) rfl 0 rfl ?_
                                  refine k_iconst (pc := 264) C (v := (2 : Int32)) dX12_body_264 (by decide) ?_
                                  refine k_iconst (pc := 265) C (v := (3 : Int32)) dX12_body_265 (by decide) ?_
                                  refine k_iloadn (pc := 266) C dX12_body_266 (i := 3) rfl 3 rfl ?_
                                  obtain ⟨r47, hr47, h⟩ := bd_e h
                                  refine k_V (pc := 267) (st := []) C (c_X12_bodyFrom hg hr47) lkV_RX12_350 hs1 rfl rfl rfl (Nat.le_of_ble_eq_true rfl) (by show (dF + 1) + 1 ≤ dF + 4; omega) (by show 8 + (5 + 11) + (dL + 26) ≤ dL + 86; omega) (Nat.le_of_ble_eq_true rfl) (Nat.le_of_ble_eq_true rfl) dX12_body_267 ?_
                                  refine k_nf (cells2 := 0) (slots2 := 0) (st2 := [.int r47.2]) rfl rfl rfl ?_
                                  refine k_istore (pc := 270) C dX12_body_270 (by decide) (L2 := [(0, .ref (E.1 + a0)), (1, .int x1), (2, .int x2), (3, .int x3), (4, .int (I a0 32)), (5, .int r2), (6, .int r47.2)]) rfl ?_
                                  refine k_iload (pc := 272) C dX12_body_272 6 rfl ?_
                                  refine k_aloadn (pc := 274) C dX12_body_274 (i := 0) rfl 0 rfl ?_
                                  refine k_iconst (pc := 275) C (v := (2 : Int32)) dX12_body_275 (by decide) ?_
                                  refine k_iload (pc := 276) C dX12_body_276 4 rfl ?_
                                  obtain ⟨r48, hr48, h⟩ := bd_e h
                                  refine k_V (pc := 278) (st := [.int r47.2]) C (c_X12_voiced hg hr48) lkV_RX12_366 hs1 rfl rfl rfl (Nat.le_of_ble_eq_true rfl) (by show (dF + 3) + 1 ≤ dF + 4; omega) (by show 8 + (3 + 11) + (dL + 64) ≤ dL + 86; omega) (Nat.le_of_ble_eq_true rfl) (Nat.le_of_ble_eq_true rfl) dX12_body_278 ?_
                                  refine k_nf (cells2 := 0) (slots2 := 0) (st2 := [.int r48.2, .int r47.2]) rfl rfl rfl ?_
                                  refine k_isub (pc := 281) C dX12_body_281 ?_
                                  cases h
                                  exact k_iret (pc := 282) C hr hk dX12_body_282
                                · rw [if_neg hc83] at h
                                  by_cases hc84 : (((4 : Int32) * x1) + x2) = (16 : Int32)
                                  · rw [if_pos hc84] at h
                                    refine k_tabIn (pc := 22) C dX12_body_22 (by rw [hc84]; decide) (by rw [hc84]; decide) (off := 292) (by rw [hc84]; rfl) (tgt := 314) (by decide) ?_
                                    refine k_aloadn (pc := 314) C dX12_body_314 (i := 0) rfl 0 rfl ?_
                                    refine k_bipush (pc := 315) C (v := (61 : Int32)) dX12_body_315 (by decide) ?_
                                    obtain ⟨r49, hr49, h⟩ := bd_e h
                                    refine k_V (pc := 317) (st := []) C (c_X12_began hr49) lkV_RX12_363 hs1 rfl rfl rfl (Nat.le_of_ble_eq_true rfl) (by show 0 + 1 ≤ dF + 4; omega) (by show 8 + (2 + 11) + 0 ≤ dL + 86; omega) (Nat.le_of_ble_eq_true rfl) (Nat.le_of_ble_eq_true rfl) dX12_body_317 ?_
                                    refine k_nf (cells2 := 0) (slots2 := 0) (st2 := []) rfl rfl rfl ?_
                                    refine k_aloadn (pc := 320) C dX12_body_320 (i := 0) rfl 0 rfl ?_
                                    refine k_iconst (pc := 321) C (v := (4 : Int32)) dX12_body_321 (by decide) ?_
                                    refine k_iconst (pc := 322) C (v := (2 : Int32)) dX12_body_322 (by decide) ?_
                                    refine k_iloadn (pc := 323) C dX12_body_323 (i := 3) rfl 3 rfl ?_
                                    obtain ⟨r50, hr50, h⟩ := bd_e h
                                    refine k_V (pc := 324) (st := []) C (c_X12_bodyFrom hg hr50) lkV_RX12_350 hs1 rfl rfl rfl (Nat.le_of_ble_eq_true rfl) (by show (dF + 1) + 1 ≤ dF + 4; omega) (by show 8 + (5 + 11) + (dL + 26) ≤ dL + 86; omega) (Nat.le_of_ble_eq_true rfl) (Nat.le_of_ble_eq_true rfl) dX12_body_324 ?_
                                    refine k_nf (cells2 := 0) (slots2 := 0) (st2 := [.int r50.2]) rfl rfl rfl ?_
                                    refine k_istore (pc := 327) C dX12_body_327 (by decide) (L2 := [(0, .ref (E.1 + a0)), (1, .int x1), (2, .int x2), (3, .int x3), (4, .int (I a0 32)), (5, .int r2), (6, .int r50.2)]) rfl ?_
                                    refine k_iload (pc := 329) C dX12_body_329 6 rfl ?_
                                    refine k_aloadn (pc := 331) C dX12_body_331 (i := 0) rfl 0 rfl ?_
                                    refine k_iconst (pc := 332) C (v := (0 : Int32)) dX12_body_332 (by decide) ?_
                                    refine k_iload (pc := 333) C dX12_body_333 5 rfl ?_
                                    obtain ⟨r51, hr51, h⟩ := bd_e h
                                    refine k_V (pc := 335) (st := [.int r50.2]) C (c_X12_voiced hg hr51) lkV_RX12_366 hs1 rfl rfl rfl (Nat.le_of_ble_eq_true rfl) (by show (dF + 3) + 1 ≤ dF + 4; omega) (by show 8 + (3 + 11) + (dL + 64) ≤ dL + 86; omega) (Nat.le_of_ble_eq_true rfl) (Nat.le_of_ble_eq_true rfl) dX12_body_335 ?_
                                    refine k_nf (cells2 := 0) (slots2 := 0) (st2 := [.int r51.2, .int r50.2]) rfl rfl rfl ?_
                                    refine k_iadd (pc := 338) C dX12_body_338 ?_
                                    cases h
                                    exact k_iret (pc := 339) C hr hk dX12_body_339
                                  · rw [if_neg hc84] at h
                                    by_cases hc85 : (((4 : Int32) * x1) + x2) = (17 : Int32)
                                    · rw [if_pos hc85] at h
                                      refine k_tabIn (pc := 22) C dX12_body_22 (by rw [hc85]; decide) (by rw [hc85]; decide) (off := 292) (by rw [hc85]; rfl) (tgt := 314) (by decide) ?_
                                      refine k_aloadn (pc := 314) C dX12_body_314 (i := 0) rfl 0 rfl ?_
                                      refine k_bipush (pc := 315) C (v := (61 : Int32)) dX12_body_315 (by decide) ?_
                                      obtain ⟨r52, hr52, h⟩ := bd_e h
                                      refine k_V (pc := 317) (st := []) C (c_X12_began hr52) lkV_RX12_363 hs1 rfl rfl rfl (Nat.le_of_ble_eq_true rfl) (by show 0 + 1 ≤ dF + 4; omega) (by show 8 + (2 + 11) + 0 ≤ dL + 86; omega) (Nat.le_of_ble_eq_true rfl) (Nat.le_of_ble_eq_true rfl) dX12_body_317 ?_
                                      refine k_nf (cells2 := 0) (slots2 := 0) (st2 := []) rfl rfl rfl ?_
                                      refine k_aloadn (pc := 320) C dX12_body_320 (i := 0) rfl 0 rfl ?_
                                      refine k_iconst (pc := 321) C (v := (4 : Int32)) dX12_body_321 (by decide) ?_
                                      refine k_iconst (pc := 322) C (v := (2 : Int32)) dX12_body_322 (by decide) ?_
                                      refine k_iloadn (pc := 323) C dX12_body_323 (i := 3) rfl 3 rfl ?_
                                      obtain ⟨r53, hr53, h⟩ := bd_e h
                                      refine k_V (pc := 324) (st := []) C (c_X12_bodyFrom hg hr53) lkV_RX12_350 hs1 rfl rfl rfl (Nat.le_of_ble_eq_true rfl) (by show (dF + 1) + 1 ≤ dF + 4; omega) (by show 8 + (5 + 11) + (dL + 26) ≤ dL + 86; omega) (Nat.le_of_ble_eq_true rfl) (Nat.le_of_ble_eq_true rfl) dX12_body_324 ?_
                                      refine k_nf (cells2 := 0) (slots2 := 0) (st2 := [.int r53.2]) rfl rfl rfl ?_
                                      refine k_istore (pc := 327) C dX12_body_327 (by decide) (L2 := [(0, .ref (E.1 + a0)), (1, .int x1), (2, .int x2), (3, .int x3), (4, .int (I a0 32)), (5, .int r2), (6, .int r53.2)]) rfl ?_
                                      refine k_iload (pc := 329) C dX12_body_329 6 rfl ?_
                                      refine k_aloadn (pc := 331) C dX12_body_331 (i := 0) rfl 0 rfl ?_
                                      refine k_iconst (pc := 332) C (v := (0 : Int32)) dX12_body_332 (by decide) ?_
                                      refine k_iload (pc := 333) C dX12_body_333 5 rfl ?_
                                      obtain ⟨r54, hr54, h⟩ := bd_e h
                                      refine k_V (pc := 335) (st := [.int r53.2]) C (c_X12_voiced hg hr54) lkV_RX12_366 hs1 rfl rfl rfl (Nat.le_of_ble_eq_true rfl) (by show (dF + 3) + 1 ≤ dF + 4; omega) (by show 8 + (3 + 11) + (dL + 64) ≤ dL + 86; omega) (Nat.le_of_ble_eq_true rfl) (Nat.le_of_ble_eq_true rfl) dX12_body_335 ?_
                                      refine k_nf (cells2 := 0) (slots2 := 0) (st2 := [.int r54.2, .int r53.2]) rfl rfl rfl ?_
                                      refine k_iadd (pc := 338) C dX12_body_338 ?_
                                      cases h
                                      exact k_iret (pc := 339) C hr hk dX12_body_339
                                    · rw [if_neg hc85] at h
                                      by_cases hc86 : (((4 : Int32) * x1) + x2) = (18 : Int32)
                                      · rw [if_pos hc86] at h
                                        refine k_tabIn (pc := 22) C dX12_body_22 (by rw [hc86]; decide) (by rw [hc86]; decide) (off := 261) (by rw [hc86]; rfl) (tgt := 283) (by decide) ?_
                                        refine k_aloadn (pc := 283) C dX12_body_283 (i := 0) rfl 0 rfl ?_
                                        refine k_bipush (pc := 284) C (v := (40 : Int32)) dX12_body_284 (by decide) ?_
                                        obtain ⟨r55, hr55, h⟩ := bd_e h
                                        refine k_V (pc := 286) (st := []) C (c_X12_began hr55) lkV_RX12_363 hs1 rfl rfl rfl (Nat.le_of_ble_eq_true rfl) (by show 0 + 1 ≤ dF + 4; omega) (by show 8 + (2 + 11) + 0 ≤ dL + 86; omega) (Nat.le_of_ble_eq_true rfl) (Nat.le_of_ble_eq_true rfl) dX12_body_286 ?_
                                        refine k_nf (cells2 := 0) (slots2 := 0) (st2 := []) rfl rfl rfl ?_
                                        refine k_aloadn (pc := 289) C dX12_body_289 (i := 0) rfl 0 rfl ?_
                                        refine k_iconst (pc := 290) C (v := (0 : Int32)) dX12_body_290 (by decide) ?_
                                        refine k_iconst (pc := 291) C (v := (2 : Int32)) dX12_body_291 (by decide) ?_
                                        refine k_iloadn (pc := 292) C dX12_body_292 (i := 3) rfl 3 rfl ?_
                                        refine k_iconst (pc := 293) C (v := (1 : Int32)) dX12_body_293 (by decide) ?_
                                        refine k_isub (pc := 294) C dX12_body_294 ?_
                                        obtain ⟨r56, hr56, h⟩ := bd_e h
                                        refine k_V (pc := 295) (st := []) C (c_X12_bodyFrom hg hr56) lkV_RX12_350 hs1 rfl rfl rfl (Nat.le_of_ble_eq_true rfl) (by show (dF + 1) + 1 ≤ dF + 4; omega) (by show 8 + (5 + 11) + (dL + 26) ≤ dL + 86; omega) (Nat.le_of_ble_eq_true rfl) (Nat.le_of_ble_eq_true rfl) dX12_body_295 ?_
                                        refine k_nf (cells2 := 0) (slots2 := 0) (st2 := [.int r56.2]) rfl rfl rfl ?_
                                        cases h
                                        exact k_iret (pc := 298) C hr hk dX12_body_298
                                      · rw [if_neg hc86] at h
                                        by_cases hc87 : (((4 : Int32) * x1) + x2) = (19 : Int32)
                                        · rw [if_pos hc87] at h
                                          refine k_tabIn (pc := 22) C dX12_body_22 (by rw [hc87]; decide) (by rw [hc87]; decide) (off := 292) (by rw [hc87]; rfl) (tgt := 314) (by decide) ?_
                                          refine k_aloadn (pc := 314) C dX12_body_314 (i := 0) rfl 0 rfl ?_
                                          refine k_bipush (pc := 315) C (v := (61 : Int32)) dX12_body_315 (by decide) ?_
                                          obtain ⟨r57, hr57, h⟩ := bd_e h
                                          refine k_V (pc := 317) (st := []) C (c_X12_began hr57) lkV_RX12_363 hs1 rfl rfl rfl (Nat.le_of_ble_eq_true rfl) (by show 0 + 1 ≤ dF + 4; omega) (by show 8 + (2 + 11) + 0 ≤ dL + 86; omega) (Nat.le_of_ble_eq_true rfl) (Nat.le_of_ble_eq_true rfl) dX12_body_317 ?_
                                          refine k_nf (cells2 := 0) (slots2 := 0) (st2 := []) rfl rfl rfl ?_
                                          refine k_aloadn (pc := 320) C dX12_body_320 (i := 0) rfl 0 rfl ?_
                                          refine k_iconst (pc := 321) C (v := (4 : Int32)) dX12_body_321 (by decide) ?_
                                          refine k_iconst (pc := 322) C (v := (2 : Int32)) dX12_body_322 (by decide) ?_
                                          refine k_iloadn (pc := 323) C dX12_body_323 (i := 3) rfl 3 rfl ?_
                                          obtain ⟨r58, hr58, h⟩ := bd_e h
                                          refine k_V (pc := 324) (st := []) C (c_X12_bodyFrom hg hr58) lkV_RX12_350 hs1 rfl rfl rfl (Nat.le_of_ble_eq_true rfl) (by show (dF + 1) + 1 ≤ dF + 4; omega) (by show 8 + (5 + 11) + (dL + 26) ≤ dL + 86; omega) (Nat.le_of_ble_eq_true rfl) (Nat.le_of_ble_eq_true rfl) dX12_body_324 ?_
                                          refine k_nf (cells2 := 0) (slots2 := 0) (st2 := [.int r58.2]) rfl rfl rfl ?_
                                          refine k_istore (pc := 327) C dX12_body_327 (by decide) (L2 := [(0, .ref (E.1 + a0)), (1, .int x1), (2, .int x2), (3, .int x3), (4, .int (I a0 32)), (5, .int r2), (6, .int r58.2)]) rfl ?_
                                          refine k_iload (pc := 329) C dX12_body_329 6 rfl ?_
                                          refine k_aloadn (pc := 331) C dX12_body_331 (i := 0) rfl 0 rfl ?_
                                          refine k_iconst (pc := 332) C (v := (0 : Int32)) dX12_body_332 (by decide) ?_
                                          refine k_iload (pc := 333) C dX12_body_333 5 rfl ?_
                                          obtain ⟨r59, hr59, h⟩ := bd_e h
                                          refine k_V (pc := 335) (st := [.int r58.2]) C (c_X12_voiced hg hr59) lkV_RX12_366 hs1 rfl rfl rfl (Nat.le_of_ble_eq_true rfl) (by show (dF + 3) + 1 ≤ dF + 4; omega) (by show 8 + (3 + 11) + (dL + 64) ≤ dL + 86; omega) (Nat.le_of_ble_eq_true rfl) (Nat.le_of_ble_eq_true rfl) dX12_body_335 ?_
                                          refine k_nf (cells2 := 0) (slots2 := 0) (st2 := [.int r59.2, .int r58.2]) rfl rfl rfl ?_
                                          refine k_iadd (pc := 338) C dX12_body_338 ?_
                                          cases h
                                          exact k_iret (pc := 339) C hr hk dX12_body_339
                                        · rw [if_neg hc87] at h
                                          by_cases hc88 : (((4 : Int32) * x1) + x2) = (20 : Int32)
                                          · rw [if_pos hc88] at h
                                            refine k_tabIn (pc := 22) C dX12_body_22 (by rw [hc88]; decide) (by rw [hc88]; decide) (off := 292) (by rw [hc88]; rfl) (tgt := 314) (by decide) ?_
                                            refine k_aloadn (pc := 314) C dX12_body_314 (i := 0) rfl 0 rfl ?_
                                            refine k_bipush (pc := 315) C (v := (61 : Int32)) dX12_body_315 (by decide) ?_
                                            obtain ⟨r60, hr60, h⟩ := bd_e h
                                            refine k_V (pc := 317) (st := []) C (c_X12_began hr60) lkV_RX12_363 hs1 rfl rfl rfl (Nat.le_of_ble_eq_true rfl) (by show 0 + 1 ≤ dF + 4; omega) (by show 8 + (2 + 11) + 0 ≤ dL + 86; omega) (Nat.le_of_ble_eq_true rfl) (Nat.le_of_ble_eq_true rfl) dX12_body_317 ?_
                                            refine k_nf (cells2 := 0) (slots2 := 0) (st2 := []) rfl rfl rfl ?_
                                            refine k_aloadn (pc := 320) C dX12_body_320 (i := 0) rfl 0 rfl ?_
                                            refine k_iconst (pc := 321) C (v := (4 : Int32)) dX12_body_321 (by decide) ?_
                                            refine k_iconst (pc := 322) C (v := (2 : Int32)) dX12_body_322 (by decide) ?_
                                            refine k_iloadn (pc := 323) C dX12_body_323 (i := 3) rfl 3 rfl ?_
                                            obtain ⟨r61, hr61, h⟩ := bd_e h
                                            refine k_V (pc := 324) (st := []) C (c_X12_bodyFrom hg hr61) lkV_RX12_350 hs1 rfl rfl rfl (Nat.le_of_ble_eq_true rfl) (by show (dF + 1) + 1 ≤ dF + 4; omega) (by show 8 + (5 + 11) + (dL + 26) ≤ dL + 86; omega) (Nat.le_of_ble_eq_true rfl) (Nat.le_of_ble_eq_true rfl) dX12_body_324 ?_
                                            refine k_nf (cells2 := 0) (slots2 := 0) (st2 := [.int r61.2]) rfl rfl rfl ?_
                                            refine k_istore (pc := 327) C dX12_body_327 (by decide) (L2 := [(0, .ref (E.1 + a0)), (1, .int x1), (2, .int x2), (3, .int x3), (4, .int (I a0 32)), (5, .int r2), (6, .int r61.2)]) rfl ?_
                                            refine k_iload (pc := 329) C dX12_body_329 6 rfl ?_
                                            refine k_aloadn (pc := 331) C dX12_body_331 (i := 0) rfl 0 rfl ?_
                                            refine k_iconst (pc := 332) C (v := (0 : Int32)) dX12_body_332 (by decide) ?_
                                            refine k_iload (pc := 333) C dX12_body_333 5 rfl ?_
                                            obtain ⟨r62, hr62, h⟩ := bd_e h
                                            refine k_V (pc := 335) (st := [.int r61.2]) C (c_X12_voiced hg hr62) lkV_RX12_366 hs1 rfl rfl rfl (Nat.le_of_ble_eq_true rfl) (by show (dF + 3) + 1 ≤ dF + 4; omega) (by show 8 + (3 + 11) + (dL + 64) ≤ dL + 86; omega) (Nat.le_of_ble_eq_true rfl) (Nat.le_of_ble_eq_true rfl) dX12_body_335 ?_
                                            refine k_nf (cells2 := 0) (slots2 := 0) (st2 := [.int r62.2, .int r61.2]) rfl rfl rfl ?_
                                            refine k_iadd (pc := 338) C dX12_body_338 ?_
                                            cases h
                                            exact k_iret (pc := 339) C hr hk dX12_body_339
                                          · rw [if_neg hc88] at h
                                            by_cases hc89 : (((4 : Int32) * x1) + x2) = (21 : Int32)
                                            · rw [if_pos hc89] at h
                                              refine k_tabIn (pc := 22) C dX12_body_22 (by rw [hc89]; decide) (by rw [hc89]; decide) (off := 277) (by rw [hc89]; rfl) (tgt := 299) (by decide) ?_
                                              refine k_aloadn (pc := 299) C dX12_body_299 (i := 0) rfl 0 rfl ?_
                                              refine k_bipush (pc := 300) C (v := (60 : Int32)) dX12_body_300 (by decide) ?_
                                              obtain ⟨r63, hr63, h⟩ := bd_e h
                                              refine k_V (pc := 302) (st := []) C (c_X12_began hr63) lkV_RX12_363 hs1 rfl rfl rfl (Nat.le_of_ble_eq_true rfl) (by show 0 + 1 ≤ dF + 4; omega) (by show 8 + (2 + 11) + 0 ≤ dL + 86; omega) (Nat.le_of_ble_eq_true rfl) (Nat.le_of_ble_eq_true rfl) dX12_body_302 ?_
                                              refine k_nf (cells2 := 0) (slots2 := 0) (st2 := []) rfl rfl rfl ?_
                                              refine k_aloadn (pc := 305) C dX12_body_305 (i := 0) rfl 0 rfl ?_
                                              refine k_iconst (pc := 306) C (v := (4 : Int32)) dX12_body_306 (by decide) ?_
                                              refine k_iconst (pc := 307) C (v := (1 : Int32)) dX12_body_307 (by decide) ?_
                                              refine k_iloadn (pc := 308) C dX12_body_308 (i := 3) rfl 3 rfl ?_
                                              obtain ⟨r64, hr64, h⟩ := bd_e h
                                              refine k_V (pc := 309) (st := []) C (c_X12_bodyFrom hg hr64) lkV_RX12_350 hs1 rfl rfl rfl (Nat.le_of_ble_eq_true rfl) (by show (dF + 1) + 1 ≤ dF + 4; omega) (by show 8 + (5 + 11) + (dL + 26) ≤ dL + 86; omega) (Nat.le_of_ble_eq_true rfl) (Nat.le_of_ble_eq_true rfl) dX12_body_309 ?_
                                              refine k_nf (cells2 := 0) (slots2 := 0) (st2 := [.int r64.2]) rfl rfl rfl ?_
                                              refine k_ineg (pc := 312) C dX12_body_312 ?_
                                              cases h
                                              exact k_iret (pc := 313) C hr hk dX12_body_313
                                            · rw [if_neg hc89] at h
                                              refine k_tabOut (pc := 22) C dX12_body_22 (tab_out (((4 : Int32) * x1) + x2) 0 21 (fun z h1 h2 hz => by
                                                have hz2 : z = 0 ∨ z = 1 ∨ z = 2 ∨ z = 3 ∨ z = 4 ∨ z = 5 ∨ z = 6 ∨ z = 7 ∨ z = 8 ∨ z = 9 ∨ z = 10 ∨ z = 11 ∨ z = 12 ∨ z = 13 ∨ z = 14 ∨ z = 15 ∨ z = 16 ∨ z = 17 ∨ z = 18 ∨ z = 19 ∨ z = 20 ∨ z = 21 := by omega
                                                rcases hz2 with rfl | rfl | rfl | rfl | rfl | rfl | rfl | rfl | rfl | rfl | rfl | rfl | rfl | rfl | rfl | rfl | rfl | rfl | rfl | rfl | rfl | rfl
                                                · exact hc68 (Int32.toInt_inj.mp (hz.trans (by decide)))
                                                · exact hc69 (Int32.toInt_inj.mp (hz.trans (by decide)))
                                                · exact hc70 (Int32.toInt_inj.mp (hz.trans (by decide)))
                                                · exact hc71 (Int32.toInt_inj.mp (hz.trans (by decide)))
                                                · exact hc72 (Int32.toInt_inj.mp (hz.trans (by decide)))
                                                · exact hc73 (Int32.toInt_inj.mp (hz.trans (by decide)))
                                                · exact hc74 (Int32.toInt_inj.mp (hz.trans (by decide)))
                                                · exact hc75 (Int32.toInt_inj.mp (hz.trans (by decide)))
                                                · exact hc76 (Int32.toInt_inj.mp (hz.trans (by decide)))
                                                · exact hc77 (Int32.toInt_inj.mp (hz.trans (by decide)))
                                                · exact hc78 (Int32.toInt_inj.mp (hz.trans (by decide)))
                                                · exact hc79 (Int32.toInt_inj.mp (hz.trans (by decide)))
                                                · exact hc80 (Int32.toInt_inj.mp (hz.trans (by decide)))
                                                · exact hc81 (Int32.toInt_inj.mp (hz.trans (by decide)))
                                                · exact hc82 (Int32.toInt_inj.mp (hz.trans (by decide)))
                                                · exact hc83 (Int32.toInt_inj.mp (hz.trans (by decide)))
                                                · exact hc84 (Int32.toInt_inj.mp (hz.trans (by decide)))
                                                · exact hc85 (Int32.toInt_inj.mp (hz.trans (by decide)))
                                                · exact hc86 (Int32.toInt_inj.mp (hz.trans (by decide)))
                                                · exact hc87 (Int32.toInt_inj.mp (hz.trans (by decide)))
                                                · exact hc88 (Int32.toInt_inj.mp (hz.trans (by decide)))
                                                · exact hc89 (Int32.toInt_inj.mp (hz.trans (by decide)))
                                                ) ) (tgt := 314) (by decide) ?_
                                              refine k_aloadn (pc := 314) C dX12_body_314 (i := 0) rfl 0 rfl ?_
                                              refine k_bipush (pc := 315) C (v := (61 : Int32)) dX12_body_315 (by decide) ?_
                                              obtain ⟨r65, hr65, h⟩ := bd_e h
                                              refine k_V (pc := 317) (st := []) C (c_X12_began hr65) lkV_RX12_363 hs1 rfl rfl rfl (Nat.le_of_ble_eq_true rfl) (by show 0 + 1 ≤ dF + 4; omega) (by show 8 + (2 + 11) + 0 ≤ dL + 86; omega) (Nat.le_of_ble_eq_true rfl) (Nat.le_of_ble_eq_true rfl) dX12_body_317 ?_
                                              refine k_nf (cells2 := 0) (slots2 := 0) (st2 := []) rfl rfl rfl ?_
                                              refine k_aloadn (pc := 320) C dX12_body_320 (i := 0) rfl 0 rfl ?_
                                              refine k_iconst (pc := 321) C (v := (4 : Int32)) dX12_body_321 (by decide) ?_
                                              refine k_iconst (pc := 322) C (v := (2 : Int32)) dX12_body_322 (by decide) ?_
                                              refine k_iloadn (pc := 323) C dX12_body_323 (i := 3) rfl 3 rfl ?_
                                              obtain ⟨r66, hr66, h⟩ := bd_e h
                                              refine k_V (pc := 324) (st := []) C (c_X12_bodyFrom hg hr66) lkV_RX12_350 hs1 rfl rfl rfl (Nat.le_of_ble_eq_true rfl) (by show (dF + 1) + 1 ≤ dF + 4; omega) (by show 8 + (5 + 11) + (dL + 26) ≤ dL + 86; omega) (Nat.le_of_ble_eq_true rfl) (Nat.le_of_ble_eq_true rfl) dX12_body_324 ?_
                                              refine k_nf (cells2 := 0) (slots2 := 0) (st2 := [.int r66.2]) rfl rfl rfl ?_
                                              refine k_istore (pc := 327) C dX12_body_327 (by decide) (L2 := [(0, .ref (E.1 + a0)), (1, .int x1), (2, .int x2), (3, .int x3), (4, .int (I a0 32)), (5, .int r2), (6, .int r66.2)]) rfl ?_
                                              refine k_iload (pc := 329) C dX12_body_329 6 rfl ?_
                                              refine k_aloadn (pc := 331) C dX12_body_331 (i := 0) rfl 0 rfl ?_
                                              refine k_iconst (pc := 332) C (v := (0 : Int32)) dX12_body_332 (by decide) ?_
                                              refine k_iload (pc := 333) C dX12_body_333 5 rfl ?_
                                              obtain ⟨r67, hr67, h⟩ := bd_e h
                                              refine k_V (pc := 335) (st := [.int r66.2]) C (c_X12_voiced hg hr67) lkV_RX12_366 hs1 rfl rfl rfl (Nat.le_of_ble_eq_true rfl) (by show (dF + 3) + 1 ≤ dF + 4; omega) (by show 8 + (3 + 11) + (dL + 64) ≤ dL + 86; omega) (Nat.le_of_ble_eq_true rfl) (Nat.le_of_ble_eq_true rfl) dX12_body_335 ?_
                                              refine k_nf (cells2 := 0) (slots2 := 0) (st2 := [.int r67.2, .int r66.2]) rfl rfl rfl ?_
                                              refine k_iadd (pc := 338) C dX12_body_338 ?_
                                              cases h
                                              exact k_iret (pc := 339) C hr hk dX12_body_339
def f_X12_body : Nat → Sh → Rw → Iw → Nat → Int32 → Int32 → Int32 → Option (Iw × Int32)
  | 0, _, _, _, _, _, _, _ => none
  | n + 1, S, R, I, a0, x1, x2, x3 => f_X12_body_b (f_X12_body n) S R I a0 x1 x2 x3
theorem c_X12_body_g {E : Ev} {l : Launch} : ∀ (n : Nat) (S : Sh) (R : Rw) (I : Iw) (a0 : Nat) (x1 : Int32) (x2 : Int32) (x3 : Int32) (r : Iw × Int32), f_X12_body n S R I a0 x1 x2 x3 = some r → Mt E l yX12_body cX12_body 7 (some .int) (4 * n) (86 * n) [.ref (E.1 + a0), .int x1, .int x2, .int x3] S R I S R r.1 (some (.int r.2)) 0 0 := by
  intro n
  induction n with
  | zero =>
    intro S R I a0 x1 x2 x3 r h
    rw [f_X12_body] at h
    cases h
  | succ n ih =>
    intro S R I a0 x1 x2 x3 r h
    rw [f_X12_body] at h
    exact mt_of (by decide) (Nat.le_of_ble_eq_true rfl) (fun p e s m args below meth c C hr hk hn => b_X12_body_b (dF := 4 * n) (dL := 86 * n) C hr hk ih _ _ _ _ _ h)
theorem c_X12_body {E : Ev} {l : Launch} (n : Nat) {S : Sh} {R : Rw} {I : Iw} {a0 : Nat} {x1 : Int32} {x2 : Int32} {x3 : Int32} {r : Iw × Int32} (h : f_X12_body n S R I a0 x1 x2 x3 = some r) : Mt E l yX12_body cX12_body 7 (some .int) (4 * n) (86 * n) [.ref (E.1 + a0), .int x1, .int x2, .int x3] S R I S R r.1 (some (.int r.2)) 0 0 := c_X12_body_g n S R I a0 x1 x2 x3 r h
