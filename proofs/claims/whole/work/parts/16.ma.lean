/-! X3_numberAt, X3_sortOf, X3_partTape, X3_peek, X3_isValue, X5_addStep, X3_readComparison -/
theorem dX3_numberAt_0 : decode cX3_numberAt 0 = .ok (.iload_n 2, 1) := by decide +kernel
theorem dX3_numberAt_1 : decode cX3_numberAt 1 = .ok (.iload_n 1, 1) := by decide +kernel
theorem dX3_numberAt_2 : decode cX3_numberAt 2 = .ok (.isub, 1) := by decide +kernel
theorem dX3_numberAt_3 : decode cX3_numberAt 3 = .ok (.iconst 4, 1) := by decide +kernel
theorem dX3_numberAt_4 : decode cX3_numberAt 4 = .ok (.if_icmp .le 7, 3) := by decide +kernel
theorem dX3_numberAt_7 : decode cX3_numberAt 7 = .ok (.sipush 30001, 3) := by decide +kernel
theorem dX3_numberAt_10 : decode cX3_numberAt 10 = .ok (.ireturn, 1) := by decide +kernel
theorem dX3_numberAt_11 : decode cX3_numberAt 11 = .ok (.iconst 0, 1) := by decide +kernel
theorem dX3_numberAt_12 : decode cX3_numberAt 12 = .ok (.istore_n 3, 1) := by decide +kernel
theorem dX3_numberAt_13 : decode cX3_numberAt 13 = .ok (.iload_n 1, 1) := by decide +kernel
theorem dX3_numberAt_14 : decode cX3_numberAt 14 = .ok (.istore 4, 2) := by decide +kernel
theorem dX3_numberAt_16 : decode cX3_numberAt 16 = .ok (.iload 4, 2) := by decide +kernel
theorem dX3_numberAt_18 : decode cX3_numberAt 18 = .ok (.iload_n 2, 1) := by decide +kernel
theorem dX3_numberAt_19 : decode cX3_numberAt 19 = .ok (.if_icmp .ge 25, 3) := by decide +kernel
theorem dX3_numberAt_22 : decode cX3_numberAt 22 = .ok (.iload_n 3, 1) := by decide +kernel
theorem dX3_numberAt_23 : decode cX3_numberAt 23 = .ok (.bipush 10, 2) := by decide +kernel
theorem dX3_numberAt_25 : decode cX3_numberAt 25 = .ok (.imul, 1) := by decide +kernel
theorem dX3_numberAt_26 : decode cX3_numberAt 26 = .ok (.aload_n 0, 1) := by decide +kernel
theorem dX3_numberAt_27 : decode cX3_numberAt 27 = .ok (.getfield 9, 3) := by decide +kernel
theorem dX3_numberAt_30 : decode cX3_numberAt 30 = .ok (.iload 4, 2) := by decide +kernel
theorem dX3_numberAt_32 : decode cX3_numberAt 32 = .ok (.baload, 1) := by decide +kernel
theorem dX3_numberAt_33 : decode cX3_numberAt 33 = .ok (.bipush 48, 2) := by decide +kernel
theorem dX3_numberAt_35 : decode cX3_numberAt 35 = .ok (.isub, 1) := by decide +kernel
theorem dX3_numberAt_36 : decode cX3_numberAt 36 = .ok (.iadd, 1) := by decide +kernel
theorem dX3_numberAt_37 : decode cX3_numberAt 37 = .ok (.istore_n 3, 1) := by decide +kernel
theorem dX3_numberAt_38 : decode cX3_numberAt 38 = .ok (.iinc 4 1, 3) := by decide +kernel
theorem dX3_numberAt_41 : decode cX3_numberAt 41 = .ok (.goto (-25), 3) := by decide +kernel
theorem dX3_numberAt_44 : decode cX3_numberAt 44 = .ok (.iload_n 3, 1) := by decide +kernel
theorem dX3_numberAt_45 : decode cX3_numberAt 45 = .ok (.ireturn, 1) := by decide +kernel
def f_X3_numberAt_16 (S : Sh) (R : Rw) (I : Iw)  : Nat → Nat → Int32 → Int32 → Int32 → Option (Int32)
  | 0, _, _, _, _ => none
  | n + 1, a0, x2, x3, x4 => (if x2 ≤ x4 then some x3 else gp (sok S a0 3 7) (rl (R a0 1) (fun b4 => gp (aok S 21 b4 x4) (lt ((x3 * (10 : Int32)) + ((I b4 x4.toNatClampNeg) - (48 : Int32))) (fun y6 => f_X3_numberAt_16 S R I  n a0 x2 y6 (x4 + (1 : Int32)))))))
set_option maxHeartbeats 4000000 in
theorem b_X3_numberAt_16 {E : Ev} {p : Program} {l : Launch} {e : Env} {s : State} {m : MethodId} {args : Array Value} {below : List Frame} {meth : Method} {c : Code} (C : Cx E RX3 cX3_numberAt 5 p s m c) (hr : meth.sig.returnType = (some .int)) (hk : meth.locks = false) {S : Sh} {R : Rw} {I : Iw} {r : Int32}  : ∀ (n : Nat) (a0 : Nat) (x2 : Int32) (x3 : Int32) (x4 : Int32), f_X3_numberAt_16 S R I  n a0 x2 x3 x4 = some r → Wk E 5 p l e ({ frames := 0, cells := 0, slots := 0, locals := 0 } : Room) s m args below meth c 0 0 (MQ below (Qw E S R I (some (.int r))) args s 0 0 (fun q => E.1 ≤ q)) 16 [(0, .ref (E.1 + a0)), (2, .int x2), (3, .int x3), (4, .int x4)] [] S R I := by
  intro n
  induction n with
  | zero =>
    intro a0 x2 x3 x4 h
    rw [f_X3_numberAt_16] at h
    cases h
  | succ n ih =>
    intro a0 x2 x3 x4 h
    rw [f_X3_numberAt_16] at h
    refine k_iload (pc := 16) C dX3_numberAt_16 3 rfl ?_
    refine k_iloadn (pc := 18) C dX3_numberAt_18 (i := 2) rfl 1 rfl ?_
    refine k_icmp_ge (pc := 19) C dX3_numberAt_19 (tgt := 44) (by decide) (fun hc2 => ?_) (fun hc2 => ?_)
    · rw [if_pos hc2] at h
      refine k_iloadn (pc := 44) C dX3_numberAt_44 (i := 3) rfl 2 rfl ?_
      have h := Option.some.inj h
      subst h
      exact k_iret (pc := 45) C hr hk dX3_numberAt_45
    · rw [if_neg hc2] at h
      refine k_iloadn (pc := 22) C dX3_numberAt_22 (i := 3) rfl 2 rfl ?_
      refine k_bipush (pc := 23) C (v := (10 : Int32)) dX3_numberAt_23 (by decide) ?_
      refine k_imul (pc := 25) C dX3_numberAt_25 ?_
      refine k_aloadn (pc := 26) C dX3_numberAt_26 (i := 0) rfl 0 rfl ?_
      obtain ⟨hs30, h⟩ := gp_e h
      have hs3 := sok_e hs30
      obtain ⟨b4, hb4, h⟩ := rl_e h
      refine k_getR (pc := 27) C lkF_RX3_9_3 hs3 ir_3_1 hb4 dX3_numberAt_27 ?_
      refine k_iload (pc := 30) C dX3_numberAt_30 3 rfl ?_
      obtain ⟨ha5, h⟩ := gp_e h
      refine k_bald (pc := 32) C ha5 dX3_numberAt_32 ?_
      refine k_bipush (pc := 33) C (v := (48 : Int32)) dX3_numberAt_33 (by decide) ?_
      refine k_isub (pc := 35) C dX3_numberAt_35 ?_
      refine k_iadd (pc := 36) C dX3_numberAt_36 ?_
      obtain ⟨y6, ey6, h⟩ := lt_e h
      rw [← ey6]
      refine k_istoren (pc := 37) C dX3_numberAt_37 (i := 3) rfl (by decide) (L2 := [(0, .ref (E.1 + a0)), (2, .int x2), (3, .int y6), (4, .int x4)]) rfl ?_
      refine k_iinc (pc := 38) C dX3_numberAt_38 3 rfl (v := x4 + (1 : Int32)) (by rfl) (by decide) (L2 := [(0, .ref (E.1 + a0)), (2, .int x2), (3, .int y6), (4, .int (x4 + (1 : Int32)))]) rfl ?_
      refine k_goto (pc := 41) C dX3_numberAt_41 (tgt := 16) (by decide) ?_
      exact ih _ _ _ _ h
def f_X3_numberAt (S : Sh) (R : Rw) (I : Iw)  (a0 : Nat) (x1 : Int32) (x2 : Int32) : Option (Int32) := (if (x2 - x1) ≤ (4 : Int32) then f_X3_numberAt_16 S R I  512 a0 x2 (0 : Int32) x1 else some (30001 : Int32))
set_option maxHeartbeats 4000000 in
theorem b_X3_numberAt {E : Ev} {p : Program} {l : Launch} {e : Env} {s : State} {m : MethodId} {args : Array Value} {below : List Frame} {meth : Method} {c : Code} (C : Cx E RX3 cX3_numberAt 5 p s m c) (hr : meth.sig.returnType = (some .int)) (hk : meth.locks = false) {S : Sh} {R : Rw} {I : Iw} {r : Int32}  : ∀ (a0 : Nat) (x1 : Int32) (x2 : Int32), f_X3_numberAt S R I   a0 x1 x2 = some r → Wk E 5 p l e ({ frames := 0, cells := 0, slots := 0, locals := 0 } : Room) s m args below meth c 0 0 (MQ below (Qw E S R I (some (.int r))) args s 0 0 (fun q => E.1 ≤ q)) 0 [(0, .ref (E.1 + a0)), (1, .int x1), (2, .int x2)] [] S R I := by
  intro a0 x1 x2 h
  rw [f_X3_numberAt] at h
  refine k_iloadn (pc := 0) C dX3_numberAt_0 (i := 2) rfl 2 rfl ?_
  refine k_iloadn (pc := 1) C dX3_numberAt_1 (i := 1) rfl 1 rfl ?_
  refine k_isub (pc := 2) C dX3_numberAt_2 ?_
  refine k_iconst (pc := 3) C (v := (4 : Int32)) dX3_numberAt_3 (by decide) ?_
  refine k_icmp_le (pc := 4) C dX3_numberAt_4 (tgt := 11) (by decide) (fun hc1 => ?_) (fun hc1 => ?_)
  · rw [if_pos hc1] at h
    refine k_iconst (pc := 11) C (v := (0 : Int32)) dX3_numberAt_11 (by decide) ?_
    refine k_istoren (pc := 12) C dX3_numberAt_12 (i := 3) rfl (by decide) (L2 := [(0, .ref (E.1 + a0)), (1, .int x1), (2, .int x2), (3, .int (0 : Int32))]) rfl ?_
    refine k_iloadn (pc := 13) C dX3_numberAt_13 (i := 1) rfl 1 rfl ?_
    refine k_istore (pc := 14) C dX3_numberAt_14 (by decide) (L2 := [(0, .ref (E.1 + a0)), (1, .int x1), (2, .int x2), (3, .int (0 : Int32)), (4, .int x1)]) rfl ?_
    refine k_loc (L2 := [(0, .ref (E.1 + a0)), (2, .int x2), (3, .int (0 : Int32)), (4, .int x1)]) [0, 2, 3, 4] rfl ?_
    exact b_X3_numberAt_16 C hr hk  _ _ _ _ _ h
  · rw [if_neg hc1] at h
    refine k_sipush (pc := 7) C (v := (30001 : Int32)) dX3_numberAt_7 (by decide) ?_
    have h := Option.some.inj h
    subst h
    exact k_iret (pc := 10) C hr hk dX3_numberAt_10
theorem c_X3_numberAt {E : Ev} {l : Launch} {S : Sh} {R : Rw} {I : Iw} {a0 : Nat} {x1 : Int32} {x2 : Int32} {r : Int32} (h : f_X3_numberAt S R I a0 x1 x2 = some r) : Mt E l yX3_numberAt cX3_numberAt 5 (some .int) 0 0 [.ref (E.1 + a0), .int x1, .int x2] S R I S R I (some (.int r)) 0 0 := mt_of (by decide) (Nat.le_of_ble_eq_true rfl) (fun p e s m args below meth c C hr hk hn => b_X3_numberAt C hr hk _ _ _ h)
theorem dX3_sortOf_0 : decode cX3_sortOf 0 = .ok (.iload_n 0, 1) := by decide +kernel
theorem dX3_sortOf_1 : decode cX3_sortOf 1 = .ok (.bipush 97, 2) := by decide +kernel
theorem dX3_sortOf_3 : decode cX3_sortOf 3 = .ok (.if_icmp .lt 11, 3) := by decide +kernel
theorem dX3_sortOf_6 : decode cX3_sortOf 6 = .ok (.iload_n 0, 1) := by decide +kernel
theorem dX3_sortOf_7 : decode cX3_sortOf 7 = .ok (.bipush 122, 2) := by decide +kernel
theorem dX3_sortOf_9 : decode cX3_sortOf 9 = .ok (.if_icmp .gt 5, 3) := by decide +kernel
theorem dX3_sortOf_12 : decode cX3_sortOf 12 = .ok (.iconst 0, 1) := by decide +kernel
theorem dX3_sortOf_13 : decode cX3_sortOf 13 = .ok (.ireturn, 1) := by decide +kernel
theorem dX3_sortOf_14 : decode cX3_sortOf 14 = .ok (.iload_n 0, 1) := by decide +kernel
theorem dX3_sortOf_15 : decode cX3_sortOf 15 = .ok (.bipush 48, 2) := by decide +kernel
theorem dX3_sortOf_17 : decode cX3_sortOf 17 = .ok (.if_icmp .lt 13, 3) := by decide +kernel
theorem dX3_sortOf_20 : decode cX3_sortOf 20 = .ok (.iload_n 0, 1) := by decide +kernel
theorem dX3_sortOf_21 : decode cX3_sortOf 21 = .ok (.bipush 57, 2) := by decide +kernel
theorem dX3_sortOf_23 : decode cX3_sortOf 23 = .ok (.if_icmp .gt 7, 3) := by decide +kernel
theorem dX3_sortOf_26 : decode cX3_sortOf 26 = .ok (.iconst 1, 1) := by decide +kernel
theorem dX3_sortOf_27 : decode cX3_sortOf 27 = .ok (.goto 4, 3) := by decide +kernel
theorem dX3_sortOf_30 : decode cX3_sortOf 30 = .ok (.iconst 2, 1) := by decide +kernel
theorem dX3_sortOf_31 : decode cX3_sortOf 31 = .ok (.ireturn, 1) := by decide +kernel
def f_X3_sortOf_14 (S : Sh) (R : Rw) (I : Iw)  (x0 : Int32) : Option (Int32) := (if x0 < (48 : Int32) then some (2 : Int32) else (if (57 : Int32) < x0 then some (2 : Int32) else some (1 : Int32)))
set_option maxHeartbeats 4000000 in
theorem b_X3_sortOf_14 {E : Ev} {p : Program} {l : Launch} {e : Env} {s : State} {m : MethodId} {args : Array Value} {below : List Frame} {meth : Method} {c : Code} (C : Cx E RX3 cX3_sortOf 1 p s m c) (hr : meth.sig.returnType = (some .int)) (hk : meth.locks = false) {S : Sh} {R : Rw} {I : Iw} {r : Int32}  : ∀ (x0 : Int32), f_X3_sortOf_14 S R I   x0 = some r → Wk E 1 p l e ({ frames := 0, cells := 0, slots := 0, locals := 0 } : Room) s m args below meth c 0 0 (MQ below (Qw E S R I (some (.int r))) args s 0 0 (fun q => E.1 ≤ q)) 14 [(0, .int x0)] [] S R I := by
  intro x0 h
  rw [f_X3_sortOf_14] at h
  refine k_iloadn (pc := 14) C dX3_sortOf_14 (i := 0) rfl 0 rfl ?_
  refine k_bipush (pc := 15) C (v := (48 : Int32)) dX3_sortOf_15 (by decide) ?_
  refine k_icmp_lt (pc := 17) C dX3_sortOf_17 (tgt := 30) (by decide) (fun hc2 => ?_) (fun hc2 => ?_)
  · rw [if_pos hc2] at h
    refine k_iconst (pc := 30) C (v := (2 : Int32)) dX3_sortOf_30 (by decide) ?_
    have h := Option.some.inj h
    subst h
    exact k_iret (pc := 31) C hr hk dX3_sortOf_31
  · rw [if_neg hc2] at h
    refine k_iloadn (pc := 20) C dX3_sortOf_20 (i := 0) rfl 0 rfl ?_
    refine k_bipush (pc := 21) C (v := (57 : Int32)) dX3_sortOf_21 (by decide) ?_
    refine k_icmp_gt (pc := 23) C dX3_sortOf_23 (tgt := 30) (by decide) (fun hc3 => ?_) (fun hc3 => ?_)
    · rw [if_pos hc3] at h
      refine k_iconst (pc := 30) C (v := (2 : Int32)) dX3_sortOf_30 (by decide) ?_
      have h := Option.some.inj h
      subst h
      exact k_iret (pc := 31) C hr hk dX3_sortOf_31
    · rw [if_neg hc3] at h
      refine k_iconst (pc := 26) C (v := (1 : Int32)) dX3_sortOf_26 (by decide) ?_
      refine k_goto (pc := 27) C dX3_sortOf_27 (tgt := 31) (by decide) ?_
      have h := Option.some.inj h
      subst h
      exact k_iret (pc := 31) C hr hk dX3_sortOf_31
def f_X3_sortOf (S : Sh) (R : Rw) (I : Iw)  (x0 : Int32) : Option (Int32) := (if x0 < (97 : Int32) then f_X3_sortOf_14 S R I  x0 else (if (122 : Int32) < x0 then f_X3_sortOf_14 S R I  x0 else some (0 : Int32)))
set_option maxHeartbeats 4000000 in
theorem b_X3_sortOf {E : Ev} {p : Program} {l : Launch} {e : Env} {s : State} {m : MethodId} {args : Array Value} {below : List Frame} {meth : Method} {c : Code} (C : Cx E RX3 cX3_sortOf 1 p s m c) (hr : meth.sig.returnType = (some .int)) (hk : meth.locks = false) {S : Sh} {R : Rw} {I : Iw} {r : Int32}  : ∀ (x0 : Int32), f_X3_sortOf S R I   x0 = some r → Wk E 1 p l e ({ frames := 0, cells := 0, slots := 0, locals := 0 } : Room) s m args below meth c 0 0 (MQ below (Qw E S R I (some (.int r))) args s 0 0 (fun q => E.1 ≤ q)) 0 [(0, .int x0)] [] S R I := by
  intro x0 h
  rw [f_X3_sortOf] at h
  refine k_iloadn (pc := 0) C dX3_sortOf_0 (i := 0) rfl 0 rfl ?_
  refine k_bipush (pc := 1) C (v := (97 : Int32)) dX3_sortOf_1 (by decide) ?_
  refine k_icmp_lt (pc := 3) C dX3_sortOf_3 (tgt := 14) (by decide) (fun hc1 => ?_) (fun hc1 => ?_)
  · rw [if_pos hc1] at h
    exact b_X3_sortOf_14 C hr hk  _ h
  · rw [if_neg hc1] at h
    refine k_iloadn (pc := 6) C dX3_sortOf_6 (i := 0) rfl 0 rfl ?_
    refine k_bipush (pc := 7) C (v := (122 : Int32)) dX3_sortOf_7 (by decide) ?_
    refine k_icmp_gt (pc := 9) C dX3_sortOf_9 (tgt := 14) (by decide) (fun hc4 => ?_) (fun hc4 => ?_)
    · rw [if_pos hc4] at h
      exact b_X3_sortOf_14 C hr hk  _ h
    · rw [if_neg hc4] at h
      refine k_iconst (pc := 12) C (v := (0 : Int32)) dX3_sortOf_12 (by decide) ?_
      have h := Option.some.inj h
      subst h
      exact k_iret (pc := 13) C hr hk dX3_sortOf_13
theorem c_X3_sortOf {E : Ev} {l : Launch} {S : Sh} {R : Rw} {I : Iw} {x0 : Int32} {r : Int32} (h : f_X3_sortOf S R I x0 = some r) : Mt E l yX3_sortOf cX3_sortOf 1 (some .int) 0 0 [.int x0] S R I S R I (some (.int r)) 0 0 := mt_of (by decide) (Nat.le_of_ble_eq_true rfl) (fun p e s m args below meth c C hr hk hn => b_X3_sortOf C hr hk _ h)
theorem lkV_RX3_68 : LkV RX3 68 RX3 yX3_addToken cX3_addToken 3 none 2 := ⟨(t2_in 218 (by decide +kernel) rfl), (t2_in 220 (by decide +kernel) rfl), (t0_in 8 (by decide +kernel) rfl), (t2_in 221 (by decide +kernel) rfl), (t1_in 4 (by decide +kernel) rfl), by decide, by decide +kernel⟩
theorem lkS_RX3_60 : LkS RX3 60 yX3_sortOf cX3_sortOf 1 (some .int) 1 := ⟨(t2_in 162 (by decide +kernel) rfl), (t2_in 163 (by decide +kernel) rfl), (t2_in 164 (by decide +kernel) rfl), (t1_in 4 (by decide +kernel) rfl), by decide, by decide +kernel⟩
theorem lkV_RX3_75 : LkV RX3 75 RX3 yX3_byteAt cX3_byteAt 2 (some .int) 1 := ⟨(t2_in 226 (by decide +kernel) rfl), (t2_in 228 (by decide +kernel) rfl), (t0_in 10 (by decide +kernel) rfl), (t2_in 229 (by decide +kernel) rfl), (t1_in 4 (by decide +kernel) rfl), by decide, by decide +kernel⟩
theorem lkV_RX3_72 : LkV RX3 72 RX3 yX3_numberAt cX3_numberAt 5 (some .int) 2 := ⟨(t2_in 222 (by decide +kernel) rfl), (t2_in 224 (by decide +kernel) rfl), (t0_in 9 (by decide +kernel) rfl), (t2_in 225 (by decide +kernel) rfl), (t1_in 4 (by decide +kernel) rfl), by decide, by decide +kernel⟩
theorem lkV_RX3_64 : LkV RX3 64 RX3 yX3_nameAt cX3_nameAt 7 (some .int) 2 := ⟨(t2_in 165 (by decide +kernel) rfl), (t2_in 167 (by decide +kernel) rfl), (t0_in 7 (by decide +kernel) rfl), (t2_in 168 (by decide +kernel) rfl), (t1_in 4 (by decide +kernel) rfl), by decide, by decide +kernel⟩
theorem dX3_partTape_0 : decode cX3_partTape 0 = .ok (.aload_n 0, 1) := by decide +kernel
theorem dX3_partTape_1 : decode cX3_partTape 1 = .ok (.iconst 0, 1) := by decide +kernel
theorem dX3_partTape_2 : decode cX3_partTape 2 = .ok (.putfield 50, 3) := by decide +kernel
theorem dX3_partTape_5 : decode cX3_partTape 5 = .ok (.iconst 0, 1) := by decide +kernel
theorem dX3_partTape_6 : decode cX3_partTape 6 = .ok (.istore_n 1, 1) := by decide +kernel
theorem dX3_partTape_7 : decode cX3_partTape 7 = .ok (.iconst 0, 1) := by decide +kernel
theorem dX3_partTape_8 : decode cX3_partTape 8 = .ok (.istore_n 2, 1) := by decide +kernel
theorem dX3_partTape_9 : decode cX3_partTape 9 = .ok (.iload_n 2, 1) := by decide +kernel
theorem dX3_partTape_10 : decode cX3_partTape 10 = .ok (.sipush 200, 3) := by decide +kernel
theorem dX3_partTape_13 : decode cX3_partTape 13 = .ok (.if_icmp .ge 129, 3) := by decide +kernel
theorem dX3_partTape_16 : decode cX3_partTape 16 = .ok (.iload_n 1, 1) := by decide +kernel
theorem dX3_partTape_17 : decode cX3_partTape 17 = .ok (.aload_n 0, 1) := by decide +kernel
theorem dX3_partTape_18 : decode cX3_partTape 18 = .ok (.getfield 29, 3) := by decide +kernel
theorem dX3_partTape_21 : decode cX3_partTape 21 = .ok (.if_icmp .ge 121, 3) := by decide +kernel
theorem dX3_partTape_24 : decode cX3_partTape 24 = .ok (.aload_n 0, 1) := by decide +kernel
theorem dX3_partTape_25 : decode cX3_partTape 25 = .ok (.getfield 9, 3) := by decide +kernel
theorem dX3_partTape_28 : decode cX3_partTape 28 = .ok (.iload_n 1, 1) := by decide +kernel
theorem dX3_partTape_29 : decode cX3_partTape 29 = .ok (.baload, 1) := by decide +kernel
theorem dX3_partTape_30 : decode cX3_partTape 30 = .ok (.invokestatic 60, 3) := by decide +kernel
theorem dX3_partTape_33 : decode cX3_partTape 33 = .ok (.istore_n 3, 1) := by decide +kernel
theorem dX3_partTape_34 : decode cX3_partTape 34 = .ok (.iload_n 1, 1) := by decide +kernel
theorem dX3_partTape_35 : decode cX3_partTape 35 = .ok (.iconst 1, 1) := by decide +kernel
theorem dX3_partTape_36 : decode cX3_partTape 36 = .ok (.iadd, 1) := by decide +kernel
theorem dX3_partTape_37 : decode cX3_partTape 37 = .ok (.istore 4, 2) := by decide +kernel
theorem dX3_partTape_39 : decode cX3_partTape 39 = .ok (.iload_n 3, 1) := by decide +kernel
theorem dX3_partTape_40 : decode cX3_partTape 40 = .ok (.iconst 2, 1) := by decide +kernel
theorem dX3_partTape_41 : decode cX3_partTape 41 = .ok (.if_icmp .eq 32, 3) := by decide +kernel
theorem dX3_partTape_44 : decode cX3_partTape 44 = .ok (.iload 4, 2) := by decide +kernel
theorem dX3_partTape_46 : decode cX3_partTape 46 = .ok (.aload_n 0, 1) := by decide +kernel
theorem dX3_partTape_47 : decode cX3_partTape 47 = .ok (.getfield 29, 3) := by decide +kernel
theorem dX3_partTape_50 : decode cX3_partTape 50 = .ok (.if_icmp .ge 23, 3) := by decide +kernel
theorem dX3_partTape_53 : decode cX3_partTape 53 = .ok (.aload_n 0, 1) := by decide +kernel
theorem dX3_partTape_54 : decode cX3_partTape 54 = .ok (.getfield 9, 3) := by decide +kernel
theorem dX3_partTape_57 : decode cX3_partTape 57 = .ok (.iload 4, 2) := by decide +kernel
theorem dX3_partTape_59 : decode cX3_partTape 59 = .ok (.baload, 1) := by decide +kernel
theorem dX3_partTape_60 : decode cX3_partTape 60 = .ok (.invokestatic 60, 3) := by decide +kernel
theorem dX3_partTape_63 : decode cX3_partTape 63 = .ok (.iload_n 3, 1) := by decide +kernel
theorem dX3_partTape_64 : decode cX3_partTape 64 = .ok (.if_icmp .ne 9, 3) := by decide +kernel
theorem dX3_partTape_67 : decode cX3_partTape 67 = .ok (.iinc 4 1, 3) := by decide +kernel
theorem dX3_partTape_70 : decode cX3_partTape 70 = .ok (.goto (-31), 3) := by decide +kernel
theorem dX3_partTape_73 : decode cX3_partTape 73 = .ok (.iload_n 3, 1) := by decide +kernel
theorem dX3_partTape_74 : decode cX3_partTape 74 = .ok (.ifCond .ne 18, 3) := by decide +kernel
theorem dX3_partTape_77 : decode cX3_partTape 77 = .ok (.aload_n 0, 1) := by decide +kernel
theorem dX3_partTape_78 : decode cX3_partTape 78 = .ok (.aload_n 0, 1) := by decide +kernel
theorem dX3_partTape_79 : decode cX3_partTape 79 = .ok (.iload_n 1, 1) := by decide +kernel
theorem dX3_partTape_80 : decode cX3_partTape 80 = .ok (.iload 4, 2) := by decide +kernel
theorem dX3_partTape_82 : decode cX3_partTape 82 = .ok (.invokevirtual 64, 3) := by decide +kernel
theorem dX3_partTape_85 : decode cX3_partTape 85 = .ok (.iload_n 1, 1) := by decide +kernel
theorem dX3_partTape_86 : decode cX3_partTape 86 = .ok (.invokevirtual 68, 3) := by decide +kernel
theorem dX3_partTape_89 : decode cX3_partTape 89 = .ok (.goto 44, 3) := by decide +kernel
theorem dX3_partTape_92 : decode cX3_partTape 92 = .ok (.iload_n 3, 1) := by decide +kernel
theorem dX3_partTape_93 : decode cX3_partTape 93 = .ok (.iconst 1, 1) := by decide +kernel
theorem dX3_partTape_94 : decode cX3_partTape 94 = .ok (.if_icmp .ne 18, 3) := by decide +kernel
theorem dX3_partTape_97 : decode cX3_partTape 97 = .ok (.aload_n 0, 1) := by decide +kernel
theorem dX3_partTape_98 : decode cX3_partTape 98 = .ok (.aload_n 0, 1) := by decide +kernel
theorem dX3_partTape_99 : decode cX3_partTape 99 = .ok (.iload_n 1, 1) := by decide +kernel
theorem dX3_partTape_100 : decode cX3_partTape 100 = .ok (.iload 4, 2) := by decide +kernel
theorem dX3_partTape_102 : decode cX3_partTape 102 = .ok (.invokevirtual 72, 3) := by decide +kernel
theorem dX3_partTape_105 : decode cX3_partTape 105 = .ok (.iload_n 1, 1) := by decide +kernel
theorem dX3_partTape_106 : decode cX3_partTape 106 = .ok (.invokevirtual 68, 3) := by decide +kernel
theorem dX3_partTape_109 : decode cX3_partTape 109 = .ok (.goto 24, 3) := by decide +kernel
theorem dX3_partTape_112 : decode cX3_partTape 112 = .ok (.aload_n 0, 1) := by decide +kernel
theorem dX3_partTape_113 : decode cX3_partTape 113 = .ok (.getfield 9, 3) := by decide +kernel
theorem dX3_partTape_116 : decode cX3_partTape 116 = .ok (.iload_n 1, 1) := by decide +kernel
theorem dX3_partTape_117 : decode cX3_partTape 117 = .ok (.baload, 1) := by decide +kernel
theorem dX3_partTape_118 : decode cX3_partTape 118 = .ok (.bipush 32, 2) := by decide +kernel
theorem dX3_partTape_120 : decode cX3_partTape 120 = .ok (.if_icmp .eq 13, 3) := by decide +kernel
theorem dX3_partTape_123 : decode cX3_partTape 123 = .ok (.aload_n 0, 1) := by decide +kernel
theorem dX3_partTape_124 : decode cX3_partTape 124 = .ok (.aload_n 0, 1) := by decide +kernel
theorem dX3_partTape_125 : decode cX3_partTape 125 = .ok (.iload_n 1, 1) := by decide +kernel
theorem dX3_partTape_126 : decode cX3_partTape 126 = .ok (.invokevirtual 75, 3) := by decide +kernel
theorem dX3_partTape_129 : decode cX3_partTape 129 = .ok (.iload_n 1, 1) := by decide +kernel
theorem dX3_partTape_130 : decode cX3_partTape 130 = .ok (.invokevirtual 68, 3) := by decide +kernel
theorem dX3_partTape_133 : decode cX3_partTape 133 = .ok (.iload 4, 2) := by decide +kernel
theorem dX3_partTape_135 : decode cX3_partTape 135 = .ok (.istore_n 1, 1) := by decide +kernel
theorem dX3_partTape_136 : decode cX3_partTape 136 = .ok (.iinc 2 1, 3) := by decide +kernel
theorem dX3_partTape_139 : decode cX3_partTape 139 = .ok (.goto (-130), 3) := by decide +kernel
theorem dX3_partTape_142 : decode cX3_partTape 142 = .ok (.aload_n 0, 1) := by decide +kernel
theorem dX3_partTape_143 : decode cX3_partTape 143 = .ok (.sipush 30000, 3) := by decide +kernel
theorem dX3_partTape_146 : decode cX3_partTape 146 = .ok (.aload_n 0, 1) := by decide +kernel
theorem dX3_partTape_147 : decode cX3_partTape 147 = .ok (.getfield 29, 3) := by decide +kernel
theorem dX3_partTape_150 : decode cX3_partTape 150 = .ok (.invokevirtual 68, 3) := by decide +kernel
theorem dX3_partTape_153 : decode cX3_partTape 153 = .ok (.return_, 1) := by decide +kernel
def f_X3_partTape_142 (S : Sh) (R : Rw)  (I : Iw) (a0 : Nat) : Option (Iw) := gp (sok S a0 3 7) (bd (f_X3_addToken S R I a0 (30000 : Int32) (I a0 0)) (fun r5 => some r5))
set_option maxHeartbeats 4000000 in
theorem b_X3_partTape_142 {E : Ev} {p : Program} {l : Launch} {e : Env} {s : State} {m : MethodId} {args : Array Value} {below : List Frame} {meth : Method} {c : Code} (C : Cx E RX3 cX3_partTape 5 p s m c) (hr : meth.sig.returnType = none) (hk : meth.locks = false) {S : Sh} {R : Rw} {r : Iw}  : ∀ (I : Iw) (a0 : Nat), f_X3_partTape_142 S R   I a0 = some r → Wk E 5 p l e ({ frames := 7, cells := 0, slots := 0, locals := 226 } : Room) s m args below meth c 0 0 (MQ below (Qw E S R r none) args s 0 0 (fun q => E.1 ≤ q)) 142 [(0, .ref (E.1 + a0))] [] S R I := by
  intro I a0 h
  rw [f_X3_partTape_142] at h
  refine k_aloadn (pc := 142) C dX3_partTape_142 (i := 0) rfl 0 rfl ?_
  refine k_sipush (pc := 143) C (v := (30000 : Int32)) dX3_partTape_143 (by decide) ?_
  refine k_aloadn (pc := 146) C dX3_partTape_146 (i := 0) rfl 0 rfl ?_
  obtain ⟨hs40, h⟩ := gp_e h
  have hs4 := sok_e hs40
  refine k_getI (pc := 147) C lkF_RX3_29_3 hs4 ir_3_0 dX3_partTape_147 ?_
  obtain ⟨r5, hr5, h⟩ := bd_e h
  refine k_V (pc := 150) (st := []) C (c_X3_addToken hr5) lkV_RX3_68 hs4 rfl rfl rfl (Nat.le_of_ble_eq_true rfl) (Nat.le_of_ble_eq_true rfl) (Nat.le_of_ble_eq_true rfl) (Nat.le_of_ble_eq_true rfl) (Nat.le_of_ble_eq_true rfl) dX3_partTape_150 ?_
  refine k_nf (cells2 := 0) (slots2 := 0) (st2 := []) rfl rfl rfl ?_
  have h := Option.some.inj h
  subst h
  exact k_vret (pc := 153) C hr hk dX3_partTape_153
def f_X3_partTape_133 (S : Sh) (R : Rw) (ko9 : Iw → Nat → Int32 → Int32 → Option (Iw)) (I : Iw) (a0 : Nat) (x2 : Int32) (x4 : Int32) : Option (Iw) := ko9 I a0 x4 (x2 + (1 : Int32))
set_option maxHeartbeats 4000000 in
theorem b_X3_partTape_133 {E : Ev} {p : Program} {l : Launch} {e : Env} {s : State} {m : MethodId} {args : Array Value} {below : List Frame} {meth : Method} {c : Code} (C : Cx E RX3 cX3_partTape 5 p s m c) (hr : meth.sig.returnType = none) (hk : meth.locks = false) {S : Sh} {R : Rw} {r : Iw}  {ko9 : Iw → Nat → Int32 → Int32 → Option (Iw)} (hko9 : ∀ (I : Iw) (a0 : Nat) (x1 : Int32) (x2 : Int32), ko9 I a0 x1 x2 = some r → Wk E 5 p l e ({ frames := 7, cells := 0, slots := 0, locals := 226 } : Room) s m args below meth c 0 0 (MQ below (Qw E S R r none) args s 0 0 (fun q => E.1 ≤ q)) 9 [(0, .ref (E.1 + a0)), (1, .int x1), (2, .int x2)] [] S R I) : ∀ (I : Iw) (a0 : Nat) (x2 : Int32) (x4 : Int32), f_X3_partTape_133 S R ko9  I a0 x2 x4 = some r → Wk E 5 p l e ({ frames := 7, cells := 0, slots := 0, locals := 226 } : Room) s m args below meth c 0 0 (MQ below (Qw E S R r none) args s 0 0 (fun q => E.1 ≤ q)) 133 [(0, .ref (E.1 + a0)), (2, .int x2), (4, .int x4)] [] S R I := by
  intro I a0 x2 x4 h
  rw [f_X3_partTape_133] at h
  refine k_iload (pc := 133) C dX3_partTape_133 2 rfl ?_
  refine k_istoren (pc := 135) C dX3_partTape_135 (i := 1) rfl (by decide) (L2 := [(0, .ref (E.1 + a0)), (1, .int x4), (2, .int x2), (4, .int x4)]) rfl ?_
  refine k_iinc (pc := 136) C dX3_partTape_136 2 rfl (v := x2 + (1 : Int32)) (by rfl) (by decide) (L2 := [(0, .ref (E.1 + a0)), (1, .int x4), (2, .int (x2 + (1 : Int32))), (4, .int x4)]) rfl ?_
  refine k_goto (pc := 139) C dX3_partTape_139 (tgt := 9) (by decide) ?_
  refine k_loc (L2 := [(0, .ref (E.1 + a0)), (1, .int x4), (2, .int (x2 + (1 : Int32)))]) [0, 1, 2] rfl ?_
  exact hko9 _ _ _ _ h
def f_X3_partTape_73 (S : Sh) (R : Rw) (ko9 : Iw → Nat → Int32 → Int32 → Option (Iw)) (I : Iw) (a0 : Nat) (x1 : Int32) (x2 : Int32) (x3 : Int32) (x4 : Int32) : Option (Iw) := (if x3 = 0 then gp (sok S a0 3 7) (bd (f_X3_nameAt S R I a0 x1 x4) (fun r24 => bd (f_X3_addToken S R I a0 r24 x1) (fun r25 => f_X3_partTape_133 S R ko9 r25 a0 x2 x4))) else (if x3 = (1 : Int32) then gp (sok S a0 3 7) (bd (f_X3_numberAt S R I a0 x1 x4) (fun r21 => bd (f_X3_addToken S R I a0 r21 x1) (fun r22 => f_X3_partTape_133 S R ko9 r22 a0 x2 x4))) else gp (sok S a0 3 7) (rl (R a0 1) (fun b15 => gp (aok S 21 b15 x1) ((if (I b15 x1.toNatClampNeg) = (32 : Int32) then f_X3_partTape_133 S R ko9 I a0 x2 x4 else bd (f_X3_byteAt S R I a0 x1) (fun r18 => bd (f_X3_addToken S R I a0 r18 x1) (fun r19 => f_X3_partTape_133 S R ko9 r19 a0 x2 x4))))))))
set_option maxHeartbeats 4000000 in
theorem b_X3_partTape_73 {E : Ev} {p : Program} {l : Launch} {e : Env} {s : State} {m : MethodId} {args : Array Value} {below : List Frame} {meth : Method} {c : Code} (C : Cx E RX3 cX3_partTape 5 p s m c) (hr : meth.sig.returnType = none) (hk : meth.locks = false) {S : Sh} {R : Rw} {r : Iw}  {ko9 : Iw → Nat → Int32 → Int32 → Option (Iw)} (hko9 : ∀ (I : Iw) (a0 : Nat) (x1 : Int32) (x2 : Int32), ko9 I a0 x1 x2 = some r → Wk E 5 p l e ({ frames := 7, cells := 0, slots := 0, locals := 226 } : Room) s m args below meth c 0 0 (MQ below (Qw E S R r none) args s 0 0 (fun q => E.1 ≤ q)) 9 [(0, .ref (E.1 + a0)), (1, .int x1), (2, .int x2)] [] S R I) : ∀ (I : Iw) (a0 : Nat) (x1 : Int32) (x2 : Int32) (x3 : Int32) (x4 : Int32), f_X3_partTape_73 S R ko9  I a0 x1 x2 x3 x4 = some r → Wk E 5 p l e ({ frames := 7, cells := 0, slots := 0, locals := 226 } : Room) s m args below meth c 0 0 (MQ below (Qw E S R r none) args s 0 0 (fun q => E.1 ≤ q)) 73 [(0, .ref (E.1 + a0)), (1, .int x1), (2, .int x2), (3, .int x3), (4, .int x4)] [] S R I := by
  intro I a0 x1 x2 x3 x4 h
  rw [f_X3_partTape_73] at h
  refine k_iloadn (pc := 73) C dX3_partTape_73 (i := 3) rfl 3 rfl ?_
  refine k_if_ne (pc := 74) C dX3_partTape_74 (tgt := 92) (by decide) (fun hc12 => ?_) (fun hc12 => ?_)
  · rw [if_neg hc12] at h
    refine k_iloadn (pc := 92) C dX3_partTape_92 (i := 3) rfl 3 rfl ?_
    refine k_iconst (pc := 93) C (v := (1 : Int32)) dX3_partTape_93 (by decide) ?_
    refine k_icmp_ne (pc := 94) C dX3_partTape_94 (tgt := 112) (by decide) (fun hc13 => ?_) (fun hc13 => ?_)
    · rw [if_neg hc13] at h
      refine k_aloadn (pc := 112) C dX3_partTape_112 (i := 0) rfl 0 rfl ?_
      obtain ⟨hs140, h⟩ := gp_e h
      have hs14 := sok_e hs140
      obtain ⟨b15, hb15, h⟩ := rl_e h
      refine k_getR (pc := 113) C lkF_RX3_9_3 hs14 ir_3_1 hb15 dX3_partTape_113 ?_
      refine k_iloadn (pc := 116) C dX3_partTape_116 (i := 1) rfl 1 rfl ?_
      obtain ⟨ha16, h⟩ := gp_e h
      refine k_bald (pc := 117) C ha16 dX3_partTape_117 ?_
      refine k_bipush (pc := 118) C (v := (32 : Int32)) dX3_partTape_118 (by decide) ?_
      refine k_icmp_eq (pc := 120) C dX3_partTape_120 (tgt := 133) (by decide) (fun hc17 => ?_) (fun hc17 => ?_)
      · rw [if_pos hc17] at h
        refine k_loc (L2 := [(0, .ref (E.1 + a0)), (2, .int x2), (4, .int x4)]) [0, 2, 4] rfl ?_
        exact b_X3_partTape_133 C hr hk hko9 _ _ _ _ h
      · rw [if_neg hc17] at h
        refine k_aloadn (pc := 123) C dX3_partTape_123 (i := 0) rfl 0 rfl ?_
        refine k_aloadn (pc := 124) C dX3_partTape_124 (i := 0) rfl 0 rfl ?_
        refine k_iloadn (pc := 125) C dX3_partTape_125 (i := 1) rfl 1 rfl ?_
        obtain ⟨r18, hr18, h⟩ := bd_e h
        refine k_V (pc := 126) (st := [.ref (E.1 + a0)]) C (c_X3_byteAt hr18) lkV_RX3_75 hs14 rfl rfl rfl (Nat.le_of_ble_eq_true rfl) (Nat.le_of_ble_eq_true rfl) (Nat.le_of_ble_eq_true rfl) (Nat.le_of_ble_eq_true rfl) (Nat.le_of_ble_eq_true rfl) dX3_partTape_126 ?_
        refine k_nf (cells2 := 0) (slots2 := 0) (st2 := [.int r18, .ref (E.1 + a0)]) rfl rfl rfl ?_
        refine k_iloadn (pc := 129) C dX3_partTape_129 (i := 1) rfl 1 rfl ?_
        obtain ⟨r19, hr19, h⟩ := bd_e h
        refine k_V (pc := 130) (st := []) C (c_X3_addToken hr19) lkV_RX3_68 hs14 rfl rfl rfl (Nat.le_of_ble_eq_true rfl) (Nat.le_of_ble_eq_true rfl) (Nat.le_of_ble_eq_true rfl) (Nat.le_of_ble_eq_true rfl) (Nat.le_of_ble_eq_true rfl) dX3_partTape_130 ?_
        refine k_nf (cells2 := 0) (slots2 := 0) (st2 := []) rfl rfl rfl ?_
        refine k_loc (L2 := [(0, .ref (E.1 + a0)), (2, .int x2), (4, .int x4)]) [0, 2, 4] rfl ?_
        exact b_X3_partTape_133 C hr hk hko9 _ _ _ _ h
    · rw [if_pos hc13] at h
      refine k_aloadn (pc := 97) C dX3_partTape_97 (i := 0) rfl 0 rfl ?_
      refine k_aloadn (pc := 98) C dX3_partTape_98 (i := 0) rfl 0 rfl ?_
      refine k_iloadn (pc := 99) C dX3_partTape_99 (i := 1) rfl 1 rfl ?_
      refine k_iload (pc := 100) C dX3_partTape_100 4 rfl ?_
      obtain ⟨hs200, h⟩ := gp_e h
      have hs20 := sok_e hs200
      obtain ⟨r21, hr21, h⟩ := bd_e h
      refine k_V (pc := 102) (st := [.ref (E.1 + a0)]) C (c_X3_numberAt hr21) lkV_RX3_72 hs20 rfl rfl rfl (Nat.le_of_ble_eq_true rfl) (Nat.le_of_ble_eq_true rfl) (Nat.le_of_ble_eq_true rfl) (Nat.le_of_ble_eq_true rfl) (Nat.le_of_ble_eq_true rfl) dX3_partTape_102 ?_
      refine k_nf (cells2 := 0) (slots2 := 0) (st2 := [.int r21, .ref (E.1 + a0)]) rfl rfl rfl ?_
      refine k_iloadn (pc := 105) C dX3_partTape_105 (i := 1) rfl 1 rfl ?_
      obtain ⟨r22, hr22, h⟩ := bd_e h
      refine k_V (pc := 106) (st := []) C (c_X3_addToken hr22) lkV_RX3_68 hs20 rfl rfl rfl (Nat.le_of_ble_eq_true rfl) (Nat.le_of_ble_eq_true rfl) (Nat.le_of_ble_eq_true rfl) (Nat.le_of_ble_eq_true rfl) (Nat.le_of_ble_eq_true rfl) dX3_partTape_106 ?_
      refine k_nf (cells2 := 0) (slots2 := 0) (st2 := []) rfl rfl rfl ?_
      refine k_goto (pc := 109) C dX3_partTape_109 (tgt := 133) (by decide) ?_
      refine k_loc (L2 := [(0, .ref (E.1 + a0)), (2, .int x2), (4, .int x4)]) [0, 2, 4] rfl ?_
      exact b_X3_partTape_133 C hr hk hko9 _ _ _ _ h
  · rw [if_pos hc12] at h
    refine k_aloadn (pc := 77) C dX3_partTape_77 (i := 0) rfl 0 rfl ?_
    refine k_aloadn (pc := 78) C dX3_partTape_78 (i := 0) rfl 0 rfl ?_
    refine k_iloadn (pc := 79) C dX3_partTape_79 (i := 1) rfl 1 rfl ?_
    refine k_iload (pc := 80) C dX3_partTape_80 4 rfl ?_
    obtain ⟨hs230, h⟩ := gp_e h
    have hs23 := sok_e hs230
    obtain ⟨r24, hr24, h⟩ := bd_e h
    refine k_V (pc := 82) (st := [.ref (E.1 + a0)]) C (c_X3_nameAt hr24) lkV_RX3_64 hs23 rfl rfl rfl (Nat.le_of_ble_eq_true rfl) (Nat.le_of_ble_eq_true rfl) (Nat.le_of_ble_eq_true rfl) (Nat.le_of_ble_eq_true rfl) (Nat.le_of_ble_eq_true rfl) dX3_partTape_82 ?_
    refine k_nf (cells2 := 0) (slots2 := 0) (st2 := [.int r24, .ref (E.1 + a0)]) rfl rfl rfl ?_
    refine k_iloadn (pc := 85) C dX3_partTape_85 (i := 1) rfl 1 rfl ?_
    obtain ⟨r25, hr25, h⟩ := bd_e h
    refine k_V (pc := 86) (st := []) C (c_X3_addToken hr25) lkV_RX3_68 hs23 rfl rfl rfl (Nat.le_of_ble_eq_true rfl) (Nat.le_of_ble_eq_true rfl) (Nat.le_of_ble_eq_true rfl) (Nat.le_of_ble_eq_true rfl) (Nat.le_of_ble_eq_true rfl) dX3_partTape_86 ?_
    refine k_nf (cells2 := 0) (slots2 := 0) (st2 := []) rfl rfl rfl ?_
    refine k_goto (pc := 89) C dX3_partTape_89 (tgt := 133) (by decide) ?_
    refine k_loc (L2 := [(0, .ref (E.1 + a0)), (2, .int x2), (4, .int x4)]) [0, 2, 4] rfl ?_
    exact b_X3_partTape_133 C hr hk hko9 _ _ _ _ h
def f_X3_partTape_39 (S : Sh) (R : Rw) (ko9 : Iw → Nat → Int32 → Int32 → Option (Iw)) : Nat → Iw → Nat → Int32 → Int32 → Int32 → Int32 → Option (Iw)
  | 0, _, _, _, _, _, _ => none
  | n + 1, I, a0, x1, x2, x3, x4 => (if x3 = (2 : Int32) then f_X3_partTape_73 S R ko9 I a0 x1 x2 x3 x4 else gp (sok S a0 3 7) ((if (I a0 0) ≤ x4 then f_X3_partTape_73 S R ko9 I a0 x1 x2 x3 x4 else rl (R a0 1) (fun b28 => gp (aok S 21 b28 x4) (bd (f_X3_sortOf S R I (I b28 x4.toNatClampNeg)) (fun r30 => (if r30 = x3 then f_X3_partTape_39 S R ko9 n I a0 x1 x2 x3 (x4 + (1 : Int32)) else f_X3_partTape_73 S R ko9 I a0 x1 x2 x3 x4)))))))
set_option maxHeartbeats 4000000 in
theorem b_X3_partTape_39 {E : Ev} {p : Program} {l : Launch} {e : Env} {s : State} {m : MethodId} {args : Array Value} {below : List Frame} {meth : Method} {c : Code} (C : Cx E RX3 cX3_partTape 5 p s m c) (hr : meth.sig.returnType = none) (hk : meth.locks = false) {S : Sh} {R : Rw} {r : Iw}  {ko9 : Iw → Nat → Int32 → Int32 → Option (Iw)} (hko9 : ∀ (I : Iw) (a0 : Nat) (x1 : Int32) (x2 : Int32), ko9 I a0 x1 x2 = some r → Wk E 5 p l e ({ frames := 7, cells := 0, slots := 0, locals := 226 } : Room) s m args below meth c 0 0 (MQ below (Qw E S R r none) args s 0 0 (fun q => E.1 ≤ q)) 9 [(0, .ref (E.1 + a0)), (1, .int x1), (2, .int x2)] [] S R I) : ∀ (n : Nat) (I : Iw) (a0 : Nat) (x1 : Int32) (x2 : Int32) (x3 : Int32) (x4 : Int32), f_X3_partTape_39 S R ko9 n I a0 x1 x2 x3 x4 = some r → Wk E 5 p l e ({ frames := 7, cells := 0, slots := 0, locals := 226 } : Room) s m args below meth c 0 0 (MQ below (Qw E S R r none) args s 0 0 (fun q => E.1 ≤ q)) 39 [(0, .ref (E.1 + a0)), (1, .int x1), (2, .int x2), (3, .int x3), (4, .int x4)] [] S R I := by
  intro n
  induction n with
  | zero =>
    intro I a0 x1 x2 x3 x4 h
    rw [f_X3_partTape_39] at h
    cases h
  | succ n ih =>
    intro I a0 x1 x2 x3 x4 h
    rw [f_X3_partTape_39] at h
    refine k_iloadn (pc := 39) C dX3_partTape_39 (i := 3) rfl 3 rfl ?_
    refine k_iconst (pc := 40) C (v := (2 : Int32)) dX3_partTape_40 (by decide) ?_
    refine k_icmp_eq (pc := 41) C dX3_partTape_41 (tgt := 73) (by decide) (fun hc11 => ?_) (fun hc11 => ?_)
    · rw [if_pos hc11] at h
      exact b_X3_partTape_73 C hr hk hko9 _ _ _ _ _ _ h
    · rw [if_neg hc11] at h
      refine k_iload (pc := 44) C dX3_partTape_44 4 rfl ?_
      refine k_aloadn (pc := 46) C dX3_partTape_46 (i := 0) rfl 0 rfl ?_
      obtain ⟨hs260, h⟩ := gp_e h
      have hs26 := sok_e hs260
      refine k_getI (pc := 47) C lkF_RX3_29_3 hs26 ir_3_0 dX3_partTape_47 ?_
      refine k_icmp_ge (pc := 50) C dX3_partTape_50 (tgt := 73) (by decide) (fun hc27 => ?_) (fun hc27 => ?_)
      · rw [if_pos hc27] at h
        exact b_X3_partTape_73 C hr hk hko9 _ _ _ _ _ _ h
      · rw [if_neg hc27] at h
        refine k_aloadn (pc := 53) C dX3_partTape_53 (i := 0) rfl 0 rfl ?_
        obtain ⟨b28, hb28, h⟩ := rl_e h
        refine k_getR (pc := 54) C lkF_RX3_9_3 hs26 ir_3_1 hb28 dX3_partTape_54 ?_
        refine k_iload (pc := 57) C dX3_partTape_57 4 rfl ?_
        obtain ⟨ha29, h⟩ := gp_e h
        refine k_bald (pc := 59) C ha29 dX3_partTape_59 ?_
        obtain ⟨r30, hr30, h⟩ := bd_e h
        refine k_S (pc := 60) (st := []) C (c_X3_sortOf hr30) lkS_RX3_60 rfl rfl (Nat.le_of_ble_eq_true rfl) (Nat.le_of_ble_eq_true rfl) (Nat.le_of_ble_eq_true rfl) (Nat.le_of_ble_eq_true rfl) (Nat.le_of_ble_eq_true rfl) dX3_partTape_60 ?_
        refine k_nf (cells2 := 0) (slots2 := 0) (st2 := [.int r30]) rfl rfl rfl ?_
        refine k_iloadn (pc := 63) C dX3_partTape_63 (i := 3) rfl 3 rfl ?_
        refine k_icmp_ne (pc := 64) C dX3_partTape_64 (tgt := 73) (by decide) (fun hc31 => ?_) (fun hc31 => ?_)
        · rw [if_neg hc31] at h
          exact b_X3_partTape_73 C hr hk hko9 _ _ _ _ _ _ h
        · rw [if_pos hc31] at h
          refine k_iinc (pc := 67) C dX3_partTape_67 4 rfl (v := x4 + (1 : Int32)) (by rfl) (by decide) (L2 := [(0, .ref (E.1 + a0)), (1, .int x1), (2, .int x2), (3, .int x3), (4, .int (x4 + (1 : Int32)))]) rfl ?_
          refine k_goto (pc := 70) C dX3_partTape_70 (tgt := 39) (by decide) ?_
          exact ih _ _ _ _ _ _ h
def f_X3_partTape_9 (S : Sh) (R : Rw)  : Nat → Iw → Nat → Int32 → Int32 → Option (Iw)
  | 0, _, _, _, _ => none
  | n + 1, I, a0, x1, x2 => (if (200 : Int32) ≤ x2 then f_X3_partTape_142 S R  I a0 else gp (sok S a0 3 7) ((if (I a0 0) ≤ x1 then f_X3_partTape_142 S R  I a0 else rl (R a0 1) (fun b8 => gp (aok S 21 b8 x1) (bd (f_X3_sortOf S R I (I b8 x1.toNatClampNeg)) (fun r10 => f_X3_partTape_39 S R (f_X3_partTape_9 S R  n) 512 I a0 x1 x2 r10 (x1 + (1 : Int32))))))))
set_option maxHeartbeats 4000000 in
theorem b_X3_partTape_9 {E : Ev} {p : Program} {l : Launch} {e : Env} {s : State} {m : MethodId} {args : Array Value} {below : List Frame} {meth : Method} {c : Code} (C : Cx E RX3 cX3_partTape 5 p s m c) (hr : meth.sig.returnType = none) (hk : meth.locks = false) {S : Sh} {R : Rw} {r : Iw}  : ∀ (n : Nat) (I : Iw) (a0 : Nat) (x1 : Int32) (x2 : Int32), f_X3_partTape_9 S R  n I a0 x1 x2 = some r → Wk E 5 p l e ({ frames := 7, cells := 0, slots := 0, locals := 226 } : Room) s m args below meth c 0 0 (MQ below (Qw E S R r none) args s 0 0 (fun q => E.1 ≤ q)) 9 [(0, .ref (E.1 + a0)), (1, .int x1), (2, .int x2)] [] S R I := by
  intro n
  induction n with
  | zero =>
    intro I a0 x1 x2 h
    rw [f_X3_partTape_9] at h
    cases h
  | succ n ih =>
    intro I a0 x1 x2 h
    rw [f_X3_partTape_9] at h
    refine k_iloadn (pc := 9) C dX3_partTape_9 (i := 2) rfl 2 rfl ?_
    refine k_sipush (pc := 10) C (v := (200 : Int32)) dX3_partTape_10 (by decide) ?_
    refine k_icmp_ge (pc := 13) C dX3_partTape_13 (tgt := 142) (by decide) (fun hc3 => ?_) (fun hc3 => ?_)
    · rw [if_pos hc3] at h
      refine k_loc (L2 := [(0, .ref (E.1 + a0))]) [0] rfl ?_
      exact b_X3_partTape_142 C hr hk  _ _ h
    · rw [if_neg hc3] at h
      refine k_iloadn (pc := 16) C dX3_partTape_16 (i := 1) rfl 1 rfl ?_
      refine k_aloadn (pc := 17) C dX3_partTape_17 (i := 0) rfl 0 rfl ?_
      obtain ⟨hs60, h⟩ := gp_e h
      have hs6 := sok_e hs60
      refine k_getI (pc := 18) C lkF_RX3_29_3 hs6 ir_3_0 dX3_partTape_18 ?_
      refine k_icmp_ge (pc := 21) C dX3_partTape_21 (tgt := 142) (by decide) (fun hc7 => ?_) (fun hc7 => ?_)
      · rw [if_pos hc7] at h
        refine k_loc (L2 := [(0, .ref (E.1 + a0))]) [0] rfl ?_
        exact b_X3_partTape_142 C hr hk  _ _ h
      · rw [if_neg hc7] at h
        refine k_aloadn (pc := 24) C dX3_partTape_24 (i := 0) rfl 0 rfl ?_
        obtain ⟨b8, hb8, h⟩ := rl_e h
        refine k_getR (pc := 25) C lkF_RX3_9_3 hs6 ir_3_1 hb8 dX3_partTape_25 ?_
        refine k_iloadn (pc := 28) C dX3_partTape_28 (i := 1) rfl 1 rfl ?_
        obtain ⟨ha9, h⟩ := gp_e h
        refine k_bald (pc := 29) C ha9 dX3_partTape_29 ?_
        obtain ⟨r10, hr10, h⟩ := bd_e h
        refine k_S (pc := 30) (st := []) C (c_X3_sortOf hr10) lkS_RX3_60 rfl rfl (Nat.le_of_ble_eq_true rfl) (Nat.le_of_ble_eq_true rfl) (Nat.le_of_ble_eq_true rfl) (Nat.le_of_ble_eq_true rfl) (Nat.le_of_ble_eq_true rfl) dX3_partTape_30 ?_
        refine k_nf (cells2 := 0) (slots2 := 0) (st2 := [.int r10]) rfl rfl rfl ?_
        refine k_istoren (pc := 33) C dX3_partTape_33 (i := 3) rfl (by decide) (L2 := [(0, .ref (E.1 + a0)), (1, .int x1), (2, .int x2), (3, .int r10)]) rfl ?_
        refine k_iloadn (pc := 34) C dX3_partTape_34 (i := 1) rfl 1 rfl ?_
        refine k_iconst (pc := 35) C (v := (1 : Int32)) dX3_partTape_35 (by decide) ?_
        refine k_iadd (pc := 36) C dX3_partTape_36 ?_
        refine k_istore (pc := 37) C dX3_partTape_37 (by decide) (L2 := [(0, .ref (E.1 + a0)), (1, .int x1), (2, .int x2), (3, .int r10), (4, .int (x1 + (1 : Int32)))]) rfl ?_
        exact b_X3_partTape_39 C hr hk ih _ _ _ _ _ _ _ h
def f_X3_partTape (S : Sh) (R : Rw)  (I : Iw) (a0 : Nat) : Option (Iw) := gp (sok S a0 3 7) (lt (up2 I a0 4 (0 : Int32)) (fun I2 => f_X3_partTape_9 S R  512 I2 a0 (0 : Int32) (0 : Int32)))
set_option maxHeartbeats 4000000 in
theorem b_X3_partTape {E : Ev} {p : Program} {l : Launch} {e : Env} {s : State} {m : MethodId} {args : Array Value} {below : List Frame} {meth : Method} {c : Code} (C : Cx E RX3 cX3_partTape 5 p s m c) (hr : meth.sig.returnType = none) (hk : meth.locks = false) {S : Sh} {R : Rw} {r : Iw}  : ∀ (I : Iw) (a0 : Nat), f_X3_partTape S R   I a0 = some r → Wk E 5 p l e ({ frames := 7, cells := 0, slots := 0, locals := 226 } : Room) s m args below meth c 0 0 (MQ below (Qw E S R r none) args s 0 0 (fun q => E.1 ≤ q)) 0 [(0, .ref (E.1 + a0))] [] S R I := by
  intro I a0 h
  rw [f_X3_partTape] at h
  refine k_aloadn (pc := 0) C dX3_partTape_0 (i := 0) rfl 0 rfl ?_
  refine k_iconst (pc := 1) C (v := (0 : Int32)) dX3_partTape_1 (by decide) ?_
  obtain ⟨hs10, h⟩ := gp_e h
  have hs1 := sok_e hs10
  obtain ⟨I2, eI2, h⟩ := lt_e h
  refine k_putI (pc := 2) C lkP_RX3_50_3 hs1 ir_3_4 dX3_partTape_2 ?_
  rw [← eI2]
  refine k_iconst (pc := 5) C (v := (0 : Int32)) dX3_partTape_5 (by decide) ?_
  refine k_istoren (pc := 6) C dX3_partTape_6 (i := 1) rfl (by decide) (L2 := [(0, .ref (E.1 + a0)), (1, .int (0 : Int32))]) rfl ?_
  refine k_iconst (pc := 7) C (v := (0 : Int32)) dX3_partTape_7 (by decide) ?_
  refine k_istoren (pc := 8) C dX3_partTape_8 (i := 2) rfl (by decide) (L2 := [(0, .ref (E.1 + a0)), (1, .int (0 : Int32)), (2, .int (0 : Int32))]) rfl ?_
  exact b_X3_partTape_9 C hr hk  _ _ _ _ _ h
theorem c_X3_partTape {E : Ev} {l : Launch} {S : Sh} {R : Rw} {I : Iw} {a0 : Nat} {r : Iw} (h : f_X3_partTape S R I a0 = some r) : Mt E l yX3_partTape cX3_partTape 5 none 7 226 [.ref (E.1 + a0)] S R I S R r none 0 0 := mt_of (by decide) (Nat.le_of_ble_eq_true rfl) (fun p e s m args below meth c C hr hk hn => b_X3_partTape C hr hk _ _ h)
theorem lkF_RX3_36_3 : LkF RX3 36 3 5 := ⟨RX3, TX3, 7, "UnlikeNeighbours$Reader", fc3, by decide, (t1_in 152 (by decide +kernel) rfl), Or.inl rfl⟩
theorem dX3_peek_0 : decode cX3_peek 0 = .ok (.aload_n 0, 1) := by decide +kernel
theorem dX3_peek_1 : decode cX3_peek 1 = .ok (.getfield 36, 3) := by decide +kernel
theorem dX3_peek_4 : decode cX3_peek 4 = .ok (.aload_n 0, 1) := by decide +kernel
theorem dX3_peek_5 : decode cX3_peek 5 = .ok (.getfield 50, 3) := by decide +kernel
theorem dX3_peek_8 : decode cX3_peek 8 = .ok (.if_icmp .ge 15, 3) := by decide +kernel
theorem dX3_peek_11 : decode cX3_peek 11 = .ok (.aload_n 0, 1) := by decide +kernel
theorem dX3_peek_12 : decode cX3_peek 12 = .ok (.getfield 15, 3) := by decide +kernel
theorem dX3_peek_15 : decode cX3_peek 15 = .ok (.aload_n 0, 1) := by decide +kernel
theorem dX3_peek_16 : decode cX3_peek 16 = .ok (.getfield 36, 3) := by decide +kernel
theorem dX3_peek_19 : decode cX3_peek 19 = .ok (.iaload, 1) := by decide +kernel
theorem dX3_peek_20 : decode cX3_peek 20 = .ok (.goto 6, 3) := by decide +kernel
theorem dX3_peek_23 : decode cX3_peek 23 = .ok (.sipush 30000, 3) := by decide +kernel
theorem dX3_peek_26 : decode cX3_peek 26 = .ok (.ireturn, 1) := by decide +kernel
def f_X3_peek (S : Sh) (R : Rw) (I : Iw)  (a0 : Nat) : Option (Int32) := gp (sok S a0 3 7) ((if (I a0 4) ≤ (I a0 5) then some (30000 : Int32) else rl (R a0 2) (fun b3 => gp (aok S 20 b3 (I a0 5)) (some (I b3 (I a0 5).toNatClampNeg)))))
set_option maxHeartbeats 4000000 in
theorem b_X3_peek {E : Ev} {p : Program} {l : Launch} {e : Env} {s : State} {m : MethodId} {args : Array Value} {below : List Frame} {meth : Method} {c : Code} (C : Cx E RX3 cX3_peek 1 p s m c) (hr : meth.sig.returnType = (some .int)) (hk : meth.locks = false) {S : Sh} {R : Rw} {I : Iw} {r : Int32}  : ∀ (a0 : Nat), f_X3_peek S R I   a0 = some r → Wk E 1 p l e ({ frames := 0, cells := 0, slots := 0, locals := 0 } : Room) s m args below meth c 0 0 (MQ below (Qw E S R I (some (.int r))) args s 0 0 (fun q => E.1 ≤ q)) 0 [(0, .ref (E.1 + a0))] [] S R I := by
  intro a0 h
  rw [f_X3_peek] at h
  refine k_aloadn (pc := 0) C dX3_peek_0 (i := 0) rfl 0 rfl ?_
  obtain ⟨hs10, h⟩ := gp_e h
  have hs1 := sok_e hs10
  refine k_getI (pc := 1) C lkF_RX3_36_3 hs1 ir_3_5 dX3_peek_1 ?_
  refine k_aloadn (pc := 4) C dX3_peek_4 (i := 0) rfl 0 rfl ?_
  refine k_getI (pc := 5) C lkF_RX3_50_3 hs1 ir_3_4 dX3_peek_5 ?_
  refine k_icmp_ge (pc := 8) C dX3_peek_8 (tgt := 23) (by decide) (fun hc2 => ?_) (fun hc2 => ?_)
  · rw [if_pos hc2] at h
    refine k_sipush (pc := 23) C (v := (30000 : Int32)) dX3_peek_23 (by decide) ?_
    have h := Option.some.inj h
    subst h
    exact k_iret (pc := 26) C hr hk dX3_peek_26
  · rw [if_neg hc2] at h
    refine k_aloadn (pc := 11) C dX3_peek_11 (i := 0) rfl 0 rfl ?_
    obtain ⟨b3, hb3, h⟩ := rl_e h
    refine k_getR (pc := 12) C lkF_RX3_15_3 hs1 ir_3_2 hb3 dX3_peek_12 ?_
    refine k_aloadn (pc := 15) C dX3_peek_15 (i := 0) rfl 0 rfl ?_
    refine k_getI (pc := 16) C lkF_RX3_36_3 hs1 ir_3_5 dX3_peek_16 ?_
    obtain ⟨ha4, h⟩ := gp_e h
    refine k_iald (pc := 19) C ha4 dX3_peek_19 ?_
    refine k_goto (pc := 20) C dX3_peek_20 (tgt := 26) (by decide) ?_
    have h := Option.some.inj h
    subst h
    exact k_iret (pc := 26) C hr hk dX3_peek_26
theorem c_X3_peek {E : Ev} {l : Launch} {S : Sh} {R : Rw} {I : Iw} {a0 : Nat} {r : Int32} (h : f_X3_peek S R I a0 = some r) : Mt E l yX3_peek cX3_peek 1 (some .int) 0 0 [.ref (E.1 + a0)] S R I S R I (some (.int r)) 0 0 := mt_of (by decide) (Nat.le_of_ble_eq_true rfl) (fun p e s m args below meth c C hr hk hn => b_X3_peek C hr hk _ h)
theorem dX3_isValue_0 : decode cX3_isValue 0 = .ok (.iload_n 0, 1) := by decide +kernel
theorem dX3_isValue_1 : decode cX3_isValue 1 = .ok (.sipush 10000, 3) := by decide +kernel
theorem dX3_isValue_4 : decode cX3_isValue 4 = .ok (.if_icmp .lt 17, 3) := by decide +kernel
theorem dX3_isValue_7 : decode cX3_isValue 7 = .ok (.iload_n 0, 1) := by decide +kernel
theorem dX3_isValue_8 : decode cX3_isValue 8 = .ok (.sipush 10013, 3) := by decide +kernel
theorem dX3_isValue_11 : decode cX3_isValue 11 = .ok (.if_icmp .lt 14, 3) := by decide +kernel
theorem dX3_isValue_14 : decode cX3_isValue 14 = .ok (.iload_n 0, 1) := by decide +kernel
theorem dX3_isValue_15 : decode cX3_isValue 15 = .ok (.sipush 10017, 3) := by decide +kernel
theorem dX3_isValue_18 : decode cX3_isValue 18 = .ok (.if_icmp .gt 7, 3) := by decide +kernel
theorem dX3_isValue_21 : decode cX3_isValue 21 = .ok (.iconst 1, 1) := by decide +kernel
theorem dX3_isValue_22 : decode cX3_isValue 22 = .ok (.goto 4, 3) := by decide +kernel
theorem dX3_isValue_25 : decode cX3_isValue 25 = .ok (.iconst 0, 1) := by decide +kernel
theorem dX3_isValue_26 : decode cX3_isValue 26 = .ok (.ireturn, 1) := by decide +kernel
def f_X3_isValue_21 (S : Sh) (R : Rw) (I : Iw)   : Option (Int32) := some (1 : Int32)
set_option maxHeartbeats 4000000 in
theorem b_X3_isValue_21 {E : Ev} {p : Program} {l : Launch} {e : Env} {s : State} {m : MethodId} {args : Array Value} {below : List Frame} {meth : Method} {c : Code} (C : Cx E RX3 cX3_isValue 1 p s m c) (hr : meth.sig.returnType = (some .boolean)) (hk : meth.locks = false) {S : Sh} {R : Rw} {I : Iw} {r : Int32}  : f_X3_isValue_21 S R I    = some r → Wk E 1 p l e ({ frames := 0, cells := 0, slots := 0, locals := 0 } : Room) s m args below meth c 0 0 (MQ below (Qw E S R I (some (.int r))) args s 0 0 (fun q => E.1 ≤ q)) 21 [] [] S R I := by
  intro  h
  rw [f_X3_isValue_21] at h
  refine k_iconst (pc := 21) C (v := (1 : Int32)) dX3_isValue_21 (by decide) ?_
  refine k_goto (pc := 22) C dX3_isValue_22 (tgt := 26) (by decide) ?_
  have h := Option.some.inj h
  subst h
  exact k_zret (pc := 26) C hr hk (Or.inr rfl) dX3_isValue_26
def f_X3_isValue (S : Sh) (R : Rw) (I : Iw)  (x0 : Int32) : Option (Int32) := (if x0 < (10000 : Int32) then f_X3_isValue_21 S R I   else (if x0 < (10013 : Int32) then some (0 : Int32) else (if (10017 : Int32) < x0 then some (0 : Int32) else f_X3_isValue_21 S R I  )))
set_option maxHeartbeats 4000000 in
theorem b_X3_isValue {E : Ev} {p : Program} {l : Launch} {e : Env} {s : State} {m : MethodId} {args : Array Value} {below : List Frame} {meth : Method} {c : Code} (C : Cx E RX3 cX3_isValue 1 p s m c) (hr : meth.sig.returnType = (some .boolean)) (hk : meth.locks = false) {S : Sh} {R : Rw} {I : Iw} {r : Int32}  : ∀ (x0 : Int32), f_X3_isValue S R I   x0 = some r → Wk E 1 p l e ({ frames := 0, cells := 0, slots := 0, locals := 0 } : Room) s m args below meth c 0 0 (MQ below (Qw E S R I (some (.int r))) args s 0 0 (fun q => E.1 ≤ q)) 0 [(0, .int x0)] [] S R I := by
  intro x0 h
  rw [f_X3_isValue] at h
  refine k_iloadn (pc := 0) C dX3_isValue_0 (i := 0) rfl 0 rfl ?_
  refine k_sipush (pc := 1) C (v := (10000 : Int32)) dX3_isValue_1 (by decide) ?_
  refine k_icmp_lt (pc := 4) C dX3_isValue_4 (tgt := 21) (by decide) (fun hc1 => ?_) (fun hc1 => ?_)
  · rw [if_pos hc1] at h
    refine k_loc (L2 := []) [] rfl ?_
    exact b_X3_isValue_21 C hr hk   h
  · rw [if_neg hc1] at h
    refine k_iloadn (pc := 7) C dX3_isValue_7 (i := 0) rfl 0 rfl ?_
    refine k_sipush (pc := 8) C (v := (10013 : Int32)) dX3_isValue_8 (by decide) ?_
    refine k_icmp_lt (pc := 11) C dX3_isValue_11 (tgt := 25) (by decide) (fun hc2 => ?_) (fun hc2 => ?_)
    · rw [if_pos hc2] at h
      refine k_iconst (pc := 25) C (v := (0 : Int32)) dX3_isValue_25 (by decide) ?_
      have h := Option.some.inj h
      subst h
      exact k_zret (pc := 26) C hr hk (Or.inl rfl) dX3_isValue_26
    · rw [if_neg hc2] at h
      refine k_iloadn (pc := 14) C dX3_isValue_14 (i := 0) rfl 0 rfl ?_
      refine k_sipush (pc := 15) C (v := (10017 : Int32)) dX3_isValue_15 (by decide) ?_
      refine k_icmp_gt (pc := 18) C dX3_isValue_18 (tgt := 25) (by decide) (fun hc3 => ?_) (fun hc3 => ?_)
      · rw [if_pos hc3] at h
        refine k_iconst (pc := 25) C (v := (0 : Int32)) dX3_isValue_25 (by decide) ?_
        have h := Option.some.inj h
        subst h
        exact k_zret (pc := 26) C hr hk (Or.inl rfl) dX3_isValue_26
      · rw [if_neg hc3] at h
        refine k_loc (L2 := []) [] rfl ?_
        exact b_X3_isValue_21 C hr hk   h
theorem c_X3_isValue {E : Ev} {l : Launch} {S : Sh} {R : Rw} {I : Iw} {x0 : Int32} {r : Int32} (h : f_X3_isValue S R I x0 = some r) : Mt E l yX3_isValue cX3_isValue 1 (some .boolean) 0 0 [.int x0] S R I S R I (some (.int r)) 0 0 := mt_of (by decide) (Nat.le_of_ble_eq_true rfl) (fun p e s m args below meth c C hr hk hn => b_X3_isValue C hr hk _ h)
theorem lkF_RX5_34_5 : LkF RX5 34 5 4 := ⟨RX5, TX5, 8, "UnlikeNeighbours$Rules", fc5, by decide, (t1_in 47 (by decide +kernel) rfl), Or.inl rfl⟩
theorem lkP_RX5_34_5 : LkP RX5 34 5 4 .int := ⟨RX5, TX5, 8, "UnlikeNeighbours$Rules", fc5, by decide, (t1_in 47 (by decide +kernel) rfl), Or.inl rfl, rfl, by decide +kernel⟩
theorem dX5_addStep_0 : decode cX5_addStep 0 = .ok (.aload_n 0, 1) := by decide +kernel
theorem dX5_addStep_1 : decode cX5_addStep 1 = .ok (.getfield 34, 3) := by decide +kernel
theorem dX5_addStep_4 : decode cX5_addStep 4 = .ok (.sipush 128, 3) := by decide +kernel
theorem dX5_addStep_7 : decode cX5_addStep 7 = .ok (.if_icmp .ge 43, 3) := by decide +kernel
theorem dX5_addStep_10 : decode cX5_addStep 10 = .ok (.aload_n 0, 1) := by decide +kernel
theorem dX5_addStep_11 : decode cX5_addStep 11 = .ok (.getfield 21, 3) := by decide +kernel
theorem dX5_addStep_14 : decode cX5_addStep 14 = .ok (.aload_n 0, 1) := by decide +kernel
theorem dX5_addStep_15 : decode cX5_addStep 15 = .ok (.getfield 34, 3) := by decide +kernel
theorem dX5_addStep_18 : decode cX5_addStep 18 = .ok (.iload_n 1, 1) := by decide +kernel
theorem dX5_addStep_19 : decode cX5_addStep 19 = .ok (.iastore, 1) := by decide +kernel
theorem dX5_addStep_20 : decode cX5_addStep 20 = .ok (.aload_n 0, 1) := by decide +kernel
theorem dX5_addStep_21 : decode cX5_addStep 21 = .ok (.getfield 24, 3) := by decide +kernel
theorem dX5_addStep_24 : decode cX5_addStep 24 = .ok (.aload_n 0, 1) := by decide +kernel
theorem dX5_addStep_25 : decode cX5_addStep 25 = .ok (.getfield 34, 3) := by decide +kernel
theorem dX5_addStep_28 : decode cX5_addStep 28 = .ok (.iload_n 2, 1) := by decide +kernel
theorem dX5_addStep_29 : decode cX5_addStep 29 = .ok (.iastore, 1) := by decide +kernel
theorem dX5_addStep_30 : decode cX5_addStep 30 = .ok (.aload_n 0, 1) := by decide +kernel
theorem dX5_addStep_31 : decode cX5_addStep 31 = .ok (.getfield 27, 3) := by decide +kernel
theorem dX5_addStep_34 : decode cX5_addStep 34 = .ok (.aload_n 0, 1) := by decide +kernel
theorem dX5_addStep_35 : decode cX5_addStep 35 = .ok (.getfield 34, 3) := by decide +kernel
theorem dX5_addStep_38 : decode cX5_addStep 38 = .ok (.iload_n 3, 1) := by decide +kernel
theorem dX5_addStep_39 : decode cX5_addStep 39 = .ok (.iastore, 1) := by decide +kernel
theorem dX5_addStep_40 : decode cX5_addStep 40 = .ok (.aload_n 0, 1) := by decide +kernel
theorem dX5_addStep_41 : decode cX5_addStep 41 = .ok (.dup, 1) := by decide +kernel
theorem dX5_addStep_42 : decode cX5_addStep 42 = .ok (.getfield 34, 3) := by decide +kernel
theorem dX5_addStep_45 : decode cX5_addStep 45 = .ok (.iconst 1, 1) := by decide +kernel
theorem dX5_addStep_46 : decode cX5_addStep 46 = .ok (.iadd, 1) := by decide +kernel
theorem dX5_addStep_47 : decode cX5_addStep 47 = .ok (.putfield 34, 3) := by decide +kernel
theorem dX5_addStep_50 : decode cX5_addStep 50 = .ok (.return_, 1) := by decide +kernel
def f_X5_addStep (S : Sh) (R : Rw)  (I : Iw) (a0 : Nat) (x1 : Int32) (x2 : Int32) (x3 : Int32) : Option (Iw) := gp (sok S a0 5 8) ((if (128 : Int32) ≤ (I a0 4) then some I else rl (R a0 5) (fun b3 => gp (aok S 20 b3 (I a0 4)) (lt (up2 I b3 (I a0 4).toNatClampNeg x1) (fun I5 => rl (R a0 6) (fun b6 => gp (aok S 20 b6 (I5 a0 4)) (lt (up2 I5 b6 (I5 a0 4).toNatClampNeg x2) (fun I8 => rl (R a0 7) (fun b9 => gp (aok S 20 b9 (I8 a0 4)) (lt (up2 I8 b9 (I8 a0 4).toNatClampNeg x3) (fun I11 => lt (up2 I11 a0 4 ((I11 a0 4) + (1 : Int32))) (fun I12 => some I12))))))))))))
set_option maxHeartbeats 4000000 in
theorem b_X5_addStep {E : Ev} {p : Program} {l : Launch} {e : Env} {s : State} {m : MethodId} {args : Array Value} {below : List Frame} {meth : Method} {c : Code} (C : Cx E RX5 cX5_addStep 4 p s m c) (hr : meth.sig.returnType = none) (hk : meth.locks = false) {S : Sh} {R : Rw} {r : Iw}  : ∀ (I : Iw) (a0 : Nat) (x1 : Int32) (x2 : Int32) (x3 : Int32), f_X5_addStep S R   I a0 x1 x2 x3 = some r → Wk E 4 p l e ({ frames := 0, cells := 0, slots := 0, locals := 0 } : Room) s m args below meth c 0 0 (MQ below (Qw E S R r none) args s 0 0 (fun q => E.1 ≤ q)) 0 [(0, .ref (E.1 + a0)), (1, .int x1), (2, .int x2), (3, .int x3)] [] S R I := by
  intro I a0 x1 x2 x3 h
  rw [f_X5_addStep] at h
  refine k_aloadn (pc := 0) C dX5_addStep_0 (i := 0) rfl 0 rfl ?_
  obtain ⟨hs10, h⟩ := gp_e h
  have hs1 := sok_e hs10
  refine k_getI (pc := 1) C lkF_RX5_34_5 hs1 ir_5_4 dX5_addStep_1 ?_
  refine k_sipush (pc := 4) C (v := (128 : Int32)) dX5_addStep_4 (by decide) ?_
  refine k_icmp_ge (pc := 7) C dX5_addStep_7 (tgt := 50) (by decide) (fun hc2 => ?_) (fun hc2 => ?_)
  · rw [if_pos hc2] at h
    have h := Option.some.inj h
    subst h
    exact k_vret (pc := 50) C hr hk dX5_addStep_50
  · rw [if_neg hc2] at h
    refine k_aloadn (pc := 10) C dX5_addStep_10 (i := 0) rfl 0 rfl ?_
    obtain ⟨b3, hb3, h⟩ := rl_e h
    refine k_getR (pc := 11) C lkF_RX5_21_5 hs1 ir_5_5 hb3 dX5_addStep_11 ?_
    refine k_aloadn (pc := 14) C dX5_addStep_14 (i := 0) rfl 0 rfl ?_
    refine k_getI (pc := 15) C lkF_RX5_34_5 hs1 ir_5_4 dX5_addStep_15 ?_
    refine k_iloadn (pc := 18) C dX5_addStep_18 (i := 1) rfl 1 rfl ?_
    obtain ⟨ha4, h⟩ := gp_e h
    obtain ⟨I5, eI5, h⟩ := lt_e h
    refine k_iast (pc := 19) C ha4 dX5_addStep_19 ?_
    rw [← eI5]
    refine k_aloadn (pc := 20) C dX5_addStep_20 (i := 0) rfl 0 rfl ?_
    obtain ⟨b6, hb6, h⟩ := rl_e h
    refine k_getR (pc := 21) C lkF_RX5_24_5 hs1 ir_5_6 hb6 dX5_addStep_21 ?_
    refine k_aloadn (pc := 24) C dX5_addStep_24 (i := 0) rfl 0 rfl ?_
    refine k_getI (pc := 25) C lkF_RX5_34_5 hs1 ir_5_4 dX5_addStep_25 ?_
    refine k_iloadn (pc := 28) C dX5_addStep_28 (i := 2) rfl 2 rfl ?_
    obtain ⟨ha7, h⟩ := gp_e h
    obtain ⟨I8, eI8, h⟩ := lt_e h
    refine k_iast (pc := 29) C ha7 dX5_addStep_29 ?_
    rw [← eI8]
    refine k_aloadn (pc := 30) C dX5_addStep_30 (i := 0) rfl 0 rfl ?_
    obtain ⟨b9, hb9, h⟩ := rl_e h
    refine k_getR (pc := 31) C lkF_RX5_27_5 hs1 ir_5_7 hb9 dX5_addStep_31 ?_
    refine k_aloadn (pc := 34) C dX5_addStep_34 (i := 0) rfl 0 rfl ?_
    refine k_getI (pc := 35) C lkF_RX5_34_5 hs1 ir_5_4 dX5_addStep_35 ?_
    refine k_iloadn (pc := 38) C dX5_addStep_38 (i := 3) rfl 3 rfl ?_
    obtain ⟨ha10, h⟩ := gp_e h
    obtain ⟨I11, eI11, h⟩ := lt_e h
    refine k_iast (pc := 39) C ha10 dX5_addStep_39 ?_
    rw [← eI11]
    refine k_aloadn (pc := 40) C dX5_addStep_40 (i := 0) rfl 0 rfl ?_
    refine k_dup (pc := 41) C dX5_addStep_41 rfl ?_
    refine k_getI (pc := 42) C lkF_RX5_34_5 hs1 ir_5_4 dX5_addStep_42 ?_
    refine k_iconst (pc := 45) C (v := (1 : Int32)) dX5_addStep_45 (by decide) ?_
    refine k_iadd (pc := 46) C dX5_addStep_46 ?_
    obtain ⟨I12, eI12, h⟩ := lt_e h
    refine k_putI (pc := 47) C lkP_RX5_34_5 hs1 ir_5_4 dX5_addStep_47 ?_
    rw [← eI12]
    have h := Option.some.inj h
    subst h
    exact k_vret (pc := 50) C hr hk dX5_addStep_50
theorem c_X5_addStep {E : Ev} {l : Launch} {S : Sh} {R : Rw} {I : Iw} {a0 : Nat} {x1 : Int32} {x2 : Int32} {x3 : Int32} {r : Iw} (h : f_X5_addStep S R I a0 x1 x2 x3 = some r) : Mt E l yX5_addStep cX5_addStep 4 none 0 0 [.ref (E.1 + a0), .int x1, .int x2, .int x3] S R I S R r none 0 0 := mt_of (by decide) (Nat.le_of_ble_eq_true rfl) (fun p e s m args below meth c C hr hk hn => b_X5_addStep C hr hk _ _ _ _ _ h)
theorem lkV_RX3_42 : LkV RX3 42 RX3 yX3_peek cX3_peek 1 (some .int) 0 := ⟨(t2_in 234 (by decide +kernel) rfl), (t2_in 236 (by decide +kernel) rfl), (t0_in 11 (by decide +kernel) rfl), (t2_in 237 (by decide +kernel) rfl), (t1_in 4 (by decide +kernel) rfl), by decide, by decide +kernel⟩
theorem lkS_RX3_114 : LkS RX3 114 yX3_isValue cX3_isValue 1 (some .boolean) 1 := ⟨(t3_in 19 (by decide +kernel) rfl), (t3_in 20 (by decide +kernel) rfl), (t3_in 21 (by decide +kernel) rfl), (t1_in 4 (by decide +kernel) rfl), by decide, by decide +kernel⟩
theorem lkP_RX3_36_3 : LkP RX3 36 3 5 .int := ⟨RX3, TX3, 7, "UnlikeNeighbours$Reader", fc3, by decide, (t1_in 152 (by decide +kernel) rfl), Or.inl rfl, rfl, by decide +kernel⟩
theorem lkF_RX3_25_3 : LkF RX3 25 3 6 := ⟨RX3, TX3, 7, "UnlikeNeighbours$Reader", fc3, by decide, (t1_in 153 (by decide +kernel) rfl), Or.inl rfl⟩
theorem lkV_RX3_104 : LkV RX3 104 RX5 yX5_addStep cX5_addStep 4 none 3 := ⟨(t3_in 22 (by decide +kernel) rfl), (t3_in 23 (by decide +kernel) rfl), (t3_in 24 (by decide +kernel) rfl), (t3_in 25 (by decide +kernel) rfl), (t1_in 3 (by decide +kernel) rfl), by decide, by decide +kernel⟩
theorem dX3_readComparison_0 : decode cX3_readComparison 0 = .ok (.aload_n 0, 1) := by decide +kernel
theorem dX3_readComparison_1 : decode cX3_readComparison 1 = .ok (.invokevirtual 42, 3) := by decide +kernel
theorem dX3_readComparison_4 : decode cX3_readComparison 4 = .ok (.istore_n 1, 1) := by decide +kernel
theorem dX3_readComparison_5 : decode cX3_readComparison 5 = .ok (.iload_n 1, 1) := by decide +kernel
theorem dX3_readComparison_6 : decode cX3_readComparison 6 = .ok (.invokestatic 114, 3) := by decide +kernel
theorem dX3_readComparison_9 : decode cX3_readComparison 9 = .ok (.ifCond .ne 5, 3) := by decide +kernel
theorem dX3_readComparison_12 : decode cX3_readComparison 12 = .ok (.iconst 0, 1) := by decide +kernel
theorem dX3_readComparison_13 : decode cX3_readComparison 13 = .ok (.ireturn, 1) := by decide +kernel
theorem dX3_readComparison_14 : decode cX3_readComparison 14 = .ok (.aload_n 0, 1) := by decide +kernel
theorem dX3_readComparison_15 : decode cX3_readComparison 15 = .ok (.dup, 1) := by decide +kernel
theorem dX3_readComparison_16 : decode cX3_readComparison 16 = .ok (.getfield 36, 3) := by decide +kernel
theorem dX3_readComparison_19 : decode cX3_readComparison 19 = .ok (.iconst 1, 1) := by decide +kernel
theorem dX3_readComparison_20 : decode cX3_readComparison 20 = .ok (.iadd, 1) := by decide +kernel
theorem dX3_readComparison_21 : decode cX3_readComparison 21 = .ok (.putfield 36, 3) := by decide +kernel
theorem dX3_readComparison_24 : decode cX3_readComparison 24 = .ok (.aload_n 0, 1) := by decide +kernel
theorem dX3_readComparison_25 : decode cX3_readComparison 25 = .ok (.invokevirtual 42, 3) := by decide +kernel
theorem dX3_readComparison_28 : decode cX3_readComparison 28 = .ok (.istore_n 2, 1) := by decide +kernel
theorem dX3_readComparison_29 : decode cX3_readComparison 29 = .ok (.iload_n 2, 1) := by decide +kernel
theorem dX3_readComparison_30 : decode cX3_readComparison 30 = .ok (.sipush 20060, 3) := by decide +kernel
theorem dX3_readComparison_33 : decode cX3_readComparison 33 = .ok (.if_icmp .eq 19, 3) := by decide +kernel
theorem dX3_readComparison_36 : decode cX3_readComparison 36 = .ok (.iload_n 2, 1) := by decide +kernel
theorem dX3_readComparison_37 : decode cX3_readComparison 37 = .ok (.sipush 20061, 3) := by decide +kernel
theorem dX3_readComparison_40 : decode cX3_readComparison 40 = .ok (.if_icmp .eq 12, 3) := by decide +kernel
theorem dX3_readComparison_43 : decode cX3_readComparison 43 = .ok (.iload_n 2, 1) := by decide +kernel
theorem dX3_readComparison_44 : decode cX3_readComparison 44 = .ok (.sipush 20062, 3) := by decide +kernel
theorem dX3_readComparison_47 : decode cX3_readComparison 47 = .ok (.if_icmp .eq 5, 3) := by decide +kernel
theorem dX3_readComparison_50 : decode cX3_readComparison 50 = .ok (.iconst 0, 1) := by decide +kernel
theorem dX3_readComparison_51 : decode cX3_readComparison 51 = .ok (.ireturn, 1) := by decide +kernel
theorem dX3_readComparison_52 : decode cX3_readComparison 52 = .ok (.aload_n 0, 1) := by decide +kernel
theorem dX3_readComparison_53 : decode cX3_readComparison 53 = .ok (.dup, 1) := by decide +kernel
theorem dX3_readComparison_54 : decode cX3_readComparison 54 = .ok (.getfield 36, 3) := by decide +kernel
theorem dX3_readComparison_57 : decode cX3_readComparison 57 = .ok (.iconst 1, 1) := by decide +kernel
theorem dX3_readComparison_58 : decode cX3_readComparison 58 = .ok (.iadd, 1) := by decide +kernel
theorem dX3_readComparison_59 : decode cX3_readComparison 59 = .ok (.putfield 36, 3) := by decide +kernel
theorem dX3_readComparison_62 : decode cX3_readComparison 62 = .ok (.aload_n 0, 1) := by decide +kernel
theorem dX3_readComparison_63 : decode cX3_readComparison 63 = .ok (.invokevirtual 42, 3) := by decide +kernel
theorem dX3_readComparison_66 : decode cX3_readComparison 66 = .ok (.istore_n 3, 1) := by decide +kernel
theorem dX3_readComparison_67 : decode cX3_readComparison 67 = .ok (.iload_n 3, 1) := by decide +kernel
theorem dX3_readComparison_68 : decode cX3_readComparison 68 = .ok (.invokestatic 114, 3) := by decide +kernel
theorem dX3_readComparison_71 : decode cX3_readComparison 71 = .ok (.ifCond .ne 5, 3) := by decide +kernel
theorem dX3_readComparison_74 : decode cX3_readComparison 74 = .ok (.iconst 0, 1) := by decide +kernel
theorem dX3_readComparison_75 : decode cX3_readComparison 75 = .ok (.ireturn, 1) := by decide +kernel
theorem dX3_readComparison_76 : decode cX3_readComparison 76 = .ok (.aload_n 0, 1) := by decide +kernel
theorem dX3_readComparison_77 : decode cX3_readComparison 77 = .ok (.dup, 1) := by decide +kernel
theorem dX3_readComparison_78 : decode cX3_readComparison 78 = .ok (.getfield 36, 3) := by decide +kernel
theorem dX3_readComparison_81 : decode cX3_readComparison 81 = .ok (.iconst 1, 1) := by decide +kernel
theorem dX3_readComparison_82 : decode cX3_readComparison 82 = .ok (.iadd, 1) := by decide +kernel
theorem dX3_readComparison_83 : decode cX3_readComparison 83 = .ok (.putfield 36, 3) := by decide +kernel
theorem dX3_readComparison_86 : decode cX3_readComparison 86 = .ok (.aload_n 0, 1) := by decide +kernel
theorem dX3_readComparison_87 : decode cX3_readComparison 87 = .ok (.getfield 25, 3) := by decide +kernel
theorem dX3_readComparison_90 : decode cX3_readComparison 90 = .ok (.iload_n 2, 1) := by decide +kernel
theorem dX3_readComparison_91 : decode cX3_readComparison 91 = .ok (.iload_n 1, 1) := by decide +kernel
theorem dX3_readComparison_92 : decode cX3_readComparison 92 = .ok (.iload_n 3, 1) := by decide +kernel
theorem dX3_readComparison_93 : decode cX3_readComparison 93 = .ok (.invokevirtual 104, 3) := by decide +kernel
theorem dX3_readComparison_96 : decode cX3_readComparison 96 = .ok (.iconst 1, 1) := by decide +kernel
theorem dX3_readComparison_97 : decode cX3_readComparison 97 = .ok (.ireturn, 1) := by decide +kernel
def f_X3_readComparison_52 (S : Sh) (R : Rw)  (I : Iw) (a0 : Nat) (x1 : Int32) (x2 : Int32) : Option (Iw × Int32) := gp (sok S a0 3 7) (lt (up2 I a0 5 ((I a0 5) + (1 : Int32))) (fun I9 => bd (f_X3_peek S R I9 a0) (fun r10 => bd (f_X3_isValue S R I9 r10) (fun r11 => (if r11 = 0 then some (I9, (0 : Int32)) else lt (up2 I9 a0 5 ((I9 a0 5) + (1 : Int32))) (fun I13 => rl (R a0 6) (fun b14 => gp (sok S b14 5 8) (bd (f_X5_addStep S R I13 b14 x2 x1 r10) (fun r16 => some (r16, (1 : Int32)))))))))))
set_option maxHeartbeats 4000000 in
theorem b_X3_readComparison_52 {E : Ev} {p : Program} {l : Launch} {e : Env} {s : State} {m : MethodId} {args : Array Value} {below : List Frame} {meth : Method} {c : Code} (C : Cx E RX3 cX3_readComparison 4 p s m c) (hr : meth.sig.returnType = (some .boolean)) (hk : meth.locks = false) {S : Sh} {R : Rw} {r : Iw × Int32}  : ∀ (I : Iw) (a0 : Nat) (x1 : Int32) (x2 : Int32), f_X3_readComparison_52 S R   I a0 x1 x2 = some r → Wk E 4 p l e ({ frames := 1, cells := 0, slots := 0, locals := 23 } : Room) s m args below meth c 0 0 (MQ below (Qw E S R r.1 (some (.int r.2))) args s 0 0 (fun q => E.1 ≤ q)) 52 [(0, .ref (E.1 + a0)), (1, .int x1), (2, .int x2)] [] S R I := by
  intro I a0 x1 x2 h
  rw [f_X3_readComparison_52] at h
  refine k_aloadn (pc := 52) C dX3_readComparison_52 (i := 0) rfl 0 rfl ?_
  refine k_dup (pc := 53) C dX3_readComparison_53 rfl ?_
  obtain ⟨hs80, h⟩ := gp_e h
  have hs8 := sok_e hs80
  refine k_getI (pc := 54) C lkF_RX3_36_3 hs8 ir_3_5 dX3_readComparison_54 ?_
  refine k_iconst (pc := 57) C (v := (1 : Int32)) dX3_readComparison_57 (by decide) ?_
  refine k_iadd (pc := 58) C dX3_readComparison_58 ?_
  obtain ⟨I9, eI9, h⟩ := lt_e h
  refine k_putI (pc := 59) C lkP_RX3_36_3 hs8 ir_3_5 dX3_readComparison_59 ?_
  rw [← eI9]
  refine k_aloadn (pc := 62) C dX3_readComparison_62 (i := 0) rfl 0 rfl ?_
  obtain ⟨r10, hr10, h⟩ := bd_e h
  refine k_V (pc := 63) (st := []) C (c_X3_peek hr10) lkV_RX3_42 hs8 rfl rfl rfl (Nat.le_of_ble_eq_true rfl) (Nat.le_of_ble_eq_true rfl) (Nat.le_of_ble_eq_true rfl) (Nat.le_of_ble_eq_true rfl) (Nat.le_of_ble_eq_true rfl) dX3_readComparison_63 ?_
  refine k_nf (cells2 := 0) (slots2 := 0) (st2 := [.int r10]) rfl rfl rfl ?_
  refine k_istoren (pc := 66) C dX3_readComparison_66 (i := 3) rfl (by decide) (L2 := [(0, .ref (E.1 + a0)), (1, .int x1), (2, .int x2), (3, .int r10)]) rfl ?_
  refine k_iloadn (pc := 67) C dX3_readComparison_67 (i := 3) rfl 3 rfl ?_
  obtain ⟨r11, hr11, h⟩ := bd_e h
  refine k_S (pc := 68) (st := []) C (c_X3_isValue hr11) lkS_RX3_114 rfl rfl (Nat.le_of_ble_eq_true rfl) (Nat.le_of_ble_eq_true rfl) (Nat.le_of_ble_eq_true rfl) (Nat.le_of_ble_eq_true rfl) (Nat.le_of_ble_eq_true rfl) dX3_readComparison_68 ?_
  refine k_nf (cells2 := 0) (slots2 := 0) (st2 := [.int r11]) rfl rfl rfl ?_
  refine k_if_ne (pc := 71) C dX3_readComparison_71 (tgt := 76) (by decide) (fun hc12 => ?_) (fun hc12 => ?_)
  · rw [if_neg hc12] at h
    refine k_aloadn (pc := 76) C dX3_readComparison_76 (i := 0) rfl 0 rfl ?_
    refine k_dup (pc := 77) C dX3_readComparison_77 rfl ?_
    refine k_getI (pc := 78) C lkF_RX3_36_3 hs8 ir_3_5 dX3_readComparison_78 ?_
    refine k_iconst (pc := 81) C (v := (1 : Int32)) dX3_readComparison_81 (by decide) ?_
    refine k_iadd (pc := 82) C dX3_readComparison_82 ?_
    obtain ⟨I13, eI13, h⟩ := lt_e h
    refine k_putI (pc := 83) C lkP_RX3_36_3 hs8 ir_3_5 dX3_readComparison_83 ?_
    rw [← eI13]
    refine k_aloadn (pc := 86) C dX3_readComparison_86 (i := 0) rfl 0 rfl ?_
    obtain ⟨b14, hb14, h⟩ := rl_e h
    refine k_getR (pc := 87) C lkF_RX3_25_3 hs8 ir_3_6 hb14 dX3_readComparison_87 ?_
    refine k_iloadn (pc := 90) C dX3_readComparison_90 (i := 2) rfl 2 rfl ?_
    refine k_iloadn (pc := 91) C dX3_readComparison_91 (i := 1) rfl 1 rfl ?_
    refine k_iloadn (pc := 92) C dX3_readComparison_92 (i := 3) rfl 3 rfl ?_
    obtain ⟨hs150, h⟩ := gp_e h
    have hs15 := sok_e hs150
    obtain ⟨r16, hr16, h⟩ := bd_e h
    refine k_V (pc := 93) (st := []) C (c_X5_addStep hr16) lkV_RX3_104 hs15 rfl rfl rfl (Nat.le_of_ble_eq_true rfl) (Nat.le_of_ble_eq_true rfl) (Nat.le_of_ble_eq_true rfl) (Nat.le_of_ble_eq_true rfl) (Nat.le_of_ble_eq_true rfl) dX3_readComparison_93 ?_
    refine k_nf (cells2 := 0) (slots2 := 0) (st2 := []) rfl rfl rfl ?_
    refine k_iconst (pc := 96) C (v := (1 : Int32)) dX3_readComparison_96 (by decide) ?_
    have h := Option.some.inj h
    subst h
    exact k_zret (pc := 97) C hr hk (Or.inr rfl) dX3_readComparison_97
  · rw [if_pos hc12] at h
    refine k_iconst (pc := 74) C (v := (0 : Int32)) dX3_readComparison_74 (by decide) ?_
    have h := Option.some.inj h
    subst h
    exact k_zret (pc := 75) C hr hk (Or.inl rfl) dX3_readComparison_75
def f_X3_readComparison (S : Sh) (R : Rw)  (I : Iw) (a0 : Nat) : Option (Iw × Int32) := gp (sok S a0 3 7) (bd (f_X3_peek S R I a0) (fun r2 => bd (f_X3_isValue S R I r2) (fun r3 => (if r3 = 0 then some (I, (0 : Int32)) else lt (up2 I a0 5 ((I a0 5) + (1 : Int32))) (fun I5 => bd (f_X3_peek S R I5 a0) (fun r6 => (if r6 = (20060 : Int32) then f_X3_readComparison_52 S R  I5 a0 r2 r6 else (if r6 = (20061 : Int32) then f_X3_readComparison_52 S R  I5 a0 r2 r6 else (if r6 = (20062 : Int32) then f_X3_readComparison_52 S R  I5 a0 r2 r6 else some (I5, (0 : Int32)))))))))))
set_option maxHeartbeats 4000000 in
theorem b_X3_readComparison {E : Ev} {p : Program} {l : Launch} {e : Env} {s : State} {m : MethodId} {args : Array Value} {below : List Frame} {meth : Method} {c : Code} (C : Cx E RX3 cX3_readComparison 4 p s m c) (hr : meth.sig.returnType = (some .boolean)) (hk : meth.locks = false) {S : Sh} {R : Rw} {r : Iw × Int32}  : ∀ (I : Iw) (a0 : Nat), f_X3_readComparison S R   I a0 = some r → Wk E 4 p l e ({ frames := 1, cells := 0, slots := 0, locals := 23 } : Room) s m args below meth c 0 0 (MQ below (Qw E S R r.1 (some (.int r.2))) args s 0 0 (fun q => E.1 ≤ q)) 0 [(0, .ref (E.1 + a0))] [] S R I := by
  intro I a0 h
  rw [f_X3_readComparison] at h
  refine k_aloadn (pc := 0) C dX3_readComparison_0 (i := 0) rfl 0 rfl ?_
  obtain ⟨hs10, h⟩ := gp_e h
  have hs1 := sok_e hs10
  obtain ⟨r2, hr2, h⟩ := bd_e h
  refine k_V (pc := 1) (st := []) C (c_X3_peek hr2) lkV_RX3_42 hs1 rfl rfl rfl (Nat.le_of_ble_eq_true rfl) (Nat.le_of_ble_eq_true rfl) (Nat.le_of_ble_eq_true rfl) (Nat.le_of_ble_eq_true rfl) (Nat.le_of_ble_eq_true rfl) dX3_readComparison_1 ?_
  refine k_nf (cells2 := 0) (slots2 := 0) (st2 := [.int r2]) rfl rfl rfl ?_
  refine k_istoren (pc := 4) C dX3_readComparison_4 (i := 1) rfl (by decide) (L2 := [(0, .ref (E.1 + a0)), (1, .int r2)]) rfl ?_
  refine k_iloadn (pc := 5) C dX3_readComparison_5 (i := 1) rfl 1 rfl ?_
  obtain ⟨r3, hr3, h⟩ := bd_e h
  refine k_S (pc := 6) (st := []) C (c_X3_isValue hr3) lkS_RX3_114 rfl rfl (Nat.le_of_ble_eq_true rfl) (Nat.le_of_ble_eq_true rfl) (Nat.le_of_ble_eq_true rfl) (Nat.le_of_ble_eq_true rfl) (Nat.le_of_ble_eq_true rfl) dX3_readComparison_6 ?_
  refine k_nf (cells2 := 0) (slots2 := 0) (st2 := [.int r3]) rfl rfl rfl ?_
  refine k_if_ne (pc := 9) C dX3_readComparison_9 (tgt := 14) (by decide) (fun hc4 => ?_) (fun hc4 => ?_)
  · rw [if_neg hc4] at h
    refine k_aloadn (pc := 14) C dX3_readComparison_14 (i := 0) rfl 0 rfl ?_
    refine k_dup (pc := 15) C dX3_readComparison_15 rfl ?_
    refine k_getI (pc := 16) C lkF_RX3_36_3 hs1 ir_3_5 dX3_readComparison_16 ?_
    refine k_iconst (pc := 19) C (v := (1 : Int32)) dX3_readComparison_19 (by decide) ?_
    refine k_iadd (pc := 20) C dX3_readComparison_20 ?_
    obtain ⟨I5, eI5, h⟩ := lt_e h
    refine k_putI (pc := 21) C lkP_RX3_36_3 hs1 ir_3_5 dX3_readComparison_21 ?_
    rw [← eI5]
    refine k_aloadn (pc := 24) C dX3_readComparison_24 (i := 0) rfl 0 rfl ?_
    obtain ⟨r6, hr6, h⟩ := bd_e h
    refine k_V (pc := 25) (st := []) C (c_X3_peek hr6) lkV_RX3_42 hs1 rfl rfl rfl (Nat.le_of_ble_eq_true rfl) (Nat.le_of_ble_eq_true rfl) (Nat.le_of_ble_eq_true rfl) (Nat.le_of_ble_eq_true rfl) (Nat.le_of_ble_eq_true rfl) dX3_readComparison_25 ?_
    refine k_nf (cells2 := 0) (slots2 := 0) (st2 := [.int r6]) rfl rfl rfl ?_
    refine k_istoren (pc := 28) C dX3_readComparison_28 (i := 2) rfl (by decide) (L2 := [(0, .ref (E.1 + a0)), (1, .int r2), (2, .int r6)]) rfl ?_
    refine k_iloadn (pc := 29) C dX3_readComparison_29 (i := 2) rfl 2 rfl ?_
    refine k_sipush (pc := 30) C (v := (20060 : Int32)) dX3_readComparison_30 (by decide) ?_
    refine k_icmp_eq (pc := 33) C dX3_readComparison_33 (tgt := 52) (by decide) (fun hc7 => ?_) (fun hc7 => ?_)
    · rw [if_pos hc7] at h
      exact b_X3_readComparison_52 C hr hk  _ _ _ _ h
    · rw [if_neg hc7] at h
      refine k_iloadn (pc := 36) C dX3_readComparison_36 (i := 2) rfl 2 rfl ?_
      refine k_sipush (pc := 37) C (v := (20061 : Int32)) dX3_readComparison_37 (by decide) ?_
      refine k_icmp_eq (pc := 40) C dX3_readComparison_40 (tgt := 52) (by decide) (fun hc17 => ?_) (fun hc17 => ?_)
      · rw [if_pos hc17] at h
        exact b_X3_readComparison_52 C hr hk  _ _ _ _ h
      · rw [if_neg hc17] at h
        refine k_iloadn (pc := 43) C dX3_readComparison_43 (i := 2) rfl 2 rfl ?_
        refine k_sipush (pc := 44) C (v := (20062 : Int32)) dX3_readComparison_44 (by decide) ?_
        refine k_icmp_eq (pc := 47) C dX3_readComparison_47 (tgt := 52) (by decide) (fun hc18 => ?_) (fun hc18 => ?_)
        · rw [if_pos hc18] at h
          exact b_X3_readComparison_52 C hr hk  _ _ _ _ h
        · rw [if_neg hc18] at h
          refine k_iconst (pc := 50) C (v := (0 : Int32)) dX3_readComparison_50 (by decide) ?_
          have h := Option.some.inj h
          subst h
          exact k_zret (pc := 51) C hr hk (Or.inl rfl) dX3_readComparison_51
  · rw [if_pos hc4] at h
    refine k_iconst (pc := 12) C (v := (0 : Int32)) dX3_readComparison_12 (by decide) ?_
    have h := Option.some.inj h
    subst h
    exact k_zret (pc := 13) C hr hk (Or.inl rfl) dX3_readComparison_13
theorem c_X3_readComparison {E : Ev} {l : Launch} {S : Sh} {R : Rw} {I : Iw} {a0 : Nat} {r : Iw × Int32} (h : f_X3_readComparison S R I a0 = some r) : Mt E l yX3_readComparison cX3_readComparison 4 (some .boolean) 1 23 [.ref (E.1 + a0)] S R I S R r.1 (some (.int r.2)) 0 0 := mt_of (by decide) (Nat.le_of_ble_eq_true rfl) (fun p e s m args below meth c C hr hk hn => b_X3_readComparison C hr hk _ _ h)
