/-! X12_act, X12_trace, X12_many, X12_keep, X12_again -/
theorem lkP_RX12_347_12 : LkP RX12 347 12 32 .int := ⟨RX12, TX12, 34, "UnlikeNeighboursModel", fc12, by decide, (t5_in 113 (by decide +kernel) rfl), Or.inl rfl, rfl, by decide +kernel⟩
theorem dX12_act_0 : decode cX12_act 0 = .ok (.aload_n 0, 1) := by decide +kernel
theorem dX12_act_1 : decode cX12_act 1 = .ok (.iconst 0, 1) := by decide +kernel
theorem dX12_act_2 : decode cX12_act 2 = .ok (.putfield 344, 3) := by decide +kernel
theorem dX12_act_5 : decode cX12_act 5 = .ok (.iload_n 1, 1) := by decide +kernel
theorem dX12_act_6 : decode cX12_act 6 = .ok (.iconst 0, 1) := by decide +kernel
theorem dX12_act_7 : decode cX12_act 7 = .ok (.iconst 3, 1) := by decide +kernel
theorem dX12_act_8 : decode cX12_act 8 = .ok (.invokestatic 98, 3) := by decide +kernel
theorem dX12_act_11 : decode cX12_act 11 = .ok (.ifCond .eq 21, 3) := by decide +kernel
theorem dX12_act_14 : decode cX12_act 14 = .ok (.iload_n 2, 1) := by decide +kernel
theorem dX12_act_15 : decode cX12_act 15 = .ok (.iconst 0, 1) := by decide +kernel
theorem dX12_act_16 : decode cX12_act 16 = .ok (.iconst 3, 1) := by decide +kernel
theorem dX12_act_17 : decode cX12_act 17 = .ok (.invokestatic 98, 3) := by decide +kernel
theorem dX12_act_20 : decode cX12_act 20 = .ok (.ifCond .eq 12, 3) := by decide +kernel
theorem dX12_act_23 : decode cX12_act 23 = .ok (.aload_n 0, 1) := by decide +kernel
theorem dX12_act_24 : decode cX12_act 24 = .ok (.iload_n 1, 1) := by decide +kernel
theorem dX12_act_25 : decode cX12_act 25 = .ok (.invokevirtual 338, 3) := by decide +kernel
theorem dX12_act_28 : decode cX12_act 28 = .ok (.iconst 1, 1) := by decide +kernel
theorem dX12_act_29 : decode cX12_act 29 = .ok (.if_icmp .eq 5, 3) := by decide +kernel
theorem dX12_act_32 : decode cX12_act 32 = .ok (.iconst 0, 1) := by decide +kernel
theorem dX12_act_33 : decode cX12_act 33 = .ok (.ireturn, 1) := by decide +kernel
theorem dX12_act_34 : decode cX12_act 34 = .ok (.aload_n 0, 1) := by decide +kernel
theorem dX12_act_35 : decode cX12_act 35 = .ok (.aload_n 0, 1) := by decide +kernel
theorem dX12_act_36 : decode cX12_act 36 = .ok (.getfield 89, 3) := by decide +kernel
theorem dX12_act_39 : decode cX12_act 39 = .ok (.iload_n 1, 1) := by decide +kernel
theorem dX12_act_40 : decode cX12_act 40 = .ok (.iaload, 1) := by decide +kernel
theorem dX12_act_41 : decode cX12_act 41 = .ok (.putfield 347, 3) := by decide +kernel
theorem dX12_act_44 : decode cX12_act 44 = .ok (.aload_n 0, 1) := by decide +kernel
theorem dX12_act_45 : decode cX12_act 45 = .ok (.iconst 0, 1) := by decide +kernel
theorem dX12_act_46 : decode cX12_act 46 = .ok (.putfield 357, 3) := by decide +kernel
theorem dX12_act_49 : decode cX12_act 49 = .ok (.aload_n 0, 1) := by decide +kernel
theorem dX12_act_50 : decode cX12_act 50 = .ok (.iload_n 2, 1) := by decide +kernel
theorem dX12_act_51 : decode cX12_act 51 = .ok (.iload_n 3, 1) := by decide +kernel
theorem dX12_act_52 : decode cX12_act 52 = .ok (.invokevirtual 366, 3) := by decide +kernel
theorem dX12_act_55 : decode cX12_act 55 = .ok (.istore 4, 2) := by decide +kernel
theorem dX12_act_57 : decode cX12_act 57 = .ok (.aload_n 0, 1) := by decide +kernel
theorem dX12_act_58 : decode cX12_act 58 = .ok (.getfield 357, 3) := by decide +kernel
theorem dX12_act_61 : decode cX12_act 61 = .ok (.ifCond .eq 8, 3) := by decide +kernel
theorem dX12_act_64 : decode cX12_act 64 = .ok (.bipush (-15), 2) := by decide +kernel
theorem dX12_act_66 : decode cX12_act 66 = .ok (.goto 5, 3) := by decide +kernel
theorem dX12_act_69 : decode cX12_act 69 = .ok (.iload 4, 2) := by decide +kernel
theorem dX12_act_71 : decode cX12_act 71 = .ok (.ireturn, 1) := by decide +kernel
def f_X12_act (S : Sh) (R : Rw)  (I : Iw) (a0 : Nat) (x1 : Int32) (x2 : Int32) (x3 : Int32) : Option (Iw × Int32) := gp (sok S a0 12 34) (lt (up2 I a0 31 (0 : Int32)) (fun I2 => bd (f_X12_in S R I2 x1 (0 : Int32) (3 : Int32)) (fun r3 => (if r3 = 0 then some (I2, (0 : Int32)) else bd (f_X12_in S R I2 x2 (0 : Int32) (3 : Int32)) (fun r5 => (if r5 = 0 then some (I2, (0 : Int32)) else bd (f_X12_onShelf S R I2 a0 x1) (fun r7 => (if r7 = (1 : Int32) then rl (R a0 28) (fun b9 => gp (aok S 20 b9 x1) (lt (up2 I2 a0 32 (I2 b9 x1.toNatClampNeg)) (fun I11 => lt (up2 I11 a0 33 (0 : Int32)) (fun I12 => bd (f_X12_voiced (f_X12_body 14) S R I12 a0 x2 x3) (fun r13 => (if (r13.1 a0 33) = 0 then some (r13.1, r13.2) else some (r13.1, (-15 : Int32)))))))) else some (I2, (0 : Int32))))))))))
set_option maxHeartbeats 4000000 in
theorem b_X12_act {E : Ev} {p : Program} {l : Launch} {e : Env} {s : State} {m : MethodId} {args : Array Value} {below : List Frame} {meth : Method} {c : Code} (C : Cx E RX12 cX12_act 5 p s m c) (hr : meth.sig.returnType = (some .int)) (hk : meth.locks = false) {S : Sh} {R : Rw} {r : Iw × Int32}  : ∀ (I : Iw) (a0 : Nat) (x1 : Int32) (x2 : Int32) (x3 : Int32), f_X12_act S R   I a0 x1 x2 x3 = some r → Wk E 5 p l e ({ frames := 60, cells := 0, slots := 0, locals := 1290 } : Room) s m args below meth c 0 0 (MQ below (Qw E S R r.1 (some (.int r.2))) args s 0 0 (fun q => E.1 ≤ q)) 0 [(0, .ref (E.1 + a0)), (1, .int x1), (2, .int x2), (3, .int x3)] [] S R I := by
  intro I a0 x1 x2 x3 h
  rw [f_X12_act] at h
  refine k_aloadn (pc := 0) C dX12_act_0 (i := 0) rfl 0 rfl ?_
  refine k_iconst (pc := 1) C (v := (0 : Int32)) dX12_act_1 (by decide) ?_
  obtain ⟨hs10, h⟩ := gp_e h
  have hs1 := sok_e hs10
  obtain ⟨I2, eI2, h⟩ := lt_e h
  refine k_putI (pc := 2) C lkP_RX12_344_12 hs1 ir_12_31 dX12_act_2 ?_
  rw [← eI2]
  refine k_iloadn (pc := 5) C dX12_act_5 (i := 1) rfl 1 rfl ?_
  refine k_iconst (pc := 6) C (v := (0 : Int32)) dX12_act_6 (by decide) ?_
  refine k_iconst (pc := 7) C (v := (3 : Int32)) dX12_act_7 (by decide) ?_
  obtain ⟨r3, hr3, h⟩ := bd_e h
  refine k_S (pc := 8) (st := []) C (c_X12_in hr3) lkS_RX12_98 rfl rfl (Nat.le_of_ble_eq_true rfl) (Nat.le_of_ble_eq_true rfl) (Nat.le_of_ble_eq_true rfl) (Nat.le_of_ble_eq_true rfl) (Nat.le_of_ble_eq_true rfl) dX12_act_8 ?_
  refine k_nf (cells2 := 0) (slots2 := 0) (st2 := [.int r3]) rfl rfl rfl ?_
  refine k_if_eq (pc := 11) C dX12_act_11 (tgt := 32) (by decide) (fun hc4 => ?_) (fun hc4 => ?_)
  · rw [if_pos hc4] at h
    refine k_iconst (pc := 32) C (v := (0 : Int32)) dX12_act_32 (by decide) ?_
    have h := Option.some.inj h
    subst h
    exact k_iret (pc := 33) C hr hk dX12_act_33
  · rw [if_neg hc4] at h
    refine k_iloadn (pc := 14) C dX12_act_14 (i := 2) rfl 2 rfl ?_
    refine k_iconst (pc := 15) C (v := (0 : Int32)) dX12_act_15 (by decide) ?_
    refine k_iconst (pc := 16) C (v := (3 : Int32)) dX12_act_16 (by decide) ?_
    obtain ⟨r5, hr5, h⟩ := bd_e h
    refine k_S (pc := 17) (st := []) C (c_X12_in hr5) lkS_RX12_98 rfl rfl (Nat.le_of_ble_eq_true rfl) (Nat.le_of_ble_eq_true rfl) (Nat.le_of_ble_eq_true rfl) (Nat.le_of_ble_eq_true rfl) (Nat.le_of_ble_eq_true rfl) dX12_act_17 ?_
    refine k_nf (cells2 := 0) (slots2 := 0) (st2 := [.int r5]) rfl rfl rfl ?_
    refine k_if_eq (pc := 20) C dX12_act_20 (tgt := 32) (by decide) (fun hc6 => ?_) (fun hc6 => ?_)
    · rw [if_pos hc6] at h
      refine k_iconst (pc := 32) C (v := (0 : Int32)) dX12_act_32 (by decide) ?_
      have h := Option.some.inj h
      subst h
      exact k_iret (pc := 33) C hr hk dX12_act_33
    · rw [if_neg hc6] at h
      refine k_aloadn (pc := 23) C dX12_act_23 (i := 0) rfl 0 rfl ?_
      refine k_iloadn (pc := 24) C dX12_act_24 (i := 1) rfl 1 rfl ?_
      obtain ⟨r7, hr7, h⟩ := bd_e h
      refine k_V (pc := 25) (st := []) C (c_X12_onShelf hr7) lkV_RX12_338 hs1 rfl rfl rfl (Nat.le_of_ble_eq_true rfl) (Nat.le_of_ble_eq_true rfl) (Nat.le_of_ble_eq_true rfl) (Nat.le_of_ble_eq_true rfl) (Nat.le_of_ble_eq_true rfl) dX12_act_25 ?_
      refine k_nf (cells2 := 0) (slots2 := 0) (st2 := [.int r7]) rfl rfl rfl ?_
      refine k_iconst (pc := 28) C (v := (1 : Int32)) dX12_act_28 (by decide) ?_
      refine k_icmp_eq (pc := 29) C dX12_act_29 (tgt := 34) (by decide) (fun hc8 => ?_) (fun hc8 => ?_)
      · rw [if_pos hc8] at h
        refine k_aloadn (pc := 34) C dX12_act_34 (i := 0) rfl 0 rfl ?_
        refine k_aloadn (pc := 35) C dX12_act_35 (i := 0) rfl 0 rfl ?_
        obtain ⟨b9, hb9, h⟩ := rl_e h
        refine k_getR (pc := 36) C lkF_RX12_89_12 hs1 ir_12_28 hb9 dX12_act_36 ?_
        refine k_iloadn (pc := 39) C dX12_act_39 (i := 1) rfl 1 rfl ?_
        obtain ⟨ha10, h⟩ := gp_e h
        refine k_iald (pc := 40) C ha10 dX12_act_40 ?_
        obtain ⟨I11, eI11, h⟩ := lt_e h
        refine k_putI (pc := 41) C lkP_RX12_347_12 hs1 ir_12_32 dX12_act_41 ?_
        rw [← eI11]
        refine k_aloadn (pc := 44) C dX12_act_44 (i := 0) rfl 0 rfl ?_
        refine k_iconst (pc := 45) C (v := (0 : Int32)) dX12_act_45 (by decide) ?_
        obtain ⟨I12, eI12, h⟩ := lt_e h
        refine k_putZ (pc := 46) C lkP_RX12_357_12 hs1 ir_12_33 (Or.inl rfl) dX12_act_46 ?_
        rw [← eI12]
        refine k_aloadn (pc := 49) C dX12_act_49 (i := 0) rfl 0 rfl ?_
        refine k_iloadn (pc := 50) C dX12_act_50 (i := 2) rfl 2 rfl ?_
        refine k_iloadn (pc := 51) C dX12_act_51 (i := 3) rfl 3 rfl ?_
        obtain ⟨r13, hr13, h⟩ := bd_e h
        refine k_V (pc := 52) (st := []) C (c_X12_voiced (c_X12_body_g 14) hr13) lkV_RX12_366 hs1 rfl rfl rfl (Nat.le_of_ble_eq_true rfl) (Nat.le_of_ble_eq_true rfl) (Nat.le_of_ble_eq_true rfl) (Nat.le_of_ble_eq_true rfl) (Nat.le_of_ble_eq_true rfl) dX12_act_52 ?_
        refine k_nf (cells2 := 0) (slots2 := 0) (st2 := [.int r13.2]) rfl rfl rfl ?_
        refine k_istore (pc := 55) C dX12_act_55 (by decide) (L2 := [(0, .ref (E.1 + a0)), (1, .int x1), (2, .int x2), (3, .int x3), (4, .int r13.2)]) rfl ?_
        refine k_aloadn (pc := 57) C dX12_act_57 (i := 0) rfl 0 rfl ?_
        refine k_getI (pc := 58) C lkF_RX12_357_12 hs1 ir_12_33 dX12_act_58 ?_
        refine k_if_eq (pc := 61) C dX12_act_61 (tgt := 69) (by decide) (fun hc14 => ?_) (fun hc14 => ?_)
        · rw [if_pos hc14] at h
          refine k_iload (pc := 69) C dX12_act_69 4 rfl ?_
          have h := Option.some.inj h
          subst h
          exact k_iret (pc := 71) C hr hk dX12_act_71
        · rw [if_neg hc14] at h
          refine k_bipush (pc := 64) C (v := (-15 : Int32)) dX12_act_64 (by decide) ?_
          refine k_goto (pc := 66) C dX12_act_66 (tgt := 71) (by decide) ?_
          have h := Option.some.inj h
          subst h
          exact k_iret (pc := 71) C hr hk dX12_act_71
      · rw [if_neg hc8] at h
        refine k_iconst (pc := 32) C (v := (0 : Int32)) dX12_act_32 (by decide) ?_
        have h := Option.some.inj h
        subst h
        exact k_iret (pc := 33) C hr hk dX12_act_33
theorem c_X12_act {E : Ev} {l : Launch} {S : Sh} {R : Rw} {I : Iw} {a0 : Nat} {x1 : Int32} {x2 : Int32} {x3 : Int32} {r : Iw × Int32} (h : f_X12_act S R I a0 x1 x2 x3 = some r) : Mt E l yX12_act cX12_act 5 (some .int) 60 1290 [.ref (E.1 + a0), .int x1, .int x2, .int x3] S R I S R r.1 (some (.int r.2)) 0 0 := mt_of (by decide) (Nat.le_of_ble_eq_true rfl) (fun p e s m args below meth c C hr hk hn => b_X12_act C hr hk _ _ _ _ _ h)
theorem dX12_trace_0 : decode cX12_trace 0 = .ok (.iload_n 1, 1) := by decide +kernel
theorem dX12_trace_1 : decode cX12_trace 1 = .ok (.iconst 0, 1) := by decide +kernel
theorem dX12_trace_2 : decode cX12_trace 2 = .ok (.aload_n 0, 1) := by decide +kernel
theorem dX12_trace_3 : decode cX12_trace 3 = .ok (.getfield 344, 3) := by decide +kernel
theorem dX12_trace_6 : decode cX12_trace 6 = .ok (.iconst 1, 1) := by decide +kernel
theorem dX12_trace_7 : decode cX12_trace 7 = .ok (.isub, 1) := by decide +kernel
theorem dX12_trace_8 : decode cX12_trace 8 = .ok (.invokestatic 98, 3) := by decide +kernel
theorem dX12_trace_11 : decode cX12_trace 11 = .ok (.ifCond .eq 12, 3) := by decide +kernel
theorem dX12_trace_14 : decode cX12_trace 14 = .ok (.aload_n 0, 1) := by decide +kernel
theorem dX12_trace_15 : decode cX12_trace 15 = .ok (.getfield 95, 3) := by decide +kernel
theorem dX12_trace_18 : decode cX12_trace 18 = .ok (.iload_n 1, 1) := by decide +kernel
theorem dX12_trace_19 : decode cX12_trace 19 = .ok (.iaload, 1) := by decide +kernel
theorem dX12_trace_20 : decode cX12_trace 20 = .ok (.goto 5, 3) := by decide +kernel
theorem dX12_trace_23 : decode cX12_trace 23 = .ok (.bipush (-3), 2) := by decide +kernel
theorem dX12_trace_25 : decode cX12_trace 25 = .ok (.ireturn, 1) := by decide +kernel
def f_X12_trace (S : Sh) (R : Rw) (I : Iw)  (a0 : Nat) (x1 : Int32) : Option (Int32) := gp (sok S a0 12 34) (bd (f_X12_in S R I x1 (0 : Int32) ((I a0 31) - (1 : Int32))) (fun r2 => (if r2 = 0 then some (-3 : Int32) else rl (R a0 30) (fun b4 => gp (aok S 20 b4 x1) (some (I b4 x1.toNatClampNeg))))))
set_option maxHeartbeats 4000000 in
theorem b_X12_trace {E : Ev} {p : Program} {l : Launch} {e : Env} {s : State} {m : MethodId} {args : Array Value} {below : List Frame} {meth : Method} {c : Code} (C : Cx E RX12 cX12_trace 2 p s m c) (hr : meth.sig.returnType = (some .int)) (hk : meth.locks = false) {S : Sh} {R : Rw} {I : Iw} {r : Int32}  : ∀ (a0 : Nat) (x1 : Int32), f_X12_trace S R I   a0 x1 = some r → Wk E 2 p l e ({ frames := 1, cells := 0, slots := 0, locals := 22 } : Room) s m args below meth c 0 0 (MQ below (Qw E S R I (some (.int r))) args s 0 0 (fun q => E.1 ≤ q)) 0 [(0, .ref (E.1 + a0)), (1, .int x1)] [] S R I := by
  intro a0 x1 h
  rw [f_X12_trace] at h
  refine k_iloadn (pc := 0) C dX12_trace_0 (i := 1) rfl 1 rfl ?_
  refine k_iconst (pc := 1) C (v := (0 : Int32)) dX12_trace_1 (by decide) ?_
  refine k_aloadn (pc := 2) C dX12_trace_2 (i := 0) rfl 0 rfl ?_
  obtain ⟨hs10, h⟩ := gp_e h
  have hs1 := sok_e hs10
  refine k_getI (pc := 3) C lkF_RX12_344_12 hs1 ir_12_31 dX12_trace_3 ?_
  refine k_iconst (pc := 6) C (v := (1 : Int32)) dX12_trace_6 (by decide) ?_
  refine k_isub (pc := 7) C dX12_trace_7 ?_
  obtain ⟨r2, hr2, h⟩ := bd_e h
  refine k_S (pc := 8) (st := []) C (c_X12_in hr2) lkS_RX12_98 rfl rfl (Nat.le_of_ble_eq_true rfl) (Nat.le_of_ble_eq_true rfl) (Nat.le_of_ble_eq_true rfl) (Nat.le_of_ble_eq_true rfl) (Nat.le_of_ble_eq_true rfl) dX12_trace_8 ?_
  refine k_nf (cells2 := 0) (slots2 := 0) (st2 := [.int r2]) rfl rfl rfl ?_
  refine k_if_eq (pc := 11) C dX12_trace_11 (tgt := 23) (by decide) (fun hc3 => ?_) (fun hc3 => ?_)
  · rw [if_pos hc3] at h
    refine k_bipush (pc := 23) C (v := (-3 : Int32)) dX12_trace_23 (by decide) ?_
    have h := Option.some.inj h
    subst h
    exact k_iret (pc := 25) C hr hk dX12_trace_25
  · rw [if_neg hc3] at h
    refine k_aloadn (pc := 14) C dX12_trace_14 (i := 0) rfl 0 rfl ?_
    obtain ⟨b4, hb4, h⟩ := rl_e h
    refine k_getR (pc := 15) C lkF_RX12_95_12 hs1 ir_12_30 hb4 dX12_trace_15 ?_
    refine k_iloadn (pc := 18) C dX12_trace_18 (i := 1) rfl 1 rfl ?_
    obtain ⟨ha5, h⟩ := gp_e h
    refine k_iald (pc := 19) C ha5 dX12_trace_19 ?_
    refine k_goto (pc := 20) C dX12_trace_20 (tgt := 25) (by decide) ?_
    have h := Option.some.inj h
    subst h
    exact k_iret (pc := 25) C hr hk dX12_trace_25
theorem c_X12_trace {E : Ev} {l : Launch} {S : Sh} {R : Rw} {I : Iw} {a0 : Nat} {x1 : Int32} {r : Int32} (h : f_X12_trace S R I a0 x1 = some r) : Mt E l yX12_trace cX12_trace 2 (some .int) 1 22 [.ref (E.1 + a0), .int x1] S R I S R I (some (.int r)) 0 0 := mt_of (by decide) (Nat.le_of_ble_eq_true rfl) (fun p e s m args below meth c C hr hk hn => b_X12_trace C hr hk _ _ h)
theorem dX12_many_0 : decode cX12_many 0 = .ok (.iload_n 1, 1) := by decide +kernel
theorem dX12_many_1 : decode cX12_many 1 = .ok (.tableswitch 67 0 6 #[43, 43, 43, 43, 52, 57, 62], 43) := by decide +kernel
theorem dX12_many_44 : decode cX12_many 44 = .ok (.aload_n 0, 1) := by decide +kernel
theorem dX12_many_45 : decode cX12_many 45 = .ok (.getfield 9, 3) := by decide +kernel
theorem dX12_many_48 : decode cX12_many 48 = .ok (.iconst 3, 1) := by decide +kernel
theorem dX12_many_49 : decode cX12_many 49 = .ok (.iload_n 1, 1) := by decide +kernel
theorem dX12_many_50 : decode cX12_many 50 = .ok (.iadd, 1) := by decide +kernel
theorem dX12_many_51 : decode cX12_many 51 = .ok (.iaload, 1) := by decide +kernel
theorem dX12_many_52 : decode cX12_many 52 = .ok (.ireturn, 1) := by decide +kernel
theorem dX12_many_53 : decode cX12_many 53 = .ok (.aload_n 0, 1) := by decide +kernel
theorem dX12_many_54 : decode cX12_many 54 = .ok (.getfield 323, 3) := by decide +kernel
theorem dX12_many_57 : decode cX12_many 57 = .ok (.ireturn, 1) := by decide +kernel
theorem dX12_many_58 : decode cX12_many 58 = .ok (.aload_n 0, 1) := by decide +kernel
theorem dX12_many_59 : decode cX12_many 59 = .ok (.getfield 106, 3) := by decide +kernel
theorem dX12_many_62 : decode cX12_many 62 = .ok (.ireturn, 1) := by decide +kernel
theorem dX12_many_63 : decode cX12_many 63 = .ok (.aload_n 0, 1) := by decide +kernel
theorem dX12_many_64 : decode cX12_many 64 = .ok (.getfield 344, 3) := by decide +kernel
theorem dX12_many_67 : decode cX12_many 67 = .ok (.ireturn, 1) := by decide +kernel
theorem dX12_many_68 : decode cX12_many 68 = .ok (.iconst (-1), 1) := by decide +kernel
theorem dX12_many_69 : decode cX12_many 69 = .ok (.ireturn, 1) := by decide +kernel
def f_X12_many (S : Sh) (R : Rw) (I : Iw)  (a0 : Nat) (x1 : Int32) : Option (Int32) := (if x1 = (0 : Int32) then gp (sok S a0 12 34) (rl (R a0 0) (fun b2 => gp (aok S 20 b2 ((3 : Int32) + x1)) (some (I b2 ((3 : Int32) + x1).toNatClampNeg)))) else (if x1 = (1 : Int32) then gp (sok S a0 12 34) (rl (R a0 0) (fun b5 => gp (aok S 20 b5 ((3 : Int32) + x1)) (some (I b5 ((3 : Int32) + x1).toNatClampNeg)))) else (if x1 = (2 : Int32) then gp (sok S a0 12 34) (rl (R a0 0) (fun b8 => gp (aok S 20 b8 ((3 : Int32) + x1)) (some (I b8 ((3 : Int32) + x1).toNatClampNeg)))) else (if x1 = (3 : Int32) then gp (sok S a0 12 34) (rl (R a0 0) (fun b11 => gp (aok S 20 b11 ((3 : Int32) + x1)) (some (I b11 ((3 : Int32) + x1).toNatClampNeg)))) else (if x1 = (4 : Int32) then gp (sok S a0 12 34) (some (I a0 23)) else (if x1 = (5 : Int32) then gp (sok S a0 12 34) (some (I a0 5)) else (if x1 = (6 : Int32) then gp (sok S a0 12 34) (some (I a0 31)) else some (-1 : Int32))))))))
set_option maxHeartbeats 4000000 in
theorem b_X12_many {E : Ev} {p : Program} {l : Launch} {e : Env} {s : State} {m : MethodId} {args : Array Value} {below : List Frame} {meth : Method} {c : Code} (C : Cx E RX12 cX12_many 2 p s m c) (hr : meth.sig.returnType = (some .int)) (hk : meth.locks = false) {S : Sh} {R : Rw} {I : Iw} {r : Int32}  : ∀ (a0 : Nat) (x1 : Int32), f_X12_many S R I   a0 x1 = some r → Wk E 2 p l e ({ frames := 0, cells := 0, slots := 0, locals := 0 } : Room) s m args below meth c 0 0 (MQ below (Qw E S R I (some (.int r))) args s 0 0 (fun q => E.1 ≤ q)) 0 [(0, .ref (E.1 + a0)), (1, .int x1)] [] S R I := by
  intro a0 x1 h
  rw [f_X12_many] at h
  refine k_iloadn (pc := 0) C dX12_many_0 (i := 1) rfl 1 rfl ?_
  by_cases hc16 : x1 = (0 : Int32)
  · rw [if_pos hc16] at h
    refine k_tabIn (pc := 1) C dX12_many_1 (by rw [hc16]; decide) (by rw [hc16]; decide) (off := 43) (by rw [hc16]; rfl) (tgt := 44) (by decide) ?_
    refine k_aloadn (pc := 44) C dX12_many_44 (i := 0) rfl 0 rfl ?_
    obtain ⟨hs10, h⟩ := gp_e h
    have hs1 := sok_e hs10
    obtain ⟨b2, hb2, h⟩ := rl_e h
    refine k_getR (pc := 45) C lkF_RX12_9_12 hs1 ir_12_0 hb2 dX12_many_45 ?_
    refine k_iconst (pc := 48) C (v := (3 : Int32)) dX12_many_48 (by decide) ?_
    refine k_iloadn (pc := 49) C dX12_many_49 (i := 1) rfl 1 rfl ?_
    refine k_iadd (pc := 50) C dX12_many_50 ?_
    obtain ⟨ha3, h⟩ := gp_e h
    refine k_iald (pc := 51) C ha3 dX12_many_51 ?_
    have h := Option.some.inj h
    subst h
    exact k_iret (pc := 52) C hr hk dX12_many_52
  · rw [if_neg hc16] at h
    by_cases hc17 : x1 = (1 : Int32)
    · rw [if_pos hc17] at h
      refine k_tabIn (pc := 1) C dX12_many_1 (by rw [hc17]; decide) (by rw [hc17]; decide) (off := 43) (by rw [hc17]; rfl) (tgt := 44) (by decide) ?_
      refine k_aloadn (pc := 44) C dX12_many_44 (i := 0) rfl 0 rfl ?_
      obtain ⟨hs40, h⟩ := gp_e h
      have hs4 := sok_e hs40
      obtain ⟨b5, hb5, h⟩ := rl_e h
      refine k_getR (pc := 45) C lkF_RX12_9_12 hs4 ir_12_0 hb5 dX12_many_45 ?_
      refine k_iconst (pc := 48) C (v := (3 : Int32)) dX12_many_48 (by decide) ?_
      refine k_iloadn (pc := 49) C dX12_many_49 (i := 1) rfl 1 rfl ?_
      refine k_iadd (pc := 50) C dX12_many_50 ?_
      obtain ⟨ha6, h⟩ := gp_e h
      refine k_iald (pc := 51) C ha6 dX12_many_51 ?_
      have h := Option.some.inj h
      subst h
      exact k_iret (pc := 52) C hr hk dX12_many_52
    · rw [if_neg hc17] at h
      by_cases hc18 : x1 = (2 : Int32)
      · rw [if_pos hc18] at h
        refine k_tabIn (pc := 1) C dX12_many_1 (by rw [hc18]; decide) (by rw [hc18]; decide) (off := 43) (by rw [hc18]; rfl) (tgt := 44) (by decide) ?_
        refine k_aloadn (pc := 44) C dX12_many_44 (i := 0) rfl 0 rfl ?_
        obtain ⟨hs70, h⟩ := gp_e h
        have hs7 := sok_e hs70
        obtain ⟨b8, hb8, h⟩ := rl_e h
        refine k_getR (pc := 45) C lkF_RX12_9_12 hs7 ir_12_0 hb8 dX12_many_45 ?_
        refine k_iconst (pc := 48) C (v := (3 : Int32)) dX12_many_48 (by decide) ?_
        refine k_iloadn (pc := 49) C dX12_many_49 (i := 1) rfl 1 rfl ?_
        refine k_iadd (pc := 50) C dX12_many_50 ?_
        obtain ⟨ha9, h⟩ := gp_e h
        refine k_iald (pc := 51) C ha9 dX12_many_51 ?_
        have h := Option.some.inj h
        subst h
        exact k_iret (pc := 52) C hr hk dX12_many_52
      · rw [if_neg hc18] at h
        by_cases hc19 : x1 = (3 : Int32)
        · rw [if_pos hc19] at h
          refine k_tabIn (pc := 1) C dX12_many_1 (by rw [hc19]; decide) (by rw [hc19]; decide) (off := 43) (by rw [hc19]; rfl) (tgt := 44) (by decide) ?_
          refine k_aloadn (pc := 44) C dX12_many_44 (i := 0) rfl 0 rfl ?_
          obtain ⟨hs100, h⟩ := gp_e h
          have hs10 := sok_e hs100
          obtain ⟨b11, hb11, h⟩ := rl_e h
          refine k_getR (pc := 45) C lkF_RX12_9_12 hs10 ir_12_0 hb11 dX12_many_45 ?_
          refine k_iconst (pc := 48) C (v := (3 : Int32)) dX12_many_48 (by decide) ?_
          refine k_iloadn (pc := 49) C dX12_many_49 (i := 1) rfl 1 rfl ?_
          refine k_iadd (pc := 50) C dX12_many_50 ?_
          obtain ⟨ha12, h⟩ := gp_e h
          refine k_iald (pc := 51) C ha12 dX12_many_51 ?_
          have h := Option.some.inj h
          subst h
          exact k_iret (pc := 52) C hr hk dX12_many_52
        · rw [if_neg hc19] at h
          by_cases hc20 : x1 = (4 : Int32)
          · rw [if_pos hc20] at h
            refine k_tabIn (pc := 1) C dX12_many_1 (by rw [hc20]; decide) (by rw [hc20]; decide) (off := 52) (by rw [hc20]; rfl) (tgt := 53) (by decide) ?_
            refine k_aloadn (pc := 53) C dX12_many_53 (i := 0) rfl 0 rfl ?_
            obtain ⟨hs130, h⟩ := gp_e h
            have hs13 := sok_e hs130
            refine k_getI (pc := 54) C lkF_RX12_323_12 hs13 ir_12_23 dX12_many_54 ?_
            have h := Option.some.inj h
            subst h
            exact k_iret (pc := 57) C hr hk dX12_many_57
          · rw [if_neg hc20] at h
            by_cases hc21 : x1 = (5 : Int32)
            · rw [if_pos hc21] at h
              refine k_tabIn (pc := 1) C dX12_many_1 (by rw [hc21]; decide) (by rw [hc21]; decide) (off := 57) (by rw [hc21]; rfl) (tgt := 58) (by decide) ?_
              refine k_aloadn (pc := 58) C dX12_many_58 (i := 0) rfl 0 rfl ?_
              obtain ⟨hs140, h⟩ := gp_e h
              have hs14 := sok_e hs140
              refine k_getI (pc := 59) C lkF_RX12_106_12 hs14 ir_12_5 dX12_many_59 ?_
              have h := Option.some.inj h
              subst h
              exact k_iret (pc := 62) C hr hk dX12_many_62
            · rw [if_neg hc21] at h
              by_cases hc22 : x1 = (6 : Int32)
              · rw [if_pos hc22] at h
                refine k_tabIn (pc := 1) C dX12_many_1 (by rw [hc22]; decide) (by rw [hc22]; decide) (off := 62) (by rw [hc22]; rfl) (tgt := 63) (by decide) ?_
                refine k_aloadn (pc := 63) C dX12_many_63 (i := 0) rfl 0 rfl ?_
                obtain ⟨hs150, h⟩ := gp_e h
                have hs15 := sok_e hs150
                refine k_getI (pc := 64) C lkF_RX12_344_12 hs15 ir_12_31 dX12_many_64 ?_
                have h := Option.some.inj h
                subst h
                exact k_iret (pc := 67) C hr hk dX12_many_67
              · rw [if_neg hc22] at h
                refine k_tabOut (pc := 1) C dX12_many_1 (tab_out x1 0 6 (fun z h1 h2 hz => by
                  have hz2 : z = 0 ∨ z = 1 ∨ z = 2 ∨ z = 3 ∨ z = 4 ∨ z = 5 ∨ z = 6 := by omega
                  rcases hz2 with rfl | rfl | rfl | rfl | rfl | rfl | rfl
                  · exact hc16 (Int32.toInt_inj.mp (hz.trans (by decide)))
                  · exact hc17 (Int32.toInt_inj.mp (hz.trans (by decide)))
                  · exact hc18 (Int32.toInt_inj.mp (hz.trans (by decide)))
                  · exact hc19 (Int32.toInt_inj.mp (hz.trans (by decide)))
                  · exact hc20 (Int32.toInt_inj.mp (hz.trans (by decide)))
                  · exact hc21 (Int32.toInt_inj.mp (hz.trans (by decide)))
                  · exact hc22 (Int32.toInt_inj.mp (hz.trans (by decide)))
                  ) ) (tgt := 68) (by decide) ?_
                refine k_iconst (pc := 68) C (v := (-1 : Int32)) dX12_many_68 (by decide) ?_
                have h := Option.some.inj h
                subst h
                exact k_iret (pc := 69) C hr hk dX12_many_69
theorem c_X12_many {E : Ev} {l : Launch} {S : Sh} {R : Rw} {I : Iw} {a0 : Nat} {x1 : Int32} {r : Int32} (h : f_X12_many S R I a0 x1 = some r) : Mt E l yX12_many cX12_many 2 (some .int) 0 0 [.ref (E.1 + a0), .int x1] S R I S R I (some (.int r)) 0 0 := mt_of (by decide) (Nat.le_of_ble_eq_true rfl) (fun p e s m args below meth c C hr hk hn => b_X12_many C hr hk _ _ h)
theorem lkF_RX12_13_12 : LkF RX12 13 12 1 := ⟨RX12, TX12, 34, "UnlikeNeighboursModel", fc12, by decide, (t5_in 82 (by decide +kernel) rfl), Or.inl rfl⟩
theorem lkP_RX12_369_12 : LkP RX12 369 12 3 .boolean := ⟨RX12, TX12, 34, "UnlikeNeighboursModel", fc12, by decide, (t5_in 84 (by decide +kernel) rfl), Or.inl rfl, rfl, by decide +kernel⟩
theorem dX12_keep_0 : decode cX12_keep 0 = .ok (.aload_n 0, 1) := by decide +kernel
theorem dX12_keep_1 : decode cX12_keep 1 = .ok (.getfield 9, 3) := by decide +kernel
theorem dX12_keep_4 : decode cX12_keep 4 = .ok (.aload_n 0, 1) := by decide +kernel
theorem dX12_keep_5 : decode cX12_keep 5 = .ok (.getfield 13, 3) := by decide +kernel
theorem dX12_keep_8 : decode cX12_keep 8 = .ok (.invokestatic 102, 3) := by decide +kernel
theorem dX12_keep_11 : decode cX12_keep 11 = .ok (.aload_n 0, 1) := by decide +kernel
theorem dX12_keep_12 : decode cX12_keep 12 = .ok (.iconst 1, 1) := by decide +kernel
theorem dX12_keep_13 : decode cX12_keep 13 = .ok (.putfield 369, 3) := by decide +kernel
theorem dX12_keep_16 : decode cX12_keep 16 = .ok (.iconst 1, 1) := by decide +kernel
theorem dX12_keep_17 : decode cX12_keep 17 = .ok (.ireturn, 1) := by decide +kernel
def f_X12_keep (S : Sh) (R : Rw)  (I : Iw) (a0 : Nat) : Option (Iw × Int32) := gp (sok S a0 12 34) (rl (R a0 0) (fun b2 => rl (R a0 1) (fun b3 => bd (f_X12_copy S R I b2 b3) (fun r4 => lt (up2 r4 a0 3 (1 : Int32)) (fun I5 => some (I5, (1 : Int32)))))))
set_option maxHeartbeats 4000000 in
theorem b_X12_keep {E : Ev} {p : Program} {l : Launch} {e : Env} {s : State} {m : MethodId} {args : Array Value} {below : List Frame} {meth : Method} {c : Code} (C : Cx E RX12 cX12_keep 1 p s m c) (hr : meth.sig.returnType = (some .int)) (hk : meth.locks = false) {S : Sh} {R : Rw} {r : Iw × Int32}  : ∀ (I : Iw) (a0 : Nat), f_X12_keep S R   I a0 = some r → Wk E 1 p l e ({ frames := 1, cells := 0, slots := 0, locals := 22 } : Room) s m args below meth c 0 0 (MQ below (Qw E S R r.1 (some (.int r.2))) args s 0 0 (fun q => E.1 ≤ q)) 0 [(0, .ref (E.1 + a0))] [] S R I := by
  intro I a0 h
  rw [f_X12_keep] at h
  refine k_aloadn (pc := 0) C dX12_keep_0 (i := 0) rfl 0 rfl ?_
  obtain ⟨hs10, h⟩ := gp_e h
  have hs1 := sok_e hs10
  obtain ⟨b2, hb2, h⟩ := rl_e h
  refine k_getR (pc := 1) C lkF_RX12_9_12 hs1 ir_12_0 hb2 dX12_keep_1 ?_
  refine k_aloadn (pc := 4) C dX12_keep_4 (i := 0) rfl 0 rfl ?_
  obtain ⟨b3, hb3, h⟩ := rl_e h
  refine k_getR (pc := 5) C lkF_RX12_13_12 hs1 ir_12_1 hb3 dX12_keep_5 ?_
  obtain ⟨r4, hr4, h⟩ := bd_e h
  refine k_S (pc := 8) (st := []) C (c_X12_copy hr4) lkS_RX12_102 rfl rfl (Nat.le_of_ble_eq_true rfl) (Nat.le_of_ble_eq_true rfl) (Nat.le_of_ble_eq_true rfl) (Nat.le_of_ble_eq_true rfl) (Nat.le_of_ble_eq_true rfl) dX12_keep_8 ?_
  refine k_nf (cells2 := 0) (slots2 := 0) (st2 := []) rfl rfl rfl ?_
  refine k_aloadn (pc := 11) C dX12_keep_11 (i := 0) rfl 0 rfl ?_
  refine k_iconst (pc := 12) C (v := (1 : Int32)) dX12_keep_12 (by decide) ?_
  obtain ⟨I5, eI5, h⟩ := lt_e h
  refine k_putZ (pc := 13) C lkP_RX12_369_12 hs1 ir_12_3 (Or.inr rfl) dX12_keep_13 ?_
  rw [← eI5]
  refine k_iconst (pc := 16) C (v := (1 : Int32)) dX12_keep_16 (by decide) ?_
  have h := Option.some.inj h
  subst h
  exact k_iret (pc := 17) C hr hk dX12_keep_17
theorem c_X12_keep {E : Ev} {l : Launch} {S : Sh} {R : Rw} {I : Iw} {a0 : Nat} {r : Iw × Int32} (h : f_X12_keep S R I a0 = some r) : Mt E l yX12_keep cX12_keep 1 (some .int) 1 22 [.ref (E.1 + a0)] S R I S R r.1 (some (.int r.2)) 0 0 := mt_of (by decide) (Nat.le_of_ble_eq_true rfl) (fun p e s m args below meth c C hr hk hn => b_X12_keep C hr hk _ _ h)
theorem lkF_RX12_369_12 : LkF RX12 369 12 3 := ⟨RX12, TX12, 34, "UnlikeNeighboursModel", fc12, by decide, (t5_in 84 (by decide +kernel) rfl), Or.inl rfl⟩
theorem dX12_again_0 : decode cX12_again 0 = .ok (.aload_n 0, 1) := by decide +kernel
theorem dX12_again_1 : decode cX12_again 1 = .ok (.getfield 369, 3) := by decide +kernel
theorem dX12_again_4 : decode cX12_again 4 = .ok (.ifCond .ne 6, 3) := by decide +kernel
theorem dX12_again_7 : decode cX12_again 7 = .ok (.bipush (-3), 2) := by decide +kernel
theorem dX12_again_9 : decode cX12_again 9 = .ok (.ireturn, 1) := by decide +kernel
theorem dX12_again_10 : decode cX12_again 10 = .ok (.aload_n 0, 1) := by decide +kernel
theorem dX12_again_11 : decode cX12_again 11 = .ok (.getfield 13, 3) := by decide +kernel
theorem dX12_again_14 : decode cX12_again 14 = .ok (.aload_n 0, 1) := by decide +kernel
theorem dX12_again_15 : decode cX12_again 15 = .ok (.getfield 9, 3) := by decide +kernel
theorem dX12_again_18 : decode cX12_again 18 = .ok (.invokestatic 102, 3) := by decide +kernel
theorem dX12_again_21 : decode cX12_again 21 = .ok (.aload_n 0, 1) := by decide +kernel
theorem dX12_again_22 : decode cX12_again 22 = .ok (.getfield 9, 3) := by decide +kernel
theorem dX12_again_25 : decode cX12_again 25 = .ok (.iconst 3, 1) := by decide +kernel
theorem dX12_again_26 : decode cX12_again 26 = .ok (.iaload, 1) := by decide +kernel
theorem dX12_again_27 : decode cX12_again 27 = .ok (.ireturn, 1) := by decide +kernel
def f_X12_again (S : Sh) (R : Rw)  (I : Iw) (a0 : Nat) : Option (Iw × Int32) := gp (sok S a0 12 34) ((if (I a0 3) = 0 then some (I, (-3 : Int32)) else rl (R a0 1) (fun b3 => rl (R a0 0) (fun b4 => bd (f_X12_copy S R I b3 b4) (fun r5 => rl (R a0 0) (fun b6 => gp (aok S 20 b6 (3 : Int32)) (some (r5, r5 b6 (3 : Int32).toNatClampNeg))))))))
set_option maxHeartbeats 4000000 in
theorem b_X12_again {E : Ev} {p : Program} {l : Launch} {e : Env} {s : State} {m : MethodId} {args : Array Value} {below : List Frame} {meth : Method} {c : Code} (C : Cx E RX12 cX12_again 1 p s m c) (hr : meth.sig.returnType = (some .int)) (hk : meth.locks = false) {S : Sh} {R : Rw} {r : Iw × Int32}  : ∀ (I : Iw) (a0 : Nat), f_X12_again S R   I a0 = some r → Wk E 1 p l e ({ frames := 1, cells := 0, slots := 0, locals := 22 } : Room) s m args below meth c 0 0 (MQ below (Qw E S R r.1 (some (.int r.2))) args s 0 0 (fun q => E.1 ≤ q)) 0 [(0, .ref (E.1 + a0))] [] S R I := by
  intro I a0 h
  rw [f_X12_again] at h
  refine k_aloadn (pc := 0) C dX12_again_0 (i := 0) rfl 0 rfl ?_
  obtain ⟨hs10, h⟩ := gp_e h
  have hs1 := sok_e hs10
  refine k_getI (pc := 1) C lkF_RX12_369_12 hs1 ir_12_3 dX12_again_1 ?_
  refine k_if_ne (pc := 4) C dX12_again_4 (tgt := 10) (by decide) (fun hc2 => ?_) (fun hc2 => ?_)
  · rw [if_neg hc2] at h
    refine k_aloadn (pc := 10) C dX12_again_10 (i := 0) rfl 0 rfl ?_
    obtain ⟨b3, hb3, h⟩ := rl_e h
    refine k_getR (pc := 11) C lkF_RX12_13_12 hs1 ir_12_1 hb3 dX12_again_11 ?_
    refine k_aloadn (pc := 14) C dX12_again_14 (i := 0) rfl 0 rfl ?_
    obtain ⟨b4, hb4, h⟩ := rl_e h
    refine k_getR (pc := 15) C lkF_RX12_9_12 hs1 ir_12_0 hb4 dX12_again_15 ?_
    obtain ⟨r5, hr5, h⟩ := bd_e h
    refine k_S (pc := 18) (st := []) C (c_X12_copy hr5) lkS_RX12_102 rfl rfl (Nat.le_of_ble_eq_true rfl) (Nat.le_of_ble_eq_true rfl) (Nat.le_of_ble_eq_true rfl) (Nat.le_of_ble_eq_true rfl) (Nat.le_of_ble_eq_true rfl) dX12_again_18 ?_
    refine k_nf (cells2 := 0) (slots2 := 0) (st2 := []) rfl rfl rfl ?_
    refine k_aloadn (pc := 21) C dX12_again_21 (i := 0) rfl 0 rfl ?_
    obtain ⟨b6, hb6, h⟩ := rl_e h
    refine k_getR (pc := 22) C lkF_RX12_9_12 hs1 ir_12_0 hb6 dX12_again_22 ?_
    refine k_iconst (pc := 25) C (v := (3 : Int32)) dX12_again_25 (by decide) ?_
    obtain ⟨ha7, h⟩ := gp_e h
    refine k_iald (pc := 26) C ha7 dX12_again_26 ?_
    have h := Option.some.inj h
    subst h
    exact k_iret (pc := 27) C hr hk dX12_again_27
  · rw [if_pos hc2] at h
    refine k_bipush (pc := 7) C (v := (-3 : Int32)) dX12_again_7 (by decide) ?_
    have h := Option.some.inj h
    subst h
    exact k_iret (pc := 9) C hr hk dX12_again_9
theorem c_X12_again {E : Ev} {l : Launch} {S : Sh} {R : Rw} {I : Iw} {a0 : Nat} {r : Iw × Int32} (h : f_X12_again S R I a0 = some r) : Mt E l yX12_again cX12_again 1 (some .int) 1 22 [.ref (E.1 + a0)] S R I S R r.1 (some (.int r.2)) 0 0 := mt_of (by decide) (Nat.le_of_ble_eq_true rfl) (fun p e s m args below meth c C hr hk hn => b_X12_again C hr hk _ _ h)
