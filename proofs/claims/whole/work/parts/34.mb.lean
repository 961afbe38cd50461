/-! X12_isSign, X12_must, X12_tells, X12_all, X12_condition, X12_value, X12_one -/
theorem dX12_isSign_0 : decode cX12_isSign 0 = .ok (.aload_n 0, 1) := by decide +kernel
theorem dX12_isSign_1 : decode cX12_isSign 1 = .ok (.getfield 122, 3) := by decide +kernel
theorem dX12_isSign_4 : decode cX12_isSign 4 = .ok (.iconst 3, 1) := by decide +kernel
theorem dX12_isSign_5 : decode cX12_isSign 5 = .ok (.if_icmp .ne 20, 3) := by decide +kernel
theorem dX12_isSign_8 : decode cX12_isSign 8 = .ok (.aload_n 0, 1) := by decide +kernel
theorem dX12_isSign_9 : decode cX12_isSign 9 = .ok (.getfield 19, 3) := by decide +kernel
theorem dX12_isSign_12 : decode cX12_isSign 12 = .ok (.aload_n 0, 1) := by decide +kernel
theorem dX12_isSign_13 : decode cX12_isSign 13 = .ok (.getfield 115, 3) := by decide +kernel
theorem dX12_isSign_16 : decode cX12_isSign 16 = .ok (.iaload, 1) := by decide +kernel
theorem dX12_isSign_17 : decode cX12_isSign 17 = .ok (.iload_n 1, 1) := by decide +kernel
theorem dX12_isSign_18 : decode cX12_isSign 18 = .ok (.if_icmp .ne 7, 3) := by decide +kernel
theorem dX12_isSign_21 : decode cX12_isSign 21 = .ok (.iconst 1, 1) := by decide +kernel
theorem dX12_isSign_22 : decode cX12_isSign 22 = .ok (.goto 4, 3) := by decide +kernel
theorem dX12_isSign_25 : decode cX12_isSign 25 = .ok (.iconst 0, 1) := by decide +kernel
theorem dX12_isSign_26 : decode cX12_isSign 26 = .ok (.ireturn, 1) := by decide +kernel
def f_X12_isSign (S : Sh) (R : Rw) (I : Iw)  (a0 : Nat) (x1 : Int32) : Option (Int32) := gp (sok S a0 12 34) ((if (I a0 8) = (3 : Int32) then rl (R a0 4) (fun b3 => gp (aok S 20 b3 (I a0 6)) ((if (I b3 (I a0 6).toNatClampNeg) = x1 then some (1 : Int32) else some (0 : Int32)))) else some (0 : Int32)))
set_option maxHeartbeats 4000000 in
theorem b_X12_isSign {E : Ev} {p : Program} {l : Launch} {e : Env} {s : State} {m : MethodId} {args : Array Value} {below : List Frame} {meth : Method} {c : Code} (C : Cx E RX12 cX12_isSign 2 p s m c) (hr : meth.sig.returnType = (some .boolean)) (hk : meth.locks = false) {S : Sh} {R : Rw} {I : Iw} {r : Int32}  : ∀ (a0 : Nat) (x1 : Int32), f_X12_isSign S R I   a0 x1 = some r → Wk E 2 p l e ({ frames := 0, cells := 0, slots := 0, locals := 0 } : Room) s m args below meth c 0 0 (MQ below (Qw E S R I (some (.int r))) args s 0 0 (fun q => E.1 ≤ q)) 0 [(0, .ref (E.1 + a0)), (1, .int x1)] [] S R I := by
  intro a0 x1 h
  rw [f_X12_isSign] at h
  refine k_aloadn (pc := 0) C dX12_isSign_0 (i := 0) rfl 0 rfl ?_
  obtain ⟨hs10, h⟩ := gp_e h
  have hs1 := sok_e hs10
  refine k_getI (pc := 1) C lkF_RX12_122_12 hs1 ir_12_8 dX12_isSign_1 ?_
  refine k_iconst (pc := 4) C (v := (3 : Int32)) dX12_isSign_4 (by decide) ?_
  refine k_icmp_ne (pc := 5) C dX12_isSign_5 (tgt := 25) (by decide) (fun hc2 => ?_) (fun hc2 => ?_)
  · rw [if_neg hc2] at h
    refine k_iconst (pc := 25) C (v := (0 : Int32)) dX12_isSign_25 (by decide) ?_
    have h := Option.some.inj h
    subst h
    exact k_zret (pc := 26) C hr hk (Or.inl rfl) dX12_isSign_26
  · rw [if_pos hc2] at h
    refine k_aloadn (pc := 8) C dX12_isSign_8 (i := 0) rfl 0 rfl ?_
    obtain ⟨b3, hb3, h⟩ := rl_e h
    refine k_getR (pc := 9) C lkF_RX12_19_12 hs1 ir_12_4 hb3 dX12_isSign_9 ?_
    refine k_aloadn (pc := 12) C dX12_isSign_12 (i := 0) rfl 0 rfl ?_
    refine k_getI (pc := 13) C lkF_RX12_115_12 hs1 ir_12_6 dX12_isSign_13 ?_
    obtain ⟨ha4, h⟩ := gp_e h
    refine k_iald (pc := 16) C ha4 dX12_isSign_16 ?_
    refine k_iloadn (pc := 17) C dX12_isSign_17 (i := 1) rfl 1 rfl ?_
    refine k_icmp_ne (pc := 18) C dX12_isSign_18 (tgt := 25) (by decide) (fun hc5 => ?_) (fun hc5 => ?_)
    · rw [if_neg hc5] at h
      refine k_iconst (pc := 25) C (v := (0 : Int32)) dX12_isSign_25 (by decide) ?_
      have h := Option.some.inj h
      subst h
      exact k_zret (pc := 26) C hr hk (Or.inl rfl) dX12_isSign_26
    · rw [if_pos hc5] at h
      refine k_iconst (pc := 21) C (v := (1 : Int32)) dX12_isSign_21 (by decide) ?_
      refine k_goto (pc := 22) C dX12_isSign_22 (tgt := 26) (by decide) ?_
      have h := Option.some.inj h
      subst h
      exact k_zret (pc := 26) C hr hk (Or.inr rfl) dX12_isSign_26
theorem c_X12_isSign {E : Ev} {l : Launch} {S : Sh} {R : Rw} {I : Iw} {a0 : Nat} {x1 : Int32} {r : Int32} (h : f_X12_isSign S R I a0 x1 = some r) : Mt E l yX12_isSign cX12_isSign 2 (some .boolean) 0 0 [.ref (E.1 + a0), .int x1] S R I S R I (some (.int r)) 0 0 := mt_of (by decide) (Nat.le_of_ble_eq_true rfl) (fun p e s m args below meth c C hr hk hn => b_X12_isSign C hr hk _ _ h)
theorem lkF_RX12_140_12 : LkF RX12 140 12 9 := ⟨RX12, TX12, 34, "UnlikeNeighboursModel", fc12, by decide, (t5_in 90 (by decide +kernel) rfl), Or.inl rfl⟩
theorem lkP_RX12_140_12 : LkP RX12 140 12 9 .boolean := ⟨RX12, TX12, 34, "UnlikeNeighboursModel", fc12, by decide, (t5_in 90 (by decide +kernel) rfl), Or.inl rfl, rfl, by decide +kernel⟩
theorem lkV_RX12_144 : LkV RX12 144 RX12 yX12_next cX12_next 2 none 0 := ⟨(t5_in 196 (by decide +kernel) rfl), (t5_in 198 (by decide +kernel) rfl), (t0_in 28 (by decide +kernel) rfl), (t5_in 199 (by decide +kernel) rfl), (t1_in 7 (by decide +kernel) rfl), by decide, by decide +kernel⟩
theorem dX12_must_0 : decode cX12_must 0 = .ok (.aload_n 0, 1) := by decide +kernel
theorem dX12_must_1 : decode cX12_must 1 = .ok (.aload_n 0, 1) := by decide +kernel
theorem dX12_must_2 : decode cX12_must 2 = .ok (.getfield 140, 3) := by decide +kernel
theorem dX12_must_5 : decode cX12_must 5 = .ok (.ifCond .ne 7, 3) := by decide +kernel
theorem dX12_must_8 : decode cX12_must 8 = .ok (.iload_n 1, 1) := by decide +kernel
theorem dX12_must_9 : decode cX12_must 9 = .ok (.ifCond .ne 7, 3) := by decide +kernel
theorem dX12_must_12 : decode cX12_must 12 = .ok (.iconst 1, 1) := by decide +kernel
theorem dX12_must_13 : decode cX12_must 13 = .ok (.goto 4, 3) := by decide +kernel
theorem dX12_must_16 : decode cX12_must 16 = .ok (.iconst 0, 1) := by decide +kernel
theorem dX12_must_17 : decode cX12_must 17 = .ok (.putfield 140, 3) := by decide +kernel
theorem dX12_must_20 : decode cX12_must 20 = .ok (.aload_n 0, 1) := by decide +kernel
theorem dX12_must_21 : decode cX12_must 21 = .ok (.getfield 140, 3) := by decide +kernel
theorem dX12_must_24 : decode cX12_must 24 = .ok (.ifCond .ne 7, 3) := by decide +kernel
theorem dX12_must_27 : decode cX12_must 27 = .ok (.aload_n 0, 1) := by decide +kernel
theorem dX12_must_28 : decode cX12_must 28 = .ok (.invokevirtual 144, 3) := by decide +kernel
theorem dX12_must_31 : decode cX12_must 31 = .ok (.return_, 1) := by decide +kernel
def f_X12_must_17 (S : Sh) (R : Rw)  (I : Iw) (a0 : Nat) (s0 : Int32) (q1 : Nat) : Option (Iw) := gp (sok S q1 12 34) (gp (zok s0) (lt (up2 I q1 9 s0) (fun I5 => gp (sok S a0 12 34) ((if (I5 a0 9) = 0 then bd (f_X12_next S R I5 a0) (fun r8 => some r8) else some I5)))))
set_option maxHeartbeats 4000000 in
theorem b_X12_must_17 {E : Ev} {p : Program} {l : Launch} {e : Env} {s : State} {m : MethodId} {args : Array Value} {below : List Frame} {meth : Method} {c : Code} (C : Cx E RX12 cX12_must 2 p s m c) (hr : meth.sig.returnType = none) (hk : meth.locks = false) {S : Sh} {R : Rw} {r : Iw}  : ∀ (I : Iw) (a0 : Nat) (s0 : Int32) (q1 : Nat), f_X12_must_17 S R   I a0 s0 q1 = some r → Wk E 2 p l e ({ frames := 3, cells := 0, slots := 0, locals := 63 } : Room) s m args below meth c 0 0 (MQ below (Qw E S R r none) args s 0 0 (fun q => E.1 ≤ q)) 17 [(0, .ref (E.1 + a0))] [.int s0, .ref (E.1 + q1)] S R I := by
  intro I a0 s0 q1 h
  rw [f_X12_must_17] at h
  obtain ⟨hs30, h⟩ := gp_e h
  have hs3 := sok_e hs30
  obtain ⟨hz4, h⟩ := gp_e h
  obtain ⟨I5, eI5, h⟩ := lt_e h
  refine k_putZ (pc := 17) C lkP_RX12_140_12 hs3 ir_12_9 (of_decide_eq_true hz4) dX12_must_17 ?_
  rw [← eI5]
  refine k_aloadn (pc := 20) C dX12_must_20 (i := 0) rfl 0 rfl ?_
  obtain ⟨hs60, h⟩ := gp_e h
  have hs6 := sok_e hs60
  refine k_getI (pc := 21) C lkF_RX12_140_12 hs6 ir_12_9 dX12_must_21 ?_
  refine k_if_ne (pc := 24) C dX12_must_24 (tgt := 31) (by decide) (fun hc7 => ?_) (fun hc7 => ?_)
  · rw [if_neg hc7] at h
    have h := Option.some.inj h
    subst h
    exact k_vret (pc := 31) C hr hk dX12_must_31
  · rw [if_pos hc7] at h
    refine k_aloadn (pc := 27) C dX12_must_27 (i := 0) rfl 0 rfl ?_
    obtain ⟨r8, hr8, h⟩ := bd_e h
    refine k_V (pc := 28) (st := []) C (c_X12_next hr8) lkV_RX12_144 hs6 rfl rfl rfl (Nat.le_of_ble_eq_true rfl) (Nat.le_of_ble_eq_true rfl) (Nat.le_of_ble_eq_true rfl) (Nat.le_of_ble_eq_true rfl) (Nat.le_of_ble_eq_true rfl) dX12_must_28 ?_
    refine k_nf (cells2 := 0) (slots2 := 0) (st2 := []) rfl rfl rfl ?_
    have h := Option.some.inj h
    subst h
    exact k_vret (pc := 31) C hr hk dX12_must_31
def f_X12_must_12 (S : Sh) (R : Rw)  (I : Iw) (a0 : Nat) (q0 : Nat) : Option (Iw) := f_X12_must_17 S R  I a0 (1 : Int32) q0
set_option maxHeartbeats 4000000 in
theorem b_X12_must_12 {E : Ev} {p : Program} {l : Launch} {e : Env} {s : State} {m : MethodId} {args : Array Value} {below : List Frame} {meth : Method} {c : Code} (C : Cx E RX12 cX12_must 2 p s m c) (hr : meth.sig.returnType = none) (hk : meth.locks = false) {S : Sh} {R : Rw} {r : Iw}  : ∀ (I : Iw) (a0 : Nat) (q0 : Nat), f_X12_must_12 S R   I a0 q0 = some r → Wk E 2 p l e ({ frames := 3, cells := 0, slots := 0, locals := 63 } : Room) s m args below meth c 0 0 (MQ below (Qw E S R r none) args s 0 0 (fun q => E.1 ≤ q)) 12 [(0, .ref (E.1 + a0))] [.ref (E.1 + q0)] S R I := by
  intro I a0 q0 h
  rw [f_X12_must_12] at h
  refine k_iconst (pc := 12) C (v := (1 : Int32)) dX12_must_12 (by decide) ?_
  refine k_goto (pc := 13) C dX12_must_13 (tgt := 17) (by decide) ?_
  exact b_X12_must_17 C hr hk  _ _ _ _ h
def f_X12_must (S : Sh) (R : Rw)  (I : Iw) (a0 : Nat) (x1 : Int32) : Option (Iw) := gp (sok S a0 12 34) ((if (I a0 9) = 0 then (if x1 = 0 then f_X12_must_12 S R  I a0 a0 else f_X12_must_17 S R  I a0 (0 : Int32) a0) else f_X12_must_12 S R  I a0 a0))
set_option maxHeartbeats 4000000 in
theorem b_X12_must {E : Ev} {p : Program} {l : Launch} {e : Env} {s : State} {m : MethodId} {args : Array Value} {below : List Frame} {meth : Method} {c : Code} (C : Cx E RX12 cX12_must 2 p s m c) (hr : meth.sig.returnType = none) (hk : meth.locks = false) {S : Sh} {R : Rw} {r : Iw}  : ∀ (I : Iw) (a0 : Nat) (x1 : Int32), f_X12_must S R   I a0 x1 = some r → Wk E 2 p l e ({ frames := 3, cells := 0, slots := 0, locals := 63 } : Room) s m args below meth c 0 0 (MQ below (Qw E S R r none) args s 0 0 (fun q => E.1 ≤ q)) 0 [(0, .ref (E.1 + a0)), (1, .int x1)] [] S R I := by
  intro I a0 x1 h
  rw [f_X12_must] at h
  refine k_aloadn (pc := 0) C dX12_must_0 (i := 0) rfl 0 rfl ?_
  refine k_aloadn (pc := 1) C dX12_must_1 (i := 0) rfl 0 rfl ?_
  obtain ⟨hs10, h⟩ := gp_e h
  have hs1 := sok_e hs10
  refine k_getI (pc := 2) C lkF_RX12_140_12 hs1 ir_12_9 dX12_must_2 ?_
  refine k_if_ne (pc := 5) C dX12_must_5 (tgt := 12) (by decide) (fun hc2 => ?_) (fun hc2 => ?_)
  · rw [if_neg hc2] at h
    refine k_loc (L2 := [(0, .ref (E.1 + a0))]) [0] rfl ?_
    exact b_X12_must_12 C hr hk  _ _ _ h
  · rw [if_pos hc2] at h
    refine k_iloadn (pc := 8) C dX12_must_8 (i := 1) rfl 1 rfl ?_
    refine k_if_ne (pc := 9) C dX12_must_9 (tgt := 16) (by decide) (fun hc9 => ?_) (fun hc9 => ?_)
    · rw [if_neg hc9] at h
      refine k_iconst (pc := 16) C (v := (0 : Int32)) dX12_must_16 (by decide) ?_
      refine k_loc (L2 := [(0, .ref (E.1 + a0))]) [0] rfl ?_
      exact b_X12_must_17 C hr hk  _ _ _ _ h
    · rw [if_pos hc9] at h
      refine k_loc (L2 := [(0, .ref (E.1 + a0))]) [0] rfl ?_
      exact b_X12_must_12 C hr hk  _ _ _ h
theorem c_X12_must {E : Ev} {l : Launch} {S : Sh} {R : Rw} {I : Iw} {a0 : Nat} {x1 : Int32} {r : Iw} (h : f_X12_must S R I a0 x1 = some r) : Mt E l yX12_must cX12_must 2 none 3 63 [.ref (E.1 + a0), .int x1] S R I S R r none 0 0 := mt_of (by decide) (Nat.le_of_ble_eq_true rfl) (fun p e s m args below meth c C hr hk hn => b_X12_must C hr hk _ _ _ h)
theorem lkF_RX12_22_12 : LkF RX12 22 12 11 := ⟨RX12, TX12, 34, "UnlikeNeighboursModel", fc12, by decide, (t5_in 92 (by decide +kernel) rfl), Or.inl rfl⟩
theorem lkF_RX12_147_12 : LkF RX12 147 12 12 := ⟨RX12, TX12, 34, "UnlikeNeighboursModel", fc12, by decide, (t5_in 93 (by decide +kernel) rfl), Or.inl rfl⟩
theorem lkP_RX12_147_12 : LkP RX12 147 12 12 .int := ⟨RX12, TX12, 34, "UnlikeNeighboursModel", fc12, by decide, (t5_in 93 (by decide +kernel) rfl), Or.inl rfl, rfl, by decide +kernel⟩
theorem dX12_tells_0 : decode cX12_tells 0 = .ok (.aload_n 0, 1) := by decide +kernel
theorem dX12_tells_1 : decode cX12_tells 1 = .ok (.getfield 140, 3) := by decide +kernel
theorem dX12_tells_4 : decode cX12_tells 4 = .ok (.ifCond .ne 23, 3) := by decide +kernel
theorem dX12_tells_7 : decode cX12_tells 7 = .ok (.aload_n 0, 1) := by decide +kernel
theorem dX12_tells_8 : decode cX12_tells 8 = .ok (.getfield 22, 3) := by decide +kernel
theorem dX12_tells_11 : decode cX12_tells 11 = .ok (.aload_n 0, 1) := by decide +kernel
theorem dX12_tells_12 : decode cX12_tells 12 = .ok (.getfield 147, 3) := by decide +kernel
theorem dX12_tells_15 : decode cX12_tells 15 = .ok (.iload_n 1, 1) := by decide +kernel
theorem dX12_tells_16 : decode cX12_tells 16 = .ok (.iastore, 1) := by decide +kernel
theorem dX12_tells_17 : decode cX12_tells 17 = .ok (.aload_n 0, 1) := by decide +kernel
theorem dX12_tells_18 : decode cX12_tells 18 = .ok (.dup, 1) := by decide +kernel
theorem dX12_tells_19 : decode cX12_tells 19 = .ok (.getfield 147, 3) := by decide +kernel
theorem dX12_tells_22 : decode cX12_tells 22 = .ok (.iconst 1, 1) := by decide +kernel
theorem dX12_tells_23 : decode cX12_tells 23 = .ok (.iadd, 1) := by decide +kernel
theorem dX12_tells_24 : decode cX12_tells 24 = .ok (.putfield 147, 3) := by decide +kernel
theorem dX12_tells_27 : decode cX12_tells 27 = .ok (.return_, 1) := by decide +kernel
def f_X12_tells (S : Sh) (R : Rw)  (I : Iw) (a0 : Nat) (x1 : Int32) : Option (Iw) := gp (sok S a0 12 34) ((if (I a0 9) = 0 then rl (R a0 11) (fun b3 => gp (aok S 20 b3 (I a0 12)) (lt (up2 I b3 (I a0 12).toNatClampNeg x1) (fun I5 => lt (up2 I5 a0 12 ((I5 a0 12) + (1 : Int32))) (fun I6 => some I6)))) else some I))
set_option maxHeartbeats 4000000 in
theorem b_X12_tells {E : Ev} {p : Program} {l : Launch} {e : Env} {s : State} {m : MethodId} {args : Array Value} {below : List Frame} {meth : Method} {c : Code} (C : Cx E RX12 cX12_tells 2 p s m c) (hr : meth.sig.returnType = none) (hk : meth.locks = false) {S : Sh} {R : Rw} {r : Iw}  : ∀ (I : Iw) (a0 : Nat) (x1 : Int32), f_X12_tells S R   I a0 x1 = some r → Wk E 2 p l e ({ frames := 0, cells := 0, slots := 0, locals := 0 } : Room) s m args below meth c 0 0 (MQ below (Qw E S R r none) args s 0 0 (fun q => E.1 ≤ q)) 0 [(0, .ref (E.1 + a0)), (1, .int x1)] [] S R I := by
  intro I a0 x1 h
  rw [f_X12_tells] at h
  refine k_aloadn (pc := 0) C dX12_tells_0 (i := 0) rfl 0 rfl ?_
  obtain ⟨hs10, h⟩ := gp_e h
  have hs1 := sok_e hs10
  refine k_getI (pc := 1) C lkF_RX12_140_12 hs1 ir_12_9 dX12_tells_1 ?_
  refine k_if_ne (pc := 4) C dX12_tells_4 (tgt := 27) (by decide) (fun hc2 => ?_) (fun hc2 => ?_)
  · rw [if_neg hc2] at h
    have h := Option.some.inj h
    subst h
    exact k_vret (pc := 27) C hr hk dX12_tells_27
  · rw [if_pos hc2] at h
    refine k_aloadn (pc := 7) C dX12_tells_7 (i := 0) rfl 0 rfl ?_
    obtain ⟨b3, hb3, h⟩ := rl_e h
    refine k_getR (pc := 8) C lkF_RX12_22_12 hs1 ir_12_11 hb3 dX12_tells_8 ?_
    refine k_aloadn (pc := 11) C dX12_tells_11 (i := 0) rfl 0 rfl ?_
    refine k_getI (pc := 12) C lkF_RX12_147_12 hs1 ir_12_12 dX12_tells_12 ?_
    refine k_iloadn (pc := 15) C dX12_tells_15 (i := 1) rfl 1 rfl ?_
    obtain ⟨ha4, h⟩ := gp_e h
    obtain ⟨I5, eI5, h⟩ := lt_e h
    refine k_iast (pc := 16) C ha4 dX12_tells_16 ?_
    rw [← eI5]
    refine k_aloadn (pc := 17) C dX12_tells_17 (i := 0) rfl 0 rfl ?_
    refine k_dup (pc := 18) C dX12_tells_18 rfl ?_
    refine k_getI (pc := 19) C lkF_RX12_147_12 hs1 ir_12_12 dX12_tells_19 ?_
    refine k_iconst (pc := 22) C (v := (1 : Int32)) dX12_tells_22 (by decide) ?_
    refine k_iadd (pc := 23) C dX12_tells_23 ?_
    obtain ⟨I6, eI6, h⟩ := lt_e h
    refine k_putI (pc := 24) C lkP_RX12_147_12 hs1 ir_12_12 dX12_tells_24 ?_
    rw [← eI6]
    have h := Option.some.inj h
    subst h
    exact k_vret (pc := 27) C hr hk dX12_tells_27
theorem c_X12_tells {E : Ev} {l : Launch} {S : Sh} {R : Rw} {I : Iw} {a0 : Nat} {x1 : Int32} {r : Iw} (h : f_X12_tells S R I a0 x1 = some r) : Mt E l yX12_tells cX12_tells 2 none 0 0 [.ref (E.1 + a0), .int x1] S R I S R r none 0 0 := mt_of (by decide) (Nat.le_of_ble_eq_true rfl) (fun p e s m args below meth c C hr hk hn => b_X12_tells C hr hk _ _ _ h)
theorem lkV_RX12_167 : LkV RX12 167 RX12 yX12_one cX12_one 2 none 0 := ⟨(t5_in 234 (by decide +kernel) rfl), (t5_in 236 (by decide +kernel) rfl), (t0_in 35 (by decide +kernel) rfl), (t5_in 237 (by decide +kernel) rfl), (t1_in 7 (by decide +kernel) rfl), by decide, by decide +kernel⟩
theorem lkV_RX12_155 : LkV RX12 155 RX12 yX12_isWord cX12_isWord 4 (some .boolean) 1 := ⟨(t5_in 214 (by decide +kernel) rfl), (t5_in 216 (by decide +kernel) rfl), (t0_in 31 (by decide +kernel) rfl), (t5_in 217 (by decide +kernel) rfl), (t1_in 7 (by decide +kernel) rfl), by decide, by decide +kernel⟩
theorem lkV_RX12_159 : LkV RX12 159 RX12 yX12_must cX12_must 2 none 1 := ⟨(t5_in 220 (by decide +kernel) rfl), (t5_in 222 (by decide +kernel) rfl), (t0_in 32 (by decide +kernel) rfl), (t5_in 223 (by decide +kernel) rfl), (t1_in 7 (by decide +kernel) rfl), by decide, by decide +kernel⟩
theorem lkV_RX12_163 : LkV RX12 163 RX12 yX12_tells cX12_tells 2 none 1 := ⟨(t5_in 239 (by decide +kernel) rfl), (t6_in 1 (by decide +kernel) rfl), (t0_in 36 (by decide +kernel) rfl), (t6_in 2 (by decide +kernel) rfl), (t1_in 7 (by decide +kernel) rfl), by decide, by decide +kernel⟩
theorem dX12_all_0 : decode cX12_all 0 = .ok (.aload_n 0, 1) := by decide +kernel
theorem dX12_all_1 : decode cX12_all 1 = .ok (.invokevirtual 167, 3) := by decide +kernel
theorem dX12_all_4 : decode cX12_all 4 = .ok (.aload_n 0, 1) := by decide +kernel
theorem dX12_all_5 : decode cX12_all 5 = .ok (.getfield 140, 3) := by decide +kernel
theorem dX12_all_8 : decode cX12_all 8 = .ok (.ifCond .ne 31, 3) := by decide +kernel
theorem dX12_all_11 : decode cX12_all 11 = .ok (.aload_n 0, 1) := by decide +kernel
theorem dX12_all_12 : decode cX12_all 12 = .ok (.ldc 170, 2) := by decide +kernel
theorem dX12_all_14 : decode cX12_all 14 = .ok (.invokevirtual 155, 3) := by decide +kernel
theorem dX12_all_17 : decode cX12_all 17 = .ok (.ifCond .eq 22, 3) := by decide +kernel
theorem dX12_all_20 : decode cX12_all 20 = .ok (.aload_n 0, 1) := by decide +kernel
theorem dX12_all_21 : decode cX12_all 21 = .ok (.iconst 1, 1) := by decide +kernel
theorem dX12_all_22 : decode cX12_all 22 = .ok (.invokevirtual 159, 3) := by decide +kernel
theorem dX12_all_25 : decode cX12_all 25 = .ok (.aload_n 0, 1) := by decide +kernel
theorem dX12_all_26 : decode cX12_all 26 = .ok (.invokevirtual 167, 3) := by decide +kernel
theorem dX12_all_29 : decode cX12_all 29 = .ok (.aload_n 0, 1) := by decide +kernel
theorem dX12_all_30 : decode cX12_all 30 = .ok (.sipush 20001, 3) := by decide +kernel
theorem dX12_all_33 : decode cX12_all 33 = .ok (.invokevirtual 163, 3) := by decide +kernel
theorem dX12_all_36 : decode cX12_all 36 = .ok (.goto (-32), 3) := by decide +kernel
theorem dX12_all_39 : decode cX12_all 39 = .ok (.return_, 1) := by decide +kernel
def f_X12_all_4 (g : Sh → Rw → Iw → Nat → Option (Iw)) (S : Sh) (R : Rw)  : Nat → Iw → Nat → Option (Iw)
  | 0, _, _ => none
  | n + 1, I, a0 => gp (sok S a0 12 34) ((if (I a0 9) = 0 then bd (f_X12_isWord S R I a0 14) (fun r5 => (if r5 = 0 then some I else bd (f_X12_must S R I a0 (1 : Int32)) (fun r7 => bd (g S R r7 a0) (fun r8 => bd (f_X12_tells S R r8 a0 (20001 : Int32)) (fun r9 => f_X12_all_4 g S R  n r9 a0))))) else some I))
set_option maxHeartbeats 4000000 in
theorem b_X12_all_4 {E : Ev} {p : Program} {l : Launch} {e : Env} {s : State} {m : MethodId} {args : Array Value} {below : List Frame} {meth : Method} {c : Code} {dF dL : Nat} (C : Cx E RX12 cX12_all 1 p s m c) (hr : meth.sig.returnType = none) (hk : meth.locks = false) {S : Sh} {R : Rw} {r : Iw} {g : Sh → Rw → Iw → Nat → Option (Iw)} (hg : ∀ (S : Sh) (R : Rw) (I : Iw) (a0 : Nat) (r : Iw), g S R I a0 = some r → Mt E l yX12_one cX12_one 2 none dF dL [.ref (E.1 + a0)] S R I S R r none 0 0) : ∀ (n : Nat) (I : Iw) (a0 : Nat), f_X12_all_4 g S R  n I a0 = some r → Wk E 1 p l e ({ frames := dF + 7, cells := 0, slots := 0, locals := dL + 223 } : Room) s m args below meth c 0 0 (MQ below (Qw E S R r none) args s 0 0 (fun q => E.1 ≤ q)) 4 [(0, .ref (E.1 + a0))] [] S R I := by
  intro n
  induction n with
  | zero =>
    intro I a0 h
    rw [f_X12_all_4] at h
    cases h
  | succ n ih =>
    intro I a0 h
    rw [f_X12_all_4] at h
    refine k_aloadn (pc := 4) C dX12_all_4 (i := 0) rfl 0 rfl ?_
    obtain ⟨hs30, h⟩ := gp_e h
    have hs3 := sok_e hs30
    refine k_getI (pc := 5) C lkF_RX12_140_12 hs3 ir_12_9 dX12_all_5 ?_
    refine k_if_ne (pc := 8) C dX12_all_8 (tgt := 39) (by decide) (fun hc4 => ?_) (fun hc4 => ?_)
    · rw [if_neg hc4] at h
      have h := Option.some.inj h
      subst h
      exact k_vret (pc := 39) C hr hk dX12_all_39
    · rw [if_pos hc4] at h
      refine k_aloadn (pc := 11) C dX12_all_11 (i := 0) rfl 0 rfl ?_
      refine k_ldcS (pc := 12) C (i := 14) rfl dX12_all_12 ?_
      obtain ⟨r5, hr5, h⟩ := bd_e h
      refine k_V (pc := 14) (st := []) C (c_X12_isWord hr5) lkV_RX12_155 hs3 rfl rfl rfl (Nat.le_of_ble_eq_true rfl) (by show 6 + 1 ≤ dF + 7; omega) (by show 8 + (4 + 11) + 200 ≤ dL + 223; omega) (Nat.le_of_ble_eq_true rfl) (Nat.le_of_ble_eq_true rfl) dX12_all_14 ?_
      refine k_nf (cells2 := 0) (slots2 := 0) (st2 := [.int r5]) rfl rfl rfl ?_
      refine k_if_eq (pc := 17) C dX12_all_17 (tgt := 39) (by decide) (fun hc6 => ?_) (fun hc6 => ?_)
      · rw [if_pos hc6] at h
        have h := Option.some.inj h
        subst h
        exact k_vret (pc := 39) C hr hk dX12_all_39
      · rw [if_neg hc6] at h
        refine k_aloadn (pc := 20) C dX12_all_20 (i := 0) rfl 0 rfl ?_
        refine k_iconst (pc := 21) C (v := (1 : Int32)) dX12_all_21 (by decide) ?_
        obtain ⟨r7, hr7, h⟩ := bd_e h
        refine k_V (pc := 22) (st := []) C (c_X12_must hr7) lkV_RX12_159 hs3 rfl rfl rfl (Nat.le_of_ble_eq_true rfl) (by show 3 + 1 ≤ dF + 7; omega) (by show 8 + (2 + 11) + 63 ≤ dL + 223; omega) (Nat.le_of_ble_eq_true rfl) (Nat.le_of_ble_eq_true rfl) dX12_all_22 ?_
        refine k_nf (cells2 := 0) (slots2 := 0) (st2 := []) rfl rfl rfl ?_
        refine k_aloadn (pc := 25) C dX12_all_25 (i := 0) rfl 0 rfl ?_
        obtain ⟨r8, hr8, h⟩ := bd_e h
        refine k_V (pc := 26) (st := []) C (hg _ _ _ _ _ hr8) lkV_RX12_167 hs3 rfl rfl rfl (Nat.le_of_ble_eq_true rfl) (by show dF + 1 ≤ dF + 7; omega) (by show 8 + (2 + 11) + dL ≤ dL + 223; omega) (Nat.le_of_ble_eq_true rfl) (Nat.le_of_ble_eq_true rfl) dX12_all_26 ?_
        refine k_nf (cells2 := 0) (slots2 := 0) (st2 := []) rfl rfl rfl ?_
        refine k_aloadn (pc := 29) C dX12_all_29 (i := 0) rfl 0 rfl ?_
        refine k_sipush (pc := 30) C (v := (20001 : Int32)) dX12_all_30 (by decide) ?_
        obtain ⟨r9, hr9, h⟩ := bd_e h
        refine k_V (pc := 33) (st := []) C (c_X12_tells hr9) lkV_RX12_163 hs3 rfl rfl rfl (Nat.le_of_ble_eq_true rfl) (by show 0 + 1 ≤ dF + 7; omega) (by show 8 + (2 + 11) + 0 ≤ dL + 223; omega) (Nat.le_of_ble_eq_true rfl) (Nat.le_of_ble_eq_true rfl) dX12_all_33 ?_
        refine k_nf (cells2 := 0) (slots2 := 0) (st2 := []) rfl rfl rfl ?_
        refine k_goto (pc := 36) C dX12_all_36 (tgt := 4) (by decide) ?_
        exact ih _ _ h
def f_X12_all (g : Sh → Rw → Iw → Nat → Option (Iw)) (S : Sh) (R : Rw)  (I : Iw) (a0 : Nat) : Option (Iw) := gp (sok S a0 12 34) (bd (g S R I a0) (fun r2 => f_X12_all_4 g S R  512 r2 a0))
set_option maxHeartbeats 4000000 in
theorem b_X12_all {E : Ev} {p : Program} {l : Launch} {e : Env} {s : State} {m : MethodId} {args : Array Value} {below : List Frame} {meth : Method} {c : Code} {dF dL : Nat} (C : Cx E RX12 cX12_all 1 p s m c) (hr : meth.sig.returnType = none) (hk : meth.locks = false) {S : Sh} {R : Rw} {r : Iw} {g : Sh → Rw → Iw → Nat → Option (Iw)} (hg : ∀ (S : Sh) (R : Rw) (I : Iw) (a0 : Nat) (r : Iw), g S R I a0 = some r → Mt E l yX12_one cX12_one 2 none dF dL [.ref (E.1 + a0)] S R I S R r none 0 0) : ∀ (I : Iw) (a0 : Nat), f_X12_all g S R   I a0 = some r → Wk E 1 p l e ({ frames := dF + 7, cells := 0, slots := 0, locals := dL + 223 } : Room) s m args below meth c 0 0 (MQ below (Qw E S R r none) args s 0 0 (fun q => E.1 ≤ q)) 0 [(0, .ref (E.1 + a0))] [] S R I := by
  intro I a0 h
  rw [f_X12_all] at h
  refine k_aloadn (pc := 0) C dX12_all_0 (i := 0) rfl 0 rfl ?_
  obtain ⟨hs10, h⟩ := gp_e h
  have hs1 := sok_e hs10
  obtain ⟨r2, hr2, h⟩ := bd_e h
  refine k_V (pc := 1) (st := []) C (hg _ _ _ _ _ hr2) lkV_RX12_167 hs1 rfl rfl rfl (Nat.le_of_ble_eq_true rfl) (by show dF + 1 ≤ dF + 7; omega) (by show 8 + (2 + 11) + dL ≤ dL + 223; omega) (Nat.le_of_ble_eq_true rfl) (Nat.le_of_ble_eq_true rfl) dX12_all_1 ?_
  refine k_nf (cells2 := 0) (slots2 := 0) (st2 := []) rfl rfl rfl ?_
  exact b_X12_all_4 C hr hk hg  _ _ _ h
theorem c_X12_all {E : Ev} {l : Launch} {dF dL : Nat} {S : Sh} {R : Rw} {I : Iw} {g : Sh → Rw → Iw → Nat → Option (Iw)} (hg : ∀ (S : Sh) (R : Rw) (I : Iw) (a0 : Nat) (r : Iw), g S R I a0 = some r → Mt E l yX12_one cX12_one 2 none dF dL [.ref (E.1 + a0)] S R I S R r none 0 0) {a0 : Nat} {r : Iw} (h : f_X12_all g S R I a0 = some r) : Mt E l yX12_all cX12_all 1 none (dF + 7) (dL + 223) [.ref (E.1 + a0)] S R I S R r none 0 0 := mt_of (by decide) (Nat.le_of_ble_eq_true rfl) (fun p e s m args below meth c C hr hk hn => b_X12_all C hr hk hg _ _ h)
theorem lkV_RX12_150 : LkV RX12 150 RX12 yX12_all cX12_all 1 none 0 := ⟨(t5_in 230 (by decide +kernel) rfl), (t5_in 232 (by decide +kernel) rfl), (t0_in 34 (by decide +kernel) rfl), (t5_in 233 (by decide +kernel) rfl), (t1_in 7 (by decide +kernel) rfl), by decide, by decide +kernel⟩
theorem dX12_condition_0 : decode cX12_condition 0 = .ok (.aload_n 0, 1) := by decide +kernel
theorem dX12_condition_1 : decode cX12_condition 1 = .ok (.invokevirtual 150, 3) := by decide +kernel
theorem dX12_condition_4 : decode cX12_condition 4 = .ok (.aload_n 0, 1) := by decide +kernel
theorem dX12_condition_5 : decode cX12_condition 5 = .ok (.getfield 140, 3) := by decide +kernel
theorem dX12_condition_8 : decode cX12_condition 8 = .ok (.ifCond .ne 31, 3) := by decide +kernel
theorem dX12_condition_11 : decode cX12_condition 11 = .ok (.aload_n 0, 1) := by decide +kernel
theorem dX12_condition_12 : decode cX12_condition 12 = .ok (.ldc 153, 2) := by decide +kernel
theorem dX12_condition_14 : decode cX12_condition 14 = .ok (.invokevirtual 155, 3) := by decide +kernel
theorem dX12_condition_17 : decode cX12_condition 17 = .ok (.ifCond .eq 22, 3) := by decide +kernel
theorem dX12_condition_20 : decode cX12_condition 20 = .ok (.aload_n 0, 1) := by decide +kernel
theorem dX12_condition_21 : decode cX12_condition 21 = .ok (.iconst 1, 1) := by decide +kernel
theorem dX12_condition_22 : decode cX12_condition 22 = .ok (.invokevirtual 159, 3) := by decide +kernel
theorem dX12_condition_25 : decode cX12_condition 25 = .ok (.aload_n 0, 1) := by decide +kernel
theorem dX12_condition_26 : decode cX12_condition 26 = .ok (.invokevirtual 150, 3) := by decide +kernel
theorem dX12_condition_29 : decode cX12_condition 29 = .ok (.aload_n 0, 1) := by decide +kernel
theorem dX12_condition_30 : decode cX12_condition 30 = .ok (.sipush 20000, 3) := by decide +kernel
theorem dX12_condition_33 : decode cX12_condition 33 = .ok (.invokevirtual 163, 3) := by decide +kernel
theorem dX12_condition_36 : decode cX12_condition 36 = .ok (.goto (-32), 3) := by decide +kernel
theorem dX12_condition_39 : decode cX12_condition 39 = .ok (.return_, 1) := by decide +kernel
def f_X12_condition_4 (g : Sh → Rw → Iw → Nat → Option (Iw)) (S : Sh) (R : Rw)  : Nat → Iw → Nat → Option (Iw)
  | 0, _, _ => none
  | n + 1, I, a0 => gp (sok S a0 12 34) ((if (I a0 9) = 0 then bd (f_X12_isWord S R I a0 15) (fun r5 => (if r5 = 0 then some I else bd (f_X12_must S R I a0 (1 : Int32)) (fun r7 => bd (f_X12_all g S R r7 a0) (fun r8 => bd (f_X12_tells S R r8 a0 (20000 : Int32)) (fun r9 => f_X12_condition_4 g S R  n r9 a0))))) else some I))
set_option maxHeartbeats 4000000 in
theorem b_X12_condition_4 {E : Ev} {p : Program} {l : Launch} {e : Env} {s : State} {m : MethodId} {args : Array Value} {below : List Frame} {meth : Method} {c : Code} {dF dL : Nat} (C : Cx E RX12 cX12_condition 1 p s m c) (hr : meth.sig.returnType = none) (hk : meth.locks = false) {S : Sh} {R : Rw} {r : Iw} {g : Sh → Rw → Iw → Nat → Option (Iw)} (hg : ∀ (S : Sh) (R : Rw) (I : Iw) (a0 : Nat) (r : Iw), g S R I a0 = some r → Mt E l yX12_one cX12_one 2 none dF dL [.ref (E.1 + a0)] S R I S R r none 0 0) : ∀ (n : Nat) (I : Iw) (a0 : Nat), f_X12_condition_4 g S R  n I a0 = some r → Wk E 1 p l e ({ frames := dF + 8, cells := 0, slots := 0, locals := dL + 243 } : Room) s m args below meth c 0 0 (MQ below (Qw E S R r none) args s 0 0 (fun q => E.1 ≤ q)) 4 [(0, .ref (E.1 + a0))] [] S R I := by
  intro n
  induction n with
  | zero =>
    intro I a0 h
    rw [f_X12_condition_4] at h
    cases h
  | succ n ih =>
    intro I a0 h
    rw [f_X12_condition_4] at h
    refine k_aloadn (pc := 4) C dX12_condition_4 (i := 0) rfl 0 rfl ?_
    obtain ⟨hs30, h⟩ := gp_e h
    have hs3 := sok_e hs30
    refine k_getI (pc := 5) C lkF_RX12_140_12 hs3 ir_12_9 dX12_condition_5 ?_
    refine k_if_ne (pc := 8) C dX12_condition_8 (tgt := 39) (by decide) (fun hc4 => ?_) (fun hc4 => ?_)
    · rw [if_neg hc4] at h
      have h := Option.some.inj h
      subst h
      exact k_vret (pc := 39) C hr hk dX12_condition_39
    · rw [if_pos hc4] at h
      refine k_aloadn (pc := 11) C dX12_condition_11 (i := 0) rfl 0 rfl ?_
      refine k_ldcS (pc := 12) C (i := 15) rfl dX12_condition_12 ?_
      obtain ⟨r5, hr5, h⟩ := bd_e h
      refine k_V (pc := 14) (st := []) C (c_X12_isWord hr5) lkV_RX12_155 hs3 rfl rfl rfl (Nat.le_of_ble_eq_true rfl) (by show 6 + 1 ≤ dF + 8; omega) (by show 8 + (4 + 11) + 200 ≤ dL + 243; omega) (Nat.le_of_ble_eq_true rfl) (Nat.le_of_ble_eq_true rfl) dX12_condition_14 ?_
      refine k_nf (cells2 := 0) (slots2 := 0) (st2 := [.int r5]) rfl rfl rfl ?_
      refine k_if_eq (pc := 17) C dX12_condition_17 (tgt := 39) (by decide) (fun hc6 => ?_) (fun hc6 => ?_)
      · rw [if_pos hc6] at h
        have h := Option.some.inj h
        subst h
        exact k_vret (pc := 39) C hr hk dX12_condition_39
      · rw [if_neg hc6] at h
        refine k_aloadn (pc := 20) C dX12_condition_20 (i := 0) rfl 0 rfl ?_
        refine k_iconst (pc := 21) C (v := (1 : Int32)) dX12_condition_21 (by decide) ?_
        obtain ⟨r7, hr7, h⟩ := bd_e h
        refine k_V (pc := 22) (st := []) C (c_X12_must hr7) lkV_RX12_159 hs3 rfl rfl rfl (Nat.le_of_ble_eq_true rfl) (by show 3 + 1 ≤ dF + 8; omega) (by show 8 + (2 + 11) + 63 ≤ dL + 243; omega) (Nat.le_of_ble_eq_true rfl) (Nat.le_of_ble_eq_true rfl) dX12_condition_22 ?_
        refine k_nf (cells2 := 0) (slots2 := 0) (st2 := []) rfl rfl rfl ?_
        refine k_aloadn (pc := 25) C dX12_condition_25 (i := 0) rfl 0 rfl ?_
        obtain ⟨r8, hr8, h⟩ := bd_e h
        refine k_V (pc := 26) (st := []) C (c_X12_all hg hr8) lkV_RX12_150 hs3 rfl rfl rfl (Nat.le_of_ble_eq_true rfl) (by show (dF + 7) + 1 ≤ dF + 8; omega) (by show 8 + (1 + 11) + (dL + 223) ≤ dL + 243; omega) (Nat.le_of_ble_eq_true rfl) (Nat.le_of_ble_eq_true rfl) dX12_condition_26 ?_
        refine k_nf (cells2 := 0) (slots2 := 0) (st2 := []) rfl rfl rfl ?_
        refine k_aloadn (pc := 29) C dX12_condition_29 (i := 0) rfl 0 rfl ?_
        refine k_sipush (pc := 30) C (v := (20000 : Int32)) dX12_condition_30 (by decide) ?_
        obtain ⟨r9, hr9, h⟩ := bd_e h
        refine k_V (pc := 33) (st := []) C (c_X12_tells hr9) lkV_RX12_163 hs3 rfl rfl rfl (Nat.le_of_ble_eq_true rfl) (by show 0 + 1 ≤ dF + 8; omega) (by show 8 + (2 + 11) + 0 ≤ dL + 243; omega) (Nat.le_of_ble_eq_true rfl) (Nat.le_of_ble_eq_true rfl) dX12_condition_33 ?_
        refine k_nf (cells2 := 0) (slots2 := 0) (st2 := []) rfl rfl rfl ?_
        refine k_goto (pc := 36) C dX12_condition_36 (tgt := 4) (by decide) ?_
        exact ih _ _ h
def f_X12_condition (g : Sh → Rw → Iw → Nat → Option (Iw)) (S : Sh) (R : Rw)  (I : Iw) (a0 : Nat) : Option (Iw) := gp (sok S a0 12 34) (bd (f_X12_all g S R I a0) (fun r2 => f_X12_condition_4 g S R  512 r2 a0))
set_option maxHeartbeats 4000000 in
theorem b_X12_condition {E : Ev} {p : Program} {l : Launch} {e : Env} {s : State} {m : MethodId} {args : Array Value} {below : List Frame} {meth : Method} {c : Code} {dF dL : Nat} (C : Cx E RX12 cX12_condition 1 p s m c) (hr : meth.sig.returnType = none) (hk : meth.locks = false) {S : Sh} {R : Rw} {r : Iw} {g : Sh → Rw → Iw → Nat → Option (Iw)} (hg : ∀ (S : Sh) (R : Rw) (I : Iw) (a0 : Nat) (r : Iw), g S R I a0 = some r → Mt E l yX12_one cX12_one 2 none dF dL [.ref (E.1 + a0)] S R I S R r none 0 0) : ∀ (I : Iw) (a0 : Nat), f_X12_condition g S R   I a0 = some r → Wk E 1 p l e ({ frames := dF + 8, cells := 0, slots := 0, locals := dL + 243 } : Room) s m args below meth c 0 0 (MQ below (Qw E S R r none) args s 0 0 (fun q => E.1 ≤ q)) 0 [(0, .ref (E.1 + a0))] [] S R I := by
  intro I a0 h
  rw [f_X12_condition] at h
  refine k_aloadn (pc := 0) C dX12_condition_0 (i := 0) rfl 0 rfl ?_
  obtain ⟨hs10, h⟩ := gp_e h
  have hs1 := sok_e hs10
  obtain ⟨r2, hr2, h⟩ := bd_e h
  refine k_V (pc := 1) (st := []) C (c_X12_all hg hr2) lkV_RX12_150 hs1 rfl rfl rfl (Nat.le_of_ble_eq_true rfl) (by show (dF + 7) + 1 ≤ dF + 8; omega) (by show 8 + (1 + 11) + (dL + 223) ≤ dL + 243; omega) (Nat.le_of_ble_eq_true rfl) (Nat.le_of_ble_eq_true rfl) dX12_condition_1 ?_
  refine k_nf (cells2 := 0) (slots2 := 0) (st2 := []) rfl rfl rfl ?_
  exact b_X12_condition_4 C hr hk hg  _ _ _ h
theorem c_X12_condition {E : Ev} {l : Launch} {dF dL : Nat} {S : Sh} {R : Rw} {I : Iw} {g : Sh → Rw → Iw → Nat → Option (Iw)} (hg : ∀ (S : Sh) (R : Rw) (I : Iw) (a0 : Nat) (r : Iw), g S R I a0 = some r → Mt E l yX12_one cX12_one 2 none dF dL [.ref (E.1 + a0)] S R I S R r none 0 0) {a0 : Nat} {r : Iw} (h : f_X12_condition g S R I a0 = some r) : Mt E l yX12_condition cX12_condition 1 none (dF + 8) (dL + 243) [.ref (E.1 + a0)] S R I S R r none 0 0 := mt_of (by decide) (Nat.le_of_ble_eq_true rfl) (fun p e s m args below meth c C hr hk hn => b_X12_condition C hr hk hg _ _ h)
theorem lkF_RX12_37_12 : LkF RX12 37 12 13 := ⟨RX12, TX12, 34, "UnlikeNeighboursModel", fc12, by decide, (t5_in 94 (by decide +kernel) rfl), Or.inl rfl⟩
theorem dX12_value_0 : decode cX12_value 0 = .ok (.aload_n 0, 1) := by decide +kernel
theorem dX12_value_1 : decode cX12_value 1 = .ok (.getfield 140, 3) := by decide +kernel
theorem dX12_value_4 : decode cX12_value 4 = .ok (.ifCond .eq 4, 3) := by decide +kernel
theorem dX12_value_7 : decode cX12_value 7 = .ok (.return_, 1) := by decide +kernel
theorem dX12_value_8 : decode cX12_value 8 = .ok (.aload_n 0, 1) := by decide +kernel
theorem dX12_value_9 : decode cX12_value 9 = .ok (.getfield 122, 3) := by decide +kernel
theorem dX12_value_12 : decode cX12_value 12 = .ok (.iconst 2, 1) := by decide +kernel
theorem dX12_value_13 : decode cX12_value 13 = .ok (.if_icmp .ne 63, 3) := by decide +kernel
theorem dX12_value_16 : decode cX12_value 16 = .ok (.aload_n 0, 1) := by decide +kernel
theorem dX12_value_17 : decode cX12_value 17 = .ok (.getfield 112, 3) := by decide +kernel
theorem dX12_value_20 : decode cX12_value 20 = .ok (.aload_n 0, 1) := by decide +kernel
theorem dX12_value_21 : decode cX12_value 21 = .ok (.getfield 115, 3) := by decide +kernel
theorem dX12_value_24 : decode cX12_value 24 = .ok (.isub, 1) := by decide +kernel
theorem dX12_value_25 : decode cX12_value 25 = .ok (.iconst 4, 1) := by decide +kernel
theorem dX12_value_26 : decode cX12_value 26 = .ok (.if_icmp .gt 50, 3) := by decide +kernel
theorem dX12_value_29 : decode cX12_value 29 = .ok (.iconst 0, 1) := by decide +kernel
theorem dX12_value_30 : decode cX12_value 30 = .ok (.istore_n 1, 1) := by decide +kernel
theorem dX12_value_31 : decode cX12_value 31 = .ok (.aload_n 0, 1) := by decide +kernel
theorem dX12_value_32 : decode cX12_value 32 = .ok (.getfield 115, 3) := by decide +kernel
theorem dX12_value_35 : decode cX12_value 35 = .ok (.istore_n 2, 1) := by decide +kernel
theorem dX12_value_36 : decode cX12_value 36 = .ok (.iload_n 2, 1) := by decide +kernel
theorem dX12_value_37 : decode cX12_value 37 = .ok (.aload_n 0, 1) := by decide +kernel
theorem dX12_value_38 : decode cX12_value 38 = .ok (.getfield 112, 3) := by decide +kernel
theorem dX12_value_41 : decode cX12_value 41 = .ok (.if_icmp .ge 24, 3) := by decide +kernel
theorem dX12_value_44 : decode cX12_value 44 = .ok (.bipush 10, 2) := by decide +kernel
theorem dX12_value_46 : decode cX12_value 46 = .ok (.iload_n 1, 1) := by decide +kernel
theorem dX12_value_47 : decode cX12_value 47 = .ok (.imul, 1) := by decide +kernel
theorem dX12_value_48 : decode cX12_value 48 = .ok (.aload_n 0, 1) := by decide +kernel
theorem dX12_value_49 : decode cX12_value 49 = .ok (.getfield 19, 3) := by decide +kernel
theorem dX12_value_52 : decode cX12_value 52 = .ok (.iload_n 2, 1) := by decide +kernel
theorem dX12_value_53 : decode cX12_value 53 = .ok (.iaload, 1) := by decide +kernel
theorem dX12_value_54 : decode cX12_value 54 = .ok (.iadd, 1) := by decide +kernel
theorem dX12_value_55 : decode cX12_value 55 = .ok (.bipush 48, 2) := by decide +kernel
theorem dX12_value_57 : decode cX12_value 57 = .ok (.isub, 1) := by decide +kernel
theorem dX12_value_58 : decode cX12_value 58 = .ok (.istore_n 1, 1) := by decide +kernel
theorem dX12_value_59 : decode cX12_value 59 = .ok (.iinc 2 1, 3) := by decide +kernel
theorem dX12_value_62 : decode cX12_value 62 = .ok (.goto (-26), 3) := by decide +kernel
theorem dX12_value_65 : decode cX12_value 65 = .ok (.aload_n 0, 1) := by decide +kernel
theorem dX12_value_66 : decode cX12_value 66 = .ok (.iload_n 1, 1) := by decide +kernel
theorem dX12_value_67 : decode cX12_value 67 = .ok (.invokevirtual 163, 3) := by decide +kernel
theorem dX12_value_70 : decode cX12_value 70 = .ok (.aload_n 0, 1) := by decide +kernel
theorem dX12_value_71 : decode cX12_value 71 = .ok (.iconst 1, 1) := by decide +kernel
theorem dX12_value_72 : decode cX12_value 72 = .ok (.invokevirtual 159, 3) := by decide +kernel
theorem dX12_value_75 : decode cX12_value 75 = .ok (.return_, 1) := by decide +kernel
theorem dX12_value_76 : decode cX12_value 76 = .ok (.iconst (-1), 1) := by decide +kernel
theorem dX12_value_77 : decode cX12_value 77 = .ok (.istore_n 1, 1) := by decide +kernel
theorem dX12_value_78 : decode cX12_value 78 = .ok (.iconst 0, 1) := by decide +kernel
theorem dX12_value_79 : decode cX12_value 79 = .ok (.istore_n 2, 1) := by decide +kernel
theorem dX12_value_80 : decode cX12_value 80 = .ok (.iload_n 2, 1) := by decide +kernel
theorem dX12_value_81 : decode cX12_value 81 = .ok (.aload_n 0, 1) := by decide +kernel
theorem dX12_value_82 : decode cX12_value 82 = .ok (.getfield 37, 3) := by decide +kernel
theorem dX12_value_85 : decode cX12_value 85 = .ok (.arraylength, 1) := by decide +kernel
theorem dX12_value_86 : decode cX12_value 86 = .ok (.if_icmp .ge 28, 3) := by decide +kernel
theorem dX12_value_89 : decode cX12_value 89 = .ok (.aload_n 0, 1) := by decide +kernel
theorem dX12_value_90 : decode cX12_value 90 = .ok (.aload_n 0, 1) := by decide +kernel
theorem dX12_value_91 : decode cX12_value 91 = .ok (.getfield 37, 3) := by decide +kernel
theorem dX12_value_94 : decode cX12_value 94 = .ok (.iload_n 2, 1) := by decide +kernel
theorem dX12_value_95 : decode cX12_value 95 = .ok (.aaload, 1) := by decide +kernel
theorem dX12_value_96 : decode cX12_value 96 = .ok (.invokevirtual 155, 3) := by decide +kernel
theorem dX12_value_99 : decode cX12_value 99 = .ok (.ifCond .eq 7, 3) := by decide +kernel
theorem dX12_value_102 : decode cX12_value 102 = .ok (.iload_n 2, 1) := by decide +kernel
theorem dX12_value_103 : decode cX12_value 103 = .ok (.goto 4, 3) := by decide +kernel
theorem dX12_value_106 : decode cX12_value 106 = .ok (.iload_n 1, 1) := by decide +kernel
theorem dX12_value_107 : decode cX12_value 107 = .ok (.istore_n 1, 1) := by decide +kernel
theorem dX12_value_108 : decode cX12_value 108 = .ok (.iinc 2 1, 3) := by decide +kernel
theorem dX12_value_111 : decode cX12_value 111 = .ok (.goto (-31), 3) := by decide +kernel
theorem dX12_value_114 : decode cX12_value 114 = .ok (.aload_n 0, 1) := by decide +kernel
theorem dX12_value_115 : decode cX12_value 115 = .ok (.sipush 10000, 3) := by decide +kernel
theorem dX12_value_118 : decode cX12_value 118 = .ok (.iconst 0, 1) := by decide +kernel
theorem dX12_value_119 : decode cX12_value 119 = .ok (.iload_n 1, 1) := by decide +kernel
theorem dX12_value_120 : decode cX12_value 120 = .ok (.invokestatic 186, 3) := by decide +kernel
theorem dX12_value_123 : decode cX12_value 123 = .ok (.iadd, 1) := by decide +kernel
theorem dX12_value_124 : decode cX12_value 124 = .ok (.invokevirtual 163, 3) := by decide +kernel
theorem dX12_value_127 : decode cX12_value 127 = .ok (.aload_n 0, 1) := by decide +kernel
theorem dX12_value_128 : decode cX12_value 128 = .ok (.iload_n 1, 1) := by decide +kernel
theorem dX12_value_129 : decode cX12_value 129 = .ok (.ifCond .lt 7, 3) := by decide +kernel
theorem dX12_value_132 : decode cX12_value 132 = .ok (.iconst 1, 1) := by decide +kernel
theorem dX12_value_133 : decode cX12_value 133 = .ok (.goto 4, 3) := by decide +kernel
theorem dX12_value_136 : decode cX12_value 136 = .ok (.iconst 0, 1) := by decide +kernel
theorem dX12_value_137 : decode cX12_value 137 = .ok (.invokevirtual 159, 3) := by decide +kernel
theorem dX12_value_140 : decode cX12_value 140 = .ok (.return_, 1) := by decide +kernel
def f_X12_value_137 (S : Sh) (R : Rw)  (I : Iw) (s0 : Int32) (q1 : Nat) : Option (Iw) := gp (sok S q1 12 34) (bd (f_X12_must S R I q1 s0) (fun r11 => some r11))
set_option maxHeartbeats 4000000 in
theorem b_X12_value_137 {E : Ev} {p : Program} {l : Launch} {e : Env} {s : State} {m : MethodId} {args : Array Value} {below : List Frame} {meth : Method} {c : Code} (C : Cx E RX12 cX12_value 3 p s m c) (hr : meth.sig.returnType = none) (hk : meth.locks = false) {S : Sh} {R : Rw} {r : Iw}  : ∀ (I : Iw) (s0 : Int32) (q1 : Nat), f_X12_value_137 S R   I s0 q1 = some r → Wk E 3 p l e ({ frames := 7, cells := 0, slots := 0, locals := 223 } : Room) s m args below meth c 0 0 (MQ below (Qw E S R r none) args s 0 0 (fun q => E.1 ≤ q)) 137 [] [.int s0, .ref (E.1 + q1)] S R I := by
  intro I s0 q1 h
  rw [f_X12_value_137] at h
  obtain ⟨hs100, h⟩ := gp_e h
  have hs10 := sok_e hs100
  obtain ⟨r11, hr11, h⟩ := bd_e h
  refine k_V (pc := 137) (st := []) C (c_X12_must hr11) lkV_RX12_159 hs10 rfl rfl rfl (Nat.le_of_ble_eq_true rfl) (Nat.le_of_ble_eq_true rfl) (Nat.le_of_ble_eq_true rfl) (Nat.le_of_ble_eq_true rfl) (Nat.le_of_ble_eq_true rfl) dX12_value_137 ?_
  refine k_nf (cells2 := 0) (slots2 := 0) (st2 := []) rfl rfl rfl ?_
  have h := Option.some.inj h
  subst h
  exact k_vret (pc := 140) C hr hk dX12_value_140
def f_X12_value_107 (S : Sh) (R : Rw) (ko80 : Iw → Nat → Int32 → Int32 → Option (Iw)) (I : Iw) (a0 : Nat) (x2 : Int32) (s0 : Int32) : Option (Iw) := ko80 I a0 s0 (x2 + (1 : Int32))
set_option maxHeartbeats 4000000 in
theorem b_X12_value_107 {E : Ev} {p : Program} {l : Launch} {e : Env} {s : State} {m : MethodId} {args : Array Value} {below : List Frame} {meth : Method} {c : Code} (C : Cx E RX12 cX12_value 3 p s m c) (hr : meth.sig.returnType = none) (hk : meth.locks = false) {S : Sh} {R : Rw} {r : Iw}  {ko80 : Iw → Nat → Int32 → Int32 → Option (Iw)} (hko80 : ∀ (I : Iw) (a0 : Nat) (x1 : Int32) (x2 : Int32), ko80 I a0 x1 x2 = some r → Wk E 3 p l e ({ frames := 7, cells := 0, slots := 0, locals := 223 } : Room) s m args below meth c 0 0 (MQ below (Qw E S R r none) args s 0 0 (fun q => E.1 ≤ q)) 80 [(0, .ref (E.1 + a0)), (1, .int x1), (2, .int x2)] [] S R I) : ∀ (I : Iw) (a0 : Nat) (x2 : Int32) (s0 : Int32), f_X12_value_107 S R ko80  I a0 x2 s0 = some r → Wk E 3 p l e ({ frames := 7, cells := 0, slots := 0, locals := 223 } : Room) s m args below meth c 0 0 (MQ below (Qw E S R r none) args s 0 0 (fun q => E.1 ≤ q)) 107 [(0, .ref (E.1 + a0)), (2, .int x2)] [.int s0] S R I := by
  intro I a0 x2 s0 h
  rw [f_X12_value_107] at h
  refine k_istoren (pc := 107) C dX12_value_107 (i := 1) rfl (by decide) (L2 := [(0, .ref (E.1 + a0)), (1, .int s0), (2, .int x2)]) rfl ?_
  refine k_iinc (pc := 108) C dX12_value_108 2 rfl (v := x2 + (1 : Int32)) (by rfl) (by decide) (L2 := [(0, .ref (E.1 + a0)), (1, .int s0), (2, .int (x2 + (1 : Int32)))]) rfl ?_
  refine k_goto (pc := 111) C dX12_value_111 (tgt := 80) (by decide) ?_
  exact hko80 _ _ _ _ h
def f_X12_value_80 (S : Sh) (R : Rw)  : Nat → Iw → Nat → Int32 → Int32 → Option (Iw)
  | 0, _, _, _, _ => none
  | n + 1, I, a0, x1, x2 => gp (sok S a0 12 34) (rl (R a0 13) (fun b5 => bd (aln S 24 b5) (fun n6 => (if (nI n6) ≤ x2 then bd (f_X12_tells S R I a0 ((10000 : Int32) + (jmax (0 : Int32) x1))) (fun r8 => (if x1 < 0 then f_X12_value_137 S R  r8 (0 : Int32) a0 else f_X12_value_137 S R  r8 (1 : Int32) a0)) else rl (R a0 13) (fun b12 => gp (aok S 24 b12 x2) (rs (R b12 x2.toNatClampNeg) (fun b14 => bd (f_X12_isWord S R I a0 b14) (fun r15 => (if r15 = 0 then f_X12_value_107 S R (f_X12_value_80 S R  n) I a0 x2 x1 else f_X12_value_107 S R (f_X12_value_80 S R  n) I a0 x2 x2)))))))))
set_option maxHeartbeats 4000000 in
theorem b_X12_value_80 {E : Ev} {p : Program} {l : Launch} {e : Env} {s : State} {m : MethodId} {args : Array Value} {below : List Frame} {meth : Method} {c : Code} (C : Cx E RX12 cX12_value 3 p s m c) (hr : meth.sig.returnType = none) (hk : meth.locks = false) {S : Sh} {R : Rw} {r : Iw}  : ∀ (n : Nat) (I : Iw) (a0 : Nat) (x1 : Int32) (x2 : Int32), f_X12_value_80 S R  n I a0 x1 x2 = some r → Wk E 3 p l e ({ frames := 7, cells := 0, slots := 0, locals := 223 } : Room) s m args below meth c 0 0 (MQ below (Qw E S R r none) args s 0 0 (fun q => E.1 ≤ q)) 80 [(0, .ref (E.1 + a0)), (1, .int x1), (2, .int x2)] [] S R I := by
  intro n
  induction n with
  | zero =>
    intro I a0 x1 x2 h
    rw [f_X12_value_80] at h
    cases h
  | succ n ih =>
    intro I a0 x1 x2 h
    rw [f_X12_value_80] at h
    refine k_iloadn (pc := 80) C dX12_value_80 (i := 2) rfl 2 rfl ?_
    refine k_aloadn (pc := 81) C dX12_value_81 (i := 0) rfl 0 rfl ?_
    obtain ⟨hs40, h⟩ := gp_e h
    have hs4 := sok_e hs40
    obtain ⟨b5, hb5, h⟩ := rl_e h
    refine k_getR (pc := 82) C lkF_RX12_37_12 hs4 ir_12_13 hb5 dX12_value_82 ?_
    obtain ⟨n6, hn6, h⟩ := bd_e h
    refine k_alen (pc := 85) C (by decide) hn6 dX12_value_85 ?_
    refine k_icmp_ge (pc := 86) C dX12_value_86 (tgt := 114) (by decide) (fun hc7 => ?_) (fun hc7 => ?_)
    · rw [if_pos hc7] at h
      refine k_aloadn (pc := 114) C dX12_value_114 (i := 0) rfl 0 rfl ?_
      refine k_sipush (pc := 115) C (v := (10000 : Int32)) dX12_value_115 (by decide) ?_
      refine k_iconst (pc := 118) C (v := (0 : Int32)) dX12_value_118 (by decide) ?_
      refine k_iloadn (pc := 119) C dX12_value_119 (i := 1) rfl 1 rfl ?_
      refine k_mmax (pc := 120) (st := [.int (10000 : Int32), .ref (E.1 + a0)]) C (t6_in 11 (by decide +kernel) rfl) (Nat.le_of_ble_eq_true rfl) (Nat.le_of_ble_eq_true rfl) (Nat.le_of_ble_eq_true rfl) (Nat.le_of_ble_eq_true rfl) (Nat.le_of_ble_eq_true rfl) dX12_value_120 ?_
      refine k_iadd (pc := 123) C dX12_value_123 ?_
      obtain ⟨r8, hr8, h⟩ := bd_e h
      refine k_V (pc := 124) (st := []) C (c_X12_tells hr8) lkV_RX12_163 hs4 rfl rfl rfl (Nat.le_of_ble_eq_true rfl) (Nat.le_of_ble_eq_true rfl) (Nat.le_of_ble_eq_true rfl) (Nat.le_of_ble_eq_true rfl) (Nat.le_of_ble_eq_true rfl) dX12_value_124 ?_
      refine k_nf (cells2 := 0) (slots2 := 0) (st2 := []) rfl rfl rfl ?_
      refine k_aloadn (pc := 127) C dX12_value_127 (i := 0) rfl 0 rfl ?_
      refine k_iloadn (pc := 128) C dX12_value_128 (i := 1) rfl 1 rfl ?_
      refine k_if_lt (pc := 129) C dX12_value_129 (tgt := 136) (by decide) (fun hc9 => ?_) (fun hc9 => ?_)
      · rw [if_pos hc9] at h
        refine k_iconst (pc := 136) C (v := (0 : Int32)) dX12_value_136 (by decide) ?_
        refine k_loc (L2 := []) [] rfl ?_
        exact b_X12_value_137 C hr hk  _ _ _ h
      · rw [if_neg hc9] at h
        refine k_iconst (pc := 132) C (v := (1 : Int32)) dX12_value_132 (by decide) ?_
        refine k_goto (pc := 133) C dX12_value_133 (tgt := 137) (by decide) ?_
        refine k_loc (L2 := []) [] rfl ?_
        exact b_X12_value_137 C hr hk  _ _ _ h
    · rw [if_neg hc7] at h
      refine k_aloadn (pc := 89) C dX12_value_89 (i := 0) rfl 0 rfl ?_
      refine k_aloadn (pc := 90) C dX12_value_90 (i := 0) rfl 0 rfl ?_
      obtain ⟨b12, hb12, h⟩ := rl_e h
      refine k_getR (pc := 91) C lkF_RX12_37_12 hs4 ir_12_13 hb12 dX12_value_91 ?_
      refine k_iloadn (pc := 94) C dX12_value_94 (i := 2) rfl 2 rfl ?_
      obtain ⟨ha13, h⟩ := gp_e h
      obtain ⟨b14, hb14, h⟩ := rs_e h
      refine k_aald (pc := 95) C (t := 24) (by decide) ha13 dX12_value_95 ?_
      rw [hb14]
      refine k_nf (cells2 := 0) (slots2 := 0) (st2 := [.ref (E.2.1 b14), .ref (E.1 + a0)]) rfl rfl rfl ?_
      obtain ⟨r15, hr15, h⟩ := bd_e h
      refine k_V (pc := 96) (st := []) C (c_X12_isWord hr15) lkV_RX12_155 hs4 rfl rfl rfl (Nat.le_of_ble_eq_true rfl) (Nat.le_of_ble_eq_true rfl) (Nat.le_of_ble_eq_true rfl) (Nat.le_of_ble_eq_true rfl) (Nat.le_of_ble_eq_true rfl) dX12_value_96 ?_
      refine k_nf (cells2 := 0) (slots2 := 0) (st2 := [.int r15]) rfl rfl rfl ?_
      refine k_if_eq (pc := 99) C dX12_value_99 (tgt := 106) (by decide) (fun hc16 => ?_) (fun hc16 => ?_)
      · rw [if_pos hc16] at h
        refine k_iloadn (pc := 106) C dX12_value_106 (i := 1) rfl 1 rfl ?_
        refine k_loc (L2 := [(0, .ref (E.1 + a0)), (2, .int x2)]) [0, 2] rfl ?_
        exact b_X12_value_107 C hr hk ih _ _ _ _ h
      · rw [if_neg hc16] at h
        refine k_iloadn (pc := 102) C dX12_value_102 (i := 2) rfl 2 rfl ?_
        refine k_goto (pc := 103) C dX12_value_103 (tgt := 107) (by decide) ?_
        refine k_loc (L2 := [(0, .ref (E.1 + a0)), (2, .int x2)]) [0, 2] rfl ?_
        exact b_X12_value_107 C hr hk ih _ _ _ _ h
def f_X12_value_76 (S : Sh) (R : Rw)  (I : Iw) (a0 : Nat) : Option (Iw) := f_X12_value_80 S R  512 I a0 (-1 : Int32) (0 : Int32)
set_option maxHeartbeats 4000000 in
theorem b_X12_value_76 {E : Ev} {p : Program} {l : Launch} {e : Env} {s : State} {m : MethodId} {args : Array Value} {below : List Frame} {meth : Method} {c : Code} (C : Cx E RX12 cX12_value 3 p s m c) (hr : meth.sig.returnType = none) (hk : meth.locks = false) {S : Sh} {R : Rw} {r : Iw}  : ∀ (I : Iw) (a0 : Nat), f_X12_value_76 S R   I a0 = some r → Wk E 3 p l e ({ frames := 7, cells := 0, slots := 0, locals := 223 } : Room) s m args below meth c 0 0 (MQ below (Qw E S R r none) args s 0 0 (fun q => E.1 ≤ q)) 76 [(0, .ref (E.1 + a0))] [] S R I := by
  intro I a0 h
  rw [f_X12_value_76] at h
  refine k_iconst (pc := 76) C (v := (-1 : Int32)) dX12_value_76 (by decide) ?_
  refine k_istoren (pc := 77) C dX12_value_77 (i := 1) rfl (by decide) (L2 := [(0, .ref (E.1 + a0)), (1, .int (-1 : Int32))]) rfl ?_
  refine k_iconst (pc := 78) C (v := (0 : Int32)) dX12_value_78 (by decide) ?_
  refine k_istoren (pc := 79) C dX12_value_79 (i := 2) rfl (by decide) (L2 := [(0, .ref (E.1 + a0)), (1, .int (-1 : Int32)), (2, .int (0 : Int32))]) rfl ?_
  exact b_X12_value_80 C hr hk  _ _ _ _ _ h
def f_X12_value_36 (S : Sh) (R : Rw)  : Nat → Iw → Nat → Int32 → Int32 → Option (Iw)
  | 0, _, _, _, _ => none
  | n + 1, I, a0, x1, x2 => gp (sok S a0 12 34) ((if (I a0 7) ≤ x2 then bd (f_X12_tells S R I a0 x1) (fun r20 => bd (f_X12_must S R r20 a0 (1 : Int32)) (fun r21 => some r21)) else rl (R a0 4) (fun b22 => gp (aok S 20 b22 x2) (lt ((((10 : Int32) * x1) + (I b22 x2.toNatClampNeg)) - (48 : Int32)) (fun y24 => f_X12_value_36 S R  n I a0 y24 (x2 + (1 : Int32)))))))
set_option maxHeartbeats 4000000 in
theorem b_X12_value_36 {E : Ev} {p : Program} {l : Launch} {e : Env} {s : State} {m : MethodId} {args : Array Value} {below : List Frame} {meth : Method} {c : Code} (C : Cx E RX12 cX12_value 3 p s m c) (hr : meth.sig.returnType = none) (hk : meth.locks = false) {S : Sh} {R : Rw} {r : Iw}  : ∀ (n : Nat) (I : Iw) (a0 : Nat) (x1 : Int32) (x2 : Int32), f_X12_value_36 S R  n I a0 x1 x2 = some r → Wk E 3 p l e ({ frames := 7, cells := 0, slots := 0, locals := 223 } : Room) s m args below meth c 0 0 (MQ below (Qw E S R r none) args s 0 0 (fun q => E.1 ≤ q)) 36 [(0, .ref (E.1 + a0)), (1, .int x1), (2, .int x2)] [] S R I := by
  intro n
  induction n with
  | zero =>
    intro I a0 x1 x2 h
    rw [f_X12_value_36] at h
    cases h
  | succ n ih =>
    intro I a0 x1 x2 h
    rw [f_X12_value_36] at h
    refine k_iloadn (pc := 36) C dX12_value_36 (i := 2) rfl 2 rfl ?_
    refine k_aloadn (pc := 37) C dX12_value_37 (i := 0) rfl 0 rfl ?_
    obtain ⟨hs180, h⟩ := gp_e h
    have hs18 := sok_e hs180
    refine k_getI (pc := 38) C lkF_RX12_112_12 hs18 ir_12_7 dX12_value_38 ?_
    refine k_icmp_ge (pc := 41) C dX12_value_41 (tgt := 65) (by decide) (fun hc19 => ?_) (fun hc19 => ?_)
    · rw [if_pos hc19] at h
      refine k_aloadn (pc := 65) C dX12_value_65 (i := 0) rfl 0 rfl ?_
      refine k_iloadn (pc := 66) C dX12_value_66 (i := 1) rfl 1 rfl ?_
      obtain ⟨r20, hr20, h⟩ := bd_e h
      refine k_V (pc := 67) (st := []) C (c_X12_tells hr20) lkV_RX12_163 hs18 rfl rfl rfl (Nat.le_of_ble_eq_true rfl) (Nat.le_of_ble_eq_true rfl) (Nat.le_of_ble_eq_true rfl) (Nat.le_of_ble_eq_true rfl) (Nat.le_of_ble_eq_true rfl) dX12_value_67 ?_
      refine k_nf (cells2 := 0) (slots2 := 0) (st2 := []) rfl rfl rfl ?_
      refine k_aloadn (pc := 70) C dX12_value_70 (i := 0) rfl 0 rfl ?_
      refine k_iconst (pc := 71) C (v := (1 : Int32)) dX12_value_71 (by decide) ?_
      obtain ⟨r21, hr21, h⟩ := bd_e h
      refine k_V (pc := 72) (st := []) C (c_X12_must hr21) lkV_RX12_159 hs18 rfl rfl rfl (Nat.le_of_ble_eq_true rfl) (Nat.le_of_ble_eq_true rfl) (Nat.le_of_ble_eq_true rfl) (Nat.le_of_ble_eq_true rfl) (Nat.le_of_ble_eq_true rfl) dX12_value_72 ?_
      refine k_nf (cells2 := 0) (slots2 := 0) (st2 := []) rfl rfl rfl ?_
      have h := Option.some.inj h
      subst h
      exact k_vret (pc := 75) C hr hk dX12_value_75
    · rw [if_neg hc19] at h
      refine k_bipush (pc := 44) C (v := (10 : Int32)) dX12_value_44 (by decide) ?_
      refine k_iloadn (pc := 46) C dX12_value_46 (i := 1) rfl 1 rfl ?_
      refine k_imul (pc := 47) C dX12_value_47 ?_
      refine k_aloadn (pc := 48) C dX12_value_48 (i := 0) rfl 0 rfl ?_
      obtain ⟨b22, hb22, h⟩ := rl_e h
      refine k_getR (pc := 49) C lkF_RX12_19_12 hs18 ir_12_4 hb22 dX12_value_49 ?_
      refine k_iloadn (pc := 52) C dX12_value_52 (i := 2) rfl 2 rfl ?_
      obtain ⟨ha23, h⟩ := gp_e h
      refine k_iald (pc := 53) C ha23 dX12_value_53 ?_
      refine k_iadd (pc := 54) C dX12_value_54 ?_
      refine k_bipush (pc := 55) C (v := (48 : Int32)) dX12_value_55 (by decide) ?_
      refine k_isub (pc := 57) C dX12_value_57 ?_
      obtain ⟨y24, ey24, h⟩ := lt_e h
      rw [← ey24]
      refine k_istoren (pc := 58) C dX12_value_58 (i := 1) rfl (by decide) (L2 := [(0, .ref (E.1 + a0)), (1, .int y24), (2, .int x2)]) rfl ?_
      refine k_iinc (pc := 59) C dX12_value_59 2 rfl (v := x2 + (1 : Int32)) (by rfl) (by decide) (L2 := [(0, .ref (E.1 + a0)), (1, .int y24), (2, .int (x2 + (1 : Int32)))]) rfl ?_
      refine k_goto (pc := 62) C dX12_value_62 (tgt := 36) (by decide) ?_
      exact ih _ _ _ _ h
def f_X12_value (S : Sh) (R : Rw)  (I : Iw) (a0 : Nat) : Option (Iw) := gp (sok S a0 12 34) ((if (I a0 9) = 0 then (if (I a0 8) = (2 : Int32) then (if (4 : Int32) < ((I a0 7) - (I a0 6)) then f_X12_value_76 S R  I a0 else f_X12_value_36 S R  512 I a0 (0 : Int32) (I a0 6)) else f_X12_value_76 S R  I a0) else some I))
set_option maxHeartbeats 4000000 in
theorem b_X12_value {E : Ev} {p : Program} {l : Launch} {e : Env} {s : State} {m : MethodId} {args : Array Value} {below : List Frame} {meth : Method} {c : Code} (C : Cx E RX12 cX12_value 3 p s m c) (hr : meth.sig.returnType = none) (hk : meth.locks = false) {S : Sh} {R : Rw} {r : Iw}  : ∀ (I : Iw) (a0 : Nat), f_X12_value S R   I a0 = some r → Wk E 3 p l e ({ frames := 7, cells := 0, slots := 0, locals := 223 } : Room) s m args below meth c 0 0 (MQ below (Qw E S R r none) args s 0 0 (fun q => E.1 ≤ q)) 0 [(0, .ref (E.1 + a0))] [] S R I := by
  intro I a0 h
  rw [f_X12_value] at h
  refine k_aloadn (pc := 0) C dX12_value_0 (i := 0) rfl 0 rfl ?_
  obtain ⟨hs10, h⟩ := gp_e h
  have hs1 := sok_e hs10
  refine k_getI (pc := 1) C lkF_RX12_140_12 hs1 ir_12_9 dX12_value_1 ?_
  refine k_if_eq (pc := 4) C dX12_value_4 (tgt := 8) (by decide) (fun hc2 => ?_) (fun hc2 => ?_)
  · rw [if_pos hc2] at h
    refine k_aloadn (pc := 8) C dX12_value_8 (i := 0) rfl 0 rfl ?_
    refine k_getI (pc := 9) C lkF_RX12_122_12 hs1 ir_12_8 dX12_value_9 ?_
    refine k_iconst (pc := 12) C (v := (2 : Int32)) dX12_value_12 (by decide) ?_
    refine k_icmp_ne (pc := 13) C dX12_value_13 (tgt := 76) (by decide) (fun hc3 => ?_) (fun hc3 => ?_)
    · rw [if_neg hc3] at h
      exact b_X12_value_76 C hr hk  _ _ h
    · rw [if_pos hc3] at h
      refine k_aloadn (pc := 16) C dX12_value_16 (i := 0) rfl 0 rfl ?_
      refine k_getI (pc := 17) C lkF_RX12_112_12 hs1 ir_12_7 dX12_value_17 ?_
      refine k_aloadn (pc := 20) C dX12_value_20 (i := 0) rfl 0 rfl ?_
      refine k_getI (pc := 21) C lkF_RX12_115_12 hs1 ir_12_6 dX12_value_21 ?_
      refine k_isub (pc := 24) C dX12_value_24 ?_
      refine k_iconst (pc := 25) C (v := (4 : Int32)) dX12_value_25 (by decide) ?_
      refine k_icmp_gt (pc := 26) C dX12_value_26 (tgt := 76) (by decide) (fun hc17 => ?_) (fun hc17 => ?_)
      · rw [if_pos hc17] at h
        exact b_X12_value_76 C hr hk  _ _ h
      · rw [if_neg hc17] at h
        refine k_iconst (pc := 29) C (v := (0 : Int32)) dX12_value_29 (by decide) ?_
        refine k_istoren (pc := 30) C dX12_value_30 (i := 1) rfl (by decide) (L2 := [(0, .ref (E.1 + a0)), (1, .int (0 : Int32))]) rfl ?_
        refine k_aloadn (pc := 31) C dX12_value_31 (i := 0) rfl 0 rfl ?_
        refine k_getI (pc := 32) C lkF_RX12_115_12 hs1 ir_12_6 dX12_value_32 ?_
        refine k_istoren (pc := 35) C dX12_value_35 (i := 2) rfl (by decide) (L2 := [(0, .ref (E.1 + a0)), (1, .int (0 : Int32)), (2, .int (I a0 6))]) rfl ?_
        exact b_X12_value_36 C hr hk  _ _ _ _ _ h
  · rw [if_neg hc2] at h
    have h := Option.some.inj h
    subst h
    exact k_vret (pc := 7) C hr hk dX12_value_7
theorem c_X12_value {E : Ev} {l : Launch} {S : Sh} {R : Rw} {I : Iw} {a0 : Nat} {r : Iw} (h : f_X12_value S R I a0 = some r) : Mt E l yX12_value cX12_value 3 none 7 223 [.ref (E.1 + a0)] S R I S R r none 0 0 := mt_of (by decide) (Nat.le_of_ble_eq_true rfl) (fun p e s m args below meth c C hr hk hn => b_X12_value C hr hk _ _ h)
theorem lkV_RX12_174 : LkV RX12 174 RX12 yX12_isSign cX12_isSign 2 (some .boolean) 1 := ⟨(t6_in 3 (by decide +kernel) rfl), (t6_in 5 (by decide +kernel) rfl), (t0_in 37 (by decide +kernel) rfl), (t6_in 6 (by decide +kernel) rfl), (t1_in 7 (by decide +kernel) rfl), by decide, by decide +kernel⟩
theorem lkV_RX12_183 : LkV RX12 183 RX12 yX12_value cX12_value 3 none 0 := ⟨(t6_in 7 (by decide +kernel) rfl), (t6_in 9 (by decide +kernel) rfl), (t0_in 38 (by decide +kernel) rfl), (t6_in 10 (by decide +kernel) rfl), (t1_in 7 (by decide +kernel) rfl), by decide, by decide +kernel⟩
theorem lkF_RX12_177_12 : LkF RX12 177 12 10 := ⟨RX12, TX12, 34, "UnlikeNeighboursModel", fc12, by decide, (t5_in 91 (by decide +kernel) rfl), Or.inl rfl⟩
theorem lkP_RX12_177_12 : LkP RX12 177 12 10 .int := ⟨RX12, TX12, 34, "UnlikeNeighboursModel", fc12, by decide, (t5_in 91 (by decide +kernel) rfl), Or.inl rfl, rfl, by decide +kernel⟩
theorem lkV_RX12_180 : LkV RX12 180 RX12 yX12_condition cX12_condition 1 none 0 := ⟨(t5_in 226 (by decide +kernel) rfl), (t5_in 228 (by decide +kernel) rfl), (t0_in 33 (by decide +kernel) rfl), (t5_in 229 (by decide +kernel) rfl), (t1_in 7 (by decide +kernel) rfl), by decide, by decide +kernel⟩
theorem dX12_one_0 : decode cX12_one 0 = .ok (.aload_n 0, 1) := by decide +kernel
theorem dX12_one_1 : decode cX12_one 1 = .ok (.getfield 140, 3) := by decide +kernel
theorem dX12_one_4 : decode cX12_one 4 = .ok (.ifCond .eq 4, 3) := by decide +kernel
theorem dX12_one_7 : decode cX12_one 7 = .ok (.return_, 1) := by decide +kernel
theorem dX12_one_8 : decode cX12_one 8 = .ok (.aload_n 0, 1) := by decide +kernel
theorem dX12_one_9 : decode cX12_one 9 = .ok (.ldc 172, 2) := by decide +kernel
theorem dX12_one_11 : decode cX12_one 11 = .ok (.invokevirtual 155, 3) := by decide +kernel
theorem dX12_one_14 : decode cX12_one 14 = .ok (.ifCond .eq 22, 3) := by decide +kernel
theorem dX12_one_17 : decode cX12_one 17 = .ok (.aload_n 0, 1) := by decide +kernel
theorem dX12_one_18 : decode cX12_one 18 = .ok (.iconst 1, 1) := by decide +kernel
theorem dX12_one_19 : decode cX12_one 19 = .ok (.invokevirtual 159, 3) := by decide +kernel
theorem dX12_one_22 : decode cX12_one 22 = .ok (.aload_n 0, 1) := by decide +kernel
theorem dX12_one_23 : decode cX12_one 23 = .ok (.invokevirtual 167, 3) := by decide +kernel
theorem dX12_one_26 : decode cX12_one 26 = .ok (.aload_n 0, 1) := by decide +kernel
theorem dX12_one_27 : decode cX12_one 27 = .ok (.sipush 20005, 3) := by decide +kernel
theorem dX12_one_30 : decode cX12_one 30 = .ok (.invokevirtual 163, 3) := by decide +kernel
theorem dX12_one_33 : decode cX12_one 33 = .ok (.goto 149, 3) := by decide +kernel
theorem dX12_one_36 : decode cX12_one 36 = .ok (.aload_n 0, 1) := by decide +kernel
theorem dX12_one_37 : decode cX12_one 37 = .ok (.bipush 40, 2) := by decide +kernel
theorem dX12_one_39 : decode cX12_one 39 = .ok (.invokevirtual 174, 3) := by decide +kernel
theorem dX12_one_42 : decode cX12_one 42 = .ok (.ifCond .eq 57, 3) := by decide +kernel
theorem dX12_one_45 : decode cX12_one 45 = .ok (.aload_n 0, 1) := by decide +kernel
theorem dX12_one_46 : decode cX12_one 46 = .ok (.aload_n 0, 1) := by decide +kernel
theorem dX12_one_47 : decode cX12_one 47 = .ok (.getfield 177, 3) := by decide +kernel
theorem dX12_one_50 : decode cX12_one 50 = .ok (.iconst 3, 1) := by decide +kernel
theorem dX12_one_51 : decode cX12_one 51 = .ok (.if_icmp .ge 7, 3) := by decide +kernel
theorem dX12_one_54 : decode cX12_one 54 = .ok (.iconst 1, 1) := by decide +kernel
theorem dX12_one_55 : decode cX12_one 55 = .ok (.goto 4, 3) := by decide +kernel
theorem dX12_one_58 : decode cX12_one 58 = .ok (.iconst 0, 1) := by decide +kernel
theorem dX12_one_59 : decode cX12_one 59 = .ok (.invokevirtual 159, 3) := by decide +kernel
theorem dX12_one_62 : decode cX12_one 62 = .ok (.aload_n 0, 1) := by decide +kernel
theorem dX12_one_63 : decode cX12_one 63 = .ok (.dup, 1) := by decide +kernel
theorem dX12_one_64 : decode cX12_one 64 = .ok (.getfield 177, 3) := by decide +kernel
theorem dX12_one_67 : decode cX12_one 67 = .ok (.iconst 1, 1) := by decide +kernel
theorem dX12_one_68 : decode cX12_one 68 = .ok (.iadd, 1) := by decide +kernel
theorem dX12_one_69 : decode cX12_one 69 = .ok (.putfield 177, 3) := by decide +kernel
theorem dX12_one_72 : decode cX12_one 72 = .ok (.aload_n 0, 1) := by decide +kernel
theorem dX12_one_73 : decode cX12_one 73 = .ok (.invokevirtual 180, 3) := by decide +kernel
theorem dX12_one_76 : decode cX12_one 76 = .ok (.aload_n 0, 1) := by decide +kernel
theorem dX12_one_77 : decode cX12_one 77 = .ok (.dup, 1) := by decide +kernel
theorem dX12_one_78 : decode cX12_one 78 = .ok (.getfield 177, 3) := by decide +kernel
theorem dX12_one_81 : decode cX12_one 81 = .ok (.iconst 1, 1) := by decide +kernel
theorem dX12_one_82 : decode cX12_one 82 = .ok (.isub, 1) := by decide +kernel
theorem dX12_one_83 : decode cX12_one 83 = .ok (.putfield 177, 3) := by decide +kernel
theorem dX12_one_86 : decode cX12_one 86 = .ok (.aload_n 0, 1) := by decide +kernel
theorem dX12_one_87 : decode cX12_one 87 = .ok (.aload_n 0, 1) := by decide +kernel
theorem dX12_one_88 : decode cX12_one 88 = .ok (.bipush 41, 2) := by decide +kernel
theorem dX12_one_90 : decode cX12_one 90 = .ok (.invokevirtual 174, 3) := by decide +kernel
theorem dX12_one_93 : decode cX12_one 93 = .ok (.invokevirtual 159, 3) := by decide +kernel
theorem dX12_one_96 : decode cX12_one 96 = .ok (.goto 86, 3) := by decide +kernel
theorem dX12_one_99 : decode cX12_one 99 = .ok (.aload_n 0, 1) := by decide +kernel
theorem dX12_one_100 : decode cX12_one 100 = .ok (.invokevirtual 183, 3) := by decide +kernel
theorem dX12_one_103 : decode cX12_one 103 = .ok (.aload_n 0, 1) := by decide +kernel
theorem dX12_one_104 : decode cX12_one 104 = .ok (.bipush 60, 2) := by decide +kernel
theorem dX12_one_106 : decode cX12_one 106 = .ok (.invokevirtual 174, 3) := by decide +kernel
theorem dX12_one_109 : decode cX12_one 109 = .ok (.ifCond .eq 9, 3) := by decide +kernel
theorem dX12_one_112 : decode cX12_one 112 = .ok (.sipush 20002, 3) := by decide +kernel
theorem dX12_one_115 : decode cX12_one 115 = .ok (.goto 21, 3) := by decide +kernel
theorem dX12_one_118 : decode cX12_one 118 = .ok (.aload_n 0, 1) := by decide +kernel
theorem dX12_one_119 : decode cX12_one 119 = .ok (.bipush 61, 2) := by decide +kernel
theorem dX12_one_121 : decode cX12_one 121 = .ok (.invokevirtual 174, 3) := by decide +kernel
theorem dX12_one_124 : decode cX12_one 124 = .ok (.ifCond .eq 9, 3) := by decide +kernel
theorem dX12_one_127 : decode cX12_one 127 = .ok (.sipush 20003, 3) := by decide +kernel
theorem dX12_one_130 : decode cX12_one 130 = .ok (.goto 6, 3) := by decide +kernel
theorem dX12_one_133 : decode cX12_one 133 = .ok (.sipush 20004, 3) := by decide +kernel
theorem dX12_one_136 : decode cX12_one 136 = .ok (.istore_n 1, 1) := by decide +kernel
theorem dX12_one_137 : decode cX12_one 137 = .ok (.aload_n 0, 1) := by decide +kernel
theorem dX12_one_138 : decode cX12_one 138 = .ok (.aload_n 0, 1) := by decide +kernel
theorem dX12_one_139 : decode cX12_one 139 = .ok (.bipush 60, 2) := by decide +kernel
theorem dX12_one_141 : decode cX12_one 141 = .ok (.invokevirtual 174, 3) := by decide +kernel
theorem dX12_one_144 : decode cX12_one 144 = .ok (.ifCond .ne 21, 3) := by decide +kernel
theorem dX12_one_147 : decode cX12_one 147 = .ok (.aload_n 0, 1) := by decide +kernel
theorem dX12_one_148 : decode cX12_one 148 = .ok (.bipush 61, 2) := by decide +kernel
theorem dX12_one_150 : decode cX12_one 150 = .ok (.invokevirtual 174, 3) := by decide +kernel
theorem dX12_one_153 : decode cX12_one 153 = .ok (.ifCond .ne 12, 3) := by decide +kernel
theorem dX12_one_156 : decode cX12_one 156 = .ok (.aload_n 0, 1) := by decide +kernel
theorem dX12_one_157 : decode cX12_one 157 = .ok (.bipush 62, 2) := by decide +kernel
theorem dX12_one_159 : decode cX12_one 159 = .ok (.invokevirtual 174, 3) := by decide +kernel
theorem dX12_one_162 : decode cX12_one 162 = .ok (.ifCond .eq 7, 3) := by decide +kernel
theorem dX12_one_165 : decode cX12_one 165 = .ok (.iconst 1, 1) := by decide +kernel
theorem dX12_one_166 : decode cX12_one 166 = .ok (.goto 4, 3) := by decide +kernel
theorem dX12_one_169 : decode cX12_one 169 = .ok (.iconst 0, 1) := by decide +kernel
theorem dX12_one_170 : decode cX12_one 170 = .ok (.invokevirtual 159, 3) := by decide +kernel
theorem dX12_one_173 : decode cX12_one 173 = .ok (.aload_n 0, 1) := by decide +kernel
theorem dX12_one_174 : decode cX12_one 174 = .ok (.invokevirtual 183, 3) := by decide +kernel
theorem dX12_one_177 : decode cX12_one 177 = .ok (.aload_n 0, 1) := by decide +kernel
theorem dX12_one_178 : decode cX12_one 178 = .ok (.iload_n 1, 1) := by decide +kernel
theorem dX12_one_179 : decode cX12_one 179 = .ok (.invokevirtual 163, 3) := by decide +kernel
theorem dX12_one_182 : decode cX12_one 182 = .ok (.return_, 1) := by decide +kernel
def f_X12_one_170 (g : Sh → Rw → Iw → Nat → Option (Iw)) (S : Sh) (R : Rw)  (I : Iw) (a0 : Nat) (x1 : Int32) (s0 : Int32) (q1 : Nat) : Option (Iw) := gp (sok S q1 12 34) (bd (f_X12_must S R I q1 s0) (fun r16 => gp (sok S a0 12 34) (bd (f_X12_value S R r16 a0) (fun r18 => bd (f_X12_tells S R r18 a0 x1) (fun r19 => some r19)))))
set_option maxHeartbeats 4000000 in
theorem b_X12_one_170 {E : Ev} {p : Program} {l : Launch} {e : Env} {s : State} {m : MethodId} {args : Array Value} {below : List Frame} {meth : Method} {c : Code} {dF dL : Nat} (C : Cx E RX12 cX12_one 2 p s m c) (hr : meth.sig.returnType = none) (hk : meth.locks = false) {S : Sh} {R : Rw} {r : Iw} {g : Sh → Rw → Iw → Nat → Option (Iw)} (hg : ∀ (S : Sh) (R : Rw) (I : Iw) (a0 : Nat) (r : Iw), g S R I a0 = some r → Mt E l yX12_one cX12_one 2 none dF dL [.ref (E.1 + a0)] S R I S R r none 0 0) : ∀ (I : Iw) (a0 : Nat) (x1 : Int32) (s0 : Int32) (q1 : Nat), f_X12_one_170 g S R   I a0 x1 s0 q1 = some r → Wk E 2 p l e ({ frames := dF + 9, cells := 0, slots := 0, locals := dL + 263 } : Room) s m args below meth c 0 0 (MQ below (Qw E S R r none) args s 0 0 (fun q => E.1 ≤ q)) 170 [(0, .ref (E.1 + a0)), (1, .int x1)] [.int s0, .ref (E.1 + q1)] S R I := by
  intro I a0 x1 s0 q1 h
  rw [f_X12_one_170] at h
  obtain ⟨hs150, h⟩ := gp_e h
  have hs15 := sok_e hs150
  obtain ⟨r16, hr16, h⟩ := bd_e h
  refine k_V (pc := 170) (st := []) C (c_X12_must hr16) lkV_RX12_159 hs15 rfl rfl rfl (Nat.le_of_ble_eq_true rfl) (by show 3 + 1 ≤ dF + 9; omega) (by show 8 + (2 + 11) + 63 ≤ dL + 263; omega) (Nat.le_of_ble_eq_true rfl) (Nat.le_of_ble_eq_true rfl) dX12_one_170 ?_
  refine k_nf (cells2 := 0) (slots2 := 0) (st2 := []) rfl rfl rfl ?_
  refine k_aloadn (pc := 173) C dX12_one_173 (i := 0) rfl 0 rfl ?_
  obtain ⟨hs170, h⟩ := gp_e h
  have hs17 := sok_e hs170
  obtain ⟨r18, hr18, h⟩ := bd_e h
  refine k_V (pc := 174) (st := []) C (c_X12_value hr18) lkV_RX12_183 hs17 rfl rfl rfl (Nat.le_of_ble_eq_true rfl) (by show 7 + 1 ≤ dF + 9; omega) (by show 8 + (3 + 11) + 223 ≤ dL + 263; omega) (Nat.le_of_ble_eq_true rfl) (Nat.le_of_ble_eq_true rfl) dX12_one_174 ?_
  refine k_nf (cells2 := 0) (slots2 := 0) (st2 := []) rfl rfl rfl ?_
  refine k_aloadn (pc := 177) C dX12_one_177 (i := 0) rfl 0 rfl ?_
  refine k_iloadn (pc := 178) C dX12_one_178 (i := 1) rfl 1 rfl ?_
  obtain ⟨r19, hr19, h⟩ := bd_e h
  refine k_V (pc := 179) (st := []) C (c_X12_tells hr19) lkV_RX12_163 hs17 rfl rfl rfl (Nat.le_of_ble_eq_true rfl) (by show 0 + 1 ≤ dF + 9; omega) (by show 8 + (2 + 11) + 0 ≤ dL + 263; omega) (Nat.le_of_ble_eq_true rfl) (Nat.le_of_ble_eq_true rfl) dX12_one_179 ?_
  refine k_nf (cells2 := 0) (slots2 := 0) (st2 := []) rfl rfl rfl ?_
  have h := Option.some.inj h
  subst h
  exact k_vret (pc := 182) C hr hk dX12_one_182
def f_X12_one_165 (g : Sh → Rw → Iw → Nat → Option (Iw)) (S : Sh) (R : Rw)  (I : Iw) (a0 : Nat) (x1 : Int32) (q0 : Nat) : Option (Iw) := f_X12_one_170 g S R  I a0 x1 (1 : Int32) q0
set_option maxHeartbeats 4000000 in
theorem b_X12_one_165 {E : Ev} {p : Program} {l : Launch} {e : Env} {s : State} {m : MethodId} {args : Array Value} {below : List Frame} {meth : Method} {c : Code} {dF dL : Nat} (C : Cx E RX12 cX12_one 2 p s m c) (hr : meth.sig.returnType = none) (hk : meth.locks = false) {S : Sh} {R : Rw} {r : Iw} {g : Sh → Rw → Iw → Nat → Option (Iw)} (hg : ∀ (S : Sh) (R : Rw) (I : Iw) (a0 : Nat) (r : Iw), g S R I a0 = some r → Mt E l yX12_one cX12_one 2 none dF dL [.ref (E.1 + a0)] S R I S R r none 0 0) : ∀ (I : Iw) (a0 : Nat) (x1 : Int32) (q0 : Nat), f_X12_one_165 g S R   I a0 x1 q0 = some r → Wk E 2 p l e ({ frames := dF + 9, cells := 0, slots := 0, locals := dL + 263 } : Room) s m args below meth c 0 0 (MQ below (Qw E S R r none) args s 0 0 (fun q => E.1 ≤ q)) 165 [(0, .ref (E.1 + a0)), (1, .int x1)] [.ref (E.1 + q0)] S R I := by
  intro I a0 x1 q0 h
  rw [f_X12_one_165] at h
  refine k_iconst (pc := 165) C (v := (1 : Int32)) dX12_one_165 (by decide) ?_
  refine k_goto (pc := 166) C dX12_one_166 (tgt := 170) (by decide) ?_
  exact b_X12_one_170 C hr hk hg  _ _ _ _ _ h
def f_X12_one_136 (g : Sh → Rw → Iw → Nat → Option (Iw)) (S : Sh) (R : Rw)  (I : Iw) (a0 : Nat) (s0 : Int32) : Option (Iw) := gp (sok S a0 12 34) (bd (f_X12_isSign S R I a0 (60 : Int32)) (fun r13 => (if r13 = 0 then bd (f_X12_isSign S R I a0 (61 : Int32)) (fun r20 => (if r20 = 0 then bd (f_X12_isSign S R I a0 (62 : Int32)) (fun r22 => (if r22 = 0 then f_X12_one_170 g S R  I a0 s0 (0 : Int32) a0 else f_X12_one_165 g S R  I a0 s0 a0)) else f_X12_one_165 g S R  I a0 s0 a0)) else f_X12_one_165 g S R  I a0 s0 a0)))
set_option maxHeartbeats 4000000 in
theorem b_X12_one_136 {E : Ev} {p : Program} {l : Launch} {e : Env} {s : State} {m : MethodId} {args : Array Value} {below : List Frame} {meth : Method} {c : Code} {dF dL : Nat} (C : Cx E RX12 cX12_one 2 p s m c) (hr : meth.sig.returnType = none) (hk : meth.locks = false) {S : Sh} {R : Rw} {r : Iw} {g : Sh → Rw → Iw → Nat → Option (Iw)} (hg : ∀ (S : Sh) (R : Rw) (I : Iw) (a0 : Nat) (r : Iw), g S R I a0 = some r → Mt E l yX12_one cX12_one 2 none dF dL [.ref (E.1 + a0)] S R I S R r none 0 0) : ∀ (I : Iw) (a0 : Nat) (s0 : Int32), f_X12_one_136 g S R   I a0 s0 = some r → Wk E 2 p l e ({ frames := dF + 9, cells := 0, slots := 0, locals := dL + 263 } : Room) s m args below meth c 0 0 (MQ below (Qw E S R r none) args s 0 0 (fun q => E.1 ≤ q)) 136 [(0, .ref (E.1 + a0))] [.int s0] S R I := by
  intro I a0 s0 h
  rw [f_X12_one_136] at h
  refine k_istoren (pc := 136) C dX12_one_136 (i := 1) rfl (by decide) (L2 := [(0, .ref (E.1 + a0)), (1, .int s0)]) rfl ?_
  refine k_aloadn (pc := 137) C dX12_one_137 (i := 0) rfl 0 rfl ?_
  refine k_aloadn (pc := 138) C dX12_one_138 (i := 0) rfl 0 rfl ?_
  refine k_bipush (pc := 139) C (v := (60 : Int32)) dX12_one_139 (by decide) ?_
  obtain ⟨hs120, h⟩ := gp_e h
  have hs12 := sok_e hs120
  obtain ⟨r13, hr13, h⟩ := bd_e h
  refine k_V (pc := 141) (st := [.ref (E.1 + a0)]) C (c_X12_isSign hr13) lkV_RX12_174 hs12 rfl rfl rfl (Nat.le_of_ble_eq_true rfl) (by show 0 + 1 ≤ dF + 9; omega) (by show 8 + (2 + 11) + 0 ≤ dL + 263; omega) (Nat.le_of_ble_eq_true rfl) (Nat.le_of_ble_eq_true rfl) dX12_one_141 ?_
  refine k_nf (cells2 := 0) (slots2 := 0) (st2 := [.int r13, .ref (E.1 + a0)]) rfl rfl rfl ?_
  refine k_if_ne (pc := 144) C dX12_one_144 (tgt := 165) (by decide) (fun hc14 => ?_) (fun hc14 => ?_)
  · rw [if_neg hc14] at h
    exact b_X12_one_165 C hr hk hg  _ _ _ _ h
  · rw [if_pos hc14] at h
    refine k_aloadn (pc := 147) C dX12_one_147 (i := 0) rfl 0 rfl ?_
    refine k_bipush (pc := 148) C (v := (61 : Int32)) dX12_one_148 (by decide) ?_
    obtain ⟨r20, hr20, h⟩ := bd_e h
    refine k_V (pc := 150) (st := [.ref (E.1 + a0)]) C (c_X12_isSign hr20) lkV_RX12_174 hs12 rfl rfl rfl (Nat.le_of_ble_eq_true rfl) (by show 0 + 1 ≤ dF + 9; omega) (by show 8 + (2 + 11) + 0 ≤ dL + 263; omega) (Nat.le_of_ble_eq_true rfl) (Nat.le_of_ble_eq_true rfl) dX12_one_150 ?_
    refine k_nf (cells2 := 0) (slots2 := 0) (st2 := [.int r20, .ref (E.1 + a0)]) rfl rfl rfl ?_
    refine k_if_ne (pc := 153) C dX12_one_153 (tgt := 165) (by decide) (fun hc21 => ?_) (fun hc21 => ?_)
    · rw [if_neg hc21] at h
      exact b_X12_one_165 C hr hk hg  _ _ _ _ h
    · rw [if_pos hc21] at h
      refine k_aloadn (pc := 156) C dX12_one_156 (i := 0) rfl 0 rfl ?_
      refine k_bipush (pc := 157) C (v := (62 : Int32)) dX12_one_157 (by decide) ?_
      obtain ⟨r22, hr22, h⟩ := bd_e h
      refine k_V (pc := 159) (st := [.ref (E.1 + a0)]) C (c_X12_isSign hr22) lkV_RX12_174 hs12 rfl rfl rfl (Nat.le_of_ble_eq_true rfl) (by show 0 + 1 ≤ dF + 9; omega) (by show 8 + (2 + 11) + 0 ≤ dL + 263; omega) (Nat.le_of_ble_eq_true rfl) (Nat.le_of_ble_eq_true rfl) dX12_one_159 ?_
      refine k_nf (cells2 := 0) (slots2 := 0) (st2 := [.int r22, .ref (E.1 + a0)]) rfl rfl rfl ?_
      refine k_if_eq (pc := 162) C dX12_one_162 (tgt := 169) (by decide) (fun hc23 => ?_) (fun hc23 => ?_)
      · rw [if_pos hc23] at h
        refine k_iconst (pc := 169) C (v := (0 : Int32)) dX12_one_169 (by decide) ?_
        exact b_X12_one_170 C hr hk hg  _ _ _ _ _ h
      · rw [if_neg hc23] at h
        exact b_X12_one_165 C hr hk hg  _ _ _ _ h
def f_X12_one_59 (g : Sh → Rw → Iw → Nat → Option (Iw)) (S : Sh) (R : Rw)  (I : Iw) (a0 : Nat) (s0 : Int32) (q1 : Nat) : Option (Iw) := gp (sok S q1 12 34) (bd (f_X12_must S R I q1 s0) (fun r26 => gp (sok S a0 12 34) (lt (up2 r26 a0 10 ((r26 a0 10) + (1 : Int32))) (fun I28 => bd (f_X12_condition g S R I28 a0) (fun r29 => lt (up2 r29 a0 10 ((r29 a0 10) - (1 : Int32))) (fun I30 => bd (f_X12_isSign S R I30 a0 (41 : Int32)) (fun r31 => bd (f_X12_must S R I30 a0 r31) (fun r32 => some r32))))))))
set_option maxHeartbeats 4000000 in
theorem b_X12_one_59 {E : Ev} {p : Program} {l : Launch} {e : Env} {s : State} {m : MethodId} {args : Array Value} {below : List Frame} {meth : Method} {c : Code} {dF dL : Nat} (C : Cx E RX12 cX12_one 2 p s m c) (hr : meth.sig.returnType = none) (hk : meth.locks = false) {S : Sh} {R : Rw} {r : Iw} {g : Sh → Rw → Iw → Nat → Option (Iw)} (hg : ∀ (S : Sh) (R : Rw) (I : Iw) (a0 : Nat) (r : Iw), g S R I a0 = some r → Mt E l yX12_one cX12_one 2 none dF dL [.ref (E.1 + a0)] S R I S R r none 0 0) : ∀ (I : Iw) (a0 : Nat) (s0 : Int32) (q1 : Nat), f_X12_one_59 g S R   I a0 s0 q1 = some r → Wk E 2 p l e ({ frames := dF + 9, cells := 0, slots := 0, locals := dL + 263 } : Room) s m args below meth c 0 0 (MQ below (Qw E S R r none) args s 0 0 (fun q => E.1 ≤ q)) 59 [(0, .ref (E.1 + a0))] [.int s0, .ref (E.1 + q1)] S R I := by
  intro I a0 s0 q1 h
  rw [f_X12_one_59] at h
  obtain ⟨hs250, h⟩ := gp_e h
  have hs25 := sok_e hs250
  obtain ⟨r26, hr26, h⟩ := bd_e h
  refine k_V (pc := 59) (st := []) C (c_X12_must hr26) lkV_RX12_159 hs25 rfl rfl rfl (Nat.le_of_ble_eq_true rfl) (by show 3 + 1 ≤ dF + 9; omega) (by show 8 + (2 + 11) + 63 ≤ dL + 263; omega) (Nat.le_of_ble_eq_true rfl) (Nat.le_of_ble_eq_true rfl) dX12_one_59 ?_
  refine k_nf (cells2 := 0) (slots2 := 0) (st2 := []) rfl rfl rfl ?_
  refine k_aloadn (pc := 62) C dX12_one_62 (i := 0) rfl 0 rfl ?_
  refine k_dup (pc := 63) C dX12_one_63 rfl ?_
  obtain ⟨hs270, h⟩ := gp_e h
  have hs27 := sok_e hs270
  refine k_getI (pc := 64) C lkF_RX12_177_12 hs27 ir_12_10 dX12_one_64 ?_
  refine k_iconst (pc := 67) C (v := (1 : Int32)) dX12_one_67 (by decide) ?_
  refine k_iadd (pc := 68) C dX12_one_68 ?_
  obtain ⟨I28, eI28, h⟩ := lt_e h
  refine k_putI (pc := 69) C lkP_RX12_177_12 hs27 ir_12_10 dX12_one_69 ?_
  rw [← eI28]
  refine k_aloadn (pc := 72) C dX12_one_72 (i := 0) rfl 0 rfl ?_
  obtain ⟨r29, hr29, h⟩ := bd_e h
  refine k_V (pc := 73) (st := []) C (c_X12_condition hg hr29) lkV_RX12_180 hs27 rfl rfl rfl (Nat.le_of_ble_eq_true rfl) (by show (dF + 8) + 1 ≤ dF + 9; omega) (by show 8 + (1 + 11) + (dL + 243) ≤ dL + 263; omega) (Nat.le_of_ble_eq_true rfl) (Nat.le_of_ble_eq_true rfl) dX12_one_73 ?_
  refine k_nf (cells2 := 0) (slots2 := 0) (st2 := []) rfl rfl rfl ?_
  refine k_aloadn (pc := 76) C dX12_one_76 (i := 0) rfl 0 rfl ?_
  refine k_dup (pc := 77) C dX12_one_77 rfl ?_
  refine k_getI (pc := 78) C lkF_RX12_177_12 hs27 ir_12_10 dX12_one_78 ?_
  refine k_iconst (pc := 81) C (v := (1 : Int32)) dX12_one_81 (by decide) ?_
  refine k_isub (pc := 82) C dX12_one_82 ?_
  obtain ⟨I30, eI30, h⟩ := lt_e h
  refine k_putI (pc := 83) C lkP_RX12_177_12 hs27 ir_12_10 dX12_one_83 ?_
  rw [← eI30]
  refine k_aloadn (pc := 86) C dX12_one_86 (i := 0) rfl 0 rfl ?_
  refine k_aloadn (pc := 87) C dX12_one_87 (i := 0) rfl 0 rfl ?_
  refine k_bipush (pc := 88) C (v := (41 : Int32)) dX12_one_88 (by decide) ?_
  obtain ⟨r31, hr31, h⟩ := bd_e h
  refine k_V (pc := 90) (st := [.ref (E.1 + a0)]) C (c_X12_isSign hr31) lkV_RX12_174 hs27 rfl rfl rfl (Nat.le_of_ble_eq_true rfl) (by show 0 + 1 ≤ dF + 9; omega) (by show 8 + (2 + 11) + 0 ≤ dL + 263; omega) (Nat.le_of_ble_eq_true rfl) (Nat.le_of_ble_eq_true rfl) dX12_one_90 ?_
  refine k_nf (cells2 := 0) (slots2 := 0) (st2 := [.int r31, .ref (E.1 + a0)]) rfl rfl rfl ?_
  obtain ⟨r32, hr32, h⟩ := bd_e h
  refine k_V (pc := 93) (st := []) C (c_X12_must hr32) lkV_RX12_159 hs27 rfl rfl rfl (Nat.le_of_ble_eq_true rfl) (by show 3 + 1 ≤ dF + 9; omega) (by show 8 + (2 + 11) + 63 ≤ dL + 263; omega) (Nat.le_of_ble_eq_true rfl) (Nat.le_of_ble_eq_true rfl) dX12_one_93 ?_
  refine k_nf (cells2 := 0) (slots2 := 0) (st2 := []) rfl rfl rfl ?_
  refine k_goto (pc := 96) C dX12_one_96 (tgt := 182) (by decide) ?_
  have h := Option.some.inj h
  subst h
  exact k_vret (pc := 182) C hr hk dX12_one_182
def f_X12_one_b (g : Sh → Rw → Iw → Nat → Option (Iw)) (S : Sh) (R : Rw)  (I : Iw) (a0 : Nat) : Option (Iw) := gp (sok S a0 12 34) ((if (I a0 9) = 0 then bd (f_X12_isWord S R I a0 13) (fun r3 => (if r3 = 0 then bd (f_X12_isSign S R I a0 (40 : Int32)) (fun r5 => (if r5 = 0 then bd (f_X12_value S R I a0) (fun r7 => bd (f_X12_isSign S R r7 a0 (60 : Int32)) (fun r8 => (if r8 = 0 then bd (f_X12_isSign S R r7 a0 (61 : Int32)) (fun r10 => (if r10 = 0 then f_X12_one_136 g S R  r7 a0 (20004 : Int32) else f_X12_one_136 g S R  r7 a0 (20003 : Int32))) else f_X12_one_136 g S R  r7 a0 (20002 : Int32)))) else (if (3 : Int32) ≤ (I a0 10) then f_X12_one_59 g S R  I a0 (0 : Int32) a0 else f_X12_one_59 g S R  I a0 (1 : Int32) a0))) else bd (f_X12_must S R I a0 (1 : Int32)) (fun r33 => bd (g S R r33 a0) (fun r34 => bd (f_X12_tells S R r34 a0 (20005 : Int32)) (fun r35 => some r35))))) else some I))
set_option maxHeartbeats 4000000 in
theorem b_X12_one_b {E : Ev} {p : Program} {l : Launch} {e : Env} {s : State} {m : MethodId} {args : Array Value} {below : List Frame} {meth : Method} {c : Code} {dF dL : Nat} (C : Cx E RX12 cX12_one 2 p s m c) (hr : meth.sig.returnType = none) (hk : meth.locks = false) {S : Sh} {R : Rw} {r : Iw} {g : Sh → Rw → Iw → Nat → Option (Iw)} (hg : ∀ (S : Sh) (R : Rw) (I : Iw) (a0 : Nat) (r : Iw), g S R I a0 = some r → Mt E l yX12_one cX12_one 2 none dF dL [.ref (E.1 + a0)] S R I S R r none 0 0) : ∀ (I : Iw) (a0 : Nat), f_X12_one_b g S R   I a0 = some r → Wk E 2 p l e ({ frames := dF + 9, cells := 0, slots := 0, locals := dL + 263 } : Room) s m args below meth c 0 0 (MQ below (Qw E S R r none) args s 0 0 (fun q => E.1 ≤ q)) 0 [(0, .ref (E.1 + a0))] [] S R I := by
  intro I a0 h
  rw [f_X12_one_b] at h
  refine k_aloadn (pc := 0) C dX12_one_0 (i := 0) rfl 0 rfl ?_
  obtain ⟨hs10, h⟩ := gp_e h
  have hs1 := sok_e hs10
  refine k_getI (pc := 1) C lkF_RX12_140_12 hs1 ir_12_9 dX12_one_1 ?_
  refine k_if_eq (pc := 4) C dX12_one_4 (tgt := 8) (by decide) (fun hc2 => ?_) (fun hc2 => ?_)
  · rw [if_pos hc2] at h
    refine k_aloadn (pc := 8) C dX12_one_8 (i := 0) rfl 0 rfl ?_
    refine k_ldcS (pc := 9) C (i := 13) rfl dX12_one_9 ?_
    obtain ⟨r3, hr3, h⟩ := bd_e h
    refine k_V (pc := 11) (st := []) C (c_X12_isWord hr3) lkV_RX12_155 hs1 rfl rfl rfl (Nat.le_of_ble_eq_true rfl) (by show 6 + 1 ≤ dF + 9; omega) (by show 8 + (4 + 11) + 200 ≤ dL + 263; omega) (Nat.le_of_ble_eq_true rfl) (Nat.le_of_ble_eq_true rfl) dX12_one_11 ?_
    refine k_nf (cells2 := 0) (slots2 := 0) (st2 := [.int r3]) rfl rfl rfl ?_
    refine k_if_eq (pc := 14) C dX12_one_14 (tgt := 36) (by decide) (fun hc4 => ?_) (fun hc4 => ?_)
    · rw [if_pos hc4] at h
      refine k_aloadn (pc := 36) C dX12_one_36 (i := 0) rfl 0 rfl ?_
      refine k_bipush (pc := 37) C (v := (40 : Int32)) dX12_one_37 (by decide) ?_
      obtain ⟨r5, hr5, h⟩ := bd_e h
      refine k_V (pc := 39) (st := []) C (c_X12_isSign hr5) lkV_RX12_174 hs1 rfl rfl rfl (Nat.le_of_ble_eq_true rfl) (by show 0 + 1 ≤ dF + 9; omega) (by show 8 + (2 + 11) + 0 ≤ dL + 263; omega) (Nat.le_of_ble_eq_true rfl) (Nat.le_of_ble_eq_true rfl) dX12_one_39 ?_
      refine k_nf (cells2 := 0) (slots2 := 0) (st2 := [.int r5]) rfl rfl rfl ?_
      refine k_if_eq (pc := 42) C dX12_one_42 (tgt := 99) (by decide) (fun hc6 => ?_) (fun hc6 => ?_)
      · rw [if_pos hc6] at h
        refine k_aloadn (pc := 99) C dX12_one_99 (i := 0) rfl 0 rfl ?_
        obtain ⟨r7, hr7, h⟩ := bd_e h
        refine k_V (pc := 100) (st := []) C (c_X12_value hr7) lkV_RX12_183 hs1 rfl rfl rfl (Nat.le_of_ble_eq_true rfl) (by show 7 + 1 ≤ dF + 9; omega) (by show 8 + (3 + 11) + 223 ≤ dL + 263; omega) (Nat.le_of_ble_eq_true rfl) (Nat.le_of_ble_eq_true rfl) dX12_one_100 ?_
        refine k_nf (cells2 := 0) (slots2 := 0) (st2 := []) rfl rfl rfl ?_
        refine k_aloadn (pc := 103) C dX12_one_103 (i := 0) rfl 0 rfl ?_
        refine k_bipush (pc := 104) C (v := (60 : Int32)) dX12_one_104 (by decide) ?_
        obtain ⟨r8, hr8, h⟩ := bd_e h
        refine k_V (pc := 106) (st := []) C (c_X12_isSign hr8) lkV_RX12_174 hs1 rfl rfl rfl (Nat.le_of_ble_eq_true rfl) (by show 0 + 1 ≤ dF + 9; omega) (by show 8 + (2 + 11) + 0 ≤ dL + 263; omega) (Nat.le_of_ble_eq_true rfl) (Nat.le_of_ble_eq_true rfl) dX12_one_106 ?_
        refine k_nf (cells2 := 0) (slots2 := 0) (st2 := [.int r8]) rfl rfl rfl ?_
        refine k_if_eq (pc := 109) C dX12_one_109 (tgt := 118) (by decide) (fun hc9 => ?_) (fun hc9 => ?_)
        · rw [if_pos hc9] at h
          refine k_aloadn (pc := 118) C dX12_one_118 (i := 0) rfl 0 rfl ?_
          refine k_bipush (pc := 119) C (v := (61 : Int32)) dX12_one_119 (by decide) ?_
          obtain ⟨r10, hr10, h⟩ := bd_e h
          refine k_V (pc := 121) (st := []) C (c_X12_isSign hr10) lkV_RX12_174 hs1 rfl rfl rfl (Nat.le_of_ble_eq_true rfl) (by show 0 + 1 ≤ dF + 9; omega) (by show 8 + (2 + 11) + 0 ≤ dL + 263; omega) (Nat.le_of_ble_eq_true rfl) (Nat.le_of_ble_eq_true rfl) dX12_one_121 ?_
          refine k_nf (cells2 := 0) (slots2 := 0) (st2 := [.int r10]) rfl rfl rfl ?_
          refine k_if_eq (pc := 124) C dX12_one_124 (tgt := 133) (by decide) (fun hc11 => ?_) (fun hc11 => ?_)
          · rw [if_pos hc11] at h
            refine k_sipush (pc := 133) C (v := (20004 : Int32)) dX12_one_133 (by decide) ?_
            exact b_X12_one_136 C hr hk hg  _ _ _ h
          · rw [if_neg hc11] at h
            refine k_sipush (pc := 127) C (v := (20003 : Int32)) dX12_one_127 (by decide) ?_
            refine k_goto (pc := 130) C dX12_one_130 (tgt := 136) (by decide) ?_
            exact b_X12_one_136 C hr hk hg  _ _ _ h
        · rw [if_neg hc9] at h
          refine k_sipush (pc := 112) C (v := (20002 : Int32)) dX12_one_112 (by decide) ?_
          refine k_goto (pc := 115) C dX12_one_115 (tgt := 136) (by decide) ?_
          exact b_X12_one_136 C hr hk hg  _ _ _ h
      · rw [if_neg hc6] at h
        refine k_aloadn (pc := 45) C dX12_one_45 (i := 0) rfl 0 rfl ?_
        refine k_aloadn (pc := 46) C dX12_one_46 (i := 0) rfl 0 rfl ?_
        refine k_getI (pc := 47) C lkF_RX12_177_12 hs1 ir_12_10 dX12_one_47 ?_
        refine k_iconst (pc := 50) C (v := (3 : Int32)) dX12_one_50 (by decide) ?_
        refine k_icmp_ge (pc := 51) C dX12_one_51 (tgt := 58) (by decide) (fun hc24 => ?_) (fun hc24 => ?_)
        · rw [if_pos hc24] at h
          refine k_iconst (pc := 58) C (v := (0 : Int32)) dX12_one_58 (by decide) ?_
          exact b_X12_one_59 C hr hk hg  _ _ _ _ h
        · rw [if_neg hc24] at h
          refine k_iconst (pc := 54) C (v := (1 : Int32)) dX12_one_54 (by decide) ?_
          refine k_goto (pc := 55) C dX12_one_55 (tgt := 59) (by decide) ?_
          exact b_X12_one_59 C hr hk hg  _ _ _ _ h
    · rw [if_neg hc4] at h
      refine k_aloadn (pc := 17) C dX12_one_17 (i := 0) rfl 0 rfl ?_
      refine k_iconst (pc := 18) C (v := (1 : Int32)) dX12_one_18 (by decide) ?_
      obtain ⟨r33, hr33, h⟩ := bd_e h
      refine k_V (pc := 19) (st := []) C (c_X12_must hr33) lkV_RX12_159 hs1 rfl rfl rfl (Nat.le_of_ble_eq_true rfl) (by show 3 + 1 ≤ dF + 9; omega) (by show 8 + (2 + 11) + 63 ≤ dL + 263; omega) (Nat.le_of_ble_eq_true rfl) (Nat.le_of_ble_eq_true rfl) dX12_one_19 ?_
      refine k_nf (cells2 := 0) (slots2 := 0) (st2 := []) rfl rfl rfl ?_
      refine k_aloadn (pc := 22) C dX12_one_22 (i := 0) rfl 0 rfl ?_
      obtain ⟨r34, hr34, h⟩ := bd_e h
      refine k_V (pc := 23) (st := []) C (hg _ _ _ _ _ hr34) lkV_RX12_167 hs1 rfl rfl rfl (Nat.le_of_ble_eq_true rfl) (by show dF + 1 ≤ dF + 9; omega) (by show 8 + (2 + 11) + dL ≤ dL + 263; omega) (Nat.le_of_ble_eq_true rfl) (Nat.le_of_ble_eq_true rfl) dX12_one_23 ?_
      refine k_nf (cells2 := 0) (slots2 := 0) (st2 := []) rfl rfl rfl ?_
      refine k_aloadn (pc := 26) C dX12_one_26 (i := 0) rfl 0 rfl ?_
      refine k_sipush (pc := 27) C (v := (20005 : Int32)) dX12_one_27 (by decide) ?_
      obtain ⟨r35, hr35, h⟩ := bd_e h
      refine k_V (pc := 30) (st := []) C (c_X12_tells hr35) lkV_RX12_163 hs1 rfl rfl rfl (Nat.le_of_ble_eq_true rfl) (by show 0 + 1 ≤ dF + 9; omega) (by show 8 + (2 + 11) + 0 ≤ dL + 263; omega) (Nat.le_of_ble_eq_true rfl) (Nat.le_of_ble_eq_true rfl) dX12_one_30 ?_
      refine k_nf (cells2 := 0) (slots2 := 0) (st2 := []) rfl rfl rfl ?_
      refine k_goto (pc := 33) C dX12_one_33 (tgt := 182) (by decide) ?_
      have h := Option.some.inj h
      subst h
      exact k_vret (pc := 182) C hr hk dX12_one_182
  · rw [if_neg hc2] at h
    have h := Option.some.inj h
    subst h
    exact k_vret (pc := 7) C hr hk dX12_one_7
def f_X12_one : Nat → Sh → Rw → Iw → Nat → Option (Iw)
  | 0, _, _, _, _ => none
  | n + 1, S, R, I, a0 => f_X12_one_b (f_X12_one n) S R I a0
theorem c_X12_one_g {E : Ev} {l : Launch} : ∀ (n : Nat) (S : Sh) (R : Rw) (I : Iw) (a0 : Nat) (r : Iw), f_X12_one n S R I a0 = some r → Mt E l yX12_one cX12_one 2 none (9 * n) (263 * n) [.ref (E.1 + a0)] S R I S R r none 0 0 := by
  intro n
  induction n with
  | zero =>
    intro S R I a0 r h
    rw [f_X12_one] at h
    cases h
  | succ n ih =>
    intro S R I a0 r h
    rw [f_X12_one] at h
    exact mt_of (by decide) (Nat.le_of_ble_eq_true rfl) (fun p e s m args below meth c C hr hk hn => b_X12_one_b (dF := 9 * n) (dL := 263 * n) C hr hk ih _ _ h)
theorem c_X12_one {E : Ev} {l : Launch} (n : Nat) {S : Sh} {R : Rw} {I : Iw} {a0 : Nat} {r : Iw} (h : f_X12_one n S R I a0 = some r) : Mt E l yX12_one cX12_one 2 none (9 * n) (263 * n) [.ref (E.1 + a0)] S R I S R r none 0 0 := c_X12_one_g n S R I a0 r h
