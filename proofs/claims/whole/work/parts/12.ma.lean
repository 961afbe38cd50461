/-! X7_mayGo, X11_without, X7_putOut, X7_bringBack, X7_placeInLine, X11_isBetween, X11_isOrIsUnder, X5_valueOf, X5_compared -/
theorem lkV_RX7_88 : LkV RX7 88 RX7 yX7_topsOf cX7_topsOf 5 (some .int) 1 := ⟨(t2_in 108 (by decide +kernel) rfl), (t2_in 109 (by decide +kernel) rfl), (t2_in 110 (by decide +kernel) rfl), (t2_in 111 (by decide +kernel) rfl), (t1_in 2 (by decide +kernel) rfl), by decide, by decide +kernel⟩
theorem dX7_mayGo_0 : decode cX7_mayGo 0 = .ok (.aload_n 0, 1) := by decide +kernel
theorem dX7_mayGo_1 : decode cX7_mayGo 1 = .ok (.iload_n 1, 1) := by decide +kernel
theorem dX7_mayGo_2 : decode cX7_mayGo 2 = .ok (.invokevirtual 88, 3) := by decide +kernel
theorem dX7_mayGo_5 : decode cX7_mayGo 5 = .ok (.istore_n 3, 1) := by decide +kernel
theorem dX7_mayGo_6 : decode cX7_mayGo 6 = .ok (.aload_n 0, 1) := by decide +kernel
theorem dX7_mayGo_7 : decode cX7_mayGo 7 = .ok (.iload_n 2, 1) := by decide +kernel
theorem dX7_mayGo_8 : decode cX7_mayGo 8 = .ok (.invokevirtual 62, 3) := by decide +kernel
theorem dX7_mayGo_11 : decode cX7_mayGo 11 = .ok (.ifCond .eq 16, 3) := by decide +kernel
theorem dX7_mayGo_14 : decode cX7_mayGo 14 = .ok (.iload_n 3, 1) := by decide +kernel
theorem dX7_mayGo_15 : decode cX7_mayGo 15 = .ok (.aload_n 0, 1) := by decide +kernel
theorem dX7_mayGo_16 : decode cX7_mayGo 16 = .ok (.getfield 24, 3) := by decide +kernel
theorem dX7_mayGo_19 : decode cX7_mayGo 19 = .ok (.iload_n 2, 1) := by decide +kernel
theorem dX7_mayGo_20 : decode cX7_mayGo 20 = .ok (.iaload, 1) := by decide +kernel
theorem dX7_mayGo_21 : decode cX7_mayGo 21 = .ok (.iconst (-1), 1) := by decide +kernel
theorem dX7_mayGo_22 : decode cX7_mayGo 22 = .ok (.ixor, 1) := by decide +kernel
theorem dX7_mayGo_23 : decode cX7_mayGo 23 = .ok (.iand, 1) := by decide +kernel
theorem dX7_mayGo_24 : decode cX7_mayGo 24 = .ok (.goto 4, 3) := by decide +kernel
theorem dX7_mayGo_27 : decode cX7_mayGo 27 = .ok (.iload_n 3, 1) := by decide +kernel
theorem dX7_mayGo_28 : decode cX7_mayGo 28 = .ok (.ireturn, 1) := by decide +kernel
def f_X7_mayGo (S : Sh) (R : Rw) (I : Iw)  (a0 : Nat) (x1 : Int32) (x2 : Int32) : Option (Int32) := gp (sok S a0 7 16) (bd (f_X7_topsOf S R I a0 x1) (fun r2 => bd (f_X7_has S R I a0 x2) (fun r3 => (if r3 = 0 then some r2 else rl (R a0 4) (fun b5 => gp (aok S 20 b5 x2) (some (r2 &&& ((I b5 x2.toNatClampNeg) ^^^ (-1 : Int32)))))))))
set_option maxHeartbeats 4000000 in
theorem b_X7_mayGo {E : Ev} {p : Program} {l : Launch} {e : Env} {s : State} {m : MethodId} {args : Array Value} {below : List Frame} {meth : Method} {c : Code} (C : Cx E RX7 cX7_mayGo 4 p s m c) (hr : meth.sig.returnType = (some .int)) (hk : meth.locks = false) {S : Sh} {R : Rw} {I : Iw} {r : Int32}  : ∀ (a0 : Nat) (x1 : Int32) (x2 : Int32), f_X7_mayGo S R I   a0 x1 x2 = some r → Wk E 4 p l e ({ frames := 2, cells := 0, slots := 0, locals := 45 } : Room) s m args below meth c 0 0 (MQ below (Qw E S R I (some (.int r))) args s 0 0 (fun q => E.1 ≤ q)) 0 [(0, .ref (E.1 + a0)), (1, .int x1), (2, .int x2)] [] S R I := by
  intro a0 x1 x2 h
  rw [f_X7_mayGo] at h
  refine k_aloadn (pc := 0) C dX7_mayGo_0 (i := 0) rfl 0 rfl ?_
  refine k_iloadn (pc := 1) C dX7_mayGo_1 (i := 1) rfl 1 rfl ?_
  obtain ⟨hs10, h⟩ := gp_e h
  have hs1 := sok_e hs10
  obtain ⟨r2, hr2, h⟩ := bd_e h
  refine k_V (pc := 2) (st := []) C (c_X7_topsOf hr2) lkV_RX7_88 hs1 rfl rfl rfl (Nat.le_of_ble_eq_true rfl) (Nat.le_of_ble_eq_true rfl) (Nat.le_of_ble_eq_true rfl) (Nat.le_of_ble_eq_true rfl) (Nat.le_of_ble_eq_true rfl) dX7_mayGo_2 ?_
  refine k_nf (cells2 := 0) (slots2 := 0) (st2 := [.int r2]) rfl rfl rfl ?_
  refine k_istoren (pc := 5) C dX7_mayGo_5 (i := 3) rfl (by decide) (L2 := [(0, .ref (E.1 + a0)), (1, .int x1), (2, .int x2), (3, .int r2)]) rfl ?_
  refine k_aloadn (pc := 6) C dX7_mayGo_6 (i := 0) rfl 0 rfl ?_
  refine k_iloadn (pc := 7) C dX7_mayGo_7 (i := 2) rfl 2 rfl ?_
  obtain ⟨r3, hr3, h⟩ := bd_e h
  refine k_V (pc := 8) (st := []) C (c_X7_has hr3) lkV_RX7_62 hs1 rfl rfl rfl (Nat.le_of_ble_eq_true rfl) (Nat.le_of_ble_eq_true rfl) (Nat.le_of_ble_eq_true rfl) (Nat.le_of_ble_eq_true rfl) (Nat.le_of_ble_eq_true rfl) dX7_mayGo_8 ?_
  refine k_nf (cells2 := 0) (slots2 := 0) (st2 := [.int r3]) rfl rfl rfl ?_
  refine k_if_eq (pc := 11) C dX7_mayGo_11 (tgt := 27) (by decide) (fun hc4 => ?_) (fun hc4 => ?_)
  · rw [if_pos hc4] at h
    refine k_iloadn (pc := 27) C dX7_mayGo_27 (i := 3) rfl 3 rfl ?_
    cases h
    exact k_iret (pc := 28) C hr hk dX7_mayGo_28
  · rw [if_neg hc4] at h
    refine k_iloadn (pc := 14) C dX7_mayGo_14 (i := 3) rfl 3 rfl ?_
    refine k_aloadn (pc := 15) C dX7_mayGo_15 (i := 0) rfl 0 rfl ?_
    obtain ⟨b5, hb5, h⟩ := rl_e h
    refine k_getR (pc := 16) C lkF_RX7_24_7 hs1 ir_7_4 hb5 dX7_mayGo_16 ?_
    refine k_iloadn (pc := 19) C dX7_mayGo_19 (i := 2) rfl 2 rfl ?_
    obtain ⟨ha6, h⟩ := gp_e h
    refine k_iald (pc := 20) C ha6 dX7_mayGo_20 ?_
    refine k_iconst (pc := 21) C (v := (-1 : Int32)) dX7_mayGo_21 (by decide) ?_
    refine k_ixor (pc := 22) C dX7_mayGo_22 ?_
    refine k_iand (pc := 23) C dX7_mayGo_23 ?_
    refine k_goto (pc := 24) C dX7_mayGo_24 (tgt := 28) (by decide) ?_
    cases h
    exact k_iret (pc := 28) C hr hk dX7_mayGo_28
theorem c_X7_mayGo {E : Ev} {l : Launch} {S : Sh} {R : Rw} {I : Iw} {a0 : Nat} {x1 : Int32} {x2 : Int32} {r : Int32} (h : f_X7_mayGo S R I a0 x1 x2 = some r) : Mt E l yX7_mayGo cX7_mayGo 4 (some .int) 2 45 [.ref (E.1 + a0), .int x1, .int x2] S R I S R I (some (.int r)) 0 0 := mt_of (by decide) (Nat.le_of_ble_eq_true rfl) (fun p e s m args below meth c C hr hk hn => b_X7_mayGo C hr hk _ _ _ h)
theorem dX11_without_0 : decode cX11_without 0 = .ok (.iload_n 1, 1) := by decide +kernel
theorem dX11_without_1 : decode cX11_without 1 = .ok (.ifCond .lt 19, 3) := by decide +kernel
theorem dX11_without_4 : decode cX11_without 4 = .ok (.iload_n 1, 1) := by decide +kernel
theorem dX11_without_5 : decode cX11_without 5 = .ok (.bipush 9, 2) := by decide +kernel
theorem dX11_without_7 : decode cX11_without 7 = .ok (.if_icmp .gt 13, 3) := by decide +kernel
theorem dX11_without_10 : decode cX11_without 10 = .ok (.iload_n 0, 1) := by decide +kernel
theorem dX11_without_11 : decode cX11_without 11 = .ok (.iconst 1, 1) := by decide +kernel
theorem dX11_without_12 : decode cX11_without 12 = .ok (.iload_n 1, 1) := by decide +kernel
theorem dX11_without_13 : decode cX11_without 13 = .ok (.ishl, 1) := by decide +kernel
theorem dX11_without_14 : decode cX11_without 14 = .ok (.iconst (-1), 1) := by decide +kernel
theorem dX11_without_15 : decode cX11_without 15 = .ok (.ixor, 1) := by decide +kernel
theorem dX11_without_16 : decode cX11_without 16 = .ok (.iand, 1) := by decide +kernel
theorem dX11_without_17 : decode cX11_without 17 = .ok (.goto 4, 3) := by decide +kernel
theorem dX11_without_20 : decode cX11_without 20 = .ok (.iload_n 0, 1) := by decide +kernel
theorem dX11_without_21 : decode cX11_without 21 = .ok (.ireturn, 1) := by decide +kernel
def f_X11_without (S : Sh) (R : Rw) (I : Iw)  (x0 : Int32) (x1 : Int32) : Option (Int32) := (if x1 < 0 then some x0 else (if (9 : Int32) < x1 then some x0 else some (x0 &&& (((1 : Int32) <<< (x1 &&& 31)) ^^^ (-1 : Int32)))))
set_option maxHeartbeats 4000000 in
theorem b_X11_without {E : Ev} {p : Program} {l : Launch} {e : Env} {s : State} {m : MethodId} {args : Array Value} {below : List Frame} {meth : Method} {c : Code} (C : Cx E RX11 cX11_without 2 p s m c) (hr : meth.sig.returnType = (some .int)) (hk : meth.locks = false) {S : Sh} {R : Rw} {I : Iw} {r : Int32}  : ∀ (x0 : Int32) (x1 : Int32), f_X11_without S R I   x0 x1 = some r → Wk E 2 p l e ({ frames := 0, cells := 0, slots := 0, locals := 0 } : Room) s m args below meth c 0 0 (MQ below (Qw E S R I (some (.int r))) args s 0 0 (fun q => E.1 ≤ q)) 0 [(0, .int x0), (1, .int x1)] [] S R I := by
  intro x0 x1 h
  rw [f_X11_without] at h
  refine k_iloadn (pc := 0) C dX11_without_0 (i := 1) rfl 1 rfl ?_
  refine k_if_lt (pc := 1) C dX11_without_1 (tgt := 20) (by decide) (fun hc1 => ?_) (fun hc1 => ?_)
  · rw [if_pos hc1] at h
    refine k_iloadn (pc := 20) C dX11_without_20 (i := 0) rfl 0 rfl ?_
    cases h
    exact k_iret (pc := 21) C hr hk dX11_without_21
  · rw [if_neg hc1] at h
    refine k_iloadn (pc := 4) C dX11_without_4 (i := 1) rfl 1 rfl ?_
    refine k_bipush (pc := 5) C (v := (9 : Int32)) dX11_without_5 (by decide) ?_
    refine k_icmp_gt (pc := 7) C dX11_without_7 (tgt := 20) (by decide) (fun hc2 => ?_) (fun hc2 => ?_)
    · rw [if_pos hc2] at h
      refine k_iloadn (pc := 20) C dX11_without_20 (i := 0) rfl 0 rfl ?_
      cases h
      exact k_iret (pc := 21) C hr hk dX11_without_21
    · rw [if_neg hc2] at h
      refine k_iloadn (pc := 10) C dX11_without_10 (i := 0) rfl 0 rfl ?_
      refine k_iconst (pc := 11) C (v := (1 : Int32)) dX11_without_11 (by decide) ?_
      refine k_iloadn (pc := 12) C dX11_without_12 (i := 1) rfl 1 rfl ?_
      refine k_ishl (pc := 13) C dX11_without_13 ?_
      refine k_iconst (pc := 14) C (v := (-1 : Int32)) dX11_without_14 (by decide) ?_
      refine k_ixor (pc := 15) C dX11_without_15 ?_
      refine k_iand (pc := 16) C dX11_without_16 ?_
      refine k_goto (pc := 17) C dX11_without_17 (tgt := 21) (by decide) ?_
      cases h
      exact k_iret (pc := 21) C hr hk dX11_without_21
theorem c_X11_without {E : Ev} {l : Launch} {S : Sh} {R : Rw} {I : Iw} {x0 : Int32} {x1 : Int32} {r : Int32} (h : f_X11_without S R I x0 x1 = some r) : Mt E l yX11_without cX11_without 2 (some .int) 0 0 [.int x0, .int x1] S R I S R I (some (.int r)) 0 0 := mt_of (by decide) (Nat.le_of_ble_eq_true rfl) (fun p e s m args below meth c C hr hk hn => b_X11_without C hr hk _ _ h)
theorem lkSN_RX7_91 : LkSN RX7 91 yX11_without "UnlikeNeighbours" cX11_without 2 (some .int) 2 := ⟨l3_in 62 (by decide +kernel), (t3_in 63 (by decide +kernel) rfl), (t3_in 64 (by decide +kernel) rfl), (t1_in 1 (by decide +kernel) rfl), by decide, by decide +kernel⟩
theorem lkP_RX7_82_7 : LkP RX7 82 7 8 .int := ⟨RX7, TX7, 16, "UnlikeNeighbours$Shed", fc7, by decide, (t1_in 89 (by decide +kernel) rfl), Or.inl rfl, rfl, by decide +kernel⟩
theorem dX7_putOut_0 : decode cX7_putOut 0 = .ok (.aload_n 0, 1) := by decide +kernel
theorem dX7_putOut_1 : decode cX7_putOut 1 = .ok (.iload_n 1, 1) := by decide +kernel
theorem dX7_putOut_2 : decode cX7_putOut 2 = .ok (.invokevirtual 62, 3) := by decide +kernel
theorem dX7_putOut_5 : decode cX7_putOut 5 = .ok (.ifCond .eq 44, 3) := by decide +kernel
theorem dX7_putOut_8 : decode cX7_putOut 8 = .ok (.aload_n 0, 1) := by decide +kernel
theorem dX7_putOut_9 : decode cX7_putOut 9 = .ok (.getfield 82, 3) := by decide +kernel
theorem dX7_putOut_12 : decode cX7_putOut 12 = .ok (.bipush 9, 2) := by decide +kernel
theorem dX7_putOut_14 : decode cX7_putOut 14 = .ok (.if_icmp .ge 35, 3) := by decide +kernel
theorem dX7_putOut_17 : decode cX7_putOut 17 = .ok (.aload_n 0, 1) := by decide +kernel
theorem dX7_putOut_18 : decode cX7_putOut 18 = .ok (.aload_n 0, 1) := by decide +kernel
theorem dX7_putOut_19 : decode cX7_putOut 19 = .ok (.getfield 53, 3) := by decide +kernel
theorem dX7_putOut_22 : decode cX7_putOut 22 = .ok (.iload_n 1, 1) := by decide +kernel
theorem dX7_putOut_23 : decode cX7_putOut 23 = .ok (.invokestatic 91, 3) := by decide +kernel
theorem dX7_putOut_26 : decode cX7_putOut 26 = .ok (.putfield 53, 3) := by decide +kernel
theorem dX7_putOut_29 : decode cX7_putOut 29 = .ok (.aload_n 0, 1) := by decide +kernel
theorem dX7_putOut_30 : decode cX7_putOut 30 = .ok (.getfield 27, 3) := by decide +kernel
theorem dX7_putOut_33 : decode cX7_putOut 33 = .ok (.aload_n 0, 1) := by decide +kernel
theorem dX7_putOut_34 : decode cX7_putOut 34 = .ok (.getfield 82, 3) := by decide +kernel
theorem dX7_putOut_37 : decode cX7_putOut 37 = .ok (.iload_n 1, 1) := by decide +kernel
theorem dX7_putOut_38 : decode cX7_putOut 38 = .ok (.iastore, 1) := by decide +kernel
theorem dX7_putOut_39 : decode cX7_putOut 39 = .ok (.aload_n 0, 1) := by decide +kernel
theorem dX7_putOut_40 : decode cX7_putOut 40 = .ok (.dup, 1) := by decide +kernel
theorem dX7_putOut_41 : decode cX7_putOut 41 = .ok (.getfield 82, 3) := by decide +kernel
theorem dX7_putOut_44 : decode cX7_putOut 44 = .ok (.iconst 1, 1) := by decide +kernel
theorem dX7_putOut_45 : decode cX7_putOut 45 = .ok (.iadd, 1) := by decide +kernel
theorem dX7_putOut_46 : decode cX7_putOut 46 = .ok (.putfield 82, 3) := by decide +kernel
theorem dX7_putOut_49 : decode cX7_putOut 49 = .ok (.return_, 1) := by decide +kernel
def f_X7_putOut (S : Sh) (R : Rw)  (I : Iw) (a0 : Nat) (x1 : Int32) : Option (Iw) := gp (sok S a0 7 16) (bd (f_X7_has S R I a0 x1) (fun r2 => (if r2 = 0 then some I else (if (9 : Int32) ≤ (I a0 8) then some I else bd (f_X11_without S R I (I a0 6) x1) (fun r5 => lt (up2 I a0 6 r5) (fun I6 => rl (R a0 7) (fun b7 => gp (aok S 20 b7 (I6 a0 8)) (lt (up2 I6 b7 (I6 a0 8).toNatClampNeg x1) (fun I9 => lt (up2 I9 a0 8 ((I9 a0 8) + (1 : Int32))) (fun I10 => some I10))))))))))
set_option maxHeartbeats 4000000 in
theorem b_X7_putOut {E : Ev} {p : Program} {l : Launch} {e : Env} {s : State} {m : MethodId} {args : Array Value} {below : List Frame} {meth : Method} {c : Code} (C : Cx E RX7 cX7_putOut 2 p s m c) (hr : meth.sig.returnType = none) (hk : meth.locks = false) {S : Sh} {R : Rw} {r : Iw}  : ∀ (I : Iw) (a0 : Nat) (x1 : Int32), f_X7_putOut S R   I a0 x1 = some r → Wk E 2 p l e ({ frames := 1, cells := 0, slots := 0, locals := 21 } : Room) s m args below meth c 0 0 (MQ below (Qw E S R r none) args s 0 0 (fun q => E.1 ≤ q)) 0 [(0, .ref (E.1 + a0)), (1, .int x1)] [] S R I := by
  intro I a0 x1 h
  rw [f_X7_putOut] at h
  refine k_aloadn (pc := 0) C dX7_putOut_0 (i := 0) rfl 0 rfl ?_
  refine k_iloadn (pc := 1) C dX7_putOut_1 (i := 1) rfl 1 rfl ?_
  obtain ⟨hs10, h⟩ := gp_e h
  have hs1 := sok_e hs10
  obtain ⟨r2, hr2, h⟩ := bd_e h
  refine k_V (pc := 2) (st := []) C (c_X7_has hr2) lkV_RX7_62 hs1 rfl rfl rfl (Nat.le_of_ble_eq_true rfl) (Nat.le_of_ble_eq_true rfl) (Nat.le_of_ble_eq_true rfl) (Nat.le_of_ble_eq_true rfl) (Nat.le_of_ble_eq_true rfl) dX7_putOut_2 ?_
  refine k_nf (cells2 := 0) (slots2 := 0) (st2 := [.int r2]) rfl rfl rfl ?_
  refine k_if_eq (pc := 5) C dX7_putOut_5 (tgt := 49) (by decide) (fun hc3 => ?_) (fun hc3 => ?_)
  · rw [if_pos hc3] at h
    cases h
    exact k_vret (pc := 49) C hr hk dX7_putOut_49
  · rw [if_neg hc3] at h
    refine k_aloadn (pc := 8) C dX7_putOut_8 (i := 0) rfl 0 rfl ?_
    refine k_getI (pc := 9) C lkF_RX7_82_7 hs1 ir_7_8 dX7_putOut_9 ?_
    refine k_bipush (pc := 12) C (v := (9 : Int32)) dX7_putOut_12 (by decide) ?_
    refine k_icmp_ge (pc := 14) C dX7_putOut_14 (tgt := 49) (by decide) (fun hc4 => ?_) (fun hc4 => ?_)
    · rw [if_pos hc4] at h
      cases h
      exact k_vret (pc := 49) C hr hk dX7_putOut_49
    · rw [if_neg hc4] at h
      refine k_aloadn (pc := 17) C dX7_putOut_17 (i := 0) rfl 0 rfl ?_
      refine k_aloadn (pc := 18) C dX7_putOut_18 (i := 0) rfl 0 rfl ?_
      refine k_getI (pc := 19) C lkF_RX7_53_7 hs1 ir_7_6 dX7_putOut_19 ?_
      refine k_iloadn (pc := 22) C dX7_putOut_22 (i := 1) rfl 1 rfl ?_
      obtain ⟨r5, hr5, h⟩ := bd_e h
      refine k_SN (pc := 23) (st := [.ref (E.1 + a0)]) C (c_X11_without hr5) lkSN_RX7_91 rfl rfl (Nat.le_of_ble_eq_true rfl) (Nat.le_of_ble_eq_true rfl) (Nat.le_of_ble_eq_true rfl) (Nat.le_of_ble_eq_true rfl) (Nat.le_of_ble_eq_true rfl) dX7_putOut_23 ?_
      refine k_nf (cells2 := 0) (slots2 := 0) (st2 := [.int r5, .ref (E.1 + a0)]) rfl rfl rfl ?_
      obtain ⟨I6, eI6, h⟩ := lt_e h
      refine k_putI (pc := 26) C lkP_RX7_53_7 hs1 ir_7_6 dX7_putOut_26 ?_
      rw [← eI6]
      refine k_aloadn (pc := 29) C dX7_putOut_29 (i := 0) rfl 0 rfl ?_
      obtain ⟨b7, hb7, h⟩ := rl_e h
      refine k_getR (pc := 30) C lkF_RX7_27_7 hs1 ir_7_7 hb7 dX7_putOut_30 ?_
      refine k_aloadn (pc := 33) C dX7_putOut_33 (i := 0) rfl 0 rfl ?_
      refine k_getI (pc := 34) C lkF_RX7_82_7 hs1 ir_7_8 dX7_putOut_34 ?_
      refine k_iloadn (pc := 37) C dX7_putOut_37 (i := 1) rfl 1 rfl ?_
      obtain ⟨ha8, h⟩ := gp_e h
      obtain ⟨I9, eI9, h⟩ := lt_e h
      refine k_iast (pc := 38) C ha8 dX7_putOut_38 ?_
      rw [← eI9]
      refine k_aloadn (pc := 39) C dX7_putOut_39 (i := 0) rfl 0 rfl ?_
      refine k_dup (pc := 40) C dX7_putOut_40 rfl ?_
      refine k_getI (pc := 41) C lkF_RX7_82_7 hs1 ir_7_8 dX7_putOut_41 ?_
      refine k_iconst (pc := 44) C (v := (1 : Int32)) dX7_putOut_44 (by decide) ?_
      refine k_iadd (pc := 45) C dX7_putOut_45 ?_
      obtain ⟨I10, eI10, h⟩ := lt_e h
      refine k_putI (pc := 46) C lkP_RX7_82_7 hs1 ir_7_8 dX7_putOut_46 ?_
      rw [← eI10]
      cases h
      exact k_vret (pc := 49) C hr hk dX7_putOut_49
theorem c_X7_putOut {E : Ev} {l : Launch} {S : Sh} {R : Rw} {I : Iw} {a0 : Nat} {x1 : Int32} {r : Iw} (h : f_X7_putOut S R I a0 x1 = some r) : Mt E l yX7_putOut cX7_putOut 2 none 1 21 [.ref (E.1 + a0), .int x1] S R I S R r none 0 0 := mt_of (by decide) (Nat.le_of_ble_eq_true rfl) (fun p e s m args below meth c C hr hk hn => b_X7_putOut C hr hk _ _ _ h)
theorem lkV_RX7_95 : LkV RX7 95 RX7 yX7_last cX7_last 1 (some .int) 0 := ⟨(t3_in 73 (by decide +kernel) rfl), (t2_in 101 (by decide +kernel) rfl), (t2_in 102 (by decide +kernel) rfl), (t2_in 103 (by decide +kernel) rfl), (t1_in 2 (by decide +kernel) rfl), by decide, by decide +kernel⟩
theorem dX7_bringBack_0 : decode cX7_bringBack 0 = .ok (.aload_n 0, 1) := by decide +kernel
theorem dX7_bringBack_1 : decode cX7_bringBack 1 = .ok (.invokevirtual 95, 3) := by decide +kernel
theorem dX7_bringBack_4 : decode cX7_bringBack 4 = .ok (.istore_n 1, 1) := by decide +kernel
theorem dX7_bringBack_5 : decode cX7_bringBack 5 = .ok (.aload_n 0, 1) := by decide +kernel
theorem dX7_bringBack_6 : decode cX7_bringBack 6 = .ok (.iload_n 1, 1) := by decide +kernel
theorem dX7_bringBack_7 : decode cX7_bringBack 7 = .ok (.invokevirtual 62, 3) := by decide +kernel
theorem dX7_bringBack_10 : decode cX7_bringBack 10 = .ok (.ifCond .ne 6, 3) := by decide +kernel
theorem dX7_bringBack_13 : decode cX7_bringBack 13 = .ok (.bipush (-3), 2) := by decide +kernel
theorem dX7_bringBack_15 : decode cX7_bringBack 15 = .ok (.ireturn, 1) := by decide +kernel
theorem dX7_bringBack_16 : decode cX7_bringBack 16 = .ok (.aload_n 0, 1) := by decide +kernel
theorem dX7_bringBack_17 : decode cX7_bringBack 17 = .ok (.dup, 1) := by decide +kernel
theorem dX7_bringBack_18 : decode cX7_bringBack 18 = .ok (.getfield 82, 3) := by decide +kernel
theorem dX7_bringBack_21 : decode cX7_bringBack 21 = .ok (.iconst 1, 1) := by decide +kernel
theorem dX7_bringBack_22 : decode cX7_bringBack 22 = .ok (.isub, 1) := by decide +kernel
theorem dX7_bringBack_23 : decode cX7_bringBack 23 = .ok (.putfield 82, 3) := by decide +kernel
theorem dX7_bringBack_26 : decode cX7_bringBack 26 = .ok (.aload_n 0, 1) := by decide +kernel
theorem dX7_bringBack_27 : decode cX7_bringBack 27 = .ok (.dup, 1) := by decide +kernel
theorem dX7_bringBack_28 : decode cX7_bringBack 28 = .ok (.getfield 53, 3) := by decide +kernel
theorem dX7_bringBack_31 : decode cX7_bringBack 31 = .ok (.iconst 1, 1) := by decide +kernel
theorem dX7_bringBack_32 : decode cX7_bringBack 32 = .ok (.iload_n 1, 1) := by decide +kernel
theorem dX7_bringBack_33 : decode cX7_bringBack 33 = .ok (.ishl, 1) := by decide +kernel
theorem dX7_bringBack_34 : decode cX7_bringBack 34 = .ok (.ior, 1) := by decide +kernel
theorem dX7_bringBack_35 : decode cX7_bringBack 35 = .ok (.putfield 53, 3) := by decide +kernel
theorem dX7_bringBack_38 : decode cX7_bringBack 38 = .ok (.iload_n 1, 1) := by decide +kernel
theorem dX7_bringBack_39 : decode cX7_bringBack 39 = .ok (.ireturn, 1) := by decide +kernel
def f_X7_bringBack (S : Sh) (R : Rw)  (I : Iw) (a0 : Nat) : Option (Iw × Int32) := gp (sok S a0 7 16) (bd (f_X7_last S R I a0) (fun r2 => bd (f_X7_has S R I a0 r2) (fun r3 => (if r3 = 0 then some (I, (-3 : Int32)) else lt (up2 I a0 8 ((I a0 8) - (1 : Int32))) (fun I5 => lt (up2 I5 a0 6 ((I5 a0 6) ||| ((1 : Int32) <<< (r2 &&& 31)))) (fun I6 => some (I6, r2)))))))
set_option maxHeartbeats 4000000 in
theorem b_X7_bringBack {E : Ev} {p : Program} {l : Launch} {e : Env} {s : State} {m : MethodId} {args : Array Value} {below : List Frame} {meth : Method} {c : Code} (C : Cx E RX7 cX7_bringBack 2 p s m c) (hr : meth.sig.returnType = (some .int)) (hk : meth.locks = false) {S : Sh} {R : Rw} {r : Iw × Int32}  : ∀ (I : Iw) (a0 : Nat), f_X7_bringBack S R   I a0 = some r → Wk E 2 p l e ({ frames := 1, cells := 0, slots := 0, locals := 21 } : Room) s m args below meth c 0 0 (MQ below (Qw E S R r.1 (some (.int r.2))) args s 0 0 (fun q => E.1 ≤ q)) 0 [(0, .ref (E.1 + a0))] [] S R I := by
  intro I a0 h
  rw [f_X7_bringBack] at h
  refine k_aloadn (pc := 0) C dX7_bringBack_0 (i := 0) rfl 0 rfl ?_
  obtain ⟨hs10, h⟩ := gp_e h
  have hs1 := sok_e hs10
  obtain ⟨r2, hr2, h⟩ := bd_e h
  refine k_V (pc := 1) (st := []) C (c_X7_last hr2) lkV_RX7_95 hs1 rfl rfl rfl (Nat.le_of_ble_eq_true rfl) (Nat.le_of_ble_eq_true rfl) (Nat.le_of_ble_eq_true rfl) (Nat.le_of_ble_eq_true rfl) (Nat.le_of_ble_eq_true rfl) dX7_bringBack_1 ?_
  refine k_nf (cells2 := 0) (slots2 := 0) (st2 := [.int r2]) rfl rfl rfl ?_
  refine k_istoren (pc := 4) C dX7_bringBack_4 (i := 1) rfl (by decide) (L2 := [(0, .ref (E.1 + a0)), (1, .int r2)]) rfl ?_
  refine k_aloadn (pc := 5) C dX7_bringBack_5 (i := 0) rfl 0 rfl ?_
  refine k_iloadn (pc := 6) C dX7_bringBack_6 (i := 1) rfl 1 rfl ?_
  obtain ⟨r3, hr3, h⟩ := bd_e h
  refine k_V (pc := 7) (st := []) C (c_X7_has hr3) lkV_RX7_62 hs1 rfl rfl rfl (Nat.le_of_ble_eq_true rfl) (Nat.le_of_ble_eq_true rfl) (Nat.le_of_ble_eq_true rfl) (Nat.le_of_ble_eq_true rfl) (Nat.le_of_ble_eq_true rfl) dX7_bringBack_7 ?_
  refine k_nf (cells2 := 0) (slots2 := 0) (st2 := [.int r3]) rfl rfl rfl ?_
  refine k_if_ne (pc := 10) C dX7_bringBack_10 (tgt := 16) (by decide) (fun hc4 => ?_) (fun hc4 => ?_)
  · rw [if_neg hc4] at h
    refine k_aloadn (pc := 16) C dX7_bringBack_16 (i := 0) rfl 0 rfl ?_
    refine k_dup (pc := 17) C dX7_bringBack_17 rfl ?_
    refine k_getI (pc := 18) C lkF_RX7_82_7 hs1 ir_7_8 dX7_bringBack_18 ?_
    refine k_iconst (pc := 21) C (v := (1 : Int32)) dX7_bringBack_21 (by decide) ?_
    refine k_isub (pc := 22) C dX7_bringBack_22 ?_
    obtain ⟨I5, eI5, h⟩ := lt_e h
    refine k_putI (pc := 23) C lkP_RX7_82_7 hs1 ir_7_8 dX7_bringBack_23 ?_
    rw [← eI5]
    refine k_aloadn (pc := 26) C dX7_bringBack_26 (i := 0) rfl 0 rfl ?_
    refine k_dup (pc := 27) C dX7_bringBack_27 rfl ?_
    refine k_getI (pc := 28) C lkF_RX7_53_7 hs1 ir_7_6 dX7_bringBack_28 ?_
    refine k_iconst (pc := 31) C (v := (1 : Int32)) dX7_bringBack_31 (by decide) ?_
    refine k_iloadn (pc := 32) C dX7_bringBack_32 (i := 1) rfl 1 rfl ?_
    refine k_ishl (pc := 33) C dX7_bringBack_33 ?_
    refine k_ior (pc := 34) C dX7_bringBack_34 ?_
    obtain ⟨I6, eI6, h⟩ := lt_e h
    refine k_putI (pc := 35) C lkP_RX7_53_7 hs1 ir_7_6 dX7_bringBack_35 ?_
    rw [← eI6]
    refine k_iloadn (pc := 38) C dX7_bringBack_38 (i := 1) rfl 1 rfl ?_
    cases h
    exact k_iret (pc := 39) C hr hk dX7_bringBack_39
  · rw [if_pos hc4] at h
    refine k_bipush (pc := 13) C (v := (-3 : Int32)) dX7_bringBack_13 (by decide) ?_
    cases h
    exact k_iret (pc := 15) C hr hk dX7_bringBack_15
theorem c_X7_bringBack {E : Ev} {l : Launch} {S : Sh} {R : Rw} {I : Iw} {a0 : Nat} {r : Iw × Int32} (h : f_X7_bringBack S R I a0 = some r) : Mt E l yX7_bringBack cX7_bringBack 2 (some .int) 1 21 [.ref (E.1 + a0)] S R I S R r.1 (some (.int r.2)) 0 0 := mt_of (by decide) (Nat.le_of_ble_eq_true rfl) (fun p e s m args below meth c C hr hk hn => b_X7_bringBack C hr hk _ _ h)
theorem dX7_placeInLine_0 : decode cX7_placeInLine 0 = .ok (.iconst 0, 1) := by decide +kernel
theorem dX7_placeInLine_1 : decode cX7_placeInLine 1 = .ok (.istore_n 2, 1) := by decide +kernel
theorem dX7_placeInLine_2 : decode cX7_placeInLine 2 = .ok (.iload_n 2, 1) := by decide +kernel
theorem dX7_placeInLine_3 : decode cX7_placeInLine 3 = .ok (.aload_n 0, 1) := by decide +kernel
theorem dX7_placeInLine_4 : decode cX7_placeInLine 4 = .ok (.getfield 82, 3) := by decide +kernel
theorem dX7_placeInLine_7 : decode cX7_placeInLine 7 = .ok (.if_icmp .ge 21, 3) := by decide +kernel
theorem dX7_placeInLine_10 : decode cX7_placeInLine 10 = .ok (.aload_n 0, 1) := by decide +kernel
theorem dX7_placeInLine_11 : decode cX7_placeInLine 11 = .ok (.getfield 27, 3) := by decide +kernel
theorem dX7_placeInLine_14 : decode cX7_placeInLine 14 = .ok (.iload_n 2, 1) := by decide +kernel
theorem dX7_placeInLine_15 : decode cX7_placeInLine 15 = .ok (.iaload, 1) := by decide +kernel
theorem dX7_placeInLine_16 : decode cX7_placeInLine 16 = .ok (.iload_n 1, 1) := by decide +kernel
theorem dX7_placeInLine_17 : decode cX7_placeInLine 17 = .ok (.if_icmp .ne 5, 3) := by decide +kernel
theorem dX7_placeInLine_20 : decode cX7_placeInLine 20 = .ok (.iload_n 2, 1) := by decide +kernel
theorem dX7_placeInLine_21 : decode cX7_placeInLine 21 = .ok (.ireturn, 1) := by decide +kernel
theorem dX7_placeInLine_22 : decode cX7_placeInLine 22 = .ok (.iinc 2 1, 3) := by decide +kernel
theorem dX7_placeInLine_25 : decode cX7_placeInLine 25 = .ok (.goto (-23), 3) := by decide +kernel
theorem dX7_placeInLine_28 : decode cX7_placeInLine 28 = .ok (.bipush (-9), 2) := by decide +kernel
theorem dX7_placeInLine_30 : decode cX7_placeInLine 30 = .ok (.ireturn, 1) := by decide +kernel
def f_X7_placeInLine_2 (S : Sh) (R : Rw) (I : Iw)  : Nat → Nat → Int32 → Int32 → Option (Int32)
  | 0, _, _, _ => none
  | n + 1, a0, x1, x2 => gp (sok S a0 7 16) ((if (I a0 8) ≤ x2 then some (-9 : Int32) else rl (R a0 7) (fun b3 => gp (aok S 20 b3 x2) ((if (I b3 x2.toNatClampNeg) = x1 then some x2 else f_X7_placeInLine_2 S R I  n a0 x1 (x2 + (1 : Int32)))))))
set_option maxHeartbeats 4000000 in
theorem b_X7_placeInLine_2 {E : Ev} {p : Program} {l : Launch} {e : Env} {s : State} {m : MethodId} {args : Array Value} {below : List Frame} {meth : Method} {c : Code} (C : Cx E RX7 cX7_placeInLine 3 p s m c) (hr : meth.sig.returnType = (some .int)) (hk : meth.locks = false) {S : Sh} {R : Rw} {I : Iw} {r : Int32}  : ∀ (n : Nat) (a0 : Nat) (x1 : Int32) (x2 : Int32), f_X7_placeInLine_2 S R I  n a0 x1 x2 = some r → Wk E 3 p l e ({ frames := 0, cells := 0, slots := 0, locals := 0 } : Room) s m args below meth c 0 0 (MQ below (Qw E S R I (some (.int r))) args s 0 0 (fun q => E.1 ≤ q)) 2 [(0, .ref (E.1 + a0)), (1, .int x1), (2, .int x2)] [] S R I := by
  intro n
  induction n with
  | zero =>
    intro a0 x1 x2 h
    rw [f_X7_placeInLine_2] at h
    cases h
  | succ n ih =>
    intro a0 x1 x2 h
    rw [f_X7_placeInLine_2] at h
    refine k_iloadn (pc := 2) C dX7_placeInLine_2 (i := 2) rfl 2 rfl ?_
    refine k_aloadn (pc := 3) C dX7_placeInLine_3 (i := 0) rfl 0 rfl ?_
    obtain ⟨hs10, h⟩ := gp_e h
    have hs1 := sok_e hs10
    refine k_getI (pc := 4) C lkF_RX7_82_7 hs1 ir_7_8 dX7_placeInLine_4 ?_
    refine k_icmp_ge (pc := 7) C dX7_placeInLine_7 (tgt := 28) (by decide) (fun hc2 => ?_) (fun hc2 => ?_)
    · rw [if_pos hc2] at h
      refine k_bipush (pc := 28) C (v := (-9 : Int32)) dX7_placeInLine_28 (by decide) ?_
      cases h
      exact k_iret (pc := 30) C hr hk dX7_placeInLine_30
    · rw [if_neg hc2] at h
      refine k_aloadn (pc := 10) C dX7_placeInLine_10 (i := 0) rfl 0 rfl ?_
      obtain ⟨b3, hb3, h⟩ := rl_e h
      refine k_getR (pc := 11) C lkF_RX7_27_7 hs1 ir_7_7 hb3 dX7_placeInLine_11 ?_
      refine k_iloadn (pc := 14) C dX7_placeInLine_14 (i := 2) rfl 2 rfl ?_
      obtain ⟨ha4, h⟩ := gp_e h
      refine k_iald (pc := 15) C ha4 dX7_placeInLine_15 ?_
      refine k_iloadn (pc := 16) C dX7_placeInLine_16 (i := 1) rfl 1 rfl ?_
      refine k_icmp_ne (pc := 17) C dX7_placeInLine_17 (tgt := 22) (by decide) (fun hc5 => ?_) (fun hc5 => ?_)
      · rw [if_neg hc5] at h
        refine k_iinc (pc := 22) C dX7_placeInLine_22 2 rfl (v := x2 + (1 : Int32)) (by rfl) (by decide) (L2 := [(0, .ref (E.1 + a0)), (1, .int x1), (2, .int (x2 + (1 : Int32)))]) rfl ?_
        refine k_goto (pc := 25) C dX7_placeInLine_25 (tgt := 2) (by decide) ?_
        exact ih _ _ _ h
      · rw [if_pos hc5] at h
        refine k_iloadn (pc := 20) C dX7_placeInLine_20 (i := 2) rfl 2 rfl ?_
        cases h
        exact k_iret (pc := 21) C hr hk dX7_placeInLine_21
def f_X7_placeInLine (S : Sh) (R : Rw) (I : Iw)  (a0 : Nat) (x1 : Int32) : Option (Int32) := f_X7_placeInLine_2 S R I  512 a0 x1 (0 : Int32)
set_option maxHeartbeats 4000000 in
theorem b_X7_placeInLine {E : Ev} {p : Program} {l : Launch} {e : Env} {s : State} {m : MethodId} {args : Array Value} {below : List Frame} {meth : Method} {c : Code} (C : Cx E RX7 cX7_placeInLine 3 p s m c) (hr : meth.sig.returnType = (some .int)) (hk : meth.locks = false) {S : Sh} {R : Rw} {I : Iw} {r : Int32}  : ∀ (a0 : Nat) (x1 : Int32), f_X7_placeInLine S R I   a0 x1 = some r → Wk E 3 p l e ({ frames := 0, cells := 0, slots := 0, locals := 0 } : Room) s m args below meth c 0 0 (MQ below (Qw E S R I (some (.int r))) args s 0 0 (fun q => E.1 ≤ q)) 0 [(0, .ref (E.1 + a0)), (1, .int x1)] [] S R I := by
  intro a0 x1 h
  rw [f_X7_placeInLine] at h
  refine k_iconst (pc := 0) C (v := (0 : Int32)) dX7_placeInLine_0 (by decide) ?_
  refine k_istoren (pc := 1) C dX7_placeInLine_1 (i := 2) rfl (by decide) (L2 := [(0, .ref (E.1 + a0)), (1, .int x1), (2, .int (0 : Int32))]) rfl ?_
  exact b_X7_placeInLine_2 C hr hk  _ _ _ _ h
theorem c_X7_placeInLine {E : Ev} {l : Launch} {S : Sh} {R : Rw} {I : Iw} {a0 : Nat} {x1 : Int32} {r : Int32} (h : f_X7_placeInLine S R I a0 x1 = some r) : Mt E l yX7_placeInLine cX7_placeInLine 3 (some .int) 0 0 [.ref (E.1 + a0), .int x1] S R I S R I (some (.int r)) 0 0 := mt_of (by decide) (Nat.le_of_ble_eq_true rfl) (fun p e s m args below meth c C hr hk hn => b_X7_placeInLine C hr hk _ _ h)
theorem dX11_isBetween_0 : decode cX11_isBetween 0 = .ok (.iload_n 0, 1) := by decide +kernel
theorem dX11_isBetween_1 : decode cX11_isBetween 1 = .ok (.iload_n 1, 1) := by decide +kernel
theorem dX11_isBetween_2 : decode cX11_isBetween 2 = .ok (.if_icmp .lt 12, 3) := by decide +kernel
theorem dX11_isBetween_5 : decode cX11_isBetween 5 = .ok (.iload_n 0, 1) := by decide +kernel
theorem dX11_isBetween_6 : decode cX11_isBetween 6 = .ok (.iload_n 2, 1) := by decide +kernel
theorem dX11_isBetween_7 : decode cX11_isBetween 7 = .ok (.if_icmp .gt 7, 3) := by decide +kernel
theorem dX11_isBetween_10 : decode cX11_isBetween 10 = .ok (.iconst 1, 1) := by decide +kernel
theorem dX11_isBetween_11 : decode cX11_isBetween 11 = .ok (.goto 4, 3) := by decide +kernel
theorem dX11_isBetween_14 : decode cX11_isBetween 14 = .ok (.iconst 0, 1) := by decide +kernel
theorem dX11_isBetween_15 : decode cX11_isBetween 15 = .ok (.ireturn, 1) := by decide +kernel
def f_X11_isBetween (S : Sh) (R : Rw) (I : Iw)  (x0 : Int32) (x1 : Int32) (x2 : Int32) : Option (Int32) := (if x0 < x1 then some (0 : Int32) else (if x2 < x0 then some (0 : Int32) else some (1 : Int32)))
set_option maxHeartbeats 4000000 in
theorem b_X11_isBetween {E : Ev} {p : Program} {l : Launch} {e : Env} {s : State} {m : MethodId} {args : Array Value} {below : List Frame} {meth : Method} {c : Code} (C : Cx E RX11 cX11_isBetween 3 p s m c) (hr : meth.sig.returnType = (some .boolean)) (hk : meth.locks = false) {S : Sh} {R : Rw} {I : Iw} {r : Int32}  : ∀ (x0 : Int32) (x1 : Int32) (x2 : Int32), f_X11_isBetween S R I   x0 x1 x2 = some r → Wk E 3 p l e ({ frames := 0, cells := 0, slots := 0, locals := 0 } : Room) s m args below meth c 0 0 (MQ below (Qw E S R I (some (.int r))) args s 0 0 (fun q => E.1 ≤ q)) 0 [(0, .int x0), (1, .int x1), (2, .int x2)] [] S R I := by
  intro x0 x1 x2 h
  rw [f_X11_isBetween] at h
  refine k_iloadn (pc := 0) C dX11_isBetween_0 (i := 0) rfl 0 rfl ?_
  refine k_iloadn (pc := 1) C dX11_isBetween_1 (i := 1) rfl 1 rfl ?_
  refine k_icmp_lt (pc := 2) C dX11_isBetween_2 (tgt := 14) (by decide) (fun hc1 => ?_) (fun hc1 => ?_)
  · rw [if_pos hc1] at h
    refine k_iconst (pc := 14) C (v := (0 : Int32)) dX11_isBetween_14 (by decide) ?_
    cases h
    exact k_zret (pc := 15) C hr hk (Or.inl rfl) dX11_isBetween_15
  · rw [if_neg hc1] at h
    refine k_iloadn (pc := 5) C dX11_isBetween_5 (i := 0) rfl 0 rfl ?_
    refine k_iloadn (pc := 6) C dX11_isBetween_6 (i := 2) rfl 2 rfl ?_
    refine k_icmp_gt (pc := 7) C dX11_isBetween_7 (tgt := 14) (by decide) (fun hc2 => ?_) (fun hc2 => ?_)
    · rw [if_pos hc2] at h
      refine k_iconst (pc := 14) C (v := (0 : Int32)) dX11_isBetween_14 (by decide) ?_
      cases h
      exact k_zret (pc := 15) C hr hk (Or.inl rfl) dX11_isBetween_15
    · rw [if_neg hc2] at h
      refine k_iconst (pc := 10) C (v := (1 : Int32)) dX11_isBetween_10 (by decide) ?_
      refine k_goto (pc := 11) C dX11_isBetween_11 (tgt := 15) (by decide) ?_
      cases h
      exact k_zret (pc := 15) C hr hk (Or.inr rfl) dX11_isBetween_15
theorem c_X11_isBetween {E : Ev} {l : Launch} {S : Sh} {R : Rw} {I : Iw} {x0 : Int32} {x1 : Int32} {x2 : Int32} {r : Int32} (h : f_X11_isBetween S R I x0 x1 x2 = some r) : Mt E l yX11_isBetween cX11_isBetween 3 (some .boolean) 0 0 [.int x0, .int x1, .int x2] S R I S R I (some (.int r)) 0 0 := mt_of (by decide) (Nat.le_of_ble_eq_true rfl) (fun p e s m args below meth c C hr hk hn => b_X11_isBetween C hr hk _ _ _ h)
theorem lkS_RX11_55 : LkS RX11 55 yX11_isBetween cX11_isBetween 3 (some .boolean) 3 := ⟨(t2_in 34 (by decide +kernel) rfl), (t2_in 35 (by decide +kernel) rfl), (t2_in 36 (by decide +kernel) rfl), (t1_in 1 (by decide +kernel) rfl), by decide, by decide +kernel⟩
theorem dX11_isOrIsUnder_0 : decode cX11_isOrIsUnder 0 = .ok (.iload_n 0, 1) := by decide +kernel
theorem dX11_isOrIsUnder_1 : decode cX11_isOrIsUnder 1 = .ok (.istore_n 2, 1) := by decide +kernel
theorem dX11_isOrIsUnder_2 : decode cX11_isOrIsUnder 2 = .ok (.iconst 0, 1) := by decide +kernel
theorem dX11_isOrIsUnder_3 : decode cX11_isOrIsUnder 3 = .ok (.istore_n 3, 1) := by decide +kernel
theorem dX11_isOrIsUnder_4 : decode cX11_isOrIsUnder 4 = .ok (.iload_n 3, 1) := by decide +kernel
theorem dX11_isOrIsUnder_5 : decode cX11_isOrIsUnder 5 = .ok (.getstatic 305, 3) := by decide +kernel
theorem dX11_isOrIsUnder_8 : decode cX11_isOrIsUnder 8 = .ok (.arraylength, 1) := by decide +kernel
theorem dX11_isOrIsUnder_9 : decode cX11_isOrIsUnder 9 = .ok (.if_icmp .ge 31, 3) := by decide +kernel
theorem dX11_isOrIsUnder_12 : decode cX11_isOrIsUnder 12 = .ok (.iload_n 2, 1) := by decide +kernel
theorem dX11_isOrIsUnder_13 : decode cX11_isOrIsUnder 13 = .ok (.iconst 0, 1) := by decide +kernel
theorem dX11_isOrIsUnder_14 : decode cX11_isOrIsUnder 14 = .ok (.iconst 5, 1) := by decide +kernel
theorem dX11_isOrIsUnder_15 : decode cX11_isOrIsUnder 15 = .ok (.invokestatic 55, 3) := by decide +kernel
theorem dX11_isOrIsUnder_18 : decode cX11_isOrIsUnder 18 = .ok (.ifCond .eq 22, 3) := by decide +kernel
theorem dX11_isOrIsUnder_21 : decode cX11_isOrIsUnder 21 = .ok (.iload_n 2, 1) := by decide +kernel
theorem dX11_isOrIsUnder_22 : decode cX11_isOrIsUnder 22 = .ok (.iload_n 1, 1) := by decide +kernel
theorem dX11_isOrIsUnder_23 : decode cX11_isOrIsUnder 23 = .ok (.if_icmp .ne 5, 3) := by decide +kernel
theorem dX11_isOrIsUnder_26 : decode cX11_isOrIsUnder 26 = .ok (.iconst 1, 1) := by decide +kernel
theorem dX11_isOrIsUnder_27 : decode cX11_isOrIsUnder 27 = .ok (.ireturn, 1) := by decide +kernel
theorem dX11_isOrIsUnder_28 : decode cX11_isOrIsUnder 28 = .ok (.getstatic 305, 3) := by decide +kernel
theorem dX11_isOrIsUnder_31 : decode cX11_isOrIsUnder 31 = .ok (.iload_n 2, 1) := by decide +kernel
theorem dX11_isOrIsUnder_32 : decode cX11_isOrIsUnder 32 = .ok (.iaload, 1) := by decide +kernel
theorem dX11_isOrIsUnder_33 : decode cX11_isOrIsUnder 33 = .ok (.istore_n 2, 1) := by decide +kernel
theorem dX11_isOrIsUnder_34 : decode cX11_isOrIsUnder 34 = .ok (.iinc 3 1, 3) := by decide +kernel
theorem dX11_isOrIsUnder_37 : decode cX11_isOrIsUnder 37 = .ok (.goto (-33), 3) := by decide +kernel
theorem dX11_isOrIsUnder_40 : decode cX11_isOrIsUnder 40 = .ok (.iconst 0, 1) := by decide +kernel
theorem dX11_isOrIsUnder_41 : decode cX11_isOrIsUnder 41 = .ok (.ireturn, 1) := by decide +kernel
def f_X11_isOrIsUnder_4 (S : Sh) (R : Rw) (I : Iw)  : Nat → Int32 → Int32 → Int32 → Option (Int32)
  | 0, _, _, _ => none
  | n + 1, x1, x2, x3 => (if (6 : Int32) ≤ x3 then some (0 : Int32) else bd (f_X11_isBetween S R I x2 (0 : Int32) (5 : Int32)) (fun r2 => (if r2 = 0 then some (0 : Int32) else (if x2 = x1 then some (1 : Int32) else gp (kok x2) (f_X11_isOrIsUnder_4 S R I  n x1 (kaF x2.toNatClampNeg) (x3 + (1 : Int32)))))))
set_option maxHeartbeats 4000000 in
theorem b_X11_isOrIsUnder_4 {E : Ev} {p : Program} {l : Launch} {e : Env} {s : State} {m : MethodId} {args : Array Value} {below : List Frame} {meth : Method} {c : Code} (C : Cx E RX11 cX11_isOrIsUnder 4 p s m c) (hr : meth.sig.returnType = (some .boolean)) (hk : meth.locks = false) {S : Sh} {R : Rw} {I : Iw} {r : Int32}  : ∀ (n : Nat) (x1 : Int32) (x2 : Int32) (x3 : Int32), f_X11_isOrIsUnder_4 S R I  n x1 x2 x3 = some r → Wk E 4 p l e ({ frames := 1, cells := 0, slots := 0, locals := 22 } : Room) s m args below meth c 0 0 (MQ below (Qw E S R I (some (.int r))) args s 0 0 (fun q => E.1 ≤ q)) 4 [(1, .int x1), (2, .int x2), (3, .int x3)] [] S R I := by
  intro n
  induction n with
  | zero =>
    intro x1 x2 x3 h
    rw [f_X11_isOrIsUnder_4] at h
    cases h
  | succ n ih =>
    intro x1 x2 x3 h
    rw [f_X11_isOrIsUnder_4] at h
    refine k_iloadn (pc := 4) C dX11_isOrIsUnder_4 (i := 3) rfl 2 rfl ?_
    refine k_gets (pc := 5) C (t2_in 80 (by decide +kernel) rfl) dX11_isOrIsUnder_5 ?_
    refine k_kalen (pc := 8) C dX11_isOrIsUnder_8 ?_
    refine k_icmp_ge (pc := 9) C dX11_isOrIsUnder_9 (tgt := 40) (by decide) (fun hc1 => ?_) (fun hc1 => ?_)
    · rw [if_pos hc1] at h
      refine k_iconst (pc := 40) C (v := (0 : Int32)) dX11_isOrIsUnder_40 (by decide) ?_
      cases h
      exact k_zret (pc := 41) C hr hk (Or.inl rfl) dX11_isOrIsUnder_41
    · rw [if_neg hc1] at h
      refine k_iloadn (pc := 12) C dX11_isOrIsUnder_12 (i := 2) rfl 1 rfl ?_
      refine k_iconst (pc := 13) C (v := (0 : Int32)) dX11_isOrIsUnder_13 (by decide) ?_
      refine k_iconst (pc := 14) C (v := (5 : Int32)) dX11_isOrIsUnder_14 (by decide) ?_
      obtain ⟨r2, hr2, h⟩ := bd_e h
      refine k_S (pc := 15) (st := []) C (c_X11_isBetween hr2) lkS_RX11_55 rfl rfl (Nat.le_of_ble_eq_true rfl) (Nat.le_of_ble_eq_true rfl) (Nat.le_of_ble_eq_true rfl) (Nat.le_of_ble_eq_true rfl) (Nat.le_of_ble_eq_true rfl) dX11_isOrIsUnder_15 ?_
      refine k_nf (cells2 := 0) (slots2 := 0) (st2 := [.int r2]) rfl rfl rfl ?_
      refine k_if_eq (pc := 18) C dX11_isOrIsUnder_18 (tgt := 40) (by decide) (fun hc3 => ?_) (fun hc3 => ?_)
      · rw [if_pos hc3] at h
        refine k_iconst (pc := 40) C (v := (0 : Int32)) dX11_isOrIsUnder_40 (by decide) ?_
        cases h
        exact k_zret (pc := 41) C hr hk (Or.inl rfl) dX11_isOrIsUnder_41
      · rw [if_neg hc3] at h
        refine k_iloadn (pc := 21) C dX11_isOrIsUnder_21 (i := 2) rfl 1 rfl ?_
        refine k_iloadn (pc := 22) C dX11_isOrIsUnder_22 (i := 1) rfl 0 rfl ?_
        refine k_icmp_ne (pc := 23) C dX11_isOrIsUnder_23 (tgt := 28) (by decide) (fun hc4 => ?_) (fun hc4 => ?_)
        · rw [if_neg hc4] at h
          refine k_gets (pc := 28) C (t2_in 80 (by decide +kernel) rfl) dX11_isOrIsUnder_28 ?_
          refine k_iloadn (pc := 31) C dX11_isOrIsUnder_31 (i := 2) rfl 1 rfl ?_
          obtain ⟨ha5, h⟩ := gp_e h
          refine k_kald (pc := 32) C ha5 dX11_isOrIsUnder_32 ?_
          refine k_istoren (pc := 33) C dX11_isOrIsUnder_33 (i := 2) rfl (by decide) (L2 := [(1, .int x1), (2, .int (kaF x2.toNatClampNeg)), (3, .int x3)]) rfl ?_
          refine k_iinc (pc := 34) C dX11_isOrIsUnder_34 2 rfl (v := x3 + (1 : Int32)) (by rfl) (by decide) (L2 := [(1, .int x1), (2, .int (kaF x2.toNatClampNeg)), (3, .int (x3 + (1 : Int32)))]) rfl ?_
          refine k_goto (pc := 37) C dX11_isOrIsUnder_37 (tgt := 4) (by decide) ?_
          exact ih _ _ _ h
        · rw [if_pos hc4] at h
          refine k_iconst (pc := 26) C (v := (1 : Int32)) dX11_isOrIsUnder_26 (by decide) ?_
          cases h
          exact k_zret (pc := 27) C hr hk (Or.inr rfl) dX11_isOrIsUnder_27
def f_X11_isOrIsUnder (S : Sh) (R : Rw) (I : Iw)  (x0 : Int32) (x1 : Int32) : Option (Int32) := f_X11_isOrIsUnder_4 S R I  512 x1 x0 (0 : Int32)
set_option maxHeartbeats 4000000 in
theorem b_X11_isOrIsUnder {E : Ev} {p : Program} {l : Launch} {e : Env} {s : State} {m : MethodId} {args : Array Value} {below : List Frame} {meth : Method} {c : Code} (C : Cx E RX11 cX11_isOrIsUnder 4 p s m c) (hr : meth.sig.returnType = (some .boolean)) (hk : meth.locks = false) {S : Sh} {R : Rw} {I : Iw} {r : Int32}  : ∀ (x0 : Int32) (x1 : Int32), f_X11_isOrIsUnder S R I   x0 x1 = some r → Wk E 4 p l e ({ frames := 1, cells := 0, slots := 0, locals := 22 } : Room) s m args below meth c 0 0 (MQ below (Qw E S R I (some (.int r))) args s 0 0 (fun q => E.1 ≤ q)) 0 [(0, .int x0), (1, .int x1)] [] S R I := by
  intro x0 x1 h
  rw [f_X11_isOrIsUnder] at h
  refine k_iloadn (pc := 0) C dX11_isOrIsUnder_0 (i := 0) rfl 0 rfl ?_
  refine k_istoren (pc := 1) C dX11_isOrIsUnder_1 (i := 2) rfl (by decide) (L2 := [(0, .int x0), (1, .int x1), (2, .int x0)]) rfl ?_
  refine k_iconst (pc := 2) C (v := (0 : Int32)) dX11_isOrIsUnder_2 (by decide) ?_
  refine k_istoren (pc := 3) C dX11_isOrIsUnder_3 (i := 3) rfl (by decide) (L2 := [(0, .int x0), (1, .int x1), (2, .int x0), (3, .int (0 : Int32))]) rfl ?_
  refine k_loc (L2 := [(1, .int x1), (2, .int x0), (3, .int (0 : Int32))]) [1, 2, 3] rfl ?_
  exact b_X11_isOrIsUnder_4 C hr hk  _ _ _ _ h
theorem c_X11_isOrIsUnder {E : Ev} {l : Launch} {S : Sh} {R : Rw} {I : Iw} {x0 : Int32} {x1 : Int32} {r : Int32} (h : f_X11_isOrIsUnder S R I x0 x1 = some r) : Mt E l yX11_isOrIsUnder cX11_isOrIsUnder 4 (some .boolean) 1 22 [.int x0, .int x1] S R I S R I (some (.int r)) 0 0 := mt_of (by decide) (Nat.le_of_ble_eq_true rfl) (fun p e s m args below meth c C hr hk hn => b_X11_isOrIsUnder C hr hk _ _ h)
theorem lkF_RX5_55_7 : LkF RX5 55 7 9 := ⟨RX7, TX7, 16, "UnlikeNeighbours$Shed", fc7, by decide, (t1_in 93 (by decide +kernel) rfl), Or.inl rfl⟩
theorem lkF_RX5_58_7 : LkF RX5 58 7 10 := ⟨RX7, TX7, 16, "UnlikeNeighbours$Shed", fc7, by decide, (t1_in 95 (by decide +kernel) rfl), Or.inl rfl⟩
theorem lkF_RX5_61_7 : LkF RX5 61 7 2 := ⟨RX7, TX7, 16, "UnlikeNeighbours$Shed", fc7, by decide, (t1_in 76 (by decide +kernel) rfl), Or.inl rfl⟩
theorem lkF_RX5_64_7 : LkF RX5 64 7 3 := ⟨RX7, TX7, 16, "UnlikeNeighbours$Shed", fc7, by decide, (t1_in 79 (by decide +kernel) rfl), Or.inl rfl⟩
theorem dX5_valueOf_0 : decode cX5_valueOf 0 = .ok (.iload_n 0, 1) := by decide +kernel
theorem dX5_valueOf_1 : decode cX5_valueOf 1 = .ok (.tableswitch 61 10013 10017 #[35, 40, 45, 52, 59], 35) := by decide +kernel
theorem dX5_valueOf_36 : decode cX5_valueOf 36 = .ok (.aload_n 1, 1) := by decide +kernel
theorem dX5_valueOf_37 : decode cX5_valueOf 37 = .ok (.getfield 55, 3) := by decide +kernel
theorem dX5_valueOf_40 : decode cX5_valueOf 40 = .ok (.ireturn, 1) := by decide +kernel
theorem dX5_valueOf_41 : decode cX5_valueOf 41 = .ok (.aload_n 1, 1) := by decide +kernel
theorem dX5_valueOf_42 : decode cX5_valueOf 42 = .ok (.getfield 58, 3) := by decide +kernel
theorem dX5_valueOf_45 : decode cX5_valueOf 45 = .ok (.ireturn, 1) := by decide +kernel
theorem dX5_valueOf_46 : decode cX5_valueOf 46 = .ok (.aload_n 1, 1) := by decide +kernel
theorem dX5_valueOf_47 : decode cX5_valueOf 47 = .ok (.getfield 61, 3) := by decide +kernel
theorem dX5_valueOf_50 : decode cX5_valueOf 50 = .ok (.iload_n 2, 1) := by decide +kernel
theorem dX5_valueOf_51 : decode cX5_valueOf 51 = .ok (.iaload, 1) := by decide +kernel
theorem dX5_valueOf_52 : decode cX5_valueOf 52 = .ok (.ireturn, 1) := by decide +kernel
theorem dX5_valueOf_53 : decode cX5_valueOf 53 = .ok (.aload_n 1, 1) := by decide +kernel
theorem dX5_valueOf_54 : decode cX5_valueOf 54 = .ok (.getfield 64, 3) := by decide +kernel
theorem dX5_valueOf_57 : decode cX5_valueOf 57 = .ok (.iload_n 2, 1) := by decide +kernel
theorem dX5_valueOf_58 : decode cX5_valueOf 58 = .ok (.iaload, 1) := by decide +kernel
theorem dX5_valueOf_59 : decode cX5_valueOf 59 = .ok (.ireturn, 1) := by decide +kernel
theorem dX5_valueOf_60 : decode cX5_valueOf 60 = .ok (.iload_n 2, 1) := by decide +kernel
theorem dX5_valueOf_61 : decode cX5_valueOf 61 = .ok (.ireturn, 1) := by decide +kernel
theorem dX5_valueOf_62 : decode cX5_valueOf 62 = .ok (.iload_n 0, 1) := by decide +kernel
theorem dX5_valueOf_63 : decode cX5_valueOf 63 = .ok (.ireturn, 1) := by decide +kernel
def f_X5_valueOf (S : Sh) (R : Rw) (I : Iw)  (x0 : Int32) (a1 : Nat) (x2 : Int32) : Option (Int32) := (if x0 = (10013 : Int32) then gp (sok S a1 7 16) (some (I a1 9)) else (if x0 = (10014 : Int32) then gp (sok S a1 7 16) (some (I a1 10)) else (if x0 = (10015 : Int32) then gp (sok S a1 7 16) (rl (R a1 2) (fun b4 => gp (aok S 20 b4 x2) (some (I b4 x2.toNatClampNeg)))) else (if x0 = (10016 : Int32) then gp (sok S a1 7 16) (rl (R a1 3) (fun b7 => gp (aok S 20 b7 x2) (some (I b7 x2.toNatClampNeg)))) else (if x0 = (10017 : Int32) then some x2 else some x0)))))
set_option maxHeartbeats 4000000 in
theorem b_X5_valueOf {E : Ev} {p : Program} {l : Launch} {e : Env} {s : State} {m : MethodId} {args : Array Value} {below : List Frame} {meth : Method} {c : Code} (C : Cx E RX5 cX5_valueOf 3 p s m c) (hr : meth.sig.returnType = (some .int)) (hk : meth.locks = false) {S : Sh} {R : Rw} {I : Iw} {r : Int32}  : ∀ (x0 : Int32) (a1 : Nat) (x2 : Int32), f_X5_valueOf S R I   x0 a1 x2 = some r → Wk E 3 p l e ({ frames := 0, cells := 0, slots := 0, locals := 0 } : Room) s m args below meth c 0 0 (MQ below (Qw E S R I (some (.int r))) args s 0 0 (fun q => E.1 ≤ q)) 0 [(0, .int x0), (1, .ref (E.1 + a1)), (2, .int x2)] [] S R I := by
  intro x0 a1 x2 h
  rw [f_X5_valueOf] at h
  refine k_iloadn (pc := 0) C dX5_valueOf_0 (i := 0) rfl 0 rfl ?_
  by_cases hc9 : x0 = (10013 : Int32)
  · rw [if_pos hc9] at h
    refine k_tabIn (pc := 1) C dX5_valueOf_1 (by rw [hc9]; decide) (by rw [hc9]; decide) (off := 35) (by rw [hc9]; rfl) (tgt := 36) (by decide) ?_
    refine k_aloadn (pc := 36) C dX5_valueOf_36 (i := 1) rfl 1 rfl ?_
    obtain ⟨hs10, h⟩ := gp_e h
    have hs1 := sok_e hs10
    refine k_getI (pc := 37) C lkF_RX5_55_7 hs1 ir_7_9 dX5_valueOf_37 ?_
    cases h
    exact k_iret (pc := 40) C hr hk dX5_valueOf_40
  · rw [if_neg hc9] at h
    by_cases hc10 : x0 = (10014 : Int32)
    · rw [if_pos hc10] at h
      refine k_tabIn (pc := 1) C dX5_valueOf_1 (by rw [hc10]; decide) (by rw [hc10]; decide) (off := 40) (by rw [hc10]; rfl) (tgt := 41) (by decide) ?_
      refine k_aloadn (pc := 41) C dX5_valueOf_41 (i := 1) rfl 1 rfl ?_
      obtain ⟨hs20, h⟩ := gp_e h
      have hs2 := sok_e hs20
      refine k_getI (pc := 42) C lkF_RX5_58_7 hs2 ir_7_10 dX5_valueOf_42 ?_
      cases h
      exact k_iret (pc := 45) C hr hk dX5_valueOf_45
    · rw [if_neg hc10] at h
      by_cases hc11 : x0 = (10015 : Int32)
      · rw [if_pos hc11] at h
        refine k_tabIn (pc := 1) C dX5_valueOf_1 (by rw [hc11]; decide) (by rw [hc11]; decide) (off := 45) (by rw [hc11]; rfl) (tgt := 46) (by decide) ?_
        refine k_aloadn (pc := 46) C dX5_valueOf_46 (i := 1) rfl 1 rfl ?_
        obtain ⟨hs30, h⟩ := gp_e h
        have hs3 := sok_e hs30
        obtain ⟨b4, hb4, h⟩ := rl_e h
        refine k_getR (pc := 47) C lkF_RX5_61_7 hs3 ir_7_2 hb4 dX5_valueOf_47 ?_
        refine k_iloadn (pc := 50) C dX5_valueOf_50 (i := 2) rfl 2 rfl ?_
        obtain ⟨ha5, h⟩ := gp_e h
        refine k_iald (pc := 51) C ha5 dX5_valueOf_51 ?_
        cases h
        exact k_iret (pc := 52) C hr hk dX5_valueOf_52
      · rw [if_neg hc11] at h
        by_cases hc12 : x0 = (10016 : Int32)
        · rw [if_pos hc12] at h
          refine k_tabIn (pc := 1) C dX5_valueOf_1 (by rw [hc12]; decide) (by rw [hc12]; decide) (off := 52) (by rw [hc12]; rfl) (tgt := 53) (by decide) ?_
          refine k_aloadn (pc := 53) C dX5_valueOf_53 (i := 1) rfl 1 rfl ?_
          obtain ⟨hs60, h⟩ := gp_e h
          have hs6 := sok_e hs60
          obtain ⟨b7, hb7, h⟩ := rl_e h
          refine k_getR (pc := 54) C lkF_RX5_64_7 hs6 ir_7_3 hb7 dX5_valueOf_54 ?_
          refine k_iloadn (pc := 57) C dX5_valueOf_57 (i := 2) rfl 2 rfl ?_
          obtain ⟨ha8, h⟩ := gp_e h
          refine k_iald (pc := 58) C ha8 dX5_valueOf_58 ?_
          cases h
          exact k_iret (pc := 59) C hr hk dX5_valueOf_59
        · rw [if_neg hc12] at h
          by_cases hc13 : x0 = (10017 : Int32)
          · rw [if_pos hc13] at h
            refine k_tabIn (pc := 1) C dX5_valueOf_1 (by rw [hc13]; decide) (by rw [hc13]; decide) (off := 59) (by rw [hc13]; rfl) (tgt := 60) (by decide) ?_
            refine k_iloadn (pc := 60) C dX5_valueOf_60 (i := 2) rfl 2 rfl ?_
            cases h
            exact k_iret (pc := 61) C hr hk dX5_valueOf_61
          · rw [if_neg hc13] at h
            refine k_tabOut (pc := 1) C dX5_valueOf_1 (tab_out x0 10013 10017 (fun z h1 h2 hz => by
              have hz2 : z = 10013 ∨ z = 10014 ∨ z = 10015 ∨ z = 10016 ∨ z = 10017 := by omega
              rcases hz2 with rfl | rfl | rfl | rfl | rfl
              · exact hc9 (Int32.toInt_inj.mp (hz.trans (by decide)))
              · exact hc10 (Int32.toInt_inj.mp (hz.trans (by decide)))
              · exact hc11 (Int32.toInt_inj.mp (hz.trans (by decide)))
              · exact hc12 (Int32.toInt_inj.mp (hz.trans (by decide)))
              · exact hc13 (Int32.toInt_inj.mp (hz.trans (by decide)))
              ) ) (tgt := 62) (by decide) ?_
            refine k_iloadn (pc := 62) C dX5_valueOf_62 (i := 0) rfl 0 rfl ?_
            cases h
            exact k_iret (pc := 63) C hr hk dX5_valueOf_63
theorem c_X5_valueOf {E : Ev} {l : Launch} {S : Sh} {R : Rw} {I : Iw} {x0 : Int32} {a1 : Nat} {x2 : Int32} {r : Int32} (h : f_X5_valueOf S R I x0 a1 x2 = some r) : Mt E l yX5_valueOf cX5_valueOf 3 (some .int) 0 0 [.int x0, .ref (E.1 + a1), .int x2] S R I S R I (some (.int r)) 0 0 := mt_of (by decide) (Nat.le_of_ble_eq_true rfl) (fun p e s m args below meth c C hr hk hn => b_X5_valueOf C hr hk _ _ _ h)
theorem lkF_RX5_24_5 : LkF RX5 24 5 6 := ⟨RX5, TX5, 8, "UnlikeNeighbours$Rules", fc5, by decide, (t1_in 49 (by decide +kernel) rfl), Or.inl rfl⟩
theorem lkS_RX5_52 : LkS RX5 52 yX5_valueOf cX5_valueOf 3 (some .int) 3 := ⟨(t2_in 90 (by decide +kernel) rfl), (t2_in 91 (by decide +kernel) rfl), (t2_in 92 (by decide +kernel) rfl), (t1_in 3 (by decide +kernel) rfl), by decide, by decide +kernel⟩
theorem lkF_RX5_27_5 : LkF RX5 27 5 7 := ⟨RX5, TX5, 8, "UnlikeNeighbours$Rules", fc5, by decide, (t1_in 50 (by decide +kernel) rfl), Or.inl rfl⟩
theorem lkF_RX5_21_5 : LkF RX5 21 5 5 := ⟨RX5, TX5, 8, "UnlikeNeighbours$Rules", fc5, by decide, (t1_in 48 (by decide +kernel) rfl), Or.inl rfl⟩
theorem dX5_compared_0 : decode cX5_compared 0 = .ok (.aload_n 0, 1) := by decide +kernel
theorem dX5_compared_1 : decode cX5_compared 1 = .ok (.getfield 24, 3) := by decide +kernel
theorem dX5_compared_4 : decode cX5_compared 4 = .ok (.iload_n 1, 1) := by decide +kernel
theorem dX5_compared_5 : decode cX5_compared 5 = .ok (.iaload, 1) := by decide +kernel
theorem dX5_compared_6 : decode cX5_compared 6 = .ok (.aload_n 2, 1) := by decide +kernel
theorem dX5_compared_7 : decode cX5_compared 7 = .ok (.iload_n 3, 1) := by decide +kernel
theorem dX5_compared_8 : decode cX5_compared 8 = .ok (.invokestatic 52, 3) := by decide +kernel
theorem dX5_compared_11 : decode cX5_compared 11 = .ok (.istore 4, 2) := by decide +kernel
theorem dX5_compared_13 : decode cX5_compared 13 = .ok (.aload_n 0, 1) := by decide +kernel
theorem dX5_compared_14 : decode cX5_compared 14 = .ok (.getfield 27, 3) := by decide +kernel
theorem dX5_compared_17 : decode cX5_compared 17 = .ok (.iload_n 1, 1) := by decide +kernel
theorem dX5_compared_18 : decode cX5_compared 18 = .ok (.iaload, 1) := by decide +kernel
theorem dX5_compared_19 : decode cX5_compared 19 = .ok (.aload_n 2, 1) := by decide +kernel
theorem dX5_compared_20 : decode cX5_compared 20 = .ok (.iload_n 3, 1) := by decide +kernel
theorem dX5_compared_21 : decode cX5_compared 21 = .ok (.invokestatic 52, 3) := by decide +kernel
theorem dX5_compared_24 : decode cX5_compared 24 = .ok (.istore 5, 2) := by decide +kernel
theorem dX5_compared_26 : decode cX5_compared 26 = .ok (.aload_n 0, 1) := by decide +kernel
theorem dX5_compared_27 : decode cX5_compared 27 = .ok (.getfield 21, 3) := by decide +kernel
theorem dX5_compared_30 : decode cX5_compared 30 = .ok (.iload_n 1, 1) := by decide +kernel
theorem dX5_compared_31 : decode cX5_compared 31 = .ok (.iaload, 1) := by decide +kernel
theorem dX5_compared_32 : decode cX5_compared 32 = .ok (.lookupswitch 54 #[(20060, 28), (20062, 41)], 28) := by decide +kernel
theorem dX5_compared_60 : decode cX5_compared 60 = .ok (.iload 4, 2) := by decide +kernel
theorem dX5_compared_62 : decode cX5_compared 62 = .ok (.iload 5, 2) := by decide +kernel
theorem dX5_compared_64 : decode cX5_compared 64 = .ok (.if_icmp .ge 7, 3) := by decide +kernel
theorem dX5_compared_67 : decode cX5_compared 67 = .ok (.iconst 1, 1) := by decide +kernel
theorem dX5_compared_68 : decode cX5_compared 68 = .ok (.goto 4, 3) := by decide +kernel
theorem dX5_compared_71 : decode cX5_compared 71 = .ok (.iconst 0, 1) := by decide +kernel
theorem dX5_compared_72 : decode cX5_compared 72 = .ok (.ireturn, 1) := by decide +kernel
theorem dX5_compared_73 : decode cX5_compared 73 = .ok (.iload 4, 2) := by decide +kernel
theorem dX5_compared_75 : decode cX5_compared 75 = .ok (.iload 5, 2) := by decide +kernel
theorem dX5_compared_77 : decode cX5_compared 77 = .ok (.if_icmp .le 7, 3) := by decide +kernel
theorem dX5_compared_80 : decode cX5_compared 80 = .ok (.iconst 1, 1) := by decide +kernel
theorem dX5_compared_81 : decode cX5_compared 81 = .ok (.goto 4, 3) := by decide +kernel
theorem dX5_compared_84 : decode cX5_compared 84 = .ok (.iconst 0, 1) := by decide +kernel
theorem dX5_compared_85 : decode cX5_compared 85 = .ok (.ireturn, 1) := by decide +kernel
theorem dX5_compared_86 : decode cX5_compared 86 = .ok (.iload 4, 2) := by decide +kernel
theorem dX5_compared_88 : decode cX5_compared 88 = .ok (.iload 5, 2) := by decide +kernel
theorem dX5_compared_90 : decode cX5_compared 90 = .ok (.if_icmp .ne 7, 3) := by decide +kernel
theorem dX5_compared_93 : decode cX5_compared 93 = .ok (.iconst 1, 1) := by decide +kernel
theorem dX5_compared_94 : decode cX5_compared 94 = .ok (.goto 4, 3) := by decide +kernel
theorem dX5_compared_97 : decode cX5_compared 97 = .ok (.iconst 0, 1) := by decide +kernel
theorem dX5_compared_98 : decode cX5_compared 98 = .ok (.ireturn, 1) := by decide +kernel
def f_X5_compared (S : Sh) (R : Rw) (I : Iw)  (a0 : Nat) (x1 : Int32) (a2 : Nat) (x3 : Int32) : Option (Int32) := gp (sok S a0 5 8) (rl (R a0 6) (fun b2 => gp (aok S 20 b2 x1) (bd (f_X5_valueOf S R I (I b2 x1.toNatClampNeg) a2 x3) (fun r4 => rl (R a0 7) (fun b5 => gp (aok S 20 b5 x1) (bd (f_X5_valueOf S R I (I b5 x1.toNatClampNeg) a2 x3) (fun r7 => rl (R a0 5) (fun b8 => gp (aok S 20 b8 x1) ((if (I b8 x1.toNatClampNeg) = (20060 : Int32) then (if r7 ≤ r4 then some (0 : Int32) else some (1 : Int32)) else (if (I b8 x1.toNatClampNeg) = (20062 : Int32) then (if r4 ≤ r7 then some (0 : Int32) else some (1 : Int32)) else (if r4 = r7 then some (1 : Int32) else some (0 : Int32)))))))))))))
set_option maxHeartbeats 4000000 in
theorem b_X5_compared {E : Ev} {p : Program} {l : Launch} {e : Env} {s : State} {m : MethodId} {args : Array Value} {below : List Frame} {meth : Method} {c : Code} (C : Cx E RX5 cX5_compared 6 p s m c) (hr : meth.sig.returnType = (some .int)) (hk : meth.locks = false) {S : Sh} {R : Rw} {I : Iw} {r : Int32}  : ∀ (a0 : Nat) (x1 : Int32) (a2 : Nat) (x3 : Int32), f_X5_compared S R I   a0 x1 a2 x3 = some r → Wk E 6 p l e ({ frames := 1, cells := 0, slots := 0, locals := 22 } : Room) s m args below meth c 0 0 (MQ below (Qw E S R I (some (.int r))) args s 0 0 (fun q => E.1 ≤ q)) 0 [(0, .ref (E.1 + a0)), (1, .int x1), (2, .ref (E.1 + a2)), (3, .int x3)] [] S R I := by
  intro a0 x1 a2 x3 h
  rw [f_X5_compared] at h
  refine k_aloadn (pc := 0) C dX5_compared_0 (i := 0) rfl 0 rfl ?_
  obtain ⟨hs10, h⟩ := gp_e h
  have hs1 := sok_e hs10
  obtain ⟨b2, hb2, h⟩ := rl_e h
  refine k_getR (pc := 1) C lkF_RX5_24_5 hs1 ir_5_6 hb2 dX5_compared_1 ?_
  refine k_iloadn (pc := 4) C dX5_compared_4 (i := 1) rfl 1 rfl ?_
  obtain ⟨ha3, h⟩ := gp_e h
  refine k_iald (pc := 5) C ha3 dX5_compared_5 ?_
  refine k_aloadn (pc := 6) C dX5_compared_6 (i := 2) rfl 2 rfl ?_
  refine k_iloadn (pc := 7) C dX5_compared_7 (i := 3) rfl 3 rfl ?_
  obtain ⟨r4, hr4, h⟩ := bd_e h
  refine k_S (pc := 8) (st := []) C (c_X5_valueOf hr4) lkS_RX5_52 rfl rfl (Nat.le_of_ble_eq_true rfl) (Nat.le_of_ble_eq_true rfl) (Nat.le_of_ble_eq_true rfl) (Nat.le_of_ble_eq_true rfl) (Nat.le_of_ble_eq_true rfl) dX5_compared_8 ?_
  refine k_nf (cells2 := 0) (slots2 := 0) (st2 := [.int r4]) rfl rfl rfl ?_
  refine k_istore (pc := 11) C dX5_compared_11 (by decide) (L2 := [(0, .ref (E.1 + a0)), (1, .int x1), (2, .ref (E.1 + a2)), (3, .int x3), (4, .int r4)]) rfl ?_
  refine k_aloadn (pc := 13) C dX5_compared_13 (i := 0) rfl 0 rfl ?_
  obtain ⟨b5, hb5, h⟩ := rl_e h
  refine k_getR (pc := 14) C lkF_RX5_27_5 hs1 ir_5_7 hb5 dX5_compared_14 ?_
  refine k_iloadn (pc := 17) C dX5_compared_17 (i := 1) rfl 1 rfl ?_
  obtain ⟨ha6, h⟩ := gp_e h
  refine k_iald (pc := 18) C ha6 dX5_compared_18 ?_
  refine k_aloadn (pc := 19) C dX5_compared_19 (i := 2) rfl 2 rfl ?_
  refine k_iloadn (pc := 20) C dX5_compared_20 (i := 3) rfl 3 rfl ?_
  obtain ⟨r7, hr7, h⟩ := bd_e h
  refine k_S (pc := 21) (st := []) C (c_X5_valueOf hr7) lkS_RX5_52 rfl rfl (Nat.le_of_ble_eq_true rfl) (Nat.le_of_ble_eq_true rfl) (Nat.le_of_ble_eq_true rfl) (Nat.le_of_ble_eq_true rfl) (Nat.le_of_ble_eq_true rfl) dX5_compared_21 ?_
  refine k_nf (cells2 := 0) (slots2 := 0) (st2 := [.int r7]) rfl rfl rfl ?_
  refine k_istore (pc := 24) C dX5_compared_24 (by decide) (L2 := [(0, .ref (E.1 + a0)), (1, .int x1), (2, .ref (E.1 + a2)), (3, .int x3), (4, .int r4), (5, .int r7)]) rfl ?_
  refine k_aloadn (pc := 26) C dX5_compared_26 (i := 0) rfl 0 rfl ?_
  obtain ⟨b8, hb8, h⟩ := rl_e h
  refine k_getR (pc := 27) C lkF_RX5_21_5 hs1 ir_5_5 hb8 dX5_compared_27 ?_
  refine k_iloadn (pc := 30) C dX5_compared_30 (i := 1) rfl 1 rfl ?_
  obtain ⟨ha9, h⟩ := gp_e h
  refine k_iald (pc := 31) C ha9 dX5_compared_31 ?_
  by_cases hc13 : (I b8 x1.toNatClampNeg) = (20060 : Int32)
  · rw [if_pos hc13] at h
    refine k_look (pc := 32) C dX5_compared_32 (by decide) (off := 28) (by rw [hc13]; rfl) (tgt := 60) (by decide) ?_
    refine k_iload (pc := 60) C dX5_compared_60 4 rfl ?_
    refine k_iload (pc := 62) C dX5_compared_62 5 rfl ?_
    refine k_icmp_ge (pc := 64) C dX5_compared_64 (tgt := 71) (by decide) (fun hc10 => ?_) (fun hc10 => ?_)
    · rw [if_pos hc10] at h
      refine k_iconst (pc := 71) C (v := (0 : Int32)) dX5_compared_71 (by decide) ?_
      cases h
      exact k_iret (pc := 72) C hr hk dX5_compared_72
    · rw [if_neg hc10] at h
      refine k_iconst (pc := 67) C (v := (1 : Int32)) dX5_compared_67 (by decide) ?_
      refine k_goto (pc := 68) C dX5_compared_68 (tgt := 72) (by decide) ?_
      cases h
      exact k_iret (pc := 72) C hr hk dX5_compared_72
  · rw [if_neg hc13] at h
    by_cases hc14 : (I b8 x1.toNatClampNeg) = (20062 : Int32)
    · rw [if_pos hc14] at h
      refine k_look (pc := 32) C dX5_compared_32 (by decide) (off := 41) (by rw [hc14]; rfl) (tgt := 73) (by decide) ?_
      refine k_iload (pc := 73) C dX5_compared_73 4 rfl ?_
      refine k_iload (pc := 75) C dX5_compared_75 5 rfl ?_
      refine k_icmp_le (pc := 77) C dX5_compared_77 (tgt := 84) (by decide) (fun hc11 => ?_) (fun hc11 => ?_)
      · rw [if_pos hc11] at h
        refine k_iconst (pc := 84) C (v := (0 : Int32)) dX5_compared_84 (by decide) ?_
        cases h
        exact k_iret (pc := 85) C hr hk dX5_compared_85
      · rw [if_neg hc11] at h
        refine k_iconst (pc := 80) C (v := (1 : Int32)) dX5_compared_80 (by decide) ?_
        refine k_goto (pc := 81) C dX5_compared_81 (tgt := 85) (by decide) ?_
        cases h
        exact k_iret (pc := 85) C hr hk dX5_compared_85
    · rw [if_neg hc14] at h
      refine k_look (pc := 32) C dX5_compared_32 (by decide) (off := 54) (look_cons (look_ne hc13 (by decide)) (look_cons (look_ne hc14 (by decide)) rfl)) (tgt := 86) (by decide) ?_
      refine k_iload (pc := 86) C dX5_compared_86 4 rfl ?_
      refine k_iload (pc := 88) C dX5_compared_88 5 rfl ?_
      refine k_icmp_ne (pc := 90) C dX5_compared_90 (tgt := 97) (by decide) (fun hc12 => ?_) (fun hc12 => ?_)
      · rw [if_neg hc12] at h
        refine k_iconst (pc := 97) C (v := (0 : Int32)) dX5_compared_97 (by decide) ?_
        cases h
        exact k_iret (pc := 98) C hr hk dX5_compared_98
      · rw [if_pos hc12] at h
        refine k_iconst (pc := 93) C (v := (1 : Int32)) dX5_compared_93 (by decide) ?_
        refine k_goto (pc := 94) C dX5_compared_94 (tgt := 98) (by decide) ?_
        cases h
        exact k_iret (pc := 98) C hr hk dX5_compared_98
theorem c_X5_compared {E : Ev} {l : Launch} {S : Sh} {R : Rw} {I : Iw} {a0 : Nat} {x1 : Int32} {a2 : Nat} {x3 : Int32} {r : Int32} (h : f_X5_compared S R I a0 x1 a2 x3 = some r) : Mt E l yX5_compared cX5_compared 6 (some .int) 1 22 [.ref (E.1 + a0), .int x1, .ref (E.1 + a2), .int x3] S R I S R I (some (.int r)) 0 0 := mt_of (by decide) (Nat.le_of_ble_eq_true rfl) (fun p e s m args below meth c C hr hk hn => b_X5_compared C hr hk _ _ _ _ h)
