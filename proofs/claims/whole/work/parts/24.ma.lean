/-! X11_tops, X11_go, X11_come, X11_line, X11_paid, X11_ways, X11_inFirst, X11_way, X11_longest, X11_far, X11_cheapest, X11_cheap, X11_never, X11_best -/
theorem dX11_tops_0 : decode cX11_tops 0 = .ok (.aload_n 0, 1) := by decide +kernel
theorem dX11_tops_1 : decode cX11_tops 1 = .ok (.getfield 12, 3) := by decide +kernel
theorem dX11_tops_4 : decode cX11_tops 4 = .ok (.aload_n 0, 1) := by decide +kernel
theorem dX11_tops_5 : decode cX11_tops 5 = .ok (.getfield 12, 3) := by decide +kernel
theorem dX11_tops_8 : decode cX11_tops 8 = .ok (.getfield 89, 3) := by decide +kernel
theorem dX11_tops_11 : decode cX11_tops 11 = .ok (.invokevirtual 105, 3) := by decide +kernel
theorem dX11_tops_14 : decode cX11_tops 14 = .ok (.ireturn, 1) := by decide +kernel
def f_X11_tops (S : Sh) (R : Rw) (I : Iw)  (a0 : Nat) : Option (Int32) := gp (sok S a0 11 12) (rl (R a0 0) (fun b2 => rl (R a0 0) (fun b3 => gp (sok S b3 7 16) (gp (sok S b2 7 16) (bd (f_X7_topsOf S R I b2 (I b3 6)) (fun r6 => some r6))))))
set_option maxHeartbeats 4000000 in
theorem b_X11_tops {E : Ev} {p : Program} {l : Launch} {e : Env} {s : State} {m : MethodId} {args : Array Value} {below : List Frame} {meth : Method} {c : Code} (C : Cx E RX11 cX11_tops 1 p s m c) (hr : meth.sig.returnType = (some .int)) (hk : meth.locks = false) {S : Sh} {R : Rw} {I : Iw} {r : Int32}  : ∀ (a0 : Nat), f_X11_tops S R I   a0 = some r → Wk E 1 p l e ({ frames := 2, cells := 0, slots := 0, locals := 45 } : Room) s m args below meth c 0 0 (MQ below (Qw E S R I (some (.int r))) args s 0 0 (fun q => E.1 ≤ q)) 0 [(0, .ref (E.1 + a0))] [] S R I := by
  intro a0 h
  rw [f_X11_tops] at h
  refine k_aloadn (pc := 0) C dX11_tops_0 (i := 0) rfl 0 rfl ?_
  obtain ⟨hs10, h⟩ := gp_e h
  have hs1 := sok_e hs10
  obtain ⟨b2, hb2, h⟩ := rl_e h
  refine k_getR (pc := 1) C lkF_RX11_12_11 hs1 ir_11_0 hb2 dX11_tops_1 ?_
  refine k_aloadn (pc := 4) C dX11_tops_4 (i := 0) rfl 0 rfl ?_
  obtain ⟨b3, hb3, h⟩ := rl_e h
  refine k_getR (pc := 5) C lkF_RX11_12_11 hs1 ir_11_0 hb3 dX11_tops_5 ?_
  obtain ⟨hs40, h⟩ := gp_e h
  have hs4 := sok_e hs40
  refine k_getI (pc := 8) C lkF_RX11_89_7 hs4 ir_7_6 dX11_tops_8 ?_
  obtain ⟨hs50, h⟩ := gp_e h
  have hs5 := sok_e hs50
  obtain ⟨r6, hr6, h⟩ := bd_e h
  refine k_V (pc := 11) (st := []) C (c_X7_topsOf hr6) lkV_RX11_105 hs5 rfl rfl rfl (Nat.le_of_ble_eq_true rfl) (Nat.le_of_ble_eq_true rfl) (Nat.le_of_ble_eq_true rfl) (Nat.le_of_ble_eq_true rfl) (Nat.le_of_ble_eq_true rfl) dX11_tops_11 ?_
  refine k_nf (cells2 := 0) (slots2 := 0) (st2 := [.int r6]) rfl rfl rfl ?_
  have h := Option.some.inj h
  subst h
  exact k_iret (pc := 14) C hr hk dX11_tops_14
theorem c_X11_tops {E : Ev} {l : Launch} {S : Sh} {R : Rw} {I : Iw} {a0 : Nat} {r : Int32} (h : f_X11_tops S R I a0 = some r) : Mt E l yX11_tops cX11_tops 1 (some .int) 2 45 [.ref (E.1 + a0)] S R I S R I (some (.int r)) 0 0 := mt_of (by decide) (Nat.le_of_ble_eq_true rfl) (fun p e s m args below meth c C hr hk hn => b_X11_tops C hr hk _ h)
theorem lkV_RX11_140 : LkV RX11 140 RX11 yX11_may cX11_may 1 (some .int) 0 := ⟨(t3_in 57 (by decide +kernel) rfl), (t3_in 46 (by decide +kernel) rfl), (t3_in 47 (by decide +kernel) rfl), (t3_in 48 (by decide +kernel) rfl), (t1_in 1 (by decide +kernel) rfl), by decide, by decide +kernel⟩
theorem lkV_RX11_143 : LkV RX11 143 RX7 yX7_putOut cX7_putOut 2 none 1 := ⟨(t3_in 58 (by decide +kernel) rfl), (t3_in 59 (by decide +kernel) rfl), (t3_in 60 (by decide +kernel) rfl), (t3_in 61 (by decide +kernel) rfl), (t1_in 2 (by decide +kernel) rfl), by decide, by decide +kernel⟩
theorem dX11_go_0 : decode cX11_go 0 = .ok (.aload_n 0, 1) := by decide +kernel
theorem dX11_go_1 : decode cX11_go 1 = .ok (.getfield 12, 3) := by decide +kernel
theorem dX11_go_4 : decode cX11_go 4 = .ok (.iload_n 1, 1) := by decide +kernel
theorem dX11_go_5 : decode cX11_go 5 = .ok (.invokevirtual 63, 3) := by decide +kernel
theorem dX11_go_8 : decode cX11_go 8 = .ok (.ifCond .ne 5, 3) := by decide +kernel
theorem dX11_go_11 : decode cX11_go 11 = .ok (.iconst (-1), 1) := by decide +kernel
theorem dX11_go_12 : decode cX11_go 12 = .ok (.ireturn, 1) := by decide +kernel
theorem dX11_go_13 : decode cX11_go 13 = .ok (.aload_n 0, 1) := by decide +kernel
theorem dX11_go_14 : decode cX11_go 14 = .ok (.invokevirtual 140, 3) := by decide +kernel
theorem dX11_go_17 : decode cX11_go 17 = .ok (.iload_n 1, 1) := by decide +kernel
theorem dX11_go_18 : decode cX11_go 18 = .ok (.invokestatic 101, 3) := by decide +kernel
theorem dX11_go_21 : decode cX11_go 21 = .ok (.ifCond .ne 6, 3) := by decide +kernel
theorem dX11_go_24 : decode cX11_go 24 = .ok (.bipush (-4), 2) := by decide +kernel
theorem dX11_go_26 : decode cX11_go 26 = .ok (.ireturn, 1) := by decide +kernel
theorem dX11_go_27 : decode cX11_go 27 = .ok (.aload_n 0, 1) := by decide +kernel
theorem dX11_go_28 : decode cX11_go 28 = .ok (.getfield 12, 3) := by decide +kernel
theorem dX11_go_31 : decode cX11_go 31 = .ok (.iload_n 1, 1) := by decide +kernel
theorem dX11_go_32 : decode cX11_go 32 = .ok (.invokevirtual 143, 3) := by decide +kernel
theorem dX11_go_35 : decode cX11_go 35 = .ok (.aload_n 0, 1) := by decide +kernel
theorem dX11_go_36 : decode cX11_go 36 = .ok (.getfield 12, 3) := by decide +kernel
theorem dX11_go_39 : decode cX11_go 39 = .ok (.iload_n 1, 1) := by decide +kernel
theorem dX11_go_40 : decode cX11_go 40 = .ok (.invokevirtual 79, 3) := by decide +kernel
theorem dX11_go_43 : decode cX11_go 43 = .ok (.ireturn, 1) := by decide +kernel
def f_X11_go (S : Sh) (R : Rw)  (I : Iw) (a0 : Nat) (x1 : Int32) : Option (Iw × Int32) := gp (sok S a0 11 12) (rl (R a0 0) (fun b2 => gp (sok S b2 7 16) (bd (f_X7_has S R I b2 x1) (fun r4 => (if r4 = 0 then some (I, (-1 : Int32)) else bd (f_X11_may S R I a0) (fun r6 => bd (f_X11_holds S R I r6 x1) (fun r7 => (if r7 = 0 then some (I, (-4 : Int32)) else rl (R a0 0) (fun b9 => gp (sok S b9 7 16) (bd (f_X7_putOut S R I b9 x1) (fun r11 => rl (R a0 0) (fun b12 => gp (sok S b12 7 16) (bd (f_X7_fee S R r11 b12 x1) (fun r14 => some (r11, r14)))))))))))))))
set_option maxHeartbeats 4000000 in
theorem b_X11_go {E : Ev} {p : Program} {l : Launch} {e : Env} {s : State} {m : MethodId} {args : Array Value} {below : List Frame} {meth : Method} {c : Code} (C : Cx E RX11 cX11_go 2 p s m c) (hr : meth.sig.returnType = (some .int)) (hk : meth.locks = false) {S : Sh} {R : Rw} {r : Iw × Int32}  : ∀ (I : Iw) (a0 : Nat) (x1 : Int32), f_X11_go S R   I a0 x1 = some r → Wk E 2 p l e ({ frames := 5, cells := 0, slots := 0, locals := 117 } : Room) s m args below meth c 0 0 (MQ below (Qw E S R r.1 (some (.int r.2))) args s 0 0 (fun q => E.1 ≤ q)) 0 [(0, .ref (E.1 + a0)), (1, .int x1)] [] S R I := by
  intro I a0 x1 h
  rw [f_X11_go] at h
  refine k_aloadn (pc := 0) C dX11_go_0 (i := 0) rfl 0 rfl ?_
  obtain ⟨hs10, h⟩ := gp_e h
  have hs1 := sok_e hs10
  obtain ⟨b2, hb2, h⟩ := rl_e h
  refine k_getR (pc := 1) C lkF_RX11_12_11 hs1 ir_11_0 hb2 dX11_go_1 ?_
  refine k_iloadn (pc := 4) C dX11_go_4 (i := 1) rfl 1 rfl ?_
  obtain ⟨hs30, h⟩ := gp_e h
  have hs3 := sok_e hs30
  obtain ⟨r4, hr4, h⟩ := bd_e h
  refine k_V (pc := 5) (st := []) C (c_X7_has hr4) lkV_RX11_63 hs3 rfl rfl rfl (Nat.le_of_ble_eq_true rfl) (Nat.le_of_ble_eq_true rfl) (Nat.le_of_ble_eq_true rfl) (Nat.le_of_ble_eq_true rfl) (Nat.le_of_ble_eq_true rfl) dX11_go_5 ?_
  refine k_nf (cells2 := 0) (slots2 := 0) (st2 := [.int r4]) rfl rfl rfl ?_
  refine k_if_ne (pc := 8) C dX11_go_8 (tgt := 13) (by decide) (fun hc5 => ?_) (fun hc5 => ?_)
  · rw [if_neg hc5] at h
    refine k_aloadn (pc := 13) C dX11_go_13 (i := 0) rfl 0 rfl ?_
    obtain ⟨r6, hr6, h⟩ := bd_e h
    refine k_V (pc := 14) (st := []) C (c_X11_may hr6) lkV_RX11_140 hs1 rfl rfl rfl (Nat.le_of_ble_eq_true rfl) (Nat.le_of_ble_eq_true rfl) (Nat.le_of_ble_eq_true rfl) (Nat.le_of_ble_eq_true rfl) (Nat.le_of_ble_eq_true rfl) dX11_go_14 ?_
    refine k_nf (cells2 := 0) (slots2 := 0) (st2 := [.int r6]) rfl rfl rfl ?_
    refine k_iloadn (pc := 17) C dX11_go_17 (i := 1) rfl 1 rfl ?_
    obtain ⟨r7, hr7, h⟩ := bd_e h
    refine k_S (pc := 18) (st := []) C (c_X11_holds hr7) lkS_RX11_101 rfl rfl (Nat.le_of_ble_eq_true rfl) (Nat.le_of_ble_eq_true rfl) (Nat.le_of_ble_eq_true rfl) (Nat.le_of_ble_eq_true rfl) (Nat.le_of_ble_eq_true rfl) dX11_go_18 ?_
    refine k_nf (cells2 := 0) (slots2 := 0) (st2 := [.int r7]) rfl rfl rfl ?_
    refine k_if_ne (pc := 21) C dX11_go_21 (tgt := 27) (by decide) (fun hc8 => ?_) (fun hc8 => ?_)
    · rw [if_neg hc8] at h
      refine k_aloadn (pc := 27) C dX11_go_27 (i := 0) rfl 0 rfl ?_
      obtain ⟨b9, hb9, h⟩ := rl_e h
      refine k_getR (pc := 28) C lkF_RX11_12_11 hs1 ir_11_0 hb9 dX11_go_28 ?_
      refine k_iloadn (pc := 31) C dX11_go_31 (i := 1) rfl 1 rfl ?_
      obtain ⟨hs100, h⟩ := gp_e h
      have hs10 := sok_e hs100
      obtain ⟨r11, hr11, h⟩ := bd_e h
      refine k_V (pc := 32) (st := []) C (c_X7_putOut hr11) lkV_RX11_143 hs10 rfl rfl rfl (Nat.le_of_ble_eq_true rfl) (Nat.le_of_ble_eq_true rfl) (Nat.le_of_ble_eq_true rfl) (Nat.le_of_ble_eq_true rfl) (Nat.le_of_ble_eq_true rfl) dX11_go_32 ?_
      refine k_nf (cells2 := 0) (slots2 := 0) (st2 := []) rfl rfl rfl ?_
      refine k_aloadn (pc := 35) C dX11_go_35 (i := 0) rfl 0 rfl ?_
      obtain ⟨b12, hb12, h⟩ := rl_e h
      refine k_getR (pc := 36) C lkF_RX11_12_11 hs1 ir_11_0 hb12 dX11_go_36 ?_
      refine k_iloadn (pc := 39) C dX11_go_39 (i := 1) rfl 1 rfl ?_
      obtain ⟨hs130, h⟩ := gp_e h
      have hs13 := sok_e hs130
      obtain ⟨r14, hr14, h⟩ := bd_e h
      refine k_V (pc := 40) (st := []) C (c_X7_fee hr14) lkV_RX11_79 hs13 rfl rfl rfl (Nat.le_of_ble_eq_true rfl) (Nat.le_of_ble_eq_true rfl) (Nat.le_of_ble_eq_true rfl) (Nat.le_of_ble_eq_true rfl) (Nat.le_of_ble_eq_true rfl) dX11_go_40 ?_
      refine k_nf (cells2 := 0) (slots2 := 0) (st2 := [.int r14]) rfl rfl rfl ?_
      have h := Option.some.inj h
      subst h
      exact k_iret (pc := 43) C hr hk dX11_go_43
    · rw [if_pos hc8] at h
      refine k_bipush (pc := 24) C (v := (-4 : Int32)) dX11_go_24 (by decide) ?_
      have h := Option.some.inj h
      subst h
      exact k_iret (pc := 26) C hr hk dX11_go_26
  · rw [if_pos hc5] at h
    refine k_iconst (pc := 11) C (v := (-1 : Int32)) dX11_go_11 (by decide) ?_
    have h := Option.some.inj h
    subst h
    exact k_iret (pc := 12) C hr hk dX11_go_12
theorem c_X11_go {E : Ev} {l : Launch} {S : Sh} {R : Rw} {I : Iw} {a0 : Nat} {x1 : Int32} {r : Iw × Int32} (h : f_X11_go S R I a0 x1 = some r) : Mt E l yX11_go cX11_go 2 (some .int) 5 117 [.ref (E.1 + a0), .int x1] S R I S R r.1 (some (.int r.2)) 0 0 := mt_of (by decide) (Nat.le_of_ble_eq_true rfl) (fun p e s m args below meth c C hr hk hn => b_X11_go C hr hk _ _ _ h)
theorem lkV_RX11_146 : LkV RX11 146 RX7 yX7_bringBack cX7_bringBack 2 (some .int) 0 := ⟨(t3_in 69 (by decide +kernel) rfl), (t3_in 70 (by decide +kernel) rfl), (t3_in 71 (by decide +kernel) rfl), (t3_in 72 (by decide +kernel) rfl), (t1_in 2 (by decide +kernel) rfl), by decide, by decide +kernel⟩
theorem dX11_come_0 : decode cX11_come 0 = .ok (.aload_n 0, 1) := by decide +kernel
theorem dX11_come_1 : decode cX11_come 1 = .ok (.getfield 12, 3) := by decide +kernel
theorem dX11_come_4 : decode cX11_come 4 = .ok (.invokevirtual 146, 3) := by decide +kernel
theorem dX11_come_7 : decode cX11_come 7 = .ok (.ireturn, 1) := by decide +kernel
def f_X11_come (S : Sh) (R : Rw)  (I : Iw) (a0 : Nat) : Option (Iw × Int32) := gp (sok S a0 11 12) (rl (R a0 0) (fun b2 => gp (sok S b2 7 16) (bd (f_X7_bringBack S R I b2) (fun r4 => some (r4.1, r4.2)))))
set_option maxHeartbeats 4000000 in
theorem b_X11_come {E : Ev} {p : Program} {l : Launch} {e : Env} {s : State} {m : MethodId} {args : Array Value} {below : List Frame} {meth : Method} {c : Code} (C : Cx E RX11 cX11_come 1 p s m c) (hr : meth.sig.returnType = (some .int)) (hk : meth.locks = false) {S : Sh} {R : Rw} {r : Iw × Int32}  : ∀ (I : Iw) (a0 : Nat), f_X11_come S R   I a0 = some r → Wk E 1 p l e ({ frames := 2, cells := 0, slots := 0, locals := 42 } : Room) s m args below meth c 0 0 (MQ below (Qw E S R r.1 (some (.int r.2))) args s 0 0 (fun q => E.1 ≤ q)) 0 [(0, .ref (E.1 + a0))] [] S R I := by
  intro I a0 h
  rw [f_X11_come] at h
  refine k_aloadn (pc := 0) C dX11_come_0 (i := 0) rfl 0 rfl ?_
  obtain ⟨hs10, h⟩ := gp_e h
  have hs1 := sok_e hs10
  obtain ⟨b2, hb2, h⟩ := rl_e h
  refine k_getR (pc := 1) C lkF_RX11_12_11 hs1 ir_11_0 hb2 dX11_come_1 ?_
  obtain ⟨hs30, h⟩ := gp_e h
  have hs3 := sok_e hs30
  obtain ⟨r4, hr4, h⟩ := bd_e h
  refine k_V (pc := 4) (st := []) C (c_X7_bringBack hr4) lkV_RX11_146 hs3 rfl rfl rfl (Nat.le_of_ble_eq_true rfl) (Nat.le_of_ble_eq_true rfl) (Nat.le_of_ble_eq_true rfl) (Nat.le_of_ble_eq_true rfl) (Nat.le_of_ble_eq_true rfl) dX11_come_4 ?_
  refine k_nf (cells2 := 0) (slots2 := 0) (st2 := [.int r4.2]) rfl rfl rfl ?_
  have h := Option.some.inj h
  subst h
  exact k_iret (pc := 7) C hr hk dX11_come_7
theorem c_X11_come {E : Ev} {l : Launch} {S : Sh} {R : Rw} {I : Iw} {a0 : Nat} {r : Iw × Int32} (h : f_X11_come S R I a0 = some r) : Mt E l yX11_come cX11_come 1 (some .int) 2 42 [.ref (E.1 + a0)] S R I S R r.1 (some (.int r.2)) 0 0 := mt_of (by decide) (Nat.le_of_ble_eq_true rfl) (fun p e s m args below meth c C hr hk hn => b_X11_come C hr hk _ _ h)
theorem lkF_RX11_149_7 : LkF RX11 149 7 8 := ⟨RX7, TX7, 16, "UnlikeNeighbours$Shed", fc7, by decide, (t1_in 90 (by decide +kernel) rfl), Or.inl rfl⟩
theorem lkF_RX11_152_7 : LkF RX11 152 7 7 := ⟨RX7, TX7, 16, "UnlikeNeighbours$Shed", fc7, by decide, (t1_in 88 (by decide +kernel) rfl), Or.inl rfl⟩
theorem dX11_line_0 : decode cX11_line 0 = .ok (.iload_n 1, 1) := by decide +kernel
theorem dX11_line_1 : decode cX11_line 1 = .ok (.ifCond .lt 26, 3) := by decide +kernel
theorem dX11_line_4 : decode cX11_line 4 = .ok (.iload_n 1, 1) := by decide +kernel
theorem dX11_line_5 : decode cX11_line 5 = .ok (.aload_n 0, 1) := by decide +kernel
theorem dX11_line_6 : decode cX11_line 6 = .ok (.getfield 12, 3) := by decide +kernel
theorem dX11_line_9 : decode cX11_line 9 = .ok (.getfield 149, 3) := by decide +kernel
theorem dX11_line_12 : decode cX11_line 12 = .ok (.if_icmp .ge 15, 3) := by decide +kernel
theorem dX11_line_15 : decode cX11_line 15 = .ok (.aload_n 0, 1) := by decide +kernel
theorem dX11_line_16 : decode cX11_line 16 = .ok (.getfield 12, 3) := by decide +kernel
theorem dX11_line_19 : decode cX11_line 19 = .ok (.getfield 152, 3) := by decide +kernel
theorem dX11_line_22 : decode cX11_line 22 = .ok (.iload_n 1, 1) := by decide +kernel
theorem dX11_line_23 : decode cX11_line 23 = .ok (.iaload, 1) := by decide +kernel
theorem dX11_line_24 : decode cX11_line 24 = .ok (.goto 5, 3) := by decide +kernel
theorem dX11_line_27 : decode cX11_line 27 = .ok (.bipush (-3), 2) := by decide +kernel
theorem dX11_line_29 : decode cX11_line 29 = .ok (.ireturn, 1) := by decide +kernel
def f_X11_line (S : Sh) (R : Rw) (I : Iw)  (a0 : Nat) (x1 : Int32) : Option (Int32) := (if x1 < 0 then some (-3 : Int32) else gp (sok S a0 11 12) (rl (R a0 0) (fun b3 => gp (sok S b3 7 16) ((if (I b3 8) ≤ x1 then some (-3 : Int32) else rl (R a0 0) (fun b6 => gp (sok S b6 7 16) (rl (R b6 7) (fun b8 => gp (aok S 20 b8 x1) (some (I b8 x1.toNatClampNeg))))))))))
set_option maxHeartbeats 4000000 in
theorem b_X11_line {E : Ev} {p : Program} {l : Launch} {e : Env} {s : State} {m : MethodId} {args : Array Value} {below : List Frame} {meth : Method} {c : Code} (C : Cx E RX11 cX11_line 2 p s m c) (hr : meth.sig.returnType = (some .int)) (hk : meth.locks = false) {S : Sh} {R : Rw} {I : Iw} {r : Int32}  : ∀ (a0 : Nat) (x1 : Int32), f_X11_line S R I   a0 x1 = some r → Wk E 2 p l e ({ frames := 0, cells := 0, slots := 0, locals := 0 } : Room) s m args below meth c 0 0 (MQ below (Qw E S R I (some (.int r))) args s 0 0 (fun q => E.1 ≤ q)) 0 [(0, .ref (E.1 + a0)), (1, .int x1)] [] S R I := by
  intro a0 x1 h
  rw [f_X11_line] at h
  refine k_iloadn (pc := 0) C dX11_line_0 (i := 1) rfl 1 rfl ?_
  refine k_if_lt (pc := 1) C dX11_line_1 (tgt := 27) (by decide) (fun hc1 => ?_) (fun hc1 => ?_)
  · rw [if_pos hc1] at h
    refine k_bipush (pc := 27) C (v := (-3 : Int32)) dX11_line_27 (by decide) ?_
    have h := Option.some.inj h
    subst h
    exact k_iret (pc := 29) C hr hk dX11_line_29
  · rw [if_neg hc1] at h
    refine k_iloadn (pc := 4) C dX11_line_4 (i := 1) rfl 1 rfl ?_
    refine k_aloadn (pc := 5) C dX11_line_5 (i := 0) rfl 0 rfl ?_
    obtain ⟨hs20, h⟩ := gp_e h
    have hs2 := sok_e hs20
    obtain ⟨b3, hb3, h⟩ := rl_e h
    refine k_getR (pc := 6) C lkF_RX11_12_11 hs2 ir_11_0 hb3 dX11_line_6 ?_
    obtain ⟨hs40, h⟩ := gp_e h
    have hs4 := sok_e hs40
    refine k_getI (pc := 9) C lkF_RX11_149_7 hs4 ir_7_8 dX11_line_9 ?_
    refine k_icmp_ge (pc := 12) C dX11_line_12 (tgt := 27) (by decide) (fun hc5 => ?_) (fun hc5 => ?_)
    · rw [if_pos hc5] at h
      refine k_bipush (pc := 27) C (v := (-3 : Int32)) dX11_line_27 (by decide) ?_
      have h := Option.some.inj h
      subst h
      exact k_iret (pc := 29) C hr hk dX11_line_29
    · rw [if_neg hc5] at h
      refine k_aloadn (pc := 15) C dX11_line_15 (i := 0) rfl 0 rfl ?_
      obtain ⟨b6, hb6, h⟩ := rl_e h
      refine k_getR (pc := 16) C lkF_RX11_12_11 hs2 ir_11_0 hb6 dX11_line_16 ?_
      obtain ⟨hs70, h⟩ := gp_e h
      have hs7 := sok_e hs70
      obtain ⟨b8, hb8, h⟩ := rl_e h
      refine k_getR (pc := 19) C lkF_RX11_152_7 hs7 ir_7_7 hb8 dX11_line_19 ?_
      refine k_iloadn (pc := 22) C dX11_line_22 (i := 1) rfl 1 rfl ?_
      obtain ⟨ha9, h⟩ := gp_e h
      refine k_iald (pc := 23) C ha9 dX11_line_23 ?_
      refine k_goto (pc := 24) C dX11_line_24 (tgt := 29) (by decide) ?_
      have h := Option.some.inj h
      subst h
      exact k_iret (pc := 29) C hr hk dX11_line_29
theorem c_X11_line {E : Ev} {l : Launch} {S : Sh} {R : Rw} {I : Iw} {a0 : Nat} {x1 : Int32} {r : Int32} (h : f_X11_line S R I a0 x1 = some r) : Mt E l yX11_line cX11_line 2 (some .int) 0 0 [.ref (E.1 + a0), .int x1] S R I S R I (some (.int r)) 0 0 := mt_of (by decide) (Nat.le_of_ble_eq_true rfl) (fun p e s m args below meth c C hr hk hn => b_X11_line C hr hk _ _ h)
theorem dX11_paid_0 : decode cX11_paid 0 = .ok (.iconst 0, 1) := by decide +kernel
theorem dX11_paid_1 : decode cX11_paid 1 = .ok (.istore_n 1, 1) := by decide +kernel
theorem dX11_paid_2 : decode cX11_paid 2 = .ok (.iconst 0, 1) := by decide +kernel
theorem dX11_paid_3 : decode cX11_paid 3 = .ok (.istore_n 2, 1) := by decide +kernel
theorem dX11_paid_4 : decode cX11_paid 4 = .ok (.iload_n 2, 1) := by decide +kernel
theorem dX11_paid_5 : decode cX11_paid 5 = .ok (.aload_n 0, 1) := by decide +kernel
theorem dX11_paid_6 : decode cX11_paid 6 = .ok (.getfield 12, 3) := by decide +kernel
theorem dX11_paid_9 : decode cX11_paid 9 = .ok (.getfield 149, 3) := by decide +kernel
theorem dX11_paid_12 : decode cX11_paid 12 = .ok (.if_icmp .ge 32, 3) := by decide +kernel
theorem dX11_paid_15 : decode cX11_paid 15 = .ok (.iload_n 1, 1) := by decide +kernel
theorem dX11_paid_16 : decode cX11_paid 16 = .ok (.aload_n 0, 1) := by decide +kernel
theorem dX11_paid_17 : decode cX11_paid 17 = .ok (.getfield 12, 3) := by decide +kernel
theorem dX11_paid_20 : decode cX11_paid 20 = .ok (.aload_n 0, 1) := by decide +kernel
theorem dX11_paid_21 : decode cX11_paid 21 = .ok (.getfield 12, 3) := by decide +kernel
theorem dX11_paid_24 : decode cX11_paid 24 = .ok (.getfield 152, 3) := by decide +kernel
theorem dX11_paid_27 : decode cX11_paid 27 = .ok (.iload_n 2, 1) := by decide +kernel
theorem dX11_paid_28 : decode cX11_paid 28 = .ok (.iaload, 1) := by decide +kernel
theorem dX11_paid_29 : decode cX11_paid 29 = .ok (.invokevirtual 79, 3) := by decide +kernel
theorem dX11_paid_32 : decode cX11_paid 32 = .ok (.iload_n 2, 1) := by decide +kernel
theorem dX11_paid_33 : decode cX11_paid 33 = .ok (.iconst 1, 1) := by decide +kernel
theorem dX11_paid_34 : decode cX11_paid 34 = .ok (.iadd, 1) := by decide +kernel
theorem dX11_paid_35 : decode cX11_paid 35 = .ok (.imul, 1) := by decide +kernel
theorem dX11_paid_36 : decode cX11_paid 36 = .ok (.iadd, 1) := by decide +kernel
theorem dX11_paid_37 : decode cX11_paid 37 = .ok (.istore_n 1, 1) := by decide +kernel
theorem dX11_paid_38 : decode cX11_paid 38 = .ok (.iinc 2 1, 3) := by decide +kernel
theorem dX11_paid_41 : decode cX11_paid 41 = .ok (.goto (-37), 3) := by decide +kernel
theorem dX11_paid_44 : decode cX11_paid 44 = .ok (.iload_n 1, 1) := by decide +kernel
theorem dX11_paid_45 : decode cX11_paid 45 = .ok (.ireturn, 1) := by decide +kernel
def f_X11_paid_4 (S : Sh) (R : Rw) (I : Iw)  : Nat → Nat → Int32 → Int32 → Option (Int32)
  | 0, _, _, _ => none
  | n + 1, a0, x1, x2 => gp (sok S a0 11 12) (rl (R a0 0) (fun b2 => gp (sok S b2 7 16) ((if (I b2 8) ≤ x2 then some x1 else rl (R a0 0) (fun b5 => rl (R a0 0) (fun b6 => gp (sok S b6 7 16) (rl (R b6 7) (fun b8 => gp (aok S 20 b8 x2) (gp (sok S b5 7 16) (bd (f_X7_fee S R I b5 (I b8 x2.toNatClampNeg)) (fun r11 => f_X11_paid_4 S R I  n a0 (x1 + (r11 * (x2 + (1 : Int32)))) (x2 + (1 : Int32)))))))))))))
set_option maxHeartbeats 4000000 in
theorem b_X11_paid_4 {E : Ev} {p : Program} {l : Launch} {e : Env} {s : State} {m : MethodId} {args : Array Value} {below : List Frame} {meth : Method} {c : Code} (C : Cx E RX11 cX11_paid 3 p s m c) (hr : meth.sig.returnType = (some .int)) (hk : meth.locks = false) {S : Sh} {R : Rw} {I : Iw} {r : Int32}  : ∀ (n : Nat) (a0 : Nat) (x1 : Int32) (x2 : Int32), f_X11_paid_4 S R I  n a0 x1 x2 = some r → Wk E 3 p l e ({ frames := 5, cells := 0, slots := 0, locals := 117 } : Room) s m args below meth c 0 0 (MQ below (Qw E S R I (some (.int r))) args s 0 0 (fun q => E.1 ≤ q)) 4 [(0, .ref (E.1 + a0)), (1, .int x1), (2, .int x2)] [] S R I := by
  intro n
  induction n with
  | zero =>
    intro a0 x1 x2 h
    rw [f_X11_paid_4] at h
    cases h
  | succ n ih =>
    intro a0 x1 x2 h
    rw [f_X11_paid_4] at h
    refine k_iloadn (pc := 4) C dX11_paid_4 (i := 2) rfl 2 rfl ?_
    refine k_aloadn (pc := 5) C dX11_paid_5 (i := 0) rfl 0 rfl ?_
    obtain ⟨hs10, h⟩ := gp_e h
    have hs1 := sok_e hs10
    obtain ⟨b2, hb2, h⟩ := rl_e h
    refine k_getR (pc := 6) C lkF_RX11_12_11 hs1 ir_11_0 hb2 dX11_paid_6 ?_
    obtain ⟨hs30, h⟩ := gp_e h
    have hs3 := sok_e hs30
    refine k_getI (pc := 9) C lkF_RX11_149_7 hs3 ir_7_8 dX11_paid_9 ?_
    refine k_icmp_ge (pc := 12) C dX11_paid_12 (tgt := 44) (by decide) (fun hc4 => ?_) (fun hc4 => ?_)
    · rw [if_pos hc4] at h
      refine k_iloadn (pc := 44) C dX11_paid_44 (i := 1) rfl 1 rfl ?_
      have h := Option.some.inj h
      subst h
      exact k_iret (pc := 45) C hr hk dX11_paid_45
    · rw [if_neg hc4] at h
      refine k_iloadn (pc := 15) C dX11_paid_15 (i := 1) rfl 1 rfl ?_
      refine k_aloadn (pc := 16) C dX11_paid_16 (i := 0) rfl 0 rfl ?_
      obtain ⟨b5, hb5, h⟩ := rl_e h
      refine k_getR (pc := 17) C lkF_RX11_12_11 hs1 ir_11_0 hb5 dX11_paid_17 ?_
      refine k_aloadn (pc := 20) C dX11_paid_20 (i := 0) rfl 0 rfl ?_
      obtain ⟨b6, hb6, h⟩ := rl_e h
      refine k_getR (pc := 21) C lkF_RX11_12_11 hs1 ir_11_0 hb6 dX11_paid_21 ?_
      obtain ⟨hs70, h⟩ := gp_e h
      have hs7 := sok_e hs70
      obtain ⟨b8, hb8, h⟩ := rl_e h
      refine k_getR (pc := 24) C lkF_RX11_152_7 hs7 ir_7_7 hb8 dX11_paid_24 ?_
      refine k_iloadn (pc := 27) C dX11_paid_27 (i := 2) rfl 2 rfl ?_
      obtain ⟨ha9, h⟩ := gp_e h
      refine k_iald (pc := 28) C ha9 dX11_paid_28 ?_
      obtain ⟨hs100, h⟩ := gp_e h
      have hs10 := sok_e hs100
      obtain ⟨r11, hr11, h⟩ := bd_e h
      refine k_V (pc := 29) (st := [.int x1]) C (c_X7_fee hr11) lkV_RX11_79 hs10 rfl rfl rfl (Nat.le_of_ble_eq_true rfl) (Nat.le_of_ble_eq_true rfl) (Nat.le_of_ble_eq_true rfl) (Nat.le_of_ble_eq_true rfl) (Nat.le_of_ble_eq_true rfl) dX11_paid_29 ?_
      refine k_nf (cells2 := 0) (slots2 := 0) (st2 := [.int r11, .int x1]) rfl rfl rfl ?_
      refine k_iloadn (pc := 32) C dX11_paid_32 (i := 2) rfl 2 rfl ?_
      refine k_iconst (pc := 33) C (v := (1 : Int32)) dX11_paid_33 (by decide) ?_
      refine k_iadd (pc := 34) C dX11_paid_34 ?_
      refine k_imul (pc := 35) C dX11_paid_35 ?_
      refine k_iadd (pc := 36) C dX11_paid_36 ?_
      refine k_istoren (pc := 37) C dX11_paid_37 (i := 1) rfl (by decide) (L2 := [(0, .ref (E.1 + a0)), (1, .int (x1 + (r11 * (x2 + (1 : Int32))))), (2, .int x2)]) rfl ?_
      refine k_iinc (pc := 38) C dX11_paid_38 2 rfl (v := x2 + (1 : Int32)) (by rfl) (by decide) (L2 := [(0, .ref (E.1 + a0)), (1, .int (x1 + (r11 * (x2 + (1 : Int32))))), (2, .int (x2 + (1 : Int32)))]) rfl ?_
      refine k_goto (pc := 41) C dX11_paid_41 (tgt := 4) (by decide) ?_
      exact ih _ _ _ h
def f_X11_paid (S : Sh) (R : Rw) (I : Iw)  (a0 : Nat) : Option (Int32) := f_X11_paid_4 S R I  512 a0 (0 : Int32) (0 : Int32)
set_option maxHeartbeats 4000000 in
theorem b_X11_paid {E : Ev} {p : Program} {l : Launch} {e : Env} {s : State} {m : MethodId} {args : Array Value} {below : List Frame} {meth : Method} {c : Code} (C : Cx E RX11 cX11_paid 3 p s m c) (hr : meth.sig.returnType = (some .int)) (hk : meth.locks = false) {S : Sh} {R : Rw} {I : Iw} {r : Int32}  : ∀ (a0 : Nat), f_X11_paid S R I   a0 = some r → Wk E 3 p l e ({ frames := 5, cells := 0, slots := 0, locals := 117 } : Room) s m args below meth c 0 0 (MQ below (Qw E S R I (some (.int r))) args s 0 0 (fun q => E.1 ≤ q)) 0 [(0, .ref (E.1 + a0))] [] S R I := by
  intro a0 h
  rw [f_X11_paid] at h
  refine k_iconst (pc := 0) C (v := (0 : Int32)) dX11_paid_0 (by decide) ?_
  refine k_istoren (pc := 1) C dX11_paid_1 (i := 1) rfl (by decide) (L2 := [(0, .ref (E.1 + a0)), (1, .int (0 : Int32))]) rfl ?_
  refine k_iconst (pc := 2) C (v := (0 : Int32)) dX11_paid_2 (by decide) ?_
  refine k_istoren (pc := 3) C dX11_paid_3 (i := 2) rfl (by decide) (L2 := [(0, .ref (E.1 + a0)), (1, .int (0 : Int32)), (2, .int (0 : Int32))]) rfl ?_
  exact b_X11_paid_4 C hr hk  _ _ _ _ h
theorem c_X11_paid {E : Ev} {l : Launch} {S : Sh} {R : Rw} {I : Iw} {a0 : Nat} {r : Int32} (h : f_X11_paid S R I a0 = some r) : Mt E l yX11_paid cX11_paid 3 (some .int) 5 117 [.ref (E.1 + a0)] S R I S R I (some (.int r)) 0 0 := mt_of (by decide) (Nat.le_of_ble_eq_true rfl) (fun p e s m args below meth c C hr hk hn => b_X11_paid C hr hk _ h)
theorem lkF_RX11_31_11 : LkF RX11 31 11 4 := ⟨RX11, TX11, 12, "UnlikeNeighbours", fc11, by decide, (t1_in 237 (by decide +kernel) rfl), Or.inl rfl⟩
theorem lkV_RX11_155 : LkV RX11 155 RX2 yX2_study cX2_study 2 (some .int) 0 := ⟨(t3_in 86 (by decide +kernel) rfl), (t3_in 87 (by decide +kernel) rfl), (t3_in 88 (by decide +kernel) rfl), (t3_in 89 (by decide +kernel) rfl), (t1_in 5 (by decide +kernel) rfl), by decide, by decide +kernel⟩
theorem dX11_ways_0 : decode cX11_ways 0 = .ok (.aload_n 0, 1) := by decide +kernel
theorem dX11_ways_1 : decode cX11_ways 1 = .ok (.getfield 31, 3) := by decide +kernel
theorem dX11_ways_4 : decode cX11_ways 4 = .ok (.invokevirtual 155, 3) := by decide +kernel
theorem dX11_ways_7 : decode cX11_ways 7 = .ok (.ireturn, 1) := by decide +kernel
def f_X11_ways (S : Sh) (R : Rw)  (I : Iw) (a0 : Nat) : Option (Iw × Int32) := gp (sok S a0 11 12) (rl (R a0 4) (fun b2 => gp (sok S b2 2 11) (bd (f_X2_study S R I b2) (fun r4 => some (r4.1, r4.2)))))
set_option maxHeartbeats 4000000 in
theorem b_X11_ways {E : Ev} {p : Program} {l : Launch} {e : Env} {s : State} {m : MethodId} {args : Array Value} {below : List Frame} {meth : Method} {c : Code} (C : Cx E RX11 cX11_ways 1 p s m c) (hr : meth.sig.returnType = (some .int)) (hk : meth.locks = false) {S : Sh} {R : Rw} {r : Iw × Int32}  : ∀ (I : Iw) (a0 : Nat), f_X11_ways S R   I a0 = some r → Wk E 1 p l e ({ frames := 38, cells := 0, slots := 0, locals := 887 } : Room) s m args below meth c 0 0 (MQ below (Qw E S R r.1 (some (.int r.2))) args s 0 0 (fun q => E.1 ≤ q)) 0 [(0, .ref (E.1 + a0))] [] S R I := by
  intro I a0 h
  rw [f_X11_ways] at h
  refine k_aloadn (pc := 0) C dX11_ways_0 (i := 0) rfl 0 rfl ?_
  obtain ⟨hs10, h⟩ := gp_e h
  have hs1 := sok_e hs10
  obtain ⟨b2, hb2, h⟩ := rl_e h
  refine k_getR (pc := 1) C lkF_RX11_31_11 hs1 ir_11_4 hb2 dX11_ways_1 ?_
  obtain ⟨hs30, h⟩ := gp_e h
  have hs3 := sok_e hs30
  obtain ⟨r4, hr4, h⟩ := bd_e h
  refine k_V (pc := 4) (st := []) C (c_X2_study hr4) lkV_RX11_155 hs3 rfl rfl rfl (Nat.le_of_ble_eq_true rfl) (Nat.le_of_ble_eq_true rfl) (Nat.le_of_ble_eq_true rfl) (Nat.le_of_ble_eq_true rfl) (Nat.le_of_ble_eq_true rfl) dX11_ways_4 ?_
  refine k_nf (cells2 := 0) (slots2 := 0) (st2 := [.int r4.2]) rfl rfl rfl ?_
  have h := Option.some.inj h
  subst h
  exact k_iret (pc := 7) C hr hk dX11_ways_7
theorem c_X11_ways {E : Ev} {l : Launch} {S : Sh} {R : Rw} {I : Iw} {a0 : Nat} {r : Iw × Int32} (h : f_X11_ways S R I a0 = some r) : Mt E l yX11_ways cX11_ways 1 (some .int) 38 887 [.ref (E.1 + a0)] S R I S R r.1 (some (.int r.2)) 0 0 := mt_of (by decide) (Nat.le_of_ble_eq_true rfl) (fun p e s m args below meth c C hr hk hn => b_X11_ways C hr hk _ _ h)
theorem lkV_RX11_161 : LkV RX11 161 RX2 yX2_findFirst cX2_findFirst 7 (some .int) 1 := ⟨(t3_in 134 (by decide +kernel) rfl), (t3_in 135 (by decide +kernel) rfl), (t3_in 136 (by decide +kernel) rfl), (t3_in 137 (by decide +kernel) rfl), (t1_in 5 (by decide +kernel) rfl), by decide, by decide +kernel⟩
theorem lkF_RX11_167_2 : LkF RX11 167 2 10 := ⟨RX2, TX2, 11, "UnlikeNeighbours$Orders", fc2, by decide, (t1_in 188 (by decide +kernel) rfl), Or.inl rfl⟩
theorem dX11_inFirst_0 : decode cX11_inFirst 0 = .ok (.iload_n 2, 1) := by decide +kernel
theorem dX11_inFirst_1 : decode cX11_inFirst 1 = .ok (.iconst 0, 1) := by decide +kernel
theorem dX11_inFirst_2 : decode cX11_inFirst 2 = .ok (.bipush 8, 2) := by decide +kernel
theorem dX11_inFirst_4 : decode cX11_inFirst 4 = .ok (.invokestatic 55, 3) := by decide +kernel
theorem dX11_inFirst_7 : decode cX11_inFirst 7 = .ok (.ifCond .ne 5, 3) := by decide +kernel
theorem dX11_inFirst_10 : decode cX11_inFirst 10 = .ok (.iconst (-1), 1) := by decide +kernel
theorem dX11_inFirst_11 : decode cX11_inFirst 11 = .ok (.ireturn, 1) := by decide +kernel
theorem dX11_inFirst_12 : decode cX11_inFirst 12 = .ok (.aload_n 0, 1) := by decide +kernel
theorem dX11_inFirst_13 : decode cX11_inFirst 13 = .ok (.getfield 31, 3) := by decide +kernel
theorem dX11_inFirst_16 : decode cX11_inFirst 16 = .ok (.invokevirtual 155, 3) := by decide +kernel
theorem dX11_inFirst_19 : decode cX11_inFirst 19 = .ok (.pop, 1) := by decide +kernel
theorem dX11_inFirst_20 : decode cX11_inFirst 20 = .ok (.iload_n 2, 1) := by decide +kernel
theorem dX11_inFirst_21 : decode cX11_inFirst 21 = .ok (.aload_n 0, 1) := by decide +kernel
theorem dX11_inFirst_22 : decode cX11_inFirst 22 = .ok (.getfield 31, 3) := by decide +kernel
theorem dX11_inFirst_25 : decode cX11_inFirst 25 = .ok (.iload_n 1, 1) := by decide +kernel
theorem dX11_inFirst_26 : decode cX11_inFirst 26 = .ok (.invokevirtual 161, 3) := by decide +kernel
theorem dX11_inFirst_29 : decode cX11_inFirst 29 = .ok (.if_icmp .ge 15, 3) := by decide +kernel
theorem dX11_inFirst_32 : decode cX11_inFirst 32 = .ok (.aload_n 0, 1) := by decide +kernel
theorem dX11_inFirst_33 : decode cX11_inFirst 33 = .ok (.getfield 31, 3) := by decide +kernel
theorem dX11_inFirst_36 : decode cX11_inFirst 36 = .ok (.getfield 167, 3) := by decide +kernel
theorem dX11_inFirst_39 : decode cX11_inFirst 39 = .ok (.iload_n 2, 1) := by decide +kernel
theorem dX11_inFirst_40 : decode cX11_inFirst 40 = .ok (.iaload, 1) := by decide +kernel
theorem dX11_inFirst_41 : decode cX11_inFirst 41 = .ok (.goto 5, 3) := by decide +kernel
theorem dX11_inFirst_44 : decode cX11_inFirst 44 = .ok (.bipush (-3), 2) := by decide +kernel
theorem dX11_inFirst_46 : decode cX11_inFirst 46 = .ok (.ireturn, 1) := by decide +kernel
def f_X11_inFirst (S : Sh) (R : Rw)  (I : Iw) (a0 : Nat) (x1 : Int32) (x2 : Int32) : Option (Iw × Int32) := bd (f_X11_isBetween S R I x2 (0 : Int32) (8 : Int32)) (fun r1 => (if r1 = 0 then some (I, (-1 : Int32)) else gp (sok S a0 11 12) (rl (R a0 4) (fun b4 => gp (sok S b4 2 11) (bd (f_X2_study S R I b4) (fun r6 => rl (R a0 4) (fun b7 => gp (sok S b7 2 11) (bd (f_X2_findFirst S R r6.1 b7 x1) (fun r9 => (if r9.2 ≤ x2 then some (r9.1, (-3 : Int32)) else rl (R a0 4) (fun b11 => gp (sok S b11 2 11) (rl (R b11 10) (fun b13 => gp (aok S 20 b13 x2) (some (r9.1, r9.1 b13 x2.toNatClampNeg)))))))))))))))
set_option maxHeartbeats 4000000 in
theorem b_X11_inFirst {E : Ev} {p : Program} {l : Launch} {e : Env} {s : State} {m : MethodId} {args : Array Value} {below : List Frame} {meth : Method} {c : Code} (C : Cx E RX11 cX11_inFirst 3 p s m c) (hr : meth.sig.returnType = (some .int)) (hk : meth.locks = false) {S : Sh} {R : Rw} {r : Iw × Int32}  : ∀ (I : Iw) (a0 : Nat) (x1 : Int32) (x2 : Int32), f_X11_inFirst S R   I a0 x1 x2 = some r → Wk E 3 p l e ({ frames := 38, cells := 0, slots := 0, locals := 887 } : Room) s m args below meth c 0 0 (MQ below (Qw E S R r.1 (some (.int r.2))) args s 0 0 (fun q => E.1 ≤ q)) 0 [(0, .ref (E.1 + a0)), (1, .int x1), (2, .int x2)] [] S R I := by
  intro I a0 x1 x2 h
  rw [f_X11_inFirst] at h
  refine k_iloadn (pc := 0) C dX11_inFirst_0 (i := 2) rfl 2 rfl ?_
  refine k_iconst (pc := 1) C (v := (0 : Int32)) dX11_inFirst_1 (by decide) ?_
  refine k_bipush (pc := 2) C (v := (8 : Int32)) dX11_inFirst_2 (by decide) ?_
  obtain ⟨r1, hr1, h⟩ := bd_e h
  refine k_S (pc := 4) (st := []) C (c_X11_isBetween hr1) lkS_RX11_55 rfl rfl (Nat.le_of_ble_eq_true rfl) (Nat.le_of_ble_eq_true rfl) (Nat.le_of_ble_eq_true rfl) (Nat.le_of_ble_eq_true rfl) (Nat.le_of_ble_eq_true rfl) dX11_inFirst_4 ?_
  refine k_nf (cells2 := 0) (slots2 := 0) (st2 := [.int r1]) rfl rfl rfl ?_
  refine k_if_ne (pc := 7) C dX11_inFirst_7 (tgt := 12) (by decide) (fun hc2 => ?_) (fun hc2 => ?_)
  · rw [if_neg hc2] at h
    refine k_aloadn (pc := 12) C dX11_inFirst_12 (i := 0) rfl 0 rfl ?_
    obtain ⟨hs30, h⟩ := gp_e h
    have hs3 := sok_e hs30
    obtain ⟨b4, hb4, h⟩ := rl_e h
    refine k_getR (pc := 13) C lkF_RX11_31_11 hs3 ir_11_4 hb4 dX11_inFirst_13 ?_
    obtain ⟨hs50, h⟩ := gp_e h
    have hs5 := sok_e hs50
    obtain ⟨r6, hr6, h⟩ := bd_e h
    refine k_V (pc := 16) (st := []) C (c_X2_study hr6) lkV_RX11_155 hs5 rfl rfl rfl (Nat.le_of_ble_eq_true rfl) (Nat.le_of_ble_eq_true rfl) (Nat.le_of_ble_eq_true rfl) (Nat.le_of_ble_eq_true rfl) (Nat.le_of_ble_eq_true rfl) dX11_inFirst_16 ?_
    refine k_nf (cells2 := 0) (slots2 := 0) (st2 := [.int r6.2]) rfl rfl rfl ?_
    refine k_pop (pc := 19) C dX11_inFirst_19 rfl ?_
    refine k_iloadn (pc := 20) C dX11_inFirst_20 (i := 2) rfl 2 rfl ?_
    refine k_aloadn (pc := 21) C dX11_inFirst_21 (i := 0) rfl 0 rfl ?_
    obtain ⟨b7, hb7, h⟩ := rl_e h
    refine k_getR (pc := 22) C lkF_RX11_31_11 hs3 ir_11_4 hb7 dX11_inFirst_22 ?_
    refine k_iloadn (pc := 25) C dX11_inFirst_25 (i := 1) rfl 1 rfl ?_
    obtain ⟨hs80, h⟩ := gp_e h
    have hs8 := sok_e hs80
    obtain ⟨r9, hr9, h⟩ := bd_e h
    refine k_V (pc := 26) (st := [.int x2]) C (c_X2_findFirst hr9) lkV_RX11_161 hs8 rfl rfl rfl (Nat.le_of_ble_eq_true rfl) (Nat.le_of_ble_eq_true rfl) (Nat.le_of_ble_eq_true rfl) (Nat.le_of_ble_eq_true rfl) (Nat.le_of_ble_eq_true rfl) dX11_inFirst_26 ?_
    refine k_nf (cells2 := 0) (slots2 := 0) (st2 := [.int r9.2, .int x2]) rfl rfl rfl ?_
    refine k_icmp_ge (pc := 29) C dX11_inFirst_29 (tgt := 44) (by decide) (fun hc10 => ?_) (fun hc10 => ?_)
    · rw [if_pos hc10] at h
      refine k_bipush (pc := 44) C (v := (-3 : Int32)) dX11_inFirst_44 (by decide) ?_
      have h := Option.some.inj h
      subst h
      exact k_iret (pc := 46) C hr hk dX11_inFirst_46
    · rw [if_neg hc10] at h
      refine k_aloadn (pc := 32) C dX11_inFirst_32 (i := 0) rfl 0 rfl ?_
      obtain ⟨b11, hb11, h⟩ := rl_e h
      refine k_getR (pc := 33) C lkF_RX11_31_11 hs3 ir_11_4 hb11 dX11_inFirst_33 ?_
      obtain ⟨hs120, h⟩ := gp_e h
      have hs12 := sok_e hs120
      obtain ⟨b13, hb13, h⟩ := rl_e h
      refine k_getR (pc := 36) C lkF_RX11_167_2 hs12 ir_2_10 hb13 dX11_inFirst_36 ?_
      refine k_iloadn (pc := 39) C dX11_inFirst_39 (i := 2) rfl 2 rfl ?_
      obtain ⟨ha14, h⟩ := gp_e h
      refine k_iald (pc := 40) C ha14 dX11_inFirst_40 ?_
      refine k_goto (pc := 41) C dX11_inFirst_41 (tgt := 46) (by decide) ?_
      have h := Option.some.inj h
      subst h
      exact k_iret (pc := 46) C hr hk dX11_inFirst_46
  · rw [if_pos hc2] at h
    refine k_iconst (pc := 10) C (v := (-1 : Int32)) dX11_inFirst_10 (by decide) ?_
    have h := Option.some.inj h
    subst h
    exact k_iret (pc := 11) C hr hk dX11_inFirst_11
theorem c_X11_inFirst {E : Ev} {l : Launch} {S : Sh} {R : Rw} {I : Iw} {a0 : Nat} {x1 : Int32} {x2 : Int32} {r : Iw × Int32} (h : f_X11_inFirst S R I a0 x1 x2 = some r) : Mt E l yX11_inFirst cX11_inFirst 3 (some .int) 38 887 [.ref (E.1 + a0), .int x1, .int x2] S R I S R r.1 (some (.int r.2)) 0 0 := mt_of (by decide) (Nat.le_of_ble_eq_true rfl) (fun p e s m args below meth c C hr hk hn => b_X11_inFirst C hr hk _ _ _ _ h)
theorem lkV_RX11_158 : LkV RX11 158 RX11 yX11_inFirst cX11_inFirst 3 (some .int) 2 := ⟨(t3_in 130 (by decide +kernel) rfl), (t3_in 132 (by decide +kernel) rfl), (t0_in 20 (by decide +kernel) rfl), (t3_in 133 (by decide +kernel) rfl), (t1_in 1 (by decide +kernel) rfl), by decide, by decide +kernel⟩
theorem dX11_way_0 : decode cX11_way 0 = .ok (.aload_n 0, 1) := by decide +kernel
theorem dX11_way_1 : decode cX11_way 1 = .ok (.iconst 0, 1) := by decide +kernel
theorem dX11_way_2 : decode cX11_way 2 = .ok (.iload_n 1, 1) := by decide +kernel
theorem dX11_way_3 : decode cX11_way 3 = .ok (.invokevirtual 158, 3) := by decide +kernel
theorem dX11_way_6 : decode cX11_way 6 = .ok (.ireturn, 1) := by decide +kernel
def f_X11_way (S : Sh) (R : Rw)  (I : Iw) (a0 : Nat) (x1 : Int32) : Option (Iw × Int32) := gp (sok S a0 11 12) (bd (f_X11_inFirst S R I a0 (0 : Int32) x1) (fun r2 => some (r2.1, r2.2)))
set_option maxHeartbeats 4000000 in
theorem b_X11_way {E : Ev} {p : Program} {l : Launch} {e : Env} {s : State} {m : MethodId} {args : Array Value} {below : List Frame} {meth : Method} {c : Code} (C : Cx E RX11 cX11_way 2 p s m c) (hr : meth.sig.returnType = (some .int)) (hk : meth.locks = false) {S : Sh} {R : Rw} {r : Iw × Int32}  : ∀ (I : Iw) (a0 : Nat) (x1 : Int32), f_X11_way S R   I a0 x1 = some r → Wk E 2 p l e ({ frames := 39, cells := 0, slots := 0, locals := 909 } : Room) s m args below meth c 0 0 (MQ below (Qw E S R r.1 (some (.int r.2))) args s 0 0 (fun q => E.1 ≤ q)) 0 [(0, .ref (E.1 + a0)), (1, .int x1)] [] S R I := by
  intro I a0 x1 h
  rw [f_X11_way] at h
  refine k_aloadn (pc := 0) C dX11_way_0 (i := 0) rfl 0 rfl ?_
  refine k_iconst (pc := 1) C (v := (0 : Int32)) dX11_way_1 (by decide) ?_
  refine k_iloadn (pc := 2) C dX11_way_2 (i := 1) rfl 1 rfl ?_
  obtain ⟨hs10, h⟩ := gp_e h
  have hs1 := sok_e hs10
  obtain ⟨r2, hr2, h⟩ := bd_e h
  refine k_V (pc := 3) (st := []) C (c_X11_inFirst hr2) lkV_RX11_158 hs1 rfl rfl rfl (Nat.le_of_ble_eq_true rfl) (Nat.le_of_ble_eq_true rfl) (Nat.le_of_ble_eq_true rfl) (Nat.le_of_ble_eq_true rfl) (Nat.le_of_ble_eq_true rfl) dX11_way_3 ?_
  refine k_nf (cells2 := 0) (slots2 := 0) (st2 := [.int r2.2]) rfl rfl rfl ?_
  have h := Option.some.inj h
  subst h
  exact k_iret (pc := 6) C hr hk dX11_way_6
theorem c_X11_way {E : Ev} {l : Launch} {S : Sh} {R : Rw} {I : Iw} {a0 : Nat} {x1 : Int32} {r : Iw × Int32} (h : f_X11_way S R I a0 x1 = some r) : Mt E l yX11_way cX11_way 2 (some .int) 39 909 [.ref (E.1 + a0), .int x1] S R I S R r.1 (some (.int r.2)) 0 0 := mt_of (by decide) (Nat.le_of_ble_eq_true rfl) (fun p e s m args below meth c C hr hk hn => b_X11_way C hr hk _ _ _ h)
theorem dX11_longest_0 : decode cX11_longest 0 = .ok (.aload_n 0, 1) := by decide +kernel
theorem dX11_longest_1 : decode cX11_longest 1 = .ok (.getfield 31, 3) := by decide +kernel
theorem dX11_longest_4 : decode cX11_longest 4 = .ok (.invokevirtual 155, 3) := by decide +kernel
theorem dX11_longest_7 : decode cX11_longest 7 = .ok (.pop, 1) := by decide +kernel
theorem dX11_longest_8 : decode cX11_longest 8 = .ok (.aload_n 0, 1) := by decide +kernel
theorem dX11_longest_9 : decode cX11_longest 9 = .ok (.getfield 31, 3) := by decide +kernel
theorem dX11_longest_12 : decode cX11_longest 12 = .ok (.iconst 1, 1) := by decide +kernel
theorem dX11_longest_13 : decode cX11_longest 13 = .ok (.invokevirtual 161, 3) := by decide +kernel
theorem dX11_longest_16 : decode cX11_longest 16 = .ok (.ireturn, 1) := by decide +kernel
def f_X11_longest (S : Sh) (R : Rw)  (I : Iw) (a0 : Nat) : Option (Iw × Int32) := gp (sok S a0 11 12) (rl (R a0 4) (fun b2 => gp (sok S b2 2 11) (bd (f_X2_study S R I b2) (fun r4 => rl (R a0 4) (fun b5 => gp (sok S b5 2 11) (bd (f_X2_findFirst S R r4.1 b5 (1 : Int32)) (fun r7 => some (r7.1, r7.2))))))))
set_option maxHeartbeats 4000000 in
theorem b_X11_longest {E : Ev} {p : Program} {l : Launch} {e : Env} {s : State} {m : MethodId} {args : Array Value} {below : List Frame} {meth : Method} {c : Code} (C : Cx E RX11 cX11_longest 1 p s m c) (hr : meth.sig.returnType = (some .int)) (hk : meth.locks = false) {S : Sh} {R : Rw} {r : Iw × Int32}  : ∀ (I : Iw) (a0 : Nat), f_X11_longest S R   I a0 = some r → Wk E 1 p l e ({ frames := 38, cells := 0, slots := 0, locals := 887 } : Room) s m args below meth c 0 0 (MQ below (Qw E S R r.1 (some (.int r.2))) args s 0 0 (fun q => E.1 ≤ q)) 0 [(0, .ref (E.1 + a0))] [] S R I := by
  intro I a0 h
  rw [f_X11_longest] at h
  refine k_aloadn (pc := 0) C dX11_longest_0 (i := 0) rfl 0 rfl ?_
  obtain ⟨hs10, h⟩ := gp_e h
  have hs1 := sok_e hs10
  obtain ⟨b2, hb2, h⟩ := rl_e h
  refine k_getR (pc := 1) C lkF_RX11_31_11 hs1 ir_11_4 hb2 dX11_longest_1 ?_
  obtain ⟨hs30, h⟩ := gp_e h
  have hs3 := sok_e hs30
  obtain ⟨r4, hr4, h⟩ := bd_e h
  refine k_V (pc := 4) (st := []) C (c_X2_study hr4) lkV_RX11_155 hs3 rfl rfl rfl (Nat.le_of_ble_eq_true rfl) (Nat.le_of_ble_eq_true rfl) (Nat.le_of_ble_eq_true rfl) (Nat.le_of_ble_eq_true rfl) (Nat.le_of_ble_eq_true rfl) dX11_longest_4 ?_
  refine k_nf (cells2 := 0) (slots2 := 0) (st2 := [.int r4.2]) rfl rfl rfl ?_
  refine k_pop (pc := 7) C dX11_longest_7 rfl ?_
  refine k_aloadn (pc := 8) C dX11_longest_8 (i := 0) rfl 0 rfl ?_
  obtain ⟨b5, hb5, h⟩ := rl_e h
  refine k_getR (pc := 9) C lkF_RX11_31_11 hs1 ir_11_4 hb5 dX11_longest_9 ?_
  refine k_iconst (pc := 12) C (v := (1 : Int32)) dX11_longest_12 (by decide) ?_
  obtain ⟨hs60, h⟩ := gp_e h
  have hs6 := sok_e hs60
  obtain ⟨r7, hr7, h⟩ := bd_e h
  refine k_V (pc := 13) (st := []) C (c_X2_findFirst hr7) lkV_RX11_161 hs6 rfl rfl rfl (Nat.le_of_ble_eq_true rfl) (Nat.le_of_ble_eq_true rfl) (Nat.le_of_ble_eq_true rfl) (Nat.le_of_ble_eq_true rfl) (Nat.le_of_ble_eq_true rfl) dX11_longest_13 ?_
  refine k_nf (cells2 := 0) (slots2 := 0) (st2 := [.int r7.2]) rfl rfl rfl ?_
  have h := Option.some.inj h
  subst h
  exact k_iret (pc := 16) C hr hk dX11_longest_16
theorem c_X11_longest {E : Ev} {l : Launch} {S : Sh} {R : Rw} {I : Iw} {a0 : Nat} {r : Iw × Int32} (h : f_X11_longest S R I a0 = some r) : Mt E l yX11_longest cX11_longest 1 (some .int) 38 887 [.ref (E.1 + a0)] S R I S R r.1 (some (.int r.2)) 0 0 := mt_of (by decide) (Nat.le_of_ble_eq_true rfl) (fun p e s m args below meth c C hr hk hn => b_X11_longest C hr hk _ _ h)
theorem dX11_far_0 : decode cX11_far 0 = .ok (.aload_n 0, 1) := by decide +kernel
theorem dX11_far_1 : decode cX11_far 1 = .ok (.iconst 1, 1) := by decide +kernel
theorem dX11_far_2 : decode cX11_far 2 = .ok (.iload_n 1, 1) := by decide +kernel
theorem dX11_far_3 : decode cX11_far 3 = .ok (.invokevirtual 158, 3) := by decide +kernel
theorem dX11_far_6 : decode cX11_far 6 = .ok (.ireturn, 1) := by decide +kernel
def f_X11_far (S : Sh) (R : Rw)  (I : Iw) (a0 : Nat) (x1 : Int32) : Option (Iw × Int32) := gp (sok S a0 11 12) (bd (f_X11_inFirst S R I a0 (1 : Int32) x1) (fun r2 => some (r2.1, r2.2)))
set_option maxHeartbeats 4000000 in
theorem b_X11_far {E : Ev} {p : Program} {l : Launch} {e : Env} {s : State} {m : MethodId} {args : Array Value} {below : List Frame} {meth : Method} {c : Code} (C : Cx E RX11 cX11_far 2 p s m c) (hr : meth.sig.returnType = (some .int)) (hk : meth.locks = false) {S : Sh} {R : Rw} {r : Iw × Int32}  : ∀ (I : Iw) (a0 : Nat) (x1 : Int32), f_X11_far S R   I a0 x1 = some r → Wk E 2 p l e ({ frames := 39, cells := 0, slots := 0, locals := 909 } : Room) s m args below meth c 0 0 (MQ below (Qw E S R r.1 (some (.int r.2))) args s 0 0 (fun q => E.1 ≤ q)) 0 [(0, .ref (E.1 + a0)), (1, .int x1)] [] S R I := by
  intro I a0 x1 h
  rw [f_X11_far] at h
  refine k_aloadn (pc := 0) C dX11_far_0 (i := 0) rfl 0 rfl ?_
  refine k_iconst (pc := 1) C (v := (1 : Int32)) dX11_far_1 (by decide) ?_
  refine k_iloadn (pc := 2) C dX11_far_2 (i := 1) rfl 1 rfl ?_
  obtain ⟨hs10, h⟩ := gp_e h
  have hs1 := sok_e hs10
  obtain ⟨r2, hr2, h⟩ := bd_e h
  refine k_V (pc := 3) (st := []) C (c_X11_inFirst hr2) lkV_RX11_158 hs1 rfl rfl rfl (Nat.le_of_ble_eq_true rfl) (Nat.le_of_ble_eq_true rfl) (Nat.le_of_ble_eq_true rfl) (Nat.le_of_ble_eq_true rfl) (Nat.le_of_ble_eq_true rfl) dX11_far_3 ?_
  refine k_nf (cells2 := 0) (slots2 := 0) (st2 := [.int r2.2]) rfl rfl rfl ?_
  have h := Option.some.inj h
  subst h
  exact k_iret (pc := 6) C hr hk dX11_far_6
theorem c_X11_far {E : Ev} {l : Launch} {S : Sh} {R : Rw} {I : Iw} {a0 : Nat} {x1 : Int32} {r : Iw × Int32} (h : f_X11_far S R I a0 x1 = some r) : Mt E l yX11_far cX11_far 2 (some .int) 39 909 [.ref (E.1 + a0), .int x1] S R I S R r.1 (some (.int r.2)) 0 0 := mt_of (by decide) (Nat.le_of_ble_eq_true rfl) (fun p e s m args below meth c C hr hk hn => b_X11_far C hr hk _ _ _ h)
theorem lkV_RX11_164 : LkV RX11 164 RX2 yX2_leastCost cX2_leastCost 2 (some .int) 0 := ⟨(t3_in 158 (by decide +kernel) rfl), (t3_in 159 (by decide +kernel) rfl), (t3_in 160 (by decide +kernel) rfl), (t3_in 161 (by decide +kernel) rfl), (t1_in 5 (by decide +kernel) rfl), by decide, by decide +kernel⟩
theorem dX11_cheapest_0 : decode cX11_cheapest 0 = .ok (.aload_n 0, 1) := by decide +kernel
theorem dX11_cheapest_1 : decode cX11_cheapest 1 = .ok (.getfield 31, 3) := by decide +kernel
theorem dX11_cheapest_4 : decode cX11_cheapest 4 = .ok (.invokevirtual 155, 3) := by decide +kernel
theorem dX11_cheapest_7 : decode cX11_cheapest 7 = .ok (.pop, 1) := by decide +kernel
theorem dX11_cheapest_8 : decode cX11_cheapest 8 = .ok (.aload_n 0, 1) := by decide +kernel
theorem dX11_cheapest_9 : decode cX11_cheapest 9 = .ok (.getfield 31, 3) := by decide +kernel
theorem dX11_cheapest_12 : decode cX11_cheapest 12 = .ok (.invokevirtual 164, 3) := by decide +kernel
theorem dX11_cheapest_15 : decode cX11_cheapest 15 = .ok (.ireturn, 1) := by decide +kernel
def f_X11_cheapest (S : Sh) (R : Rw)  (I : Iw) (a0 : Nat) : Option (Iw × Int32) := gp (sok S a0 11 12) (rl (R a0 4) (fun b2 => gp (sok S b2 2 11) (bd (f_X2_study S R I b2) (fun r4 => rl (R a0 4) (fun b5 => gp (sok S b5 2 11) (bd (f_X2_leastCost S R r4.1 b5) (fun r7 => some (r4.1, r7))))))))
set_option maxHeartbeats 4000000 in
theorem b_X11_cheapest {E : Ev} {p : Program} {l : Launch} {e : Env} {s : State} {m : MethodId} {args : Array Value} {below : List Frame} {meth : Method} {c : Code} (C : Cx E RX11 cX11_cheapest 1 p s m c) (hr : meth.sig.returnType = (some .int)) (hk : meth.locks = false) {S : Sh} {R : Rw} {r : Iw × Int32}  : ∀ (I : Iw) (a0 : Nat), f_X11_cheapest S R   I a0 = some r → Wk E 1 p l e ({ frames := 38, cells := 0, slots := 0, locals := 887 } : Room) s m args below meth c 0 0 (MQ below (Qw E S R r.1 (some (.int r.2))) args s 0 0 (fun q => E.1 ≤ q)) 0 [(0, .ref (E.1 + a0))] [] S R I := by
  intro I a0 h
  rw [f_X11_cheapest] at h
  refine k_aloadn (pc := 0) C dX11_cheapest_0 (i := 0) rfl 0 rfl ?_
  obtain ⟨hs10, h⟩ := gp_e h
  have hs1 := sok_e hs10
  obtain ⟨b2, hb2, h⟩ := rl_e h
  refine k_getR (pc := 1) C lkF_RX11_31_11 hs1 ir_11_4 hb2 dX11_cheapest_1 ?_
  obtain ⟨hs30, h⟩ := gp_e h
  have hs3 := sok_e hs30
  obtain ⟨r4, hr4, h⟩ := bd_e h
  refine k_V (pc := 4) (st := []) C (c_X2_study hr4) lkV_RX11_155 hs3 rfl rfl rfl (Nat.le_of_ble_eq_true rfl) (Nat.le_of_ble_eq_true rfl) (Nat.le_of_ble_eq_true rfl) (Nat.le_of_ble_eq_true rfl) (Nat.le_of_ble_eq_true rfl) dX11_cheapest_4 ?_
  refine k_nf (cells2 := 0) (slots2 := 0) (st2 := [.int r4.2]) rfl rfl rfl ?_
  refine k_pop (pc := 7) C dX11_cheapest_7 rfl ?_
  refine k_aloadn (pc := 8) C dX11_cheapest_8 (i := 0) rfl 0 rfl ?_
  obtain ⟨b5, hb5, h⟩ := rl_e h
  refine k_getR (pc := 9) C lkF_RX11_31_11 hs1 ir_11_4 hb5 dX11_cheapest_9 ?_
  obtain ⟨hs60, h⟩ := gp_e h
  have hs6 := sok_e hs60
  obtain ⟨r7, hr7, h⟩ := bd_e h
  refine k_V (pc := 12) (st := []) C (c_X2_leastCost hr7) lkV_RX11_164 hs6 rfl rfl rfl (Nat.le_of_ble_eq_true rfl) (Nat.le_of_ble_eq_true rfl) (Nat.le_of_ble_eq_true rfl) (Nat.le_of_ble_eq_true rfl) (Nat.le_of_ble_eq_true rfl) dX11_cheapest_12 ?_
  refine k_nf (cells2 := 0) (slots2 := 0) (st2 := [.int r7]) rfl rfl rfl ?_
  have h := Option.some.inj h
  subst h
  exact k_iret (pc := 15) C hr hk dX11_cheapest_15
theorem c_X11_cheapest {E : Ev} {l : Launch} {S : Sh} {R : Rw} {I : Iw} {a0 : Nat} {r : Iw × Int32} (h : f_X11_cheapest S R I a0 = some r) : Mt E l yX11_cheapest cX11_cheapest 1 (some .int) 38 887 [.ref (E.1 + a0)] S R I S R r.1 (some (.int r.2)) 0 0 := mt_of (by decide) (Nat.le_of_ble_eq_true rfl) (fun p e s m args below meth c C hr hk hn => b_X11_cheapest C hr hk _ _ h)
theorem dX11_cheap_0 : decode cX11_cheap 0 = .ok (.aload_n 0, 1) := by decide +kernel
theorem dX11_cheap_1 : decode cX11_cheap 1 = .ok (.iconst 2, 1) := by decide +kernel
theorem dX11_cheap_2 : decode cX11_cheap 2 = .ok (.iload_n 1, 1) := by decide +kernel
theorem dX11_cheap_3 : decode cX11_cheap 3 = .ok (.invokevirtual 158, 3) := by decide +kernel
theorem dX11_cheap_6 : decode cX11_cheap 6 = .ok (.ireturn, 1) := by decide +kernel
def f_X11_cheap (S : Sh) (R : Rw)  (I : Iw) (a0 : Nat) (x1 : Int32) : Option (Iw × Int32) := gp (sok S a0 11 12) (bd (f_X11_inFirst S R I a0 (2 : Int32) x1) (fun r2 => some (r2.1, r2.2)))
set_option maxHeartbeats 4000000 in
theorem b_X11_cheap {E : Ev} {p : Program} {l : Launch} {e : Env} {s : State} {m : MethodId} {args : Array Value} {below : List Frame} {meth : Method} {c : Code} (C : Cx E RX11 cX11_cheap 2 p s m c) (hr : meth.sig.returnType = (some .int)) (hk : meth.locks = false) {S : Sh} {R : Rw} {r : Iw × Int32}  : ∀ (I : Iw) (a0 : Nat) (x1 : Int32), f_X11_cheap S R   I a0 x1 = some r → Wk E 2 p l e ({ frames := 39, cells := 0, slots := 0, locals := 909 } : Room) s m args below meth c 0 0 (MQ below (Qw E S R r.1 (some (.int r.2))) args s 0 0 (fun q => E.1 ≤ q)) 0 [(0, .ref (E.1 + a0)), (1, .int x1)] [] S R I := by
  intro I a0 x1 h
  rw [f_X11_cheap] at h
  refine k_aloadn (pc := 0) C dX11_cheap_0 (i := 0) rfl 0 rfl ?_
  refine k_iconst (pc := 1) C (v := (2 : Int32)) dX11_cheap_1 (by decide) ?_
  refine k_iloadn (pc := 2) C dX11_cheap_2 (i := 1) rfl 1 rfl ?_
  obtain ⟨hs10, h⟩ := gp_e h
  have hs1 := sok_e hs10
  obtain ⟨r2, hr2, h⟩ := bd_e h
  refine k_V (pc := 3) (st := []) C (c_X11_inFirst hr2) lkV_RX11_158 hs1 rfl rfl rfl (Nat.le_of_ble_eq_true rfl) (Nat.le_of_ble_eq_true rfl) (Nat.le_of_ble_eq_true rfl) (Nat.le_of_ble_eq_true rfl) (Nat.le_of_ble_eq_true rfl) dX11_cheap_3 ?_
  refine k_nf (cells2 := 0) (slots2 := 0) (st2 := [.int r2.2]) rfl rfl rfl ?_
  have h := Option.some.inj h
  subst h
  exact k_iret (pc := 6) C hr hk dX11_cheap_6
theorem c_X11_cheap {E : Ev} {l : Launch} {S : Sh} {R : Rw} {I : Iw} {a0 : Nat} {x1 : Int32} {r : Iw × Int32} (h : f_X11_cheap S R I a0 x1 = some r) : Mt E l yX11_cheap cX11_cheap 2 (some .int) 39 909 [.ref (E.1 + a0), .int x1] S R I S R r.1 (some (.int r.2)) 0 0 := mt_of (by decide) (Nat.le_of_ble_eq_true rfl) (fun p e s m args below meth c C hr hk hn => b_X11_cheap C hr hk _ _ _ h)
theorem lkF_RX11_170_2 : LkF RX11 170 2 9 := ⟨RX2, TX2, 11, "UnlikeNeighbours$Orders", fc2, by decide, (t1_in 186 (by decide +kernel) rfl), Or.inl rfl⟩
theorem dX11_never_0 : decode cX11_never 0 = .ok (.aload_n 0, 1) := by decide +kernel
theorem dX11_never_1 : decode cX11_never 1 = .ok (.getfield 31, 3) := by decide +kernel
theorem dX11_never_4 : decode cX11_never 4 = .ok (.invokevirtual 155, 3) := by decide +kernel
theorem dX11_never_7 : decode cX11_never 7 = .ok (.pop, 1) := by decide +kernel
theorem dX11_never_8 : decode cX11_never 8 = .ok (.aload_n 0, 1) := by decide +kernel
theorem dX11_never_9 : decode cX11_never 9 = .ok (.getfield 12, 3) := by decide +kernel
theorem dX11_never_12 : decode cX11_never 12 = .ok (.getfield 89, 3) := by decide +kernel
theorem dX11_never_15 : decode cX11_never 15 = .ok (.aload_n 0, 1) := by decide +kernel
theorem dX11_never_16 : decode cX11_never 16 = .ok (.getfield 31, 3) := by decide +kernel
theorem dX11_never_19 : decode cX11_never 19 = .ok (.getfield 170, 3) := by decide +kernel
theorem dX11_never_22 : decode cX11_never 22 = .ok (.iconst (-1), 1) := by decide +kernel
theorem dX11_never_23 : decode cX11_never 23 = .ok (.ixor, 1) := by decide +kernel
theorem dX11_never_24 : decode cX11_never 24 = .ok (.iand, 1) := by decide +kernel
theorem dX11_never_25 : decode cX11_never 25 = .ok (.ireturn, 1) := by decide +kernel
def f_X11_never (S : Sh) (R : Rw)  (I : Iw) (a0 : Nat) : Option (Iw × Int32) := gp (sok S a0 11 12) (rl (R a0 4) (fun b2 => gp (sok S b2 2 11) (bd (f_X2_study S R I b2) (fun r4 => rl (R a0 0) (fun b5 => gp (sok S b5 7 16) (rl (R a0 4) (fun b7 => gp (sok S b7 2 11) (some (r4.1, (r4.1 b5 6) &&& ((r4.1 b7 9) ^^^ (-1 : Int32)))))))))))
set_option maxHeartbeats 4000000 in
theorem b_X11_never {E : Ev} {p : Program} {l : Launch} {e : Env} {s : State} {m : MethodId} {args : Array Value} {below : List Frame} {meth : Method} {c : Code} (C : Cx E RX11 cX11_never 1 p s m c) (hr : meth.sig.returnType = (some .int)) (hk : meth.locks = false) {S : Sh} {R : Rw} {r : Iw × Int32}  : ∀ (I : Iw) (a0 : Nat), f_X11_never S R   I a0 = some r → Wk E 1 p l e ({ frames := 38, cells := 0, slots := 0, locals := 887 } : Room) s m args below meth c 0 0 (MQ below (Qw E S R r.1 (some (.int r.2))) args s 0 0 (fun q => E.1 ≤ q)) 0 [(0, .ref (E.1 + a0))] [] S R I := by
  intro I a0 h
  rw [f_X11_never] at h
  refine k_aloadn (pc := 0) C dX11_never_0 (i := 0) rfl 0 rfl ?_
  obtain ⟨hs10, h⟩ := gp_e h
  have hs1 := sok_e hs10
  obtain ⟨b2, hb2, h⟩ := rl_e h
  refine k_getR (pc := 1) C lkF_RX11_31_11 hs1 ir_11_4 hb2 dX11_never_1 ?_
  obtain ⟨hs30, h⟩ := gp_e h
  have hs3 := sok_e hs30
  obtain ⟨r4, hr4, h⟩ := bd_e h
  refine k_V (pc := 4) (st := []) C (c_X2_study hr4) lkV_RX11_155 hs3 rfl rfl rfl (Nat.le_of_ble_eq_true rfl) (Nat.le_of_ble_eq_true rfl) (Nat.le_of_ble_eq_true rfl) (Nat.le_of_ble_eq_true rfl) (Nat.le_of_ble_eq_true rfl) dX11_never_4 ?_
  refine k_nf (cells2 := 0) (slots2 := 0) (st2 := [.int r4.2]) rfl rfl rfl ?_
  refine k_pop (pc := 7) C dX11_never_7 rfl ?_
  refine k_aloadn (pc := 8) C dX11_never_8 (i := 0) rfl 0 rfl ?_
  obtain ⟨b5, hb5, h⟩ := rl_e h
  refine k_getR (pc := 9) C lkF_RX11_12_11 hs1 ir_11_0 hb5 dX11_never_9 ?_
  obtain ⟨hs60, h⟩ := gp_e h
  have hs6 := sok_e hs60
  refine k_getI (pc := 12) C lkF_RX11_89_7 hs6 ir_7_6 dX11_never_12 ?_
  refine k_aloadn (pc := 15) C dX11_never_15 (i := 0) rfl 0 rfl ?_
  obtain ⟨b7, hb7, h⟩ := rl_e h
  refine k_getR (pc := 16) C lkF_RX11_31_11 hs1 ir_11_4 hb7 dX11_never_16 ?_
  obtain ⟨hs80, h⟩ := gp_e h
  have hs8 := sok_e hs80
  refine k_getI (pc := 19) C lkF_RX11_170_2 hs8 ir_2_9 dX11_never_19 ?_
  refine k_iconst (pc := 22) C (v := (-1 : Int32)) dX11_never_22 (by decide) ?_
  refine k_ixor (pc := 23) C dX11_never_23 ?_
  refine k_iand (pc := 24) C dX11_never_24 ?_
  have h := Option.some.inj h
  subst h
  exact k_iret (pc := 25) C hr hk dX11_never_25
theorem c_X11_never {E : Ev} {l : Launch} {S : Sh} {R : Rw} {I : Iw} {a0 : Nat} {r : Iw × Int32} (h : f_X11_never S R I a0 = some r) : Mt E l yX11_never cX11_never 1 (some .int) 38 887 [.ref (E.1 + a0)] S R I S R r.1 (some (.int r.2)) 0 0 := mt_of (by decide) (Nat.le_of_ble_eq_true rfl) (fun p e s m args below meth c C hr hk hn => b_X11_never C hr hk _ _ h)
theorem lkS_RX11_173 : LkS RX11 173 yX11_without cX11_without 2 (some .int) 2 := ⟨(t3_in 174 (by decide +kernel) rfl), (t3_in 63 (by decide +kernel) rfl), (t3_in 64 (by decide +kernel) rfl), (t1_in 1 (by decide +kernel) rfl), by decide, by decide +kernel⟩
theorem lkV_RX11_176 : LkV RX11 176 RX2 yX2_waysBehind cX2_waysBehind 3 (some .int) 2 := ⟨(t3_in 175 (by decide +kernel) rfl), (t3_in 123 (by decide +kernel) rfl), (t3_in 124 (by decide +kernel) rfl), (t3_in 125 (by decide +kernel) rfl), (t1_in 5 (by decide +kernel) rfl), by decide, by decide +kernel⟩
theorem dX11_best_0 : decode cX11_best 0 = .ok (.aload_n 0, 1) := by decide +kernel
theorem dX11_best_1 : decode cX11_best 1 = .ok (.getfield 31, 3) := by decide +kernel
theorem dX11_best_4 : decode cX11_best 4 = .ok (.invokevirtual 155, 3) := by decide +kernel
theorem dX11_best_7 : decode cX11_best 7 = .ok (.pop, 1) := by decide +kernel
theorem dX11_best_8 : decode cX11_best 8 = .ok (.aload_n 0, 1) := by decide +kernel
theorem dX11_best_9 : decode cX11_best 9 = .ok (.invokevirtual 140, 3) := by decide +kernel
theorem dX11_best_12 : decode cX11_best 12 = .ok (.istore_n 1, 1) := by decide +kernel
theorem dX11_best_13 : decode cX11_best 13 = .ok (.bipush (-3), 2) := by decide +kernel
theorem dX11_best_15 : decode cX11_best 15 = .ok (.istore_n 2, 1) := by decide +kernel
theorem dX11_best_16 : decode cX11_best 16 = .ok (.iconst (-1), 1) := by decide +kernel
theorem dX11_best_17 : decode cX11_best 17 = .ok (.istore_n 3, 1) := by decide +kernel
theorem dX11_best_18 : decode cX11_best 18 = .ok (.iconst 0, 1) := by decide +kernel
theorem dX11_best_19 : decode cX11_best 19 = .ok (.istore 4, 2) := by decide +kernel
theorem dX11_best_21 : decode cX11_best 21 = .ok (.iload 4, 2) := by decide +kernel
theorem dX11_best_23 : decode cX11_best 23 = .ok (.bipush 9, 2) := by decide +kernel
theorem dX11_best_25 : decode cX11_best 25 = .ok (.if_icmp .ge 53, 3) := by decide +kernel
theorem dX11_best_28 : decode cX11_best 28 = .ok (.iload_n 1, 1) := by decide +kernel
theorem dX11_best_29 : decode cX11_best 29 = .ok (.iload 4, 2) := by decide +kernel
theorem dX11_best_31 : decode cX11_best 31 = .ok (.invokestatic 101, 3) := by decide +kernel
theorem dX11_best_34 : decode cX11_best 34 = .ok (.ifCond .eq 38, 3) := by decide +kernel
theorem dX11_best_37 : decode cX11_best 37 = .ok (.aload_n 0, 1) := by decide +kernel
theorem dX11_best_38 : decode cX11_best 38 = .ok (.getfield 31, 3) := by decide +kernel
theorem dX11_best_41 : decode cX11_best 41 = .ok (.aload_n 0, 1) := by decide +kernel
theorem dX11_best_42 : decode cX11_best 42 = .ok (.getfield 12, 3) := by decide +kernel
theorem dX11_best_45 : decode cX11_best 45 = .ok (.getfield 89, 3) := by decide +kernel
theorem dX11_best_48 : decode cX11_best 48 = .ok (.iload 4, 2) := by decide +kernel
theorem dX11_best_50 : decode cX11_best 50 = .ok (.invokestatic 173, 3) := by decide +kernel
theorem dX11_best_53 : decode cX11_best 53 = .ok (.iload 4, 2) := by decide +kernel
theorem dX11_best_55 : decode cX11_best 55 = .ok (.invokevirtual 176, 3) := by decide +kernel
theorem dX11_best_58 : decode cX11_best 58 = .ok (.istore 5, 2) := by decide +kernel
theorem dX11_best_60 : decode cX11_best 60 = .ok (.iload 5, 2) := by decide +kernel
theorem dX11_best_62 : decode cX11_best 62 = .ok (.iload_n 3, 1) := by decide +kernel
theorem dX11_best_63 : decode cX11_best 63 = .ok (.if_icmp .le 9, 3) := by decide +kernel
theorem dX11_best_66 : decode cX11_best 66 = .ok (.iload 5, 2) := by decide +kernel
theorem dX11_best_68 : decode cX11_best 68 = .ok (.istore_n 3, 1) := by decide +kernel
theorem dX11_best_69 : decode cX11_best 69 = .ok (.iload 4, 2) := by decide +kernel
theorem dX11_best_71 : decode cX11_best 71 = .ok (.istore_n 2, 1) := by decide +kernel
theorem dX11_best_72 : decode cX11_best 72 = .ok (.iinc 4 1, 3) := by decide +kernel
theorem dX11_best_75 : decode cX11_best 75 = .ok (.goto (-54), 3) := by decide +kernel
theorem dX11_best_78 : decode cX11_best 78 = .ok (.iload_n 2, 1) := by decide +kernel
theorem dX11_best_79 : decode cX11_best 79 = .ok (.ireturn, 1) := by decide +kernel
def f_X11_best_72 (S : Sh) (R : Rw) (ko21 : Iw → Nat → Int32 → Int32 → Int32 → Int32 → Option (Iw × Int32)) (I : Iw) (a0 : Nat) (x1 : Int32) (x2 : Int32) (x3 : Int32) (x4 : Int32) : Option (Iw × Int32) := ko21 I a0 x1 x2 x3 (x4 + (1 : Int32))
set_option maxHeartbeats 4000000 in
theorem b_X11_best_72 {E : Ev} {p : Program} {l : Launch} {e : Env} {s : State} {m : MethodId} {args : Array Value} {below : List Frame} {meth : Method} {c : Code} (C : Cx E RX11 cX11_best 6 p s m c) (hr : meth.sig.returnType = (some .int)) (hk : meth.locks = false) {S : Sh} {R : Rw} {r : Iw × Int32}  {ko21 : Iw → Nat → Int32 → Int32 → Int32 → Int32 → Option (Iw × Int32)} (hko21 : ∀ (I : Iw) (a0 : Nat) (x1 : Int32) (x2 : Int32) (x3 : Int32) (x4 : Int32), ko21 I a0 x1 x2 x3 x4 = some r → Wk E 6 p l e ({ frames := 38, cells := 0, slots := 0, locals := 887 } : Room) s m args below meth c 0 0 (MQ below (Qw E S R r.1 (some (.int r.2))) args s 0 0 (fun q => E.1 ≤ q)) 21 [(0, .ref (E.1 + a0)), (1, .int x1), (2, .int x2), (3, .int x3), (4, .int x4)] [] S R I) : ∀ (I : Iw) (a0 : Nat) (x1 : Int32) (x2 : Int32) (x3 : Int32) (x4 : Int32), f_X11_best_72 S R ko21  I a0 x1 x2 x3 x4 = some r → Wk E 6 p l e ({ frames := 38, cells := 0, slots := 0, locals := 887 } : Room) s m args below meth c 0 0 (MQ below (Qw E S R r.1 (some (.int r.2))) args s 0 0 (fun q => E.1 ≤ q)) 72 [(0, .ref (E.1 + a0)), (1, .int x1), (2, .int x2), (3, .int x3), (4, .int x4)] [] S R I := by
  intro I a0 x1 x2 x3 x4 h
  rw [f_X11_best_72] at h
  refine k_iinc (pc := 72) C dX11_best_72 4 rfl (v := x4 + (1 : Int32)) (by rfl) (by decide) (L2 := [(0, .ref (E.1 + a0)), (1, .int x1), (2, .int x2), (3, .int x3), (4, .int (x4 + (1 : Int32)))]) rfl ?_
  refine k_goto (pc := 75) C dX11_best_75 (tgt := 21) (by decide) ?_
  exact hko21 _ _ _ _ _ _ h
def f_X11_best_21 (S : Sh) (R : Rw)  : Nat → Iw → Nat → Int32 → Int32 → Int32 → Int32 → Option (Iw × Int32)
  | 0, _, _, _, _, _, _ => none
  | n + 1, I, a0, x1, x2, x3, x4 => (if (9 : Int32) ≤ x4 then some (I, x2) else bd (f_X11_holds S R I x1 x4) (fun r7 => (if r7 = 0 then f_X11_best_72 S R (f_X11_best_21 S R  n) I a0 x1 x2 x3 x4 else gp (sok S a0 11 12) (rl (R a0 4) (fun b10 => rl (R a0 0) (fun b11 => gp (sok S b11 7 16) (bd (f_X11_without S R I (I b11 6) x4) (fun r13 => gp (sok S b10 2 11) (bd (f_X2_waysBehind S R I b10 r13 x4) (fun r15 => (if r15 ≤ x3 then f_X11_best_72 S R (f_X11_best_21 S R  n) I a0 x1 x2 x3 x4 else f_X11_best_72 S R (f_X11_best_21 S R  n) I a0 x1 x4 r15 x4)))))))))))
set_option maxHeartbeats 4000000 in
theorem b_X11_best_21 {E : Ev} {p : Program} {l : Launch} {e : Env} {s : State} {m : MethodId} {args : Array Value} {below : List Frame} {meth : Method} {c : Code} (C : Cx E RX11 cX11_best 6 p s m c) (hr : meth.sig.returnType = (some .int)) (hk : meth.locks = false) {S : Sh} {R : Rw} {r : Iw × Int32}  : ∀ (n : Nat) (I : Iw) (a0 : Nat) (x1 : Int32) (x2 : Int32) (x3 : Int32) (x4 : Int32), f_X11_best_21 S R  n I a0 x1 x2 x3 x4 = some r → Wk E 6 p l e ({ frames := 38, cells := 0, slots := 0, locals := 887 } : Room) s m args below meth c 0 0 (MQ below (Qw E S R r.1 (some (.int r.2))) args s 0 0 (fun q => E.1 ≤ q)) 21 [(0, .ref (E.1 + a0)), (1, .int x1), (2, .int x2), (3, .int x3), (4, .int x4)] [] S R I := by
  intro n
  induction n with
  | zero =>
    intro I a0 x1 x2 x3 x4 h
    rw [f_X11_best_21] at h
    cases h
  | succ n ih =>
    intro I a0 x1 x2 x3 x4 h
    rw [f_X11_best_21] at h
    refine k_iload (pc := 21) C dX11_best_21 4 rfl ?_
    refine k_bipush (pc := 23) C (v := (9 : Int32)) dX11_best_23 (by decide) ?_
    refine k_icmp_ge (pc := 25) C dX11_best_25 (tgt := 78) (by decide) (fun hc6 => ?_) (fun hc6 => ?_)
    · rw [if_pos hc6] at h
      refine k_iloadn (pc := 78) C dX11_best_78 (i := 2) rfl 2 rfl ?_
      have h := Option.some.inj h
      subst h
      exact k_iret (pc := 79) C hr hk dX11_best_79
    · rw [if_neg hc6] at h
      refine k_iloadn (pc := 28) C dX11_best_28 (i := 1) rfl 1 rfl ?_
      refine k_iload (pc := 29) C dX11_best_29 4 rfl ?_
      obtain ⟨r7, hr7, h⟩ := bd_e h
      refine k_S (pc := 31) (st := []) C (c_X11_holds hr7) lkS_RX11_101 rfl rfl (Nat.le_of_ble_eq_true rfl) (Nat.le_of_ble_eq_true rfl) (Nat.le_of_ble_eq_true rfl) (Nat.le_of_ble_eq_true rfl) (Nat.le_of_ble_eq_true rfl) dX11_best_31 ?_
      refine k_nf (cells2 := 0) (slots2 := 0) (st2 := [.int r7]) rfl rfl rfl ?_
      refine k_if_eq (pc := 34) C dX11_best_34 (tgt := 72) (by decide) (fun hc8 => ?_) (fun hc8 => ?_)
      · rw [if_pos hc8] at h
        exact b_X11_best_72 C hr hk ih _ _ _ _ _ _ h
      · rw [if_neg hc8] at h
        refine k_aloadn (pc := 37) C dX11_best_37 (i := 0) rfl 0 rfl ?_
        obtain ⟨hs90, h⟩ := gp_e h
        have hs9 := sok_e hs90
        obtain ⟨b10, hb10, h⟩ := rl_e h
        refine k_getR (pc := 38) C lkF_RX11_31_11 hs9 ir_11_4 hb10 dX11_best_38 ?_
        refine k_aloadn (pc := 41) C dX11_best_41 (i := 0) rfl 0 rfl ?_
        obtain ⟨b11, hb11, h⟩ := rl_e h
        refine k_getR (pc := 42) C lkF_RX11_12_11 hs9 ir_11_0 hb11 dX11_best_42 ?_
        obtain ⟨hs120, h⟩ := gp_e h
        have hs12 := sok_e hs120
        refine k_getI (pc := 45) C lkF_RX11_89_7 hs12 ir_7_6 dX11_best_45 ?_
        refine k_iload (pc := 48) C dX11_best_48 4 rfl ?_
        obtain ⟨r13, hr13, h⟩ := bd_e h
        refine k_S (pc := 50) (st := [.ref (E.1 + b10)]) C (c_X11_without hr13) lkS_RX11_173 rfl rfl (Nat.le_of_ble_eq_true rfl) (Nat.le_of_ble_eq_true rfl) (Nat.le_of_ble_eq_true rfl) (Nat.le_of_ble_eq_true rfl) (Nat.le_of_ble_eq_true rfl) dX11_best_50 ?_
        refine k_nf (cells2 := 0) (slots2 := 0) (st2 := [.int r13, .ref (E.1 + b10)]) rfl rfl rfl ?_
        refine k_iload (pc := 53) C dX11_best_53 4 rfl ?_
        obtain ⟨hs140, h⟩ := gp_e h
        have hs14 := sok_e hs140
        obtain ⟨r15, hr15, h⟩ := bd_e h
        refine k_V (pc := 55) (st := []) C (c_X2_waysBehind hr15) lkV_RX11_176 hs14 rfl rfl rfl (Nat.le_of_ble_eq_true rfl) (Nat.le_of_ble_eq_true rfl) (Nat.le_of_ble_eq_true rfl) (Nat.le_of_ble_eq_true rfl) (Nat.le_of_ble_eq_true rfl) dX11_best_55 ?_
        refine k_nf (cells2 := 0) (slots2 := 0) (st2 := [.int r15]) rfl rfl rfl ?_
        refine k_istore (pc := 58) C dX11_best_58 (by decide) (L2 := [(0, .ref (E.1 + a0)), (1, .int x1), (2, .int x2), (3, .int x3), (4, .int x4), (5, .int r15)]) rfl ?_
        refine k_iload (pc := 60) C dX11_best_60 5 rfl ?_
        refine k_iloadn (pc := 62) C dX11_best_62 (i := 3) rfl 3 rfl ?_
        refine k_icmp_le (pc := 63) C dX11_best_63 (tgt := 72) (by decide) (fun hc16 => ?_) (fun hc16 => ?_)
        · rw [if_pos hc16] at h
          refine k_loc (L2 := [(0, .ref (E.1 + a0)), (1, .int x1), (2, .int x2), (3, .int x3), (4, .int x4)]) [0, 1, 2, 3, 4] rfl ?_
          exact b_X11_best_72 C hr hk ih _ _ _ _ _ _ h
        · rw [if_neg hc16] at h
          refine k_iload (pc := 66) C dX11_best_66 5 rfl ?_
          refine k_istoren (pc := 68) C dX11_best_68 (i := 3) rfl (by decide) (L2 := [(0, .ref (E.1 + a0)), (1, .int x1), (2, .int x2), (3, .int r15), (4, .int x4), (5, .int r15)]) rfl ?_
          refine k_iload (pc := 69) C dX11_best_69 4 rfl ?_
          refine k_istoren (pc := 71) C dX11_best_71 (i := 2) rfl (by decide) (L2 := [(0, .ref (E.1 + a0)), (1, .int x1), (2, .int x4), (3, .int r15), (4, .int x4), (5, .int r15)]) rfl ?_
          refine k_loc (L2 := [(0, .ref (E.1 + a0)), (1, .int x1), (2, .int x4), (3, .int r15), (4, .int x4)]) [0, 1, 2, 3, 4] rfl ?_
          exact b_X11_best_72 C hr hk ih _ _ _ _ _ _ h
def f_X11_best (S : Sh) (R : Rw)  (I : Iw) (a0 : Nat) : Option (Iw × Int32) := gp (sok S a0 11 12) (rl (R a0 4) (fun b2 => gp (sok S b2 2 11) (bd (f_X2_study S R I b2) (fun r4 => bd (f_X11_may S R r4.1 a0) (fun r5 => f_X11_best_21 S R  512 r4.1 a0 r5 (-3 : Int32) (-1 : Int32) (0 : Int32))))))
set_option maxHeartbeats 4000000 in
theorem b_X11_best {E : Ev} {p : Program} {l : Launch} {e : Env} {s : State} {m : MethodId} {args : Array Value} {below : List Frame} {meth : Method} {c : Code} (C : Cx E RX11 cX11_best 6 p s m c) (hr : meth.sig.returnType = (some .int)) (hk : meth.locks = false) {S : Sh} {R : Rw} {r : Iw × Int32}  : ∀ (I : Iw) (a0 : Nat), f_X11_best S R   I a0 = some r → Wk E 6 p l e ({ frames := 38, cells := 0, slots := 0, locals := 887 } : Room) s m args below meth c 0 0 (MQ below (Qw E S R r.1 (some (.int r.2))) args s 0 0 (fun q => E.1 ≤ q)) 0 [(0, .ref (E.1 + a0))] [] S R I := by
  intro I a0 h
  rw [f_X11_best] at h
  refine k_aloadn (pc := 0) C dX11_best_0 (i := 0) rfl 0 rfl ?_
  obtain ⟨hs10, h⟩ := gp_e h
  have hs1 := sok_e hs10
  obtain ⟨b2, hb2, h⟩ := rl_e h
  refine k_getR (pc := 1) C lkF_RX11_31_11 hs1 ir_11_4 hb2 dX11_best_1 ?_
  obtain ⟨hs30, h⟩ := gp_e h
  have hs3 := sok_e hs30
  obtain ⟨r4, hr4, h⟩ := bd_e h
  refine k_V (pc := 4) (st := []) C (c_X2_study hr4) lkV_RX11_155 hs3 rfl rfl rfl (Nat.le_of_ble_eq_true rfl) (Nat.le_of_ble_eq_true rfl) (Nat.le_of_ble_eq_true rfl) (Nat.le_of_ble_eq_true rfl) (Nat.le_of_ble_eq_true rfl) dX11_best_4 ?_
  refine k_nf (cells2 := 0) (slots2 := 0) (st2 := [.int r4.2]) rfl rfl rfl ?_
  refine k_pop (pc := 7) C dX11_best_7 rfl ?_
  refine k_aloadn (pc := 8) C dX11_best_8 (i := 0) rfl 0 rfl ?_
  obtain ⟨r5, hr5, h⟩ := bd_e h
  refine k_V (pc := 9) (st := []) C (c_X11_may hr5) lkV_RX11_140 hs1 rfl rfl rfl (Nat.le_of_ble_eq_true rfl) (Nat.le_of_ble_eq_true rfl) (Nat.le_of_ble_eq_true rfl) (Nat.le_of_ble_eq_true rfl) (Nat.le_of_ble_eq_true rfl) dX11_best_9 ?_
  refine k_nf (cells2 := 0) (slots2 := 0) (st2 := [.int r5]) rfl rfl rfl ?_
  refine k_istoren (pc := 12) C dX11_best_12 (i := 1) rfl (by decide) (L2 := [(0, .ref (E.1 + a0)), (1, .int r5)]) rfl ?_
  refine k_bipush (pc := 13) C (v := (-3 : Int32)) dX11_best_13 (by decide) ?_
  refine k_istoren (pc := 15) C dX11_best_15 (i := 2) rfl (by decide) (L2 := [(0, .ref (E.1 + a0)), (1, .int r5), (2, .int (-3 : Int32))]) rfl ?_
  refine k_iconst (pc := 16) C (v := (-1 : Int32)) dX11_best_16 (by decide) ?_
  refine k_istoren (pc := 17) C dX11_best_17 (i := 3) rfl (by decide) (L2 := [(0, .ref (E.1 + a0)), (1, .int r5), (2, .int (-3 : Int32)), (3, .int (-1 : Int32))]) rfl ?_
  refine k_iconst (pc := 18) C (v := (0 : Int32)) dX11_best_18 (by decide) ?_
  refine k_istore (pc := 19) C dX11_best_19 (by decide) (L2 := [(0, .ref (E.1 + a0)), (1, .int r5), (2, .int (-3 : Int32)), (3, .int (-1 : Int32)), (4, .int (0 : Int32))]) rfl ?_
  exact b_X11_best_21 C hr hk  _ _ _ _ _ _ _ h
theorem c_X11_best {E : Ev} {l : Launch} {S : Sh} {R : Rw} {I : Iw} {a0 : Nat} {r : Iw × Int32} (h : f_X11_best S R I a0 = some r) : Mt E l yX11_best cX11_best 6 (some .int) 38 887 [.ref (E.1 + a0)] S R I S R r.1 (some (.int r.2)) 0 0 := mt_of (by decide) (Nat.le_of_ble_eq_true rfl) (fun p e s m args below meth c C hr hk hn => b_X11_best C hr hk _ _ h)
