/-! X11_liar, X11_seed, X11_drawnOf, X11_lotBehind, X11_draw, X11_often, X11_prove -/
theorem dX11_liar_0 : decode cX11_liar 0 = .ok (.aload_n 0, 1) := by decide +kernel
theorem dX11_liar_1 : decode cX11_liar 1 = .ok (.getfield 12, 3) := by decide +kernel
theorem dX11_liar_4 : decode cX11_liar 4 = .ok (.iconst (-1), 1) := by decide +kernel
theorem dX11_liar_5 : decode cX11_liar 5 = .ok (.invokevirtual 191, 3) := by decide +kernel
theorem dX11_liar_8 : decode cX11_liar 8 = .ok (.ifCond .eq 6, 3) := by decide +kernel
theorem dX11_liar_11 : decode cX11_liar 11 = .ok (.bipush (-3), 2) := by decide +kernel
theorem dX11_liar_13 : decode cX11_liar 13 = .ok (.ireturn, 1) := by decide +kernel
theorem dX11_liar_14 : decode cX11_liar 14 = .ok (.iconst 0, 1) := by decide +kernel
theorem dX11_liar_15 : decode cX11_liar 15 = .ok (.istore_n 1, 1) := by decide +kernel
theorem dX11_liar_16 : decode cX11_liar 16 = .ok (.iload_n 1, 1) := by decide +kernel
theorem dX11_liar_17 : decode cX11_liar 17 = .ok (.aload_n 0, 1) := by decide +kernel
theorem dX11_liar_18 : decode cX11_liar 18 = .ok (.getfield 12, 3) := by decide +kernel
theorem dX11_liar_21 : decode cX11_liar 21 = .ok (.getfield 188, 3) := by decide +kernel
theorem dX11_liar_24 : decode cX11_liar 24 = .ok (.if_icmp .ge 22, 3) := by decide +kernel
theorem dX11_liar_27 : decode cX11_liar 27 = .ok (.aload_n 0, 1) := by decide +kernel
theorem dX11_liar_28 : decode cX11_liar 28 = .ok (.getfield 12, 3) := by decide +kernel
theorem dX11_liar_31 : decode cX11_liar 31 = .ok (.iload_n 1, 1) := by decide +kernel
theorem dX11_liar_32 : decode cX11_liar 32 = .ok (.invokevirtual 191, 3) := by decide +kernel
theorem dX11_liar_35 : decode cX11_liar 35 = .ok (.ifCond .eq 5, 3) := by decide +kernel
theorem dX11_liar_38 : decode cX11_liar 38 = .ok (.iload_n 1, 1) := by decide +kernel
theorem dX11_liar_39 : decode cX11_liar 39 = .ok (.ireturn, 1) := by decide +kernel
theorem dX11_liar_40 : decode cX11_liar 40 = .ok (.iinc 1 1, 3) := by decide +kernel
theorem dX11_liar_43 : decode cX11_liar 43 = .ok (.goto (-27), 3) := by decide +kernel
theorem dX11_liar_46 : decode cX11_liar 46 = .ok (.bipush (-3), 2) := by decide +kernel
theorem dX11_liar_48 : decode cX11_liar 48 = .ok (.ireturn, 1) := by decide +kernel
def f_X11_liar_16 (S : Sh) (R : Rw) (I : Iw)  : Nat → Nat → Int32 → Option (Int32)
  | 0, _, _ => none
  | n + 1, a0, x1 => gp (sok S a0 11 12) (rl (R a0 0) (fun b7 => gp (sok S b7 7 16) ((if (I b7 14) ≤ x1 then some (-3 : Int32) else rl (R a0 0) (fun b10 => gp (sok S b10 7 16) (bd (f_X7_placesBut S R I b10 x1) (fun r12 => (if r12 = 0 then f_X11_liar_16 S R I  n a0 (x1 + (1 : Int32)) else some x1))))))))
set_option maxHeartbeats 4000000 in
theorem b_X11_liar_16 {E : Ev} {p : Program} {l : Launch} {e : Env} {s : State} {m : MethodId} {args : Array Value} {below : List Frame} {meth : Method} {c : Code} (C : Cx E RX11 cX11_liar 2 p s m c) (hr : meth.sig.returnType = (some .int)) (hk : meth.locks = false) {S : Sh} {R : Rw} {I : Iw} {r : Int32}  : ∀ (n : Nat) (a0 : Nat) (x1 : Int32), f_X11_liar_16 S R I  n a0 x1 = some r → Wk E 2 p l e ({ frames := 4, cells := 0, slots := 0, locals := 90 } : Room) s m args below meth c 0 0 (MQ below (Qw E S R I (some (.int r))) args s 0 0 (fun q => E.1 ≤ q)) 16 [(0, .ref (E.1 + a0)), (1, .int x1)] [] S R I := by
  intro n
  induction n with
  | zero =>
    intro a0 x1 h
    rw [f_X11_liar_16] at h
    cases h
  | succ n ih =>
    intro a0 x1 h
    rw [f_X11_liar_16] at h
    refine k_iloadn (pc := 16) C dX11_liar_16 (i := 1) rfl 1 rfl ?_
    refine k_aloadn (pc := 17) C dX11_liar_17 (i := 0) rfl 0 rfl ?_
    obtain ⟨hs60, h⟩ := gp_e h
    have hs6 := sok_e hs60
    obtain ⟨b7, hb7, h⟩ := rl_e h
    refine k_getR (pc := 18) C lkF_RX11_12_11 hs6 ir_11_0 hb7 dX11_liar_18 ?_
    obtain ⟨hs80, h⟩ := gp_e h
    have hs8 := sok_e hs80
    refine k_getI (pc := 21) C lkF_RX11_188_7 hs8 ir_7_14 dX11_liar_21 ?_
    refine k_icmp_ge (pc := 24) C dX11_liar_24 (tgt := 46) (by decide) (fun hc9 => ?_) (fun hc9 => ?_)
    · rw [if_pos hc9] at h
      refine k_bipush (pc := 46) C (v := (-3 : Int32)) dX11_liar_46 (by decide) ?_
      have h := Option.some.inj h
      subst h
      exact k_iret (pc := 48) C hr hk dX11_liar_48
    · rw [if_neg hc9] at h
      refine k_aloadn (pc := 27) C dX11_liar_27 (i := 0) rfl 0 rfl ?_
      obtain ⟨b10, hb10, h⟩ := rl_e h
      refine k_getR (pc := 28) C lkF_RX11_12_11 hs6 ir_11_0 hb10 dX11_liar_28 ?_
      refine k_iloadn (pc := 31) C dX11_liar_31 (i := 1) rfl 1 rfl ?_
      obtain ⟨hs110, h⟩ := gp_e h
      have hs11 := sok_e hs110
      obtain ⟨r12, hr12, h⟩ := bd_e h
      refine k_V (pc := 32) (st := []) C (c_X7_placesBut hr12) lkV_RX11_191 hs11 rfl rfl rfl (Nat.le_of_ble_eq_true rfl) (Nat.le_of_ble_eq_true rfl) (Nat.le_of_ble_eq_true rfl) (Nat.le_of_ble_eq_true rfl) (Nat.le_of_ble_eq_true rfl) dX11_liar_32 ?_
      refine k_nf (cells2 := 0) (slots2 := 0) (st2 := [.int r12]) rfl rfl rfl ?_
      refine k_if_eq (pc := 35) C dX11_liar_35 (tgt := 40) (by decide) (fun hc13 => ?_) (fun hc13 => ?_)
      · rw [if_pos hc13] at h
        refine k_iinc (pc := 40) C dX11_liar_40 1 rfl (v := x1 + (1 : Int32)) (by rfl) (by decide) (L2 := [(0, .ref (E.1 + a0)), (1, .int (x1 + (1 : Int32)))]) rfl ?_
        refine k_goto (pc := 43) C dX11_liar_43 (tgt := 16) (by decide) ?_
        exact ih _ _ h
      · rw [if_neg hc13] at h
        refine k_iloadn (pc := 38) C dX11_liar_38 (i := 1) rfl 1 rfl ?_
        have h := Option.some.inj h
        subst h
        exact k_iret (pc := 39) C hr hk dX11_liar_39
def f_X11_liar (S : Sh) (R : Rw) (I : Iw)  (a0 : Nat) : Option (Int32) := gp (sok S a0 11 12) (rl (R a0 0) (fun b2 => gp (sok S b2 7 16) (bd (f_X7_placesBut S R I b2 (-1 : Int32)) (fun r4 => (if r4 = 0 then f_X11_liar_16 S R I  512 a0 (0 : Int32) else some (-3 : Int32))))))
set_option maxHeartbeats 4000000 in
theorem b_X11_liar {E : Ev} {p : Program} {l : Launch} {e : Env} {s : State} {m : MethodId} {args : Array Value} {below : List Frame} {meth : Method} {c : Code} (C : Cx E RX11 cX11_liar 2 p s m c) (hr : meth.sig.returnType = (some .int)) (hk : meth.locks = false) {S : Sh} {R : Rw} {I : Iw} {r : Int32}  : ∀ (a0 : Nat), f_X11_liar S R I   a0 = some r → Wk E 2 p l e ({ frames := 4, cells := 0, slots := 0, locals := 90 } : Room) s m args below meth c 0 0 (MQ below (Qw E S R I (some (.int r))) args s 0 0 (fun q => E.1 ≤ q)) 0 [(0, .ref (E.1 + a0))] [] S R I := by
  intro a0 h
  rw [f_X11_liar] at h
  refine k_aloadn (pc := 0) C dX11_liar_0 (i := 0) rfl 0 rfl ?_
  obtain ⟨hs10, h⟩ := gp_e h
  have hs1 := sok_e hs10
  obtain ⟨b2, hb2, h⟩ := rl_e h
  refine k_getR (pc := 1) C lkF_RX11_12_11 hs1 ir_11_0 hb2 dX11_liar_1 ?_
  refine k_iconst (pc := 4) C (v := (-1 : Int32)) dX11_liar_4 (by decide) ?_
  obtain ⟨hs30, h⟩ := gp_e h
  have hs3 := sok_e hs30
  obtain ⟨r4, hr4, h⟩ := bd_e h
  refine k_V (pc := 5) (st := []) C (c_X7_placesBut hr4) lkV_RX11_191 hs3 rfl rfl rfl (Nat.le_of_ble_eq_true rfl) (Nat.le_of_ble_eq_true rfl) (Nat.le_of_ble_eq_true rfl) (Nat.le_of_ble_eq_true rfl) (Nat.le_of_ble_eq_true rfl) dX11_liar_5 ?_
  refine k_nf (cells2 := 0) (slots2 := 0) (st2 := [.int r4]) rfl rfl rfl ?_
  refine k_if_eq (pc := 8) C dX11_liar_8 (tgt := 14) (by decide) (fun hc5 => ?_) (fun hc5 => ?_)
  · rw [if_pos hc5] at h
    refine k_iconst (pc := 14) C (v := (0 : Int32)) dX11_liar_14 (by decide) ?_
    refine k_istoren (pc := 15) C dX11_liar_15 (i := 1) rfl (by decide) (L2 := [(0, .ref (E.1 + a0)), (1, .int (0 : Int32))]) rfl ?_
    exact b_X11_liar_16 C hr hk  _ _ _ h
  · rw [if_neg hc5] at h
    refine k_bipush (pc := 11) C (v := (-3 : Int32)) dX11_liar_11 (by decide) ?_
    have h := Option.some.inj h
    subst h
    exact k_iret (pc := 13) C hr hk dX11_liar_13
theorem c_X11_liar {E : Ev} {l : Launch} {S : Sh} {R : Rw} {I : Iw} {a0 : Nat} {r : Int32} (h : f_X11_liar S R I a0 = some r) : Mt E l yX11_liar cX11_liar 2 (some .int) 4 90 [.ref (E.1 + a0)] S R I S R I (some (.int r)) 0 0 := mt_of (by decide) (Nat.le_of_ble_eq_true rfl) (fun p e s m args below meth c C hr hk hn => b_X11_liar C hr hk _ h)
theorem lkF_RX11_199_7 : LkF RX11 199 7 15 := ⟨RX7, TX7, 16, "UnlikeNeighbours$Shed", fc7, by decide, (t1_in 104 (by decide +kernel) rfl), Or.inl rfl⟩
theorem lkP_RX11_199_7 : LkP RX11 199 7 15 .int := ⟨RX7, TX7, 16, "UnlikeNeighbours$Shed", fc7, by decide, (t1_in 104 (by decide +kernel) rfl), Or.inl rfl, rfl, by decide +kernel⟩
theorem dX11_seed_0 : decode cX11_seed 0 = .ok (.aload_n 0, 1) := by decide +kernel
theorem dX11_seed_1 : decode cX11_seed 1 = .ok (.getfield 12, 3) := by decide +kernel
theorem dX11_seed_4 : decode cX11_seed 4 = .ok (.getfield 199, 3) := by decide +kernel
theorem dX11_seed_7 : decode cX11_seed 7 = .ok (.istore_n 2, 1) := by decide +kernel
theorem dX11_seed_8 : decode cX11_seed 8 = .ok (.aload_n 0, 1) := by decide +kernel
theorem dX11_seed_9 : decode cX11_seed 9 = .ok (.getfield 12, 3) := by decide +kernel
theorem dX11_seed_12 : decode cX11_seed 12 = .ok (.iload_n 1, 1) := by decide +kernel
theorem dX11_seed_13 : decode cX11_seed 13 = .ok (.putfield 199, 3) := by decide +kernel
theorem dX11_seed_16 : decode cX11_seed 16 = .ok (.iload_n 2, 1) := by decide +kernel
theorem dX11_seed_17 : decode cX11_seed 17 = .ok (.ireturn, 1) := by decide +kernel
def f_X11_seed (S : Sh) (R : Rw)  (I : Iw) (a0 : Nat) (x1 : Int32) : Option (Iw × Int32) := gp (sok S a0 11 12) (rl (R a0 0) (fun b2 => gp (sok S b2 7 16) (rl (R a0 0) (fun b4 => gp (sok S b4 7 16) (lt (up2 I b4 15 x1) (fun I6 => some (I6, I b2 15)))))))
set_option maxHeartbeats 4000000 in
theorem b_X11_seed {E : Ev} {p : Program} {l : Launch} {e : Env} {s : State} {m : MethodId} {args : Array Value} {below : List Frame} {meth : Method} {c : Code} (C : Cx E RX11 cX11_seed 3 p s m c) (hr : meth.sig.returnType = (some .int)) (hk : meth.locks = false) {S : Sh} {R : Rw} {r : Iw × Int32}  : ∀ (I : Iw) (a0 : Nat) (x1 : Int32), f_X11_seed S R   I a0 x1 = some r → Wk E 3 p l e ({ frames := 0, cells := 0, slots := 0, locals := 0 } : Room) s m args below meth c 0 0 (MQ below (Qw E S R r.1 (some (.int r.2))) args s 0 0 (fun q => E.1 ≤ q)) 0 [(0, .ref (E.1 + a0)), (1, .int x1)] [] S R I := by
  intro I a0 x1 h
  rw [f_X11_seed] at h
  refine k_aloadn (pc := 0) C dX11_seed_0 (i := 0) rfl 0 rfl ?_
  obtain ⟨hs10, h⟩ := gp_e h
  have hs1 := sok_e hs10
  obtain ⟨b2, hb2, h⟩ := rl_e h
  refine k_getR (pc := 1) C lkF_RX11_12_11 hs1 ir_11_0 hb2 dX11_seed_1 ?_
  obtain ⟨hs30, h⟩ := gp_e h
  have hs3 := sok_e hs30
  refine k_getI (pc := 4) C lkF_RX11_199_7 hs3 ir_7_15 dX11_seed_4 ?_
  refine k_istoren (pc := 7) C dX11_seed_7 (i := 2) rfl (by decide) (L2 := [(0, .ref (E.1 + a0)), (1, .int x1), (2, .int (I b2 15))]) rfl ?_
  refine k_aloadn (pc := 8) C dX11_seed_8 (i := 0) rfl 0 rfl ?_
  obtain ⟨b4, hb4, h⟩ := rl_e h
  refine k_getR (pc := 9) C lkF_RX11_12_11 hs1 ir_11_0 hb4 dX11_seed_9 ?_
  refine k_iloadn (pc := 12) C dX11_seed_12 (i := 1) rfl 1 rfl ?_
  obtain ⟨hs50, h⟩ := gp_e h
  have hs5 := sok_e hs50
  obtain ⟨I6, eI6, h⟩ := lt_e h
  refine k_putI (pc := 13) C lkP_RX11_199_7 hs5 ir_7_15 dX11_seed_13 ?_
  rw [← eI6]
  refine k_iloadn (pc := 16) C dX11_seed_16 (i := 2) rfl 2 rfl ?_
  have h := Option.some.inj h
  subst h
  exact k_iret (pc := 17) C hr hk dX11_seed_17
theorem c_X11_seed {E : Ev} {l : Launch} {S : Sh} {R : Rw} {I : Iw} {a0 : Nat} {x1 : Int32} {r : Iw × Int32} (h : f_X11_seed S R I a0 x1 = some r) : Mt E l yX11_seed cX11_seed 3 (some .int) 0 0 [.ref (E.1 + a0), .int x1] S R I S R r.1 (some (.int r.2)) 0 0 := mt_of (by decide) (Nat.le_of_ble_eq_true rfl) (fun p e s m args below meth c C hr hk hn => b_X11_seed C hr hk _ _ _ h)
theorem dX11_drawnOf_0 : decode cX11_drawnOf 0 = .ok (.iload_n 0, 1) := by decide +kernel
theorem dX11_drawnOf_1 : decode cX11_drawnOf 1 = .ok (.invokestatic 194, 3) := by decide +kernel
theorem dX11_drawnOf_4 : decode cX11_drawnOf 4 = .ok (.istore_n 2, 1) := by decide +kernel
theorem dX11_drawnOf_5 : decode cX11_drawnOf 5 = .ok (.iload_n 2, 1) := by decide +kernel
theorem dX11_drawnOf_6 : decode cX11_drawnOf 6 = .ok (.ifCond .ne 7, 3) := by decide +kernel
theorem dX11_drawnOf_9 : decode cX11_drawnOf 9 = .ok (.iconst 0, 1) := by decide +kernel
theorem dX11_drawnOf_10 : decode cX11_drawnOf 10 = .ok (.goto 9, 3) := by decide +kernel
theorem dX11_drawnOf_13 : decode cX11_drawnOf 13 = .ok (.iload_n 1, 1) := by decide +kernel
theorem dX11_drawnOf_14 : decode cX11_drawnOf 14 = .ok (.bipush 16, 2) := by decide +kernel
theorem dX11_drawnOf_16 : decode cX11_drawnOf 16 = .ok (.iushr, 1) := by decide +kernel
theorem dX11_drawnOf_17 : decode cX11_drawnOf 17 = .ok (.iload_n 2, 1) := by decide +kernel
theorem dX11_drawnOf_18 : decode cX11_drawnOf 18 = .ok (.irem, 1) := by decide +kernel
theorem dX11_drawnOf_19 : decode cX11_drawnOf 19 = .ok (.istore_n 3, 1) := by decide +kernel
theorem dX11_drawnOf_20 : decode cX11_drawnOf 20 = .ok (.iconst 0, 1) := by decide +kernel
theorem dX11_drawnOf_21 : decode cX11_drawnOf 21 = .ok (.istore 4, 2) := by decide +kernel
theorem dX11_drawnOf_23 : decode cX11_drawnOf 23 = .ok (.iload 4, 2) := by decide +kernel
theorem dX11_drawnOf_25 : decode cX11_drawnOf 25 = .ok (.bipush 9, 2) := by decide +kernel
theorem dX11_drawnOf_27 : decode cX11_drawnOf 27 = .ok (.if_icmp .ge 28, 3) := by decide +kernel
theorem dX11_drawnOf_30 : decode cX11_drawnOf 30 = .ok (.iload_n 0, 1) := by decide +kernel
theorem dX11_drawnOf_31 : decode cX11_drawnOf 31 = .ok (.iload 4, 2) := by decide +kernel
theorem dX11_drawnOf_33 : decode cX11_drawnOf 33 = .ok (.invokestatic 101, 3) := by decide +kernel
theorem dX11_drawnOf_36 : decode cX11_drawnOf 36 = .ok (.ifCond .eq 13, 3) := by decide +kernel
theorem dX11_drawnOf_39 : decode cX11_drawnOf 39 = .ok (.iload_n 3, 1) := by decide +kernel
theorem dX11_drawnOf_40 : decode cX11_drawnOf 40 = .ok (.ifCond .ne 6, 3) := by decide +kernel
theorem dX11_drawnOf_43 : decode cX11_drawnOf 43 = .ok (.iload 4, 2) := by decide +kernel
theorem dX11_drawnOf_45 : decode cX11_drawnOf 45 = .ok (.ireturn, 1) := by decide +kernel
theorem dX11_drawnOf_46 : decode cX11_drawnOf 46 = .ok (.iinc 3 (-1), 3) := by decide +kernel
theorem dX11_drawnOf_49 : decode cX11_drawnOf 49 = .ok (.iinc 4 1, 3) := by decide +kernel
theorem dX11_drawnOf_52 : decode cX11_drawnOf 52 = .ok (.goto (-29), 3) := by decide +kernel
theorem dX11_drawnOf_55 : decode cX11_drawnOf 55 = .ok (.bipush (-3), 2) := by decide +kernel
theorem dX11_drawnOf_57 : decode cX11_drawnOf 57 = .ok (.ireturn, 1) := by decide +kernel
def f_X11_drawnOf_49 (S : Sh) (R : Rw) (I : Iw) (ko23 : Int32 → Int32 → Int32 → Option (Int32)) (x0 : Int32) (x3 : Int32) (x4 : Int32) : Option (Int32) := ko23 x0 x3 (x4 + (1 : Int32))
set_option maxHeartbeats 4000000 in
theorem b_X11_drawnOf_49 {E : Ev} {p : Program} {l : Launch} {e : Env} {s : State} {m : MethodId} {args : Array Value} {below : List Frame} {meth : Method} {c : Code} (C : Cx E RX11 cX11_drawnOf 5 p s m c) (hr : meth.sig.returnType = (some .int)) (hk : meth.locks = false) {S : Sh} {R : Rw} {I : Iw} {r : Int32}  {ko23 : Int32 → Int32 → Int32 → Option (Int32)} (hko23 : ∀ (x0 : Int32) (x3 : Int32) (x4 : Int32), ko23 x0 x3 x4 = some r → Wk E 5 p l e ({ frames := 1, cells := 0, slots := 0, locals := 21 } : Room) s m args below meth c 0 0 (MQ below (Qw E S R I (some (.int r))) args s 0 0 (fun q => E.1 ≤ q)) 23 [(0, .int x0), (3, .int x3), (4, .int x4)] [] S R I) : ∀ (x0 : Int32) (x3 : Int32) (x4 : Int32), f_X11_drawnOf_49 S R I ko23  x0 x3 x4 = some r → Wk E 5 p l e ({ frames := 1, cells := 0, slots := 0, locals := 21 } : Room) s m args below meth c 0 0 (MQ below (Qw E S R I (some (.int r))) args s 0 0 (fun q => E.1 ≤ q)) 49 [(0, .int x0), (3, .int x3), (4, .int x4)] [] S R I := by
  intro x0 x3 x4 h
  rw [f_X11_drawnOf_49] at h
  refine k_iinc (pc := 49) C dX11_drawnOf_49 2 rfl (v := x4 + (1 : Int32)) (by rfl) (by decide) (L2 := [(0, .int x0), (3, .int x3), (4, .int (x4 + (1 : Int32)))]) rfl ?_
  refine k_goto (pc := 52) C dX11_drawnOf_52 (tgt := 23) (by decide) ?_
  exact hko23 _ _ _ h
def f_X11_drawnOf_23 (S : Sh) (R : Rw) (I : Iw)  : Nat → Int32 → Int32 → Int32 → Option (Int32)
  | 0, _, _, _ => none
  | n + 1, x0, x3, x4 => (if (9 : Int32) ≤ x4 then some (-3 : Int32) else bd (f_X11_holds S R I x0 x4) (fun r5 => (if r5 = 0 then f_X11_drawnOf_49 S R I (f_X11_drawnOf_23 S R I  n) x0 x3 x4 else (if x3 = 0 then some x4 else f_X11_drawnOf_49 S R I (f_X11_drawnOf_23 S R I  n) x0 (x3 + (-1 : Int32)) x4))))
set_option maxHeartbeats 4000000 in
theorem b_X11_drawnOf_23 {E : Ev} {p : Program} {l : Launch} {e : Env} {s : State} {m : MethodId} {args : Array Value} {below : List Frame} {meth : Method} {c : Code} (C : Cx E RX11 cX11_drawnOf 5 p s m c) (hr : meth.sig.returnType = (some .int)) (hk : meth.locks = false) {S : Sh} {R : Rw} {I : Iw} {r : Int32}  : ∀ (n : Nat) (x0 : Int32) (x3 : Int32) (x4 : Int32), f_X11_drawnOf_23 S R I  n x0 x3 x4 = some r → Wk E 5 p l e ({ frames := 1, cells := 0, slots := 0, locals := 21 } : Room) s m args below meth c 0 0 (MQ below (Qw E S R I (some (.int r))) args s 0 0 (fun q => E.1 ≤ q)) 23 [(0, .int x0), (3, .int x3), (4, .int x4)] [] S R I := by
  intro n
  induction n with
  | zero =>
    intro x0 x3 x4 h
    rw [f_X11_drawnOf_23] at h
    cases h
  | succ n ih =>
    intro x0 x3 x4 h
    rw [f_X11_drawnOf_23] at h
    refine k_iload (pc := 23) C dX11_drawnOf_23 2 rfl ?_
    refine k_bipush (pc := 25) C (v := (9 : Int32)) dX11_drawnOf_25 (by decide) ?_
    refine k_icmp_ge (pc := 27) C dX11_drawnOf_27 (tgt := 55) (by decide) (fun hc4 => ?_) (fun hc4 => ?_)
    · rw [if_pos hc4] at h
      refine k_bipush (pc := 55) C (v := (-3 : Int32)) dX11_drawnOf_55 (by decide) ?_
      have h := Option.some.inj h
      subst h
      exact k_iret (pc := 57) C hr hk dX11_drawnOf_57
    · rw [if_neg hc4] at h
      refine k_iloadn (pc := 30) C dX11_drawnOf_30 (i := 0) rfl 0 rfl ?_
      refine k_iload (pc := 31) C dX11_drawnOf_31 2 rfl ?_
      obtain ⟨r5, hr5, h⟩ := bd_e h
      refine k_S (pc := 33) (st := []) C (c_X11_holds hr5) lkS_RX11_101 rfl rfl (Nat.le_of_ble_eq_true rfl) (Nat.le_of_ble_eq_true rfl) (Nat.le_of_ble_eq_true rfl) (Nat.le_of_ble_eq_true rfl) (Nat.le_of_ble_eq_true rfl) dX11_drawnOf_33 ?_
      refine k_nf (cells2 := 0) (slots2 := 0) (st2 := [.int r5]) rfl rfl rfl ?_
      refine k_if_eq (pc := 36) C dX11_drawnOf_36 (tgt := 49) (by decide) (fun hc6 => ?_) (fun hc6 => ?_)
      · rw [if_pos hc6] at h
        exact b_X11_drawnOf_49 C hr hk ih _ _ _ h
      · rw [if_neg hc6] at h
        refine k_iloadn (pc := 39) C dX11_drawnOf_39 (i := 3) rfl 1 rfl ?_
        refine k_if_ne (pc := 40) C dX11_drawnOf_40 (tgt := 46) (by decide) (fun hc7 => ?_) (fun hc7 => ?_)
        · rw [if_neg hc7] at h
          refine k_iinc (pc := 46) C dX11_drawnOf_46 1 rfl (v := x3 + (-1 : Int32)) (by rfl) (by decide) (L2 := [(0, .int x0), (3, .int (x3 + (-1 : Int32))), (4, .int x4)]) rfl ?_
          exact b_X11_drawnOf_49 C hr hk ih _ _ _ h
        · rw [if_pos hc7] at h
          refine k_iload (pc := 43) C dX11_drawnOf_43 2 rfl ?_
          have h := Option.some.inj h
          subst h
          exact k_iret (pc := 45) C hr hk dX11_drawnOf_45
def f_X11_drawnOf_19 (S : Sh) (R : Rw) (I : Iw)  (x0 : Int32) (s0 : Int32) : Option (Int32) := f_X11_drawnOf_23 S R I  512 x0 s0 (0 : Int32)
set_option maxHeartbeats 4000000 in
theorem b_X11_drawnOf_19 {E : Ev} {p : Program} {l : Launch} {e : Env} {s : State} {m : MethodId} {args : Array Value} {below : List Frame} {meth : Method} {c : Code} (C : Cx E RX11 cX11_drawnOf 5 p s m c) (hr : meth.sig.returnType = (some .int)) (hk : meth.locks = false) {S : Sh} {R : Rw} {I : Iw} {r : Int32}  : ∀ (x0 : Int32) (s0 : Int32), f_X11_drawnOf_19 S R I   x0 s0 = some r → Wk E 5 p l e ({ frames := 1, cells := 0, slots := 0, locals := 21 } : Room) s m args below meth c 0 0 (MQ below (Qw E S R I (some (.int r))) args s 0 0 (fun q => E.1 ≤ q)) 19 [(0, .int x0)] [.int s0] S R I := by
  intro x0 s0 h
  rw [f_X11_drawnOf_19] at h
  refine k_istoren (pc := 19) C dX11_drawnOf_19 (i := 3) rfl (by decide) (L2 := [(0, .int x0), (3, .int s0)]) rfl ?_
  refine k_iconst (pc := 20) C (v := (0 : Int32)) dX11_drawnOf_20 (by decide) ?_
  refine k_istore (pc := 21) C dX11_drawnOf_21 (by decide) (L2 := [(0, .int x0), (3, .int s0), (4, .int (0 : Int32))]) rfl ?_
  exact b_X11_drawnOf_23 C hr hk  _ _ _ _ h
def f_X11_drawnOf (S : Sh) (R : Rw) (I : Iw)  (x0 : Int32) (x1 : Int32) : Option (Int32) := bd (f_J6_bitCount_0f7a4 S R I x0) (fun r1 => (if r1 = 0 then f_X11_drawnOf_19 S R I  x0 (0 : Int32) else gp (nz r1) (f_X11_drawnOf_19 S R I  x0 (((x1.toUInt32 >>> ((16 : Int32).toUInt32 &&& Int32.toUInt32 31)).toInt32) - ((x1.toUInt32 >>> ((16 : Int32).toUInt32 &&& Int32.toUInt32 31)).toInt32) / r1 * r1))))
set_option maxHeartbeats 4000000 in
theorem b_X11_drawnOf {E : Ev} {p : Program} {l : Launch} {e : Env} {s : State} {m : MethodId} {args : Array Value} {below : List Frame} {meth : Method} {c : Code} (C : Cx E RX11 cX11_drawnOf 5 p s m c) (hr : meth.sig.returnType = (some .int)) (hk : meth.locks = false) {S : Sh} {R : Rw} {I : Iw} {r : Int32}  : ∀ (x0 : Int32) (x1 : Int32), f_X11_drawnOf S R I   x0 x1 = some r → Wk E 5 p l e ({ frames := 1, cells := 0, slots := 0, locals := 21 } : Room) s m args below meth c 0 0 (MQ below (Qw E S R I (some (.int r))) args s 0 0 (fun q => E.1 ≤ q)) 0 [(0, .int x0), (1, .int x1)] [] S R I := by
  intro x0 x1 h
  rw [f_X11_drawnOf] at h
  refine k_iloadn (pc := 0) C dX11_drawnOf_0 (i := 0) rfl 0 rfl ?_
  obtain ⟨r1, hr1, h⟩ := bd_e h
  refine k_S (pc := 1) (st := []) C (c_J6_bitCount_0f7a4 hr1) lkS_RX11_194 rfl rfl (Nat.le_of_ble_eq_true rfl) (Nat.le_of_ble_eq_true rfl) (Nat.le_of_ble_eq_true rfl) (Nat.le_of_ble_eq_true rfl) (Nat.le_of_ble_eq_true rfl) dX11_drawnOf_1 ?_
  refine k_nf (cells2 := 0) (slots2 := 0) (st2 := [.int r1]) rfl rfl rfl ?_
  refine k_istoren (pc := 4) C dX11_drawnOf_4 (i := 2) rfl (by decide) (L2 := [(0, .int x0), (1, .int x1), (2, .int r1)]) rfl ?_
  refine k_iloadn (pc := 5) C dX11_drawnOf_5 (i := 2) rfl 2 rfl ?_
  refine k_if_ne (pc := 6) C dX11_drawnOf_6 (tgt := 13) (by decide) (fun hc2 => ?_) (fun hc2 => ?_)
  · rw [if_neg hc2] at h
    refine k_iloadn (pc := 13) C dX11_drawnOf_13 (i := 1) rfl 1 rfl ?_
    refine k_bipush (pc := 14) C (v := (16 : Int32)) dX11_drawnOf_14 (by decide) ?_
    refine k_iushr (pc := 16) C dX11_drawnOf_16 ?_
    refine k_iloadn (pc := 17) C dX11_drawnOf_17 (i := 2) rfl 2 rfl ?_
    obtain ⟨hz3, h⟩ := gp_e h
    refine k_irem (pc := 18) C dX11_drawnOf_18 (of_decide_eq_true hz3) ?_
    refine k_loc (L2 := [(0, .int x0)]) [0] rfl ?_
    exact b_X11_drawnOf_19 C hr hk  _ _ h
  · rw [if_pos hc2] at h
    refine k_iconst (pc := 9) C (v := (0 : Int32)) dX11_drawnOf_9 (by decide) ?_
    refine k_goto (pc := 10) C dX11_drawnOf_10 (tgt := 19) (by decide) ?_
    refine k_loc (L2 := [(0, .int x0)]) [0] rfl ?_
    exact b_X11_drawnOf_19 C hr hk  _ _ h
theorem c_X11_drawnOf {E : Ev} {l : Launch} {S : Sh} {R : Rw} {I : Iw} {x0 : Int32} {x1 : Int32} {r : Int32} (h : f_X11_drawnOf S R I x0 x1 = some r) : Mt E l yX11_drawnOf cX11_drawnOf 5 (some .int) 1 21 [.int x0, .int x1] S R I S R I (some (.int r)) 0 0 := mt_of (by decide) (Nat.le_of_ble_eq_true rfl) (fun p e s m args below meth c C hr hk hn => b_X11_drawnOf C hr hk _ _ h)
theorem dX11_lotBehind_0 : decode cX11_lotBehind 0 = .ok (.iload_n 0, 1) := by decide +kernel
theorem dX11_lotBehind_1 : decode cX11_lotBehind 1 = .ok (.ldc 208, 2) := by decide +kernel
theorem dX11_lotBehind_3 : decode cX11_lotBehind 3 = .ok (.imul, 1) := by decide +kernel
theorem dX11_lotBehind_4 : decode cX11_lotBehind 4 = .ok (.sipush 12345, 3) := by decide +kernel
theorem dX11_lotBehind_7 : decode cX11_lotBehind 7 = .ok (.iadd, 1) := by decide +kernel
theorem dX11_lotBehind_8 : decode cX11_lotBehind 8 = .ok (.ireturn, 1) := by decide +kernel
def f_X11_lotBehind (S : Sh) (R : Rw) (I : Iw)  (x0 : Int32) : Option (Int32) := some ((x0 * (1103515245 : Int32)) + (12345 : Int32))
set_option maxHeartbeats 4000000 in
theorem b_X11_lotBehind {E : Ev} {p : Program} {l : Launch} {e : Env} {s : State} {m : MethodId} {args : Array Value} {below : List Frame} {meth : Method} {c : Code} (C : Cx E RX11 cX11_lotBehind 1 p s m c) (hr : meth.sig.returnType = (some .int)) (hk : meth.locks = false) {S : Sh} {R : Rw} {I : Iw} {r : Int32}  : ∀ (x0 : Int32), f_X11_lotBehind S R I   x0 = some r → Wk E 1 p l e ({ frames := 0, cells := 0, slots := 0, locals := 0 } : Room) s m args below meth c 0 0 (MQ below (Qw E S R I (some (.int r))) args s 0 0 (fun q => E.1 ≤ q)) 0 [(0, .int x0)] [] S R I := by
  intro x0 h
  rw [f_X11_lotBehind] at h
  refine k_iloadn (pc := 0) C dX11_lotBehind_0 (i := 0) rfl 0 rfl ?_
  refine k_ldc (pc := 1) C (v := (1103515245 : Int32)) dX11_lotBehind_1 (t4_in 0 (by decide +kernel) rfl) ?_
  refine k_imul (pc := 3) C dX11_lotBehind_3 ?_
  refine k_sipush (pc := 4) C (v := (12345 : Int32)) dX11_lotBehind_4 (by decide) ?_
  refine k_iadd (pc := 7) C dX11_lotBehind_7 ?_
  have h := Option.some.inj h
  subst h
  exact k_iret (pc := 8) C hr hk dX11_lotBehind_8
theorem c_X11_lotBehind {E : Ev} {l : Launch} {S : Sh} {R : Rw} {I : Iw} {x0 : Int32} {r : Int32} (h : f_X11_lotBehind S R I x0 = some r) : Mt E l yX11_lotBehind cX11_lotBehind 1 (some .int) 0 0 [.int x0] S R I S R I (some (.int r)) 0 0 := mt_of (by decide) (Nat.le_of_ble_eq_true rfl) (fun p e s m args below meth c C hr hk hn => b_X11_lotBehind C hr hk _ h)
theorem lkS_RX11_202 : LkS RX11 202 yX11_lotBehind cX11_lotBehind 1 (some .int) 1 := ⟨(t3_in 237 (by decide +kernel) rfl), (t3_in 238 (by decide +kernel) rfl), (t3_in 239 (by decide +kernel) rfl), (t1_in 1 (by decide +kernel) rfl), by decide, by decide +kernel⟩
theorem lkS_RX11_205 : LkS RX11 205 yX11_drawnOf cX11_drawnOf 5 (some .int) 2 := ⟨(t4_in 1 (by decide +kernel) rfl), (t4_in 2 (by decide +kernel) rfl), (t4_in 3 (by decide +kernel) rfl), (t1_in 1 (by decide +kernel) rfl), by decide, by decide +kernel⟩
theorem dX11_draw_0 : decode cX11_draw 0 = .ok (.aload_n 0, 1) := by decide +kernel
theorem dX11_draw_1 : decode cX11_draw 1 = .ok (.invokevirtual 140, 3) := by decide +kernel
theorem dX11_draw_4 : decode cX11_draw 4 = .ok (.istore_n 1, 1) := by decide +kernel
theorem dX11_draw_5 : decode cX11_draw 5 = .ok (.iload_n 1, 1) := by decide +kernel
theorem dX11_draw_6 : decode cX11_draw 6 = .ok (.ifCond .ne 6, 3) := by decide +kernel
theorem dX11_draw_9 : decode cX11_draw 9 = .ok (.bipush (-3), 2) := by decide +kernel
theorem dX11_draw_11 : decode cX11_draw 11 = .ok (.ireturn, 1) := by decide +kernel
theorem dX11_draw_12 : decode cX11_draw 12 = .ok (.aload_n 0, 1) := by decide +kernel
theorem dX11_draw_13 : decode cX11_draw 13 = .ok (.getfield 12, 3) := by decide +kernel
theorem dX11_draw_16 : decode cX11_draw 16 = .ok (.aload_n 0, 1) := by decide +kernel
theorem dX11_draw_17 : decode cX11_draw 17 = .ok (.getfield 12, 3) := by decide +kernel
theorem dX11_draw_20 : decode cX11_draw 20 = .ok (.getfield 199, 3) := by decide +kernel
theorem dX11_draw_23 : decode cX11_draw 23 = .ok (.invokestatic 202, 3) := by decide +kernel
theorem dX11_draw_26 : decode cX11_draw 26 = .ok (.putfield 199, 3) := by decide +kernel
theorem dX11_draw_29 : decode cX11_draw 29 = .ok (.iload_n 1, 1) := by decide +kernel
theorem dX11_draw_30 : decode cX11_draw 30 = .ok (.aload_n 0, 1) := by decide +kernel
theorem dX11_draw_31 : decode cX11_draw 31 = .ok (.getfield 12, 3) := by decide +kernel
theorem dX11_draw_34 : decode cX11_draw 34 = .ok (.getfield 199, 3) := by decide +kernel
theorem dX11_draw_37 : decode cX11_draw 37 = .ok (.invokestatic 205, 3) := by decide +kernel
theorem dX11_draw_40 : decode cX11_draw 40 = .ok (.istore_n 2, 1) := by decide +kernel
theorem dX11_draw_41 : decode cX11_draw 41 = .ok (.aload_n 0, 1) := by decide +kernel
theorem dX11_draw_42 : decode cX11_draw 42 = .ok (.getfield 12, 3) := by decide +kernel
theorem dX11_draw_45 : decode cX11_draw 45 = .ok (.iload_n 2, 1) := by decide +kernel
theorem dX11_draw_46 : decode cX11_draw 46 = .ok (.invokevirtual 143, 3) := by decide +kernel
theorem dX11_draw_49 : decode cX11_draw 49 = .ok (.iload_n 2, 1) := by decide +kernel
theorem dX11_draw_50 : decode cX11_draw 50 = .ok (.ireturn, 1) := by decide +kernel
def f_X11_draw (S : Sh) (R : Rw)  (I : Iw) (a0 : Nat) : Option (Iw × Int32) := gp (sok S a0 11 12) (bd (f_X11_may S R I a0) (fun r2 => (if r2 = 0 then some (I, (-3 : Int32)) else rl (R a0 0) (fun b4 => rl (R a0 0) (fun b5 => gp (sok S b5 7 16) (bd (f_X11_lotBehind S R I (I b5 15)) (fun r7 => gp (sok S b4 7 16) (lt (up2 I b4 15 r7) (fun I9 => rl (R a0 0) (fun b10 => gp (sok S b10 7 16) (bd (f_X11_drawnOf S R I9 r2 (I9 b10 15)) (fun r12 => rl (R a0 0) (fun b13 => gp (sok S b13 7 16) (bd (f_X7_putOut S R I9 b13 r12) (fun r15 => some (r15, r12))))))))))))))))
set_option maxHeartbeats 4000000 in
theorem b_X11_draw {E : Ev} {p : Program} {l : Launch} {e : Env} {s : State} {m : MethodId} {args : Array Value} {below : List Frame} {meth : Method} {c : Code} (C : Cx E RX11 cX11_draw 3 p s m c) (hr : meth.sig.returnType = (some .int)) (hk : meth.locks = false) {S : Sh} {R : Rw} {r : Iw × Int32}  : ∀ (I : Iw) (a0 : Nat), f_X11_draw S R   I a0 = some r → Wk E 3 p l e ({ frames := 4, cells := 0, slots := 0, locals := 88 } : Room) s m args below meth c 0 0 (MQ below (Qw E S R r.1 (some (.int r.2))) args s 0 0 (fun q => E.1 ≤ q)) 0 [(0, .ref (E.1 + a0))] [] S R I := by
  intro I a0 h
  rw [f_X11_draw] at h
  refine k_aloadn (pc := 0) C dX11_draw_0 (i := 0) rfl 0 rfl ?_
  obtain ⟨hs10, h⟩ := gp_e h
  have hs1 := sok_e hs10
  obtain ⟨r2, hr2, h⟩ := bd_e h
  refine k_V (pc := 1) (st := []) C (c_X11_may hr2) lkV_RX11_140 hs1 rfl rfl rfl (Nat.le_of_ble_eq_true rfl) (Nat.le_of_ble_eq_true rfl) (Nat.le_of_ble_eq_true rfl) (Nat.le_of_ble_eq_true rfl) (Nat.le_of_ble_eq_true rfl) dX11_draw_1 ?_
  refine k_nf (cells2 := 0) (slots2 := 0) (st2 := [.int r2]) rfl rfl rfl ?_
  refine k_istoren (pc := 4) C dX11_draw_4 (i := 1) rfl (by decide) (L2 := [(0, .ref (E.1 + a0)), (1, .int r2)]) rfl ?_
  refine k_iloadn (pc := 5) C dX11_draw_5 (i := 1) rfl 1 rfl ?_
  refine k_if_ne (pc := 6) C dX11_draw_6 (tgt := 12) (by decide) (fun hc3 => ?_) (fun hc3 => ?_)
  · rw [if_neg hc3] at h
    refine k_aloadn (pc := 12) C dX11_draw_12 (i := 0) rfl 0 rfl ?_
    obtain ⟨b4, hb4, h⟩ := rl_e h
    refine k_getR (pc := 13) C lkF_RX11_12_11 hs1 ir_11_0 hb4 dX11_draw_13 ?_
    refine k_aloadn (pc := 16) C dX11_draw_16 (i := 0) rfl 0 rfl ?_
    obtain ⟨b5, hb5, h⟩ := rl_e h
    refine k_getR (pc := 17) C lkF_RX11_12_11 hs1 ir_11_0 hb5 dX11_draw_17 ?_
    obtain ⟨hs60, h⟩ := gp_e h
    have hs6 := sok_e hs60
    refine k_getI (pc := 20) C lkF_RX11_199_7 hs6 ir_7_15 dX11_draw_20 ?_
    obtain ⟨r7, hr7, h⟩ := bd_e h
    refine k_S (pc := 23) (st := [.ref (E.1 + b4)]) C (c_X11_lotBehind hr7) lkS_RX11_202 rfl rfl (Nat.le_of_ble_eq_true rfl) (Nat.le_of_ble_eq_true rfl) (Nat.le_of_ble_eq_true rfl) (Nat.le_of_ble_eq_true rfl) (Nat.le_of_ble_eq_true rfl) dX11_draw_23 ?_
    refine k_nf (cells2 := 0) (slots2 := 0) (st2 := [.int r7, .ref (E.1 + b4)]) rfl rfl rfl ?_
    obtain ⟨hs80, h⟩ := gp_e h
    have hs8 := sok_e hs80
    obtain ⟨I9, eI9, h⟩ := lt_e h
    refine k_putI (pc := 26) C lkP_RX11_199_7 hs8 ir_7_15 dX11_draw_26 ?_
    rw [← eI9]
    refine k_iloadn (pc := 29) C dX11_draw_29 (i := 1) rfl 1 rfl ?_
    refine k_aloadn (pc := 30) C dX11_draw_30 (i := 0) rfl 0 rfl ?_
    obtain ⟨b10, hb10, h⟩ := rl_e h
    refine k_getR (pc := 31) C lkF_RX11_12_11 hs1 ir_11_0 hb10 dX11_draw_31 ?_
    obtain ⟨hs110, h⟩ := gp_e h
    have hs11 := sok_e hs110
    refine k_getI (pc := 34) C lkF_RX11_199_7 hs11 ir_7_15 dX11_draw_34 ?_
    obtain ⟨r12, hr12, h⟩ := bd_e h
    refine k_S (pc := 37) (st := []) C (c_X11_drawnOf hr12) lkS_RX11_205 rfl rfl (Nat.le_of_ble_eq_true rfl) (Nat.le_of_ble_eq_true rfl) (Nat.le_of_ble_eq_true rfl) (Nat.le_of_ble_eq_true rfl) (Nat.le_of_ble_eq_true rfl) dX11_draw_37 ?_
    refine k_nf (cells2 := 0) (slots2 := 0) (st2 := [.int r12]) rfl rfl rfl ?_
    refine k_istoren (pc := 40) C dX11_draw_40 (i := 2) rfl (by decide) (L2 := [(0, .ref (E.1 + a0)), (1, .int r2), (2, .int r12)]) rfl ?_
    refine k_aloadn (pc := 41) C dX11_draw_41 (i := 0) rfl 0 rfl ?_
    obtain ⟨b13, hb13, h⟩ := rl_e h
    refine k_getR (pc := 42) C lkF_RX11_12_11 hs1 ir_11_0 hb13 dX11_draw_42 ?_
    refine k_iloadn (pc := 45) C dX11_draw_45 (i := 2) rfl 2 rfl ?_
    obtain ⟨hs140, h⟩ := gp_e h
    have hs14 := sok_e hs140
    obtain ⟨r15, hr15, h⟩ := bd_e h
    refine k_V (pc := 46) (st := []) C (c_X7_putOut hr15) lkV_RX11_143 hs14 rfl rfl rfl (Nat.le_of_ble_eq_true rfl) (Nat.le_of_ble_eq_true rfl) (Nat.le_of_ble_eq_true rfl) (Nat.le_of_ble_eq_true rfl) (Nat.le_of_ble_eq_true rfl) dX11_draw_46 ?_
    refine k_nf (cells2 := 0) (slots2 := 0) (st2 := []) rfl rfl rfl ?_
    refine k_iloadn (pc := 49) C dX11_draw_49 (i := 2) rfl 2 rfl ?_
    have h := Option.some.inj h
    subst h
    exact k_iret (pc := 50) C hr hk dX11_draw_50
  · rw [if_pos hc3] at h
    refine k_bipush (pc := 9) C (v := (-3 : Int32)) dX11_draw_9 (by decide) ?_
    have h := Option.some.inj h
    subst h
    exact k_iret (pc := 11) C hr hk dX11_draw_11
theorem c_X11_draw {E : Ev} {l : Launch} {S : Sh} {R : Rw} {I : Iw} {a0 : Nat} {r : Iw × Int32} (h : f_X11_draw S R I a0 = some r) : Mt E l yX11_draw cX11_draw 3 (some .int) 4 88 [.ref (E.1 + a0)] S R I S R r.1 (some (.int r.2)) 0 0 := mt_of (by decide) (Nat.le_of_ble_eq_true rfl) (fun p e s m args below meth c C hr hk hn => b_X11_draw C hr hk _ _ h)
theorem dX11_often_0 : decode cX11_often 0 = .ok (.iload_n 1, 1) := by decide +kernel
theorem dX11_often_1 : decode cX11_often 1 = .ok (.iconst 1, 1) := by decide +kernel
theorem dX11_often_2 : decode cX11_often 2 = .ok (.bipush 60, 2) := by decide +kernel
theorem dX11_often_4 : decode cX11_often 4 = .ok (.invokestatic 55, 3) := by decide +kernel
theorem dX11_often_7 : decode cX11_often 7 = .ok (.ifCond .ne 5, 3) := by decide +kernel
theorem dX11_often_10 : decode cX11_often 10 = .ok (.iconst (-1), 1) := by decide +kernel
theorem dX11_often_11 : decode cX11_often 11 = .ok (.ireturn, 1) := by decide +kernel
theorem dX11_often_12 : decode cX11_often 12 = .ok (.iconst 0, 1) := by decide +kernel
theorem dX11_often_13 : decode cX11_often 13 = .ok (.istore_n 2, 1) := by decide +kernel
theorem dX11_often_14 : decode cX11_often 14 = .ok (.aload_n 0, 1) := by decide +kernel
theorem dX11_often_15 : decode cX11_often 15 = .ok (.getfield 12, 3) := by decide +kernel
theorem dX11_often_18 : decode cX11_often 18 = .ok (.getfield 199, 3) := by decide +kernel
theorem dX11_often_21 : decode cX11_often 21 = .ok (.istore_n 3, 1) := by decide +kernel
theorem dX11_often_22 : decode cX11_often 22 = .ok (.iconst 0, 1) := by decide +kernel
theorem dX11_often_23 : decode cX11_often 23 = .ok (.istore 4, 2) := by decide +kernel
theorem dX11_often_25 : decode cX11_often 25 = .ok (.iload 4, 2) := by decide +kernel
theorem dX11_often_27 : decode cX11_often 27 = .ok (.iload_n 1, 1) := by decide +kernel
theorem dX11_often_28 : decode cX11_often 28 = .ok (.if_icmp .ge 104, 3) := by decide +kernel
theorem dX11_often_31 : decode cX11_often 31 = .ok (.aload_n 0, 1) := by decide +kernel
theorem dX11_often_32 : decode cX11_often 32 = .ok (.getfield 12, 3) := by decide +kernel
theorem dX11_often_35 : decode cX11_often 35 = .ok (.getfield 89, 3) := by decide +kernel
theorem dX11_often_38 : decode cX11_often 38 = .ok (.istore 5, 2) := by decide +kernel
theorem dX11_often_40 : decode cX11_often 40 = .ok (.aload_n 0, 1) := by decide +kernel
theorem dX11_often_41 : decode cX11_often 41 = .ok (.getfield 12, 3) := by decide +kernel
theorem dX11_often_44 : decode cX11_often 44 = .ok (.invokevirtual 93, 3) := by decide +kernel
theorem dX11_often_47 : decode cX11_often 47 = .ok (.istore 6, 2) := by decide +kernel
theorem dX11_often_49 : decode cX11_often 49 = .ok (.aload_n 0, 1) := by decide +kernel
theorem dX11_often_50 : decode cX11_often 50 = .ok (.getfield 12, 3) := by decide +kernel
theorem dX11_often_53 : decode cX11_often 53 = .ok (.iload 5, 2) := by decide +kernel
theorem dX11_often_55 : decode cX11_often 55 = .ok (.iload 6, 2) := by decide +kernel
theorem dX11_often_57 : decode cX11_often 57 = .ok (.invokevirtual 97, 3) := by decide +kernel
theorem dX11_often_60 : decode cX11_often 60 = .ok (.istore 7, 2) := by decide +kernel
theorem dX11_often_62 : decode cX11_often 62 = .ok (.iconst 0, 1) := by decide +kernel
theorem dX11_often_63 : decode cX11_often 63 = .ok (.istore 8, 2) := by decide +kernel
theorem dX11_often_65 : decode cX11_often 65 = .ok (.iload 8, 2) := by decide +kernel
theorem dX11_often_67 : decode cX11_often 67 = .ok (.bipush 9, 2) := by decide +kernel
theorem dX11_often_69 : decode cX11_often 69 = .ok (.if_icmp .ge 49, 3) := by decide +kernel
theorem dX11_often_72 : decode cX11_often 72 = .ok (.iload 7, 2) := by decide +kernel
theorem dX11_often_74 : decode cX11_often 74 = .ok (.ifCond .eq 44, 3) := by decide +kernel
theorem dX11_often_77 : decode cX11_often 77 = .ok (.iload_n 3, 1) := by decide +kernel
theorem dX11_often_78 : decode cX11_often 78 = .ok (.invokestatic 202, 3) := by decide +kernel
theorem dX11_often_81 : decode cX11_often 81 = .ok (.istore_n 3, 1) := by decide +kernel
theorem dX11_often_82 : decode cX11_often 82 = .ok (.iload 7, 2) := by decide +kernel
theorem dX11_often_84 : decode cX11_often 84 = .ok (.iload_n 3, 1) := by decide +kernel
theorem dX11_often_85 : decode cX11_often 85 = .ok (.invokestatic 205, 3) := by decide +kernel
theorem dX11_often_88 : decode cX11_often 88 = .ok (.istore 6, 2) := by decide +kernel
theorem dX11_often_90 : decode cX11_often 90 = .ok (.iload 5, 2) := by decide +kernel
theorem dX11_often_92 : decode cX11_often 92 = .ok (.iload 6, 2) := by decide +kernel
theorem dX11_often_94 : decode cX11_often 94 = .ok (.invokestatic 173, 3) := by decide +kernel
theorem dX11_often_97 : decode cX11_often 97 = .ok (.istore 5, 2) := by decide +kernel
theorem dX11_often_99 : decode cX11_often 99 = .ok (.aload_n 0, 1) := by decide +kernel
theorem dX11_often_100 : decode cX11_often 100 = .ok (.getfield 12, 3) := by decide +kernel
theorem dX11_often_103 : decode cX11_often 103 = .ok (.iload 5, 2) := by decide +kernel
theorem dX11_often_105 : decode cX11_often 105 = .ok (.iload 6, 2) := by decide +kernel
theorem dX11_often_107 : decode cX11_often 107 = .ok (.invokevirtual 97, 3) := by decide +kernel
theorem dX11_often_110 : decode cX11_often 110 = .ok (.istore 7, 2) := by decide +kernel
theorem dX11_often_112 : decode cX11_often 112 = .ok (.iinc 8 1, 3) := by decide +kernel
theorem dX11_often_115 : decode cX11_often 115 = .ok (.goto (-50), 3) := by decide +kernel
theorem dX11_often_118 : decode cX11_often 118 = .ok (.iload 5, 2) := by decide +kernel
theorem dX11_often_120 : decode cX11_often 120 = .ok (.ifCond .ne 6, 3) := by decide +kernel
theorem dX11_often_123 : decode cX11_often 123 = .ok (.iinc 2 1, 3) := by decide +kernel
theorem dX11_often_126 : decode cX11_often 126 = .ok (.iinc 4 1, 3) := by decide +kernel
theorem dX11_often_129 : decode cX11_often 129 = .ok (.goto (-104), 3) := by decide +kernel
theorem dX11_often_132 : decode cX11_often 132 = .ok (.iload_n 2, 1) := by decide +kernel
theorem dX11_often_133 : decode cX11_often 133 = .ok (.ireturn, 1) := by decide +kernel
def f_X11_often_126 (S : Sh) (R : Rw) (I : Iw) (ko25 : Nat → Int32 → Int32 → Int32 → Int32 → Option (Int32)) (a0 : Nat) (x1 : Int32) (x2 : Int32) (x3 : Int32) (x4 : Int32) : Option (Int32) := ko25 a0 x1 x2 x3 (x4 + (1 : Int32))
set_option maxHeartbeats 4000000 in
theorem b_X11_often_126 {E : Ev} {p : Program} {l : Launch} {e : Env} {s : State} {m : MethodId} {args : Array Value} {below : List Frame} {meth : Method} {c : Code} (C : Cx E RX11 cX11_often 9 p s m c) (hr : meth.sig.returnType = (some .int)) (hk : meth.locks = false) {S : Sh} {R : Rw} {I : Iw} {r : Int32}  {ko25 : Nat → Int32 → Int32 → Int32 → Int32 → Option (Int32)} (hko25 : ∀ (a0 : Nat) (x1 : Int32) (x2 : Int32) (x3 : Int32) (x4 : Int32), ko25 a0 x1 x2 x3 x4 = some r → Wk E 9 p l e ({ frames := 3, cells := 0, slots := 0, locals := 68 } : Room) s m args below meth c 0 0 (MQ below (Qw E S R I (some (.int r))) args s 0 0 (fun q => E.1 ≤ q)) 25 [(0, .ref (E.1 + a0)), (1, .int x1), (2, .int x2), (3, .int x3), (4, .int x4)] [] S R I) : ∀ (a0 : Nat) (x1 : Int32) (x2 : Int32) (x3 : Int32) (x4 : Int32), f_X11_often_126 S R I ko25  a0 x1 x2 x3 x4 = some r → Wk E 9 p l e ({ frames := 3, cells := 0, slots := 0, locals := 68 } : Room) s m args below meth c 0 0 (MQ below (Qw E S R I (some (.int r))) args s 0 0 (fun q => E.1 ≤ q)) 126 [(0, .ref (E.1 + a0)), (1, .int x1), (2, .int x2), (3, .int x3), (4, .int x4)] [] S R I := by
  intro a0 x1 x2 x3 x4 h
  rw [f_X11_often_126] at h
  refine k_iinc (pc := 126) C dX11_often_126 4 rfl (v := x4 + (1 : Int32)) (by rfl) (by decide) (L2 := [(0, .ref (E.1 + a0)), (1, .int x1), (2, .int x2), (3, .int x3), (4, .int (x4 + (1 : Int32)))]) rfl ?_
  refine k_goto (pc := 129) C dX11_often_129 (tgt := 25) (by decide) ?_
  exact hko25 _ _ _ _ _ h
def f_X11_often_118 (S : Sh) (R : Rw) (I : Iw) (ko25 : Nat → Int32 → Int32 → Int32 → Int32 → Option (Int32)) (a0 : Nat) (x1 : Int32) (x2 : Int32) (x3 : Int32) (x4 : Int32) (x5 : Int32) : Option (Int32) := (if x5 = 0 then f_X11_often_126 S R I ko25 a0 x1 (x2 + (1 : Int32)) x3 x4 else f_X11_often_126 S R I ko25 a0 x1 x2 x3 x4)
set_option maxHeartbeats 4000000 in
theorem b_X11_often_118 {E : Ev} {p : Program} {l : Launch} {e : Env} {s : State} {m : MethodId} {args : Array Value} {below : List Frame} {meth : Method} {c : Code} (C : Cx E RX11 cX11_often 9 p s m c) (hr : meth.sig.returnType = (some .int)) (hk : meth.locks = false) {S : Sh} {R : Rw} {I : Iw} {r : Int32}  {ko25 : Nat → Int32 → Int32 → Int32 → Int32 → Option (Int32)} (hko25 : ∀ (a0 : Nat) (x1 : Int32) (x2 : Int32) (x3 : Int32) (x4 : Int32), ko25 a0 x1 x2 x3 x4 = some r → Wk E 9 p l e ({ frames := 3, cells := 0, slots := 0, locals := 68 } : Room) s m args below meth c 0 0 (MQ below (Qw E S R I (some (.int r))) args s 0 0 (fun q => E.1 ≤ q)) 25 [(0, .ref (E.1 + a0)), (1, .int x1), (2, .int x2), (3, .int x3), (4, .int x4)] [] S R I) : ∀ (a0 : Nat) (x1 : Int32) (x2 : Int32) (x3 : Int32) (x4 : Int32) (x5 : Int32), f_X11_often_118 S R I ko25  a0 x1 x2 x3 x4 x5 = some r → Wk E 9 p l e ({ frames := 3, cells := 0, slots := 0, locals := 68 } : Room) s m args below meth c 0 0 (MQ below (Qw E S R I (some (.int r))) args s 0 0 (fun q => E.1 ≤ q)) 118 [(0, .ref (E.1 + a0)), (1, .int x1), (2, .int x2), (3, .int x3), (4, .int x4), (5, .int x5)] [] S R I := by
  intro a0 x1 x2 x3 x4 x5 h
  rw [f_X11_often_118] at h
  refine k_iload (pc := 118) C dX11_often_118 5 rfl ?_
  refine k_if_ne (pc := 120) C dX11_often_120 (tgt := 126) (by decide) (fun hc17 => ?_) (fun hc17 => ?_)
  · rw [if_neg hc17] at h
    refine k_loc (L2 := [(0, .ref (E.1 + a0)), (1, .int x1), (2, .int x2), (3, .int x3), (4, .int x4)]) [0, 1, 2, 3, 4] rfl ?_
    exact b_X11_often_126 C hr hk hko25 _ _ _ _ _ h
  · rw [if_pos hc17] at h
    refine k_iinc (pc := 123) C dX11_often_123 2 rfl (v := x2 + (1 : Int32)) (by rfl) (by decide) (L2 := [(0, .ref (E.1 + a0)), (1, .int x1), (2, .int (x2 + (1 : Int32))), (3, .int x3), (4, .int x4), (5, .int x5)]) rfl ?_
    refine k_loc (L2 := [(0, .ref (E.1 + a0)), (1, .int x1), (2, .int (x2 + (1 : Int32))), (3, .int x3), (4, .int x4)]) [0, 1, 2, 3, 4] rfl ?_
    exact b_X11_often_126 C hr hk hko25 _ _ _ _ _ h
def f_X11_often_65 (S : Sh) (R : Rw) (I : Iw) (ko25 : Nat → Int32 → Int32 → Int32 → Int32 → Option (Int32)) : Nat → Nat → Int32 → Int32 → Int32 → Int32 → Int32 → Int32 → Int32 → Option (Int32)
  | 0, _, _, _, _, _, _, _, _ => none
  | n + 1, a0, x1, x2, x3, x4, x5, x7, x8 => (if (9 : Int32) ≤ x8 then f_X11_often_118 S R I ko25 a0 x1 x2 x3 x4 x5 else (if x7 = 0 then f_X11_often_118 S R I ko25 a0 x1 x2 x3 x4 x5 else bd (f_X11_lotBehind S R I x3) (fun r19 => bd (f_X11_drawnOf S R I x7 r19) (fun r20 => bd (f_X11_without S R I x5 r20) (fun r21 => gp (sok S a0 11 12) (rl (R a0 0) (fun b23 => gp (sok S b23 7 16) (bd (f_X7_mayGo S R I b23 r21 r20) (fun r25 => f_X11_often_65 S R I ko25 n a0 x1 x2 r19 x4 r21 r25 (x8 + (1 : Int32)))))))))))
set_option maxHeartbeats 4000000 in
theorem b_X11_often_65 {E : Ev} {p : Program} {l : Launch} {e : Env} {s : State} {m : MethodId} {args : Array Value} {below : List Frame} {meth : Method} {c : Code} (C : Cx E RX11 cX11_often 9 p s m c) (hr : meth.sig.returnType = (some .int)) (hk : meth.locks = false) {S : Sh} {R : Rw} {I : Iw} {r : Int32}  {ko25 : Nat → Int32 → Int32 → Int32 → Int32 → Option (Int32)} (hko25 : ∀ (a0 : Nat) (x1 : Int32) (x2 : Int32) (x3 : Int32) (x4 : Int32), ko25 a0 x1 x2 x3 x4 = some r → Wk E 9 p l e ({ frames := 3, cells := 0, slots := 0, locals := 68 } : Room) s m args below meth c 0 0 (MQ below (Qw E S R I (some (.int r))) args s 0 0 (fun q => E.1 ≤ q)) 25 [(0, .ref (E.1 + a0)), (1, .int x1), (2, .int x2), (3, .int x3), (4, .int x4)] [] S R I) : ∀ (n : Nat) (a0 : Nat) (x1 : Int32) (x2 : Int32) (x3 : Int32) (x4 : Int32) (x5 : Int32) (x7 : Int32) (x8 : Int32), f_X11_often_65 S R I ko25 n a0 x1 x2 x3 x4 x5 x7 x8 = some r → Wk E 9 p l e ({ frames := 3, cells := 0, slots := 0, locals := 68 } : Room) s m args below meth c 0 0 (MQ below (Qw E S R I (some (.int r))) args s 0 0 (fun q => E.1 ≤ q)) 65 [(0, .ref (E.1 + a0)), (1, .int x1), (2, .int x2), (3, .int x3), (4, .int x4), (5, .int x5), (7, .int x7), (8, .int x8)] [] S R I := by
  intro n
  induction n with
  | zero =>
    intro a0 x1 x2 x3 x4 x5 x7 x8 h
    rw [f_X11_often_65] at h
    cases h
  | succ n ih =>
    intro a0 x1 x2 x3 x4 x5 x7 x8 h
    rw [f_X11_often_65] at h
    refine k_iload (pc := 65) C dX11_often_65 7 rfl ?_
    refine k_bipush (pc := 67) C (v := (9 : Int32)) dX11_often_67 (by decide) ?_
    refine k_icmp_ge (pc := 69) C dX11_often_69 (tgt := 118) (by decide) (fun hc16 => ?_) (fun hc16 => ?_)
    · rw [if_pos hc16] at h
      refine k_loc (L2 := [(0, .ref (E.1 + a0)), (1, .int x1), (2, .int x2), (3, .int x3), (4, .int x4), (5, .int x5)]) [0, 1, 2, 3, 4, 5] rfl ?_
      exact b_X11_often_118 C hr hk hko25 _ _ _ _ _ _ h
    · rw [if_neg hc16] at h
      refine k_iload (pc := 72) C dX11_often_72 6 rfl ?_
      refine k_if_eq (pc := 74) C dX11_often_74 (tgt := 118) (by decide) (fun hc18 => ?_) (fun hc18 => ?_)
      · rw [if_pos hc18] at h
        refine k_loc (L2 := [(0, .ref (E.1 + a0)), (1, .int x1), (2, .int x2), (3, .int x3), (4, .int x4), (5, .int x5)]) [0, 1, 2, 3, 4, 5] rfl ?_
        exact b_X11_often_118 C hr hk hko25 _ _ _ _ _ _ h
      · rw [if_neg hc18] at h
        refine k_iloadn (pc := 77) C dX11_often_77 (i := 3) rfl 3 rfl ?_
        obtain ⟨r19, hr19, h⟩ := bd_e h
        refine k_S (pc := 78) (st := []) C (c_X11_lotBehind hr19) lkS_RX11_202 rfl rfl (Nat.le_of_ble_eq_true rfl) (Nat.le_of_ble_eq_true rfl) (Nat.le_of_ble_eq_true rfl) (Nat.le_of_ble_eq_true rfl) (Nat.le_of_ble_eq_true rfl) dX11_often_78 ?_
        refine k_nf (cells2 := 0) (slots2 := 0) (st2 := [.int r19]) rfl rfl rfl ?_
        refine k_istoren (pc := 81) C dX11_often_81 (i := 3) rfl (by decide) (L2 := [(0, .ref (E.1 + a0)), (1, .int x1), (2, .int x2), (3, .int r19), (4, .int x4), (5, .int x5), (7, .int x7), (8, .int x8)]) rfl ?_
        refine k_iload (pc := 82) C dX11_often_82 6 rfl ?_
        refine k_iloadn (pc := 84) C dX11_often_84 (i := 3) rfl 3 rfl ?_
        obtain ⟨r20, hr20, h⟩ := bd_e h
        refine k_S (pc := 85) (st := []) C (c_X11_drawnOf hr20) lkS_RX11_205 rfl rfl (Nat.le_of_ble_eq_true rfl) (Nat.le_of_ble_eq_true rfl) (Nat.le_of_ble_eq_true rfl) (Nat.le_of_ble_eq_true rfl) (Nat.le_of_ble_eq_true rfl) dX11_often_85 ?_
        refine k_nf (cells2 := 0) (slots2 := 0) (st2 := [.int r20]) rfl rfl rfl ?_
        refine k_istore (pc := 88) C dX11_often_88 (by decide) (L2 := [(0, .ref (E.1 + a0)), (1, .int x1), (2, .int x2), (3, .int r19), (4, .int x4), (5, .int x5), (6, .int r20), (7, .int x7), (8, .int x8)]) rfl ?_
        refine k_iload (pc := 90) C dX11_often_90 5 rfl ?_
        refine k_iload (pc := 92) C dX11_often_92 6 rfl ?_
        obtain ⟨r21, hr21, h⟩ := bd_e h
        refine k_S (pc := 94) (st := []) C (c_X11_without hr21) lkS_RX11_173 rfl rfl (Nat.le_of_ble_eq_true rfl) (Nat.le_of_ble_eq_true rfl) (Nat.le_of_ble_eq_true rfl) (Nat.le_of_ble_eq_true rfl) (Nat.le_of_ble_eq_true rfl) dX11_often_94 ?_
        refine k_nf (cells2 := 0) (slots2 := 0) (st2 := [.int r21]) rfl rfl rfl ?_
        refine k_istore (pc := 97) C dX11_often_97 (by decide) (L2 := [(0, .ref (E.1 + a0)), (1, .int x1), (2, .int x2), (3, .int r19), (4, .int x4), (5, .int r21), (6, .int r20), (7, .int x7), (8, .int x8)]) rfl ?_
        refine k_aloadn (pc := 99) C dX11_often_99 (i := 0) rfl 0 rfl ?_
        obtain ⟨hs220, h⟩ := gp_e h
        have hs22 := sok_e hs220
        obtain ⟨b23, hb23, h⟩ := rl_e h
        refine k_getR (pc := 100) C lkF_RX11_12_11 hs22 ir_11_0 hb23 dX11_often_100 ?_
        refine k_iload (pc := 103) C dX11_often_103 5 rfl ?_
        refine k_iload (pc := 105) C dX11_often_105 6 rfl ?_
        obtain ⟨hs240, h⟩ := gp_e h
        have hs24 := sok_e hs240
        obtain ⟨r25, hr25, h⟩ := bd_e h
        refine k_V (pc := 107) (st := []) C (c_X7_mayGo hr25) lkV_RX11_97 hs24 rfl rfl rfl (Nat.le_of_ble_eq_true rfl) (Nat.le_of_ble_eq_true rfl) (Nat.le_of_ble_eq_true rfl) (Nat.le_of_ble_eq_true rfl) (Nat.le_of_ble_eq_true rfl) dX11_often_107 ?_
        refine k_nf (cells2 := 0) (slots2 := 0) (st2 := [.int r25]) rfl rfl rfl ?_
        refine k_istore (pc := 110) C dX11_often_110 (by decide) (L2 := [(0, .ref (E.1 + a0)), (1, .int x1), (2, .int x2), (3, .int r19), (4, .int x4), (5, .int r21), (6, .int r20), (7, .int r25), (8, .int x8)]) rfl ?_
        refine k_iinc (pc := 112) C dX11_often_112 8 rfl (v := x8 + (1 : Int32)) (by rfl) (by decide) (L2 := [(0, .ref (E.1 + a0)), (1, .int x1), (2, .int x2), (3, .int r19), (4, .int x4), (5, .int r21), (6, .int r20), (7, .int r25), (8, .int (x8 + (1 : Int32)))]) rfl ?_
        refine k_goto (pc := 115) C dX11_often_115 (tgt := 65) (by decide) ?_
        refine k_loc (L2 := [(0, .ref (E.1 + a0)), (1, .int x1), (2, .int x2), (3, .int r19), (4, .int x4), (5, .int r21), (7, .int r25), (8, .int (x8 + (1 : Int32)))]) [0, 1, 2, 3, 4, 5, 7, 8] rfl ?_
        exact ih _ _ _ _ _ _ _ _ h
def f_X11_often_25 (S : Sh) (R : Rw) (I : Iw)  : Nat → Nat → Int32 → Int32 → Int32 → Int32 → Option (Int32)
  | 0, _, _, _, _, _ => none
  | n + 1, a0, x1, x2, x3, x4 => (if x1 ≤ x4 then some x2 else gp (sok S a0 11 12) (rl (R a0 0) (fun b8 => gp (sok S b8 7 16) (rl (R a0 0) (fun b10 => gp (sok S b10 7 16) (bd (f_X7_last S R I b10) (fun r12 => rl (R a0 0) (fun b13 => gp (sok S b13 7 16) (bd (f_X7_mayGo S R I b13 (I b8 6) r12) (fun r15 => f_X11_often_65 S R I (f_X11_often_25 S R I  n) 512 a0 x1 x2 x3 x4 (I b8 6) r15 (0 : Int32)))))))))))
set_option maxHeartbeats 4000000 in
theorem b_X11_often_25 {E : Ev} {p : Program} {l : Launch} {e : Env} {s : State} {m : MethodId} {args : Array Value} {below : List Frame} {meth : Method} {c : Code} (C : Cx E RX11 cX11_often 9 p s m c) (hr : meth.sig.returnType = (some .int)) (hk : meth.locks = false) {S : Sh} {R : Rw} {I : Iw} {r : Int32}  : ∀ (n : Nat) (a0 : Nat) (x1 : Int32) (x2 : Int32) (x3 : Int32) (x4 : Int32), f_X11_often_25 S R I  n a0 x1 x2 x3 x4 = some r → Wk E 9 p l e ({ frames := 3, cells := 0, slots := 0, locals := 68 } : Room) s m args below meth c 0 0 (MQ below (Qw E S R I (some (.int r))) args s 0 0 (fun q => E.1 ≤ q)) 25 [(0, .ref (E.1 + a0)), (1, .int x1), (2, .int x2), (3, .int x3), (4, .int x4)] [] S R I := by
  intro n
  induction n with
  | zero =>
    intro a0 x1 x2 x3 x4 h
    rw [f_X11_often_25] at h
    cases h
  | succ n ih =>
    intro a0 x1 x2 x3 x4 h
    rw [f_X11_often_25] at h
    refine k_iload (pc := 25) C dX11_often_25 4 rfl ?_
    refine k_iloadn (pc := 27) C dX11_often_27 (i := 1) rfl 1 rfl ?_
    refine k_icmp_ge (pc := 28) C dX11_often_28 (tgt := 132) (by decide) (fun hc6 => ?_) (fun hc6 => ?_)
    · rw [if_pos hc6] at h
      refine k_iloadn (pc := 132) C dX11_often_132 (i := 2) rfl 2 rfl ?_
      have h := Option.some.inj h
      subst h
      exact k_iret (pc := 133) C hr hk dX11_often_133
    · rw [if_neg hc6] at h
      refine k_aloadn (pc := 31) C dX11_often_31 (i := 0) rfl 0 rfl ?_
      obtain ⟨hs70, h⟩ := gp_e h
      have hs7 := sok_e hs70
      obtain ⟨b8, hb8, h⟩ := rl_e h
      refine k_getR (pc := 32) C lkF_RX11_12_11 hs7 ir_11_0 hb8 dX11_often_32 ?_
      obtain ⟨hs90, h⟩ := gp_e h
      have hs9 := sok_e hs90
      refine k_getI (pc := 35) C lkF_RX11_89_7 hs9 ir_7_6 dX11_often_35 ?_
      refine k_istore (pc := 38) C dX11_often_38 (by decide) (L2 := [(0, .ref (E.1 + a0)), (1, .int x1), (2, .int x2), (3, .int x3), (4, .int x4), (5, .int (I b8 6))]) rfl ?_
      refine k_aloadn (pc := 40) C dX11_often_40 (i := 0) rfl 0 rfl ?_
      obtain ⟨b10, hb10, h⟩ := rl_e h
      refine k_getR (pc := 41) C lkF_RX11_12_11 hs7 ir_11_0 hb10 dX11_often_41 ?_
      obtain ⟨hs110, h⟩ := gp_e h
      have hs11 := sok_e hs110
      obtain ⟨r12, hr12, h⟩ := bd_e h
      refine k_V (pc := 44) (st := []) C (c_X7_last hr12) lkV_RX11_93 hs11 rfl rfl rfl (Nat.le_of_ble_eq_true rfl) (Nat.le_of_ble_eq_true rfl) (Nat.le_of_ble_eq_true rfl) (Nat.le_of_ble_eq_true rfl) (Nat.le_of_ble_eq_true rfl) dX11_often_44 ?_
      refine k_nf (cells2 := 0) (slots2 := 0) (st2 := [.int r12]) rfl rfl rfl ?_
      refine k_istore (pc := 47) C dX11_often_47 (by decide) (L2 := [(0, .ref (E.1 + a0)), (1, .int x1), (2, .int x2), (3, .int x3), (4, .int x4), (5, .int (I b8 6)), (6, .int r12)]) rfl ?_
      refine k_aloadn (pc := 49) C dX11_often_49 (i := 0) rfl 0 rfl ?_
      obtain ⟨b13, hb13, h⟩ := rl_e h
      refine k_getR (pc := 50) C lkF_RX11_12_11 hs7 ir_11_0 hb13 dX11_often_50 ?_
      refine k_iload (pc := 53) C dX11_often_53 5 rfl ?_
      refine k_iload (pc := 55) C dX11_often_55 6 rfl ?_
      obtain ⟨hs140, h⟩ := gp_e h
      have hs14 := sok_e hs140
      obtain ⟨r15, hr15, h⟩ := bd_e h
      refine k_V (pc := 57) (st := []) C (c_X7_mayGo hr15) lkV_RX11_97 hs14 rfl rfl rfl (Nat.le_of_ble_eq_true rfl) (Nat.le_of_ble_eq_true rfl) (Nat.le_of_ble_eq_true rfl) (Nat.le_of_ble_eq_true rfl) (Nat.le_of_ble_eq_true rfl) dX11_often_57 ?_
      refine k_nf (cells2 := 0) (slots2 := 0) (st2 := [.int r15]) rfl rfl rfl ?_
      refine k_istore (pc := 60) C dX11_often_60 (by decide) (L2 := [(0, .ref (E.1 + a0)), (1, .int x1), (2, .int x2), (3, .int x3), (4, .int x4), (5, .int (I b8 6)), (6, .int r12), (7, .int r15)]) rfl ?_
      refine k_iconst (pc := 62) C (v := (0 : Int32)) dX11_often_62 (by decide) ?_
      refine k_istore (pc := 63) C dX11_often_63 (by decide) (L2 := [(0, .ref (E.1 + a0)), (1, .int x1), (2, .int x2), (3, .int x3), (4, .int x4), (5, .int (I b8 6)), (6, .int r12), (7, .int r15), (8, .int (0 : Int32))]) rfl ?_
      refine k_loc (L2 := [(0, .ref (E.1 + a0)), (1, .int x1), (2, .int x2), (3, .int x3), (4, .int x4), (5, .int (I b8 6)), (7, .int r15), (8, .int (0 : Int32))]) [0, 1, 2, 3, 4, 5, 7, 8] rfl ?_
      exact b_X11_often_65 C hr hk ih _ _ _ _ _ _ _ _ _ h
def f_X11_often (S : Sh) (R : Rw) (I : Iw)  (a0 : Nat) (x1 : Int32) : Option (Int32) := bd (f_X11_isBetween S R I x1 (1 : Int32) (60 : Int32)) (fun r1 => (if r1 = 0 then some (-1 : Int32) else gp (sok S a0 11 12) (rl (R a0 0) (fun b4 => gp (sok S b4 7 16) (f_X11_often_25 S R I  512 a0 x1 (0 : Int32) (I b4 15) (0 : Int32))))))
set_option maxHeartbeats 4000000 in
theorem b_X11_often {E : Ev} {p : Program} {l : Launch} {e : Env} {s : State} {m : MethodId} {args : Array Value} {below : List Frame} {meth : Method} {c : Code} (C : Cx E RX11 cX11_often 9 p s m c) (hr : meth.sig.returnType = (some .int)) (hk : meth.locks = false) {S : Sh} {R : Rw} {I : Iw} {r : Int32}  : ∀ (a0 : Nat) (x1 : Int32), f_X11_often S R I   a0 x1 = some r → Wk E 9 p l e ({ frames := 3, cells := 0, slots := 0, locals := 68 } : Room) s m args below meth c 0 0 (MQ below (Qw E S R I (some (.int r))) args s 0 0 (fun q => E.1 ≤ q)) 0 [(0, .ref (E.1 + a0)), (1, .int x1)] [] S R I := by
  intro a0 x1 h
  rw [f_X11_often] at h
  refine k_iloadn (pc := 0) C dX11_often_0 (i := 1) rfl 1 rfl ?_
  refine k_iconst (pc := 1) C (v := (1 : Int32)) dX11_often_1 (by decide) ?_
  refine k_bipush (pc := 2) C (v := (60 : Int32)) dX11_often_2 (by decide) ?_
  obtain ⟨r1, hr1, h⟩ := bd_e h
  refine k_S (pc := 4) (st := []) C (c_X11_isBetween hr1) lkS_RX11_55 rfl rfl (Nat.le_of_ble_eq_true rfl) (Nat.le_of_ble_eq_true rfl) (Nat.le_of_ble_eq_true rfl) (Nat.le_of_ble_eq_true rfl) (Nat.le_of_ble_eq_true rfl) dX11_often_4 ?_
  refine k_nf (cells2 := 0) (slots2 := 0) (st2 := [.int r1]) rfl rfl rfl ?_
  refine k_if_ne (pc := 7) C dX11_often_7 (tgt := 12) (by decide) (fun hc2 => ?_) (fun hc2 => ?_)
  · rw [if_neg hc2] at h
    refine k_iconst (pc := 12) C (v := (0 : Int32)) dX11_often_12 (by decide) ?_
    refine k_istoren (pc := 13) C dX11_often_13 (i := 2) rfl (by decide) (L2 := [(0, .ref (E.1 + a0)), (1, .int x1), (2, .int (0 : Int32))]) rfl ?_
    refine k_aloadn (pc := 14) C dX11_often_14 (i := 0) rfl 0 rfl ?_
    obtain ⟨hs30, h⟩ := gp_e h
    have hs3 := sok_e hs30
    obtain ⟨b4, hb4, h⟩ := rl_e h
    refine k_getR (pc := 15) C lkF_RX11_12_11 hs3 ir_11_0 hb4 dX11_often_15 ?_
    obtain ⟨hs50, h⟩ := gp_e h
    have hs5 := sok_e hs50
    refine k_getI (pc := 18) C lkF_RX11_199_7 hs5 ir_7_15 dX11_often_18 ?_
    refine k_istoren (pc := 21) C dX11_often_21 (i := 3) rfl (by decide) (L2 := [(0, .ref (E.1 + a0)), (1, .int x1), (2, .int (0 : Int32)), (3, .int (I b4 15))]) rfl ?_
    refine k_iconst (pc := 22) C (v := (0 : Int32)) dX11_often_22 (by decide) ?_
    refine k_istore (pc := 23) C dX11_often_23 (by decide) (L2 := [(0, .ref (E.1 + a0)), (1, .int x1), (2, .int (0 : Int32)), (3, .int (I b4 15)), (4, .int (0 : Int32))]) rfl ?_
    exact b_X11_often_25 C hr hk  _ _ _ _ _ _ h
  · rw [if_pos hc2] at h
    refine k_iconst (pc := 10) C (v := (-1 : Int32)) dX11_often_10 (by decide) ?_
    have h := Option.some.inj h
    subst h
    exact k_iret (pc := 11) C hr hk dX11_often_11
theorem c_X11_often {E : Ev} {l : Launch} {S : Sh} {R : Rw} {I : Iw} {a0 : Nat} {x1 : Int32} {r : Int32} (h : f_X11_often S R I a0 x1 = some r) : Mt E l yX11_often cX11_often 9 (some .int) 3 68 [.ref (E.1 + a0), .int x1] S R I S R I (some (.int r)) 0 0 := mt_of (by decide) (Nat.le_of_ble_eq_true rfl) (fun p e s m args below meth c C hr hk hn => b_X11_often C hr hk _ _ h)
theorem lkP_RX11_209_11 : LkP RX11 209 11 6 .int := ⟨RX11, TX11, 12, "UnlikeNeighbours", fc11, by decide, (t1_in 239 (by decide +kernel) rfl), Or.inl rfl, rfl, by decide +kernel⟩
theorem lkF_RX11_209_11 : LkF RX11 209 11 6 := ⟨RX11, TX11, 12, "UnlikeNeighbours", fc11, by decide, (t1_in 239 (by decide +kernel) rfl), Or.inl rfl⟩
theorem lkF_RX11_35_11 : LkF RX11 35 11 5 := ⟨RX11, TX11, 12, "UnlikeNeighbours", fc11, by decide, (t1_in 238 (by decide +kernel) rfl), Or.inl rfl⟩
theorem dX11_prove_0 : decode cX11_prove 0 = .ok (.aload_n 0, 1) := by decide +kernel
theorem dX11_prove_1 : decode cX11_prove 1 = .ok (.getfield 31, 3) := by decide +kernel
theorem dX11_prove_4 : decode cX11_prove 4 = .ok (.invokevirtual 155, 3) := by decide +kernel
theorem dX11_prove_7 : decode cX11_prove 7 = .ok (.ifCond .ne 6, 3) := by decide +kernel
theorem dX11_prove_10 : decode cX11_prove 10 = .ok (.bipush (-3), 2) := by decide +kernel
theorem dX11_prove_12 : decode cX11_prove 12 = .ok (.ireturn, 1) := by decide +kernel
theorem dX11_prove_13 : decode cX11_prove 13 = .ok (.aload_n 0, 1) := by decide +kernel
theorem dX11_prove_14 : decode cX11_prove 14 = .ok (.aload_n 0, 1) := by decide +kernel
theorem dX11_prove_15 : decode cX11_prove 15 = .ok (.getfield 31, 3) := by decide +kernel
theorem dX11_prove_18 : decode cX11_prove 18 = .ok (.iconst 0, 1) := by decide +kernel
theorem dX11_prove_19 : decode cX11_prove 19 = .ok (.invokevirtual 161, 3) := by decide +kernel
theorem dX11_prove_22 : decode cX11_prove 22 = .ok (.putfield 209, 3) := by decide +kernel
theorem dX11_prove_25 : decode cX11_prove 25 = .ok (.aload_n 0, 1) := by decide +kernel
theorem dX11_prove_26 : decode cX11_prove 26 = .ok (.getfield 12, 3) := by decide +kernel
theorem dX11_prove_29 : decode cX11_prove 29 = .ok (.getfield 89, 3) := by decide +kernel
theorem dX11_prove_32 : decode cX11_prove 32 = .ok (.invokestatic 194, 3) := by decide +kernel
theorem dX11_prove_35 : decode cX11_prove 35 = .ok (.istore_n 1, 1) := by decide +kernel
theorem dX11_prove_36 : decode cX11_prove 36 = .ok (.iconst 0, 1) := by decide +kernel
theorem dX11_prove_37 : decode cX11_prove 37 = .ok (.istore_n 2, 1) := by decide +kernel
theorem dX11_prove_38 : decode cX11_prove 38 = .ok (.iload_n 2, 1) := by decide +kernel
theorem dX11_prove_39 : decode cX11_prove 39 = .ok (.aload_n 0, 1) := by decide +kernel
theorem dX11_prove_40 : decode cX11_prove 40 = .ok (.getfield 209, 3) := by decide +kernel
theorem dX11_prove_43 : decode cX11_prove 43 = .ok (.if_icmp .ge 61, 3) := by decide +kernel
theorem dX11_prove_46 : decode cX11_prove 46 = .ok (.aload_n 0, 1) := by decide +kernel
theorem dX11_prove_47 : decode cX11_prove 47 = .ok (.getfield 31, 3) := by decide +kernel
theorem dX11_prove_50 : decode cX11_prove 50 = .ok (.getfield 167, 3) := by decide +kernel
theorem dX11_prove_53 : decode cX11_prove 53 = .ok (.iload_n 2, 1) := by decide +kernel
theorem dX11_prove_54 : decode cX11_prove 54 = .ok (.iaload, 1) := by decide +kernel
theorem dX11_prove_55 : decode cX11_prove 55 = .ok (.istore_n 3, 1) := by decide +kernel
theorem dX11_prove_56 : decode cX11_prove 56 = .ok (.aload_n 0, 1) := by decide +kernel
theorem dX11_prove_57 : decode cX11_prove 57 = .ok (.getfield 35, 3) := by decide +kernel
theorem dX11_prove_60 : decode cX11_prove 60 = .ok (.iload_n 2, 1) := by decide +kernel
theorem dX11_prove_61 : decode cX11_prove 61 = .ok (.iconst 3, 1) := by decide +kernel
theorem dX11_prove_62 : decode cX11_prove 62 = .ok (.imul, 1) := by decide +kernel
theorem dX11_prove_63 : decode cX11_prove 63 = .ok (.iload_n 3, 1) := by decide +kernel
theorem dX11_prove_64 : decode cX11_prove 64 = .ok (.iastore, 1) := by decide +kernel
theorem dX11_prove_65 : decode cX11_prove 65 = .ok (.aload_n 0, 1) := by decide +kernel
theorem dX11_prove_66 : decode cX11_prove 66 = .ok (.getfield 35, 3) := by decide +kernel
theorem dX11_prove_69 : decode cX11_prove 69 = .ok (.iload_n 2, 1) := by decide +kernel
theorem dX11_prove_70 : decode cX11_prove 70 = .ok (.iconst 3, 1) := by decide +kernel
theorem dX11_prove_71 : decode cX11_prove 71 = .ok (.imul, 1) := by decide +kernel
theorem dX11_prove_72 : decode cX11_prove 72 = .ok (.iconst 1, 1) := by decide +kernel
theorem dX11_prove_73 : decode cX11_prove 73 = .ok (.iadd, 1) := by decide +kernel
theorem dX11_prove_74 : decode cX11_prove 74 = .ok (.iload_n 1, 1) := by decide +kernel
theorem dX11_prove_75 : decode cX11_prove 75 = .ok (.iload_n 2, 1) := by decide +kernel
theorem dX11_prove_76 : decode cX11_prove 76 = .ok (.isub, 1) := by decide +kernel
theorem dX11_prove_77 : decode cX11_prove 77 = .ok (.iconst 1, 1) := by decide +kernel
theorem dX11_prove_78 : decode cX11_prove 78 = .ok (.isub, 1) := by decide +kernel
theorem dX11_prove_79 : decode cX11_prove 79 = .ok (.iastore, 1) := by decide +kernel
theorem dX11_prove_80 : decode cX11_prove 80 = .ok (.aload_n 0, 1) := by decide +kernel
theorem dX11_prove_81 : decode cX11_prove 81 = .ok (.getfield 35, 3) := by decide +kernel
theorem dX11_prove_84 : decode cX11_prove 84 = .ok (.iload_n 2, 1) := by decide +kernel
theorem dX11_prove_85 : decode cX11_prove 85 = .ok (.iconst 3, 1) := by decide +kernel
theorem dX11_prove_86 : decode cX11_prove 86 = .ok (.imul, 1) := by decide +kernel
theorem dX11_prove_87 : decode cX11_prove 87 = .ok (.iconst 2, 1) := by decide +kernel
theorem dX11_prove_88 : decode cX11_prove 88 = .ok (.iadd, 1) := by decide +kernel
theorem dX11_prove_89 : decode cX11_prove 89 = .ok (.aload_n 0, 1) := by decide +kernel
theorem dX11_prove_90 : decode cX11_prove 90 = .ok (.getfield 12, 3) := by decide +kernel
theorem dX11_prove_93 : decode cX11_prove 93 = .ok (.iload_n 3, 1) := by decide +kernel
theorem dX11_prove_94 : decode cX11_prove 94 = .ok (.invokevirtual 79, 3) := by decide +kernel
theorem dX11_prove_97 : decode cX11_prove 97 = .ok (.iastore, 1) := by decide +kernel
theorem dX11_prove_98 : decode cX11_prove 98 = .ok (.iinc 2 1, 3) := by decide +kernel
theorem dX11_prove_101 : decode cX11_prove 101 = .ok (.goto (-63), 3) := by decide +kernel
theorem dX11_prove_104 : decode cX11_prove 104 = .ok (.aload_n 0, 1) := by decide +kernel
theorem dX11_prove_105 : decode cX11_prove 105 = .ok (.getfield 209, 3) := by decide +kernel
theorem dX11_prove_108 : decode cX11_prove 108 = .ok (.ireturn, 1) := by decide +kernel
def f_X11_prove_38 (S : Sh) (R : Rw)  : Nat → Iw → Nat → Int32 → Int32 → Option (Iw × Int32)
  | 0, _, _, _, _ => none
  | n + 1, I, a0, x1, x2 => gp (sok S a0 11 12) ((if (I a0 6) ≤ x2 then some (I, I a0 6) else rl (R a0 4) (fun b15 => gp (sok S b15 2 11) (rl (R b15 10) (fun b17 => gp (aok S 20 b17 x2) (rl (R a0 5) (fun b19 => gp (aok S 20 b19 (x2 * (3 : Int32))) (lt (up2 I b19 (x2 * (3 : Int32)).toNatClampNeg (I b17 x2.toNatClampNeg)) (fun I21 => rl (R a0 5) (fun b22 => gp (aok S 20 b22 ((x2 * (3 : Int32)) + (1 : Int32))) (lt (up2 I21 b22 ((x2 * (3 : Int32)) + (1 : Int32)).toNatClampNeg ((x1 - x2) - (1 : Int32))) (fun I24 => rl (R a0 5) (fun b25 => rl (R a0 0) (fun b26 => gp (sok S b26 7 16) (bd (f_X7_fee S R I24 b26 (I b17 x2.toNatClampNeg)) (fun r28 => gp (aok S 20 b25 ((x2 * (3 : Int32)) + (2 : Int32))) (lt (up2 I24 b25 ((x2 * (3 : Int32)) + (2 : Int32)).toNatClampNeg r28) (fun I30 => f_X11_prove_38 S R  n I30 a0 x1 (x2 + (1 : Int32))))))))))))))))))))
set_option maxHeartbeats 4000000 in
theorem b_X11_prove_38 {E : Ev} {p : Program} {l : Launch} {e : Env} {s : State} {m : MethodId} {args : Array Value} {below : List Frame} {meth : Method} {c : Code} (C : Cx E RX11 cX11_prove 4 p s m c) (hr : meth.sig.returnType = (some .int)) (hk : meth.locks = false) {S : Sh} {R : Rw} {r : Iw × Int32}  : ∀ (n : Nat) (I : Iw) (a0 : Nat) (x1 : Int32) (x2 : Int32), f_X11_prove_38 S R  n I a0 x1 x2 = some r → Wk E 4 p l e ({ frames := 38, cells := 0, slots := 0, locals := 887 } : Room) s m args below meth c 0 0 (MQ below (Qw E S R r.1 (some (.int r.2))) args s 0 0 (fun q => E.1 ≤ q)) 38 [(0, .ref (E.1 + a0)), (1, .int x1), (2, .int x2)] [] S R I := by
  intro n
  induction n with
  | zero =>
    intro I a0 x1 x2 h
    rw [f_X11_prove_38] at h
    cases h
  | succ n ih =>
    intro I a0 x1 x2 h
    rw [f_X11_prove_38] at h
    refine k_iloadn (pc := 38) C dX11_prove_38 (i := 2) rfl 2 rfl ?_
    refine k_aloadn (pc := 39) C dX11_prove_39 (i := 0) rfl 0 rfl ?_
    obtain ⟨hs130, h⟩ := gp_e h
    have hs13 := sok_e hs130
    refine k_getI (pc := 40) C lkF_RX11_209_11 hs13 ir_11_6 dX11_prove_40 ?_
    refine k_icmp_ge (pc := 43) C dX11_prove_43 (tgt := 104) (by decide) (fun hc14 => ?_) (fun hc14 => ?_)
    · rw [if_pos hc14] at h
      refine k_aloadn (pc := 104) C dX11_prove_104 (i := 0) rfl 0 rfl ?_
      refine k_getI (pc := 105) C lkF_RX11_209_11 hs13 ir_11_6 dX11_prove_105 ?_
      have h := Option.some.inj h
      subst h
      exact k_iret (pc := 108) C hr hk dX11_prove_108
    · rw [if_neg hc14] at h
      refine k_aloadn (pc := 46) C dX11_prove_46 (i := 0) rfl 0 rfl ?_
      obtain ⟨b15, hb15, h⟩ := rl_e h
      refine k_getR (pc := 47) C lkF_RX11_31_11 hs13 ir_11_4 hb15 dX11_prove_47 ?_
      obtain ⟨hs160, h⟩ := gp_e h
      have hs16 := sok_e hs160
      obtain ⟨b17, hb17, h⟩ := rl_e h
      refine k_getR (pc := 50) C lkF_RX11_167_2 hs16 ir_2_10 hb17 dX11_prove_50 ?_
      refine k_iloadn (pc := 53) C dX11_prove_53 (i := 2) rfl 2 rfl ?_
      obtain ⟨ha18, h⟩ := gp_e h
      refine k_iald (pc := 54) C ha18 dX11_prove_54 ?_
      refine k_istoren (pc := 55) C dX11_prove_55 (i := 3) rfl (by decide) (L2 := [(0, .ref (E.1 + a0)), (1, .int x1), (2, .int x2), (3, .int (I b17 x2.toNatClampNeg))]) rfl ?_
      refine k_aloadn (pc := 56) C dX11_prove_56 (i := 0) rfl 0 rfl ?_
      obtain ⟨b19, hb19, h⟩ := rl_e h
      refine k_getR (pc := 57) C lkF_RX11_35_11 hs13 ir_11_5 hb19 dX11_prove_57 ?_
      refine k_iloadn (pc := 60) C dX11_prove_60 (i := 2) rfl 2 rfl ?_
      refine k_iconst (pc := 61) C (v := (3 : Int32)) dX11_prove_61 (by decide) ?_
      refine k_imul (pc := 62) C dX11_prove_62 ?_
      refine k_iloadn (pc := 63) C dX11_prove_63 (i := 3) rfl 3 rfl ?_
      obtain ⟨ha20, h⟩ := gp_e h
      obtain ⟨I21, eI21, h⟩ := lt_e h
      refine k_iast (pc := 64) C ha20 dX11_prove_64 ?_
      rw [← eI21]
      refine k_aloadn (pc := 65) C dX11_prove_65 (i := 0) rfl 0 rfl ?_
      obtain ⟨b22, hb22, h⟩ := rl_e h
      refine k_getR (pc := 66) C lkF_RX11_35_11 hs13 ir_11_5 hb22 dX11_prove_66 ?_
      refine k_iloadn (pc := 69) C dX11_prove_69 (i := 2) rfl 2 rfl ?_
      refine k_iconst (pc := 70) C (v := (3 : Int32)) dX11_prove_70 (by decide) ?_
      refine k_imul (pc := 71) C dX11_prove_71 ?_
      refine k_iconst (pc := 72) C (v := (1 : Int32)) dX11_prove_72 (by decide) ?_
      refine k_iadd (pc := 73) C dX11_prove_73 ?_
      refine k_iloadn (pc := 74) C dX11_prove_74 (i := 1) rfl 1 rfl ?_
      refine k_iloadn (pc := 75) C dX11_prove_75 (i := 2) rfl 2 rfl ?_
      refine k_isub (pc := 76) C dX11_prove_76 ?_
      refine k_iconst (pc := 77) C (v := (1 : Int32)) dX11_prove_77 (by decide) ?_
      refine k_isub (pc := 78) C dX11_prove_78 ?_
      obtain ⟨ha23, h⟩ := gp_e h
      obtain ⟨I24, eI24, h⟩ := lt_e h
      refine k_iast (pc := 79) C ha23 dX11_prove_79 ?_
      rw [← eI24]
      refine k_aloadn (pc := 80) C dX11_prove_80 (i := 0) rfl 0 rfl ?_
      obtain ⟨b25, hb25, h⟩ := rl_e h
      refine k_getR (pc := 81) C lkF_RX11_35_11 hs13 ir_11_5 hb25 dX11_prove_81 ?_
      refine k_iloadn (pc := 84) C dX11_prove_84 (i := 2) rfl 2 rfl ?_
      refine k_iconst (pc := 85) C (v := (3 : Int32)) dX11_prove_85 (by decide) ?_
      refine k_imul (pc := 86) C dX11_prove_86 ?_
      refine k_iconst (pc := 87) C (v := (2 : Int32)) dX11_prove_87 (by decide) ?_
      refine k_iadd (pc := 88) C dX11_prove_88 ?_
      refine k_aloadn (pc := 89) C dX11_prove_89 (i := 0) rfl 0 rfl ?_
      obtain ⟨b26, hb26, h⟩ := rl_e h
      refine k_getR (pc := 90) C lkF_RX11_12_11 hs13 ir_11_0 hb26 dX11_prove_90 ?_
      refine k_iloadn (pc := 93) C dX11_prove_93 (i := 3) rfl 3 rfl ?_
      obtain ⟨hs270, h⟩ := gp_e h
      have hs27 := sok_e hs270
      obtain ⟨r28, hr28, h⟩ := bd_e h
      refine k_V (pc := 94) (st := [.int ((x2 * (3 : Int32)) + (2 : Int32)), .ref (E.1 + b25)]) C (c_X7_fee hr28) lkV_RX11_79 hs27 rfl rfl rfl (Nat.le_of_ble_eq_true rfl) (Nat.le_of_ble_eq_true rfl) (Nat.le_of_ble_eq_true rfl) (Nat.le_of_ble_eq_true rfl) (Nat.le_of_ble_eq_true rfl) dX11_prove_94 ?_
      refine k_nf (cells2 := 0) (slots2 := 0) (st2 := [.int r28, .int ((x2 * (3 : Int32)) + (2 : Int32)), .ref (E.1 + b25)]) rfl rfl rfl ?_
      obtain ⟨ha29, h⟩ := gp_e h
      obtain ⟨I30, eI30, h⟩ := lt_e h
      refine k_iast (pc := 97) C ha29 dX11_prove_97 ?_
      rw [← eI30]
      refine k_iinc (pc := 98) C dX11_prove_98 2 rfl (v := x2 + (1 : Int32)) (by rfl) (by decide) (L2 := [(0, .ref (E.1 + a0)), (1, .int x1), (2, .int (x2 + (1 : Int32))), (3, .int (I b17 x2.toNatClampNeg))]) rfl ?_
      refine k_goto (pc := 101) C dX11_prove_101 (tgt := 38) (by decide) ?_
      refine k_loc (L2 := [(0, .ref (E.1 + a0)), (1, .int x1), (2, .int (x2 + (1 : Int32)))]) [0, 1, 2] rfl ?_
      exact ih _ _ _ _ h
def f_X11_prove (S : Sh) (R : Rw)  (I : Iw) (a0 : Nat) : Option (Iw × Int32) := gp (sok S a0 11 12) (rl (R a0 4) (fun b2 => gp (sok S b2 2 11) (bd (f_X2_study S R I b2) (fun r4 => (if r4.2 = 0 then some (r4.1, (-3 : Int32)) else rl (R a0 4) (fun b6 => gp (sok S b6 2 11) (bd (f_X2_findFirst S R r4.1 b6 (0 : Int32)) (fun r8 => lt (up2 r8.1 a0 6 r8.2) (fun I9 => rl (R a0 0) (fun b10 => gp (sok S b10 7 16) (bd (f_J6_bitCount_0f7a4 S R I9 (I9 b10 6)) (fun r12 => f_X11_prove_38 S R  512 I9 a0 r12 (0 : Int32)))))))))))))
set_option maxHeartbeats 4000000 in
theorem b_X11_prove {E : Ev} {p : Program} {l : Launch} {e : Env} {s : State} {m : MethodId} {args : Array Value} {below : List Frame} {meth : Method} {c : Code} (C : Cx E RX11 cX11_prove 4 p s m c) (hr : meth.sig.returnType = (some .int)) (hk : meth.locks = false) {S : Sh} {R : Rw} {r : Iw × Int32}  : ∀ (I : Iw) (a0 : Nat), f_X11_prove S R   I a0 = some r → Wk E 4 p l e ({ frames := 38, cells := 0, slots := 0, locals := 887 } : Room) s m args below meth c 0 0 (MQ below (Qw E S R r.1 (some (.int r.2))) args s 0 0 (fun q => E.1 ≤ q)) 0 [(0, .ref (E.1 + a0))] [] S R I := by
  intro I a0 h
  rw [f_X11_prove] at h
  refine k_aloadn (pc := 0) C dX11_prove_0 (i := 0) rfl 0 rfl ?_
  obtain ⟨hs10, h⟩ := gp_e h
  have hs1 := sok_e hs10
  obtain ⟨b2, hb2, h⟩ := rl_e h
  refine k_getR (pc := 1) C lkF_RX11_31_11 hs1 ir_11_4 hb2 dX11_prove_1 ?_
  obtain ⟨hs30, h⟩ := gp_e h
  have hs3 := sok_e hs30
  obtain ⟨r4, hr4, h⟩ := bd_e h
  refine k_V (pc := 4) (st := []) C (c_X2_study hr4) lkV_RX11_155 hs3 rfl rfl rfl (Nat.le_of_ble_eq_true rfl) (Nat.le_of_ble_eq_true rfl) (Nat.le_of_ble_eq_true rfl) (Nat.le_of_ble_eq_true rfl) (Nat.le_of_ble_eq_true rfl) dX11_prove_4 ?_
  refine k_nf (cells2 := 0) (slots2 := 0) (st2 := [.int r4.2]) rfl rfl rfl ?_
  refine k_if_ne (pc := 7) C dX11_prove_7 (tgt := 13) (by decide) (fun hc5 => ?_) (fun hc5 => ?_)
  · rw [if_neg hc5] at h
    refine k_aloadn (pc := 13) C dX11_prove_13 (i := 0) rfl 0 rfl ?_
    refine k_aloadn (pc := 14) C dX11_prove_14 (i := 0) rfl 0 rfl ?_
    obtain ⟨b6, hb6, h⟩ := rl_e h
    refine k_getR (pc := 15) C lkF_RX11_31_11 hs1 ir_11_4 hb6 dX11_prove_15 ?_
    refine k_iconst (pc := 18) C (v := (0 : Int32)) dX11_prove_18 (by decide) ?_
    obtain ⟨hs70, h⟩ := gp_e h
    have hs7 := sok_e hs70
    obtain ⟨r8, hr8, h⟩ := bd_e h
    refine k_V (pc := 19) (st := [.ref (E.1 + a0)]) C (c_X2_findFirst hr8) lkV_RX11_161 hs7 rfl rfl rfl (Nat.le_of_ble_eq_true rfl) (Nat.le_of_ble_eq_true rfl) (Nat.le_of_ble_eq_true rfl) (Nat.le_of_ble_eq_true rfl) (Nat.le_of_ble_eq_true rfl) dX11_prove_19 ?_
    refine k_nf (cells2 := 0) (slots2 := 0) (st2 := [.int r8.2, .ref (E.1 + a0)]) rfl rfl rfl ?_
    obtain ⟨I9, eI9, h⟩ := lt_e h
    refine k_putI (pc := 22) C lkP_RX11_209_11 hs1 ir_11_6 dX11_prove_22 ?_
    rw [← eI9]
    refine k_aloadn (pc := 25) C dX11_prove_25 (i := 0) rfl 0 rfl ?_
    obtain ⟨b10, hb10, h⟩ := rl_e h
    refine k_getR (pc := 26) C lkF_RX11_12_11 hs1 ir_11_0 hb10 dX11_prove_26 ?_
    obtain ⟨hs110, h⟩ := gp_e h
    have hs11 := sok_e hs110
    refine k_getI (pc := 29) C lkF_RX11_89_7 hs11 ir_7_6 dX11_prove_29 ?_
    obtain ⟨r12, hr12, h⟩ := bd_e h
    refine k_S (pc := 32) (st := []) C (c_J6_bitCount_0f7a4 hr12) lkS_RX11_194 rfl rfl (Nat.le_of_ble_eq_true rfl) (Nat.le_of_ble_eq_true rfl) (Nat.le_of_ble_eq_true rfl) (Nat.le_of_ble_eq_true rfl) (Nat.le_of_ble_eq_true rfl) dX11_prove_32 ?_
    refine k_nf (cells2 := 0) (slots2 := 0) (st2 := [.int r12]) rfl rfl rfl ?_
    refine k_istoren (pc := 35) C dX11_prove_35 (i := 1) rfl (by decide) (L2 := [(0, .ref (E.1 + a0)), (1, .int r12)]) rfl ?_
    refine k_iconst (pc := 36) C (v := (0 : Int32)) dX11_prove_36 (by decide) ?_
    refine k_istoren (pc := 37) C dX11_prove_37 (i := 2) rfl (by decide) (L2 := [(0, .ref (E.1 + a0)), (1, .int r12), (2, .int (0 : Int32))]) rfl ?_
    exact b_X11_prove_38 C hr hk  _ _ _ _ _ h
  · rw [if_pos hc5] at h
    refine k_bipush (pc := 10) C (v := (-3 : Int32)) dX11_prove_10 (by decide) ?_
    have h := Option.some.inj h
    subst h
    exact k_iret (pc := 12) C hr hk dX11_prove_12
theorem c_X11_prove {E : Ev} {l : Launch} {S : Sh} {R : Rw} {I : Iw} {a0 : Nat} {r : Iw × Int32} (h : f_X11_prove S R I a0 = some r) : Mt E l yX11_prove cX11_prove 4 (some .int) 38 887 [.ref (E.1 + a0)] S R I S R r.1 (some (.int r.2)) 0 0 := mt_of (by decide) (Nat.le_of_ble_eq_true rfl) (fun p e s m args below meth c C hr hk hn => b_X11_prove C hr hk _ _ h)
