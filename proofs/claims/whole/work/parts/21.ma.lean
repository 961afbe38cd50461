/-! X7_placesBut, X7_copyFrom, X8_init, X8_become, X8_has, X8_refusalAs, X8_narrowed, X10_init -/
theorem lkV_RX7_109 : LkV RX7 109 RX7 yX7_fits cX7_fits 4 (some .boolean) 2 := ⟨(t3_in 216 (by decide +kernel) rfl), (t3_in 218 (by decide +kernel) rfl), (t0_in 23 (by decide +kernel) rfl), (t3_in 219 (by decide +kernel) rfl), (t1_in 2 (by decide +kernel) rfl), by decide, by decide +kernel⟩
theorem dX7_placesBut_0 : decode cX7_placesBut 0 = .ok (.iconst 0, 1) := by decide +kernel
theorem dX7_placesBut_1 : decode cX7_placesBut 1 = .ok (.istore_n 2, 1) := by decide +kernel
theorem dX7_placesBut_2 : decode cX7_placesBut 2 = .ok (.iconst 0, 1) := by decide +kernel
theorem dX7_placesBut_3 : decode cX7_placesBut 3 = .ok (.istore_n 3, 1) := by decide +kernel
theorem dX7_placesBut_4 : decode cX7_placesBut 4 = .ok (.iload_n 3, 1) := by decide +kernel
theorem dX7_placesBut_5 : decode cX7_placesBut 5 = .ok (.aload_n 0, 1) := by decide +kernel
theorem dX7_placesBut_6 : decode cX7_placesBut 6 = .ok (.getfield 50, 3) := by decide +kernel
theorem dX7_placesBut_9 : decode cX7_placesBut 9 = .ok (.if_icmp .gt 24, 3) := by decide +kernel
theorem dX7_placesBut_12 : decode cX7_placesBut 12 = .ok (.aload_n 0, 1) := by decide +kernel
theorem dX7_placesBut_13 : decode cX7_placesBut 13 = .ok (.iload_n 3, 1) := by decide +kernel
theorem dX7_placesBut_14 : decode cX7_placesBut 14 = .ok (.iload_n 1, 1) := by decide +kernel
theorem dX7_placesBut_15 : decode cX7_placesBut 15 = .ok (.invokevirtual 109, 3) := by decide +kernel
theorem dX7_placesBut_18 : decode cX7_placesBut 18 = .ok (.ifCond .eq 9, 3) := by decide +kernel
theorem dX7_placesBut_21 : decode cX7_placesBut 21 = .ok (.iload_n 2, 1) := by decide +kernel
theorem dX7_placesBut_22 : decode cX7_placesBut 22 = .ok (.iconst 1, 1) := by decide +kernel
theorem dX7_placesBut_23 : decode cX7_placesBut 23 = .ok (.iload_n 3, 1) := by decide +kernel
theorem dX7_placesBut_24 : decode cX7_placesBut 24 = .ok (.ishl, 1) := by decide +kernel
theorem dX7_placesBut_25 : decode cX7_placesBut 25 = .ok (.ior, 1) := by decide +kernel
theorem dX7_placesBut_26 : decode cX7_placesBut 26 = .ok (.istore_n 2, 1) := by decide +kernel
theorem dX7_placesBut_27 : decode cX7_placesBut 27 = .ok (.iinc 3 1, 3) := by decide +kernel
theorem dX7_placesBut_30 : decode cX7_placesBut 30 = .ok (.goto (-26), 3) := by decide +kernel
theorem dX7_placesBut_33 : decode cX7_placesBut 33 = .ok (.iload_n 2, 1) := by decide +kernel
theorem dX7_placesBut_34 : decode cX7_placesBut 34 = .ok (.ireturn, 1) := by decide +kernel
def f_X7_placesBut_27 (S : Sh) (R : Rw) (I : Iw) (ko4 : Nat → Int32 → Int32 → Int32 → Option (Int32)) (a0 : Nat) (x1 : Int32) (x2 : Int32) (x3 : Int32) : Option (Int32) := ko4 a0 x1 x2 (x3 + (1 : Int32))
set_option maxHeartbeats 4000000 in
theorem b_X7_placesBut_27 {E : Ev} {p : Program} {l : Launch} {e : Env} {s : State} {m : MethodId} {args : Array Value} {below : List Frame} {meth : Method} {c : Code} (C : Cx E RX7 cX7_placesBut 4 p s m c) (hr : meth.sig.returnType = (some .int)) (hk : meth.locks = false) {S : Sh} {R : Rw} {I : Iw} {r : Int32}  {ko4 : Nat → Int32 → Int32 → Int32 → Option (Int32)} (hko4 : ∀ (a0 : Nat) (x1 : Int32) (x2 : Int32) (x3 : Int32), ko4 a0 x1 x2 x3 = some r → Wk E 4 p l e ({ frames := 3, cells := 0, slots := 0, locals := 67 } : Room) s m args below meth c 0 0 (MQ below (Qw E S R I (some (.int r))) args s 0 0 (fun q => E.1 ≤ q)) 4 [(0, .ref (E.1 + a0)), (1, .int x1), (2, .int x2), (3, .int x3)] [] S R I) : ∀ (a0 : Nat) (x1 : Int32) (x2 : Int32) (x3 : Int32), f_X7_placesBut_27 S R I ko4  a0 x1 x2 x3 = some r → Wk E 4 p l e ({ frames := 3, cells := 0, slots := 0, locals := 67 } : Room) s m args below meth c 0 0 (MQ below (Qw E S R I (some (.int r))) args s 0 0 (fun q => E.1 ≤ q)) 27 [(0, .ref (E.1 + a0)), (1, .int x1), (2, .int x2), (3, .int x3)] [] S R I := by
  intro a0 x1 x2 x3 h
  rw [f_X7_placesBut_27] at h
  refine k_iinc (pc := 27) C dX7_placesBut_27 3 rfl (v := x3 + (1 : Int32)) (by rfl) (by decide) (L2 := [(0, .ref (E.1 + a0)), (1, .int x1), (2, .int x2), (3, .int (x3 + (1 : Int32)))]) rfl ?_
  refine k_goto (pc := 30) C dX7_placesBut_30 (tgt := 4) (by decide) ?_
  exact hko4 _ _ _ _ h
def f_X7_placesBut_4 (S : Sh) (R : Rw) (I : Iw)  : Nat → Nat → Int32 → Int32 → Int32 → Option (Int32)
  | 0, _, _, _, _ => none
  | n + 1, a0, x1, x2, x3 => gp (sok S a0 7 16) ((if (I a0 5) < x3 then some x2 else bd (f_X7_fits S R I a0 x3 x1) (fun r3 => (if r3 = 0 then f_X7_placesBut_27 S R I (f_X7_placesBut_4 S R I  n) a0 x1 x2 x3 else f_X7_placesBut_27 S R I (f_X7_placesBut_4 S R I  n) a0 x1 (x2 ||| ((1 : Int32) <<< (x3 &&& 31))) x3))))
set_option maxHeartbeats 4000000 in
theorem b_X7_placesBut_4 {E : Ev} {p : Program} {l : Launch} {e : Env} {s : State} {m : MethodId} {args : Array Value} {below : List Frame} {meth : Method} {c : Code} (C : Cx E RX7 cX7_placesBut 4 p s m c) (hr : meth.sig.returnType = (some .int)) (hk : meth.locks = false) {S : Sh} {R : Rw} {I : Iw} {r : Int32}  : ∀ (n : Nat) (a0 : Nat) (x1 : Int32) (x2 : Int32) (x3 : Int32), f_X7_placesBut_4 S R I  n a0 x1 x2 x3 = some r → Wk E 4 p l e ({ frames := 3, cells := 0, slots := 0, locals := 67 } : Room) s m args below meth c 0 0 (MQ below (Qw E S R I (some (.int r))) args s 0 0 (fun q => E.1 ≤ q)) 4 [(0, .ref (E.1 + a0)), (1, .int x1), (2, .int x2), (3, .int x3)] [] S R I := by
  intro n
  induction n with
  | zero =>
    intro a0 x1 x2 x3 h
    rw [f_X7_placesBut_4] at h
    cases h
  | succ n ih =>
    intro a0 x1 x2 x3 h
    rw [f_X7_placesBut_4] at h
    refine k_iloadn (pc := 4) C dX7_placesBut_4 (i := 3) rfl 3 rfl ?_
    refine k_aloadn (pc := 5) C dX7_placesBut_5 (i := 0) rfl 0 rfl ?_
    obtain ⟨hs10, h⟩ := gp_e h
    have hs1 := sok_e hs10
    refine k_getI (pc := 6) C lkF_RX7_50_7 hs1 ir_7_5 dX7_placesBut_6 ?_
    refine k_icmp_gt (pc := 9) C dX7_placesBut_9 (tgt := 33) (by decide) (fun hc2 => ?_) (fun hc2 => ?_)
    · rw [if_pos hc2] at h
      refine k_iloadn (pc := 33) C dX7_placesBut_33 (i := 2) rfl 2 rfl ?_
      have h := Option.some.inj h
      subst h
      exact k_iret (pc := 34) C hr hk dX7_placesBut_34
    · rw [if_neg hc2] at h
      refine k_aloadn (pc := 12) C dX7_placesBut_12 (i := 0) rfl 0 rfl ?_
      refine k_iloadn (pc := 13) C dX7_placesBut_13 (i := 3) rfl 3 rfl ?_
      refine k_iloadn (pc := 14) C dX7_placesBut_14 (i := 1) rfl 1 rfl ?_
      obtain ⟨r3, hr3, h⟩ := bd_e h
      refine k_V (pc := 15) (st := []) C (c_X7_fits hr3) lkV_RX7_109 hs1 rfl rfl rfl (Nat.le_of_ble_eq_true rfl) (Nat.le_of_ble_eq_true rfl) (Nat.le_of_ble_eq_true rfl) (Nat.le_of_ble_eq_true rfl) (Nat.le_of_ble_eq_true rfl) dX7_placesBut_15 ?_
      refine k_nf (cells2 := 0) (slots2 := 0) (st2 := [.int r3]) rfl rfl rfl ?_
      refine k_if_eq (pc := 18) C dX7_placesBut_18 (tgt := 27) (by decide) (fun hc4 => ?_) (fun hc4 => ?_)
      · rw [if_pos hc4] at h
        exact b_X7_placesBut_27 C hr hk ih _ _ _ _ h
      · rw [if_neg hc4] at h
        refine k_iloadn (pc := 21) C dX7_placesBut_21 (i := 2) rfl 2 rfl ?_
        refine k_iconst (pc := 22) C (v := (1 : Int32)) dX7_placesBut_22 (by decide) ?_
        refine k_iloadn (pc := 23) C dX7_placesBut_23 (i := 3) rfl 3 rfl ?_
        refine k_ishl (pc := 24) C dX7_placesBut_24 ?_
        refine k_ior (pc := 25) C dX7_placesBut_25 ?_
        refine k_istoren (pc := 26) C dX7_placesBut_26 (i := 2) rfl (by decide) (L2 := [(0, .ref (E.1 + a0)), (1, .int x1), (2, .int (x2 ||| ((1 : Int32) <<< (x3 &&& 31)))), (3, .int x3)]) rfl ?_
        exact b_X7_placesBut_27 C hr hk ih _ _ _ _ h
def f_X7_placesBut (S : Sh) (R : Rw) (I : Iw)  (a0 : Nat) (x1 : Int32) : Option (Int32) := f_X7_placesBut_4 S R I  512 a0 x1 (0 : Int32) (0 : Int32)
set_option maxHeartbeats 4000000 in
theorem b_X7_placesBut {E : Ev} {p : Program} {l : Launch} {e : Env} {s : State} {m : MethodId} {args : Array Value} {below : List Frame} {meth : Method} {c : Code} (C : Cx E RX7 cX7_placesBut 4 p s m c) (hr : meth.sig.returnType = (some .int)) (hk : meth.locks = false) {S : Sh} {R : Rw} {I : Iw} {r : Int32}  : ∀ (a0 : Nat) (x1 : Int32), f_X7_placesBut S R I   a0 x1 = some r → Wk E 4 p l e ({ frames := 3, cells := 0, slots := 0, locals := 67 } : Room) s m args below meth c 0 0 (MQ below (Qw E S R I (some (.int r))) args s 0 0 (fun q => E.1 ≤ q)) 0 [(0, .ref (E.1 + a0)), (1, .int x1)] [] S R I := by
  intro a0 x1 h
  rw [f_X7_placesBut] at h
  refine k_iconst (pc := 0) C (v := (0 : Int32)) dX7_placesBut_0 (by decide) ?_
  refine k_istoren (pc := 1) C dX7_placesBut_1 (i := 2) rfl (by decide) (L2 := [(0, .ref (E.1 + a0)), (1, .int x1), (2, .int (0 : Int32))]) rfl ?_
  refine k_iconst (pc := 2) C (v := (0 : Int32)) dX7_placesBut_2 (by decide) ?_
  refine k_istoren (pc := 3) C dX7_placesBut_3 (i := 3) rfl (by decide) (L2 := [(0, .ref (E.1 + a0)), (1, .int x1), (2, .int (0 : Int32)), (3, .int (0 : Int32))]) rfl ?_
  exact b_X7_placesBut_4 C hr hk  _ _ _ _ _ h
theorem c_X7_placesBut {E : Ev} {l : Launch} {S : Sh} {R : Rw} {I : Iw} {a0 : Nat} {x1 : Int32} {r : Int32} (h : f_X7_placesBut S R I a0 x1 = some r) : Mt E l yX7_placesBut cX7_placesBut 4 (some .int) 3 67 [.ref (E.1 + a0), .int x1] S R I S R I (some (.int r)) 0 0 := mt_of (by decide) (Nat.le_of_ble_eq_true rfl) (fun p e s m args below meth c C hr hk hn => b_X7_placesBut C hr hk _ _ h)
theorem lkP_RX7_106_7 : LkP RX7 106 7 10 .int := ⟨RX7, TX7, 16, "UnlikeNeighbours$Shed", fc7, by decide, (t1_in 96 (by decide +kernel) rfl), Or.inl rfl, rfl, by decide +kernel⟩
theorem lkF_RX7_47_7 : LkF RX7 47 7 15 := ⟨RX7, TX7, 16, "UnlikeNeighbours$Shed", fc7, by decide, (t1_in 103 (by decide +kernel) rfl), Or.inl rfl⟩
theorem lkV_RX7_121 : LkV RX7 121 RX5 yX5_copyFrom cX5_copyFrom 2 none 1 := ⟨(t5_in 57 (by decide +kernel) rfl), (t3_in 31 (by decide +kernel) rfl), (t3_in 32 (by decide +kernel) rfl), (t3_in 33 (by decide +kernel) rfl), (t1_in 3 (by decide +kernel) rfl), by decide, by decide +kernel⟩
theorem dX7_copyFrom_0 : decode cX7_copyFrom 0 = .ok (.aload_n 1, 1) := by decide +kernel
theorem dX7_copyFrom_1 : decode cX7_copyFrom 1 = .ok (.getfield 9, 3) := by decide +kernel
theorem dX7_copyFrom_4 : decode cX7_copyFrom 4 = .ok (.iconst 0, 1) := by decide +kernel
theorem dX7_copyFrom_5 : decode cX7_copyFrom 5 = .ok (.aload_n 0, 1) := by decide +kernel
theorem dX7_copyFrom_6 : decode cX7_copyFrom 6 = .ok (.getfield 9, 3) := by decide +kernel
theorem dX7_copyFrom_9 : decode cX7_copyFrom 9 = .ok (.iconst 0, 1) := by decide +kernel
theorem dX7_copyFrom_10 : decode cX7_copyFrom 10 = .ok (.bipush 9, 2) := by decide +kernel
theorem dX7_copyFrom_12 : decode cX7_copyFrom 12 = .ok (.invokestatic 115, 3) := by decide +kernel
theorem dX7_copyFrom_15 : decode cX7_copyFrom 15 = .ok (.aload_n 1, 1) := by decide +kernel
theorem dX7_copyFrom_16 : decode cX7_copyFrom 16 = .ok (.getfield 15, 3) := by decide +kernel
theorem dX7_copyFrom_19 : decode cX7_copyFrom 19 = .ok (.iconst 0, 1) := by decide +kernel
theorem dX7_copyFrom_20 : decode cX7_copyFrom 20 = .ok (.aload_n 0, 1) := by decide +kernel
theorem dX7_copyFrom_21 : decode cX7_copyFrom 21 = .ok (.getfield 15, 3) := by decide +kernel
theorem dX7_copyFrom_24 : decode cX7_copyFrom 24 = .ok (.iconst 0, 1) := by decide +kernel
theorem dX7_copyFrom_25 : decode cX7_copyFrom 25 = .ok (.bipush 9, 2) := by decide +kernel
theorem dX7_copyFrom_27 : decode cX7_copyFrom 27 = .ok (.invokestatic 115, 3) := by decide +kernel
theorem dX7_copyFrom_30 : decode cX7_copyFrom 30 = .ok (.aload_n 1, 1) := by decide +kernel
theorem dX7_copyFrom_31 : decode cX7_copyFrom 31 = .ok (.getfield 18, 3) := by decide +kernel
theorem dX7_copyFrom_34 : decode cX7_copyFrom 34 = .ok (.iconst 0, 1) := by decide +kernel
theorem dX7_copyFrom_35 : decode cX7_copyFrom 35 = .ok (.aload_n 0, 1) := by decide +kernel
theorem dX7_copyFrom_36 : decode cX7_copyFrom 36 = .ok (.getfield 18, 3) := by decide +kernel
theorem dX7_copyFrom_39 : decode cX7_copyFrom 39 = .ok (.iconst 0, 1) := by decide +kernel
theorem dX7_copyFrom_40 : decode cX7_copyFrom 40 = .ok (.bipush 9, 2) := by decide +kernel
theorem dX7_copyFrom_42 : decode cX7_copyFrom 42 = .ok (.invokestatic 115, 3) := by decide +kernel
theorem dX7_copyFrom_45 : decode cX7_copyFrom 45 = .ok (.aload_n 1, 1) := by decide +kernel
theorem dX7_copyFrom_46 : decode cX7_copyFrom 46 = .ok (.getfield 21, 3) := by decide +kernel
theorem dX7_copyFrom_49 : decode cX7_copyFrom 49 = .ok (.iconst 0, 1) := by decide +kernel
theorem dX7_copyFrom_50 : decode cX7_copyFrom 50 = .ok (.aload_n 0, 1) := by decide +kernel
theorem dX7_copyFrom_51 : decode cX7_copyFrom 51 = .ok (.getfield 21, 3) := by decide +kernel
theorem dX7_copyFrom_54 : decode cX7_copyFrom 54 = .ok (.iconst 0, 1) := by decide +kernel
theorem dX7_copyFrom_55 : decode cX7_copyFrom 55 = .ok (.bipush 9, 2) := by decide +kernel
theorem dX7_copyFrom_57 : decode cX7_copyFrom 57 = .ok (.invokestatic 115, 3) := by decide +kernel
theorem dX7_copyFrom_60 : decode cX7_copyFrom 60 = .ok (.aload_n 1, 1) := by decide +kernel
theorem dX7_copyFrom_61 : decode cX7_copyFrom 61 = .ok (.getfield 24, 3) := by decide +kernel
theorem dX7_copyFrom_64 : decode cX7_copyFrom 64 = .ok (.iconst 0, 1) := by decide +kernel
theorem dX7_copyFrom_65 : decode cX7_copyFrom 65 = .ok (.aload_n 0, 1) := by decide +kernel
theorem dX7_copyFrom_66 : decode cX7_copyFrom 66 = .ok (.getfield 24, 3) := by decide +kernel
theorem dX7_copyFrom_69 : decode cX7_copyFrom 69 = .ok (.iconst 0, 1) := by decide +kernel
theorem dX7_copyFrom_70 : decode cX7_copyFrom 70 = .ok (.bipush 9, 2) := by decide +kernel
theorem dX7_copyFrom_72 : decode cX7_copyFrom 72 = .ok (.invokestatic 115, 3) := by decide +kernel
theorem dX7_copyFrom_75 : decode cX7_copyFrom 75 = .ok (.aload_n 1, 1) := by decide +kernel
theorem dX7_copyFrom_76 : decode cX7_copyFrom 76 = .ok (.getfield 27, 3) := by decide +kernel
theorem dX7_copyFrom_79 : decode cX7_copyFrom 79 = .ok (.iconst 0, 1) := by decide +kernel
theorem dX7_copyFrom_80 : decode cX7_copyFrom 80 = .ok (.aload_n 0, 1) := by decide +kernel
theorem dX7_copyFrom_81 : decode cX7_copyFrom 81 = .ok (.getfield 27, 3) := by decide +kernel
theorem dX7_copyFrom_84 : decode cX7_copyFrom 84 = .ok (.iconst 0, 1) := by decide +kernel
theorem dX7_copyFrom_85 : decode cX7_copyFrom 85 = .ok (.bipush 9, 2) := by decide +kernel
theorem dX7_copyFrom_87 : decode cX7_copyFrom 87 = .ok (.invokestatic 115, 3) := by decide +kernel
theorem dX7_copyFrom_90 : decode cX7_copyFrom 90 = .ok (.aload_n 1, 1) := by decide +kernel
theorem dX7_copyFrom_91 : decode cX7_copyFrom 91 = .ok (.getfield 41, 3) := by decide +kernel
theorem dX7_copyFrom_94 : decode cX7_copyFrom 94 = .ok (.iconst 0, 1) := by decide +kernel
theorem dX7_copyFrom_95 : decode cX7_copyFrom 95 = .ok (.aload_n 0, 1) := by decide +kernel
theorem dX7_copyFrom_96 : decode cX7_copyFrom 96 = .ok (.getfield 41, 3) := by decide +kernel
theorem dX7_copyFrom_99 : decode cX7_copyFrom 99 = .ok (.iconst 0, 1) := by decide +kernel
theorem dX7_copyFrom_100 : decode cX7_copyFrom 100 = .ok (.bipush 6, 2) := by decide +kernel
theorem dX7_copyFrom_102 : decode cX7_copyFrom 102 = .ok (.invokestatic 115, 3) := by decide +kernel
theorem dX7_copyFrom_105 : decode cX7_copyFrom 105 = .ok (.aload_n 1, 1) := by decide +kernel
theorem dX7_copyFrom_106 : decode cX7_copyFrom 106 = .ok (.getfield 44, 3) := by decide +kernel
theorem dX7_copyFrom_109 : decode cX7_copyFrom 109 = .ok (.iconst 0, 1) := by decide +kernel
theorem dX7_copyFrom_110 : decode cX7_copyFrom 110 = .ok (.aload_n 0, 1) := by decide +kernel
theorem dX7_copyFrom_111 : decode cX7_copyFrom 111 = .ok (.getfield 44, 3) := by decide +kernel
theorem dX7_copyFrom_114 : decode cX7_copyFrom 114 = .ok (.iconst 0, 1) := by decide +kernel
theorem dX7_copyFrom_115 : decode cX7_copyFrom 115 = .ok (.bipush 6, 2) := by decide +kernel
theorem dX7_copyFrom_117 : decode cX7_copyFrom 117 = .ok (.invokestatic 115, 3) := by decide +kernel
theorem dX7_copyFrom_120 : decode cX7_copyFrom 120 = .ok (.aload_n 0, 1) := by decide +kernel
theorem dX7_copyFrom_121 : decode cX7_copyFrom 121 = .ok (.aload_n 1, 1) := by decide +kernel
theorem dX7_copyFrom_122 : decode cX7_copyFrom 122 = .ok (.getfield 50, 3) := by decide +kernel
theorem dX7_copyFrom_125 : decode cX7_copyFrom 125 = .ok (.putfield 50, 3) := by decide +kernel
theorem dX7_copyFrom_128 : decode cX7_copyFrom 128 = .ok (.aload_n 0, 1) := by decide +kernel
theorem dX7_copyFrom_129 : decode cX7_copyFrom 129 = .ok (.aload_n 1, 1) := by decide +kernel
theorem dX7_copyFrom_130 : decode cX7_copyFrom 130 = .ok (.getfield 53, 3) := by decide +kernel
theorem dX7_copyFrom_133 : decode cX7_copyFrom 133 = .ok (.putfield 53, 3) := by decide +kernel
theorem dX7_copyFrom_136 : decode cX7_copyFrom 136 = .ok (.aload_n 0, 1) := by decide +kernel
theorem dX7_copyFrom_137 : decode cX7_copyFrom 137 = .ok (.aload_n 1, 1) := by decide +kernel
theorem dX7_copyFrom_138 : decode cX7_copyFrom 138 = .ok (.getfield 82, 3) := by decide +kernel
theorem dX7_copyFrom_141 : decode cX7_copyFrom 141 = .ok (.putfield 82, 3) := by decide +kernel
theorem dX7_copyFrom_144 : decode cX7_copyFrom 144 = .ok (.aload_n 0, 1) := by decide +kernel
theorem dX7_copyFrom_145 : decode cX7_copyFrom 145 = .ok (.aload_n 1, 1) := by decide +kernel
theorem dX7_copyFrom_146 : decode cX7_copyFrom 146 = .ok (.getfield 30, 3) := by decide +kernel
theorem dX7_copyFrom_149 : decode cX7_copyFrom 149 = .ok (.putfield 30, 3) := by decide +kernel
theorem dX7_copyFrom_152 : decode cX7_copyFrom 152 = .ok (.aload_n 0, 1) := by decide +kernel
theorem dX7_copyFrom_153 : decode cX7_copyFrom 153 = .ok (.aload_n 1, 1) := by decide +kernel
theorem dX7_copyFrom_154 : decode cX7_copyFrom 154 = .ok (.getfield 106, 3) := by decide +kernel
theorem dX7_copyFrom_157 : decode cX7_copyFrom 157 = .ok (.putfield 106, 3) := by decide +kernel
theorem dX7_copyFrom_160 : decode cX7_copyFrom 160 = .ok (.aload_n 0, 1) := by decide +kernel
theorem dX7_copyFrom_161 : decode cX7_copyFrom 161 = .ok (.aload_n 1, 1) := by decide +kernel
theorem dX7_copyFrom_162 : decode cX7_copyFrom 162 = .ok (.getfield 59, 3) := by decide +kernel
theorem dX7_copyFrom_165 : decode cX7_copyFrom 165 = .ok (.putfield 59, 3) := by decide +kernel
theorem dX7_copyFrom_168 : decode cX7_copyFrom 168 = .ok (.aload_n 0, 1) := by decide +kernel
theorem dX7_copyFrom_169 : decode cX7_copyFrom 169 = .ok (.aload_n 1, 1) := by decide +kernel
theorem dX7_copyFrom_170 : decode cX7_copyFrom 170 = .ok (.getfield 47, 3) := by decide +kernel
theorem dX7_copyFrom_173 : decode cX7_copyFrom 173 = .ok (.putfield 47, 3) := by decide +kernel
theorem dX7_copyFrom_176 : decode cX7_copyFrom 176 = .ok (.aload_n 0, 1) := by decide +kernel
theorem dX7_copyFrom_177 : decode cX7_copyFrom 177 = .ok (.getfield 37, 3) := by decide +kernel
theorem dX7_copyFrom_180 : decode cX7_copyFrom 180 = .ok (.aload_n 1, 1) := by decide +kernel
theorem dX7_copyFrom_181 : decode cX7_copyFrom 181 = .ok (.getfield 37, 3) := by decide +kernel
theorem dX7_copyFrom_184 : decode cX7_copyFrom 184 = .ok (.invokevirtual 121, 3) := by decide +kernel
theorem dX7_copyFrom_187 : decode cX7_copyFrom 187 = .ok (.return_, 1) := by decide +kernel
def f_X7_copyFrom (S : Sh) (R : Rw)  (I : Iw) (a0 : Nat) (a1 : Nat) : Option (Iw) := gp (sok S a1 7 16) (rl (R a1 0) (fun b2 => gp (sok S a0 7 16) (rl (R a0 0) (fun b4 => gp (cok S 20 b2 b4 (0 : Int32) (0 : Int32) (9 : Int32)) (lt (cpy I b2 (0 : Int32).toNatClampNeg b4 (0 : Int32).toNatClampNeg (9 : Int32).toNatClampNeg) (fun I6 => rl (R a1 1) (fun b7 => rl (R a0 1) (fun b8 => gp (cok S 20 b7 b8 (0 : Int32) (0 : Int32) (9 : Int32)) (lt (cpy I6 b7 (0 : Int32).toNatClampNeg b8 (0 : Int32).toNatClampNeg (9 : Int32).toNatClampNeg) (fun I10 => rl (R a1 2) (fun b11 => rl (R a0 2) (fun b12 => gp (cok S 20 b11 b12 (0 : Int32) (0 : Int32) (9 : Int32)) (lt (cpy I10 b11 (0 : Int32).toNatClampNeg b12 (0 : Int32).toNatClampNeg (9 : Int32).toNatClampNeg) (fun I14 => rl (R a1 3) (fun b15 => rl (R a0 3) (fun b16 => gp (cok S 20 b15 b16 (0 : Int32) (0 : Int32) (9 : Int32)) (lt (cpy I14 b15 (0 : Int32).toNatClampNeg b16 (0 : Int32).toNatClampNeg (9 : Int32).toNatClampNeg) (fun I18 => rl (R a1 4) (fun b19 => rl (R a0 4) (fun b20 => gp (cok S 20 b19 b20 (0 : Int32) (0 : Int32) (9 : Int32)) (lt (cpy I18 b19 (0 : Int32).toNatClampNeg b20 (0 : Int32).toNatClampNeg (9 : Int32).toNatClampNeg) (fun I22 => rl (R a1 7) (fun b23 => rl (R a0 7) (fun b24 => gp (cok S 20 b23 b24 (0 : Int32) (0 : Int32) (9 : Int32)) (lt (cpy I22 b23 (0 : Int32).toNatClampNeg b24 (0 : Int32).toNatClampNeg (9 : Int32).toNatClampNeg) (fun I26 => rl (R a1 12) (fun b27 => rl (R a0 12) (fun b28 => gp (cok S 20 b27 b28 (0 : Int32) (0 : Int32) (6 : Int32)) (lt (cpy I26 b27 (0 : Int32).toNatClampNeg b28 (0 : Int32).toNatClampNeg (6 : Int32).toNatClampNeg) (fun I30 => rl (R a1 13) (fun b31 => rl (R a0 13) (fun b32 => gp (cok S 20 b31 b32 (0 : Int32) (0 : Int32) (6 : Int32)) (lt (cpy I30 b31 (0 : Int32).toNatClampNeg b32 (0 : Int32).toNatClampNeg (6 : Int32).toNatClampNeg) (fun I34 => lt (up2 I34 a0 5 (I34 a1 5)) (fun I35 => lt (up2 I35 a0 6 (I35 a1 6)) (fun I36 => lt (up2 I36 a0 8 (I36 a1 8)) (fun I37 => lt (up2 I37 a0 9 (I37 a1 9)) (fun I38 => lt (up2 I38 a0 10 (I38 a1 10)) (fun I39 => lt (up2 I39 a0 14 (I39 a1 14)) (fun I40 => lt (up2 I40 a0 15 (I40 a1 15)) (fun I41 => rl (R a0 11) (fun b42 => rl (R a1 11) (fun b43 => gp (sok S b42 5 8) (bd (f_X5_copyFrom S R I41 b42 b43) (fun r45 => some r45)))))))))))))))))))))))))))))))))))))))))))))
set_option maxHeartbeats 4000000 in
theorem b_X7_copyFrom {E : Ev} {p : Program} {l : Launch} {e : Env} {s : State} {m : MethodId} {args : Array Value} {below : List Frame} {meth : Method} {c : Code} (C : Cx E RX7 cX7_copyFrom 2 p s m c) (hr : meth.sig.returnType = none) (hk : meth.locks = false) {S : Sh} {R : Rw} {r : Iw}  : ∀ (I : Iw) (a0 : Nat) (a1 : Nat), f_X7_copyFrom S R   I a0 a1 = some r → Wk E 2 p l e ({ frames := 2, cells := 0, slots := 0, locals := 81 } : Room) s m args below meth c 0 0 (MQ below (Qw E S R r none) args s 0 0 (fun q => E.1 ≤ q)) 0 [(0, .ref (E.1 + a0)), (1, .ref (E.1 + a1))] [] S R I := by
  intro I a0 a1 h
  rw [f_X7_copyFrom] at h
  refine k_aloadn (pc := 0) C dX7_copyFrom_0 (i := 1) rfl 1 rfl ?_
  obtain ⟨hs10, h⟩ := gp_e h
  have hs1 := sok_e hs10
  obtain ⟨b2, hb2, h⟩ := rl_e h
  refine k_getR (pc := 1) C lkF_RX7_9_7 hs1 ir_7_0 hb2 dX7_copyFrom_1 ?_
  refine k_iconst (pc := 4) C (v := (0 : Int32)) dX7_copyFrom_4 (by decide) ?_
  refine k_aloadn (pc := 5) C dX7_copyFrom_5 (i := 0) rfl 0 rfl ?_
  obtain ⟨hs30, h⟩ := gp_e h
  have hs3 := sok_e hs30
  obtain ⟨b4, hb4, h⟩ := rl_e h
  refine k_getR (pc := 6) C lkF_RX7_9_7 hs3 ir_7_0 hb4 dX7_copyFrom_6 ?_
  refine k_iconst (pc := 9) C (v := (0 : Int32)) dX7_copyFrom_9 (by decide) ?_
  refine k_bipush (pc := 10) C (v := (9 : Int32)) dX7_copyFrom_10 (by decide) ?_
  obtain ⟨ha5, h⟩ := gp_e h
  obtain ⟨I6, eI6, h⟩ := lt_e h
  refine k_copy (pc := 12) C (t5_in 56 (by decide +kernel) rfl) (t3_in 36 (by decide +kernel) rfl) (t3_in 35 (by decide +kernel) rfl) (t1_in 13 (by decide +kernel) rfl) rfl ha5 (Nat.le_of_ble_eq_true rfl) (Nat.le_of_ble_eq_true rfl) (Nat.le_of_ble_eq_true rfl) dX7_copyFrom_12 ?_
  rw [← eI6]
  refine k_aloadn (pc := 15) C dX7_copyFrom_15 (i := 1) rfl 1 rfl ?_
  obtain ⟨b7, hb7, h⟩ := rl_e h
  refine k_getR (pc := 16) C lkF_RX7_15_7 hs1 ir_7_1 hb7 dX7_copyFrom_16 ?_
  refine k_iconst (pc := 19) C (v := (0 : Int32)) dX7_copyFrom_19 (by decide) ?_
  refine k_aloadn (pc := 20) C dX7_copyFrom_20 (i := 0) rfl 0 rfl ?_
  obtain ⟨b8, hb8, h⟩ := rl_e h
  refine k_getR (pc := 21) C lkF_RX7_15_7 hs3 ir_7_1 hb8 dX7_copyFrom_21 ?_
  refine k_iconst (pc := 24) C (v := (0 : Int32)) dX7_copyFrom_24 (by decide) ?_
  refine k_bipush (pc := 25) C (v := (9 : Int32)) dX7_copyFrom_25 (by decide) ?_
  obtain ⟨ha9, h⟩ := gp_e h
  obtain ⟨I10, eI10, h⟩ := lt_e h
  refine k_copy (pc := 27) C (t5_in 56 (by decide +kernel) rfl) (t3_in 36 (by decide +kernel) rfl) (t3_in 35 (by decide +kernel) rfl) (t1_in 13 (by decide +kernel) rfl) rfl ha9 (Nat.le_of_ble_eq_true rfl) (Nat.le_of_ble_eq_true rfl) (Nat.le_of_ble_eq_true rfl) dX7_copyFrom_27 ?_
  rw [← eI10]
  refine k_aloadn (pc := 30) C dX7_copyFrom_30 (i := 1) rfl 1 rfl ?_
  obtain ⟨b11, hb11, h⟩ := rl_e h
  refine k_getR (pc := 31) C lkF_RX7_18_7 hs1 ir_7_2 hb11 dX7_copyFrom_31 ?_
  refine k_iconst (pc := 34) C (v := (0 : Int32)) dX7_copyFrom_34 (by decide) ?_
  refine k_aloadn (pc := 35) C dX7_copyFrom_35 (i := 0) rfl 0 rfl ?_
  obtain ⟨b12, hb12, h⟩ := rl_e h
  refine k_getR (pc := 36) C lkF_RX7_18_7 hs3 ir_7_2 hb12 dX7_copyFrom_36 ?_
  refine k_iconst (pc := 39) C (v := (0 : Int32)) dX7_copyFrom_39 (by decide) ?_
  refine k_bipush (pc := 40) C (v := (9 : Int32)) dX7_copyFrom_40 (by decide) ?_
  obtain ⟨ha13, h⟩ := gp_e h
  obtain ⟨I14, eI14, h⟩ := lt_e h
  refine k_copy (pc := 42) C (t5_in 56 (by decide +kernel) rfl) (t3_in 36 (by decide +kernel) rfl) (t3_in 35 (by decide +kernel) rfl) (t1_in 13 (by decide +kernel) rfl) rfl ha13 (Nat.le_of_ble_eq_true rfl) (Nat.le_of_ble_eq_true rfl) (Nat.le_of_ble_eq_true rfl) dX7_copyFrom_42 ?_
  rw [← eI14]
  refine k_aloadn (pc := 45) C dX7_copyFrom_45 (i := 1) rfl 1 rfl ?_
  obtain ⟨b15, hb15, h⟩ := rl_e h
  refine k_getR (pc := 46) C lkF_RX7_21_7 hs1 ir_7_3 hb15 dX7_copyFrom_46 ?_
  refine k_iconst (pc := 49) C (v := (0 : Int32)) dX7_copyFrom_49 (by decide) ?_
  refine k_aloadn (pc := 50) C dX7_copyFrom_50 (i := 0) rfl 0 rfl ?_
  obtain ⟨b16, hb16, h⟩ := rl_e h
  refine k_getR (pc := 51) C lkF_RX7_21_7 hs3 ir_7_3 hb16 dX7_copyFrom_51 ?_
  refine k_iconst (pc := 54) C (v := (0 : Int32)) dX7_copyFrom_54 (by decide) ?_
  refine k_bipush (pc := 55) C (v := (9 : Int32)) dX7_copyFrom_55 (by decide) ?_
  obtain ⟨ha17, h⟩ := gp_e h
  obtain ⟨I18, eI18, h⟩ := lt_e h
  refine k_copy (pc := 57) C (t5_in 56 (by decide +kernel) rfl) (t3_in 36 (by decide +kernel) rfl) (t3_in 35 (by decide +kernel) rfl) (t1_in 13 (by decide +kernel) rfl) rfl ha17 (Nat.le_of_ble_eq_true rfl) (Nat.le_of_ble_eq_true rfl) (Nat.le_of_ble_eq_true rfl) dX7_copyFrom_57 ?_
  rw [← eI18]
  refine k_aloadn (pc := 60) C dX7_copyFrom_60 (i := 1) rfl 1 rfl ?_
  obtain ⟨b19, hb19, h⟩ := rl_e h
  refine k_getR (pc := 61) C lkF_RX7_24_7 hs1 ir_7_4 hb19 dX7_copyFrom_61 ?_
  refine k_iconst (pc := 64) C (v := (0 : Int32)) dX7_copyFrom_64 (by decide) ?_
  refine k_aloadn (pc := 65) C dX7_copyFrom_65 (i := 0) rfl 0 rfl ?_
  obtain ⟨b20, hb20, h⟩ := rl_e h
  refine k_getR (pc := 66) C lkF_RX7_24_7 hs3 ir_7_4 hb20 dX7_copyFrom_66 ?_
  refine k_iconst (pc := 69) C (v := (0 : Int32)) dX7_copyFrom_69 (by decide) ?_
  refine k_bipush (pc := 70) C (v := (9 : Int32)) dX7_copyFrom_70 (by decide) ?_
  obtain ⟨ha21, h⟩ := gp_e h
  obtain ⟨I22, eI22, h⟩ := lt_e h
  refine k_copy (pc := 72) C (t5_in 56 (by decide +kernel) rfl) (t3_in 36 (by decide +kernel) rfl) (t3_in 35 (by decide +kernel) rfl) (t1_in 13 (by decide +kernel) rfl) rfl ha21 (Nat.le_of_ble_eq_true rfl) (Nat.le_of_ble_eq_true rfl) (Nat.le_of_ble_eq_true rfl) dX7_copyFrom_72 ?_
  rw [← eI22]
  refine k_aloadn (pc := 75) C dX7_copyFrom_75 (i := 1) rfl 1 rfl ?_
  obtain ⟨b23, hb23, h⟩ := rl_e h
  refine k_getR (pc := 76) C lkF_RX7_27_7 hs1 ir_7_7 hb23 dX7_copyFrom_76 ?_
  refine k_iconst (pc := 79) C (v := (0 : Int32)) dX7_copyFrom_79 (by decide) ?_
  refine k_aloadn (pc := 80) C dX7_copyFrom_80 (i := 0) rfl 0 rfl ?_
  obtain ⟨b24, hb24, h⟩ := rl_e h
  refine k_getR (pc := 81) C lkF_RX7_27_7 hs3 ir_7_7 hb24 dX7_copyFrom_81 ?_
  refine k_iconst (pc := 84) C (v := (0 : Int32)) dX7_copyFrom_84 (by decide) ?_
  refine k_bipush (pc := 85) C (v := (9 : Int32)) dX7_copyFrom_85 (by decide) ?_
  obtain ⟨ha25, h⟩ := gp_e h
  obtain ⟨I26, eI26, h⟩ := lt_e h
  refine k_copy (pc := 87) C (t5_in 56 (by decide +kernel) rfl) (t3_in 36 (by decide +kernel) rfl) (t3_in 35 (by decide +kernel) rfl) (t1_in 13 (by decide +kernel) rfl) rfl ha25 (Nat.le_of_ble_eq_true rfl) (Nat.le_of_ble_eq_true rfl) (Nat.le_of_ble_eq_true rfl) dX7_copyFrom_87 ?_
  rw [← eI26]
  refine k_aloadn (pc := 90) C dX7_copyFrom_90 (i := 1) rfl 1 rfl ?_
  obtain ⟨b27, hb27, h⟩ := rl_e h
  refine k_getR (pc := 91) C lkF_RX7_41_7 hs1 ir_7_12 hb27 dX7_copyFrom_91 ?_
  refine k_iconst (pc := 94) C (v := (0 : Int32)) dX7_copyFrom_94 (by decide) ?_
  refine k_aloadn (pc := 95) C dX7_copyFrom_95 (i := 0) rfl 0 rfl ?_
  obtain ⟨b28, hb28, h⟩ := rl_e h
  refine k_getR (pc := 96) C lkF_RX7_41_7 hs3 ir_7_12 hb28 dX7_copyFrom_96 ?_
  refine k_iconst (pc := 99) C (v := (0 : Int32)) dX7_copyFrom_99 (by decide) ?_
  refine k_bipush (pc := 100) C (v := (6 : Int32)) dX7_copyFrom_100 (by decide) ?_
  obtain ⟨ha29, h⟩ := gp_e h
  obtain ⟨I30, eI30, h⟩ := lt_e h
  refine k_copy (pc := 102) C (t5_in 56 (by decide +kernel) rfl) (t3_in 36 (by decide +kernel) rfl) (t3_in 35 (by decide +kernel) rfl) (t1_in 13 (by decide +kernel) rfl) rfl ha29 (Nat.le_of_ble_eq_true rfl) (Nat.le_of_ble_eq_true rfl) (Nat.le_of_ble_eq_true rfl) dX7_copyFrom_102 ?_
  rw [← eI30]
  refine k_aloadn (pc := 105) C dX7_copyFrom_105 (i := 1) rfl 1 rfl ?_
  obtain ⟨b31, hb31, h⟩ := rl_e h
  refine k_getR (pc := 106) C lkF_RX7_44_7 hs1 ir_7_13 hb31 dX7_copyFrom_106 ?_
  refine k_iconst (pc := 109) C (v := (0 : Int32)) dX7_copyFrom_109 (by decide) ?_
  refine k_aloadn (pc := 110) C dX7_copyFrom_110 (i := 0) rfl 0 rfl ?_
  obtain ⟨b32, hb32, h⟩ := rl_e h
  refine k_getR (pc := 111) C lkF_RX7_44_7 hs3 ir_7_13 hb32 dX7_copyFrom_111 ?_
  refine k_iconst (pc := 114) C (v := (0 : Int32)) dX7_copyFrom_114 (by decide) ?_
  refine k_bipush (pc := 115) C (v := (6 : Int32)) dX7_copyFrom_115 (by decide) ?_
  obtain ⟨ha33, h⟩ := gp_e h
  obtain ⟨I34, eI34, h⟩ := lt_e h
  refine k_copy (pc := 117) C (t5_in 56 (by decide +kernel) rfl) (t3_in 36 (by decide +kernel) rfl) (t3_in 35 (by decide +kernel) rfl) (t1_in 13 (by decide +kernel) rfl) rfl ha33 (Nat.le_of_ble_eq_true rfl) (Nat.le_of_ble_eq_true rfl) (Nat.le_of_ble_eq_true rfl) dX7_copyFrom_117 ?_
  rw [← eI34]
  refine k_aloadn (pc := 120) C dX7_copyFrom_120 (i := 0) rfl 0 rfl ?_
  refine k_aloadn (pc := 121) C dX7_copyFrom_121 (i := 1) rfl 1 rfl ?_
  refine k_getI (pc := 122) C lkF_RX7_50_7 hs1 ir_7_5 dX7_copyFrom_122 ?_
  obtain ⟨I35, eI35, h⟩ := lt_e h
  refine k_putI (pc := 125) C lkP_RX7_50_7 hs3 ir_7_5 dX7_copyFrom_125 ?_
  rw [← eI35]
  refine k_aloadn (pc := 128) C dX7_copyFrom_128 (i := 0) rfl 0 rfl ?_
  refine k_aloadn (pc := 129) C dX7_copyFrom_129 (i := 1) rfl 1 rfl ?_
  refine k_getI (pc := 130) C lkF_RX7_53_7 hs1 ir_7_6 dX7_copyFrom_130 ?_
  obtain ⟨I36, eI36, h⟩ := lt_e h
  refine k_putI (pc := 133) C lkP_RX7_53_7 hs3 ir_7_6 dX7_copyFrom_133 ?_
  rw [← eI36]
  refine k_aloadn (pc := 136) C dX7_copyFrom_136 (i := 0) rfl 0 rfl ?_
  refine k_aloadn (pc := 137) C dX7_copyFrom_137 (i := 1) rfl 1 rfl ?_
  refine k_getI (pc := 138) C lkF_RX7_82_7 hs1 ir_7_8 dX7_copyFrom_138 ?_
  obtain ⟨I37, eI37, h⟩ := lt_e h
  refine k_putI (pc := 141) C lkP_RX7_82_7 hs3 ir_7_8 dX7_copyFrom_141 ?_
  rw [← eI37]
  refine k_aloadn (pc := 144) C dX7_copyFrom_144 (i := 0) rfl 0 rfl ?_
  refine k_aloadn (pc := 145) C dX7_copyFrom_145 (i := 1) rfl 1 rfl ?_
  refine k_getI (pc := 146) C lkF_RX7_30_7 hs1 ir_7_9 dX7_copyFrom_146 ?_
  obtain ⟨I38, eI38, h⟩ := lt_e h
  refine k_putI (pc := 149) C lkP_RX7_30_7 hs3 ir_7_9 dX7_copyFrom_149 ?_
  rw [← eI38]
  refine k_aloadn (pc := 152) C dX7_copyFrom_152 (i := 0) rfl 0 rfl ?_
  refine k_aloadn (pc := 153) C dX7_copyFrom_153 (i := 1) rfl 1 rfl ?_
  refine k_getI (pc := 154) C lkF_RX7_106_7 hs1 ir_7_10 dX7_copyFrom_154 ?_
  obtain ⟨I39, eI39, h⟩ := lt_e h
  refine k_putI (pc := 157) C lkP_RX7_106_7 hs3 ir_7_10 dX7_copyFrom_157 ?_
  rw [← eI39]
  refine k_aloadn (pc := 160) C dX7_copyFrom_160 (i := 0) rfl 0 rfl ?_
  refine k_aloadn (pc := 161) C dX7_copyFrom_161 (i := 1) rfl 1 rfl ?_
  refine k_getI (pc := 162) C lkF_RX7_59_7 hs1 ir_7_14 dX7_copyFrom_162 ?_
  obtain ⟨I40, eI40, h⟩ := lt_e h
  refine k_putI (pc := 165) C lkP_RX7_59_7 hs3 ir_7_14 dX7_copyFrom_165 ?_
  rw [← eI40]
  refine k_aloadn (pc := 168) C dX7_copyFrom_168 (i := 0) rfl 0 rfl ?_
  refine k_aloadn (pc := 169) C dX7_copyFrom_169 (i := 1) rfl 1 rfl ?_
  refine k_getI (pc := 170) C lkF_RX7_47_7 hs1 ir_7_15 dX7_copyFrom_170 ?_
  obtain ⟨I41, eI41, h⟩ := lt_e h
  refine k_putI (pc := 173) C lkP_RX7_47_7 hs3 ir_7_15 dX7_copyFrom_173 ?_
  rw [← eI41]
  refine k_aloadn (pc := 176) C dX7_copyFrom_176 (i := 0) rfl 0 rfl ?_
  obtain ⟨b42, hb42, h⟩ := rl_e h
  refine k_getR (pc := 177) C lkF_RX7_37_7 hs3 ir_7_11 hb42 dX7_copyFrom_177 ?_
  refine k_aloadn (pc := 180) C dX7_copyFrom_180 (i := 1) rfl 1 rfl ?_
  obtain ⟨b43, hb43, h⟩ := rl_e h
  refine k_getR (pc := 181) C lkF_RX7_37_7 hs1 ir_7_11 hb43 dX7_copyFrom_181 ?_
  obtain ⟨hs440, h⟩ := gp_e h
  have hs44 := sok_e hs440
  obtain ⟨r45, hr45, h⟩ := bd_e h
  refine k_V (pc := 184) (st := []) C (c_X5_copyFrom hr45) lkV_RX7_121 hs44 rfl rfl rfl (Nat.le_of_ble_eq_true rfl) (Nat.le_of_ble_eq_true rfl) (Nat.le_of_ble_eq_true rfl) (Nat.le_of_ble_eq_true rfl) (Nat.le_of_ble_eq_true rfl) dX7_copyFrom_184 ?_
  refine k_nf (cells2 := 0) (slots2 := 0) (st2 := []) rfl rfl rfl ?_
  have h := Option.some.inj h
  subst h
  exact k_vret (pc := 187) C hr hk dX7_copyFrom_187
theorem c_X7_copyFrom {E : Ev} {l : Launch} {S : Sh} {R : Rw} {I : Iw} {a0 : Nat} {a1 : Nat} {r : Iw} (h : f_X7_copyFrom S R I a0 a1 = some r) : Mt E l yX7_copyFrom cX7_copyFrom 2 none 2 81 [.ref (E.1 + a0), .ref (E.1 + a1)] S R I S R r none 0 0 := mt_of (by decide) (Nat.le_of_ble_eq_true rfl) (fun p e s m args below meth c C hr hk hn => b_X7_copyFrom C hr hk _ _ _ h)
theorem lkP_RX8_9_8 : LkP RX8 9 8 0 .int := ⟨RX8, TX8, 3, "UnlikeNeighbours$Sheet", fc8, by decide, (t1_in 220 (by decide +kernel) rfl), Or.inl rfl, rfl, by decide +kernel⟩
theorem lkQ_RX8_15_8 : LkQ RX8 15 8 2 (.array .int) := ⟨RX8, TX8, 3, "UnlikeNeighbours$Sheet", fc8, by decide, (t1_in 224 (by decide +kernel) rfl), Or.inl rfl, rfl, rfl, by decide +kernel⟩
theorem dX8_init_0 : decode cX8_init 0 = .ok (.aload_n 0, 1) := by decide +kernel
theorem dX8_init_1 : decode cX8_init 1 = .ok (.invokespecial 3, 3) := by decide +kernel
theorem dX8_init_4 : decode cX8_init 4 = .ok (.aload_n 0, 1) := by decide +kernel
theorem dX8_init_5 : decode cX8_init 5 = .ok (.iconst (-1), 1) := by decide +kernel
theorem dX8_init_6 : decode cX8_init 6 = .ok (.putfield 9, 3) := by decide +kernel
theorem dX8_init_9 : decode cX8_init 9 = .ok (.aload_n 0, 1) := by decide +kernel
theorem dX8_init_10 : decode cX8_init 10 = .ok (.bipush 40, 2) := by decide +kernel
theorem dX8_init_12 : decode cX8_init 12 = .ok (.newarray .int, 2) := by decide +kernel
theorem dX8_init_14 : decode cX8_init 14 = .ok (.putfield 15, 3) := by decide +kernel
theorem dX8_init_17 : decode cX8_init 17 = .ok (.return_, 1) := by decide +kernel
def f_X8_init   (S : Sh) (R : Rw) (I : Iw) (a0 : Nat) : Option ((Sh × Rw × Iw)) := gp (sok S a0 8 3) (lt (up2 I a0 0 (-1 : Int32)) (fun I2 => lt S.length (fun q3 => lt (S ++ [(20, 40)]) (fun S4 => lt (setA R q3 (fun _ => none)) (fun R5 => lt (setA I2 q3 (fun _ => 0)) (fun I6 => gp (sok S4 a0 8 3) (lt (up2 R5 a0 2 (some (.inl q3))) (fun R9 => some (S4, R9, I6)))))))))
set_option maxHeartbeats 4000000 in
theorem b_X8_init {E : Ev} {p : Program} {l : Launch} {e : Env} {s : State} {m : MethodId} {args : Array Value} {below : List Frame} {meth : Method} {c : Code} (C : Cx E RX8 cX8_init 1 p s m c) (hr : meth.sig.returnType = none) (hk : meth.locks = false) (hin : meth.name = "<init>") {r : (Sh × Rw × Iw)}  : ∀ (S : Sh) (R : Rw) (I : Iw) (a0 : Nat), f_X8_init    S R I a0 = some r → Wk E 1 p l e ({ frames := 1, cells := 1, slots := 40, locals := 20 } : Room) s m args below meth c 0 0 (MQ below (Qw E r.1 r.2.1 r.2.2 none) args s 1 40 (fun q => E.1 ≤ q)) 0 [(0, .ref (E.1 + a0))] [] S R I := by
  intro S R I a0 h
  rw [f_X8_init] at h
  refine k_aloadn (pc := 0) C dX8_init_0 (i := 0) rfl 0 rfl ?_
  refine k_objInit (pc := 1) C (t1_in 219 (by decide +kernel) rfl) (t1_in 27 (by decide +kernel) rfl) (t1_in 28 (by decide +kernel) rfl) (Nat.le_of_ble_eq_true rfl) (Nat.le_of_ble_eq_true rfl) (Nat.le_of_ble_eq_true rfl) dX8_init_1 ?_
  refine k_aloadn (pc := 4) C dX8_init_4 (i := 0) rfl 0 rfl ?_
  refine k_iconst (pc := 5) C (v := (-1 : Int32)) dX8_init_5 (by decide) ?_
  obtain ⟨hs10, h⟩ := gp_e h
  have hs1 := sok_e hs10
  obtain ⟨I2, eI2, h⟩ := lt_e h
  refine k_putI (pc := 6) C lkP_RX8_9_8 hs1 ir_8_0 dX8_init_6 ?_
  rw [← eI2]
  refine k_aloadn (pc := 9) C dX8_init_9 (i := 0) rfl 0 rfl ?_
  refine k_bipush (pc := 10) C (v := (40 : Int32)) dX8_init_10 (by decide) ?_
  obtain ⟨q3, eq3, h⟩ := lt_e h
  obtain ⟨S4, eS4, h⟩ := lt_e h
  obtain ⟨R5, eR5, h⟩ := lt_e h
  obtain ⟨I6, eI6, h⟩ := lt_e h
  refine k_newa (pc := 12) C (t := 20) (N := 40) rfl (by decide) (t1_in 68 (by decide +kernel) rfl) (by decide) (by decide) (by decide) (Nat.le_of_ble_eq_true rfl) (Nat.le_of_ble_eq_true rfl) dX8_init_12 ?_
  rw [← eq3, ← eS4, ← eR5, ← eI6]
  refine k_nf (cells2 := 1) (slots2 := 40) (st2 := [.ref (E.1 + q3), .ref (E.1 + a0)]) rfl rfl rfl ?_
  obtain ⟨hs80, h⟩ := gp_e h
  have hs8 := sok_e hs80
  obtain ⟨R9, eR9, h⟩ := lt_e h
  refine k_putFR (pc := 14) C hin lkQ_RX8_15_8 hs8 ir_8_2 (fun _ => ⟨rfl, rfl⟩) dX8_init_14 ?_
  rw [← eR9]
  have h := Option.some.inj h
  subst h
  exact k_vret (pc := 17) C hr hk dX8_init_17
theorem c_X8_init {E : Ev} {l : Launch} {S : Sh} {R : Rw} {I : Iw} {a0 : Nat} {r : (Sh × Rw × Iw)} (h : f_X8_init S R I a0 = some r) : Mt E l yX8_init cX8_init 1 none 1 20 [.ref (E.1 + a0)] S R I r.1 r.2.1 r.2.2 none 1 40 := mt_of (by decide) (Nat.le_of_ble_eq_true rfl) (fun p e s m args below meth c C hr hk hn => b_X8_init C hr hk hn _ _ _ _ h)
theorem lkP_RX8_19_8 : LkP RX8 19 8 1 .int := ⟨RX8, TX8, 3, "UnlikeNeighbours$Sheet", fc8, by decide, (t1_in 222 (by decide +kernel) rfl), Or.inl rfl, rfl, by decide +kernel⟩
theorem lkF_RX8_15_8 : LkF RX8 15 8 2 := ⟨RX8, TX8, 3, "UnlikeNeighbours$Sheet", fc8, by decide, (t1_in 224 (by decide +kernel) rfl), Or.inl rfl⟩
theorem dX8_become_0 : decode cX8_become 0 = .ok (.aload_n 0, 1) := by decide +kernel
theorem dX8_become_1 : decode cX8_become 1 = .ok (.iload_n 1, 1) := by decide +kernel
theorem dX8_become_2 : decode cX8_become 2 = .ok (.putfield 9, 3) := by decide +kernel
theorem dX8_become_5 : decode cX8_become 5 = .ok (.aload_n 0, 1) := by decide +kernel
theorem dX8_become_6 : decode cX8_become 6 = .ok (.iload_n 2, 1) := by decide +kernel
theorem dX8_become_7 : decode cX8_become 7 = .ok (.putfield 19, 3) := by decide +kernel
theorem dX8_become_10 : decode cX8_become 10 = .ok (.iconst 0, 1) := by decide +kernel
theorem dX8_become_11 : decode cX8_become 11 = .ok (.istore_n 3, 1) := by decide +kernel
theorem dX8_become_12 : decode cX8_become 12 = .ok (.iload_n 3, 1) := by decide +kernel
theorem dX8_become_13 : decode cX8_become 13 = .ok (.bipush 40, 2) := by decide +kernel
theorem dX8_become_15 : decode cX8_become 15 = .ok (.if_icmp .ge 16, 3) := by decide +kernel
theorem dX8_become_18 : decode cX8_become 18 = .ok (.aload_n 0, 1) := by decide +kernel
theorem dX8_become_19 : decode cX8_become 19 = .ok (.getfield 15, 3) := by decide +kernel
theorem dX8_become_22 : decode cX8_become 22 = .ok (.iload_n 3, 1) := by decide +kernel
theorem dX8_become_23 : decode cX8_become 23 = .ok (.iconst 0, 1) := by decide +kernel
theorem dX8_become_24 : decode cX8_become 24 = .ok (.iastore, 1) := by decide +kernel
theorem dX8_become_25 : decode cX8_become 25 = .ok (.iinc 3 1, 3) := by decide +kernel
theorem dX8_become_28 : decode cX8_become 28 = .ok (.goto (-16), 3) := by decide +kernel
theorem dX8_become_31 : decode cX8_become 31 = .ok (.return_, 1) := by decide +kernel
def f_X8_become_12 (S : Sh) (R : Rw)  : Nat → Iw → Nat → Int32 → Option (Iw)
  | 0, _, _, _ => none
  | n + 1, I, a0, x3 => (if (40 : Int32) ≤ x3 then some I else gp (sok S a0 8 3) (rl (R a0 2) (fun b6 => gp (aok S 20 b6 x3) (lt (up2 I b6 x3.toNatClampNeg (0 : Int32)) (fun I8 => f_X8_become_12 S R  n I8 a0 (x3 + (1 : Int32)))))))
set_option maxHeartbeats 4000000 in
theorem b_X8_become_12 {E : Ev} {p : Program} {l : Launch} {e : Env} {s : State} {m : MethodId} {args : Array Value} {below : List Frame} {meth : Method} {c : Code} (C : Cx E RX8 cX8_become 4 p s m c) (hr : meth.sig.returnType = none) (hk : meth.locks = false) {S : Sh} {R : Rw} {r : Iw}  : ∀ (n : Nat) (I : Iw) (a0 : Nat) (x3 : Int32), f_X8_become_12 S R  n I a0 x3 = some r → Wk E 4 p l e ({ frames := 0, cells := 0, slots := 0, locals := 0 } : Room) s m args below meth c 0 0 (MQ below (Qw E S R r none) args s 0 0 (fun q => E.1 ≤ q)) 12 [(0, .ref (E.1 + a0)), (3, .int x3)] [] S R I := by
  intro n
  induction n with
  | zero =>
    intro I a0 x3 h
    rw [f_X8_become_12] at h
    cases h
  | succ n ih =>
    intro I a0 x3 h
    rw [f_X8_become_12] at h
    refine k_iloadn (pc := 12) C dX8_become_12 (i := 3) rfl 1 rfl ?_
    refine k_bipush (pc := 13) C (v := (40 : Int32)) dX8_become_13 (by decide) ?_
    refine k_icmp_ge (pc := 15) C dX8_become_15 (tgt := 31) (by decide) (fun hc4 => ?_) (fun hc4 => ?_)
    · rw [if_pos hc4] at h
      have h := Option.some.inj h
      subst h
      exact k_vret (pc := 31) C hr hk dX8_become_31
    · rw [if_neg hc4] at h
      refine k_aloadn (pc := 18) C dX8_become_18 (i := 0) rfl 0 rfl ?_
      obtain ⟨hs50, h⟩ := gp_e h
      have hs5 := sok_e hs50
      obtain ⟨b6, hb6, h⟩ := rl_e h
      refine k_getR (pc := 19) C lkF_RX8_15_8 hs5 ir_8_2 hb6 dX8_become_19 ?_
      refine k_iloadn (pc := 22) C dX8_become_22 (i := 3) rfl 1 rfl ?_
      refine k_iconst (pc := 23) C (v := (0 : Int32)) dX8_become_23 (by decide) ?_
      obtain ⟨ha7, h⟩ := gp_e h
      obtain ⟨I8, eI8, h⟩ := lt_e h
      refine k_iast (pc := 24) C ha7 dX8_become_24 ?_
      rw [← eI8]
      refine k_iinc (pc := 25) C dX8_become_25 1 rfl (v := x3 + (1 : Int32)) (by rfl) (by decide) (L2 := [(0, .ref (E.1 + a0)), (3, .int (x3 + (1 : Int32)))]) rfl ?_
      refine k_goto (pc := 28) C dX8_become_28 (tgt := 12) (by decide) ?_
      exact ih _ _ _ h
def f_X8_become (S : Sh) (R : Rw)  (I : Iw) (a0 : Nat) (x1 : Int32) (x2 : Int32) : Option (Iw) := gp (sok S a0 8 3) (lt (up2 I a0 0 x1) (fun I2 => lt (up2 I2 a0 1 x2) (fun I3 => f_X8_become_12 S R  512 I3 a0 (0 : Int32))))
set_option maxHeartbeats 4000000 in
theorem b_X8_become {E : Ev} {p : Program} {l : Launch} {e : Env} {s : State} {m : MethodId} {args : Array Value} {below : List Frame} {meth : Method} {c : Code} (C : Cx E RX8 cX8_become 4 p s m c) (hr : meth.sig.returnType = none) (hk : meth.locks = false) {S : Sh} {R : Rw} {r : Iw}  : ∀ (I : Iw) (a0 : Nat) (x1 : Int32) (x2 : Int32), f_X8_become S R   I a0 x1 x2 = some r → Wk E 4 p l e ({ frames := 0, cells := 0, slots := 0, locals := 0 } : Room) s m args below meth c 0 0 (MQ below (Qw E S R r none) args s 0 0 (fun q => E.1 ≤ q)) 0 [(0, .ref (E.1 + a0)), (1, .int x1), (2, .int x2)] [] S R I := by
  intro I a0 x1 x2 h
  rw [f_X8_become] at h
  refine k_aloadn (pc := 0) C dX8_become_0 (i := 0) rfl 0 rfl ?_
  refine k_iloadn (pc := 1) C dX8_become_1 (i := 1) rfl 1 rfl ?_
  obtain ⟨hs10, h⟩ := gp_e h
  have hs1 := sok_e hs10
  obtain ⟨I2, eI2, h⟩ := lt_e h
  refine k_putI (pc := 2) C lkP_RX8_9_8 hs1 ir_8_0 dX8_become_2 ?_
  rw [← eI2]
  refine k_aloadn (pc := 5) C dX8_become_5 (i := 0) rfl 0 rfl ?_
  refine k_iloadn (pc := 6) C dX8_become_6 (i := 2) rfl 2 rfl ?_
  obtain ⟨I3, eI3, h⟩ := lt_e h
  refine k_putI (pc := 7) C lkP_RX8_19_8 hs1 ir_8_1 dX8_become_7 ?_
  rw [← eI3]
  refine k_iconst (pc := 10) C (v := (0 : Int32)) dX8_become_10 (by decide) ?_
  refine k_istoren (pc := 11) C dX8_become_11 (i := 3) rfl (by decide) (L2 := [(0, .ref (E.1 + a0)), (1, .int x1), (2, .int x2), (3, .int (0 : Int32))]) rfl ?_
  refine k_loc (L2 := [(0, .ref (E.1 + a0)), (3, .int (0 : Int32))]) [0, 3] rfl ?_
  exact b_X8_become_12 C hr hk  _ _ _ _ h
theorem c_X8_become {E : Ev} {l : Launch} {S : Sh} {R : Rw} {I : Iw} {a0 : Nat} {x1 : Int32} {x2 : Int32} {r : Iw} (h : f_X8_become S R I a0 x1 x2 = some r) : Mt E l yX8_become cX8_become 4 none 0 0 [.ref (E.1 + a0), .int x1, .int x2] S R I S R r none 0 0 := mt_of (by decide) (Nat.le_of_ble_eq_true rfl) (fun p e s m args below meth c C hr hk hn => b_X8_become C hr hk _ _ _ _ h)
theorem lkF_RX8_19_8 : LkF RX8 19 8 1 := ⟨RX8, TX8, 3, "UnlikeNeighbours$Sheet", fc8, by decide, (t1_in 222 (by decide +kernel) rfl), Or.inl rfl⟩
theorem dX8_has_0 : decode cX8_has 0 = .ok (.iload_n 1, 1) := by decide +kernel
theorem dX8_has_1 : decode cX8_has 1 = .ok (.ifCond .lt 15, 3) := by decide +kernel
theorem dX8_has_4 : decode cX8_has 4 = .ok (.iload_n 1, 1) := by decide +kernel
theorem dX8_has_5 : decode cX8_has 5 = .ok (.aload_n 0, 1) := by decide +kernel
theorem dX8_has_6 : decode cX8_has 6 = .ok (.getfield 19, 3) := by decide +kernel
theorem dX8_has_9 : decode cX8_has 9 = .ok (.if_icmp .ge 7, 3) := by decide +kernel
theorem dX8_has_12 : decode cX8_has 12 = .ok (.iconst 1, 1) := by decide +kernel
theorem dX8_has_13 : decode cX8_has 13 = .ok (.goto 4, 3) := by decide +kernel
theorem dX8_has_16 : decode cX8_has 16 = .ok (.iconst 0, 1) := by decide +kernel
theorem dX8_has_17 : decode cX8_has 17 = .ok (.ireturn, 1) := by decide +kernel
def f_X8_has (S : Sh) (R : Rw) (I : Iw)  (a0 : Nat) (x1 : Int32) : Option (Int32) := (if x1 < 0 then some (0 : Int32) else gp (sok S a0 8 3) ((if (I a0 1) ≤ x1 then some (0 : Int32) else some (1 : Int32))))
set_option maxHeartbeats 4000000 in
theorem b_X8_has {E : Ev} {p : Program} {l : Launch} {e : Env} {s : State} {m : MethodId} {args : Array Value} {below : List Frame} {meth : Method} {c : Code} (C : Cx E RX8 cX8_has 2 p s m c) (hr : meth.sig.returnType = (some .boolean)) (hk : meth.locks = false) {S : Sh} {R : Rw} {I : Iw} {r : Int32}  : ∀ (a0 : Nat) (x1 : Int32), f_X8_has S R I   a0 x1 = some r → Wk E 2 p l e ({ frames := 0, cells := 0, slots := 0, locals := 0 } : Room) s m args below meth c 0 0 (MQ below (Qw E S R I (some (.int r))) args s 0 0 (fun q => E.1 ≤ q)) 0 [(0, .ref (E.1 + a0)), (1, .int x1)] [] S R I := by
  intro a0 x1 h
  rw [f_X8_has] at h
  refine k_iloadn (pc := 0) C dX8_has_0 (i := 1) rfl 1 rfl ?_
  refine k_if_lt (pc := 1) C dX8_has_1 (tgt := 16) (by decide) (fun hc1 => ?_) (fun hc1 => ?_)
  · rw [if_pos hc1] at h
    refine k_iconst (pc := 16) C (v := (0 : Int32)) dX8_has_16 (by decide) ?_
    have h := Option.some.inj h
    subst h
    exact k_zret (pc := 17) C hr hk (Or.inl rfl) dX8_has_17
  · rw [if_neg hc1] at h
    refine k_iloadn (pc := 4) C dX8_has_4 (i := 1) rfl 1 rfl ?_
    refine k_aloadn (pc := 5) C dX8_has_5 (i := 0) rfl 0 rfl ?_
    obtain ⟨hs20, h⟩ := gp_e h
    have hs2 := sok_e hs20
    refine k_getI (pc := 6) C lkF_RX8_19_8 hs2 ir_8_1 dX8_has_6 ?_
    refine k_icmp_ge (pc := 9) C dX8_has_9 (tgt := 16) (by decide) (fun hc3 => ?_) (fun hc3 => ?_)
    · rw [if_pos hc3] at h
      refine k_iconst (pc := 16) C (v := (0 : Int32)) dX8_has_16 (by decide) ?_
      have h := Option.some.inj h
      subst h
      exact k_zret (pc := 17) C hr hk (Or.inl rfl) dX8_has_17
    · rw [if_neg hc3] at h
      refine k_iconst (pc := 12) C (v := (1 : Int32)) dX8_has_12 (by decide) ?_
      refine k_goto (pc := 13) C dX8_has_13 (tgt := 17) (by decide) ?_
      have h := Option.some.inj h
      subst h
      exact k_zret (pc := 17) C hr hk (Or.inr rfl) dX8_has_17
theorem c_X8_has {E : Ev} {l : Launch} {S : Sh} {R : Rw} {I : Iw} {a0 : Nat} {x1 : Int32} {r : Int32} (h : f_X8_has S R I a0 x1 = some r) : Mt E l yX8_has cX8_has 2 (some .boolean) 0 0 [.ref (E.1 + a0), .int x1] S R I S R I (some (.int r)) 0 0 := mt_of (by decide) (Nat.le_of_ble_eq_true rfl) (fun p e s m args below meth c C hr hk hn => b_X8_has C hr hk _ _ h)
theorem lkF_RX8_9_8 : LkF RX8 9 8 0 := ⟨RX8, TX8, 3, "UnlikeNeighbours$Sheet", fc8, by decide, (t1_in 220 (by decide +kernel) rfl), Or.inl rfl⟩
theorem dX8_refusalAs_0 : decode cX8_refusalAs 0 = .ok (.aload_n 0, 1) := by decide +kernel
theorem dX8_refusalAs_1 : decode cX8_refusalAs 1 = .ok (.getfield 9, 3) := by decide +kernel
theorem dX8_refusalAs_4 : decode cX8_refusalAs 4 = .ok (.iconst (-1), 1) := by decide +kernel
theorem dX8_refusalAs_5 : decode cX8_refusalAs 5 = .ok (.if_icmp .ne 6, 3) := by decide +kernel
theorem dX8_refusalAs_8 : decode cX8_refusalAs 8 = .ok (.bipush (-11), 2) := by decide +kernel
theorem dX8_refusalAs_10 : decode cX8_refusalAs 10 = .ok (.ireturn, 1) := by decide +kernel
theorem dX8_refusalAs_11 : decode cX8_refusalAs 11 = .ok (.aload_n 0, 1) := by decide +kernel
theorem dX8_refusalAs_12 : decode cX8_refusalAs 12 = .ok (.getfield 9, 3) := by decide +kernel
theorem dX8_refusalAs_15 : decode cX8_refusalAs 15 = .ok (.iload_n 1, 1) := by decide +kernel
theorem dX8_refusalAs_16 : decode cX8_refusalAs 16 = .ok (.if_icmp .ne 7, 3) := by decide +kernel
theorem dX8_refusalAs_19 : decode cX8_refusalAs 19 = .ok (.iconst 0, 1) := by decide +kernel
theorem dX8_refusalAs_20 : decode cX8_refusalAs 20 = .ok (.goto 5, 3) := by decide +kernel
theorem dX8_refusalAs_23 : decode cX8_refusalAs 23 = .ok (.bipush (-13), 2) := by decide +kernel
theorem dX8_refusalAs_25 : decode cX8_refusalAs 25 = .ok (.ireturn, 1) := by decide +kernel
def f_X8_refusalAs (S : Sh) (R : Rw) (I : Iw)  (a0 : Nat) (x1 : Int32) : Option (Int32) := gp (sok S a0 8 3) ((if (I a0 0) = (-1 : Int32) then some (-11 : Int32) else (if (I a0 0) = x1 then some (0 : Int32) else some (-13 : Int32))))
set_option maxHeartbeats 4000000 in
theorem b_X8_refusalAs {E : Ev} {p : Program} {l : Launch} {e : Env} {s : State} {m : MethodId} {args : Array Value} {below : List Frame} {meth : Method} {c : Code} (C : Cx E RX8 cX8_refusalAs 2 p s m c) (hr : meth.sig.returnType = (some .int)) (hk : meth.locks = false) {S : Sh} {R : Rw} {I : Iw} {r : Int32}  : ∀ (a0 : Nat) (x1 : Int32), f_X8_refusalAs S R I   a0 x1 = some r → Wk E 2 p l e ({ frames := 0, cells := 0, slots := 0, locals := 0 } : Room) s m args below meth c 0 0 (MQ below (Qw E S R I (some (.int r))) args s 0 0 (fun q => E.1 ≤ q)) 0 [(0, .ref (E.1 + a0)), (1, .int x1)] [] S R I := by
  intro a0 x1 h
  rw [f_X8_refusalAs] at h
  refine k_aloadn (pc := 0) C dX8_refusalAs_0 (i := 0) rfl 0 rfl ?_
  obtain ⟨hs10, h⟩ := gp_e h
  have hs1 := sok_e hs10
  refine k_getI (pc := 1) C lkF_RX8_9_8 hs1 ir_8_0 dX8_refusalAs_1 ?_
  refine k_iconst (pc := 4) C (v := (-1 : Int32)) dX8_refusalAs_4 (by decide) ?_
  refine k_icmp_ne (pc := 5) C dX8_refusalAs_5 (tgt := 11) (by decide) (fun hc2 => ?_) (fun hc2 => ?_)
  · rw [if_neg hc2] at h
    refine k_aloadn (pc := 11) C dX8_refusalAs_11 (i := 0) rfl 0 rfl ?_
    refine k_getI (pc := 12) C lkF_RX8_9_8 hs1 ir_8_0 dX8_refusalAs_12 ?_
    refine k_iloadn (pc := 15) C dX8_refusalAs_15 (i := 1) rfl 1 rfl ?_
    refine k_icmp_ne (pc := 16) C dX8_refusalAs_16 (tgt := 23) (by decide) (fun hc3 => ?_) (fun hc3 => ?_)
    · rw [if_neg hc3] at h
      refine k_bipush (pc := 23) C (v := (-13 : Int32)) dX8_refusalAs_23 (by decide) ?_
      have h := Option.some.inj h
      subst h
      exact k_iret (pc := 25) C hr hk dX8_refusalAs_25
    · rw [if_pos hc3] at h
      refine k_iconst (pc := 19) C (v := (0 : Int32)) dX8_refusalAs_19 (by decide) ?_
      refine k_goto (pc := 20) C dX8_refusalAs_20 (tgt := 25) (by decide) ?_
      have h := Option.some.inj h
      subst h
      exact k_iret (pc := 25) C hr hk dX8_refusalAs_25
  · rw [if_pos hc2] at h
    refine k_bipush (pc := 8) C (v := (-11 : Int32)) dX8_refusalAs_8 (by decide) ?_
    have h := Option.some.inj h
    subst h
    exact k_iret (pc := 10) C hr hk dX8_refusalAs_10
theorem c_X8_refusalAs {E : Ev} {l : Launch} {S : Sh} {R : Rw} {I : Iw} {a0 : Nat} {x1 : Int32} {r : Int32} (h : f_X8_refusalAs S R I a0 x1 = some r) : Mt E l yX8_refusalAs cX8_refusalAs 2 (some .int) 0 0 [.ref (E.1 + a0), .int x1] S R I S R I (some (.int r)) 0 0 := mt_of (by decide) (Nat.le_of_ble_eq_true rfl) (fun p e s m args below meth c C hr hk hn => b_X8_refusalAs C hr hk _ _ h)
theorem dX8_narrowed_0 : decode cX8_narrowed 0 = .ok (.aload_n 0, 1) := by decide +kernel
theorem dX8_narrowed_1 : decode cX8_narrowed 1 = .ok (.getfield 9, 3) := by decide +kernel
theorem dX8_narrowed_4 : decode cX8_narrowed 4 = .ok (.tableswitch 52 0 4 #[36, 39, 52, 52, 42], 36) := by decide +kernel
theorem dX8_narrowed_40 : decode cX8_narrowed 40 = .ok (.iload_n 1, 1) := by decide +kernel
theorem dX8_narrowed_41 : decode cX8_narrowed 41 = .ok (.i2b, 1) := by decide +kernel
theorem dX8_narrowed_42 : decode cX8_narrowed 42 = .ok (.ireturn, 1) := by decide +kernel
theorem dX8_narrowed_43 : decode cX8_narrowed 43 = .ok (.iload_n 1, 1) := by decide +kernel
theorem dX8_narrowed_44 : decode cX8_narrowed 44 = .ok (.i2s, 1) := by decide +kernel
theorem dX8_narrowed_45 : decode cX8_narrowed 45 = .ok (.ireturn, 1) := by decide +kernel
theorem dX8_narrowed_46 : decode cX8_narrowed 46 = .ok (.iload_n 1, 1) := by decide +kernel
theorem dX8_narrowed_47 : decode cX8_narrowed 47 = .ok (.ifCond .eq 7, 3) := by decide +kernel
theorem dX8_narrowed_50 : decode cX8_narrowed 50 = .ok (.iconst 1, 1) := by decide +kernel
theorem dX8_narrowed_51 : decode cX8_narrowed 51 = .ok (.goto 4, 3) := by decide +kernel
theorem dX8_narrowed_54 : decode cX8_narrowed 54 = .ok (.iconst 0, 1) := by decide +kernel
theorem dX8_narrowed_55 : decode cX8_narrowed 55 = .ok (.ireturn, 1) := by decide +kernel
theorem dX8_narrowed_56 : decode cX8_narrowed 56 = .ok (.iload_n 1, 1) := by decide +kernel
theorem dX8_narrowed_57 : decode cX8_narrowed 57 = .ok (.ireturn, 1) := by decide +kernel
def f_X8_narrowed (S : Sh) (R : Rw) (I : Iw)  (a0 : Nat) (x1 : Int32) : Option (Int32) := gp (sok S a0 8 3) ((if (I a0 0) = (0 : Int32) then some x1.toInt8.toInt32 else (if (I a0 0) = (1 : Int32) then some x1.toInt16.toInt32 else (if (I a0 0) = (2 : Int32) then some x1 else (if (I a0 0) = (3 : Int32) then some x1 else (if (I a0 0) = (4 : Int32) then (if x1 = 0 then some (0 : Int32) else some (1 : Int32)) else some x1))))))
set_option maxHeartbeats 4000000 in
theorem b_X8_narrowed {E : Ev} {p : Program} {l : Launch} {e : Env} {s : State} {m : MethodId} {args : Array Value} {below : List Frame} {meth : Method} {c : Code} (C : Cx E RX8 cX8_narrowed 2 p s m c) (hr : meth.sig.returnType = (some .int)) (hk : meth.locks = false) {S : Sh} {R : Rw} {I : Iw} {r : Int32}  : ∀ (a0 : Nat) (x1 : Int32), f_X8_narrowed S R I   a0 x1 = some r → Wk E 2 p l e ({ frames := 0, cells := 0, slots := 0, locals := 0 } : Room) s m args below meth c 0 0 (MQ below (Qw E S R I (some (.int r))) args s 0 0 (fun q => E.1 ≤ q)) 0 [(0, .ref (E.1 + a0)), (1, .int x1)] [] S R I := by
  intro a0 x1 h
  rw [f_X8_narrowed] at h
  refine k_aloadn (pc := 0) C dX8_narrowed_0 (i := 0) rfl 0 rfl ?_
  obtain ⟨hs10, h⟩ := gp_e h
  have hs1 := sok_e hs10
  refine k_getI (pc := 1) C lkF_RX8_9_8 hs1 ir_8_0 dX8_narrowed_1 ?_
  by_cases hc3 : (I a0 0) = (0 : Int32)
  · rw [if_pos hc3] at h
    refine k_tabIn (pc := 4) C dX8_narrowed_4 (by rw [hc3]; decide) (by rw [hc3]; decide) (off := 36) (by rw [hc3]; rfl) (tgt := 40) (by decide) ?_
    refine k_iloadn (pc := 40) C dX8_narrowed_40 (i := 1) rfl 1 rfl ?_
    refine k_i2b (pc := 41) C dX8_narrowed_41 ?_
    have h := Option.some.inj h
    subst h
    exact k_iret (pc := 42) C hr hk dX8_narrowed_42
  · rw [if_neg hc3] at h
    by_cases hc4 : (I a0 0) = (1 : Int32)
    · rw [if_pos hc4] at h
      refine k_tabIn (pc := 4) C dX8_narrowed_4 (by rw [hc4]; decide) (by rw [hc4]; decide) (off := 39) (by rw [hc4]; rfl) (tgt := 43) (by decide) ?_
      refine k_iloadn (pc := 43) C dX8_narrowed_43 (i := 1) rfl 1 rfl ?_
      refine k_i2s (pc := 44) C dX8_narrowed_44 ?_
      have h := Option.some.inj h
      subst h
      exact k_iret (pc := 45) C hr hk dX8_narrowed_45
    · rw [if_neg hc4] at h
      by_cases hc5 : (I a0 0) = (2 : Int32)
      · rw [if_pos hc5] at h
        refine k_tabIn (pc := 4) C dX8_narrowed_4 (by rw [hc5]; decide) (by rw [hc5]; decide) (off := 52) (by rw [hc5]; rfl) (tgt := 56) (by decide) ?_
        refine k_iloadn (pc := 56) C dX8_narrowed_56 (i := 1) rfl 1 rfl ?_
        have h := Option.some.inj h
        subst h
        exact k_iret (pc := 57) C hr hk dX8_narrowed_57
      · rw [if_neg hc5] at h
        by_cases hc6 : (I a0 0) = (3 : Int32)
        · rw [if_pos hc6] at h
          refine k_tabIn (pc := 4) C dX8_narrowed_4 (by rw [hc6]; decide) (by rw [hc6]; decide) (off := 52) (by rw [hc6]; rfl) (tgt := 56) (by decide) ?_
          refine k_iloadn (pc := 56) C dX8_narrowed_56 (i := 1) rfl 1 rfl ?_
          have h := Option.some.inj h
          subst h
          exact k_iret (pc := 57) C hr hk dX8_narrowed_57
        · rw [if_neg hc6] at h
          by_cases hc7 : (I a0 0) = (4 : Int32)
          · rw [if_pos hc7] at h
            refine k_tabIn (pc := 4) C dX8_narrowed_4 (by rw [hc7]; decide) (by rw [hc7]; decide) (off := 42) (by rw [hc7]; rfl) (tgt := 46) (by decide) ?_
            refine k_iloadn (pc := 46) C dX8_narrowed_46 (i := 1) rfl 1 rfl ?_
            refine k_if_eq (pc := 47) C dX8_narrowed_47 (tgt := 54) (by decide) (fun hc2 => ?_) (fun hc2 => ?_)
            · rw [if_pos hc2] at h
              refine k_iconst (pc := 54) C (v := (0 : Int32)) dX8_narrowed_54 (by decide) ?_
              have h := Option.some.inj h
              subst h
              exact k_iret (pc := 55) C hr hk dX8_narrowed_55
            · rw [if_neg hc2] at h
              refine k_iconst (pc := 50) C (v := (1 : Int32)) dX8_narrowed_50 (by decide) ?_
              refine k_goto (pc := 51) C dX8_narrowed_51 (tgt := 55) (by decide) ?_
              have h := Option.some.inj h
              subst h
              exact k_iret (pc := 55) C hr hk dX8_narrowed_55
          · rw [if_neg hc7] at h
            refine k_tabOut (pc := 4) C dX8_narrowed_4 (tab_out (I a0 0) 0 4 (fun z h1 h2 hz => by
              have hz2 : z = 0 ∨ z = 1 ∨ z = 2 ∨ z = 3 ∨ z = 4 := by omega
              rcases hz2 with rfl | rfl | rfl | rfl | rfl
              · exact hc3 (Int32.toInt_inj.mp (hz.trans (by decide)))
              · exact hc4 (Int32.toInt_inj.mp (hz.trans (by decide)))
              · exact hc5 (Int32.toInt_inj.mp (hz.trans (by decide)))
              · exact hc6 (Int32.toInt_inj.mp (hz.trans (by decide)))
              · exact hc7 (Int32.toInt_inj.mp (hz.trans (by decide)))
              ) ) (tgt := 56) (by decide) ?_
            refine k_iloadn (pc := 56) C dX8_narrowed_56 (i := 1) rfl 1 rfl ?_
            have h := Option.some.inj h
            subst h
            exact k_iret (pc := 57) C hr hk dX8_narrowed_57
theorem c_X8_narrowed {E : Ev} {l : Launch} {S : Sh} {R : Rw} {I : Iw} {a0 : Nat} {x1 : Int32} {r : Int32} (h : f_X8_narrowed S R I a0 x1 = some r) : Mt E l yX8_narrowed cX8_narrowed 2 (some .int) 0 0 [.ref (E.1 + a0), .int x1] S R I S R I (some (.int r)) 0 0 := mt_of (by decide) (Nat.le_of_ble_eq_true rfl) (fun p e s m args below meth c C hr hk hn => b_X8_narrowed C hr hk _ _ h)
theorem lkI_RX10_1 : LkI RX10 1 yX9_init cX9_init 3 2 := ⟨(t4_in 93 (by decide +kernel) rfl), (t4_in 94 (by decide +kernel) rfl), (t4_in 95 (by decide +kernel) rfl), (t1_in 15 (by decide +kernel) rfl), rfl, by decide, by decide +kernel⟩
theorem dX10_init_0 : decode cX10_init 0 = .ok (.aload_n 0, 1) := by decide +kernel
theorem dX10_init_1 : decode cX10_init 1 = .ok (.iload_n 1, 1) := by decide +kernel
theorem dX10_init_2 : decode cX10_init 2 = .ok (.iload_n 2, 1) := by decide +kernel
theorem dX10_init_3 : decode cX10_init 3 = .ok (.invokespecial 1, 3) := by decide +kernel
theorem dX10_init_6 : decode cX10_init 6 = .ok (.return_, 1) := by decide +kernel
def f_X10_init   (S : Sh) (R : Rw) (I : Iw) (a0 : Nat) (x1 : Int32) (x2 : Int32) : Option ((Sh × Rw × Iw)) := bd (f_X9_init S R I a0 x1 x2) (fun r1 => some (r1.1, r1.2.1, r1.2.2))
set_option maxHeartbeats 4000000 in
theorem b_X10_init {E : Ev} {p : Program} {l : Launch} {e : Env} {s : State} {m : MethodId} {args : Array Value} {below : List Frame} {meth : Method} {c : Code} (C : Cx E RX10 cX10_init 3 p s m c) (hr : meth.sig.returnType = none) (hk : meth.locks = false) (hin : meth.name = "<init>") {r : (Sh × Rw × Iw)}  : ∀ (S : Sh) (R : Rw) (I : Iw) (a0 : Nat) (x1 : Int32) (x2 : Int32), f_X10_init    S R I a0 x1 x2 = some r → Wk E 3 p l e ({ frames := 2, cells := 1, slots := 30, locals := 42 } : Room) s m args below meth c 0 0 (MQ below (Qw E r.1 r.2.1 r.2.2 none) args s 1 30 (fun q => E.1 ≤ q)) 0 [(0, .ref (E.1 + a0)), (1, .int x1), (2, .int x2)] [] S R I := by
  intro S R I a0 x1 x2 h
  rw [f_X10_init] at h
  refine k_aloadn (pc := 0) C dX10_init_0 (i := 0) rfl 0 rfl ?_
  refine k_iloadn (pc := 1) C dX10_init_1 (i := 1) rfl 1 rfl ?_
  refine k_iloadn (pc := 2) C dX10_init_2 (i := 2) rfl 2 rfl ?_
  obtain ⟨r1, hr1, h⟩ := bd_e h
  refine k_I (pc := 3) (st := []) C (c_X9_init hr1) lkI_RX10_1 rfl rfl (Nat.le_of_ble_eq_true rfl) (Nat.le_of_ble_eq_true rfl) (Nat.le_of_ble_eq_true rfl) (Nat.le_of_ble_eq_true rfl) (Nat.le_of_ble_eq_true rfl) dX10_init_3 ?_
  refine k_nf (cells2 := 1) (slots2 := 30) (st2 := []) rfl rfl rfl ?_
  have h := Option.some.inj h
  subst h
  exact k_vret (pc := 6) C hr hk dX10_init_6
theorem c_X10_init {E : Ev} {l : Launch} {S : Sh} {R : Rw} {I : Iw} {a0 : Nat} {x1 : Int32} {x2 : Int32} {r : (Sh × Rw × Iw)} (h : f_X10_init S R I a0 x1 x2 = some r) : Mt E l yX10_init cX10_init 3 none 2 42 [.ref (E.1 + a0), .int x1, .int x2] S R I r.1 r.2.1 r.2.2 none 1 30 := mt_of (by decide) (Nat.le_of_ble_eq_true rfl) (fun p e s m args below meth c C hr hk hn => b_X10_init C hr hk hn _ _ _ _ _ _ h)
