/-! X3_readInto, X3_isValue, X3_readComparison, X3_readOne -/
theorem lkV_RX3_33 : LkV RX3 33 RX3 yX3_partTape cX3_partTape 5 none 0 := ⟨(t2_in 158 (by decide +kernel) rfl), (t2_in 160 (by decide +kernel) rfl), (t0_in 6 (by decide +kernel) rfl), (t2_in 161 (by decide +kernel) rfl), (t1_in 4 (by decide +kernel) rfl), by decide, by decide +kernel⟩
theorem lkV_RX3_39 : LkV RX3 39 RX5 yX5_clear cX5_clear 1 none 0 := ⟨(t2_in 230 (by decide +kernel) rfl), (t2_in 231 (by decide +kernel) rfl), (t2_in 232 (by decide +kernel) rfl), (t2_in 233 (by decide +kernel) rfl), (t1_in 3 (by decide +kernel) rfl), by decide, by decide +kernel⟩
theorem lkV_RX3_53 : LkV RX3 53 RX5 yX5_copyFrom cX5_copyFrom 2 none 1 := ⟨(t3_in 30 (by decide +kernel) rfl), (t3_in 31 (by decide +kernel) rfl), (t3_in 32 (by decide +kernel) rfl), (t3_in 33 (by decide +kernel) rfl), (t1_in 3 (by decide +kernel) rfl), by decide, by decide +kernel⟩
theorem lkV_RX3_46 : LkV RX3 46 RX3 yX3_readRule cX3_readRule 5 (some .boolean) 0 := ⟨(t2_in 238 (by decide +kernel) rfl), (t3_in 0 (by decide +kernel) rfl), (t0_in 12 (by decide +kernel) rfl), (t3_in 1 (by decide +kernel) rfl), (t1_in 4 (by decide +kernel) rfl), by decide, by decide +kernel⟩
theorem dX3_readInto_0 : decode cX3_readInto 0 = .ok (.aload_n 0, 1) := by decide +kernel
theorem dX3_readInto_1 : decode cX3_readInto 1 = .ok (.invokevirtual 33, 3) := by decide +kernel
theorem dX3_readInto_4 : decode cX3_readInto 4 = .ok (.aload_n 0, 1) := by decide +kernel
theorem dX3_readInto_5 : decode cX3_readInto 5 = .ok (.iconst 0, 1) := by decide +kernel
theorem dX3_readInto_6 : decode cX3_readInto 6 = .ok (.putfield 36, 3) := by decide +kernel
theorem dX3_readInto_9 : decode cX3_readInto 9 = .ok (.aload_n 0, 1) := by decide +kernel
theorem dX3_readInto_10 : decode cX3_readInto 10 = .ok (.iconst 0, 1) := by decide +kernel
theorem dX3_readInto_11 : decode cX3_readInto 11 = .ok (.putfield 29, 3) := by decide +kernel
theorem dX3_readInto_14 : decode cX3_readInto 14 = .ok (.aload_n 0, 1) := by decide +kernel
theorem dX3_readInto_15 : decode cX3_readInto 15 = .ok (.getfield 25, 3) := by decide +kernel
theorem dX3_readInto_18 : decode cX3_readInto 18 = .ok (.invokevirtual 39, 3) := by decide +kernel
theorem dX3_readInto_21 : decode cX3_readInto 21 = .ok (.iconst 0, 1) := by decide +kernel
theorem dX3_readInto_22 : decode cX3_readInto 22 = .ok (.istore_n 2, 1) := by decide +kernel
theorem dX3_readInto_23 : decode cX3_readInto 23 = .ok (.iload_n 2, 1) := by decide +kernel
theorem dX3_readInto_24 : decode cX3_readInto 24 = .ok (.bipush 8, 2) := by decide +kernel
theorem dX3_readInto_26 : decode cX3_readInto 26 = .ok (.if_icmp .gt 54, 3) := by decide +kernel
theorem dX3_readInto_29 : decode cX3_readInto 29 = .ok (.aload_n 0, 1) := by decide +kernel
theorem dX3_readInto_30 : decode cX3_readInto 30 = .ok (.invokevirtual 42, 3) := by decide +kernel
theorem dX3_readInto_33 : decode cX3_readInto 33 = .ok (.sipush 30000, 3) := by decide +kernel
theorem dX3_readInto_36 : decode cX3_readInto 36 = .ok (.if_icmp .eq 44, 3) := by decide +kernel
theorem dX3_readInto_39 : decode cX3_readInto 39 = .ok (.aload_n 0, 1) := by decide +kernel
theorem dX3_readInto_40 : decode cX3_readInto 40 = .ok (.invokevirtual 46, 3) := by decide +kernel
theorem dX3_readInto_43 : decode cX3_readInto 43 = .ok (.ifCond .ne 31, 3) := by decide +kernel
theorem dX3_readInto_46 : decode cX3_readInto 46 = .ok (.bipush (-100), 2) := by decide +kernel
theorem dX3_readInto_48 : decode cX3_readInto 48 = .ok (.aload_n 0, 1) := by decide +kernel
theorem dX3_readInto_49 : decode cX3_readInto 49 = .ok (.getfield 36, 3) := by decide +kernel
theorem dX3_readInto_52 : decode cX3_readInto 52 = .ok (.aload_n 0, 1) := by decide +kernel
theorem dX3_readInto_53 : decode cX3_readInto 53 = .ok (.getfield 50, 3) := by decide +kernel
theorem dX3_readInto_56 : decode cX3_readInto 56 = .ok (.if_icmp .ge 15, 3) := by decide +kernel
theorem dX3_readInto_59 : decode cX3_readInto 59 = .ok (.aload_n 0, 1) := by decide +kernel
theorem dX3_readInto_60 : decode cX3_readInto 60 = .ok (.getfield 19, 3) := by decide +kernel
theorem dX3_readInto_63 : decode cX3_readInto 63 = .ok (.aload_n 0, 1) := by decide +kernel
theorem dX3_readInto_64 : decode cX3_readInto 64 = .ok (.getfield 36, 3) := by decide +kernel
theorem dX3_readInto_67 : decode cX3_readInto 67 = .ok (.iaload, 1) := by decide +kernel
theorem dX3_readInto_68 : decode cX3_readInto 68 = .ok (.goto 4, 3) := by decide +kernel
theorem dX3_readInto_71 : decode cX3_readInto 71 = .ok (.iconst 0, 1) := by decide +kernel
theorem dX3_readInto_72 : decode cX3_readInto 72 = .ok (.isub, 1) := by decide +kernel
theorem dX3_readInto_73 : decode cX3_readInto 73 = .ok (.ireturn, 1) := by decide +kernel
theorem dX3_readInto_74 : decode cX3_readInto 74 = .ok (.iinc 2 1, 3) := by decide +kernel
theorem dX3_readInto_77 : decode cX3_readInto 77 = .ok (.goto (-54), 3) := by decide +kernel
theorem dX3_readInto_80 : decode cX3_readInto 80 = .ok (.aload_n 1, 1) := by decide +kernel
theorem dX3_readInto_81 : decode cX3_readInto 81 = .ok (.aload_n 0, 1) := by decide +kernel
theorem dX3_readInto_82 : decode cX3_readInto 82 = .ok (.getfield 25, 3) := by decide +kernel
theorem dX3_readInto_85 : decode cX3_readInto 85 = .ok (.invokevirtual 53, 3) := by decide +kernel
theorem dX3_readInto_88 : decode cX3_readInto 88 = .ok (.aload_n 1, 1) := by decide +kernel
theorem dX3_readInto_89 : decode cX3_readInto 89 = .ok (.getfield 57, 3) := by decide +kernel
theorem dX3_readInto_92 : decode cX3_readInto 92 = .ok (.ireturn, 1) := by decide +kernel
def f_X3_readInto_80 (S : Sh) (R : Rw)  (I : Iw) (a0 : Nat) (a1 : Nat) : Option (Iw × Int32) := gp (sok S a0 3 7) (rl (R a0 6) (fun b10 => gp (sok S a1 5 8) (bd (f_X5_copyFrom S R I a1 b10) (fun r12 => some (r12, r12 a1 0)))))
set_option maxHeartbeats 4000000 in
theorem b_X3_readInto_80 {E : Ev} {p : Program} {l : Launch} {e : Env} {s : State} {m : MethodId} {args : Array Value} {below : List Frame} {meth : Method} {c : Code} (C : Cx E RX3 cX3_readInto 3 p s m c) (hr : meth.sig.returnType = (some .int)) (hk : meth.locks = false) {S : Sh} {R : Rw} {r : Iw × Int32}  : ∀ (I : Iw) (a0 : Nat) (a1 : Nat), f_X3_readInto_80 S R   I a0 a1 = some r → Wk E 3 p l e ({ frames := 28, cells := 0, slots := 0, locals := 645 } : Room) s m args below meth c 0 0 (MQ below (Qw E S R r.1 (some (.int r.2))) args s 0 0 (fun q => E.1 ≤ q)) 80 [(0, .ref (E.1 + a0)), (1, .ref (E.1 + a1))] [] S R I := by
  intro I a0 a1 h
  rw [f_X3_readInto_80] at h
  refine k_aloadn (pc := 80) C dX3_readInto_80 (i := 1) rfl 1 rfl ?_
  refine k_aloadn (pc := 81) C dX3_readInto_81 (i := 0) rfl 0 rfl ?_
  obtain ⟨hs90, h⟩ := gp_e h
  have hs9 := sok_e hs90
  obtain ⟨b10, hb10, h⟩ := rl_e h
  refine k_getR (pc := 82) C lkF_RX3_25_3 hs9 ir_3_6 hb10 dX3_readInto_82 ?_
  obtain ⟨hs110, h⟩ := gp_e h
  have hs11 := sok_e hs110
  obtain ⟨r12, hr12, h⟩ := bd_e h
  refine k_V (pc := 85) (st := []) C (c_X5_copyFrom hr12) lkV_RX3_53 hs11 rfl rfl rfl (Nat.le_of_ble_eq_true rfl) (Nat.le_of_ble_eq_true rfl) (Nat.le_of_ble_eq_true rfl) (Nat.le_of_ble_eq_true rfl) (Nat.le_of_ble_eq_true rfl) dX3_readInto_85 ?_
  refine k_nf (cells2 := 0) (slots2 := 0) (st2 := []) rfl rfl rfl ?_
  refine k_aloadn (pc := 88) C dX3_readInto_88 (i := 1) rfl 1 rfl ?_
  refine k_getI (pc := 89) C lkF_RX3_57_5 hs11 ir_5_0 dX3_readInto_89 ?_
  cases h
  exact k_iret (pc := 92) C hr hk dX3_readInto_92
def f_X3_readInto_23 (S : Sh) (R : Rw)  : Nat → Iw → Nat → Nat → Int32 → Option (Iw × Int32)
  | 0, _, _, _, _ => none
  | n + 1, I, a0, a1, x2 => (if (8 : Int32) < x2 then f_X3_readInto_80 S R  I a0 a1 else gp (sok S a0 3 7) (bd (f_X3_peek S R I a0) (fun r14 => (if r14 = (30000 : Int32) then f_X3_readInto_80 S R  I a0 a1 else bd (f_X3_readRule S R I a0) (fun r16 => (if r16.2 = 0 then (if (r16.1 a0 4) ≤ (r16.1 a0 5) then some (r16.1, (-100 : Int32) - (0 : Int32)) else rl (R a0 3) (fun b19 => gp (aok S 20 b19 (r16.1 a0 5)) (some (r16.1, (-100 : Int32) - (r16.1 b19 (r16.1 a0 5).toNatClampNeg))))) else f_X3_readInto_23 S R  n r16.1 a0 a1 (x2 + (1 : Int32))))))))
set_option maxHeartbeats 4000000 in
theorem b_X3_readInto_23 {E : Ev} {p : Program} {l : Launch} {e : Env} {s : State} {m : MethodId} {args : Array Value} {below : List Frame} {meth : Method} {c : Code} (C : Cx E RX3 cX3_readInto 3 p s m c) (hr : meth.sig.returnType = (some .int)) (hk : meth.locks = false) {S : Sh} {R : Rw} {r : Iw × Int32}  : ∀ (n : Nat) (I : Iw) (a0 : Nat) (a1 : Nat) (x2 : Int32), f_X3_readInto_23 S R  n I a0 a1 x2 = some r → Wk E 3 p l e ({ frames := 28, cells := 0, slots := 0, locals := 645 } : Room) s m args below meth c 0 0 (MQ below (Qw E S R r.1 (some (.int r.2))) args s 0 0 (fun q => E.1 ≤ q)) 23 [(0, .ref (E.1 + a0)), (1, .ref (E.1 + a1)), (2, .int x2)] [] S R I := by
  intro n
  induction n with
  | zero =>
    intro I a0 a1 x2 h
    rw [f_X3_readInto_23] at h
    cases h
  | succ n ih =>
    intro I a0 a1 x2 h
    rw [f_X3_readInto_23] at h
    refine k_iloadn (pc := 23) C dX3_readInto_23 (i := 2) rfl 2 rfl ?_
    refine k_bipush (pc := 24) C (v := (8 : Int32)) dX3_readInto_24 (by decide) ?_
    refine k_icmp_gt (pc := 26) C dX3_readInto_26 (tgt := 80) (by decide) (fun hc8 => ?_) (fun hc8 => ?_)
    · rw [if_pos hc8] at h
      refine k_loc (L2 := [(0, .ref (E.1 + a0)), (1, .ref (E.1 + a1))]) [0, 1] rfl ?_
      exact b_X3_readInto_80 C hr hk  _ _ _ h
    · rw [if_neg hc8] at h
      refine k_aloadn (pc := 29) C dX3_readInto_29 (i := 0) rfl 0 rfl ?_
      obtain ⟨hs130, h⟩ := gp_e h
      have hs13 := sok_e hs130
      obtain ⟨r14, hr14, h⟩ := bd_e h
      refine k_V (pc := 30) (st := []) C (c_X3_peek hr14) lkV_RX3_42 hs13 rfl rfl rfl (Nat.le_of_ble_eq_true rfl) (Nat.le_of_ble_eq_true rfl) (Nat.le_of_ble_eq_true rfl) (Nat.le_of_ble_eq_true rfl) (Nat.le_of_ble_eq_true rfl) dX3_readInto_30 ?_
      refine k_nf (cells2 := 0) (slots2 := 0) (st2 := [.int r14]) rfl rfl rfl ?_
      refine k_sipush (pc := 33) C (v := (30000 : Int32)) dX3_readInto_33 (by decide) ?_
      refine k_icmp_eq (pc := 36) C dX3_readInto_36 (tgt := 80) (by decide) (fun hc15 => ?_) (fun hc15 => ?_)
      · rw [if_pos hc15] at h
        refine k_loc (L2 := [(0, .ref (E.1 + a0)), (1, .ref (E.1 + a1))]) [0, 1] rfl ?_
        exact b_X3_readInto_80 C hr hk  _ _ _ h
      · rw [if_neg hc15] at h
        refine k_aloadn (pc := 39) C dX3_readInto_39 (i := 0) rfl 0 rfl ?_
        obtain ⟨r16, hr16, h⟩ := bd_e h
        refine k_V (pc := 40) (st := []) C (c_X3_readRule hr16) lkV_RX3_46 hs13 rfl rfl rfl (Nat.le_of_ble_eq_true rfl) (Nat.le_of_ble_eq_true rfl) (Nat.le_of_ble_eq_true rfl) (Nat.le_of_ble_eq_true rfl) (Nat.le_of_ble_eq_true rfl) dX3_readInto_40 ?_
        refine k_nf (cells2 := 0) (slots2 := 0) (st2 := [.int r16.2]) rfl rfl rfl ?_
        refine k_if_ne (pc := 43) C dX3_readInto_43 (tgt := 74) (by decide) (fun hc17 => ?_) (fun hc17 => ?_)
        · rw [if_neg hc17] at h
          refine k_iinc (pc := 74) C dX3_readInto_74 2 rfl (v := x2 + (1 : Int32)) (by rfl) (by decide) (L2 := [(0, .ref (E.1 + a0)), (1, .ref (E.1 + a1)), (2, .int (x2 + (1 : Int32)))]) rfl ?_
          refine k_goto (pc := 77) C dX3_readInto_77 (tgt := 23) (by decide) ?_
          exact ih _ _ _ _ h
        · rw [if_pos hc17] at h
          refine k_bipush (pc := 46) C (v := (-100 : Int32)) dX3_readInto_46 (by decide) ?_
          refine k_aloadn (pc := 48) C dX3_readInto_48 (i := 0) rfl 0 rfl ?_
          refine k_getI (pc := 49) C lkF_RX3_36_3 hs13 ir_3_5 dX3_readInto_49 ?_
          refine k_aloadn (pc := 52) C dX3_readInto_52 (i := 0) rfl 0 rfl ?_
          refine k_getI (pc := 53) C lkF_RX3_50_3 hs13 ir_3_4 dX3_readInto_53 ?_
          refine k_icmp_ge (pc := 56) C dX3_readInto_56 (tgt := 71) (by decide) (fun hc18 => ?_) (fun hc18 => ?_)
          · rw [if_pos hc18] at h
            refine k_iconst (pc := 71) C (v := (0 : Int32)) dX3_readInto_71 (by decide) ?_
            refine k_isub (pc := 72) C dX3_readInto_72 ?_
            cases h
            exact k_iret (pc := 73) C hr hk dX3_readInto_73
          · rw [if_neg hc18] at h
            refine k_aloadn (pc := 59) C dX3_readInto_59 (i := 0) rfl 0 rfl ?_
            obtain ⟨b19, hb19, h⟩ := rl_e h
            refine k_getR (pc := 60) C lkF_RX3_19_3 hs13 ir_3_3 hb19 dX3_readInto_60 ?_
            refine k_aloadn (pc := 63) C dX3_readInto_63 (i := 0) rfl 0 rfl ?_
            refine k_getI (pc := 64) C lkF_RX3_36_3 hs13 ir_3_5 dX3_readInto_64 ?_
            obtain ⟨ha20, h⟩ := gp_e h
            refine k_iald (pc := 67) C ha20 dX3_readInto_67 ?_
            refine k_goto (pc := 68) C dX3_readInto_68 (tgt := 72) (by decide) ?_
            refine k_isub (pc := 72) C dX3_readInto_72 ?_
            cases h
            exact k_iret (pc := 73) C hr hk dX3_readInto_73
def f_X3_readInto (S : Sh) (R : Rw)  (I : Iw) (a0 : Nat) (a1 : Nat) : Option (Iw × Int32) := gp (sok S a0 3 7) (bd (f_X3_partTape S R I a0) (fun r2 => lt (up2 r2 a0 5 (0 : Int32)) (fun I3 => lt (up2 I3 a0 0 (0 : Int32)) (fun I4 => rl (R a0 6) (fun b5 => gp (sok S b5 5 8) (bd (f_X5_clear S R I4 b5) (fun r7 => f_X3_readInto_23 S R  512 r7 a0 a1 (0 : Int32))))))))
set_option maxHeartbeats 4000000 in
theorem b_X3_readInto {E : Ev} {p : Program} {l : Launch} {e : Env} {s : State} {m : MethodId} {args : Array Value} {below : List Frame} {meth : Method} {c : Code} (C : Cx E RX3 cX3_readInto 3 p s m c) (hr : meth.sig.returnType = (some .int)) (hk : meth.locks = false) {S : Sh} {R : Rw} {r : Iw × Int32}  : ∀ (I : Iw) (a0 : Nat) (a1 : Nat), f_X3_readInto S R   I a0 a1 = some r → Wk E 3 p l e ({ frames := 28, cells := 0, slots := 0, locals := 645 } : Room) s m args below meth c 0 0 (MQ below (Qw E S R r.1 (some (.int r.2))) args s 0 0 (fun q => E.1 ≤ q)) 0 [(0, .ref (E.1 + a0)), (1, .ref (E.1 + a1))] [] S R I := by
  intro I a0 a1 h
  rw [f_X3_readInto] at h
  refine k_aloadn (pc := 0) C dX3_readInto_0 (i := 0) rfl 0 rfl ?_
  obtain ⟨hs10, h⟩ := gp_e h
  have hs1 := sok_e hs10
  obtain ⟨r2, hr2, h⟩ := bd_e h
  refine k_V (pc := 1) (st := []) C (c_X3_partTape hr2) lkV_RX3_33 hs1 rfl rfl rfl (Nat.le_of_ble_eq_true rfl) (Nat.le_of_ble_eq_true rfl) (Nat.le_of_ble_eq_true rfl) (Nat.le_of_ble_eq_true rfl) (Nat.le_of_ble_eq_true rfl) dX3_readInto_1 ?_
  refine k_nf (cells2 := 0) (slots2 := 0) (st2 := []) rfl rfl rfl ?_
  refine k_aloadn (pc := 4) C dX3_readInto_4 (i := 0) rfl 0 rfl ?_
  refine k_iconst (pc := 5) C (v := (0 : Int32)) dX3_readInto_5 (by decide) ?_
  obtain ⟨I3, eI3, h⟩ := lt_e h
  refine k_putI (pc := 6) C lkP_RX3_36_3 hs1 ir_3_5 dX3_readInto_6 ?_
  rw [← eI3]
  refine k_aloadn (pc := 9) C dX3_readInto_9 (i := 0) rfl 0 rfl ?_
  refine k_iconst (pc := 10) C (v := (0 : Int32)) dX3_readInto_10 (by decide) ?_
  obtain ⟨I4, eI4, h⟩ := lt_e h
  refine k_putI (pc := 11) C lkP_RX3_29_3 hs1 ir_3_0 dX3_readInto_11 ?_
  rw [← eI4]
  refine k_aloadn (pc := 14) C dX3_readInto_14 (i := 0) rfl 0 rfl ?_
  obtain ⟨b5, hb5, h⟩ := rl_e h
  refine k_getR (pc := 15) C lkF_RX3_25_3 hs1 ir_3_6 hb5 dX3_readInto_15 ?_
  obtain ⟨hs60, h⟩ := gp_e h
  have hs6 := sok_e hs60
  obtain ⟨r7, hr7, h⟩ := bd_e h
  refine k_V (pc := 18) (st := []) C (c_X5_clear hr7) lkV_RX3_39 hs6 rfl rfl rfl (Nat.le_of_ble_eq_true rfl) (Nat.le_of_ble_eq_true rfl) (Nat.le_of_ble_eq_true rfl) (Nat.le_of_ble_eq_true rfl) (Nat.le_of_ble_eq_true rfl) dX3_readInto_18 ?_
  refine k_nf (cells2 := 0) (slots2 := 0) (st2 := []) rfl rfl rfl ?_
  refine k_iconst (pc := 21) C (v := (0 : Int32)) dX3_readInto_21 (by decide) ?_
  refine k_istoren (pc := 22) C dX3_readInto_22 (i := 2) rfl (by decide) (L2 := [(0, .ref (E.1 + a0)), (1, .ref (E.1 + a1)), (2, .int (0 : Int32))]) rfl ?_
  exact b_X3_readInto_23 C hr hk  _ _ _ _ _ h
theorem c_X3_readInto {E : Ev} {l : Launch} {S : Sh} {R : Rw} {I : Iw} {a0 : Nat} {a1 : Nat} {r : Iw × Int32} (h : f_X3_readInto S R I a0 a1 = some r) : Mt E l yX3_readInto cX3_readInto 3 (some .int) 28 645 [.ref (E.1 + a0), .ref (E.1 + a1)] S R I S R r.1 (some (.int r.2)) 0 0 := mt_of (by decide) (Nat.le_of_ble_eq_true rfl) (fun p e s m args below meth c C hr hk hn => b_X3_readInto C hr hk _ _ _ h)
theorem dX3_isValue_0 : decode cX3_isValue 0 = .ok (.iload_n 0, 1) := by decide +kernel
theorem dX3_isValue_1 : decode cX3_isValue 1 = .ok (.sipush 10000, 3) := by decide +kernel
theorem dX3_isValue_4 : decode cX3_isValue 4 = .ok (.if_icmp .lt 17, 3) := by decide +kernel
theorem dX3_isValue_7 : decode cX3_isValue 7 = .ok (.iload_n 0, 1) := by decide +kernel
theorem dX3_isValue_8 : decode cX3_isValue 8 = .ok (.sipush 10013, 3) := by decide +kernel
theorem dX3_isValue_11 : decode cX3_isValue 11 = .ok (.if_icmp .lt 14, 3) := by decide +kernel
theorem dX3_isValue_14 : decode cX3_isValue 14 = .ok (.iload_n 0, 1) := by decide +kernel
theorem dX3_isValue_15 : decode cX3_isValue 15 = .ok (.sipush 10017, 3) := by decide +kernel
theorem dX3_isValue_18 : decode cX3_isValue 18 = .ok (.if_icmp .gt 7, 3) := by decide +kernel
theorem dX3_isValue_21 : decode cX3_isValue 21 = .ok (.iconst 1, 1) := by decide +kernel
theorem dX3_isValue_22 : decode cX3_isValue 22 = .ok (.goto 4, 3) := by decide +kernel
theorem dX3_isValue_25 : decode cX3_isValue 25 = .ok (.iconst 0, 1) := by decide +kernel
theorem dX3_isValue_26 : decode cX3_isValue 26 = .ok (.ireturn, 1) := by decide +kernel
def f_X3_isValue_21 (S : Sh) (R : Rw) (I : Iw)   : Option (Int32) := some (1 : Int32)
set_option maxHeartbeats 4000000 in
theorem b_X3_isValue_21 {E : Ev} {p : Program} {l : Launch} {e : Env} {s : State} {m : MethodId} {args : Array Value} {below : List Frame} {meth : Method} {c : Code} (C : Cx E RX3 cX3_isValue 1 p s m c) (hr : meth.sig.returnType = (some .boolean)) (hk : meth.locks = false) {S : Sh} {R : Rw} {I : Iw} {r : Int32}  : f_X3_isValue_21 S R I    = some r → Wk E 1 p l e ({ frames := 0, cells := 0, slots := 0, locals := 0 } : Room) s m args below meth c 0 0 (MQ below (Qw E S R I (some (.int r))) args s 0 0 (fun q => E.1 ≤ q)) 21 [] [] S R I := by
  intro  h
  rw [f_X3_isValue_21] at h
  refine k_iconst (pc := 21) C (v := (1 : Int32)) dX3_isValue_21 (by decide) ?_
  refine k_goto (pc := 22) C dX3_isValue_22 (tgt := 26) (by decide) ?_
  cases h
  exact k_zret (pc := 26) C hr hk (Or.inr rfl) dX3_isValue_26
def f_X3_isValue (S : Sh) (R : Rw) (I : Iw)  (x0 : Int32) : Option (Int32) := (if x0 < (10000 : Int32) then f_X3_isValue_21 S R I   else (if x0 < (10013 : Int32) then some (0 : Int32) else (if (10017 : Int32) < x0 then some (0 : Int32) else f_X3_isValue_21 S R I  )))
set_option maxHeartbeats 4000000 in
theorem b_X3_isValue {E : Ev} {p : Program} {l : Launch} {e : Env} {s : State} {m : MethodId} {args : Array Value} {below : List Frame} {meth : Method} {c : Code} (C : Cx E RX3 cX3_isValue 1 p s m c) (hr : meth.sig.returnType = (some .boolean)) (hk : meth.locks = false) {S : Sh} {R : Rw} {I : Iw} {r : Int32}  : ∀ (x0 : Int32), f_X3_isValue S R I   x0 = some r → Wk E 1 p l e ({ frames := 0, cells := 0, slots := 0, locals := 0 } : Room) s m args below meth c 0 0 (MQ below (Qw E S R I (some (.int r))) args s 0 0 (fun q => E.1 ≤ q)) 0 [(0, .int x0)] [] S R I := by
  intro x0 h
  rw [f_X3_isValue] at h
  refine k_iloadn (pc := 0) C dX3_isValue_0 (i := 0) rfl 0 rfl ?_
  refine k_sipush (pc := 1) C (v := (10000 : Int32)) dX3_isValue_1 (by decide) ?_
  refine k_icmp_lt (pc := 4) C dX3_isValue_4 (tgt := 21) (by decide) (fun hc1 => ?_) (fun hc1 => ?_)
  · rw [if_pos hc1] at h
    refine k_loc (L2 := []) [] rfl ?_
    exact b_X3_isValue_21 C hr hk   h
  · rw [if_neg hc1] at h
    refine k_iloadn (pc := 7) C dX3_isValue_7 (i := 0) rfl 0 rfl ?_
    refine k_sipush (pc := 8) C (v := (10013 : Int32)) dX3_isValue_8 (by decide) ?_
    refine k_icmp_lt (pc := 11) C dX3_isValue_11 (tgt := 25) (by decide) (fun hc2 => ?_) (fun hc2 => ?_)
    · rw [if_pos hc2] at h
      refine k_iconst (pc := 25) C (v := (0 : Int32)) dX3_isValue_25 (by decide) ?_
      cases h
      exact k_zret (pc := 26) C hr hk (Or.inl rfl) dX3_isValue_26
    · rw [if_neg hc2] at h
      refine k_iloadn (pc := 14) C dX3_isValue_14 (i := 0) rfl 0 rfl ?_
      refine k_sipush (pc := 15) C (v := (10017 : Int32)) dX3_isValue_15 (by decide) ?_
      refine k_icmp_gt (pc := 18) C dX3_isValue_18 (tgt := 25) (by decide) (fun hc3 => ?_) (fun hc3 => ?_)
      · rw [if_pos hc3] at h
        refine k_iconst (pc := 25) C (v := (0 : Int32)) dX3_isValue_25 (by decide) ?_
        cases h
        exact k_zret (pc := 26) C hr hk (Or.inl rfl) dX3_isValue_26
      · rw [if_neg hc3] at h
        refine k_loc (L2 := []) [] rfl ?_
        exact b_X3_isValue_21 C hr hk   h
theorem c_X3_isValue {E : Ev} {l : Launch} {S : Sh} {R : Rw} {I : Iw} {x0 : Int32} {r : Int32} (h : f_X3_isValue S R I x0 = some r) : Mt E l yX3_isValue cX3_isValue 1 (some .boolean) 0 0 [.int x0] S R I S R I (some (.int r)) 0 0 := mt_of (by decide) (Nat.le_of_ble_eq_true rfl) (fun p e s m args below meth c C hr hk hn => b_X3_isValue C hr hk _ h)
theorem lkS_RX3_114 : LkS RX3 114 yX3_isValue cX3_isValue 1 (some .boolean) 1 := ⟨(t3_in 19 (by decide +kernel) rfl), (t3_in 20 (by decide +kernel) rfl), (t3_in 21 (by decide +kernel) rfl), (t1_in 4 (by decide +kernel) rfl), by decide, by decide +kernel⟩
theorem dX3_readComparison_0 : decode cX3_readComparison 0 = .ok (.aload_n 0, 1) := by decide +kernel
theorem dX3_readComparison_1 : decode cX3_readComparison 1 = .ok (.invokevirtual 42, 3) := by decide +kernel
theorem dX3_readComparison_4 : decode cX3_readComparison 4 = .ok (.istore_n 1, 1) := by decide +kernel
theorem dX3_readComparison_5 : decode cX3_readComparison 5 = .ok (.iload_n 1, 1) := by decide +kernel
theorem dX3_readComparison_6 : decode cX3_readComparison 6 = .ok (.invokestatic 114, 3) := by decide +kernel
theorem dX3_readComparison_9 : decode cX3_readComparison 9 = .ok (.ifCond .ne 5, 3) := by decide +kernel
theorem dX3_readComparison_12 : decode cX3_readComparison 12 = .ok (.iconst 0, 1) := by decide +kernel
theorem dX3_readComparison_13 : decode cX3_readComparison 13 = .ok (.ireturn, 1) := by decide +kernel
theorem dX3_readComparison_14 : decode cX3_readComparison 14 = .ok (.aload_n 0, 1) := by decide +kernel
theorem dX3_readComparison_15 : decode cX3_readComparison 15 = .ok (.dup, 1) := by decide +kernel
theorem dX3_readComparison_16 : decode cX3_readComparison 16 = .ok (.getfield 36, 3) := by decide +kernel
theorem dX3_readComparison_19 : decode cX3_readComparison 19 = .ok (.iconst 1, 1) := by decide +kernel
theorem dX3_readComparison_20 : decode cX3_readComparison 20 = .ok (.iadd, 1) := by decide +kernel
theorem dX3_readComparison_21 : decode cX3_readComparison 21 = .ok (.putfield 36, 3) := by decide +kernel
theorem dX3_readComparison_24 : decode cX3_readComparison 24 = .ok (.aload_n 0, 1) := by decide +kernel
theorem dX3_readComparison_25 : decode cX3_readComparison 25 = .ok (.invokevirtual 42, 3) := by decide +kernel
theorem dX3_readComparison_28 : decode cX3_readComparison 28 = .ok (.istore_n 2, 1) := by decide +kernel
theorem dX3_readComparison_29 : decode cX3_readComparison 29 = .ok (.iload_n 2, 1) := by decide +kernel
theorem dX3_readComparison_30 : decode cX3_readComparison 30 = .ok (.sipush 20060, 3) := by decide +kernel
theorem dX3_readComparison_33 : decode cX3_readComparison 33 = .ok (.if_icmp .eq 19, 3) := by decide +kernel
theorem dX3_readComparison_36 : decode cX3_readComparison 36 = .ok (.iload_n 2, 1) := by decide +kernel
theorem dX3_readComparison_37 : decode cX3_readComparison 37 = .ok (.sipush 20061, 3) := by decide +kernel
theorem dX3_readComparison_40 : decode cX3_readComparison 40 = .ok (.if_icmp .eq 12, 3) := by decide +kernel
theorem dX3_readComparison_43 : decode cX3_readComparison 43 = .ok (.iload_n 2, 1) := by decide +kernel
theorem dX3_readComparison_44 : decode cX3_readComparison 44 = .ok (.sipush 20062, 3) := by decide +kernel
theorem dX3_readComparison_47 : decode cX3_readComparison 47 = .ok (.if_icmp .eq 5, 3) := by decide +kernel
theorem dX3_readComparison_50 : decode cX3_readComparison 50 = .ok (.iconst 0, 1) := by decide +kernel
theorem dX3_readComparison_51 : decode cX3_readComparison 51 = .ok (.ireturn, 1) := by decide +kernel
theorem dX3_readComparison_52 : decode cX3_readComparison 52 = .ok (.aload_n 0, 1) := by decide +kernel
theorem dX3_readComparison_53 : decode cX3_readComparison 53 = .ok (.dup, 1) := by decide +kernel
theorem dX3_readComparison_54 : decode cX3_readComparison 54 = .ok (.getfield 36, 3) := by decide +kernel
theorem dX3_readComparison_57 : decode cX3_readComparison 57 = .ok (.iconst 1, 1) := by decide +kernel
theorem dX3_readComparison_58 : decode cX3_readComparison 58 = .ok (.iadd, 1) := by decide +kernel
theorem dX3_readComparison_59 : decode cX3_readComparison 59 = .ok (.putfield 36, 3) := by decide +kernel
theorem dX3_readComparison_62 : decode cX3_readComparison 62 = .ok (.aload_n 0, 1) := by decide +kernel
theorem dX3_readComparison_63 : decode cX3_readComparison 63 = .ok (.invokevirtual 42, 3) := by decide +kernel
theorem dX3_readComparison_66 : decode cX3_readComparison 66 = .ok (.istore_n 3, 1) := by decide +kernel
theorem dX3_readComparison_67 : decode cX3_readComparison 67 = .ok (.iload_n 3, 1) := by decide +kernel
theorem dX3_readComparison_68 : decode cX3_readComparison 68 = .ok (.invokestatic 114, 3) := by decide +kernel
theorem dX3_readComparison_71 : decode cX3_readComparison 71 = .ok (.ifCond .ne 5, 3) := by decide +kernel
theorem dX3_readComparison_74 : decode cX3_readComparison 74 = .ok (.iconst 0, 1) := by decide +kernel
theorem dX3_readComparison_75 : decode cX3_readComparison 75 = .ok (.ireturn, 1) := by decide +kernel
theorem dX3_readComparison_76 : decode cX3_readComparison 76 = .ok (.aload_n 0, 1) := by decide +kernel
theorem dX3_readComparison_77 : decode cX3_readComparison 77 = .ok (.dup, 1) := by decide +kernel
theorem dX3_readComparison_78 : decode cX3_readComparison 78 = .ok (.getfield 36, 3) := by decide +kernel
theorem dX3_readComparison_81 : decode cX3_readComparison 81 = .ok (.iconst 1, 1) := by decide +kernel
theorem dX3_readComparison_82 : decode cX3_readComparison 82 = .ok (.iadd, 1) := by decide +kernel
theorem dX3_readComparison_83 : decode cX3_readComparison 83 = .ok (.putfield 36, 3) := by decide +kernel
theorem dX3_readComparison_86 : decode cX3_readComparison 86 = .ok (.aload_n 0, 1) := by decide +kernel
theorem dX3_readComparison_87 : decode cX3_readComparison 87 = .ok (.getfield 25, 3) := by decide +kernel
theorem dX3_readComparison_90 : decode cX3_readComparison 90 = .ok (.iload_n 2, 1) := by decide +kernel
theorem dX3_readComparison_91 : decode cX3_readComparison 91 = .ok (.iload_n 1, 1) := by decide +kernel
theorem dX3_readComparison_92 : decode cX3_readComparison 92 = .ok (.iload_n 3, 1) := by decide +kernel
theorem dX3_readComparison_93 : decode cX3_readComparison 93 = .ok (.invokevirtual 104, 3) := by decide +kernel
theorem dX3_readComparison_96 : decode cX3_readComparison 96 = .ok (.iconst 1, 1) := by decide +kernel
theorem dX3_readComparison_97 : decode cX3_readComparison 97 = .ok (.ireturn, 1) := by decide +kernel
def f_X3_readComparison_52 (S : Sh) (R : Rw)  (I : Iw) (a0 : Nat) (x1 : Int32) (x2 : Int32) : Option (Iw × Int32) := gp (sok S a0 3 7) (lt (up2 I a0 5 ((I a0 5) + (1 : Int32))) (fun I9 => bd (f_X3_peek S R I9 a0) (fun r10 => bd (f_X3_isValue S R I9 r10) (fun r11 => (if r11 = 0 then some (I9, (0 : Int32)) else lt (up2 I9 a0 5 ((I9 a0 5) + (1 : Int32))) (fun I13 => rl (R a0 6) (fun b14 => gp (sok S b14 5 8) (bd (f_X5_addStep S R I13 b14 x2 x1 r10) (fun r16 => some (r16, (1 : Int32)))))))))))
set_option maxHeartbeats 4000000 in
theorem b_X3_readComparison_52 {E : Ev} {p : Program} {l : Launch} {e : Env} {s : State} {m : MethodId} {args : Array Value} {below : List Frame} {meth : Method} {c : Code} (C : Cx E RX3 cX3_readComparison 4 p s m c) (hr : meth.sig.returnType = (some .boolean)) (hk : meth.locks = false) {S : Sh} {R : Rw} {r : Iw × Int32}  : ∀ (I : Iw) (a0 : Nat) (x1 : Int32) (x2 : Int32), f_X3_readComparison_52 S R   I a0 x1 x2 = some r → Wk E 4 p l e ({ frames := 1, cells := 0, slots := 0, locals := 23 } : Room) s m args below meth c 0 0 (MQ below (Qw E S R r.1 (some (.int r.2))) args s 0 0 (fun q => E.1 ≤ q)) 52 [(0, .ref (E.1 + a0)), (1, .int x1), (2, .int x2)] [] S R I := by
  intro I a0 x1 x2 h
  rw [f_X3_readComparison_52] at h
  refine k_aloadn (pc := 52) C dX3_readComparison_52 (i := 0) rfl 0 rfl ?_
  refine k_dup (pc := 53) C dX3_readComparison_53 rfl ?_
  obtain ⟨hs80, h⟩ := gp_e h
  have hs8 := sok_e hs80
  refine k_getI (pc := 54) C lkF_RX3_36_3 hs8 ir_3_5 dX3_readComparison_54 ?_
  refine k_iconst (pc := 57) C (v := (1 : Int32)) dX3_readComparison_57 (by decide) ?_
  refine k_iadd (pc := 58) C dX3_readComparison_58 ?_
  obtain ⟨I9, eI9, h⟩ := lt_e h
  refine k_putI (pc := 59) C lkP_RX3_36_3 hs8 ir_3_5 dX3_readComparison_59 ?_
  rw [← eI9]
  refine k_aloadn (pc := 62) C dX3_readComparison_62 (i := 0) rfl 0 rfl ?_
  obtain ⟨r10, hr10, h⟩ := bd_e h
  refine k_V (pc := 63) (st := []) C (c_X3_peek hr10) lkV_RX3_42 hs8 rfl rfl rfl (Nat.le_of_ble_eq_true rfl) (Nat.le_of_ble_eq_true rfl) (Nat.le_of_ble_eq_true rfl) (Nat.le_of_ble_eq_true rfl) (Nat.le_of_ble_eq_true rfl) dX3_readComparison_63 ?_
  refine k_nf (cells2 := 0) (slots2 := 0) (st2 := [.int r10]) rfl rfl rfl ?_
  refine k_istoren (pc := 66) C dX3_readComparison_66 (i := 3) rfl (by decide) (L2 := [(0, .ref (E.1 + a0)), (1, .int x1), (2, .int x2), (3, .int r10)]) rfl ?_
  refine k_iloadn (pc := 67) C dX3_readComparison_67 (i := 3) rfl 3 rfl ?_
  obtain ⟨r11, hr11, h⟩ := bd_e h
  refine k_S (pc := 68) (st := []) C (c_X3_isValue hr11) lkS_RX3_114 rfl rfl (Nat.le_of_ble_eq_true rfl) (Nat.le_of_ble_eq_true rfl) (Nat.le_of_ble_eq_true rfl) (Nat.le_of_ble_eq_true rfl) (Nat.le_of_ble_eq_true rfl) dX3_readComparison_68 ?_
  refine k_nf (cells2 := 0) (slots2 := 0) (st2 := [.int r11]) rfl rfl rfl ?_
  refine k_if_ne (pc := 71) C dX3_readComparison_71 (tgt := 76) (by decide) (fun hc12 => ?_) (fun hc12 => ?_)
  · rw [if_neg hc12] at h
    refine k_aloadn (pc := 76) C dX3_readComparison_76 (i := 0) rfl 0 rfl ?_
    refine k_dup (pc := 77) C dX3_readComparison_77 rfl ?_
    refine k_getI (pc := 78) C lkF_RX3_36_3 hs8 ir_3_5 dX3_readComparison_78 ?_
    refine k_iconst (pc := 81) C (v := (1 : Int32)) dX3_readComparison_81 (by decide) ?_
    refine k_iadd (pc := 82) C dX3_readComparison_82 ?_
    obtain ⟨I13, eI13, h⟩ := lt_e h
    refine k_putI (pc := 83) C lkP_RX3_36_3 hs8 ir_3_5 dX3_readComparison_83 ?_
    rw [← eI13]
    refine k_aloadn (pc := 86) C dX3_readComparison_86 (i := 0) rfl 0 rfl ?_
    obtain ⟨b14, hb14, h⟩ := rl_e h
    refine k_getR (pc := 87) C lkF_RX3_25_3 hs8 ir_3_6 hb14 dX3_readComparison_87 ?_
    refine k_iloadn (pc := 90) C dX3_readComparison_90 (i := 2) rfl 2 rfl ?_
    refine k_iloadn (pc := 91) C dX3_readComparison_91 (i := 1) rfl 1 rfl ?_
    refine k_iloadn (pc := 92) C dX3_readComparison_92 (i := 3) rfl 3 rfl ?_
    obtain ⟨hs150, h⟩ := gp_e h
    have hs15 := sok_e hs150
    obtain ⟨r16, hr16, h⟩ := bd_e h
    refine k_V (pc := 93) (st := []) C (c_X5_addStep hr16) lkV_RX3_104 hs15 rfl rfl rfl (Nat.le_of_ble_eq_true rfl) (Nat.le_of_ble_eq_true rfl) (Nat.le_of_ble_eq_true rfl) (Nat.le_of_ble_eq_true rfl) (Nat.le_of_ble_eq_true rfl) dX3_readComparison_93 ?_
    refine k_nf (cells2 := 0) (slots2 := 0) (st2 := []) rfl rfl rfl ?_
    refine k_iconst (pc := 96) C (v := (1 : Int32)) dX3_readComparison_96 (by decide) ?_
    cases h
    exact k_zret (pc := 97) C hr hk (Or.inr rfl) dX3_readComparison_97
  · rw [if_pos hc12] at h
    refine k_iconst (pc := 74) C (v := (0 : Int32)) dX3_readComparison_74 (by decide) ?_
    cases h
    exact k_zret (pc := 75) C hr hk (Or.inl rfl) dX3_readComparison_75
def f_X3_readComparison (S : Sh) (R : Rw)  (I : Iw) (a0 : Nat) : Option (Iw × Int32) := gp (sok S a0 3 7) (bd (f_X3_peek S R I a0) (fun r2 => bd (f_X3_isValue S R I r2) (fun r3 => (if r3 = 0 then some (I, (0 : Int32)) else lt (up2 I a0 5 ((I a0 5) + (1 : Int32))) (fun I5 => bd (f_X3_peek S R I5 a0) (fun r6 => (if r6 = (20060 : Int32) then f_X3_readComparison_52 S R  I5 a0 r2 r6 else (if r6 = (20061 : Int32) then f_X3_readComparison_52 S R  I5 a0 r2 r6 else (if r6 = (20062 : Int32) then f_X3_readComparison_52 S R  I5 a0 r2 r6 else some (I5, (0 : Int32)))))))))))
set_option maxHeartbeats 4000000 in
theorem b_X3_readComparison {E : Ev} {p : Program} {l : Launch} {e : Env} {s : State} {m : MethodId} {args : Array Value} {below : List Frame} {meth : Method} {c : Code} (C : Cx E RX3 cX3_readComparison 4 p s m c) (hr : meth.sig.returnType = (some .boolean)) (hk : meth.locks = false) {S : Sh} {R : Rw} {r : Iw × Int32}  : ∀ (I : Iw) (a0 : Nat), f_X3_readComparison S R   I a0 = some r → Wk E 4 p l e ({ frames := 1, cells := 0, slots := 0, locals := 23 } : Room) s m args below meth c 0 0 (MQ below (Qw E S R r.1 (some (.int r.2))) args s 0 0 (fun q => E.1 ≤ q)) 0 [(0, .ref (E.1 + a0))] [] S R I := by
  intro I a0 h
  rw [f_X3_readComparison] at h
  refine k_aloadn (pc := 0) C dX3_readComparison_0 (i := 0) rfl 0 rfl ?_
  obtain ⟨hs10, h⟩ := gp_e h
  have hs1 := sok_e hs10
  obtain ⟨r2, hr2, h⟩ := bd_e h
  refine k_V (pc := 1) (st := []) C (c_X3_peek hr2) lkV_RX3_42 hs1 rfl rfl rfl (Nat.le_of_ble_eq_true rfl) (Nat.le_of_ble_eq_true rfl) (Nat.le_of_ble_eq_true rfl) (Nat.le_of_ble_eq_true rfl) (Nat.le_of_ble_eq_true rfl) dX3_readComparison_1 ?_
  refine k_nf (cells2 := 0) (slots2 := 0) (st2 := [.int r2]) rfl rfl rfl ?_
  refine k_istoren (pc := 4) C dX3_readComparison_4 (i := 1) rfl (by decide) (L2 := [(0, .ref (E.1 + a0)), (1, .int r2)]) rfl ?_
  refine k_iloadn (pc := 5) C dX3_readComparison_5 (i := 1) rfl 1 rfl ?_
  obtain ⟨r3, hr3, h⟩ := bd_e h
  refine k_S (pc := 6) (st := []) C (c_X3_isValue hr3) lkS_RX3_114 rfl rfl (Nat.le_of_ble_eq_true rfl) (Nat.le_of_ble_eq_true rfl) (Nat.le_of_ble_eq_true rfl) (Nat.le_of_ble_eq_true rfl) (Nat.le_of_ble_eq_true rfl) dX3_readComparison_6 ?_
  refine k_nf (cells2 := 0) (slots2 := 0) (st2 := [.int r3]) rfl rfl rfl ?_
  refine k_if_ne (pc := 9) C dX3_readComparison_9 (tgt := 14) (by decide) (fun hc4 => ?_) (fun hc4 => ?_)
  · rw [if_neg hc4] at h
    refine k_aloadn (pc := 14) C dX3_readComparison_14 (i := 0) rfl 0 rfl ?_
    refine k_dup (pc := 15) C dX3_readComparison_15 rfl ?_
    refine k_getI (pc := 16) C lkF_RX3_36_3 hs1 ir_3_5 dX3_readComparison_16 ?_
    refine k_iconst (pc := 19) C (v := (1 : Int32)) dX3_readComparison_19 (by decide) ?_
    refine k_iadd (pc := 20) C dX3_readComparison_20 ?_
    obtain ⟨I5, eI5, h⟩ := lt_e h
    refine k_putI (pc := 21) C lkP_RX3_36_3 hs1 ir_3_5 dX3_readComparison_21 ?_
    rw [← eI5]
    refine k_aloadn (pc := 24) C dX3_readComparison_24 (i := 0) rfl 0 rfl ?_
    obtain ⟨r6, hr6, h⟩ := bd_e h
    refine k_V (pc := 25) (st := []) C (c_X3_peek hr6) lkV_RX3_42 hs1 rfl rfl rfl (Nat.le_of_ble_eq_true rfl) (Nat.le_of_ble_eq_true rfl) (Nat.le_of_ble_eq_true rfl) (Nat.le_of_ble_eq_true rfl) (Nat.le_of_ble_eq_true rfl) dX3_readComparison_25 ?_
    refine k_nf (cells2 := 0) (slots2 := 0) (st2 := [.int r6]) rfl rfl rfl ?_
    refine k_istoren (pc := 28) C dX3_readComparison_28 (i := 2) rfl (by decide) (L2 := [(0, .ref (E.1 + a0)), (1, .int r2), (2, .int r6)]) rfl ?_
    refine k_iloadn (pc := 29) C dX3_readComparison_29 (i := 2) rfl 2 rfl ?_
    refine k_sipush (pc := 30) C (v := (20060 : Int32)) dX3_readComparison_30 (by decide) ?_
    refine k_icmp_eq (pc := 33) C dX3_readComparison_33 (tgt := 52) (by decide) (fun hc7 => ?_) (fun hc7 => ?_)
    · rw [if_pos hc7] at h
      exact b_X3_readComparison_52 C hr hk  _ _ _ _ h
    · rw [if_neg hc7] at h
      refine k_iloadn (pc := 36) C dX3_readComparison_36 (i := 2) rfl 2 rfl ?_
      refine k_sipush (pc := 37) C (v := (20061 : Int32)) dX3_readComparison_37 (by decide) ?_
      refine k_icmp_eq (pc := 40) C dX3_readComparison_40 (tgt := 52) (by decide) (fun hc17 => ?_) (fun hc17 => ?_)
      · rw [if_pos hc17] at h
        exact b_X3_readComparison_52 C hr hk  _ _ _ _ h
      · rw [if_neg hc17] at h
        refine k_iloadn (pc := 43) C dX3_readComparison_43 (i := 2) rfl 2 rfl ?_
        refine k_sipush (pc := 44) C (v := (20062 : Int32)) dX3_readComparison_44 (by decide) ?_
        refine k_icmp_eq (pc := 47) C dX3_readComparison_47 (tgt := 52) (by decide) (fun hc18 => ?_) (fun hc18 => ?_)
        · rw [if_pos hc18] at h
          exact b_X3_readComparison_52 C hr hk  _ _ _ _ h
        · rw [if_neg hc18] at h
          refine k_iconst (pc := 50) C (v := (0 : Int32)) dX3_readComparison_50 (by decide) ?_
          cases h
          exact k_zret (pc := 51) C hr hk (Or.inl rfl) dX3_readComparison_51
  · rw [if_pos hc4] at h
    refine k_iconst (pc := 12) C (v := (0 : Int32)) dX3_readComparison_12 (by decide) ?_
    cases h
    exact k_zret (pc := 13) C hr hk (Or.inl rfl) dX3_readComparison_13
theorem c_X3_readComparison {E : Ev} {l : Launch} {S : Sh} {R : Rw} {I : Iw} {a0 : Nat} {r : Iw × Int32} (h : f_X3_readComparison S R I a0 = some r) : Mt E l yX3_readComparison cX3_readComparison 4 (some .boolean) 1 23 [.ref (E.1 + a0)] S R I S R r.1 (some (.int r.2)) 0 0 := mt_of (by decide) (Nat.le_of_ble_eq_true rfl) (fun p e s m args below meth c C hr hk hn => b_X3_readComparison C hr hk _ _ h)
theorem lkV_RX3_111 : LkV RX3 111 RX3 yX3_readComparison cX3_readComparison 4 (some .boolean) 0 := ⟨(t3_in 15 (by decide +kernel) rfl), (t3_in 17 (by decide +kernel) rfl), (t0_in 16 (by decide +kernel) rfl), (t3_in 18 (by decide +kernel) rfl), (t1_in 4 (by decide +kernel) rfl), by decide, by decide +kernel⟩
theorem dX3_readOne_0 : decode cX3_readOne 0 = .ok (.iconst 0, 1) := by decide +kernel
theorem dX3_readOne_1 : decode cX3_readOne 1 = .ok (.istore_n 2, 1) := by decide +kernel
theorem dX3_readOne_2 : decode cX3_readOne 2 = .ok (.iconst 0, 1) := by decide +kernel
theorem dX3_readOne_3 : decode cX3_readOne 3 = .ok (.istore_n 3, 1) := by decide +kernel
theorem dX3_readOne_4 : decode cX3_readOne 4 = .ok (.iload_n 3, 1) := by decide +kernel
theorem dX3_readOne_5 : decode cX3_readOne 5 = .ok (.sipush 200, 3) := by decide +kernel
theorem dX3_readOne_8 : decode cX3_readOne 8 = .ok (.if_icmp .ge 39, 3) := by decide +kernel
theorem dX3_readOne_11 : decode cX3_readOne 11 = .ok (.aload_n 0, 1) := by decide +kernel
theorem dX3_readOne_12 : decode cX3_readOne 12 = .ok (.invokevirtual 42, 3) := by decide +kernel
theorem dX3_readOne_15 : decode cX3_readOne 15 = .ok (.sipush 10009, 3) := by decide +kernel
theorem dX3_readOne_18 : decode cX3_readOne 18 = .ok (.if_icmp .ne 29, 3) := by decide +kernel
theorem dX3_readOne_21 : decode cX3_readOne 21 = .ok (.aload_n 0, 1) := by decide +kernel
theorem dX3_readOne_22 : decode cX3_readOne 22 = .ok (.dup, 1) := by decide +kernel
theorem dX3_readOne_23 : decode cX3_readOne 23 = .ok (.getfield 36, 3) := by decide +kernel
theorem dX3_readOne_26 : decode cX3_readOne 26 = .ok (.iconst 1, 1) := by decide +kernel
theorem dX3_readOne_27 : decode cX3_readOne 27 = .ok (.iadd, 1) := by decide +kernel
theorem dX3_readOne_28 : decode cX3_readOne 28 = .ok (.putfield 36, 3) := by decide +kernel
theorem dX3_readOne_31 : decode cX3_readOne 31 = .ok (.iload_n 2, 1) := by decide +kernel
theorem dX3_readOne_32 : decode cX3_readOne 32 = .ok (.ifCond .ne 7, 3) := by decide +kernel
theorem dX3_readOne_35 : decode cX3_readOne 35 = .ok (.iconst 1, 1) := by decide +kernel
theorem dX3_readOne_36 : decode cX3_readOne 36 = .ok (.goto 4, 3) := by decide +kernel
theorem dX3_readOne_39 : decode cX3_readOne 39 = .ok (.iconst 0, 1) := by decide +kernel
theorem dX3_readOne_40 : decode cX3_readOne 40 = .ok (.istore_n 2, 1) := by decide +kernel
theorem dX3_readOne_41 : decode cX3_readOne 41 = .ok (.iinc 3 1, 3) := by decide +kernel
theorem dX3_readOne_44 : decode cX3_readOne 44 = .ok (.goto (-40), 3) := by decide +kernel
theorem dX3_readOne_47 : decode cX3_readOne 47 = .ok (.aload_n 0, 1) := by decide +kernel
theorem dX3_readOne_48 : decode cX3_readOne 48 = .ok (.invokevirtual 42, 3) := by decide +kernel
theorem dX3_readOne_51 : decode cX3_readOne 51 = .ok (.sipush 20040, 3) := by decide +kernel
theorem dX3_readOne_54 : decode cX3_readOne 54 = .ok (.if_icmp .ne 55, 3) := by decide +kernel
theorem dX3_readOne_57 : decode cX3_readOne 57 = .ok (.iload_n 1, 1) := by decide +kernel
theorem dX3_readOne_58 : decode cX3_readOne 58 = .ok (.iconst 3, 1) := by decide +kernel
theorem dX3_readOne_59 : decode cX3_readOne 59 = .ok (.if_icmp .lt 5, 3) := by decide +kernel
theorem dX3_readOne_62 : decode cX3_readOne 62 = .ok (.iconst 0, 1) := by decide +kernel
theorem dX3_readOne_63 : decode cX3_readOne 63 = .ok (.ireturn, 1) := by decide +kernel
theorem dX3_readOne_64 : decode cX3_readOne 64 = .ok (.aload_n 0, 1) := by decide +kernel
theorem dX3_readOne_65 : decode cX3_readOne 65 = .ok (.dup, 1) := by decide +kernel
theorem dX3_readOne_66 : decode cX3_readOne 66 = .ok (.getfield 36, 3) := by decide +kernel
theorem dX3_readOne_69 : decode cX3_readOne 69 = .ok (.iconst 1, 1) := by decide +kernel
theorem dX3_readOne_70 : decode cX3_readOne 70 = .ok (.iadd, 1) := by decide +kernel
theorem dX3_readOne_71 : decode cX3_readOne 71 = .ok (.putfield 36, 3) := by decide +kernel
theorem dX3_readOne_74 : decode cX3_readOne 74 = .ok (.aload_n 0, 1) := by decide +kernel
theorem dX3_readOne_75 : decode cX3_readOne 75 = .ok (.iload_n 1, 1) := by decide +kernel
theorem dX3_readOne_76 : decode cX3_readOne 76 = .ok (.iconst 1, 1) := by decide +kernel
theorem dX3_readOne_77 : decode cX3_readOne 77 = .ok (.iadd, 1) := by decide +kernel
theorem dX3_readOne_78 : decode cX3_readOne 78 = .ok (.invokevirtual 94, 3) := by decide +kernel
theorem dX3_readOne_81 : decode cX3_readOne 81 = .ok (.ifCond .eq 13, 3) := by decide +kernel
theorem dX3_readOne_84 : decode cX3_readOne 84 = .ok (.aload_n 0, 1) := by decide +kernel
theorem dX3_readOne_85 : decode cX3_readOne 85 = .ok (.invokevirtual 42, 3) := by decide +kernel
theorem dX3_readOne_88 : decode cX3_readOne 88 = .ok (.sipush 20041, 3) := by decide +kernel
theorem dX3_readOne_91 : decode cX3_readOne 91 = .ok (.if_icmp .eq 5, 3) := by decide +kernel
theorem dX3_readOne_94 : decode cX3_readOne 94 = .ok (.iconst 0, 1) := by decide +kernel
theorem dX3_readOne_95 : decode cX3_readOne 95 = .ok (.ireturn, 1) := by decide +kernel
theorem dX3_readOne_96 : decode cX3_readOne 96 = .ok (.aload_n 0, 1) := by decide +kernel
theorem dX3_readOne_97 : decode cX3_readOne 97 = .ok (.dup, 1) := by decide +kernel
theorem dX3_readOne_98 : decode cX3_readOne 98 = .ok (.getfield 36, 3) := by decide +kernel
theorem dX3_readOne_101 : decode cX3_readOne 101 = .ok (.iconst 1, 1) := by decide +kernel
theorem dX3_readOne_102 : decode cX3_readOne 102 = .ok (.iadd, 1) := by decide +kernel
theorem dX3_readOne_103 : decode cX3_readOne 103 = .ok (.putfield 36, 3) := by decide +kernel
theorem dX3_readOne_106 : decode cX3_readOne 106 = .ok (.goto 12, 3) := by decide +kernel
theorem dX3_readOne_109 : decode cX3_readOne 109 = .ok (.aload_n 0, 1) := by decide +kernel
theorem dX3_readOne_110 : decode cX3_readOne 110 = .ok (.invokevirtual 111, 3) := by decide +kernel
theorem dX3_readOne_113 : decode cX3_readOne 113 = .ok (.ifCond .ne 5, 3) := by decide +kernel
theorem dX3_readOne_116 : decode cX3_readOne 116 = .ok (.iconst 0, 1) := by decide +kernel
theorem dX3_readOne_117 : decode cX3_readOne 117 = .ok (.ireturn, 1) := by decide +kernel
theorem dX3_readOne_118 : decode cX3_readOne 118 = .ok (.iload_n 2, 1) := by decide +kernel
theorem dX3_readOne_119 : decode cX3_readOne 119 = .ok (.ifCond .eq 15, 3) := by decide +kernel
theorem dX3_readOne_122 : decode cX3_readOne 122 = .ok (.aload_n 0, 1) := by decide +kernel
theorem dX3_readOne_123 : decode cX3_readOne 123 = .ok (.getfield 25, 3) := by decide +kernel
theorem dX3_readOne_126 : decode cX3_readOne 126 = .ok (.sipush 10009, 3) := by decide +kernel
theorem dX3_readOne_129 : decode cX3_readOne 129 = .ok (.iconst 0, 1) := by decide +kernel
theorem dX3_readOne_130 : decode cX3_readOne 130 = .ok (.iconst 0, 1) := by decide +kernel
theorem dX3_readOne_131 : decode cX3_readOne 131 = .ok (.invokevirtual 104, 3) := by decide +kernel
theorem dX3_readOne_134 : decode cX3_readOne 134 = .ok (.iconst 1, 1) := by decide +kernel
theorem dX3_readOne_135 : decode cX3_readOne 135 = .ok (.ireturn, 1) := by decide +kernel
def f_X3_readOne_118 (g : Sh → Rw → Iw → Nat → Int32 → Option (Iw × Int32)) (S : Sh) (R : Rw)  (I : Iw) (a0 : Nat) (x2 : Int32) : Option (Iw × Int32) := (if x2 = 0 then some (I, (1 : Int32)) else gp (sok S a0 3 7) (rl (R a0 6) (fun b9 => gp (sok S b9 5 8) (bd (f_X5_addStep S R I b9 (10009 : Int32) (0 : Int32) (0 : Int32)) (fun r11 => some (r11, (1 : Int32)))))))
set_option maxHeartbeats 4000000 in
theorem b_X3_readOne_118 {E : Ev} {p : Program} {l : Launch} {e : Env} {s : State} {m : MethodId} {args : Array Value} {below : List Frame} {meth : Method} {c : Code} {dF dL : Nat} (C : Cx E RX3 cX3_readOne 4 p s m c) (hr : meth.sig.returnType = (some .boolean)) (hk : meth.locks = false) {S : Sh} {R : Rw} {r : Iw × Int32} {g : Sh → Rw → Iw → Nat → Int32 → Option (Iw × Int32)} (hg : ∀ (S : Sh) (R : Rw) (I : Iw) (a0 : Nat) (x1 : Int32) (r : Iw × Int32), g S R I a0 x1 = some r → Mt E l yX3_readOne cX3_readOne 4 (some .boolean) dF dL [.ref (E.1 + a0), .int x1] S R I S R r.1 (some (.int r.2)) 0 0) : ∀ (I : Iw) (a0 : Nat) (x2 : Int32), f_X3_readOne_118 g S R   I a0 x2 = some r → Wk E 4 p l e ({ frames := dF + 3, cells := 0, slots := 0, locals := dL + 69 } : Room) s m args below meth c 0 0 (MQ below (Qw E S R r.1 (some (.int r.2))) args s 0 0 (fun q => E.1 ≤ q)) 118 [(0, .ref (E.1 + a0)), (2, .int x2)] [] S R I := by
  intro I a0 x2 h
  rw [f_X3_readOne_118] at h
  refine k_iloadn (pc := 118) C dX3_readOne_118 (i := 2) rfl 1 rfl ?_
  refine k_if_eq (pc := 119) C dX3_readOne_119 (tgt := 134) (by decide) (fun hc7 => ?_) (fun hc7 => ?_)
  · rw [if_pos hc7] at h
    refine k_iconst (pc := 134) C (v := (1 : Int32)) dX3_readOne_134 (by decide) ?_
    cases h
    exact k_zret (pc := 135) C hr hk (Or.inr rfl) dX3_readOne_135
  · rw [if_neg hc7] at h
    refine k_aloadn (pc := 122) C dX3_readOne_122 (i := 0) rfl 0 rfl ?_
    obtain ⟨hs80, h⟩ := gp_e h
    have hs8 := sok_e hs80
    obtain ⟨b9, hb9, h⟩ := rl_e h
    refine k_getR (pc := 123) C lkF_RX3_25_3 hs8 ir_3_6 hb9 dX3_readOne_123 ?_
    refine k_sipush (pc := 126) C (v := (10009 : Int32)) dX3_readOne_126 (by decide) ?_
    refine k_iconst (pc := 129) C (v := (0 : Int32)) dX3_readOne_129 (by decide) ?_
    refine k_iconst (pc := 130) C (v := (0 : Int32)) dX3_readOne_130 (by decide) ?_
    obtain ⟨hs100, h⟩ := gp_e h
    have hs10 := sok_e hs100
    obtain ⟨r11, hr11, h⟩ := bd_e h
    refine k_V (pc := 131) (st := []) C (c_X5_addStep hr11) lkV_RX3_104 hs10 rfl rfl rfl (Nat.le_of_ble_eq_true rfl) (by show 0 + 1 ≤ dF + 3; omega) (by show 8 + (4 + 11) + 0 ≤ dL + 69; omega) (Nat.le_of_ble_eq_true rfl) (Nat.le_of_ble_eq_true rfl) dX3_readOne_131 ?_
    refine k_nf (cells2 := 0) (slots2 := 0) (st2 := []) rfl rfl rfl ?_
    refine k_iconst (pc := 134) C (v := (1 : Int32)) dX3_readOne_134 (by decide) ?_
    cases h
    exact k_zret (pc := 135) C hr hk (Or.inr rfl) dX3_readOne_135
def f_X3_readOne_47 (g : Sh → Rw → Iw → Nat → Int32 → Option (Iw × Int32)) (S : Sh) (R : Rw)  (I : Iw) (a0 : Nat) (x1 : Int32) (x2 : Int32) : Option (Iw × Int32) := gp (sok S a0 3 7) (bd (f_X3_peek S R I a0) (fun r3 => (if r3 = (20040 : Int32) then (if x1 < (3 : Int32) then lt (up2 I a0 5 ((I a0 5) + (1 : Int32))) (fun I13 => bd (f_X3_readCondition g S R I13 a0 (x1 + (1 : Int32))) (fun r14 => (if r14.2 = 0 then some (r14.1, (0 : Int32)) else bd (f_X3_peek S R r14.1 a0) (fun r16 => (if r16 = (20041 : Int32) then lt (up2 r14.1 a0 5 ((r14.1 a0 5) + (1 : Int32))) (fun I18 => f_X3_readOne_118 g S R  I18 a0 x2) else some (r14.1, (0 : Int32))))))) else some (I, (0 : Int32))) else bd (f_X3_readComparison S R I a0) (fun r5 => (if r5.2 = 0 then some (r5.1, (0 : Int32)) else f_X3_readOne_118 g S R  r5.1 a0 x2)))))
set_option maxHeartbeats 4000000 in
theorem b_X3_readOne_47 {E : Ev} {p : Program} {l : Launch} {e : Env} {s : State} {m : MethodId} {args : Array Value} {below : List Frame} {meth : Method} {c : Code} {dF dL : Nat} (C : Cx E RX3 cX3_readOne 4 p s m c) (hr : meth.sig.returnType = (some .boolean)) (hk : meth.locks = false) {S : Sh} {R : Rw} {r : Iw × Int32} {g : Sh → Rw → Iw → Nat → Int32 → Option (Iw × Int32)} (hg : ∀ (S : Sh) (R : Rw) (I : Iw) (a0 : Nat) (x1 : Int32) (r : Iw × Int32), g S R I a0 x1 = some r → Mt E l yX3_readOne cX3_readOne 4 (some .boolean) dF dL [.ref (E.1 + a0), .int x1] S R I S R r.1 (some (.int r.2)) 0 0) : ∀ (I : Iw) (a0 : Nat) (x1 : Int32) (x2 : Int32), f_X3_readOne_47 g S R   I a0 x1 x2 = some r → Wk E 4 p l e ({ frames := dF + 3, cells := 0, slots := 0, locals := dL + 69 } : Room) s m args below meth c 0 0 (MQ below (Qw E S R r.1 (some (.int r.2))) args s 0 0 (fun q => E.1 ≤ q)) 47 [(0, .ref (E.1 + a0)), (1, .int x1), (2, .int x2)] [] S R I := by
  intro I a0 x1 x2 h
  rw [f_X3_readOne_47] at h
  refine k_aloadn (pc := 47) C dX3_readOne_47 (i := 0) rfl 0 rfl ?_
  obtain ⟨hs20, h⟩ := gp_e h
  have hs2 := sok_e hs20
  obtain ⟨r3, hr3, h⟩ := bd_e h
  refine k_V (pc := 48) (st := []) C (c_X3_peek hr3) lkV_RX3_42 hs2 rfl rfl rfl (Nat.le_of_ble_eq_true rfl) (by show 0 + 1 ≤ dF + 3; omega) (by show 8 + (1 + 11) + 0 ≤ dL + 69; omega) (Nat.le_of_ble_eq_true rfl) (Nat.le_of_ble_eq_true rfl) dX3_readOne_48 ?_
  refine k_nf (cells2 := 0) (slots2 := 0) (st2 := [.int r3]) rfl rfl rfl ?_
  refine k_sipush (pc := 51) C (v := (20040 : Int32)) dX3_readOne_51 (by decide) ?_
  refine k_icmp_ne (pc := 54) C dX3_readOne_54 (tgt := 109) (by decide) (fun hc4 => ?_) (fun hc4 => ?_)
  · rw [if_neg hc4] at h
    refine k_aloadn (pc := 109) C dX3_readOne_109 (i := 0) rfl 0 rfl ?_
    obtain ⟨r5, hr5, h⟩ := bd_e h
    refine k_V (pc := 110) (st := []) C (c_X3_readComparison hr5) lkV_RX3_111 hs2 rfl rfl rfl (Nat.le_of_ble_eq_true rfl) (by show 1 + 1 ≤ dF + 3; omega) (by show 8 + (4 + 11) + 23 ≤ dL + 69; omega) (Nat.le_of_ble_eq_true rfl) (Nat.le_of_ble_eq_true rfl) dX3_readOne_110 ?_
    refine k_nf (cells2 := 0) (slots2 := 0) (st2 := [.int r5.2]) rfl rfl rfl ?_
    refine k_if_ne (pc := 113) C dX3_readOne_113 (tgt := 118) (by decide) (fun hc6 => ?_) (fun hc6 => ?_)
    · rw [if_neg hc6] at h
      refine k_loc (L2 := [(0, .ref (E.1 + a0)), (2, .int x2)]) [0, 2] rfl ?_
      exact b_X3_readOne_118 C hr hk hg  _ _ _ h
    · rw [if_pos hc6] at h
      refine k_iconst (pc := 116) C (v := (0 : Int32)) dX3_readOne_116 (by decide) ?_
      cases h
      exact k_zret (pc := 117) C hr hk (Or.inl rfl) dX3_readOne_117
  · rw [if_pos hc4] at h
    refine k_iloadn (pc := 57) C dX3_readOne_57 (i := 1) rfl 1 rfl ?_
    refine k_iconst (pc := 58) C (v := (3 : Int32)) dX3_readOne_58 (by decide) ?_
    refine k_icmp_lt (pc := 59) C dX3_readOne_59 (tgt := 64) (by decide) (fun hc12 => ?_) (fun hc12 => ?_)
    · rw [if_pos hc12] at h
      refine k_aloadn (pc := 64) C dX3_readOne_64 (i := 0) rfl 0 rfl ?_
      refine k_dup (pc := 65) C dX3_readOne_65 rfl ?_
      refine k_getI (pc := 66) C lkF_RX3_36_3 hs2 ir_3_5 dX3_readOne_66 ?_
      refine k_iconst (pc := 69) C (v := (1 : Int32)) dX3_readOne_69 (by decide) ?_
      refine k_iadd (pc := 70) C dX3_readOne_70 ?_
      obtain ⟨I13, eI13, h⟩ := lt_e h
      refine k_putI (pc := 71) C lkP_RX3_36_3 hs2 ir_3_5 dX3_readOne_71 ?_
      rw [← eI13]
      refine k_aloadn (pc := 74) C dX3_readOne_74 (i := 0) rfl 0 rfl ?_
      refine k_iloadn (pc := 75) C dX3_readOne_75 (i := 1) rfl 1 rfl ?_
      refine k_iconst (pc := 76) C (v := (1 : Int32)) dX3_readOne_76 (by decide) ?_
      refine k_iadd (pc := 77) C dX3_readOne_77 ?_
      obtain ⟨r14, hr14, h⟩ := bd_e h
      refine k_V (pc := 78) (st := []) C (c_X3_readCondition hg hr14) lkV_RX3_94 hs2 rfl rfl rfl (Nat.le_of_ble_eq_true rfl) (by show (dF + 2) + 1 ≤ dF + 3; omega) (by show 8 + (4 + 11) + (dL + 46) ≤ dL + 69; omega) (Nat.le_of_ble_eq_true rfl) (Nat.le_of_ble_eq_true rfl) dX3_readOne_78 ?_
      refine k_nf (cells2 := 0) (slots2 := 0) (st2 := [.int r14.2]) rfl rfl rfl ?_
      refine k_if_eq (pc := 81) C dX3_readOne_81 (tgt := 94) (by decide) (fun hc15 => ?_) (fun hc15 => ?_)
      · rw [if_pos hc15] at h
        refine k_iconst (pc := 94) C (v := (0 : Int32)) dX3_readOne_94 (by decide) ?_
        cases h
        exact k_zret (pc := 95) C hr hk (Or.inl rfl) dX3_readOne_95
      · rw [if_neg hc15] at h
        refine k_aloadn (pc := 84) C dX3_readOne_84 (i := 0) rfl 0 rfl ?_
        obtain ⟨r16, hr16, h⟩ := bd_e h
        refine k_V (pc := 85) (st := []) C (c_X3_peek hr16) lkV_RX3_42 hs2 rfl rfl rfl (Nat.le_of_ble_eq_true rfl) (by show 0 + 1 ≤ dF + 3; omega) (by show 8 + (1 + 11) + 0 ≤ dL + 69; omega) (Nat.le_of_ble_eq_true rfl) (Nat.le_of_ble_eq_true rfl) dX3_readOne_85 ?_
        refine k_nf (cells2 := 0) (slots2 := 0) (st2 := [.int r16]) rfl rfl rfl ?_
        refine k_sipush (pc := 88) C (v := (20041 : Int32)) dX3_readOne_88 (by decide) ?_
        refine k_icmp_eq (pc := 91) C dX3_readOne_91 (tgt := 96) (by decide) (fun hc17 => ?_) (fun hc17 => ?_)
        · rw [if_pos hc17] at h
          refine k_aloadn (pc := 96) C dX3_readOne_96 (i := 0) rfl 0 rfl ?_
          refine k_dup (pc := 97) C dX3_readOne_97 rfl ?_
          refine k_getI (pc := 98) C lkF_RX3_36_3 hs2 ir_3_5 dX3_readOne_98 ?_
          refine k_iconst (pc := 101) C (v := (1 : Int32)) dX3_readOne_101 (by decide) ?_
          refine k_iadd (pc := 102) C dX3_readOne_102 ?_
          obtain ⟨I18, eI18, h⟩ := lt_e h
          refine k_putI (pc := 103) C lkP_RX3_36_3 hs2 ir_3_5 dX3_readOne_103 ?_
          rw [← eI18]
          refine k_goto (pc := 106) C dX3_readOne_106 (tgt := 118) (by decide) ?_
          refine k_loc (L2 := [(0, .ref (E.1 + a0)), (2, .int x2)]) [0, 2] rfl ?_
          exact b_X3_readOne_118 C hr hk hg  _ _ _ h
        · rw [if_neg hc17] at h
          refine k_iconst (pc := 94) C (v := (0 : Int32)) dX3_readOne_94 (by decide) ?_
          cases h
          exact k_zret (pc := 95) C hr hk (Or.inl rfl) dX3_readOne_95
    · rw [if_neg hc12] at h
      refine k_iconst (pc := 62) C (v := (0 : Int32)) dX3_readOne_62 (by decide) ?_
      cases h
      exact k_zret (pc := 63) C hr hk (Or.inl rfl) dX3_readOne_63
def f_X3_readOne_40 (g : Sh → Rw → Iw → Nat → Int32 → Option (Iw × Int32)) (S : Sh) (R : Rw) (ko4 : Iw → Nat → Int32 → Int32 → Int32 → Option (Iw × Int32)) (I : Iw) (a0 : Nat) (x1 : Int32) (x3 : Int32) (s0 : Int32) : Option (Iw × Int32) := ko4 I a0 x1 s0 (x3 + (1 : Int32))
set_option maxHeartbeats 4000000 in
theorem b_X3_readOne_40 {E : Ev} {p : Program} {l : Launch} {e : Env} {s : State} {m : MethodId} {args : Array Value} {below : List Frame} {meth : Method} {c : Code} {dF dL : Nat} (C : Cx E RX3 cX3_readOne 4 p s m c) (hr : meth.sig.returnType = (some .boolean)) (hk : meth.locks = false) {S : Sh} {R : Rw} {r : Iw × Int32} {g : Sh → Rw → Iw → Nat → Int32 → Option (Iw × Int32)} (hg : ∀ (S : Sh) (R : Rw) (I : Iw) (a0 : Nat) (x1 : Int32) (r : Iw × Int32), g S R I a0 x1 = some r → Mt E l yX3_readOne cX3_readOne 4 (some .boolean) dF dL [.ref (E.1 + a0), .int x1] S R I S R r.1 (some (.int r.2)) 0 0) {ko4 : Iw → Nat → Int32 → Int32 → Int32 → Option (Iw × Int32)} (hko4 : ∀ (I : Iw) (a0 : Nat) (x1 : Int32) (x2 : Int32) (x3 : Int32), ko4 I a0 x1 x2 x3 = some r → Wk E 4 p l e ({ frames := dF + 3, cells := 0, slots := 0, locals := dL + 69 } : Room) s m args below meth c 0 0 (MQ below (Qw E S R r.1 (some (.int r.2))) args s 0 0 (fun q => E.1 ≤ q)) 4 [(0, .ref (E.1 + a0)), (1, .int x1), (2, .int x2), (3, .int x3)] [] S R I) : ∀ (I : Iw) (a0 : Nat) (x1 : Int32) (x3 : Int32) (s0 : Int32), f_X3_readOne_40 g S R ko4  I a0 x1 x3 s0 = some r → Wk E 4 p l e ({ frames := dF + 3, cells := 0, slots := 0, locals := dL + 69 } : Room) s m args below meth c 0 0 (MQ below (Qw E S R r.1 (some (.int r.2))) args s 0 0 (fun q => E.1 ≤ q)) 40 [(0, .ref (E.1 + a0)), (1, .int x1), (3, .int x3)] [.int s0] S R I := by
  intro I a0 x1 x3 s0 h
  rw [f_X3_readOne_40] at h
  refine k_istoren (pc := 40) C dX3_readOne_40 (i := 2) rfl (by decide) (L2 := [(0, .ref (E.1 + a0)), (1, .int x1), (2, .int s0), (3, .int x3)]) rfl ?_
  refine k_iinc (pc := 41) C dX3_readOne_41 3 rfl (v := x3 + (1 : Int32)) (by rfl) (by decide) (L2 := [(0, .ref (E.1 + a0)), (1, .int x1), (2, .int s0), (3, .int (x3 + (1 : Int32)))]) rfl ?_
  refine k_goto (pc := 44) C dX3_readOne_44 (tgt := 4) (by decide) ?_
  exact hko4 _ _ _ _ _ h
def f_X3_readOne_4 (g : Sh → Rw → Iw → Nat → Int32 → Option (Iw × Int32)) (S : Sh) (R : Rw)  : Nat → Iw → Nat → Int32 → Int32 → Int32 → Option (Iw × Int32)
  | 0, _, _, _, _, _ => none
  | n + 1, I, a0, x1, x2, x3 => (if (200 : Int32) ≤ x3 then f_X3_readOne_47 g S R  I a0 x1 x2 else gp (sok S a0 3 7) (bd (f_X3_peek S R I a0) (fun r20 => (if r20 = (10009 : Int32) then lt (up2 I a0 5 ((I a0 5) + (1 : Int32))) (fun I22 => (if x2 = 0 then f_X3_readOne_40 g S R (f_X3_readOne_4 g S R  n) I22 a0 x1 x3 (1 : Int32) else f_X3_readOne_40 g S R (f_X3_readOne_4 g S R  n) I22 a0 x1 x3 (0 : Int32))) else f_X3_readOne_47 g S R  I a0 x1 x2))))
set_option maxHeartbeats 4000000 in
theorem b_X3_readOne_4 {E : Ev} {p : Program} {l : Launch} {e : Env} {s : State} {m : MethodId} {args : Array Value} {below : List Frame} {meth : Method} {c : Code} {dF dL : Nat} (C : Cx E RX3 cX3_readOne 4 p s m c) (hr : meth.sig.returnType = (some .boolean)) (hk : meth.locks = false) {S : Sh} {R : Rw} {r : Iw × Int32} {g : Sh → Rw → Iw → Nat → Int32 → Option (Iw × Int32)} (hg : ∀ (S : Sh) (R : Rw) (I : Iw) (a0 : Nat) (x1 : Int32) (r : Iw × Int32), g S R I a0 x1 = some r → Mt E l yX3_readOne cX3_readOne 4 (some .boolean) dF dL [.ref (E.1 + a0), .int x1] S R I S R r.1 (some (.int r.2)) 0 0) : ∀ (n : Nat) (I : Iw) (a0 : Nat) (x1 : Int32) (x2 : Int32) (x3 : Int32), f_X3_readOne_4 g S R  n I a0 x1 x2 x3 = some r → Wk E 4 p l e ({ frames := dF + 3, cells := 0, slots := 0, locals := dL + 69 } : Room) s m args below meth c 0 0 (MQ below (Qw E S R r.1 (some (.int r.2))) args s 0 0 (fun q => E.1 ≤ q)) 4 [(0, .ref (E.1 + a0)), (1, .int x1), (2, .int x2), (3, .int x3)] [] S R I := by
  intro n
  induction n with
  | zero =>
    intro I a0 x1 x2 x3 h
    rw [f_X3_readOne_4] at h
    cases h
  | succ n ih =>
    intro I a0 x1 x2 x3 h
    rw [f_X3_readOne_4] at h
    refine k_iloadn (pc := 4) C dX3_readOne_4 (i := 3) rfl 3 rfl ?_
    refine k_sipush (pc := 5) C (v := (200 : Int32)) dX3_readOne_5 (by decide) ?_
    refine k_icmp_ge (pc := 8) C dX3_readOne_8 (tgt := 47) (by decide) (fun hc1 => ?_) (fun hc1 => ?_)
    · rw [if_pos hc1] at h
      refine k_loc (L2 := [(0, .ref (E.1 + a0)), (1, .int x1), (2, .int x2)]) [0, 1, 2] rfl ?_
      exact b_X3_readOne_47 C hr hk hg  _ _ _ _ h
    · rw [if_neg hc1] at h
      refine k_aloadn (pc := 11) C dX3_readOne_11 (i := 0) rfl 0 rfl ?_
      obtain ⟨hs190, h⟩ := gp_e h
      have hs19 := sok_e hs190
      obtain ⟨r20, hr20, h⟩ := bd_e h
      refine k_V (pc := 12) (st := []) C (c_X3_peek hr20) lkV_RX3_42 hs19 rfl rfl rfl (Nat.le_of_ble_eq_true rfl) (by show 0 + 1 ≤ dF + 3; omega) (by show 8 + (1 + 11) + 0 ≤ dL + 69; omega) (Nat.le_of_ble_eq_true rfl) (Nat.le_of_ble_eq_true rfl) dX3_readOne_12 ?_
      refine k_nf (cells2 := 0) (slots2 := 0) (st2 := [.int r20]) rfl rfl rfl ?_
      refine k_sipush (pc := 15) C (v := (10009 : Int32)) dX3_readOne_15 (by decide) ?_
      refine k_icmp_ne (pc := 18) C dX3_readOne_18 (tgt := 47) (by decide) (fun hc21 => ?_) (fun hc21 => ?_)
      · rw [if_neg hc21] at h
        refine k_loc (L2 := [(0, .ref (E.1 + a0)), (1, .int x1), (2, .int x2)]) [0, 1, 2] rfl ?_
        exact b_X3_readOne_47 C hr hk hg  _ _ _ _ h
      · rw [if_pos hc21] at h
        refine k_aloadn (pc := 21) C dX3_readOne_21 (i := 0) rfl 0 rfl ?_
        refine k_dup (pc := 22) C dX3_readOne_22 rfl ?_
        refine k_getI (pc := 23) C lkF_RX3_36_3 hs19 ir_3_5 dX3_readOne_23 ?_
        refine k_iconst (pc := 26) C (v := (1 : Int32)) dX3_readOne_26 (by decide) ?_
        refine k_iadd (pc := 27) C dX3_readOne_27 ?_
        obtain ⟨I22, eI22, h⟩ := lt_e h
        refine k_putI (pc := 28) C lkP_RX3_36_3 hs19 ir_3_5 dX3_readOne_28 ?_
        rw [← eI22]
        refine k_iloadn (pc := 31) C dX3_readOne_31 (i := 2) rfl 2 rfl ?_
        refine k_if_ne (pc := 32) C dX3_readOne_32 (tgt := 39) (by decide) (fun hc23 => ?_) (fun hc23 => ?_)
        · rw [if_neg hc23] at h
          refine k_iconst (pc := 39) C (v := (0 : Int32)) dX3_readOne_39 (by decide) ?_
          refine k_loc (L2 := [(0, .ref (E.1 + a0)), (1, .int x1), (3, .int x3)]) [0, 1, 3] rfl ?_
          exact b_X3_readOne_40 C hr hk hg ih _ _ _ _ _ h
        · rw [if_pos hc23] at h
          refine k_iconst (pc := 35) C (v := (1 : Int32)) dX3_readOne_35 (by decide) ?_
          refine k_goto (pc := 36) C dX3_readOne_36 (tgt := 40) (by decide) ?_
          refine k_loc (L2 := [(0, .ref (E.1 + a0)), (1, .int x1), (3, .int x3)]) [0, 1, 3] rfl ?_
          exact b_X3_readOne_40 C hr hk hg ih _ _ _ _ _ h
def f_X3_readOne_b (g : Sh → Rw → Iw → Nat → Int32 → Option (Iw × Int32)) (S : Sh) (R : Rw)  (I : Iw) (a0 : Nat) (x1 : Int32) : Option (Iw × Int32) := f_X3_readOne_4 g S R  512 I a0 x1 (0 : Int32) (0 : Int32)
set_option maxHeartbeats 4000000 in
theorem b_X3_readOne_b {E : Ev} {p : Program} {l : Launch} {e : Env} {s : State} {m : MethodId} {args : Array Value} {below : List Frame} {meth : Method} {c : Code} {dF dL : Nat} (C : Cx E RX3 cX3_readOne 4 p s m c) (hr : meth.sig.returnType = (some .boolean)) (hk : meth.locks = false) {S : Sh} {R : Rw} {r : Iw × Int32} {g : Sh → Rw → Iw → Nat → Int32 → Option (Iw × Int32)} (hg : ∀ (S : Sh) (R : Rw) (I : Iw) (a0 : Nat) (x1 : Int32) (r : Iw × Int32), g S R I a0 x1 = some r → Mt E l yX3_readOne cX3_readOne 4 (some .boolean) dF dL [.ref (E.1 + a0), .int x1] S R I S R r.1 (some (.int r.2)) 0 0) : ∀ (I : Iw) (a0 : Nat) (x1 : Int32), f_X3_readOne_b g S R   I a0 x1 = some r → Wk E 4 p l e ({ frames := dF + 3, cells := 0, slots := 0, locals := dL + 69 } : Room) s m args below meth c 0 0 (MQ below (Qw E S R r.1 (some (.int r.2))) args s 0 0 (fun q => E.1 ≤ q)) 0 [(0, .ref (E.1 + a0)), (1, .int x1)] [] S R I := by
  intro I a0 x1 h
  rw [f_X3_readOne_b] at h
  refine k_iconst (pc := 0) C (v := (0 : Int32)) dX3_readOne_0 (by decide) ?_
  refine k_istoren (pc := 1) C dX3_readOne_1 (i := 2) rfl (by decide) (L2 := [(0, .ref (E.1 + a0)), (1, .int x1), (2, .int (0 : Int32))]) rfl ?_
  refine k_iconst (pc := 2) C (v := (0 : Int32)) dX3_readOne_2 (by decide) ?_
  refine k_istoren (pc := 3) C dX3_readOne_3 (i := 3) rfl (by decide) (L2 := [(0, .ref (E.1 + a0)), (1, .int x1), (2, .int (0 : Int32)), (3, .int (0 : Int32))]) rfl ?_
  exact b_X3_readOne_4 C hr hk hg  _ _ _ _ _ _ h
def f_X3_readOne : Nat → Sh → Rw → Iw → Nat → Int32 → Option (Iw × Int32)
  | 0, _, _, _, _, _ => none
  | n + 1, S, R, I, a0, x1 => f_X3_readOne_b (f_X3_readOne n) S R I a0 x1
theorem c_X3_readOne_g {E : Ev} {l : Launch} : ∀ (n : Nat) (S : Sh) (R : Rw) (I : Iw) (a0 : Nat) (x1 : Int32) (r : Iw × Int32), f_X3_readOne n S R I a0 x1 = some r → Mt E l yX3_readOne cX3_readOne 4 (some .boolean) (3 * n) (69 * n) [.ref (E.1 + a0), .int x1] S R I S R r.1 (some (.int r.2)) 0 0 := by
  intro n
  induction n with
  | zero =>
    intro S R I a0 x1 r h
    rw [f_X3_readOne] at h
    cases h
  | succ n ih =>
    intro S R I a0 x1 r h
    rw [f_X3_readOne] at h
    exact mt_of (by decide) (Nat.le_of_ble_eq_true rfl) (fun p e s m args below meth c C hr hk hn => b_X3_readOne_b (dF := 3 * n) (dL := 69 * n) C hr hk ih _ _ _ h)
theorem c_X3_readOne {E : Ev} {l : Launch} (n : Nat) {S : Sh} {R : Rw} {I : Iw} {a0 : Nat} {x1 : Int32} {r : Iw × Int32} (h : f_X3_readOne n S R I a0 x1 = some r) : Mt E l yX3_readOne cX3_readOne 4 (some .boolean) (3 * n) (69 * n) [.ref (E.1 + a0), .int x1] S R I S R r.1 (some (.int r.2)) 0 0 := c_X3_readOne_g n S R I a0 x1 r h
