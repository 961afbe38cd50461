/-! X12_span, X12_liar, X12_seed, X12_drawn, X12_draw, X12_often -/
theorem lkV_RX12_310 : LkV RX12 310 RX12 yX12_fitting cX12_fitting 4 (some .int) 1 := ⟨(t7_in 6 (by decide +kernel) rfl), (t7_in 8 (by decide +kernel) rfl), (t0_in 65 (by decide +kernel) rfl), (t7_in 9 (by decide +kernel) rfl), (t1_in 7 (by decide +kernel) rfl), by decide, by decide +kernel⟩
theorem dX12_span_0 : decode cX12_span 0 = .ok (.iload_n 1, 1) := by decide +kernel
theorem dX12_span_1 : decode cX12_span 1 = .ok (.iconst 0, 1) := by decide +kernel
theorem dX12_span_2 : decode cX12_span 2 = .ok (.iconst 2, 1) := by decide +kernel
theorem dX12_span_3 : decode cX12_span 3 = .ok (.invokestatic 98, 3) := by decide +kernel
theorem dX12_span_6 : decode cX12_span 6 = .ok (.ifCond .ne 5, 3) := by decide +kernel
theorem dX12_span_9 : decode cX12_span 9 = .ok (.iconst (-1), 1) := by decide +kernel
theorem dX12_span_10 : decode cX12_span 10 = .ok (.ireturn, 1) := by decide +kernel
theorem dX12_span_11 : decode cX12_span 11 = .ok (.aload_n 0, 1) := by decide +kernel
theorem dX12_span_12 : decode cX12_span 12 = .ok (.iconst (-1), 1) := by decide +kernel
theorem dX12_span_13 : decode cX12_span 13 = .ok (.invokevirtual 310, 3) := by decide +kernel
theorem dX12_span_16 : decode cX12_span 16 = .ok (.istore_n 2, 1) := by decide +kernel
theorem dX12_span_17 : decode cX12_span 17 = .ok (.iconst 0, 1) := by decide +kernel
theorem dX12_span_18 : decode cX12_span 18 = .ok (.istore_n 3, 1) := by decide +kernel
theorem dX12_span_19 : decode cX12_span 19 = .ok (.bipush (-3), 2) := by decide +kernel
theorem dX12_span_21 : decode cX12_span 21 = .ok (.istore 4, 2) := by decide +kernel
theorem dX12_span_23 : decode cX12_span 23 = .ok (.bipush (-3), 2) := by decide +kernel
theorem dX12_span_25 : decode cX12_span 25 = .ok (.istore 5, 2) := by decide +kernel
theorem dX12_span_27 : decode cX12_span 27 = .ok (.iconst 0, 1) := by decide +kernel
theorem dX12_span_28 : decode cX12_span 28 = .ok (.istore 6, 2) := by decide +kernel
theorem dX12_span_30 : decode cX12_span 30 = .ok (.iload 6, 2) := by decide +kernel
theorem dX12_span_32 : decode cX12_span 32 = .ok (.bipush 9, 2) := by decide +kernel
theorem dX12_span_34 : decode cX12_span 34 = .ok (.if_icmp .gt 42, 3) := by decide +kernel
theorem dX12_span_37 : decode cX12_span 37 = .ok (.iload_n 2, 1) := by decide +kernel
theorem dX12_span_38 : decode cX12_span 38 = .ok (.iload 6, 2) := by decide +kernel
theorem dX12_span_40 : decode cX12_span 40 = .ok (.ishr, 1) := by decide +kernel
theorem dX12_span_41 : decode cX12_span 41 = .ok (.iconst 1, 1) := by decide +kernel
theorem dX12_span_42 : decode cX12_span 42 = .ok (.iand, 1) := by decide +kernel
theorem dX12_span_43 : decode cX12_span 43 = .ok (.iconst 1, 1) := by decide +kernel
theorem dX12_span_44 : decode cX12_span 44 = .ok (.if_icmp .ne 26, 3) := by decide +kernel
theorem dX12_span_47 : decode cX12_span 47 = .ok (.iinc 3 1, 3) := by decide +kernel
theorem dX12_span_50 : decode cX12_span 50 = .ok (.iload 4, 2) := by decide +kernel
theorem dX12_span_52 : decode cX12_span 52 = .ok (.bipush (-3), 2) := by decide +kernel
theorem dX12_span_54 : decode cX12_span 54 = .ok (.if_icmp .ne 8, 3) := by decide +kernel
theorem dX12_span_57 : decode cX12_span 57 = .ok (.iload 6, 2) := by decide +kernel
theorem dX12_span_59 : decode cX12_span 59 = .ok (.goto 5, 3) := by decide +kernel
theorem dX12_span_62 : decode cX12_span 62 = .ok (.iload 4, 2) := by decide +kernel
theorem dX12_span_64 : decode cX12_span 64 = .ok (.istore 4, 2) := by decide +kernel
theorem dX12_span_66 : decode cX12_span 66 = .ok (.iload 6, 2) := by decide +kernel
theorem dX12_span_68 : decode cX12_span 68 = .ok (.istore 5, 2) := by decide +kernel
theorem dX12_span_70 : decode cX12_span 70 = .ok (.iinc 6 1, 3) := by decide +kernel
theorem dX12_span_73 : decode cX12_span 73 = .ok (.goto (-43), 3) := by decide +kernel
theorem dX12_span_76 : decode cX12_span 76 = .ok (.iload_n 1, 1) := by decide +kernel
theorem dX12_span_77 : decode cX12_span 77 = .ok (.ifCond .ne 7, 3) := by decide +kernel
theorem dX12_span_80 : decode cX12_span 80 = .ok (.iload_n 3, 1) := by decide +kernel
theorem dX12_span_81 : decode cX12_span 81 = .ok (.goto 15, 3) := by decide +kernel
theorem dX12_span_84 : decode cX12_span 84 = .ok (.iload_n 1, 1) := by decide +kernel
theorem dX12_span_85 : decode cX12_span 85 = .ok (.iconst 1, 1) := by decide +kernel
theorem dX12_span_86 : decode cX12_span 86 = .ok (.if_icmp .ne 8, 3) := by decide +kernel
theorem dX12_span_89 : decode cX12_span 89 = .ok (.iload 4, 2) := by decide +kernel
theorem dX12_span_91 : decode cX12_span 91 = .ok (.goto 5, 3) := by decide +kernel
theorem dX12_span_94 : decode cX12_span 94 = .ok (.iload 5, 2) := by decide +kernel
theorem dX12_span_96 : decode cX12_span 96 = .ok (.ireturn, 1) := by decide +kernel
def f_X12_span_70 (S : Sh) (R : Rw) (I : Iw) (ko30 : Int32 → Int32 → Int32 → Int32 → Int32 → Int32 → Option (Int32)) (x1 : Int32) (x2 : Int32) (x3 : Int32) (x4 : Int32) (x5 : Int32) (x6 : Int32) : Option (Int32) := ko30 x1 x2 x3 x4 x5 (x6 + (1 : Int32))
set_option maxHeartbeats 4000000 in
theorem b_X12_span_70 {E : Ev} {p : Program} {l : Launch} {e : Env} {s : State} {m : MethodId} {args : Array Value} {below : List Frame} {meth : Method} {c : Code} (C : Cx E RX12 cX12_span 7 p s m c) (hr : meth.sig.returnType = (some .int)) (hk : meth.locks = false) {S : Sh} {R : Rw} {I : Iw} {r : Int32}  {ko30 : Int32 → Int32 → Int32 → Int32 → Int32 → Int32 → Option (Int32)} (hko30 : ∀ (x1 : Int32) (x2 : Int32) (x3 : Int32) (x4 : Int32) (x5 : Int32) (x6 : Int32), ko30 x1 x2 x3 x4 x5 x6 = some r → Wk E 7 p l e ({ frames := 5, cells := 0, slots := 0, locals := 113 } : Room) s m args below meth c 0 0 (MQ below (Qw E S R I (some (.int r))) args s 0 0 (fun q => E.1 ≤ q)) 30 [(1, .int x1), (2, .int x2), (3, .int x3), (4, .int x4), (5, .int x5), (6, .int x6)] [] S R I) : ∀ (x1 : Int32) (x2 : Int32) (x3 : Int32) (x4 : Int32) (x5 : Int32) (x6 : Int32), f_X12_span_70 S R I ko30  x1 x2 x3 x4 x5 x6 = some r → Wk E 7 p l e ({ frames := 5, cells := 0, slots := 0, locals := 113 } : Room) s m args below meth c 0 0 (MQ below (Qw E S R I (some (.int r))) args s 0 0 (fun q => E.1 ≤ q)) 70 [(1, .int x1), (2, .int x2), (3, .int x3), (4, .int x4), (5, .int x5), (6, .int x6)] [] S R I := by
  intro x1 x2 x3 x4 x5 x6 h
  rw [f_X12_span_70] at h
  refine k_iinc (pc := 70) C dX12_span_70 5 rfl (v := x6 + (1 : Int32)) (by rfl) (by decide) (L2 := [(1, .int x1), (2, .int x2), (3, .int x3), (4, .int x4), (5, .int x5), (6, .int (x6 + (1 : Int32)))]) rfl ?_
  refine k_goto (pc := 73) C dX12_span_73 (tgt := 30) (by decide) ?_
  exact hko30 _ _ _ _ _ _ h
def f_X12_span_64 (S : Sh) (R : Rw) (I : Iw) (ko30 : Int32 → Int32 → Int32 → Int32 → Int32 → Int32 → Option (Int32)) (x1 : Int32) (x2 : Int32) (x3 : Int32) (x6 : Int32) (s0 : Int32) : Option (Int32) := f_X12_span_70 S R I ko30 x1 x2 x3 s0 x6 x6
set_option maxHeartbeats 4000000 in
theorem b_X12_span_64 {E : Ev} {p : Program} {l : Launch} {e : Env} {s : State} {m : MethodId} {args : Array Value} {below : List Frame} {meth : Method} {c : Code} (C : Cx E RX12 cX12_span 7 p s m c) (hr : meth.sig.returnType = (some .int)) (hk : meth.locks = false) {S : Sh} {R : Rw} {I : Iw} {r : Int32}  {ko30 : Int32 → Int32 → Int32 → Int32 → Int32 → Int32 → Option (Int32)} (hko30 : ∀ (x1 : Int32) (x2 : Int32) (x3 : Int32) (x4 : Int32) (x5 : Int32) (x6 : Int32), ko30 x1 x2 x3 x4 x5 x6 = some r → Wk E 7 p l e ({ frames := 5, cells := 0, slots := 0, locals := 113 } : Room) s m args below meth c 0 0 (MQ below (Qw E S R I (some (.int r))) args s 0 0 (fun q => E.1 ≤ q)) 30 [(1, .int x1), (2, .int x2), (3, .int x3), (4, .int x4), (5, .int x5), (6, .int x6)] [] S R I) : ∀ (x1 : Int32) (x2 : Int32) (x3 : Int32) (x6 : Int32) (s0 : Int32), f_X12_span_64 S R I ko30  x1 x2 x3 x6 s0 = some r → Wk E 7 p l e ({ frames := 5, cells := 0, slots := 0, locals := 113 } : Room) s m args below meth c 0 0 (MQ below (Qw E S R I (some (.int r))) args s 0 0 (fun q => E.1 ≤ q)) 64 [(1, .int x1), (2, .int x2), (3, .int x3), (6, .int x6)] [.int s0] S R I := by
  intro x1 x2 x3 x6 s0 h
  rw [f_X12_span_64] at h
  refine k_istore (pc := 64) C dX12_span_64 (by decide) (L2 := [(1, .int x1), (2, .int x2), (3, .int x3), (4, .int s0), (6, .int x6)]) rfl ?_
  refine k_iload (pc := 66) C dX12_span_66 4 rfl ?_
  refine k_istore (pc := 68) C dX12_span_68 (by decide) (L2 := [(1, .int x1), (2, .int x2), (3, .int x3), (4, .int s0), (5, .int x6), (6, .int x6)]) rfl ?_
  exact b_X12_span_70 C hr hk hko30 _ _ _ _ _ _ h
def f_X12_span_30 (S : Sh) (R : Rw) (I : Iw)  : Nat → Int32 → Int32 → Int32 → Int32 → Int32 → Int32 → Option (Int32)
  | 0, _, _, _, _, _, _ => none
  | n + 1, x1, x2, x3, x4, x5, x6 => (if (9 : Int32) < x6 then (if x1 = 0 then some x3 else (if x1 = (1 : Int32) then some x4 else some x5)) else (if ((x2 >>> (x6 &&& 31)) &&& (1 : Int32)) = (1 : Int32) then (if x4 = (-3 : Int32) then f_X12_span_64 S R I (f_X12_span_30 S R I  n) x1 x2 (x3 + (1 : Int32)) x6 x6 else f_X12_span_64 S R I (f_X12_span_30 S R I  n) x1 x2 (x3 + (1 : Int32)) x6 x4) else f_X12_span_70 S R I (f_X12_span_30 S R I  n) x1 x2 x3 x4 x5 x6))
set_option maxHeartbeats 4000000 in
theorem b_X12_span_30 {E : Ev} {p : Program} {l : Launch} {e : Env} {s : State} {m : MethodId} {args : Array Value} {below : List Frame} {meth : Method} {c : Code} (C : Cx E RX12 cX12_span 7 p s m c) (hr : meth.sig.returnType = (some .int)) (hk : meth.locks = false) {S : Sh} {R : Rw} {I : Iw} {r : Int32}  : ∀ (n : Nat) (x1 : Int32) (x2 : Int32) (x3 : Int32) (x4 : Int32) (x5 : Int32) (x6 : Int32), f_X12_span_30 S R I  n x1 x2 x3 x4 x5 x6 = some r → Wk E 7 p l e ({ frames := 5, cells := 0, slots := 0, locals := 113 } : Room) s m args below meth c 0 0 (MQ below (Qw E S R I (some (.int r))) args s 0 0 (fun q => E.1 ≤ q)) 30 [(1, .int x1), (2, .int x2), (3, .int x3), (4, .int x4), (5, .int x5), (6, .int x6)] [] S R I := by
  intro n
  induction n with
  | zero =>
    intro x1 x2 x3 x4 x5 x6 h
    rw [f_X12_span_30] at h
    cases h
  | succ n ih =>
    intro x1 x2 x3 x4 x5 x6 h
    rw [f_X12_span_30] at h
    refine k_iload (pc := 30) C dX12_span_30 5 rfl ?_
    refine k_bipush (pc := 32) C (v := (9 : Int32)) dX12_span_32 (by decide) ?_
    refine k_icmp_gt (pc := 34) C dX12_span_34 (tgt := 76) (by decide) (fun hc5 => ?_) (fun hc5 => ?_)
    · rw [if_pos hc5] at h
      refine k_iloadn (pc := 76) C dX12_span_76 (i := 1) rfl 0 rfl ?_
      refine k_if_ne (pc := 77) C dX12_span_77 (tgt := 84) (by decide) (fun hc6 => ?_) (fun hc6 => ?_)
      · rw [if_neg hc6] at h
        refine k_iloadn (pc := 84) C dX12_span_84 (i := 1) rfl 0 rfl ?_
        refine k_iconst (pc := 85) C (v := (1 : Int32)) dX12_span_85 (by decide) ?_
        refine k_icmp_ne (pc := 86) C dX12_span_86 (tgt := 94) (by decide) (fun hc7 => ?_) (fun hc7 => ?_)
        · rw [if_neg hc7] at h
          refine k_iload (pc := 94) C dX12_span_94 4 rfl ?_
          have h := Option.some.inj h
          subst h
          exact k_iret (pc := 96) C hr hk dX12_span_96
        · rw [if_pos hc7] at h
          refine k_iload (pc := 89) C dX12_span_89 3 rfl ?_
          refine k_goto (pc := 91) C dX12_span_91 (tgt := 96) (by decide) ?_
          have h := Option.some.inj h
          subst h
          exact k_iret (pc := 96) C hr hk dX12_span_96
      · rw [if_pos hc6] at h
        refine k_iloadn (pc := 80) C dX12_span_80 (i := 3) rfl 2 rfl ?_
        refine k_goto (pc := 81) C dX12_span_81 (tgt := 96) (by decide) ?_
        have h := Option.some.inj h
        subst h
        exact k_iret (pc := 96) C hr hk dX12_span_96
    · rw [if_neg hc5] at h
      refine k_iloadn (pc := 37) C dX12_span_37 (i := 2) rfl 1 rfl ?_
      refine k_iload (pc := 38) C dX12_span_38 5 rfl ?_
      refine k_ishr (pc := 40) C dX12_span_40 ?_
      refine k_iconst (pc := 41) C (v := (1 : Int32)) dX12_span_41 (by decide) ?_
      refine k_iand (pc := 42) C dX12_span_42 ?_
      refine k_iconst (pc := 43) C (v := (1 : Int32)) dX12_span_43 (by decide) ?_
      refine k_icmp_ne (pc := 44) C dX12_span_44 (tgt := 70) (by decide) (fun hc8 => ?_) (fun hc8 => ?_)
      · rw [if_neg hc8] at h
        exact b_X12_span_70 C hr hk ih _ _ _ _ _ _ h
      · rw [if_pos hc8] at h
        refine k_iinc (pc := 47) C dX12_span_47 2 rfl (v := x3 + (1 : Int32)) (by rfl) (by decide) (L2 := [(1, .int x1), (2, .int x2), (3, .int (x3 + (1 : Int32))), (4, .int x4), (5, .int x5), (6, .int x6)]) rfl ?_
        refine k_iload (pc := 50) C dX12_span_50 3 rfl ?_
        refine k_bipush (pc := 52) C (v := (-3 : Int32)) dX12_span_52 (by decide) ?_
        refine k_icmp_ne (pc := 54) C dX12_span_54 (tgt := 62) (by decide) (fun hc9 => ?_) (fun hc9 => ?_)
        · rw [if_neg hc9] at h
          refine k_iload (pc := 62) C dX12_span_62 3 rfl ?_
          refine k_loc (L2 := [(1, .int x1), (2, .int x2), (3, .int (x3 + (1 : Int32))), (6, .int x6)]) [0, 1, 2, 5] rfl ?_
          exact b_X12_span_64 C hr hk ih _ _ _ _ _ h
        · rw [if_pos hc9] at h
          refine k_iload (pc := 57) C dX12_span_57 5 rfl ?_
          refine k_goto (pc := 59) C dX12_span_59 (tgt := 64) (by decide) ?_
          refine k_loc (L2 := [(1, .int x1), (2, .int x2), (3, .int (x3 + (1 : Int32))), (6, .int x6)]) [0, 1, 2, 5] rfl ?_
          exact b_X12_span_64 C hr hk ih _ _ _ _ _ h
def f_X12_span (S : Sh) (R : Rw) (I : Iw)  (a0 : Nat) (x1 : Int32) : Option (Int32) := bd (f_X12_in S R I x1 (0 : Int32) (2 : Int32)) (fun r1 => (if r1 = 0 then some (-1 : Int32) else gp (sok S a0 12 34) (bd (f_X12_fitting S R I a0 (-1 : Int32)) (fun r4 => f_X12_span_30 S R I  512 x1 r4 (0 : Int32) (-3 : Int32) (-3 : Int32) (0 : Int32)))))
set_option maxHeartbeats 4000000 in
theorem b_X12_span {E : Ev} {p : Program} {l : Launch} {e : Env} {s : State} {m : MethodId} {args : Array Value} {below : List Frame} {meth : Method} {c : Code} (C : Cx E RX12 cX12_span 7 p s m c) (hr : meth.sig.returnType = (some .int)) (hk : meth.locks = false) {S : Sh} {R : Rw} {I : Iw} {r : Int32}  : ∀ (a0 : Nat) (x1 : Int32), f_X12_span S R I   a0 x1 = some r → Wk E 7 p l e ({ frames := 5, cells := 0, slots := 0, locals := 113 } : Room) s m args below meth c 0 0 (MQ below (Qw E S R I (some (.int r))) args s 0 0 (fun q => E.1 ≤ q)) 0 [(0, .ref (E.1 + a0)), (1, .int x1)] [] S R I := by
  intro a0 x1 h
  rw [f_X12_span] at h
  refine k_iloadn (pc := 0) C dX12_span_0 (i := 1) rfl 1 rfl ?_
  refine k_iconst (pc := 1) C (v := (0 : Int32)) dX12_span_1 (by decide) ?_
  refine k_iconst (pc := 2) C (v := (2 : Int32)) dX12_span_2 (by decide) ?_
  obtain ⟨r1, hr1, h⟩ := bd_e h
  refine k_S (pc := 3) (st := []) C (c_X12_in hr1) lkS_RX12_98 rfl rfl (Nat.le_of_ble_eq_true rfl) (Nat.le_of_ble_eq_true rfl) (Nat.le_of_ble_eq_true rfl) (Nat.le_of_ble_eq_true rfl) (Nat.le_of_ble_eq_true rfl) dX12_span_3 ?_
  refine k_nf (cells2 := 0) (slots2 := 0) (st2 := [.int r1]) rfl rfl rfl ?_
  refine k_if_ne (pc := 6) C dX12_span_6 (tgt := 11) (by decide) (fun hc2 => ?_) (fun hc2 => ?_)
  · rw [if_neg hc2] at h
    refine k_aloadn (pc := 11) C dX12_span_11 (i := 0) rfl 0 rfl ?_
    refine k_iconst (pc := 12) C (v := (-1 : Int32)) dX12_span_12 (by decide) ?_
    obtain ⟨hs30, h⟩ := gp_e h
    have hs3 := sok_e hs30
    obtain ⟨r4, hr4, h⟩ := bd_e h
    refine k_V (pc := 13) (st := []) C (c_X12_fitting hr4) lkV_RX12_310 hs3 rfl rfl rfl (Nat.le_of_ble_eq_true rfl) (Nat.le_of_ble_eq_true rfl) (Nat.le_of_ble_eq_true rfl) (Nat.le_of_ble_eq_true rfl) (Nat.le_of_ble_eq_true rfl) dX12_span_13 ?_
    refine k_nf (cells2 := 0) (slots2 := 0) (st2 := [.int r4]) rfl rfl rfl ?_
    refine k_istoren (pc := 16) C dX12_span_16 (i := 2) rfl (by decide) (L2 := [(0, .ref (E.1 + a0)), (1, .int x1), (2, .int r4)]) rfl ?_
    refine k_iconst (pc := 17) C (v := (0 : Int32)) dX12_span_17 (by decide) ?_
    refine k_istoren (pc := 18) C dX12_span_18 (i := 3) rfl (by decide) (L2 := [(0, .ref (E.1 + a0)), (1, .int x1), (2, .int r4), (3, .int (0 : Int32))]) rfl ?_
    refine k_bipush (pc := 19) C (v := (-3 : Int32)) dX12_span_19 (by decide) ?_
    refine k_istore (pc := 21) C dX12_span_21 (by decide) (L2 := [(0, .ref (E.1 + a0)), (1, .int x1), (2, .int r4), (3, .int (0 : Int32)), (4, .int (-3 : Int32))]) rfl ?_
    refine k_bipush (pc := 23) C (v := (-3 : Int32)) dX12_span_23 (by decide) ?_
    refine k_istore (pc := 25) C dX12_span_25 (by decide) (L2 := [(0, .ref (E.1 + a0)), (1, .int x1), (2, .int r4), (3, .int (0 : Int32)), (4, .int (-3 : Int32)), (5, .int (-3 : Int32))]) rfl ?_
    refine k_iconst (pc := 27) C (v := (0 : Int32)) dX12_span_27 (by decide) ?_
    refine k_istore (pc := 28) C dX12_span_28 (by decide) (L2 := [(0, .ref (E.1 + a0)), (1, .int x1), (2, .int r4), (3, .int (0 : Int32)), (4, .int (-3 : Int32)), (5, .int (-3 : Int32)), (6, .int (0 : Int32))]) rfl ?_
    refine k_loc (L2 := [(1, .int x1), (2, .int r4), (3, .int (0 : Int32)), (4, .int (-3 : Int32)), (5, .int (-3 : Int32)), (6, .int (0 : Int32))]) [1, 2, 3, 4, 5, 6] rfl ?_
    exact b_X12_span_30 C hr hk  _ _ _ _ _ _ _ h
  · rw [if_pos hc2] at h
    refine k_iconst (pc := 9) C (v := (-1 : Int32)) dX12_span_9 (by decide) ?_
    have h := Option.some.inj h
    subst h
    exact k_iret (pc := 10) C hr hk dX12_span_10
theorem c_X12_span {E : Ev} {l : Launch} {S : Sh} {R : Rw} {I : Iw} {a0 : Nat} {x1 : Int32} {r : Int32} (h : f_X12_span S R I a0 x1 = some r) : Mt E l yX12_span cX12_span 7 (some .int) 5 113 [.ref (E.1 + a0), .int x1] S R I S R I (some (.int r)) 0 0 := mt_of (by decide) (Nat.le_of_ble_eq_true rfl) (fun p e s m args below meth c C hr hk hn => b_X12_span C hr hk _ _ h)
theorem dX12_liar_0 : decode cX12_liar 0 = .ok (.bipush (-3), 2) := by decide +kernel
theorem dX12_liar_2 : decode cX12_liar 2 = .ok (.istore_n 1, 1) := by decide +kernel
theorem dX12_liar_3 : decode cX12_liar 3 = .ok (.aload_n 0, 1) := by decide +kernel
theorem dX12_liar_4 : decode cX12_liar 4 = .ok (.iconst (-1), 1) := by decide +kernel
theorem dX12_liar_5 : decode cX12_liar 5 = .ok (.invokevirtual 310, 3) := by decide +kernel
theorem dX12_liar_8 : decode cX12_liar 8 = .ok (.ifCond .ne 7, 3) := by decide +kernel
theorem dX12_liar_11 : decode cX12_liar 11 = .ok (.iconst 1, 1) := by decide +kernel
theorem dX12_liar_12 : decode cX12_liar 12 = .ok (.goto 4, 3) := by decide +kernel
theorem dX12_liar_15 : decode cX12_liar 15 = .ok (.iconst 0, 1) := by decide +kernel
theorem dX12_liar_16 : decode cX12_liar 16 = .ok (.istore_n 2, 1) := by decide +kernel
theorem dX12_liar_17 : decode cX12_liar 17 = .ok (.iconst 0, 1) := by decide +kernel
theorem dX12_liar_18 : decode cX12_liar 18 = .ok (.istore_n 3, 1) := by decide +kernel
theorem dX12_liar_19 : decode cX12_liar 19 = .ok (.iload_n 3, 1) := by decide +kernel
theorem dX12_liar_20 : decode cX12_liar 20 = .ok (.aload_n 0, 1) := by decide +kernel
theorem dX12_liar_21 : decode cX12_liar 21 = .ok (.getfield 9, 3) := by decide +kernel
theorem dX12_liar_24 : decode cX12_liar 24 = .ok (.bipush 6, 2) := by decide +kernel
theorem dX12_liar_26 : decode cX12_liar 26 = .ok (.iaload, 1) := by decide +kernel
theorem dX12_liar_27 : decode cX12_liar 27 = .ok (.if_icmp .ge 34, 3) := by decide +kernel
theorem dX12_liar_30 : decode cX12_liar 30 = .ok (.iload_n 2, 1) := by decide +kernel
theorem dX12_liar_31 : decode cX12_liar 31 = .ok (.ifCond .eq 30, 3) := by decide +kernel
theorem dX12_liar_34 : decode cX12_liar 34 = .ok (.iload_n 1, 1) := by decide +kernel
theorem dX12_liar_35 : decode cX12_liar 35 = .ok (.bipush (-3), 2) := by decide +kernel
theorem dX12_liar_37 : decode cX12_liar 37 = .ok (.if_icmp .ne 24, 3) := by decide +kernel
theorem dX12_liar_40 : decode cX12_liar 40 = .ok (.aload_n 0, 1) := by decide +kernel
theorem dX12_liar_41 : decode cX12_liar 41 = .ok (.iload_n 3, 1) := by decide +kernel
theorem dX12_liar_42 : decode cX12_liar 42 = .ok (.invokevirtual 310, 3) := by decide +kernel
theorem dX12_liar_45 : decode cX12_liar 45 = .ok (.ifCond .ne 8, 3) := by decide +kernel
theorem dX12_liar_48 : decode cX12_liar 48 = .ok (.bipush (-3), 2) := by decide +kernel
theorem dX12_liar_50 : decode cX12_liar 50 = .ok (.goto 4, 3) := by decide +kernel
theorem dX12_liar_53 : decode cX12_liar 53 = .ok (.iload_n 3, 1) := by decide +kernel
theorem dX12_liar_54 : decode cX12_liar 54 = .ok (.istore_n 1, 1) := by decide +kernel
theorem dX12_liar_55 : decode cX12_liar 55 = .ok (.iinc 3 1, 3) := by decide +kernel
theorem dX12_liar_58 : decode cX12_liar 58 = .ok (.goto (-39), 3) := by decide +kernel
theorem dX12_liar_61 : decode cX12_liar 61 = .ok (.iload_n 1, 1) := by decide +kernel
theorem dX12_liar_62 : decode cX12_liar 62 = .ok (.ireturn, 1) := by decide +kernel
def f_X12_liar_54 (S : Sh) (R : Rw) (I : Iw) (ko19 : Nat → Int32 → Int32 → Int32 → Option (Int32)) (a0 : Nat) (x2 : Int32) (x3 : Int32) (s0 : Int32) : Option (Int32) := ko19 a0 s0 x2 (x3 + (1 : Int32))
set_option maxHeartbeats 4000000 in
theorem b_X12_liar_54 {E : Ev} {p : Program} {l : Launch} {e : Env} {s : State} {m : MethodId} {args : Array Value} {below : List Frame} {meth : Method} {c : Code} (C : Cx E RX12 cX12_liar 4 p s m c) (hr : meth.sig.returnType = (some .int)) (hk : meth.locks = false) {S : Sh} {R : Rw} {I : Iw} {r : Int32}  {ko19 : Nat → Int32 → Int32 → Int32 → Option (Int32)} (hko19 : ∀ (a0 : Nat) (x1 : Int32) (x2 : Int32) (x3 : Int32), ko19 a0 x1 x2 x3 = some r → Wk E 4 p l e ({ frames := 5, cells := 0, slots := 0, locals := 113 } : Room) s m args below meth c 0 0 (MQ below (Qw E S R I (some (.int r))) args s 0 0 (fun q => E.1 ≤ q)) 19 [(0, .ref (E.1 + a0)), (1, .int x1), (2, .int x2), (3, .int x3)] [] S R I) : ∀ (a0 : Nat) (x2 : Int32) (x3 : Int32) (s0 : Int32), f_X12_liar_54 S R I ko19  a0 x2 x3 s0 = some r → Wk E 4 p l e ({ frames := 5, cells := 0, slots := 0, locals := 113 } : Room) s m args below meth c 0 0 (MQ below (Qw E S R I (some (.int r))) args s 0 0 (fun q => E.1 ≤ q)) 54 [(0, .ref (E.1 + a0)), (2, .int x2), (3, .int x3)] [.int s0] S R I := by
  intro a0 x2 x3 s0 h
  rw [f_X12_liar_54] at h
  refine k_istoren (pc := 54) C dX12_liar_54 (i := 1) rfl (by decide) (L2 := [(0, .ref (E.1 + a0)), (1, .int s0), (2, .int x2), (3, .int x3)]) rfl ?_
  refine k_iinc (pc := 55) C dX12_liar_55 3 rfl (v := x3 + (1 : Int32)) (by rfl) (by decide) (L2 := [(0, .ref (E.1 + a0)), (1, .int s0), (2, .int x2), (3, .int (x3 + (1 : Int32)))]) rfl ?_
  refine k_goto (pc := 58) C dX12_liar_58 (tgt := 19) (by decide) ?_
  exact hko19 _ _ _ _ h
def f_X12_liar_19 (S : Sh) (R : Rw) (I : Iw)  : Nat → Nat → Int32 → Int32 → Int32 → Option (Int32)
  | 0, _, _, _, _ => none
  | n + 1, a0, x1, x2, x3 => gp (sok S a0 12 34) (rl (R a0 0) (fun b5 => gp (aok S 20 b5 (6 : Int32)) ((if (I b5 (6 : Int32).toNatClampNeg) ≤ x3 then some x1 else (if x2 = 0 then some x1 else (if x1 = (-3 : Int32) then bd (f_X12_fitting S R I a0 x3) (fun r10 => (if r10 = 0 then f_X12_liar_54 S R I (f_X12_liar_19 S R I  n) a0 x2 x3 (-3 : Int32) else f_X12_liar_54 S R I (f_X12_liar_19 S R I  n) a0 x2 x3 x3)) else some x1))))))
set_option maxHeartbeats 4000000 in
theorem b_X12_liar_19 {E : Ev} {p : Program} {l : Launch} {e : Env} {s : State} {m : MethodId} {args : Array Value} {below : List Frame} {meth : Method} {c : Code} (C : Cx E RX12 cX12_liar 4 p s m c) (hr : meth.sig.returnType = (some .int)) (hk : meth.locks = false) {S : Sh} {R : Rw} {I : Iw} {r : Int32}  : ∀ (n : Nat) (a0 : Nat) (x1 : Int32) (x2 : Int32) (x3 : Int32), f_X12_liar_19 S R I  n a0 x1 x2 x3 = some r → Wk E 4 p l e ({ frames := 5, cells := 0, slots := 0, locals := 113 } : Room) s m args below meth c 0 0 (MQ below (Qw E S R I (some (.int r))) args s 0 0 (fun q => E.1 ≤ q)) 19 [(0, .ref (E.1 + a0)), (1, .int x1), (2, .int x2), (3, .int x3)] [] S R I := by
  intro n
  induction n with
  | zero =>
    intro a0 x1 x2 x3 h
    rw [f_X12_liar_19] at h
    cases h
  | succ n ih =>
    intro a0 x1 x2 x3 h
    rw [f_X12_liar_19] at h
    refine k_iloadn (pc := 19) C dX12_liar_19 (i := 3) rfl 3 rfl ?_
    refine k_aloadn (pc := 20) C dX12_liar_20 (i := 0) rfl 0 rfl ?_
    obtain ⟨hs40, h⟩ := gp_e h
    have hs4 := sok_e hs40
    obtain ⟨b5, hb5, h⟩ := rl_e h
    refine k_getR (pc := 21) C lkF_RX12_9_12 hs4 ir_12_0 hb5 dX12_liar_21 ?_
    refine k_bipush (pc := 24) C (v := (6 : Int32)) dX12_liar_24 (by decide) ?_
    obtain ⟨ha6, h⟩ := gp_e h
    refine k_iald (pc := 26) C ha6 dX12_liar_26 ?_
    refine k_icmp_ge (pc := 27) C dX12_liar_27 (tgt := 61) (by decide) (fun hc7 => ?_) (fun hc7 => ?_)
    · rw [if_pos hc7] at h
      refine k_iloadn (pc := 61) C dX12_liar_61 (i := 1) rfl 1 rfl ?_
      have h := Option.some.inj h
      subst h
      exact k_iret (pc := 62) C hr hk dX12_liar_62
    · rw [if_neg hc7] at h
      refine k_iloadn (pc := 30) C dX12_liar_30 (i := 2) rfl 2 rfl ?_
      refine k_if_eq (pc := 31) C dX12_liar_31 (tgt := 61) (by decide) (fun hc8 => ?_) (fun hc8 => ?_)
      · rw [if_pos hc8] at h
        refine k_iloadn (pc := 61) C dX12_liar_61 (i := 1) rfl 1 rfl ?_
        have h := Option.some.inj h
        subst h
        exact k_iret (pc := 62) C hr hk dX12_liar_62
      · rw [if_neg hc8] at h
        refine k_iloadn (pc := 34) C dX12_liar_34 (i := 1) rfl 1 rfl ?_
        refine k_bipush (pc := 35) C (v := (-3 : Int32)) dX12_liar_35 (by decide) ?_
        refine k_icmp_ne (pc := 37) C dX12_liar_37 (tgt := 61) (by decide) (fun hc9 => ?_) (fun hc9 => ?_)
        · rw [if_neg hc9] at h
          refine k_iloadn (pc := 61) C dX12_liar_61 (i := 1) rfl 1 rfl ?_
          have h := Option.some.inj h
          subst h
          exact k_iret (pc := 62) C hr hk dX12_liar_62
        · rw [if_pos hc9] at h
          refine k_aloadn (pc := 40) C dX12_liar_40 (i := 0) rfl 0 rfl ?_
          refine k_iloadn (pc := 41) C dX12_liar_41 (i := 3) rfl 3 rfl ?_
          obtain ⟨r10, hr10, h⟩ := bd_e h
          refine k_V (pc := 42) (st := []) C (c_X12_fitting hr10) lkV_RX12_310 hs4 rfl rfl rfl (Nat.le_of_ble_eq_true rfl) (Nat.le_of_ble_eq_true rfl) (Nat.le_of_ble_eq_true rfl) (Nat.le_of_ble_eq_true rfl) (Nat.le_of_ble_eq_true rfl) dX12_liar_42 ?_
          refine k_nf (cells2 := 0) (slots2 := 0) (st2 := [.int r10]) rfl rfl rfl ?_
          refine k_if_ne (pc := 45) C dX12_liar_45 (tgt := 53) (by decide) (fun hc11 => ?_) (fun hc11 => ?_)
          · rw [if_neg hc11] at h
            refine k_iloadn (pc := 53) C dX12_liar_53 (i := 3) rfl 3 rfl ?_
            refine k_loc (L2 := [(0, .ref (E.1 + a0)), (2, .int x2), (3, .int x3)]) [0, 2, 3] rfl ?_
            exact b_X12_liar_54 C hr hk ih _ _ _ _ h
          · rw [if_pos hc11] at h
            refine k_bipush (pc := 48) C (v := (-3 : Int32)) dX12_liar_48 (by decide) ?_
            refine k_goto (pc := 50) C dX12_liar_50 (tgt := 54) (by decide) ?_
            refine k_loc (L2 := [(0, .ref (E.1 + a0)), (2, .int x2), (3, .int x3)]) [0, 2, 3] rfl ?_
            exact b_X12_liar_54 C hr hk ih _ _ _ _ h
def f_X12_liar_16 (S : Sh) (R : Rw) (I : Iw)  (a0 : Nat) (x1 : Int32) (s0 : Int32) : Option (Int32) := f_X12_liar_19 S R I  512 a0 x1 s0 (0 : Int32)
set_option maxHeartbeats 4000000 in
theorem b_X12_liar_16 {E : Ev} {p : Program} {l : Launch} {e : Env} {s : State} {m : MethodId} {args : Array Value} {below : List Frame} {meth : Method} {c : Code} (C : Cx E RX12 cX12_liar 4 p s m c) (hr : meth.sig.returnType = (some .int)) (hk : meth.locks = false) {S : Sh} {R : Rw} {I : Iw} {r : Int32}  : ∀ (a0 : Nat) (x1 : Int32) (s0 : Int32), f_X12_liar_16 S R I   a0 x1 s0 = some r → Wk E 4 p l e ({ frames := 5, cells := 0, slots := 0, locals := 113 } : Room) s m args below meth c 0 0 (MQ below (Qw E S R I (some (.int r))) args s 0 0 (fun q => E.1 ≤ q)) 16 [(0, .ref (E.1 + a0)), (1, .int x1)] [.int s0] S R I := by
  intro a0 x1 s0 h
  rw [f_X12_liar_16] at h
  refine k_istoren (pc := 16) C dX12_liar_16 (i := 2) rfl (by decide) (L2 := [(0, .ref (E.1 + a0)), (1, .int x1), (2, .int s0)]) rfl ?_
  refine k_iconst (pc := 17) C (v := (0 : Int32)) dX12_liar_17 (by decide) ?_
  refine k_istoren (pc := 18) C dX12_liar_18 (i := 3) rfl (by decide) (L2 := [(0, .ref (E.1 + a0)), (1, .int x1), (2, .int s0), (3, .int (0 : Int32))]) rfl ?_
  exact b_X12_liar_19 C hr hk  _ _ _ _ _ h
def f_X12_liar (S : Sh) (R : Rw) (I : Iw)  (a0 : Nat) : Option (Int32) := gp (sok S a0 12 34) (bd (f_X12_fitting S R I a0 (-1 : Int32)) (fun r2 => (if r2 = 0 then f_X12_liar_16 S R I  a0 (-3 : Int32) (1 : Int32) else f_X12_liar_16 S R I  a0 (-3 : Int32) (0 : Int32))))
set_option maxHeartbeats 4000000 in
theorem b_X12_liar {E : Ev} {p : Program} {l : Launch} {e : Env} {s : State} {m : MethodId} {args : Array Value} {below : List Frame} {meth : Method} {c : Code} (C : Cx E RX12 cX12_liar 4 p s m c) (hr : meth.sig.returnType = (some .int)) (hk : meth.locks = false) {S : Sh} {R : Rw} {I : Iw} {r : Int32}  : ∀ (a0 : Nat), f_X12_liar S R I   a0 = some r → Wk E 4 p l e ({ frames := 5, cells := 0, slots := 0, locals := 113 } : Room) s m args below meth c 0 0 (MQ below (Qw E S R I (some (.int r))) args s 0 0 (fun q => E.1 ≤ q)) 0 [(0, .ref (E.1 + a0))] [] S R I := by
  intro a0 h
  rw [f_X12_liar] at h
  refine k_bipush (pc := 0) C (v := (-3 : Int32)) dX12_liar_0 (by decide) ?_
  refine k_istoren (pc := 2) C dX12_liar_2 (i := 1) rfl (by decide) (L2 := [(0, .ref (E.1 + a0)), (1, .int (-3 : Int32))]) rfl ?_
  refine k_aloadn (pc := 3) C dX12_liar_3 (i := 0) rfl 0 rfl ?_
  refine k_iconst (pc := 4) C (v := (-1 : Int32)) dX12_liar_4 (by decide) ?_
  obtain ⟨hs10, h⟩ := gp_e h
  have hs1 := sok_e hs10
  obtain ⟨r2, hr2, h⟩ := bd_e h
  refine k_V (pc := 5) (st := []) C (c_X12_fitting hr2) lkV_RX12_310 hs1 rfl rfl rfl (Nat.le_of_ble_eq_true rfl) (Nat.le_of_ble_eq_true rfl) (Nat.le_of_ble_eq_true rfl) (Nat.le_of_ble_eq_true rfl) (Nat.le_of_ble_eq_true rfl) dX12_liar_5 ?_
  refine k_nf (cells2 := 0) (slots2 := 0) (st2 := [.int r2]) rfl rfl rfl ?_
  refine k_if_ne (pc := 8) C dX12_liar_8 (tgt := 15) (by decide) (fun hc3 => ?_) (fun hc3 => ?_)
  · rw [if_neg hc3] at h
    refine k_iconst (pc := 15) C (v := (0 : Int32)) dX12_liar_15 (by decide) ?_
    exact b_X12_liar_16 C hr hk  _ _ _ h
  · rw [if_pos hc3] at h
    refine k_iconst (pc := 11) C (v := (1 : Int32)) dX12_liar_11 (by decide) ?_
    refine k_goto (pc := 12) C dX12_liar_12 (tgt := 16) (by decide) ?_
    exact b_X12_liar_16 C hr hk  _ _ _ h
theorem c_X12_liar {E : Ev} {l : Launch} {S : Sh} {R : Rw} {I : Iw} {a0 : Nat} {r : Int32} (h : f_X12_liar S R I a0 = some r) : Mt E l yX12_liar cX12_liar 4 (some .int) 5 113 [.ref (E.1 + a0)] S R I S R I (some (.int r)) 0 0 := mt_of (by decide) (Nat.le_of_ble_eq_true rfl) (fun p e s m args below meth c C hr hk hn => b_X12_liar C hr hk _ h)
theorem dX12_seed_0 : decode cX12_seed 0 = .ok (.aload_n 0, 1) := by decide +kernel
theorem dX12_seed_1 : decode cX12_seed 1 = .ok (.iconst 2, 1) := by decide +kernel
theorem dX12_seed_2 : decode cX12_seed 2 = .ok (.iload_n 1, 1) := by decide +kernel
theorem dX12_seed_3 : decode cX12_seed 3 = .ok (.invokevirtual 260, 3) := by decide +kernel
theorem dX12_seed_6 : decode cX12_seed 6 = .ok (.ireturn, 1) := by decide +kernel
def f_X12_seed (S : Sh) (R : Rw)  (I : Iw) (a0 : Nat) (x1 : Int32) : Option (Iw × Int32) := gp (sok S a0 12 34) (bd (f_X12_comes S R I a0 (2 : Int32) x1) (fun r2 => some (r2.1, r2.2)))
set_option maxHeartbeats 4000000 in
theorem b_X12_seed {E : Ev} {p : Program} {l : Launch} {e : Env} {s : State} {m : MethodId} {args : Array Value} {below : List Frame} {meth : Method} {c : Code} (C : Cx E RX12 cX12_seed 2 p s m c) (hr : meth.sig.returnType = (some .int)) (hk : meth.locks = false) {S : Sh} {R : Rw} {r : Iw × Int32}  : ∀ (I : Iw) (a0 : Nat) (x1 : Int32), f_X12_seed S R   I a0 x1 = some r → Wk E 2 p l e ({ frames := 1, cells := 0, slots := 0, locals := 23 } : Room) s m args below meth c 0 0 (MQ below (Qw E S R r.1 (some (.int r.2))) args s 0 0 (fun q => E.1 ≤ q)) 0 [(0, .ref (E.1 + a0)), (1, .int x1)] [] S R I := by
  intro I a0 x1 h
  rw [f_X12_seed] at h
  refine k_aloadn (pc := 0) C dX12_seed_0 (i := 0) rfl 0 rfl ?_
  refine k_iconst (pc := 1) C (v := (2 : Int32)) dX12_seed_1 (by decide) ?_
  refine k_iloadn (pc := 2) C dX12_seed_2 (i := 1) rfl 1 rfl ?_
  obtain ⟨hs10, h⟩ := gp_e h
  have hs1 := sok_e hs10
  obtain ⟨r2, hr2, h⟩ := bd_e h
  refine k_V (pc := 3) (st := []) C (c_X12_comes hr2) lkV_RX12_260 hs1 rfl rfl rfl (Nat.le_of_ble_eq_true rfl) (Nat.le_of_ble_eq_true rfl) (Nat.le_of_ble_eq_true rfl) (Nat.le_of_ble_eq_true rfl) (Nat.le_of_ble_eq_true rfl) dX12_seed_3 ?_
  refine k_nf (cells2 := 0) (slots2 := 0) (st2 := [.int r2.2]) rfl rfl rfl ?_
  have h := Option.some.inj h
  subst h
  exact k_iret (pc := 6) C hr hk dX12_seed_6
theorem c_X12_seed {E : Ev} {l : Launch} {S : Sh} {R : Rw} {I : Iw} {a0 : Nat} {x1 : Int32} {r : Iw × Int32} (h : f_X12_seed S R I a0 x1 = some r) : Mt E l yX12_seed cX12_seed 2 (some .int) 1 23 [.ref (E.1 + a0), .int x1] S R I S R r.1 (some (.int r.2)) 0 0 := mt_of (by decide) (Nat.le_of_ble_eq_true rfl) (fun p e s m args below meth c C hr hk hn => b_X12_seed C hr hk _ _ _ h)
theorem lkV_RX12_313 : LkV RX12 313 RX12 yX12_may cX12_may 3 (some .int) 0 := ⟨(t7_in 34 (by decide +kernel) rfl), (t6_in 115 (by decide +kernel) rfl), (t6_in 116 (by decide +kernel) rfl), (t6_in 117 (by decide +kernel) rfl), (t1_in 7 (by decide +kernel) rfl), by decide, by decide +kernel⟩
theorem dX12_drawn_0 : decode cX12_drawn 0 = .ok (.aload_n 0, 1) := by decide +kernel
theorem dX12_drawn_1 : decode cX12_drawn 1 = .ok (.invokevirtual 313, 3) := by decide +kernel
theorem dX12_drawn_4 : decode cX12_drawn 4 = .ok (.istore_n 1, 1) := by decide +kernel
theorem dX12_drawn_5 : decode cX12_drawn 5 = .ok (.iconst 0, 1) := by decide +kernel
theorem dX12_drawn_6 : decode cX12_drawn 6 = .ok (.istore_n 2, 1) := by decide +kernel
theorem dX12_drawn_7 : decode cX12_drawn 7 = .ok (.iconst 0, 1) := by decide +kernel
theorem dX12_drawn_8 : decode cX12_drawn 8 = .ok (.istore_n 3, 1) := by decide +kernel
theorem dX12_drawn_9 : decode cX12_drawn 9 = .ok (.iload_n 3, 1) := by decide +kernel
theorem dX12_drawn_10 : decode cX12_drawn 10 = .ok (.aload_n 0, 1) := by decide +kernel
theorem dX12_drawn_11 : decode cX12_drawn 11 = .ok (.getfield 9, 3) := by decide +kernel
theorem dX12_drawn_14 : decode cX12_drawn 14 = .ok (.iconst 3, 1) := by decide +kernel
theorem dX12_drawn_15 : decode cX12_drawn 15 = .ok (.iaload, 1) := by decide +kernel
theorem dX12_drawn_16 : decode cX12_drawn 16 = .ok (.if_icmp .ge 17, 3) := by decide +kernel
theorem dX12_drawn_19 : decode cX12_drawn 19 = .ok (.iload_n 2, 1) := by decide +kernel
theorem dX12_drawn_20 : decode cX12_drawn 20 = .ok (.iload_n 1, 1) := by decide +kernel
theorem dX12_drawn_21 : decode cX12_drawn 21 = .ok (.iload_n 3, 1) := by decide +kernel
theorem dX12_drawn_22 : decode cX12_drawn 22 = .ok (.ishr, 1) := by decide +kernel
theorem dX12_drawn_23 : decode cX12_drawn 23 = .ok (.iconst 1, 1) := by decide +kernel
theorem dX12_drawn_24 : decode cX12_drawn 24 = .ok (.iand, 1) := by decide +kernel
theorem dX12_drawn_25 : decode cX12_drawn 25 = .ok (.iadd, 1) := by decide +kernel
theorem dX12_drawn_26 : decode cX12_drawn 26 = .ok (.istore_n 2, 1) := by decide +kernel
theorem dX12_drawn_27 : decode cX12_drawn 27 = .ok (.iinc 3 1, 3) := by decide +kernel
theorem dX12_drawn_30 : decode cX12_drawn 30 = .ok (.goto (-21), 3) := by decide +kernel
theorem dX12_drawn_33 : decode cX12_drawn 33 = .ok (.iload_n 2, 1) := by decide +kernel
theorem dX12_drawn_34 : decode cX12_drawn 34 = .ok (.ifCond .ne 6, 3) := by decide +kernel
theorem dX12_drawn_37 : decode cX12_drawn 37 = .ok (.bipush (-3), 2) := by decide +kernel
theorem dX12_drawn_39 : decode cX12_drawn 39 = .ok (.ireturn, 1) := by decide +kernel
theorem dX12_drawn_40 : decode cX12_drawn 40 = .ok (.aload_n 0, 1) := by decide +kernel
theorem dX12_drawn_41 : decode cX12_drawn 41 = .ok (.getfield 9, 3) := by decide +kernel
theorem dX12_drawn_44 : decode cX12_drawn 44 = .ok (.iconst 2, 1) := by decide +kernel
theorem dX12_drawn_45 : decode cX12_drawn 45 = .ok (.aload_n 0, 1) := by decide +kernel
theorem dX12_drawn_46 : decode cX12_drawn 46 = .ok (.getfield 9, 3) := by decide +kernel
theorem dX12_drawn_49 : decode cX12_drawn 49 = .ok (.iconst 2, 1) := by decide +kernel
theorem dX12_drawn_50 : decode cX12_drawn 50 = .ok (.iaload, 1) := by decide +kernel
theorem dX12_drawn_51 : decode cX12_drawn 51 = .ok (.ldc_w 316, 3) := by decide +kernel
theorem dX12_drawn_54 : decode cX12_drawn 54 = .ok (.imul, 1) := by decide +kernel
theorem dX12_drawn_55 : decode cX12_drawn 55 = .ok (.sipush 12345, 3) := by decide +kernel
theorem dX12_drawn_58 : decode cX12_drawn 58 = .ok (.iadd, 1) := by decide +kernel
theorem dX12_drawn_59 : decode cX12_drawn 59 = .ok (.iastore, 1) := by decide +kernel
theorem dX12_drawn_60 : decode cX12_drawn 60 = .ok (.aload_n 0, 1) := by decide +kernel
theorem dX12_drawn_61 : decode cX12_drawn 61 = .ok (.getfield 9, 3) := by decide +kernel
theorem dX12_drawn_64 : decode cX12_drawn 64 = .ok (.iconst 2, 1) := by decide +kernel
theorem dX12_drawn_65 : decode cX12_drawn 65 = .ok (.iaload, 1) := by decide +kernel
theorem dX12_drawn_66 : decode cX12_drawn 66 = .ok (.bipush 16, 2) := by decide +kernel
theorem dX12_drawn_68 : decode cX12_drawn 68 = .ok (.iushr, 1) := by decide +kernel
theorem dX12_drawn_69 : decode cX12_drawn 69 = .ok (.iload_n 2, 1) := by decide +kernel
theorem dX12_drawn_70 : decode cX12_drawn 70 = .ok (.irem, 1) := by decide +kernel
theorem dX12_drawn_71 : decode cX12_drawn 71 = .ok (.istore_n 3, 1) := by decide +kernel
theorem dX12_drawn_72 : decode cX12_drawn 72 = .ok (.iconst 0, 1) := by decide +kernel
theorem dX12_drawn_73 : decode cX12_drawn 73 = .ok (.istore 4, 2) := by decide +kernel
theorem dX12_drawn_75 : decode cX12_drawn 75 = .ok (.iload_n 3, 1) := by decide +kernel
theorem dX12_drawn_76 : decode cX12_drawn 76 = .ok (.ifCond .gt 12, 3) := by decide +kernel
theorem dX12_drawn_79 : decode cX12_drawn 79 = .ok (.iload_n 1, 1) := by decide +kernel
theorem dX12_drawn_80 : decode cX12_drawn 80 = .ok (.iload 4, 2) := by decide +kernel
theorem dX12_drawn_82 : decode cX12_drawn 82 = .ok (.ishr, 1) := by decide +kernel
theorem dX12_drawn_83 : decode cX12_drawn 83 = .ok (.iconst 1, 1) := by decide +kernel
theorem dX12_drawn_84 : decode cX12_drawn 84 = .ok (.iand, 1) := by decide +kernel
theorem dX12_drawn_85 : decode cX12_drawn 85 = .ok (.ifCond .ne 18, 3) := by decide +kernel
theorem dX12_drawn_88 : decode cX12_drawn 88 = .ok (.iload_n 3, 1) := by decide +kernel
theorem dX12_drawn_89 : decode cX12_drawn 89 = .ok (.iload_n 1, 1) := by decide +kernel
theorem dX12_drawn_90 : decode cX12_drawn 90 = .ok (.iload 4, 2) := by decide +kernel
theorem dX12_drawn_92 : decode cX12_drawn 92 = .ok (.ishr, 1) := by decide +kernel
theorem dX12_drawn_93 : decode cX12_drawn 93 = .ok (.iconst 1, 1) := by decide +kernel
theorem dX12_drawn_94 : decode cX12_drawn 94 = .ok (.iand, 1) := by decide +kernel
theorem dX12_drawn_95 : decode cX12_drawn 95 = .ok (.isub, 1) := by decide +kernel
theorem dX12_drawn_96 : decode cX12_drawn 96 = .ok (.istore_n 3, 1) := by decide +kernel
theorem dX12_drawn_97 : decode cX12_drawn 97 = .ok (.iinc 4 1, 3) := by decide +kernel
theorem dX12_drawn_100 : decode cX12_drawn 100 = .ok (.goto (-25), 3) := by decide +kernel
theorem dX12_drawn_103 : decode cX12_drawn 103 = .ok (.aload_n 0, 1) := by decide +kernel
theorem dX12_drawn_104 : decode cX12_drawn 104 = .ok (.iload 4, 2) := by decide +kernel
theorem dX12_drawn_106 : decode cX12_drawn 106 = .ok (.invokevirtual 263, 3) := by decide +kernel
theorem dX12_drawn_109 : decode cX12_drawn 109 = .ok (.iload 4, 2) := by decide +kernel
theorem dX12_drawn_111 : decode cX12_drawn 111 = .ok (.ireturn, 1) := by decide +kernel
def f_X12_drawn_88 (S : Sh) (R : Rw) (ko75 : Iw → Nat → Int32 → Int32 → Int32 → Option (Iw × Int32)) (I : Iw) (a0 : Nat) (x1 : Int32) (x3 : Int32) (x4 : Int32) : Option (Iw × Int32) := ko75 I a0 x1 (x3 - ((x1 >>> (x4 &&& 31)) &&& (1 : Int32))) (x4 + (1 : Int32))
set_option maxHeartbeats 4000000 in
theorem b_X12_drawn_88 {E : Ev} {p : Program} {l : Launch} {e : Env} {s : State} {m : MethodId} {args : Array Value} {below : List Frame} {meth : Method} {c : Code} (C : Cx E RX12 cX12_drawn 5 p s m c) (hr : meth.sig.returnType = (some .int)) (hk : meth.locks = false) {S : Sh} {R : Rw} {r : Iw × Int32}  {ko75 : Iw → Nat → Int32 → Int32 → Int32 → Option (Iw × Int32)} (hko75 : ∀ (I : Iw) (a0 : Nat) (x1 : Int32) (x3 : Int32) (x4 : Int32), ko75 I a0 x1 x3 x4 = some r → Wk E 5 p l e ({ frames := 6, cells := 0, slots := 0, locals := 133 } : Room) s m args below meth c 0 0 (MQ below (Qw E S R r.1 (some (.int r.2))) args s 0 0 (fun q => E.1 ≤ q)) 75 [(0, .ref (E.1 + a0)), (1, .int x1), (3, .int x3), (4, .int x4)] [] S R I) : ∀ (I : Iw) (a0 : Nat) (x1 : Int32) (x3 : Int32) (x4 : Int32), f_X12_drawn_88 S R ko75  I a0 x1 x3 x4 = some r → Wk E 5 p l e ({ frames := 6, cells := 0, slots := 0, locals := 133 } : Room) s m args below meth c 0 0 (MQ below (Qw E S R r.1 (some (.int r.2))) args s 0 0 (fun q => E.1 ≤ q)) 88 [(0, .ref (E.1 + a0)), (1, .int x1), (3, .int x3), (4, .int x4)] [] S R I := by
  intro I a0 x1 x3 x4 h
  rw [f_X12_drawn_88] at h
  refine k_iloadn (pc := 88) C dX12_drawn_88 (i := 3) rfl 2 rfl ?_
  refine k_iloadn (pc := 89) C dX12_drawn_89 (i := 1) rfl 1 rfl ?_
  refine k_iload (pc := 90) C dX12_drawn_90 3 rfl ?_
  refine k_ishr (pc := 92) C dX12_drawn_92 ?_
  refine k_iconst (pc := 93) C (v := (1 : Int32)) dX12_drawn_93 (by decide) ?_
  refine k_iand (pc := 94) C dX12_drawn_94 ?_
  refine k_isub (pc := 95) C dX12_drawn_95 ?_
  refine k_istoren (pc := 96) C dX12_drawn_96 (i := 3) rfl (by decide) (L2 := [(0, .ref (E.1 + a0)), (1, .int x1), (3, .int (x3 - ((x1 >>> (x4 &&& 31)) &&& (1 : Int32)))), (4, .int x4)]) rfl ?_
  refine k_iinc (pc := 97) C dX12_drawn_97 3 rfl (v := x4 + (1 : Int32)) (by rfl) (by decide) (L2 := [(0, .ref (E.1 + a0)), (1, .int x1), (3, .int (x3 - ((x1 >>> (x4 &&& 31)) &&& (1 : Int32)))), (4, .int (x4 + (1 : Int32)))]) rfl ?_
  refine k_goto (pc := 100) C dX12_drawn_100 (tgt := 75) (by decide) ?_
  exact hko75 _ _ _ _ _ h
def f_X12_drawn_75 (S : Sh) (R : Rw)  : Nat → Iw → Nat → Int32 → Int32 → Int32 → Option (Iw × Int32)
  | 0, _, _, _, _, _ => none
  | n + 1, I, a0, x1, x3, x4 => (if 0 < x3 then f_X12_drawn_88 S R (f_X12_drawn_75 S R  n) I a0 x1 x3 x4 else (if ((x1 >>> (x4 &&& 31)) &&& (1 : Int32)) = 0 then f_X12_drawn_88 S R (f_X12_drawn_75 S R  n) I a0 x1 x3 x4 else gp (sok S a0 12 34) (bd (f_X12_out S R I a0 x4) (fun r20 => some (r20, x4)))))
set_option maxHeartbeats 4000000 in
theorem b_X12_drawn_75 {E : Ev} {p : Program} {l : Launch} {e : Env} {s : State} {m : MethodId} {args : Array Value} {below : List Frame} {meth : Method} {c : Code} (C : Cx E RX12 cX12_drawn 5 p s m c) (hr : meth.sig.returnType = (some .int)) (hk : meth.locks = false) {S : Sh} {R : Rw} {r : Iw × Int32}  : ∀ (n : Nat) (I : Iw) (a0 : Nat) (x1 : Int32) (x3 : Int32) (x4 : Int32), f_X12_drawn_75 S R  n I a0 x1 x3 x4 = some r → Wk E 5 p l e ({ frames := 6, cells := 0, slots := 0, locals := 133 } : Room) s m args below meth c 0 0 (MQ below (Qw E S R r.1 (some (.int r.2))) args s 0 0 (fun q => E.1 ≤ q)) 75 [(0, .ref (E.1 + a0)), (1, .int x1), (3, .int x3), (4, .int x4)] [] S R I := by
  intro n
  induction n with
  | zero =>
    intro I a0 x1 x3 x4 h
    rw [f_X12_drawn_75] at h
    cases h
  | succ n ih =>
    intro I a0 x1 x3 x4 h
    rw [f_X12_drawn_75] at h
    refine k_iloadn (pc := 75) C dX12_drawn_75 (i := 3) rfl 2 rfl ?_
    refine k_if_gt (pc := 76) C dX12_drawn_76 (tgt := 88) (by decide) (fun hc17 => ?_) (fun hc17 => ?_)
    · rw [if_pos hc17] at h
      exact b_X12_drawn_88 C hr hk ih _ _ _ _ _ h
    · rw [if_neg hc17] at h
      refine k_iloadn (pc := 79) C dX12_drawn_79 (i := 1) rfl 1 rfl ?_
      refine k_iload (pc := 80) C dX12_drawn_80 3 rfl ?_
      refine k_ishr (pc := 82) C dX12_drawn_82 ?_
      refine k_iconst (pc := 83) C (v := (1 : Int32)) dX12_drawn_83 (by decide) ?_
      refine k_iand (pc := 84) C dX12_drawn_84 ?_
      refine k_if_ne (pc := 85) C dX12_drawn_85 (tgt := 103) (by decide) (fun hc18 => ?_) (fun hc18 => ?_)
      · rw [if_neg hc18] at h
        refine k_aloadn (pc := 103) C dX12_drawn_103 (i := 0) rfl 0 rfl ?_
        refine k_iload (pc := 104) C dX12_drawn_104 3 rfl ?_
        obtain ⟨hs190, h⟩ := gp_e h
        have hs19 := sok_e hs190
        obtain ⟨r20, hr20, h⟩ := bd_e h
        refine k_V (pc := 106) (st := []) C (c_X12_out hr20) lkV_RX12_263 hs19 rfl rfl rfl (Nat.le_of_ble_eq_true rfl) (Nat.le_of_ble_eq_true rfl) (Nat.le_of_ble_eq_true rfl) (Nat.le_of_ble_eq_true rfl) (Nat.le_of_ble_eq_true rfl) dX12_drawn_106 ?_
        refine k_nf (cells2 := 0) (slots2 := 0) (st2 := []) rfl rfl rfl ?_
        refine k_iload (pc := 109) C dX12_drawn_109 3 rfl ?_
        have h := Option.some.inj h
        subst h
        exact k_iret (pc := 111) C hr hk dX12_drawn_111
      · rw [if_pos hc18] at h
        exact b_X12_drawn_88 C hr hk ih _ _ _ _ _ h
def f_X12_drawn_9 (S : Sh) (R : Rw)  : Nat → Iw → Nat → Int32 → Int32 → Int32 → Option (Iw × Int32)
  | 0, _, _, _, _, _ => none
  | n + 1, I, a0, x1, x2, x3 => gp (sok S a0 12 34) (rl (R a0 0) (fun b4 => gp (aok S 20 b4 (3 : Int32)) ((if (I b4 (3 : Int32).toNatClampNeg) ≤ x3 then (if x2 = 0 then some (I, (-3 : Int32)) else rl (R a0 0) (fun b8 => rl (R a0 0) (fun b9 => gp (aok S 20 b9 (2 : Int32)) (gp (aok S 20 b8 (2 : Int32)) (lt (up2 I b8 (2 : Int32).toNatClampNeg (((I b9 (2 : Int32).toNatClampNeg) * (1103515245 : Int32)) + (12345 : Int32))) (fun I12 => rl (R a0 0) (fun b13 => gp (aok S 20 b13 (2 : Int32)) (gp (nz x2) (lt ((((I12 b13 (2 : Int32).toNatClampNeg).toUInt32 >>> ((16 : Int32).toUInt32 &&& Int32.toUInt32 31)).toInt32) - (((I12 b13 (2 : Int32).toNatClampNeg).toUInt32 >>> ((16 : Int32).toUInt32 &&& Int32.toUInt32 31)).toInt32) / x2 * x2) (fun y16 => f_X12_drawn_75 S R  512 I12 a0 x1 y16 (0 : Int32))))))))))) else f_X12_drawn_9 S R  n I a0 x1 (x2 + ((x1 >>> (x3 &&& 31)) &&& (1 : Int32))) (x3 + (1 : Int32))))))
set_option maxHeartbeats 4000000 in
theorem b_X12_drawn_9 {E : Ev} {p : Program} {l : Launch} {e : Env} {s : State} {m : MethodId} {args : Array Value} {below : List Frame} {meth : Method} {c : Code} (C : Cx E RX12 cX12_drawn 5 p s m c) (hr : meth.sig.returnType = (some .int)) (hk : meth.locks = false) {S : Sh} {R : Rw} {r : Iw × Int32}  : ∀ (n : Nat) (I : Iw) (a0 : Nat) (x1 : Int32) (x2 : Int32) (x3 : Int32), f_X12_drawn_9 S R  n I a0 x1 x2 x3 = some r → Wk E 5 p l e ({ frames := 6, cells := 0, slots := 0, locals := 133 } : Room) s m args below meth c 0 0 (MQ below (Qw E S R r.1 (some (.int r.2))) args s 0 0 (fun q => E.1 ≤ q)) 9 [(0, .ref (E.1 + a0)), (1, .int x1), (2, .int x2), (3, .int x3)] [] S R I := by
  intro n
  induction n with
  | zero =>
    intro I a0 x1 x2 x3 h
    rw [f_X12_drawn_9] at h
    cases h
  | succ n ih =>
    intro I a0 x1 x2 x3 h
    rw [f_X12_drawn_9] at h
    refine k_iloadn (pc := 9) C dX12_drawn_9 (i := 3) rfl 3 rfl ?_
    refine k_aloadn (pc := 10) C dX12_drawn_10 (i := 0) rfl 0 rfl ?_
    obtain ⟨hs30, h⟩ := gp_e h
    have hs3 := sok_e hs30
    obtain ⟨b4, hb4, h⟩ := rl_e h
    refine k_getR (pc := 11) C lkF_RX12_9_12 hs3 ir_12_0 hb4 dX12_drawn_11 ?_
    refine k_iconst (pc := 14) C (v := (3 : Int32)) dX12_drawn_14 (by decide) ?_
    obtain ⟨ha5, h⟩ := gp_e h
    refine k_iald (pc := 15) C ha5 dX12_drawn_15 ?_
    refine k_icmp_ge (pc := 16) C dX12_drawn_16 (tgt := 33) (by decide) (fun hc6 => ?_) (fun hc6 => ?_)
    · rw [if_pos hc6] at h
      refine k_iloadn (pc := 33) C dX12_drawn_33 (i := 2) rfl 2 rfl ?_
      refine k_if_ne (pc := 34) C dX12_drawn_34 (tgt := 40) (by decide) (fun hc7 => ?_) (fun hc7 => ?_)
      · rw [if_neg hc7] at h
        refine k_aloadn (pc := 40) C dX12_drawn_40 (i := 0) rfl 0 rfl ?_
        obtain ⟨b8, hb8, h⟩ := rl_e h
        refine k_getR (pc := 41) C lkF_RX12_9_12 hs3 ir_12_0 hb8 dX12_drawn_41 ?_
        refine k_iconst (pc := 44) C (v := (2 : Int32)) dX12_drawn_44 (by decide) ?_
        refine k_aloadn (pc := 45) C dX12_drawn_45 (i := 0) rfl 0 rfl ?_
        obtain ⟨b9, hb9, h⟩ := rl_e h
        refine k_getR (pc := 46) C lkF_RX12_9_12 hs3 ir_12_0 hb9 dX12_drawn_46 ?_
        refine k_iconst (pc := 49) C (v := (2 : Int32)) dX12_drawn_49 (by decide) ?_
        obtain ⟨ha10, h⟩ := gp_e h
        refine k_iald (pc := 50) C ha10 dX12_drawn_50 ?_
        refine k_ldcw (pc := 51) C (v := (1103515245 : Int32)) dX12_drawn_51 (t7_in 35 (by decide +kernel) rfl) ?_
        refine k_imul (pc := 54) C dX12_drawn_54 ?_
        refine k_sipush (pc := 55) C (v := (12345 : Int32)) dX12_drawn_55 (by decide) ?_
        refine k_iadd (pc := 58) C dX12_drawn_58 ?_
        obtain ⟨ha11, h⟩ := gp_e h
        obtain ⟨I12, eI12, h⟩ := lt_e h
        refine k_iast (pc := 59) C ha11 dX12_drawn_59 ?_
        rw [← eI12]
        refine k_aloadn (pc := 60) C dX12_drawn_60 (i := 0) rfl 0 rfl ?_
        obtain ⟨b13, hb13, h⟩ := rl_e h
        refine k_getR (pc := 61) C lkF_RX12_9_12 hs3 ir_12_0 hb13 dX12_drawn_61 ?_
        refine k_iconst (pc := 64) C (v := (2 : Int32)) dX12_drawn_64 (by decide) ?_
        obtain ⟨ha14, h⟩ := gp_e h
        refine k_iald (pc := 65) C ha14 dX12_drawn_65 ?_
        refine k_bipush (pc := 66) C (v := (16 : Int32)) dX12_drawn_66 (by decide) ?_
        refine k_iushr (pc := 68) C dX12_drawn_68 ?_
        refine k_iloadn (pc := 69) C dX12_drawn_69 (i := 2) rfl 2 rfl ?_
        obtain ⟨hz15, h⟩ := gp_e h
        refine k_irem (pc := 70) C dX12_drawn_70 (of_decide_eq_true hz15) ?_
        obtain ⟨y16, ey16, h⟩ := lt_e h
        rw [← ey16]
        refine k_istoren (pc := 71) C dX12_drawn_71 (i := 3) rfl (by decide) (L2 := [(0, .ref (E.1 + a0)), (1, .int x1), (2, .int x2), (3, .int y16)]) rfl ?_
        refine k_iconst (pc := 72) C (v := (0 : Int32)) dX12_drawn_72 (by decide) ?_
        refine k_istore (pc := 73) C dX12_drawn_73 (by decide) (L2 := [(0, .ref (E.1 + a0)), (1, .int x1), (2, .int x2), (3, .int y16), (4, .int (0 : Int32))]) rfl ?_
        refine k_loc (L2 := [(0, .ref (E.1 + a0)), (1, .int x1), (3, .int y16), (4, .int (0 : Int32))]) [0, 1, 3, 4] rfl ?_
        exact b_X12_drawn_75 C hr hk  _ _ _ _ _ _ h
      · rw [if_pos hc7] at h
        refine k_bipush (pc := 37) C (v := (-3 : Int32)) dX12_drawn_37 (by decide) ?_
        have h := Option.some.inj h
        subst h
        exact k_iret (pc := 39) C hr hk dX12_drawn_39
    · rw [if_neg hc6] at h
      refine k_iloadn (pc := 19) C dX12_drawn_19 (i := 2) rfl 2 rfl ?_
      refine k_iloadn (pc := 20) C dX12_drawn_20 (i := 1) rfl 1 rfl ?_
      refine k_iloadn (pc := 21) C dX12_drawn_21 (i := 3) rfl 3 rfl ?_
      refine k_ishr (pc := 22) C dX12_drawn_22 ?_
      refine k_iconst (pc := 23) C (v := (1 : Int32)) dX12_drawn_23 (by decide) ?_
      refine k_iand (pc := 24) C dX12_drawn_24 ?_
      refine k_iadd (pc := 25) C dX12_drawn_25 ?_
      refine k_istoren (pc := 26) C dX12_drawn_26 (i := 2) rfl (by decide) (L2 := [(0, .ref (E.1 + a0)), (1, .int x1), (2, .int (x2 + ((x1 >>> (x3 &&& 31)) &&& (1 : Int32)))), (3, .int x3)]) rfl ?_
      refine k_iinc (pc := 27) C dX12_drawn_27 3 rfl (v := x3 + (1 : Int32)) (by rfl) (by decide) (L2 := [(0, .ref (E.1 + a0)), (1, .int x1), (2, .int (x2 + ((x1 >>> (x3 &&& 31)) &&& (1 : Int32)))), (3, .int (x3 + (1 : Int32)))]) rfl ?_
      refine k_goto (pc := 30) C dX12_drawn_30 (tgt := 9) (by decide) ?_
      exact ih _ _ _ _ _ h
def f_X12_drawn (S : Sh) (R : Rw)  (I : Iw) (a0 : Nat) : Option (Iw × Int32) := gp (sok S a0 12 34) (bd (f_X12_may S R I a0) (fun r2 => f_X12_drawn_9 S R  512 I a0 r2 (0 : Int32) (0 : Int32)))
set_option maxHeartbeats 4000000 in
theorem b_X12_drawn {E : Ev} {p : Program} {l : Launch} {e : Env} {s : State} {m : MethodId} {args : Array Value} {below : List Frame} {meth : Method} {c : Code} (C : Cx E RX12 cX12_drawn 5 p s m c) (hr : meth.sig.returnType = (some .int)) (hk : meth.locks = false) {S : Sh} {R : Rw} {r : Iw × Int32}  : ∀ (I : Iw) (a0 : Nat), f_X12_drawn S R   I a0 = some r → Wk E 5 p l e ({ frames := 6, cells := 0, slots := 0, locals := 133 } : Room) s m args below meth c 0 0 (MQ below (Qw E S R r.1 (some (.int r.2))) args s 0 0 (fun q => E.1 ≤ q)) 0 [(0, .ref (E.1 + a0))] [] S R I := by
  intro I a0 h
  rw [f_X12_drawn] at h
  refine k_aloadn (pc := 0) C dX12_drawn_0 (i := 0) rfl 0 rfl ?_
  obtain ⟨hs10, h⟩ := gp_e h
  have hs1 := sok_e hs10
  obtain ⟨r2, hr2, h⟩ := bd_e h
  refine k_V (pc := 1) (st := []) C (c_X12_may hr2) lkV_RX12_313 hs1 rfl rfl rfl (Nat.le_of_ble_eq_true rfl) (Nat.le_of_ble_eq_true rfl) (Nat.le_of_ble_eq_true rfl) (Nat.le_of_ble_eq_true rfl) (Nat.le_of_ble_eq_true rfl) dX12_drawn_1 ?_
  refine k_nf (cells2 := 0) (slots2 := 0) (st2 := [.int r2]) rfl rfl rfl ?_
  refine k_istoren (pc := 4) C dX12_drawn_4 (i := 1) rfl (by decide) (L2 := [(0, .ref (E.1 + a0)), (1, .int r2)]) rfl ?_
  refine k_iconst (pc := 5) C (v := (0 : Int32)) dX12_drawn_5 (by decide) ?_
  refine k_istoren (pc := 6) C dX12_drawn_6 (i := 2) rfl (by decide) (L2 := [(0, .ref (E.1 + a0)), (1, .int r2), (2, .int (0 : Int32))]) rfl ?_
  refine k_iconst (pc := 7) C (v := (0 : Int32)) dX12_drawn_7 (by decide) ?_
  refine k_istoren (pc := 8) C dX12_drawn_8 (i := 3) rfl (by decide) (L2 := [(0, .ref (E.1 + a0)), (1, .int r2), (2, .int (0 : Int32)), (3, .int (0 : Int32))]) rfl ?_
  exact b_X12_drawn_9 C hr hk  _ _ _ _ _ _ h
theorem c_X12_drawn {E : Ev} {l : Launch} {S : Sh} {R : Rw} {I : Iw} {a0 : Nat} {r : Iw × Int32} (h : f_X12_drawn S R I a0 = some r) : Mt E l yX12_drawn cX12_drawn 5 (some .int) 6 133 [.ref (E.1 + a0)] S R I S R r.1 (some (.int r.2)) 0 0 := mt_of (by decide) (Nat.le_of_ble_eq_true rfl) (fun p e s m args below meth c C hr hk hn => b_X12_drawn C hr hk _ _ h)
theorem lkV_RX12_317 : LkV RX12 317 RX12 yX12_drawn cX12_drawn 5 (some .int) 0 := ⟨(t7_in 30 (by decide +kernel) rfl), (t7_in 32 (by decide +kernel) rfl), (t0_in 68 (by decide +kernel) rfl), (t7_in 33 (by decide +kernel) rfl), (t1_in 7 (by decide +kernel) rfl), by decide, by decide +kernel⟩
theorem dX12_draw_0 : decode cX12_draw 0 = .ok (.aload_n 0, 1) := by decide +kernel
theorem dX12_draw_1 : decode cX12_draw 1 = .ok (.invokevirtual 317, 3) := by decide +kernel
theorem dX12_draw_4 : decode cX12_draw 4 = .ok (.ireturn, 1) := by decide +kernel
def f_X12_draw (S : Sh) (R : Rw)  (I : Iw) (a0 : Nat) : Option (Iw × Int32) := gp (sok S a0 12 34) (bd (f_X12_drawn S R I a0) (fun r2 => some (r2.1, r2.2)))
set_option maxHeartbeats 4000000 in
theorem b_X12_draw {E : Ev} {p : Program} {l : Launch} {e : Env} {s : State} {m : MethodId} {args : Array Value} {below : List Frame} {meth : Method} {c : Code} (C : Cx E RX12 cX12_draw 1 p s m c) (hr : meth.sig.returnType = (some .int)) (hk : meth.locks = false) {S : Sh} {R : Rw} {r : Iw × Int32}  : ∀ (I : Iw) (a0 : Nat), f_X12_draw S R   I a0 = some r → Wk E 1 p l e ({ frames := 7, cells := 0, slots := 0, locals := 157 } : Room) s m args below meth c 0 0 (MQ below (Qw E S R r.1 (some (.int r.2))) args s 0 0 (fun q => E.1 ≤ q)) 0 [(0, .ref (E.1 + a0))] [] S R I := by
  intro I a0 h
  rw [f_X12_draw] at h
  refine k_aloadn (pc := 0) C dX12_draw_0 (i := 0) rfl 0 rfl ?_
  obtain ⟨hs10, h⟩ := gp_e h
  have hs1 := sok_e hs10
  obtain ⟨r2, hr2, h⟩ := bd_e h
  refine k_V (pc := 1) (st := []) C (c_X12_drawn hr2) lkV_RX12_317 hs1 rfl rfl rfl (Nat.le_of_ble_eq_true rfl) (Nat.le_of_ble_eq_true rfl) (Nat.le_of_ble_eq_true rfl) (Nat.le_of_ble_eq_true rfl) (Nat.le_of_ble_eq_true rfl) dX12_draw_1 ?_
  refine k_nf (cells2 := 0) (slots2 := 0) (st2 := [.int r2.2]) rfl rfl rfl ?_
  have h := Option.some.inj h
  subst h
  exact k_iret (pc := 4) C hr hk dX12_draw_4
theorem c_X12_draw {E : Ev} {l : Launch} {S : Sh} {R : Rw} {I : Iw} {a0 : Nat} {r : Iw × Int32} (h : f_X12_draw S R I a0 = some r) : Mt E l yX12_draw cX12_draw 1 (some .int) 7 157 [.ref (E.1 + a0)] S R I S R r.1 (some (.int r.2)) 0 0 := mt_of (by decide) (Nat.le_of_ble_eq_true rfl) (fun p e s m args below meth c C hr hk hn => b_X12_draw C hr hk _ _ h)
theorem lkV_RX12_320 : LkV RX12 320 RX12 yX12_back cX12_back 2 (some .int) 1 := ⟨(t7_in 43 (by decide +kernel) rfl), (t7_in 45 (by decide +kernel) rfl), (t0_in 69 (by decide +kernel) rfl), (t7_in 46 (by decide +kernel) rfl), (t1_in 7 (by decide +kernel) rfl), by decide, by decide +kernel⟩
theorem dX12_often_0 : decode cX12_often 0 = .ok (.iload_n 1, 1) := by decide +kernel
theorem dX12_often_1 : decode cX12_often 1 = .ok (.iconst 1, 1) := by decide +kernel
theorem dX12_often_2 : decode cX12_often 2 = .ok (.bipush 60, 2) := by decide +kernel
theorem dX12_often_4 : decode cX12_often 4 = .ok (.invokestatic 98, 3) := by decide +kernel
theorem dX12_often_7 : decode cX12_often 7 = .ok (.ifCond .ne 5, 3) := by decide +kernel
theorem dX12_often_10 : decode cX12_often 10 = .ok (.iconst (-1), 1) := by decide +kernel
theorem dX12_often_11 : decode cX12_often 11 = .ok (.ireturn, 1) := by decide +kernel
theorem dX12_often_12 : decode cX12_often 12 = .ok (.aload_n 0, 1) := by decide +kernel
theorem dX12_often_13 : decode cX12_often 13 = .ok (.getfield 9, 3) := by decide +kernel
theorem dX12_often_16 : decode cX12_often 16 = .ok (.aload_n 0, 1) := by decide +kernel
theorem dX12_often_17 : decode cX12_often 17 = .ok (.getfield 16, 3) := by decide +kernel
theorem dX12_often_20 : decode cX12_often 20 = .ok (.invokestatic 102, 3) := by decide +kernel
theorem dX12_often_23 : decode cX12_often 23 = .ok (.iconst 0, 1) := by decide +kernel
theorem dX12_often_24 : decode cX12_often 24 = .ok (.istore_n 2, 1) := by decide +kernel
theorem dX12_often_25 : decode cX12_often 25 = .ok (.iconst 0, 1) := by decide +kernel
theorem dX12_often_26 : decode cX12_often 26 = .ok (.istore_n 3, 1) := by decide +kernel
theorem dX12_often_27 : decode cX12_often 27 = .ok (.iload_n 3, 1) := by decide +kernel
theorem dX12_often_28 : decode cX12_often 28 = .ok (.iload_n 1, 1) := by decide +kernel
theorem dX12_often_29 : decode cX12_often 29 = .ok (.if_icmp .ge 83, 3) := by decide +kernel
theorem dX12_often_32 : decode cX12_often 32 = .ok (.aload_n 0, 1) := by decide +kernel
theorem dX12_often_33 : decode cX12_often 33 = .ok (.getfield 9, 3) := by decide +kernel
theorem dX12_often_36 : decode cX12_often 36 = .ok (.iconst 2, 1) := by decide +kernel
theorem dX12_often_37 : decode cX12_often 37 = .ok (.iaload, 1) := by decide +kernel
theorem dX12_often_38 : decode cX12_often 38 = .ok (.istore 4, 2) := by decide +kernel
theorem dX12_often_40 : decode cX12_often 40 = .ok (.aload_n 0, 1) := by decide +kernel
theorem dX12_often_41 : decode cX12_often 41 = .ok (.getfield 16, 3) := by decide +kernel
theorem dX12_often_44 : decode cX12_often 44 = .ok (.aload_n 0, 1) := by decide +kernel
theorem dX12_often_45 : decode cX12_often 45 = .ok (.getfield 9, 3) := by decide +kernel
theorem dX12_often_48 : decode cX12_often 48 = .ok (.invokestatic 102, 3) := by decide +kernel
theorem dX12_often_51 : decode cX12_often 51 = .ok (.aload_n 0, 1) := by decide +kernel
theorem dX12_often_52 : decode cX12_often 52 = .ok (.getfield 9, 3) := by decide +kernel
theorem dX12_often_55 : decode cX12_often 55 = .ok (.iconst 2, 1) := by decide +kernel
theorem dX12_often_56 : decode cX12_often 56 = .ok (.iload_n 3, 1) := by decide +kernel
theorem dX12_often_57 : decode cX12_often 57 = .ok (.ifCond .ne 12, 3) := by decide +kernel
theorem dX12_often_60 : decode cX12_often 60 = .ok (.aload_n 0, 1) := by decide +kernel
theorem dX12_often_61 : decode cX12_often 61 = .ok (.getfield 9, 3) := by decide +kernel
theorem dX12_often_64 : decode cX12_often 64 = .ok (.iconst 2, 1) := by decide +kernel
theorem dX12_often_65 : decode cX12_often 65 = .ok (.iaload, 1) := by decide +kernel
theorem dX12_often_66 : decode cX12_often 66 = .ok (.goto 5, 3) := by decide +kernel
theorem dX12_often_69 : decode cX12_often 69 = .ok (.iload 4, 2) := by decide +kernel
theorem dX12_often_71 : decode cX12_often 71 = .ok (.iastore, 1) := by decide +kernel
theorem dX12_often_72 : decode cX12_often 72 = .ok (.iconst 0, 1) := by decide +kernel
theorem dX12_often_73 : decode cX12_often 73 = .ok (.istore 5, 2) := by decide +kernel
theorem dX12_often_75 : decode cX12_often 75 = .ok (.iload 5, 2) := by decide +kernel
theorem dX12_often_77 : decode cX12_often 77 = .ok (.bipush (-3), 2) := by decide +kernel
theorem dX12_often_79 : decode cX12_often 79 = .ok (.if_icmp .eq 12, 3) := by decide +kernel
theorem dX12_often_82 : decode cX12_often 82 = .ok (.aload_n 0, 1) := by decide +kernel
theorem dX12_often_83 : decode cX12_often 83 = .ok (.invokevirtual 317, 3) := by decide +kernel
theorem dX12_often_86 : decode cX12_often 86 = .ok (.istore 5, 2) := by decide +kernel
theorem dX12_often_88 : decode cX12_often 88 = .ok (.goto (-13), 3) := by decide +kernel
theorem dX12_often_91 : decode cX12_often 91 = .ok (.iload_n 2, 1) := by decide +kernel
theorem dX12_often_92 : decode cX12_often 92 = .ok (.aload_n 0, 1) := by decide +kernel
theorem dX12_often_93 : decode cX12_often 93 = .ok (.invokevirtual 272, 3) := by decide +kernel
theorem dX12_often_96 : decode cX12_often 96 = .ok (.ifCond .ne 7, 3) := by decide +kernel
theorem dX12_often_99 : decode cX12_often 99 = .ok (.iconst 1, 1) := by decide +kernel
theorem dX12_often_100 : decode cX12_often 100 = .ok (.goto 4, 3) := by decide +kernel
theorem dX12_often_103 : decode cX12_often 103 = .ok (.iconst 0, 1) := by decide +kernel
theorem dX12_often_104 : decode cX12_often 104 = .ok (.iadd, 1) := by decide +kernel
theorem dX12_often_105 : decode cX12_often 105 = .ok (.istore_n 2, 1) := by decide +kernel
theorem dX12_often_106 : decode cX12_often 106 = .ok (.iinc 3 1, 3) := by decide +kernel
theorem dX12_often_109 : decode cX12_often 109 = .ok (.goto (-82), 3) := by decide +kernel
theorem dX12_often_112 : decode cX12_often 112 = .ok (.aload_n 0, 1) := by decide +kernel
theorem dX12_often_113 : decode cX12_often 113 = .ok (.iload_n 2, 1) := by decide +kernel
theorem dX12_often_114 : decode cX12_often 114 = .ok (.invokevirtual 320, 3) := by decide +kernel
theorem dX12_often_117 : decode cX12_often 117 = .ok (.ireturn, 1) := by decide +kernel
def f_X12_often_104 (S : Sh) (R : Rw) (ko27 : Iw → Nat → Int32 → Int32 → Int32 → Option (Iw × Int32)) (I : Iw) (a0 : Nat) (x1 : Int32) (x3 : Int32) (s0 : Int32) (s1 : Int32) : Option (Iw × Int32) := ko27 I a0 x1 (s1 + s0) (x3 + (1 : Int32))
set_option maxHeartbeats 4000000 in
theorem b_X12_often_104 {E : Ev} {p : Program} {l : Launch} {e : Env} {s : State} {m : MethodId} {args : Array Value} {below : List Frame} {meth : Method} {c : Code} (C : Cx E RX12 cX12_often 6 p s m c) (hr : meth.sig.returnType = (some .int)) (hk : meth.locks = false) {S : Sh} {R : Rw} {r : Iw × Int32}  {ko27 : Iw → Nat → Int32 → Int32 → Int32 → Option (Iw × Int32)} (hko27 : ∀ (I : Iw) (a0 : Nat) (x1 : Int32) (x2 : Int32) (x3 : Int32), ko27 I a0 x1 x2 x3 = some r → Wk E 6 p l e ({ frames := 7, cells := 0, slots := 0, locals := 157 } : Room) s m args below meth c 0 0 (MQ below (Qw E S R r.1 (some (.int r.2))) args s 0 0 (fun q => E.1 ≤ q)) 27 [(0, .ref (E.1 + a0)), (1, .int x1), (2, .int x2), (3, .int x3)] [] S R I) : ∀ (I : Iw) (a0 : Nat) (x1 : Int32) (x3 : Int32) (s0 : Int32) (s1 : Int32), f_X12_often_104 S R ko27  I a0 x1 x3 s0 s1 = some r → Wk E 6 p l e ({ frames := 7, cells := 0, slots := 0, locals := 157 } : Room) s m args below meth c 0 0 (MQ below (Qw E S R r.1 (some (.int r.2))) args s 0 0 (fun q => E.1 ≤ q)) 104 [(0, .ref (E.1 + a0)), (1, .int x1), (3, .int x3)] [.int s0, .int s1] S R I := by
  intro I a0 x1 x3 s0 s1 h
  rw [f_X12_often_104] at h
  refine k_iadd (pc := 104) C dX12_often_104 ?_
  refine k_istoren (pc := 105) C dX12_often_105 (i := 2) rfl (by decide) (L2 := [(0, .ref (E.1 + a0)), (1, .int x1), (2, .int (s1 + s0)), (3, .int x3)]) rfl ?_
  refine k_iinc (pc := 106) C dX12_often_106 3 rfl (v := x3 + (1 : Int32)) (by rfl) (by decide) (L2 := [(0, .ref (E.1 + a0)), (1, .int x1), (2, .int (s1 + s0)), (3, .int (x3 + (1 : Int32)))]) rfl ?_
  refine k_goto (pc := 109) C dX12_often_109 (tgt := 27) (by decide) ?_
  exact hko27 _ _ _ _ _ h
def f_X12_often_75 (S : Sh) (R : Rw) (ko27 : Iw → Nat → Int32 → Int32 → Int32 → Option (Iw × Int32)) : Nat → Iw → Nat → Int32 → Int32 → Int32 → Int32 → Option (Iw × Int32)
  | 0, _, _, _, _, _, _ => none
  | n + 1, I, a0, x1, x2, x3, x5 => (if x5 = (-3 : Int32) then gp (sok S a0 12 34) (bd (f_X12_inMany S R I a0) (fun r22 => (if r22 = 0 then f_X12_often_104 S R ko27 I a0 x1 x3 (1 : Int32) x2 else f_X12_often_104 S R ko27 I a0 x1 x3 (0 : Int32) x2))) else gp (sok S a0 12 34) (bd (f_X12_drawn S R I a0) (fun r25 => f_X12_often_75 S R ko27 n r25.1 a0 x1 x2 x3 r25.2)))
set_option maxHeartbeats 4000000 in
theorem b_X12_often_75 {E : Ev} {p : Program} {l : Launch} {e : Env} {s : State} {m : MethodId} {args : Array Value} {below : List Frame} {meth : Method} {c : Code} (C : Cx E RX12 cX12_often 6 p s m c) (hr : meth.sig.returnType = (some .int)) (hk : meth.locks = false) {S : Sh} {R : Rw} {r : Iw × Int32}  {ko27 : Iw → Nat → Int32 → Int32 → Int32 → Option (Iw × Int32)} (hko27 : ∀ (I : Iw) (a0 : Nat) (x1 : Int32) (x2 : Int32) (x3 : Int32), ko27 I a0 x1 x2 x3 = some r → Wk E 6 p l e ({ frames := 7, cells := 0, slots := 0, locals := 157 } : Room) s m args below meth c 0 0 (MQ below (Qw E S R r.1 (some (.int r.2))) args s 0 0 (fun q => E.1 ≤ q)) 27 [(0, .ref (E.1 + a0)), (1, .int x1), (2, .int x2), (3, .int x3)] [] S R I) : ∀ (n : Nat) (I : Iw) (a0 : Nat) (x1 : Int32) (x2 : Int32) (x3 : Int32) (x5 : Int32), f_X12_often_75 S R ko27 n I a0 x1 x2 x3 x5 = some r → Wk E 6 p l e ({ frames := 7, cells := 0, slots := 0, locals := 157 } : Room) s m args below meth c 0 0 (MQ below (Qw E S R r.1 (some (.int r.2))) args s 0 0 (fun q => E.1 ≤ q)) 75 [(0, .ref (E.1 + a0)), (1, .int x1), (2, .int x2), (3, .int x3), (5, .int x5)] [] S R I := by
  intro n
  induction n with
  | zero =>
    intro I a0 x1 x2 x3 x5 h
    rw [f_X12_often_75] at h
    cases h
  | succ n ih =>
    intro I a0 x1 x2 x3 x5 h
    rw [f_X12_often_75] at h
    refine k_iload (pc := 75) C dX12_often_75 4 rfl ?_
    refine k_bipush (pc := 77) C (v := (-3 : Int32)) dX12_often_77 (by decide) ?_
    refine k_icmp_eq (pc := 79) C dX12_often_79 (tgt := 91) (by decide) (fun hc20 => ?_) (fun hc20 => ?_)
    · rw [if_pos hc20] at h
      refine k_iloadn (pc := 91) C dX12_often_91 (i := 2) rfl 2 rfl ?_
      refine k_aloadn (pc := 92) C dX12_often_92 (i := 0) rfl 0 rfl ?_
      obtain ⟨hs210, h⟩ := gp_e h
      have hs21 := sok_e hs210
      obtain ⟨r22, hr22, h⟩ := bd_e h
      refine k_V (pc := 93) (st := [.int x2]) C (c_X12_inMany hr22) lkV_RX12_272 hs21 rfl rfl rfl (Nat.le_of_ble_eq_true rfl) (Nat.le_of_ble_eq_true rfl) (Nat.le_of_ble_eq_true rfl) (Nat.le_of_ble_eq_true rfl) (Nat.le_of_ble_eq_true rfl) dX12_often_93 ?_
      refine k_nf (cells2 := 0) (slots2 := 0) (st2 := [.int r22, .int x2]) rfl rfl rfl ?_
      refine k_if_ne (pc := 96) C dX12_often_96 (tgt := 103) (by decide) (fun hc23 => ?_) (fun hc23 => ?_)
      · rw [if_neg hc23] at h
        refine k_iconst (pc := 103) C (v := (0 : Int32)) dX12_often_103 (by decide) ?_
        refine k_loc (L2 := [(0, .ref (E.1 + a0)), (1, .int x1), (3, .int x3)]) [0, 1, 3] rfl ?_
        exact b_X12_often_104 C hr hk hko27 _ _ _ _ _ _ h
      · rw [if_pos hc23] at h
        refine k_iconst (pc := 99) C (v := (1 : Int32)) dX12_often_99 (by decide) ?_
        refine k_goto (pc := 100) C dX12_often_100 (tgt := 104) (by decide) ?_
        refine k_loc (L2 := [(0, .ref (E.1 + a0)), (1, .int x1), (3, .int x3)]) [0, 1, 3] rfl ?_
        exact b_X12_often_104 C hr hk hko27 _ _ _ _ _ _ h
    · rw [if_neg hc20] at h
      refine k_aloadn (pc := 82) C dX12_often_82 (i := 0) rfl 0 rfl ?_
      obtain ⟨hs240, h⟩ := gp_e h
      have hs24 := sok_e hs240
      obtain ⟨r25, hr25, h⟩ := bd_e h
      refine k_V (pc := 83) (st := []) C (c_X12_drawn hr25) lkV_RX12_317 hs24 rfl rfl rfl (Nat.le_of_ble_eq_true rfl) (Nat.le_of_ble_eq_true rfl) (Nat.le_of_ble_eq_true rfl) (Nat.le_of_ble_eq_true rfl) (Nat.le_of_ble_eq_true rfl) dX12_often_83 ?_
      refine k_nf (cells2 := 0) (slots2 := 0) (st2 := [.int r25.2]) rfl rfl rfl ?_
      refine k_istore (pc := 86) C dX12_often_86 (by decide) (L2 := [(0, .ref (E.1 + a0)), (1, .int x1), (2, .int x2), (3, .int x3), (5, .int r25.2)]) rfl ?_
      refine k_goto (pc := 88) C dX12_often_88 (tgt := 75) (by decide) ?_
      exact ih _ _ _ _ _ _ h
def f_X12_often_71 (S : Sh) (R : Rw) (ko27 : Iw → Nat → Int32 → Int32 → Int32 → Option (Iw × Int32)) (I : Iw) (a0 : Nat) (x1 : Int32) (x2 : Int32) (x3 : Int32) (s0 : Int32) (s1 : Int32) (q2 : Nat) : Option (Iw × Int32) := gp (aok S 20 q2 s1) (lt (up2 I q2 s1.toNatClampNeg s0) (fun I19 => f_X12_often_75 S R ko27 512 I19 a0 x1 x2 x3 (0 : Int32)))
set_option maxHeartbeats 4000000 in
theorem b_X12_often_71 {E : Ev} {p : Program} {l : Launch} {e : Env} {s : State} {m : MethodId} {args : Array Value} {below : List Frame} {meth : Method} {c : Code} (C : Cx E RX12 cX12_often 6 p s m c) (hr : meth.sig.returnType = (some .int)) (hk : meth.locks = false) {S : Sh} {R : Rw} {r : Iw × Int32}  {ko27 : Iw → Nat → Int32 → Int32 → Int32 → Option (Iw × Int32)} (hko27 : ∀ (I : Iw) (a0 : Nat) (x1 : Int32) (x2 : Int32) (x3 : Int32), ko27 I a0 x1 x2 x3 = some r → Wk E 6 p l e ({ frames := 7, cells := 0, slots := 0, locals := 157 } : Room) s m args below meth c 0 0 (MQ below (Qw E S R r.1 (some (.int r.2))) args s 0 0 (fun q => E.1 ≤ q)) 27 [(0, .ref (E.1 + a0)), (1, .int x1), (2, .int x2), (3, .int x3)] [] S R I) : ∀ (I : Iw) (a0 : Nat) (x1 : Int32) (x2 : Int32) (x3 : Int32) (s0 : Int32) (s1 : Int32) (q2 : Nat), f_X12_often_71 S R ko27  I a0 x1 x2 x3 s0 s1 q2 = some r → Wk E 6 p l e ({ frames := 7, cells := 0, slots := 0, locals := 157 } : Room) s m args below meth c 0 0 (MQ below (Qw E S R r.1 (some (.int r.2))) args s 0 0 (fun q => E.1 ≤ q)) 71 [(0, .ref (E.1 + a0)), (1, .int x1), (2, .int x2), (3, .int x3)] [.int s0, .int s1, .ref (E.1 + q2)] S R I := by
  intro I a0 x1 x2 x3 s0 s1 q2 h
  rw [f_X12_often_71] at h
  obtain ⟨ha18, h⟩ := gp_e h
  obtain ⟨I19, eI19, h⟩ := lt_e h
  refine k_iast (pc := 71) C ha18 dX12_often_71 ?_
  rw [← eI19]
  refine k_iconst (pc := 72) C (v := (0 : Int32)) dX12_often_72 (by decide) ?_
  refine k_istore (pc := 73) C dX12_often_73 (by decide) (L2 := [(0, .ref (E.1 + a0)), (1, .int x1), (2, .int x2), (3, .int x3), (5, .int (0 : Int32))]) rfl ?_
  exact b_X12_often_75 C hr hk hko27 _ _ _ _ _ _ _ h
def f_X12_often_27 (S : Sh) (R : Rw)  : Nat → Iw → Nat → Int32 → Int32 → Int32 → Option (Iw × Int32)
  | 0, _, _, _, _, _ => none
  | n + 1, I, a0, x1, x2, x3 => (if x1 ≤ x3 then gp (sok S a0 12 34) (bd (f_X12_back S R I a0 x2) (fun r9 => some (r9.1, r9.2))) else gp (sok S a0 12 34) (rl (R a0 0) (fun b11 => gp (aok S 20 b11 (2 : Int32)) (rl (R a0 2) (fun b13 => rl (R a0 0) (fun b14 => bd (f_X12_copy S R I b13 b14) (fun r15 => rl (R a0 0) (fun b16 => (if x3 = 0 then rl (R a0 0) (fun b26 => gp (aok S 20 b26 (2 : Int32)) (f_X12_often_71 S R (f_X12_often_27 S R  n) r15 a0 x1 x2 x3 (r15 b26 (2 : Int32).toNatClampNeg) (2 : Int32) b16)) else f_X12_often_71 S R (f_X12_often_27 S R  n) r15 a0 x1 x2 x3 (I b11 (2 : Int32).toNatClampNeg) (2 : Int32) b16)))))))))
set_option maxHeartbeats 4000000 in
theorem b_X12_often_27 {E : Ev} {p : Program} {l : Launch} {e : Env} {s : State} {m : MethodId} {args : Array Value} {below : List Frame} {meth : Method} {c : Code} (C : Cx E RX12 cX12_often 6 p s m c) (hr : meth.sig.returnType = (some .int)) (hk : meth.locks = false) {S : Sh} {R : Rw} {r : Iw × Int32}  : ∀ (n : Nat) (I : Iw) (a0 : Nat) (x1 : Int32) (x2 : Int32) (x3 : Int32), f_X12_often_27 S R  n I a0 x1 x2 x3 = some r → Wk E 6 p l e ({ frames := 7, cells := 0, slots := 0, locals := 157 } : Room) s m args below meth c 0 0 (MQ below (Qw E S R r.1 (some (.int r.2))) args s 0 0 (fun q => E.1 ≤ q)) 27 [(0, .ref (E.1 + a0)), (1, .int x1), (2, .int x2), (3, .int x3)] [] S R I := by
  intro n
  induction n with
  | zero =>
    intro I a0 x1 x2 x3 h
    rw [f_X12_often_27] at h
    cases h
  | succ n ih =>
    intro I a0 x1 x2 x3 h
    rw [f_X12_often_27] at h
    refine k_iloadn (pc := 27) C dX12_often_27 (i := 3) rfl 3 rfl ?_
    refine k_iloadn (pc := 28) C dX12_often_28 (i := 1) rfl 1 rfl ?_
    refine k_icmp_ge (pc := 29) C dX12_often_29 (tgt := 112) (by decide) (fun hc7 => ?_) (fun hc7 => ?_)
    · rw [if_pos hc7] at h
      refine k_aloadn (pc := 112) C dX12_often_112 (i := 0) rfl 0 rfl ?_
      refine k_iloadn (pc := 113) C dX12_often_113 (i := 2) rfl 2 rfl ?_
      obtain ⟨hs80, h⟩ := gp_e h
      have hs8 := sok_e hs80
      obtain ⟨r9, hr9, h⟩ := bd_e h
      refine k_V (pc := 114) (st := []) C (c_X12_back hr9) lkV_RX12_320 hs8 rfl rfl rfl (Nat.le_of_ble_eq_true rfl) (Nat.le_of_ble_eq_true rfl) (Nat.le_of_ble_eq_true rfl) (Nat.le_of_ble_eq_true rfl) (Nat.le_of_ble_eq_true rfl) dX12_often_114 ?_
      refine k_nf (cells2 := 0) (slots2 := 0) (st2 := [.int r9.2]) rfl rfl rfl ?_
      have h := Option.some.inj h
      subst h
      exact k_iret (pc := 117) C hr hk dX12_often_117
    · rw [if_neg hc7] at h
      refine k_aloadn (pc := 32) C dX12_often_32 (i := 0) rfl 0 rfl ?_
      obtain ⟨hs100, h⟩ := gp_e h
      have hs10 := sok_e hs100
      obtain ⟨b11, hb11, h⟩ := rl_e h
      refine k_getR (pc := 33) C lkF_RX12_9_12 hs10 ir_12_0 hb11 dX12_often_33 ?_
      refine k_iconst (pc := 36) C (v := (2 : Int32)) dX12_often_36 (by decide) ?_
      obtain ⟨ha12, h⟩ := gp_e h
      refine k_iald (pc := 37) C ha12 dX12_often_37 ?_
      refine k_istore (pc := 38) C dX12_often_38 (by decide) (L2 := [(0, .ref (E.1 + a0)), (1, .int x1), (2, .int x2), (3, .int x3), (4, .int (I b11 (2 : Int32).toNatClampNeg))]) rfl ?_
      refine k_aloadn (pc := 40) C dX12_often_40 (i := 0) rfl 0 rfl ?_
      obtain ⟨b13, hb13, h⟩ := rl_e h
      refine k_getR (pc := 41) C lkF_RX12_16_12 hs10 ir_12_2 hb13 dX12_often_41 ?_
      refine k_aloadn (pc := 44) C dX12_often_44 (i := 0) rfl 0 rfl ?_
      obtain ⟨b14, hb14, h⟩ := rl_e h
      refine k_getR (pc := 45) C lkF_RX12_9_12 hs10 ir_12_0 hb14 dX12_often_45 ?_
      obtain ⟨r15, hr15, h⟩ := bd_e h
      refine k_S (pc := 48) (st := []) C (c_X12_copy hr15) lkS_RX12_102 rfl rfl (Nat.le_of_ble_eq_true rfl) (Nat.le_of_ble_eq_true rfl) (Nat.le_of_ble_eq_true rfl) (Nat.le_of_ble_eq_true rfl) (Nat.le_of_ble_eq_true rfl) dX12_often_48 ?_
      refine k_nf (cells2 := 0) (slots2 := 0) (st2 := []) rfl rfl rfl ?_
      refine k_aloadn (pc := 51) C dX12_often_51 (i := 0) rfl 0 rfl ?_
      obtain ⟨b16, hb16, h⟩ := rl_e h
      refine k_getR (pc := 52) C lkF_RX12_9_12 hs10 ir_12_0 hb16 dX12_often_52 ?_
      refine k_iconst (pc := 55) C (v := (2 : Int32)) dX12_often_55 (by decide) ?_
      refine k_iloadn (pc := 56) C dX12_often_56 (i := 3) rfl 3 rfl ?_
      refine k_if_ne (pc := 57) C dX12_often_57 (tgt := 69) (by decide) (fun hc17 => ?_) (fun hc17 => ?_)
      · rw [if_neg hc17] at h
        refine k_iload (pc := 69) C dX12_often_69 4 rfl ?_
        refine k_loc (L2 := [(0, .ref (E.1 + a0)), (1, .int x1), (2, .int x2), (3, .int x3)]) [0, 1, 2, 3] rfl ?_
        exact b_X12_often_71 C hr hk ih _ _ _ _ _ _ _ _ h
      · rw [if_pos hc17] at h
        refine k_aloadn (pc := 60) C dX12_often_60 (i := 0) rfl 0 rfl ?_
        obtain ⟨b26, hb26, h⟩ := rl_e h
        refine k_getR (pc := 61) C lkF_RX12_9_12 hs10 ir_12_0 hb26 dX12_often_61 ?_
        refine k_iconst (pc := 64) C (v := (2 : Int32)) dX12_often_64 (by decide) ?_
        obtain ⟨ha27, h⟩ := gp_e h
        refine k_iald (pc := 65) C ha27 dX12_often_65 ?_
        refine k_goto (pc := 66) C dX12_often_66 (tgt := 71) (by decide) ?_
        refine k_loc (L2 := [(0, .ref (E.1 + a0)), (1, .int x1), (2, .int x2), (3, .int x3)]) [0, 1, 2, 3] rfl ?_
        exact b_X12_often_71 C hr hk ih _ _ _ _ _ _ _ _ h
def f_X12_often (S : Sh) (R : Rw)  (I : Iw) (a0 : Nat) (x1 : Int32) : Option (Iw × Int32) := bd (f_X12_in S R I x1 (1 : Int32) (60 : Int32)) (fun r1 => (if r1 = 0 then some (I, (-1 : Int32)) else gp (sok S a0 12 34) (rl (R a0 0) (fun b4 => rl (R a0 2) (fun b5 => bd (f_X12_copy S R I b4 b5) (fun r6 => f_X12_often_27 S R  512 r6 a0 x1 (0 : Int32) (0 : Int32)))))))
set_option maxHeartbeats 4000000 in
theorem b_X12_often {E : Ev} {p : Program} {l : Launch} {e : Env} {s : State} {m : MethodId} {args : Array Value} {below : List Frame} {meth : Method} {c : Code} (C : Cx E RX12 cX12_often 6 p s m c) (hr : meth.sig.returnType = (some .int)) (hk : meth.locks = false) {S : Sh} {R : Rw} {r : Iw × Int32}  : ∀ (I : Iw) (a0 : Nat) (x1 : Int32), f_X12_often S R   I a0 x1 = some r → Wk E 6 p l e ({ frames := 7, cells := 0, slots := 0, locals := 157 } : Room) s m args below meth c 0 0 (MQ below (Qw E S R r.1 (some (.int r.2))) args s 0 0 (fun q => E.1 ≤ q)) 0 [(0, .ref (E.1 + a0)), (1, .int x1)] [] S R I := by
  intro I a0 x1 h
  rw [f_X12_often] at h
  refine k_iloadn (pc := 0) C dX12_often_0 (i := 1) rfl 1 rfl ?_
  refine k_iconst (pc := 1) C (v := (1 : Int32)) dX12_often_1 (by decide) ?_
  refine k_bipush (pc := 2) C (v := (60 : Int32)) dX12_often_2 (by decide) ?_
  obtain ⟨r1, hr1, h⟩ := bd_e h
  refine k_S (pc := 4) (st := []) C (c_X12_in hr1) lkS_RX12_98 rfl rfl (Nat.le_of_ble_eq_true rfl) (Nat.le_of_ble_eq_true rfl) (Nat.le_of_ble_eq_true rfl) (Nat.le_of_ble_eq_true rfl) (Nat.le_of_ble_eq_true rfl) dX12_often_4 ?_
  refine k_nf (cells2 := 0) (slots2 := 0) (st2 := [.int r1]) rfl rfl rfl ?_
  refine k_if_ne (pc := 7) C dX12_often_7 (tgt := 12) (by decide) (fun hc2 => ?_) (fun hc2 => ?_)
  · rw [if_neg hc2] at h
    refine k_aloadn (pc := 12) C dX12_often_12 (i := 0) rfl 0 rfl ?_
    obtain ⟨hs30, h⟩ := gp_e h
    have hs3 := sok_e hs30
    obtain ⟨b4, hb4, h⟩ := rl_e h
    refine k_getR (pc := 13) C lkF_RX12_9_12 hs3 ir_12_0 hb4 dX12_often_13 ?_
    refine k_aloadn (pc := 16) C dX12_often_16 (i := 0) rfl 0 rfl ?_
    obtain ⟨b5, hb5, h⟩ := rl_e h
    refine k_getR (pc := 17) C lkF_RX12_16_12 hs3 ir_12_2 hb5 dX12_often_17 ?_
    obtain ⟨r6, hr6, h⟩ := bd_e h
    refine k_S (pc := 20) (st := []) C (c_X12_copy hr6) lkS_RX12_102 rfl rfl (Nat.le_of_ble_eq_true rfl) (Nat.le_of_ble_eq_true rfl) (Nat.le_of_ble_eq_true rfl) (Nat.le_of_ble_eq_true rfl) (Nat.le_of_ble_eq_true rfl) dX12_often_20 ?_
    refine k_nf (cells2 := 0) (slots2 := 0) (st2 := []) rfl rfl rfl ?_
    refine k_iconst (pc := 23) C (v := (0 : Int32)) dX12_often_23 (by decide) ?_
    refine k_istoren (pc := 24) C dX12_often_24 (i := 2) rfl (by decide) (L2 := [(0, .ref (E.1 + a0)), (1, .int x1), (2, .int (0 : Int32))]) rfl ?_
    refine k_iconst (pc := 25) C (v := (0 : Int32)) dX12_often_25 (by decide) ?_
    refine k_istoren (pc := 26) C dX12_often_26 (i := 3) rfl (by decide) (L2 := [(0, .ref (E.1 + a0)), (1, .int x1), (2, .int (0 : Int32)), (3, .int (0 : Int32))]) rfl ?_
    exact b_X12_often_27 C hr hk  _ _ _ _ _ _ h
  · rw [if_pos hc2] at h
    refine k_iconst (pc := 10) C (v := (-1 : Int32)) dX12_often_10 (by decide) ?_
    have h := Option.some.inj h
    subst h
    exact k_iret (pc := 11) C hr hk dX12_often_11
theorem c_X12_often {E : Ev} {l : Launch} {S : Sh} {R : Rw} {I : Iw} {a0 : Nat} {x1 : Int32} {r : Iw × Int32} (h : f_X12_often S R I a0 x1 = some r) : Mt E l yX12_often cX12_often 6 (some .int) 7 157 [.ref (E.1 + a0), .int x1] S R I S R r.1 (some (.int r.2)) 0 0 := mt_of (by decide) (Nat.le_of_ble_eq_true rfl) (fun p e s m args below meth c C hr hk hn => b_X12_often C hr hk _ _ _ h)
