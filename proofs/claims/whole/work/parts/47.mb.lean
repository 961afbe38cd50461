/-! X12_isSheet, X12_sheet, X12_write, X12_refuses, X12_item, X12_goes -/
theorem dX12_isSheet_0 : decode cX12_isSheet 0 = .ok (.iload_n 0, 1) := by decide +kernel
theorem dX12_isSheet_1 : decode cX12_isSheet 1 = .ok (.iconst 0, 1) := by decide +kernel
theorem dX12_isSheet_2 : decode cX12_isSheet 2 = .ok (.iconst 3, 1) := by decide +kernel
theorem dX12_isSheet_3 : decode cX12_isSheet 3 = .ok (.invokestatic 98, 3) := by decide +kernel
theorem dX12_isSheet_6 : decode cX12_isSheet 6 = .ok (.ireturn, 1) := by decide +kernel
def f_X12_isSheet (S : Sh) (R : Rw) (I : Iw)  (x0 : Int32) : Option (Int32) := bd (f_X12_in S R I x0 (0 : Int32) (3 : Int32)) (fun r1 => gp (zok r1) (some r1))
set_option maxHeartbeats 4000000 in
theorem b_X12_isSheet {E : Ev} {p : Program} {l : Launch} {e : Env} {s : State} {m : MethodId} {args : Array Value} {below : List Frame} {meth : Method} {c : Code} (C : Cx E RX12 cX12_isSheet 1 p s m c) (hr : meth.sig.returnType = (some .boolean)) (hk : meth.locks = false) {S : Sh} {R : Rw} {I : Iw} {r : Int32}  : ∀ (x0 : Int32), f_X12_isSheet S R I   x0 = some r → Wk E 1 p l e ({ frames := 1, cells := 0, slots := 0, locals := 22 } : Room) s m args below meth c 0 0 (MQ below (Qw E S R I (some (.int r))) args s 0 0 (fun q => E.1 ≤ q)) 0 [(0, .int x0)] [] S R I := by
  intro x0 h
  rw [f_X12_isSheet] at h
  refine k_iloadn (pc := 0) C dX12_isSheet_0 (i := 0) rfl 0 rfl ?_
  refine k_iconst (pc := 1) C (v := (0 : Int32)) dX12_isSheet_1 (by decide) ?_
  refine k_iconst (pc := 2) C (v := (3 : Int32)) dX12_isSheet_2 (by decide) ?_
  obtain ⟨r1, hr1, h⟩ := bd_e h
  refine k_S (pc := 3) (st := []) C (c_X12_in hr1) lkS_RX12_98 rfl rfl (Nat.le_of_ble_eq_true rfl) (Nat.le_of_ble_eq_true rfl) (Nat.le_of_ble_eq_true rfl) (Nat.le_of_ble_eq_true rfl) (Nat.le_of_ble_eq_true rfl) dX12_isSheet_3 ?_
  refine k_nf (cells2 := 0) (slots2 := 0) (st2 := [.int r1]) rfl rfl rfl ?_
  obtain ⟨hz2, h⟩ := gp_e h
  have h := Option.some.inj h
  subst h
  exact k_zret (pc := 6) C hr hk (of_decide_eq_true hz2) dX12_isSheet_6
theorem c_X12_isSheet {E : Ev} {l : Launch} {S : Sh} {R : Rw} {I : Iw} {x0 : Int32} {r : Int32} (h : f_X12_isSheet S R I x0 = some r) : Mt E l yX12_isSheet cX12_isSheet 1 (some .boolean) 1 22 [.int x0] S R I S R I (some (.int r)) 0 0 := mt_of (by decide) (Nat.le_of_ble_eq_true rfl) (fun p e s m args below meth c C hr hk hn => b_X12_isSheet C hr hk _ h)
theorem lkS_RX12_329 : LkS RX12 329 yX12_isSheet cX12_isSheet 1 (some .boolean) 1 := ⟨(t7_in 71 (by decide +kernel) rfl), (t7_in 72 (by decide +kernel) rfl), (t7_in 73 (by decide +kernel) rfl), (t1_in 7 (by decide +kernel) rfl), by decide, by decide +kernel⟩
theorem lkF_RX12_83_12 : LkF RX12 83 12 26 := ⟨RX12, TX12, 34, "UnlikeNeighboursModel", fc12, by decide, (t5_in 107 (by decide +kernel) rfl), Or.inl rfl⟩
theorem lkF_RX12_77_12 : LkF RX12 77 12 24 := ⟨RX12, TX12, 34, "UnlikeNeighboursModel", fc12, by decide, (t5_in 105 (by decide +kernel) rfl), Or.inl rfl⟩
theorem dX12_sheet_0 : decode cX12_sheet 0 = .ok (.iload_n 1, 1) := by decide +kernel
theorem dX12_sheet_1 : decode cX12_sheet 1 = .ok (.invokestatic 329, 3) := by decide +kernel
theorem dX12_sheet_4 : decode cX12_sheet 4 = .ok (.ifCond .eq 22, 3) := by decide +kernel
theorem dX12_sheet_7 : decode cX12_sheet 7 = .ok (.iload_n 2, 1) := by decide +kernel
theorem dX12_sheet_8 : decode cX12_sheet 8 = .ok (.iconst (-1), 1) := by decide +kernel
theorem dX12_sheet_9 : decode cX12_sheet 9 = .ok (.iconst 4, 1) := by decide +kernel
theorem dX12_sheet_10 : decode cX12_sheet 10 = .ok (.invokestatic 98, 3) := by decide +kernel
theorem dX12_sheet_13 : decode cX12_sheet 13 = .ok (.ifCond .eq 13, 3) := by decide +kernel
theorem dX12_sheet_16 : decode cX12_sheet 16 = .ok (.iload_n 2, 1) := by decide +kernel
theorem dX12_sheet_17 : decode cX12_sheet 17 = .ok (.ifCond .lt 11, 3) := by decide +kernel
theorem dX12_sheet_20 : decode cX12_sheet 20 = .ok (.iload_n 3, 1) := by decide +kernel
theorem dX12_sheet_21 : decode cX12_sheet 21 = .ok (.bipush 40, 2) := by decide +kernel
theorem dX12_sheet_23 : decode cX12_sheet 23 = .ok (.if_icmp .le 5, 3) := by decide +kernel
theorem dX12_sheet_26 : decode cX12_sheet 26 = .ok (.iconst (-1), 1) := by decide +kernel
theorem dX12_sheet_27 : decode cX12_sheet 27 = .ok (.ireturn, 1) := by decide +kernel
theorem dX12_sheet_28 : decode cX12_sheet 28 = .ok (.iload_n 2, 1) := by decide +kernel
theorem dX12_sheet_29 : decode cX12_sheet 29 = .ok (.ifCond .lt 10, 3) := by decide +kernel
theorem dX12_sheet_32 : decode cX12_sheet 32 = .ok (.iload_n 3, 1) := by decide +kernel
theorem dX12_sheet_33 : decode cX12_sheet 33 = .ok (.ifCond .ge 6, 3) := by decide +kernel
theorem dX12_sheet_36 : decode cX12_sheet 36 = .ok (.bipush (-14), 2) := by decide +kernel
theorem dX12_sheet_38 : decode cX12_sheet 38 = .ok (.ireturn, 1) := by decide +kernel
theorem dX12_sheet_39 : decode cX12_sheet 39 = .ok (.aload_n 0, 1) := by decide +kernel
theorem dX12_sheet_40 : decode cX12_sheet 40 = .ok (.getfield 80, 3) := by decide +kernel
theorem dX12_sheet_43 : decode cX12_sheet 43 = .ok (.iload_n 1, 1) := by decide +kernel
theorem dX12_sheet_44 : decode cX12_sheet 44 = .ok (.iload_n 2, 1) := by decide +kernel
theorem dX12_sheet_45 : decode cX12_sheet 45 = .ok (.iastore, 1) := by decide +kernel
theorem dX12_sheet_46 : decode cX12_sheet 46 = .ok (.aload_n 0, 1) := by decide +kernel
theorem dX12_sheet_47 : decode cX12_sheet 47 = .ok (.getfield 83, 3) := by decide +kernel
theorem dX12_sheet_50 : decode cX12_sheet 50 = .ok (.iload_n 1, 1) := by decide +kernel
theorem dX12_sheet_51 : decode cX12_sheet 51 = .ok (.iload_n 2, 1) := by decide +kernel
theorem dX12_sheet_52 : decode cX12_sheet 52 = .ok (.ifCond .ge 7, 3) := by decide +kernel
theorem dX12_sheet_55 : decode cX12_sheet 55 = .ok (.iconst 0, 1) := by decide +kernel
theorem dX12_sheet_56 : decode cX12_sheet 56 = .ok (.goto 4, 3) := by decide +kernel
theorem dX12_sheet_59 : decode cX12_sheet 59 = .ok (.iload_n 3, 1) := by decide +kernel
theorem dX12_sheet_60 : decode cX12_sheet 60 = .ok (.iastore, 1) := by decide +kernel
theorem dX12_sheet_61 : decode cX12_sheet 61 = .ok (.iconst 0, 1) := by decide +kernel
theorem dX12_sheet_62 : decode cX12_sheet 62 = .ok (.istore 4, 2) := by decide +kernel
theorem dX12_sheet_64 : decode cX12_sheet 64 = .ok (.iload 4, 2) := by decide +kernel
theorem dX12_sheet_66 : decode cX12_sheet 66 = .ok (.bipush 40, 2) := by decide +kernel
theorem dX12_sheet_68 : decode cX12_sheet 68 = .ok (.if_icmp .ge 22, 3) := by decide +kernel
theorem dX12_sheet_71 : decode cX12_sheet 71 = .ok (.aload_n 0, 1) := by decide +kernel
theorem dX12_sheet_72 : decode cX12_sheet 72 = .ok (.getfield 77, 3) := by decide +kernel
theorem dX12_sheet_75 : decode cX12_sheet 75 = .ok (.bipush 40, 2) := by decide +kernel
theorem dX12_sheet_77 : decode cX12_sheet 77 = .ok (.iload_n 1, 1) := by decide +kernel
theorem dX12_sheet_78 : decode cX12_sheet 78 = .ok (.imul, 1) := by decide +kernel
theorem dX12_sheet_79 : decode cX12_sheet 79 = .ok (.iload 4, 2) := by decide +kernel
theorem dX12_sheet_81 : decode cX12_sheet 81 = .ok (.iadd, 1) := by decide +kernel
theorem dX12_sheet_82 : decode cX12_sheet 82 = .ok (.iconst 0, 1) := by decide +kernel
theorem dX12_sheet_83 : decode cX12_sheet 83 = .ok (.iastore, 1) := by decide +kernel
theorem dX12_sheet_84 : decode cX12_sheet 84 = .ok (.iinc 4 1, 3) := by decide +kernel
theorem dX12_sheet_87 : decode cX12_sheet 87 = .ok (.goto (-23), 3) := by decide +kernel
theorem dX12_sheet_90 : decode cX12_sheet 90 = .ok (.iconst 1, 1) := by decide +kernel
theorem dX12_sheet_91 : decode cX12_sheet 91 = .ok (.ireturn, 1) := by decide +kernel
def f_X12_sheet_64 (S : Sh) (R : Rw)  : Nat → Iw → Nat → Int32 → Int32 → Option (Iw × Int32)
  | 0, _, _, _, _ => none
  | n + 1, I, a0, x1, x4 => (if (40 : Int32) ≤ x4 then some (I, (1 : Int32)) else gp (sok S a0 12 34) (rl (R a0 24) (fun b17 => gp (aok S 20 b17 (((40 : Int32) * x1) + x4)) (lt (up2 I b17 (((40 : Int32) * x1) + x4).toNatClampNeg (0 : Int32)) (fun I19 => f_X12_sheet_64 S R  n I19 a0 x1 (x4 + (1 : Int32)))))))
set_option maxHeartbeats 4000000 in
theorem b_X12_sheet_64 {E : Ev} {p : Program} {l : Launch} {e : Env} {s : State} {m : MethodId} {args : Array Value} {below : List Frame} {meth : Method} {c : Code} (C : Cx E RX12 cX12_sheet 5 p s m c) (hr : meth.sig.returnType = (some .int)) (hk : meth.locks = false) {S : Sh} {R : Rw} {r : Iw × Int32}  : ∀ (n : Nat) (I : Iw) (a0 : Nat) (x1 : Int32) (x4 : Int32), f_X12_sheet_64 S R  n I a0 x1 x4 = some r → Wk E 5 p l e ({ frames := 2, cells := 0, slots := 0, locals := 42 } : Room) s m args below meth c 0 0 (MQ below (Qw E S R r.1 (some (.int r.2))) args s 0 0 (fun q => E.1 ≤ q)) 64 [(0, .ref (E.1 + a0)), (1, .int x1), (4, .int x4)] [] S R I := by
  intro n
  induction n with
  | zero =>
    intro I a0 x1 x4 h
    rw [f_X12_sheet_64] at h
    cases h
  | succ n ih =>
    intro I a0 x1 x4 h
    rw [f_X12_sheet_64] at h
    refine k_iload (pc := 64) C dX12_sheet_64 2 rfl ?_
    refine k_bipush (pc := 66) C (v := (40 : Int32)) dX12_sheet_66 (by decide) ?_
    refine k_icmp_ge (pc := 68) C dX12_sheet_68 (tgt := 90) (by decide) (fun hc15 => ?_) (fun hc15 => ?_)
    · rw [if_pos hc15] at h
      refine k_iconst (pc := 90) C (v := (1 : Int32)) dX12_sheet_90 (by decide) ?_
      have h := Option.some.inj h
      subst h
      exact k_iret (pc := 91) C hr hk dX12_sheet_91
    · rw [if_neg hc15] at h
      refine k_aloadn (pc := 71) C dX12_sheet_71 (i := 0) rfl 0 rfl ?_
      obtain ⟨hs160, h⟩ := gp_e h
      have hs16 := sok_e hs160
      obtain ⟨b17, hb17, h⟩ := rl_e h
      refine k_getR (pc := 72) C lkF_RX12_77_12 hs16 ir_12_24 hb17 dX12_sheet_72 ?_
      refine k_bipush (pc := 75) C (v := (40 : Int32)) dX12_sheet_75 (by decide) ?_
      refine k_iloadn (pc := 77) C dX12_sheet_77 (i := 1) rfl 1 rfl ?_
      refine k_imul (pc := 78) C dX12_sheet_78 ?_
      refine k_iload (pc := 79) C dX12_sheet_79 2 rfl ?_
      refine k_iadd (pc := 81) C dX12_sheet_81 ?_
      refine k_iconst (pc := 82) C (v := (0 : Int32)) dX12_sheet_82 (by decide) ?_
      obtain ⟨ha18, h⟩ := gp_e h
      obtain ⟨I19, eI19, h⟩ := lt_e h
      refine k_iast (pc := 83) C ha18 dX12_sheet_83 ?_
      rw [← eI19]
      refine k_iinc (pc := 84) C dX12_sheet_84 2 rfl (v := x4 + (1 : Int32)) (by rfl) (by decide) (L2 := [(0, .ref (E.1 + a0)), (1, .int x1), (4, .int (x4 + (1 : Int32)))]) rfl ?_
      refine k_goto (pc := 87) C dX12_sheet_87 (tgt := 64) (by decide) ?_
      exact ih _ _ _ _ h
def f_X12_sheet_60 (S : Sh) (R : Rw)  (I : Iw) (a0 : Nat) (x1 : Int32) (s0 : Int32) (s1 : Int32) (q2 : Nat) : Option (Iw × Int32) := gp (aok S 20 q2 s1) (lt (up2 I q2 s1.toNatClampNeg s0) (fun I14 => f_X12_sheet_64 S R  512 I14 a0 x1 (0 : Int32)))
set_option maxHeartbeats 4000000 in
theorem b_X12_sheet_60 {E : Ev} {p : Program} {l : Launch} {e : Env} {s : State} {m : MethodId} {args : Array Value} {below : List Frame} {meth : Method} {c : Code} (C : Cx E RX12 cX12_sheet 5 p s m c) (hr : meth.sig.returnType = (some .int)) (hk : meth.locks = false) {S : Sh} {R : Rw} {r : Iw × Int32}  : ∀ (I : Iw) (a0 : Nat) (x1 : Int32) (s0 : Int32) (s1 : Int32) (q2 : Nat), f_X12_sheet_60 S R   I a0 x1 s0 s1 q2 = some r → Wk E 5 p l e ({ frames := 2, cells := 0, slots := 0, locals := 42 } : Room) s m args below meth c 0 0 (MQ below (Qw E S R r.1 (some (.int r.2))) args s 0 0 (fun q => E.1 ≤ q)) 60 [(0, .ref (E.1 + a0)), (1, .int x1)] [.int s0, .int s1, .ref (E.1 + q2)] S R I := by
  intro I a0 x1 s0 s1 q2 h
  rw [f_X12_sheet_60] at h
  obtain ⟨ha13, h⟩ := gp_e h
  obtain ⟨I14, eI14, h⟩ := lt_e h
  refine k_iast (pc := 60) C ha13 dX12_sheet_60 ?_
  rw [← eI14]
  refine k_iconst (pc := 61) C (v := (0 : Int32)) dX12_sheet_61 (by decide) ?_
  refine k_istore (pc := 62) C dX12_sheet_62 (by decide) (L2 := [(0, .ref (E.1 + a0)), (1, .int x1), (4, .int (0 : Int32))]) rfl ?_
  exact b_X12_sheet_64 C hr hk  _ _ _ _ _ h
def f_X12_sheet_39 (S : Sh) (R : Rw)  (I : Iw) (a0 : Nat) (x1 : Int32) (x2 : Int32) (x3 : Int32) : Option (Iw × Int32) := gp (sok S a0 12 34) (rl (R a0 25) (fun b8 => gp (aok S 20 b8 x1) (lt (up2 I b8 x1.toNatClampNeg x2) (fun I10 => rl (R a0 26) (fun b11 => (if 0 ≤ x2 then f_X12_sheet_60 S R  I10 a0 x1 x3 x1 b11 else f_X12_sheet_60 S R  I10 a0 x1 (0 : Int32) x1 b11))))))
set_option maxHeartbeats 4000000 in
theorem b_X12_sheet_39 {E : Ev} {p : Program} {l : Launch} {e : Env} {s : State} {m : MethodId} {args : Array Value} {below : List Frame} {meth : Method} {c : Code} (C : Cx E RX12 cX12_sheet 5 p s m c) (hr : meth.sig.returnType = (some .int)) (hk : meth.locks = false) {S : Sh} {R : Rw} {r : Iw × Int32}  : ∀ (I : Iw) (a0 : Nat) (x1 : Int32) (x2 : Int32) (x3 : Int32), f_X12_sheet_39 S R   I a0 x1 x2 x3 = some r → Wk E 5 p l e ({ frames := 2, cells := 0, slots := 0, locals := 42 } : Room) s m args below meth c 0 0 (MQ below (Qw E S R r.1 (some (.int r.2))) args s 0 0 (fun q => E.1 ≤ q)) 39 [(0, .ref (E.1 + a0)), (1, .int x1), (2, .int x2), (3, .int x3)] [] S R I := by
  intro I a0 x1 x2 x3 h
  rw [f_X12_sheet_39] at h
  refine k_aloadn (pc := 39) C dX12_sheet_39 (i := 0) rfl 0 rfl ?_
  obtain ⟨hs70, h⟩ := gp_e h
  have hs7 := sok_e hs70
  obtain ⟨b8, hb8, h⟩ := rl_e h
  refine k_getR (pc := 40) C lkF_RX12_80_12 hs7 ir_12_25 hb8 dX12_sheet_40 ?_
  refine k_iloadn (pc := 43) C dX12_sheet_43 (i := 1) rfl 1 rfl ?_
  refine k_iloadn (pc := 44) C dX12_sheet_44 (i := 2) rfl 2 rfl ?_
  obtain ⟨ha9, h⟩ := gp_e h
  obtain ⟨I10, eI10, h⟩ := lt_e h
  refine k_iast (pc := 45) C ha9 dX12_sheet_45 ?_
  rw [← eI10]
  refine k_aloadn (pc := 46) C dX12_sheet_46 (i := 0) rfl 0 rfl ?_
  obtain ⟨b11, hb11, h⟩ := rl_e h
  refine k_getR (pc := 47) C lkF_RX12_83_12 hs7 ir_12_26 hb11 dX12_sheet_47 ?_
  refine k_iloadn (pc := 50) C dX12_sheet_50 (i := 1) rfl 1 rfl ?_
  refine k_iloadn (pc := 51) C dX12_sheet_51 (i := 2) rfl 2 rfl ?_
  refine k_if_ge (pc := 52) C dX12_sheet_52 (tgt := 59) (by decide) (fun hc12 => ?_) (fun hc12 => ?_)
  · rw [if_pos hc12] at h
    refine k_iloadn (pc := 59) C dX12_sheet_59 (i := 3) rfl 3 rfl ?_
    refine k_loc (L2 := [(0, .ref (E.1 + a0)), (1, .int x1)]) [0, 1] rfl ?_
    exact b_X12_sheet_60 C hr hk  _ _ _ _ _ _ h
  · rw [if_neg hc12] at h
    refine k_iconst (pc := 55) C (v := (0 : Int32)) dX12_sheet_55 (by decide) ?_
    refine k_goto (pc := 56) C dX12_sheet_56 (tgt := 60) (by decide) ?_
    refine k_loc (L2 := [(0, .ref (E.1 + a0)), (1, .int x1)]) [0, 1] rfl ?_
    exact b_X12_sheet_60 C hr hk  _ _ _ _ _ _ h
def f_X12_sheet_28 (S : Sh) (R : Rw)  (I : Iw) (a0 : Nat) (x1 : Int32) (x2 : Int32) (x3 : Int32) : Option (Iw × Int32) := (if x2 < 0 then f_X12_sheet_39 S R  I a0 x1 x2 x3 else (if 0 ≤ x3 then f_X12_sheet_39 S R  I a0 x1 x2 x3 else some (I, (-14 : Int32))))
set_option maxHeartbeats 4000000 in
theorem b_X12_sheet_28 {E : Ev} {p : Program} {l : Launch} {e : Env} {s : State} {m : MethodId} {args : Array Value} {below : List Frame} {meth : Method} {c : Code} (C : Cx E RX12 cX12_sheet 5 p s m c) (hr : meth.sig.returnType = (some .int)) (hk : meth.locks = false) {S : Sh} {R : Rw} {r : Iw × Int32}  : ∀ (I : Iw) (a0 : Nat) (x1 : Int32) (x2 : Int32) (x3 : Int32), f_X12_sheet_28 S R   I a0 x1 x2 x3 = some r → Wk E 5 p l e ({ frames := 2, cells := 0, slots := 0, locals := 42 } : Room) s m args below meth c 0 0 (MQ below (Qw E S R r.1 (some (.int r.2))) args s 0 0 (fun q => E.1 ≤ q)) 28 [(0, .ref (E.1 + a0)), (1, .int x1), (2, .int x2), (3, .int x3)] [] S R I := by
  intro I a0 x1 x2 x3 h
  rw [f_X12_sheet_28] at h
  refine k_iloadn (pc := 28) C dX12_sheet_28 (i := 2) rfl 2 rfl ?_
  refine k_if_lt (pc := 29) C dX12_sheet_29 (tgt := 39) (by decide) (fun hc6 => ?_) (fun hc6 => ?_)
  · rw [if_pos hc6] at h
    exact b_X12_sheet_39 C hr hk  _ _ _ _ _ h
  · rw [if_neg hc6] at h
    refine k_iloadn (pc := 32) C dX12_sheet_32 (i := 3) rfl 3 rfl ?_
    refine k_if_ge (pc := 33) C dX12_sheet_33 (tgt := 39) (by decide) (fun hc20 => ?_) (fun hc20 => ?_)
    · rw [if_pos hc20] at h
      exact b_X12_sheet_39 C hr hk  _ _ _ _ _ h
    · rw [if_neg hc20] at h
      refine k_bipush (pc := 36) C (v := (-14 : Int32)) dX12_sheet_36 (by decide) ?_
      have h := Option.some.inj h
      subst h
      exact k_iret (pc := 38) C hr hk dX12_sheet_38
def f_X12_sheet (S : Sh) (R : Rw)  (I : Iw) (a0 : Nat) (x1 : Int32) (x2 : Int32) (x3 : Int32) : Option (Iw × Int32) := bd (f_X12_isSheet S R I x1) (fun r1 => (if r1 = 0 then some (I, (-1 : Int32)) else bd (f_X12_in S R I x2 (-1 : Int32) (4 : Int32)) (fun r3 => (if r3 = 0 then some (I, (-1 : Int32)) else (if x2 < 0 then f_X12_sheet_28 S R  I a0 x1 x2 x3 else (if x3 ≤ (40 : Int32) then f_X12_sheet_28 S R  I a0 x1 x2 x3 else some (I, (-1 : Int32))))))))
set_option maxHeartbeats 4000000 in
theorem b_X12_sheet {E : Ev} {p : Program} {l : Launch} {e : Env} {s : State} {m : MethodId} {args : Array Value} {below : List Frame} {meth : Method} {c : Code} (C : Cx E RX12 cX12_sheet 5 p s m c) (hr : meth.sig.returnType = (some .int)) (hk : meth.locks = false) {S : Sh} {R : Rw} {r : Iw × Int32}  : ∀ (I : Iw) (a0 : Nat) (x1 : Int32) (x2 : Int32) (x3 : Int32), f_X12_sheet S R   I a0 x1 x2 x3 = some r → Wk E 5 p l e ({ frames := 2, cells := 0, slots := 0, locals := 42 } : Room) s m args below meth c 0 0 (MQ below (Qw E S R r.1 (some (.int r.2))) args s 0 0 (fun q => E.1 ≤ q)) 0 [(0, .ref (E.1 + a0)), (1, .int x1), (2, .int x2), (3, .int x3)] [] S R I := by
  intro I a0 x1 x2 x3 h
  rw [f_X12_sheet] at h
  refine k_iloadn (pc := 0) C dX12_sheet_0 (i := 1) rfl 1 rfl ?_
  obtain ⟨r1, hr1, h⟩ := bd_e h
  refine k_S (pc := 1) (st := []) C (c_X12_isSheet hr1) lkS_RX12_329 rfl rfl (Nat.le_of_ble_eq_true rfl) (Nat.le_of_ble_eq_true rfl) (Nat.le_of_ble_eq_true rfl) (Nat.le_of_ble_eq_true rfl) (Nat.le_of_ble_eq_true rfl) dX12_sheet_1 ?_
  refine k_nf (cells2 := 0) (slots2 := 0) (st2 := [.int r1]) rfl rfl rfl ?_
  refine k_if_eq (pc := 4) C dX12_sheet_4 (tgt := 26) (by decide) (fun hc2 => ?_) (fun hc2 => ?_)
  · rw [if_pos hc2] at h
    refine k_iconst (pc := 26) C (v := (-1 : Int32)) dX12_sheet_26 (by decide) ?_
    have h := Option.some.inj h
    subst h
    exact k_iret (pc := 27) C hr hk dX12_sheet_27
  · rw [if_neg hc2] at h
    refine k_iloadn (pc := 7) C dX12_sheet_7 (i := 2) rfl 2 rfl ?_
    refine k_iconst (pc := 8) C (v := (-1 : Int32)) dX12_sheet_8 (by decide) ?_
    refine k_iconst (pc := 9) C (v := (4 : Int32)) dX12_sheet_9 (by decide) ?_
    obtain ⟨r3, hr3, h⟩ := bd_e h
    refine k_S (pc := 10) (st := []) C (c_X12_in hr3) lkS_RX12_98 rfl rfl (Nat.le_of_ble_eq_true rfl) (Nat.le_of_ble_eq_true rfl) (Nat.le_of_ble_eq_true rfl) (Nat.le_of_ble_eq_true rfl) (Nat.le_of_ble_eq_true rfl) dX12_sheet_10 ?_
    refine k_nf (cells2 := 0) (slots2 := 0) (st2 := [.int r3]) rfl rfl rfl ?_
    refine k_if_eq (pc := 13) C dX12_sheet_13 (tgt := 26) (by decide) (fun hc4 => ?_) (fun hc4 => ?_)
    · rw [if_pos hc4] at h
      refine k_iconst (pc := 26) C (v := (-1 : Int32)) dX12_sheet_26 (by decide) ?_
      have h := Option.some.inj h
      subst h
      exact k_iret (pc := 27) C hr hk dX12_sheet_27
    · rw [if_neg hc4] at h
      refine k_iloadn (pc := 16) C dX12_sheet_16 (i := 2) rfl 2 rfl ?_
      refine k_if_lt (pc := 17) C dX12_sheet_17 (tgt := 28) (by decide) (fun hc5 => ?_) (fun hc5 => ?_)
      · rw [if_pos hc5] at h
        exact b_X12_sheet_28 C hr hk  _ _ _ _ _ h
      · rw [if_neg hc5] at h
        refine k_iloadn (pc := 20) C dX12_sheet_20 (i := 3) rfl 3 rfl ?_
        refine k_bipush (pc := 21) C (v := (40 : Int32)) dX12_sheet_21 (by decide) ?_
        refine k_icmp_le (pc := 23) C dX12_sheet_23 (tgt := 28) (by decide) (fun hc21 => ?_) (fun hc21 => ?_)
        · rw [if_pos hc21] at h
          exact b_X12_sheet_28 C hr hk  _ _ _ _ _ h
        · rw [if_neg hc21] at h
          refine k_iconst (pc := 26) C (v := (-1 : Int32)) dX12_sheet_26 (by decide) ?_
          have h := Option.some.inj h
          subst h
          exact k_iret (pc := 27) C hr hk dX12_sheet_27
theorem c_X12_sheet {E : Ev} {l : Launch} {S : Sh} {R : Rw} {I : Iw} {a0 : Nat} {x1 : Int32} {x2 : Int32} {x3 : Int32} {r : Iw × Int32} (h : f_X12_sheet S R I a0 x1 x2 x3 = some r) : Mt E l yX12_sheet cX12_sheet 5 (some .int) 2 42 [.ref (E.1 + a0), .int x1, .int x2, .int x3] S R I S R r.1 (some (.int r.2)) 0 0 := mt_of (by decide) (Nat.le_of_ble_eq_true rfl) (fun p e s m args below meth c C hr hk hn => b_X12_sheet C hr hk _ _ _ _ _ h)
theorem dX12_write_0 : decode cX12_write 0 = .ok (.iload_n 1, 1) := by decide +kernel
theorem dX12_write_1 : decode cX12_write 1 = .ok (.invokestatic 329, 3) := by decide +kernel
theorem dX12_write_4 : decode cX12_write 4 = .ok (.ifCond .ne 5, 3) := by decide +kernel
theorem dX12_write_7 : decode cX12_write 7 = .ok (.iconst (-1), 1) := by decide +kernel
theorem dX12_write_8 : decode cX12_write 8 = .ok (.ireturn, 1) := by decide +kernel
theorem dX12_write_9 : decode cX12_write 9 = .ok (.aload_n 0, 1) := by decide +kernel
theorem dX12_write_10 : decode cX12_write 10 = .ok (.getfield 80, 3) := by decide +kernel
theorem dX12_write_13 : decode cX12_write 13 = .ok (.iload_n 1, 1) := by decide +kernel
theorem dX12_write_14 : decode cX12_write 14 = .ok (.iaload, 1) := by decide +kernel
theorem dX12_write_15 : decode cX12_write 15 = .ok (.ifCond .ge 6, 3) := by decide +kernel
theorem dX12_write_18 : decode cX12_write 18 = .ok (.bipush (-11), 2) := by decide +kernel
theorem dX12_write_20 : decode cX12_write 20 = .ok (.ireturn, 1) := by decide +kernel
theorem dX12_write_21 : decode cX12_write 21 = .ok (.iload_n 2, 1) := by decide +kernel
theorem dX12_write_22 : decode cX12_write 22 = .ok (.iconst 0, 1) := by decide +kernel
theorem dX12_write_23 : decode cX12_write 23 = .ok (.aload_n 0, 1) := by decide +kernel
theorem dX12_write_24 : decode cX12_write 24 = .ok (.getfield 83, 3) := by decide +kernel
theorem dX12_write_27 : decode cX12_write 27 = .ok (.iload_n 1, 1) := by decide +kernel
theorem dX12_write_28 : decode cX12_write 28 = .ok (.iaload, 1) := by decide +kernel
theorem dX12_write_29 : decode cX12_write 29 = .ok (.iconst 1, 1) := by decide +kernel
theorem dX12_write_30 : decode cX12_write 30 = .ok (.isub, 1) := by decide +kernel
theorem dX12_write_31 : decode cX12_write 31 = .ok (.invokestatic 98, 3) := by decide +kernel
theorem dX12_write_34 : decode cX12_write 34 = .ok (.ifCond .ne 6, 3) := by decide +kernel
theorem dX12_write_37 : decode cX12_write 37 = .ok (.bipush (-12), 2) := by decide +kernel
theorem dX12_write_39 : decode cX12_write 39 = .ok (.ireturn, 1) := by decide +kernel
theorem dX12_write_40 : decode cX12_write 40 = .ok (.aload_n 0, 1) := by decide +kernel
theorem dX12_write_41 : decode cX12_write 41 = .ok (.getfield 80, 3) := by decide +kernel
theorem dX12_write_44 : decode cX12_write 44 = .ok (.iload_n 1, 1) := by decide +kernel
theorem dX12_write_45 : decode cX12_write 45 = .ok (.iaload, 1) := by decide +kernel
theorem dX12_write_46 : decode cX12_write 46 = .ok (.istore 4, 2) := by decide +kernel
theorem dX12_write_48 : decode cX12_write 48 = .ok (.aload_n 0, 1) := by decide +kernel
theorem dX12_write_49 : decode cX12_write 49 = .ok (.getfield 77, 3) := by decide +kernel
theorem dX12_write_52 : decode cX12_write 52 = .ok (.bipush 40, 2) := by decide +kernel
theorem dX12_write_54 : decode cX12_write 54 = .ok (.iload_n 1, 1) := by decide +kernel
theorem dX12_write_55 : decode cX12_write 55 = .ok (.imul, 1) := by decide +kernel
theorem dX12_write_56 : decode cX12_write 56 = .ok (.iload_n 2, 1) := by decide +kernel
theorem dX12_write_57 : decode cX12_write 57 = .ok (.iadd, 1) := by decide +kernel
theorem dX12_write_58 : decode cX12_write 58 = .ok (.iload 4, 2) := by decide +kernel
theorem dX12_write_60 : decode cX12_write 60 = .ok (.ifCond .ne 8, 3) := by decide +kernel
theorem dX12_write_63 : decode cX12_write 63 = .ok (.iload_n 3, 1) := by decide +kernel
theorem dX12_write_64 : decode cX12_write 64 = .ok (.i2b, 1) := by decide +kernel
theorem dX12_write_65 : decode cX12_write 65 = .ok (.goto 33, 3) := by decide +kernel
theorem dX12_write_68 : decode cX12_write 68 = .ok (.iload 4, 2) := by decide +kernel
theorem dX12_write_70 : decode cX12_write 70 = .ok (.iconst 1, 1) := by decide +kernel
theorem dX12_write_71 : decode cX12_write 71 = .ok (.if_icmp .ne 8, 3) := by decide +kernel
theorem dX12_write_74 : decode cX12_write 74 = .ok (.iload_n 3, 1) := by decide +kernel
theorem dX12_write_75 : decode cX12_write 75 = .ok (.i2s, 1) := by decide +kernel
theorem dX12_write_76 : decode cX12_write 76 = .ok (.goto 22, 3) := by decide +kernel
theorem dX12_write_79 : decode cX12_write 79 = .ok (.iload 4, 2) := by decide +kernel
theorem dX12_write_81 : decode cX12_write 81 = .ok (.iconst 4, 1) := by decide +kernel
theorem dX12_write_82 : decode cX12_write 82 = .ok (.if_icmp .ne 15, 3) := by decide +kernel
theorem dX12_write_85 : decode cX12_write 85 = .ok (.iload_n 3, 1) := by decide +kernel
theorem dX12_write_86 : decode cX12_write 86 = .ok (.ifCond .ne 7, 3) := by decide +kernel
theorem dX12_write_89 : decode cX12_write 89 = .ok (.iconst 0, 1) := by decide +kernel
theorem dX12_write_90 : decode cX12_write 90 = .ok (.goto 8, 3) := by decide +kernel
theorem dX12_write_93 : decode cX12_write 93 = .ok (.iconst 1, 1) := by decide +kernel
theorem dX12_write_94 : decode cX12_write 94 = .ok (.goto 4, 3) := by decide +kernel
theorem dX12_write_97 : decode cX12_write 97 = .ok (.iload_n 3, 1) := by decide +kernel
theorem dX12_write_98 : decode cX12_write 98 = .ok (.iastore, 1) := by decide +kernel
theorem dX12_write_99 : decode cX12_write 99 = .ok (.iconst 1, 1) := by decide +kernel
theorem dX12_write_100 : decode cX12_write 100 = .ok (.ireturn, 1) := by decide +kernel
def f_X12_write (S : Sh) (R : Rw)  (I : Iw) (a0 : Nat) (x1 : Int32) (x2 : Int32) (x3 : Int32) : Option (Iw × Int32) := bd (f_X12_isSheet S R I x1) (fun r1 => (if r1 = 0 then some (I, (-1 : Int32)) else gp (sok S a0 12 34) (rl (R a0 25) (fun b4 => gp (aok S 20 b4 x1) ((if 0 ≤ (I b4 x1.toNatClampNeg) then rl (R a0 26) (fun b7 => gp (aok S 20 b7 x1) (bd (f_X12_in S R I x2 (0 : Int32) ((I b7 x1.toNatClampNeg) - (1 : Int32))) (fun r9 => (if r9 = 0 then some (I, (-12 : Int32)) else rl (R a0 25) (fun b11 => gp (aok S 20 b11 x1) (rl (R a0 24) (fun b13 => (if (I b11 x1.toNatClampNeg) = 0 then gp (aok S 20 b13 (((40 : Int32) * x1) + x2)) (lt (up2 I b13 (((40 : Int32) * x1) + x2).toNatClampNeg x3.toInt8.toInt32) (fun I27 => some (I27, (1 : Int32)))) else (if (I b11 x1.toNatClampNeg) = (1 : Int32) then gp (aok S 20 b13 (((40 : Int32) * x1) + x2)) (lt (up2 I b13 (((40 : Int32) * x1) + x2).toNatClampNeg x3.toInt16.toInt32) (fun I25 => some (I25, (1 : Int32)))) else (if (I b11 x1.toNatClampNeg) = (4 : Int32) then (if x3 = 0 then gp (aok S 20 b13 (((40 : Int32) * x1) + x2)) (lt (up2 I b13 (((40 : Int32) * x1) + x2).toNatClampNeg (0 : Int32)) (fun I23 => some (I23, (1 : Int32)))) else gp (aok S 20 b13 (((40 : Int32) * x1) + x2)) (lt (up2 I b13 (((40 : Int32) * x1) + x2).toNatClampNeg (1 : Int32)) (fun I21 => some (I21, (1 : Int32))))) else gp (aok S 20 b13 (((40 : Int32) * x1) + x2)) (lt (up2 I b13 (((40 : Int32) * x1) + x2).toNatClampNeg x3) (fun I18 => some (I18, (1 : Int32)))))))))))))) else some (I, (-11 : Int32))))))))
set_option maxHeartbeats 4000000 in
theorem b_X12_write {E : Ev} {p : Program} {l : Launch} {e : Env} {s : State} {m : MethodId} {args : Array Value} {below : List Frame} {meth : Method} {c : Code} (C : Cx E RX12 cX12_write 5 p s m c) (hr : meth.sig.returnType = (some .int)) (hk : meth.locks = false) {S : Sh} {R : Rw} {r : Iw × Int32}  : ∀ (I : Iw) (a0 : Nat) (x1 : Int32) (x2 : Int32) (x3 : Int32), f_X12_write S R   I a0 x1 x2 x3 = some r → Wk E 5 p l e ({ frames := 2, cells := 0, slots := 0, locals := 42 } : Room) s m args below meth c 0 0 (MQ below (Qw E S R r.1 (some (.int r.2))) args s 0 0 (fun q => E.1 ≤ q)) 0 [(0, .ref (E.1 + a0)), (1, .int x1), (2, .int x2), (3, .int x3)] [] S R I := by
  intro I a0 x1 x2 x3 h
  rw [f_X12_write] at h
  refine k_iloadn (pc := 0) C dX12_write_0 (i := 1) rfl 1 rfl ?_
  obtain ⟨r1, hr1, h⟩ := bd_e h
  refine k_S (pc := 1) (st := []) C (c_X12_isSheet hr1) lkS_RX12_329 rfl rfl (Nat.le_of_ble_eq_true rfl) (Nat.le_of_ble_eq_true rfl) (Nat.le_of_ble_eq_true rfl) (Nat.le_of_ble_eq_true rfl) (Nat.le_of_ble_eq_true rfl) dX12_write_1 ?_
  refine k_nf (cells2 := 0) (slots2 := 0) (st2 := [.int r1]) rfl rfl rfl ?_
  refine k_if_ne (pc := 4) C dX12_write_4 (tgt := 9) (by decide) (fun hc2 => ?_) (fun hc2 => ?_)
  · rw [if_neg hc2] at h
    refine k_aloadn (pc := 9) C dX12_write_9 (i := 0) rfl 0 rfl ?_
    obtain ⟨hs30, h⟩ := gp_e h
    have hs3 := sok_e hs30
    obtain ⟨b4, hb4, h⟩ := rl_e h
    refine k_getR (pc := 10) C lkF_RX12_80_12 hs3 ir_12_25 hb4 dX12_write_10 ?_
    refine k_iloadn (pc := 13) C dX12_write_13 (i := 1) rfl 1 rfl ?_
    obtain ⟨ha5, h⟩ := gp_e h
    refine k_iald (pc := 14) C ha5 dX12_write_14 ?_
    refine k_if_ge (pc := 15) C dX12_write_15 (tgt := 21) (by decide) (fun hc6 => ?_) (fun hc6 => ?_)
    · rw [if_pos hc6] at h
      refine k_iloadn (pc := 21) C dX12_write_21 (i := 2) rfl 2 rfl ?_
      refine k_iconst (pc := 22) C (v := (0 : Int32)) dX12_write_22 (by decide) ?_
      refine k_aloadn (pc := 23) C dX12_write_23 (i := 0) rfl 0 rfl ?_
      obtain ⟨b7, hb7, h⟩ := rl_e h
      refine k_getR (pc := 24) C lkF_RX12_83_12 hs3 ir_12_26 hb7 dX12_write_24 ?_
      refine k_iloadn (pc := 27) C dX12_write_27 (i := 1) rfl 1 rfl ?_
      obtain ⟨ha8, h⟩ := gp_e h
      refine k_iald (pc := 28) C ha8 dX12_write_28 ?_
      refine k_iconst (pc := 29) C (v := (1 : Int32)) dX12_write_29 (by decide) ?_
      refine k_isub (pc := 30) C dX12_write_30 ?_
      obtain ⟨r9, hr9, h⟩ := bd_e h
      refine k_S (pc := 31) (st := []) C (c_X12_in hr9) lkS_RX12_98 rfl rfl (Nat.le_of_ble_eq_true rfl) (Nat.le_of_ble_eq_true rfl) (Nat.le_of_ble_eq_true rfl) (Nat.le_of_ble_eq_true rfl) (Nat.le_of_ble_eq_true rfl) dX12_write_31 ?_
      refine k_nf (cells2 := 0) (slots2 := 0) (st2 := [.int r9]) rfl rfl rfl ?_
      refine k_if_ne (pc := 34) C dX12_write_34 (tgt := 40) (by decide) (fun hc10 => ?_) (fun hc10 => ?_)
      · rw [if_neg hc10] at h
        refine k_aloadn (pc := 40) C dX12_write_40 (i := 0) rfl 0 rfl ?_
        obtain ⟨b11, hb11, h⟩ := rl_e h
        refine k_getR (pc := 41) C lkF_RX12_80_12 hs3 ir_12_25 hb11 dX12_write_41 ?_
        refine k_iloadn (pc := 44) C dX12_write_44 (i := 1) rfl 1 rfl ?_
        obtain ⟨ha12, h⟩ := gp_e h
        refine k_iald (pc := 45) C ha12 dX12_write_45 ?_
        refine k_istore (pc := 46) C dX12_write_46 (by decide) (L2 := [(0, .ref (E.1 + a0)), (1, .int x1), (2, .int x2), (3, .int x3), (4, .int (I b11 x1.toNatClampNeg))]) rfl ?_
        refine k_aloadn (pc := 48) C dX12_write_48 (i := 0) rfl 0 rfl ?_
        obtain ⟨b13, hb13, h⟩ := rl_e h
        refine k_getR (pc := 49) C lkF_RX12_77_12 hs3 ir_12_24 hb13 dX12_write_49 ?_
        refine k_bipush (pc := 52) C (v := (40 : Int32)) dX12_write_52 (by decide) ?_
        refine k_iloadn (pc := 54) C dX12_write_54 (i := 1) rfl 1 rfl ?_
        refine k_imul (pc := 55) C dX12_write_55 ?_
        refine k_iloadn (pc := 56) C dX12_write_56 (i := 2) rfl 2 rfl ?_
        refine k_iadd (pc := 57) C dX12_write_57 ?_
        refine k_iload (pc := 58) C dX12_write_58 4 rfl ?_
        refine k_if_ne (pc := 60) C dX12_write_60 (tgt := 68) (by decide) (fun hc14 => ?_) (fun hc14 => ?_)
        · rw [if_neg hc14] at h
          refine k_iload (pc := 68) C dX12_write_68 4 rfl ?_
          refine k_iconst (pc := 70) C (v := (1 : Int32)) dX12_write_70 (by decide) ?_
          refine k_icmp_ne (pc := 71) C dX12_write_71 (tgt := 79) (by decide) (fun hc15 => ?_) (fun hc15 => ?_)
          · rw [if_neg hc15] at h
            refine k_iload (pc := 79) C dX12_write_79 4 rfl ?_
            refine k_iconst (pc := 81) C (v := (4 : Int32)) dX12_write_81 (by decide) ?_
            refine k_icmp_ne (pc := 82) C dX12_write_82 (tgt := 97) (by decide) (fun hc16 => ?_) (fun hc16 => ?_)
            · rw [if_neg hc16] at h
              refine k_iloadn (pc := 97) C dX12_write_97 (i := 3) rfl 3 rfl ?_
              obtain ⟨ha17, h⟩ := gp_e h
              obtain ⟨I18, eI18, h⟩ := lt_e h
              refine k_iast (pc := 98) C ha17 dX12_write_98 ?_
              rw [← eI18]
              refine k_iconst (pc := 99) C (v := (1 : Int32)) dX12_write_99 (by decide) ?_
              have h := Option.some.inj h
              subst h
              exact k_iret (pc := 100) C hr hk dX12_write_100
            · rw [if_pos hc16] at h
              refine k_iloadn (pc := 85) C dX12_write_85 (i := 3) rfl 3 rfl ?_
              refine k_if_ne (pc := 86) C dX12_write_86 (tgt := 93) (by decide) (fun hc19 => ?_) (fun hc19 => ?_)
              · rw [if_neg hc19] at h
                refine k_iconst (pc := 93) C (v := (1 : Int32)) dX12_write_93 (by decide) ?_
                refine k_goto (pc := 94) C dX12_write_94 (tgt := 98) (by decide) ?_
                obtain ⟨ha20, h⟩ := gp_e h
                obtain ⟨I21, eI21, h⟩ := lt_e h
                refine k_iast (pc := 98) C ha20 dX12_write_98 ?_
                rw [← eI21]
                refine k_iconst (pc := 99) C (v := (1 : Int32)) dX12_write_99 (by decide) ?_
                have h := Option.some.inj h
                subst h
                exact k_iret (pc := 100) C hr hk dX12_write_100
              · rw [if_pos hc19] at h
                refine k_iconst (pc := 89) C (v := (0 : Int32)) dX12_write_89 (by decide) ?_
                refine k_goto (pc := 90) C dX12_write_90 (tgt := 98) (by decide) ?_
                obtain ⟨ha22, h⟩ := gp_e h
                obtain ⟨I23, eI23, h⟩ := lt_e h
                refine k_iast (pc := 98) C ha22 dX12_write_98 ?_
                rw [← eI23]
                refine k_iconst (pc := 99) C (v := (1 : Int32)) dX12_write_99 (by decide) ?_
                have h := Option.some.inj h
                subst h
                exact k_iret (pc := 100) C hr hk dX12_write_100
          · rw [if_pos hc15] at h
            refine k_iloadn (pc := 74) C dX12_write_74 (i := 3) rfl 3 rfl ?_
            refine k_i2s (pc := 75) C dX12_write_75 ?_
            refine k_goto (pc := 76) C dX12_write_76 (tgt := 98) (by decide) ?_
            obtain ⟨ha24, h⟩ := gp_e h
            obtain ⟨I25, eI25, h⟩ := lt_e h
            refine k_iast (pc := 98) C ha24 dX12_write_98 ?_
            rw [← eI25]
            refine k_iconst (pc := 99) C (v := (1 : Int32)) dX12_write_99 (by decide) ?_
            have h := Option.some.inj h
            subst h
            exact k_iret (pc := 100) C hr hk dX12_write_100
        · rw [if_pos hc14] at h
          refine k_iloadn (pc := 63) C dX12_write_63 (i := 3) rfl 3 rfl ?_
          refine k_i2b (pc := 64) C dX12_write_64 ?_
          refine k_goto (pc := 65) C dX12_write_65 (tgt := 98) (by decide) ?_
          obtain ⟨ha26, h⟩ := gp_e h
          obtain ⟨I27, eI27, h⟩ := lt_e h
          refine k_iast (pc := 98) C ha26 dX12_write_98 ?_
          rw [← eI27]
          refine k_iconst (pc := 99) C (v := (1 : Int32)) dX12_write_99 (by decide) ?_
          have h := Option.some.inj h
          subst h
          exact k_iret (pc := 100) C hr hk dX12_write_100
      · rw [if_pos hc10] at h
        refine k_bipush (pc := 37) C (v := (-12 : Int32)) dX12_write_37 (by decide) ?_
        have h := Option.some.inj h
        subst h
        exact k_iret (pc := 39) C hr hk dX12_write_39
    · rw [if_neg hc6] at h
      refine k_bipush (pc := 18) C (v := (-11 : Int32)) dX12_write_18 (by decide) ?_
      have h := Option.some.inj h
      subst h
      exact k_iret (pc := 20) C hr hk dX12_write_20
  · rw [if_pos hc2] at h
    refine k_iconst (pc := 7) C (v := (-1 : Int32)) dX12_write_7 (by decide) ?_
    have h := Option.some.inj h
    subst h
    exact k_iret (pc := 8) C hr hk dX12_write_8
theorem c_X12_write {E : Ev} {l : Launch} {S : Sh} {R : Rw} {I : Iw} {a0 : Nat} {x1 : Int32} {x2 : Int32} {x3 : Int32} {r : Iw × Int32} (h : f_X12_write S R I a0 x1 x2 x3 = some r) : Mt E l yX12_write cX12_write 5 (some .int) 2 42 [.ref (E.1 + a0), .int x1, .int x2, .int x3] S R I S R r.1 (some (.int r.2)) 0 0 := mt_of (by decide) (Nat.le_of_ble_eq_true rfl) (fun p e s m args below meth c C hr hk hn => b_X12_write C hr hk _ _ _ _ _ h)
theorem dX12_refuses_0 : decode cX12_refuses 0 = .ok (.aload_n 0, 1) := by decide +kernel
theorem dX12_refuses_1 : decode cX12_refuses 1 = .ok (.getfield 80, 3) := by decide +kernel
theorem dX12_refuses_4 : decode cX12_refuses 4 = .ok (.iload_n 1, 1) := by decide +kernel
theorem dX12_refuses_5 : decode cX12_refuses 5 = .ok (.iaload, 1) := by decide +kernel
theorem dX12_refuses_6 : decode cX12_refuses 6 = .ok (.ifCond .ge 8, 3) := by decide +kernel
theorem dX12_refuses_9 : decode cX12_refuses 9 = .ok (.bipush (-11), 2) := by decide +kernel
theorem dX12_refuses_11 : decode cX12_refuses 11 = .ok (.goto 19, 3) := by decide +kernel
theorem dX12_refuses_14 : decode cX12_refuses 14 = .ok (.aload_n 0, 1) := by decide +kernel
theorem dX12_refuses_15 : decode cX12_refuses 15 = .ok (.getfield 80, 3) := by decide +kernel
theorem dX12_refuses_18 : decode cX12_refuses 18 = .ok (.iload_n 1, 1) := by decide +kernel
theorem dX12_refuses_19 : decode cX12_refuses 19 = .ok (.iaload, 1) := by decide +kernel
theorem dX12_refuses_20 : decode cX12_refuses 20 = .ok (.iload_n 2, 1) := by decide +kernel
theorem dX12_refuses_21 : decode cX12_refuses 21 = .ok (.if_icmp .eq 8, 3) := by decide +kernel
theorem dX12_refuses_24 : decode cX12_refuses 24 = .ok (.bipush (-13), 2) := by decide +kernel
theorem dX12_refuses_26 : decode cX12_refuses 26 = .ok (.goto 4, 3) := by decide +kernel
theorem dX12_refuses_29 : decode cX12_refuses 29 = .ok (.iconst 0, 1) := by decide +kernel
theorem dX12_refuses_30 : decode cX12_refuses 30 = .ok (.ireturn, 1) := by decide +kernel
def f_X12_refuses (S : Sh) (R : Rw) (I : Iw)  (a0 : Nat) (x1 : Int32) (x2 : Int32) : Option (Int32) := gp (sok S a0 12 34) (rl (R a0 25) (fun b2 => gp (aok S 20 b2 x1) ((if 0 ≤ (I b2 x1.toNatClampNeg) then rl (R a0 25) (fun b5 => gp (aok S 20 b5 x1) ((if (I b5 x1.toNatClampNeg) = x2 then some (0 : Int32) else some (-13 : Int32)))) else some (-11 : Int32)))))
set_option maxHeartbeats 4000000 in
theorem b_X12_refuses {E : Ev} {p : Program} {l : Launch} {e : Env} {s : State} {m : MethodId} {args : Array Value} {below : List Frame} {meth : Method} {c : Code} (C : Cx E RX12 cX12_refuses 3 p s m c) (hr : meth.sig.returnType = (some .int)) (hk : meth.locks = false) {S : Sh} {R : Rw} {I : Iw} {r : Int32}  : ∀ (a0 : Nat) (x1 : Int32) (x2 : Int32), f_X12_refuses S R I   a0 x1 x2 = some r → Wk E 3 p l e ({ frames := 0, cells := 0, slots := 0, locals := 0 } : Room) s m args below meth c 0 0 (MQ below (Qw E S R I (some (.int r))) args s 0 0 (fun q => E.1 ≤ q)) 0 [(0, .ref (E.1 + a0)), (1, .int x1), (2, .int x2)] [] S R I := by
  intro a0 x1 x2 h
  rw [f_X12_refuses] at h
  refine k_aloadn (pc := 0) C dX12_refuses_0 (i := 0) rfl 0 rfl ?_
  obtain ⟨hs10, h⟩ := gp_e h
  have hs1 := sok_e hs10
  obtain ⟨b2, hb2, h⟩ := rl_e h
  refine k_getR (pc := 1) C lkF_RX12_80_12 hs1 ir_12_25 hb2 dX12_refuses_1 ?_
  refine k_iloadn (pc := 4) C dX12_refuses_4 (i := 1) rfl 1 rfl ?_
  obtain ⟨ha3, h⟩ := gp_e h
  refine k_iald (pc := 5) C ha3 dX12_refuses_5 ?_
  refine k_if_ge (pc := 6) C dX12_refuses_6 (tgt := 14) (by decide) (fun hc4 => ?_) (fun hc4 => ?_)
  · rw [if_pos hc4] at h
    refine k_aloadn (pc := 14) C dX12_refuses_14 (i := 0) rfl 0 rfl ?_
    obtain ⟨b5, hb5, h⟩ := rl_e h
    refine k_getR (pc := 15) C lkF_RX12_80_12 hs1 ir_12_25 hb5 dX12_refuses_15 ?_
    refine k_iloadn (pc := 18) C dX12_refuses_18 (i := 1) rfl 1 rfl ?_
    obtain ⟨ha6, h⟩ := gp_e h
    refine k_iald (pc := 19) C ha6 dX12_refuses_19 ?_
    refine k_iloadn (pc := 20) C dX12_refuses_20 (i := 2) rfl 2 rfl ?_
    refine k_icmp_eq (pc := 21) C dX12_refuses_21 (tgt := 29) (by decide) (fun hc7 => ?_) (fun hc7 => ?_)
    · rw [if_pos hc7] at h
      refine k_iconst (pc := 29) C (v := (0 : Int32)) dX12_refuses_29 (by decide) ?_
      have h := Option.some.inj h
      subst h
      exact k_iret (pc := 30) C hr hk dX12_refuses_30
    · rw [if_neg hc7] at h
      refine k_bipush (pc := 24) C (v := (-13 : Int32)) dX12_refuses_24 (by decide) ?_
      refine k_goto (pc := 26) C dX12_refuses_26 (tgt := 30) (by decide) ?_
      have h := Option.some.inj h
      subst h
      exact k_iret (pc := 30) C hr hk dX12_refuses_30
  · rw [if_neg hc4] at h
    refine k_bipush (pc := 9) C (v := (-11 : Int32)) dX12_refuses_9 (by decide) ?_
    refine k_goto (pc := 11) C dX12_refuses_11 (tgt := 30) (by decide) ?_
    have h := Option.some.inj h
    subst h
    exact k_iret (pc := 30) C hr hk dX12_refuses_30
theorem c_X12_refuses {E : Ev} {l : Launch} {S : Sh} {R : Rw} {I : Iw} {a0 : Nat} {x1 : Int32} {x2 : Int32} {r : Int32} (h : f_X12_refuses S R I a0 x1 x2 = some r) : Mt E l yX12_refuses cX12_refuses 3 (some .int) 0 0 [.ref (E.1 + a0), .int x1, .int x2] S R I S R I (some (.int r)) 0 0 := mt_of (by decide) (Nat.le_of_ble_eq_true rfl) (fun p e s m args below meth c C hr hk hn => b_X12_refuses C hr hk _ _ _ h)
theorem lkV_RX12_332 : LkV RX12 332 RX12 yX12_refuses cX12_refuses 3 (some .int) 2 := ⟨(t7_in 82 (by decide +kernel) rfl), (t7_in 84 (by decide +kernel) rfl), (t0_in 71 (by decide +kernel) rfl), (t7_in 85 (by decide +kernel) rfl), (t1_in 7 (by decide +kernel) rfl), by decide, by decide +kernel⟩
theorem dX12_item_0 : decode cX12_item 0 = .ok (.iload_n 1, 1) := by decide +kernel
theorem dX12_item_1 : decode cX12_item 1 = .ok (.invokestatic 329, 3) := by decide +kernel
theorem dX12_item_4 : decode cX12_item 4 = .ok (.ifCond .eq 12, 3) := by decide +kernel
theorem dX12_item_7 : decode cX12_item 7 = .ok (.iload_n 2, 1) := by decide +kernel
theorem dX12_item_8 : decode cX12_item 8 = .ok (.iconst 0, 1) := by decide +kernel
theorem dX12_item_9 : decode cX12_item 9 = .ok (.iconst 4, 1) := by decide +kernel
theorem dX12_item_10 : decode cX12_item 10 = .ok (.invokestatic 98, 3) := by decide +kernel
theorem dX12_item_13 : decode cX12_item 13 = .ok (.ifCond .ne 5, 3) := by decide +kernel
theorem dX12_item_16 : decode cX12_item 16 = .ok (.iconst (-1), 1) := by decide +kernel
theorem dX12_item_17 : decode cX12_item 17 = .ok (.ireturn, 1) := by decide +kernel
theorem dX12_item_18 : decode cX12_item 18 = .ok (.aload_n 0, 1) := by decide +kernel
theorem dX12_item_19 : decode cX12_item 19 = .ok (.iload_n 1, 1) := by decide +kernel
theorem dX12_item_20 : decode cX12_item 20 = .ok (.iload_n 2, 1) := by decide +kernel
theorem dX12_item_21 : decode cX12_item 21 = .ok (.invokevirtual 332, 3) := by decide +kernel
theorem dX12_item_24 : decode cX12_item 24 = .ok (.istore 4, 2) := by decide +kernel
theorem dX12_item_26 : decode cX12_item 26 = .ok (.iload 4, 2) := by decide +kernel
theorem dX12_item_28 : decode cX12_item 28 = .ok (.ifCond .eq 8, 3) := by decide +kernel
theorem dX12_item_31 : decode cX12_item 31 = .ok (.iload 4, 2) := by decide +kernel
theorem dX12_item_33 : decode cX12_item 33 = .ok (.goto 35, 3) := by decide +kernel
theorem dX12_item_36 : decode cX12_item 36 = .ok (.iload_n 3, 1) := by decide +kernel
theorem dX12_item_37 : decode cX12_item 37 = .ok (.iconst 0, 1) := by decide +kernel
theorem dX12_item_38 : decode cX12_item 38 = .ok (.aload_n 0, 1) := by decide +kernel
theorem dX12_item_39 : decode cX12_item 39 = .ok (.getfield 83, 3) := by decide +kernel
theorem dX12_item_42 : decode cX12_item 42 = .ok (.iload_n 1, 1) := by decide +kernel
theorem dX12_item_43 : decode cX12_item 43 = .ok (.iaload, 1) := by decide +kernel
theorem dX12_item_44 : decode cX12_item 44 = .ok (.iconst 1, 1) := by decide +kernel
theorem dX12_item_45 : decode cX12_item 45 = .ok (.isub, 1) := by decide +kernel
theorem dX12_item_46 : decode cX12_item 46 = .ok (.invokestatic 98, 3) := by decide +kernel
theorem dX12_item_49 : decode cX12_item 49 = .ok (.ifCond .eq 17, 3) := by decide +kernel
theorem dX12_item_52 : decode cX12_item 52 = .ok (.aload_n 0, 1) := by decide +kernel
theorem dX12_item_53 : decode cX12_item 53 = .ok (.getfield 77, 3) := by decide +kernel
theorem dX12_item_56 : decode cX12_item 56 = .ok (.bipush 40, 2) := by decide +kernel
theorem dX12_item_58 : decode cX12_item 58 = .ok (.iload_n 1, 1) := by decide +kernel
theorem dX12_item_59 : decode cX12_item 59 = .ok (.imul, 1) := by decide +kernel
theorem dX12_item_60 : decode cX12_item 60 = .ok (.iload_n 3, 1) := by decide +kernel
theorem dX12_item_61 : decode cX12_item 61 = .ok (.iadd, 1) := by decide +kernel
theorem dX12_item_62 : decode cX12_item 62 = .ok (.iaload, 1) := by decide +kernel
theorem dX12_item_63 : decode cX12_item 63 = .ok (.goto 5, 3) := by decide +kernel
theorem dX12_item_66 : decode cX12_item 66 = .ok (.bipush (-12), 2) := by decide +kernel
theorem dX12_item_68 : decode cX12_item 68 = .ok (.ireturn, 1) := by decide +kernel
def f_X12_item (S : Sh) (R : Rw) (I : Iw)  (a0 : Nat) (x1 : Int32) (x2 : Int32) (x3 : Int32) : Option (Int32) := bd (f_X12_isSheet S R I x1) (fun r1 => (if r1 = 0 then some (-1 : Int32) else bd (f_X12_in S R I x2 (0 : Int32) (4 : Int32)) (fun r3 => (if r3 = 0 then some (-1 : Int32) else gp (sok S a0 12 34) (bd (f_X12_refuses S R I a0 x1 x2) (fun r6 => (if r6 = 0 then rl (R a0 26) (fun b8 => gp (aok S 20 b8 x1) (bd (f_X12_in S R I x3 (0 : Int32) ((I b8 x1.toNatClampNeg) - (1 : Int32))) (fun r10 => (if r10 = 0 then some (-12 : Int32) else rl (R a0 24) (fun b12 => gp (aok S 20 b12 (((40 : Int32) * x1) + x3)) (some (I b12 (((40 : Int32) * x1) + x3).toNatClampNeg))))))) else some r6)))))))
set_option maxHeartbeats 4000000 in
theorem b_X12_item {E : Ev} {p : Program} {l : Launch} {e : Env} {s : State} {m : MethodId} {args : Array Value} {below : List Frame} {meth : Method} {c : Code} (C : Cx E RX12 cX12_item 5 p s m c) (hr : meth.sig.returnType = (some .int)) (hk : meth.locks = false) {S : Sh} {R : Rw} {I : Iw} {r : Int32}  : ∀ (a0 : Nat) (x1 : Int32) (x2 : Int32) (x3 : Int32), f_X12_item S R I   a0 x1 x2 x3 = some r → Wk E 5 p l e ({ frames := 2, cells := 0, slots := 0, locals := 42 } : Room) s m args below meth c 0 0 (MQ below (Qw E S R I (some (.int r))) args s 0 0 (fun q => E.1 ≤ q)) 0 [(0, .ref (E.1 + a0)), (1, .int x1), (2, .int x2), (3, .int x3)] [] S R I := by
  intro a0 x1 x2 x3 h
  rw [f_X12_item] at h
  refine k_iloadn (pc := 0) C dX12_item_0 (i := 1) rfl 1 rfl ?_
  obtain ⟨r1, hr1, h⟩ := bd_e h
  refine k_S (pc := 1) (st := []) C (c_X12_isSheet hr1) lkS_RX12_329 rfl rfl (Nat.le_of_ble_eq_true rfl) (Nat.le_of_ble_eq_true rfl) (Nat.le_of_ble_eq_true rfl) (Nat.le_of_ble_eq_true rfl) (Nat.le_of_ble_eq_true rfl) dX12_item_1 ?_
  refine k_nf (cells2 := 0) (slots2 := 0) (st2 := [.int r1]) rfl rfl rfl ?_
  refine k_if_eq (pc := 4) C dX12_item_4 (tgt := 16) (by decide) (fun hc2 => ?_) (fun hc2 => ?_)
  · rw [if_pos hc2] at h
    refine k_iconst (pc := 16) C (v := (-1 : Int32)) dX12_item_16 (by decide) ?_
    have h := Option.some.inj h
    subst h
    exact k_iret (pc := 17) C hr hk dX12_item_17
  · rw [if_neg hc2] at h
    refine k_iloadn (pc := 7) C dX12_item_7 (i := 2) rfl 2 rfl ?_
    refine k_iconst (pc := 8) C (v := (0 : Int32)) dX12_item_8 (by decide) ?_
    refine k_iconst (pc := 9) C (v := (4 : Int32)) dX12_item_9 (by decide) ?_
    obtain ⟨r3, hr3, h⟩ := bd_e h
    refine k_S (pc := 10) (st := []) C (c_X12_in hr3) lkS_RX12_98 rfl rfl (Nat.le_of_ble_eq_true rfl) (Nat.le_of_ble_eq_true rfl) (Nat.le_of_ble_eq_true rfl) (Nat.le_of_ble_eq_true rfl) (Nat.le_of_ble_eq_true rfl) dX12_item_10 ?_
    refine k_nf (cells2 := 0) (slots2 := 0) (st2 := [.int r3]) rfl rfl rfl ?_
    refine k_if_ne (pc := 13) C dX12_item_13 (tgt := 18) (by decide) (fun hc4 => ?_) (fun hc4 => ?_)
    · rw [if_neg hc4] at h
      refine k_aloadn (pc := 18) C dX12_item_18 (i := 0) rfl 0 rfl ?_
      refine k_iloadn (pc := 19) C dX12_item_19 (i := 1) rfl 1 rfl ?_
      refine k_iloadn (pc := 20) C dX12_item_20 (i := 2) rfl 2 rfl ?_
      obtain ⟨hs50, h⟩ := gp_e h
      have hs5 := sok_e hs50
      obtain ⟨r6, hr6, h⟩ := bd_e h
      refine k_V (pc := 21) (st := []) C (c_X12_refuses hr6) lkV_RX12_332 hs5 rfl rfl rfl (Nat.le_of_ble_eq_true rfl) (Nat.le_of_ble_eq_true rfl) (Nat.le_of_ble_eq_true rfl) (Nat.le_of_ble_eq_true rfl) (Nat.le_of_ble_eq_true rfl) dX12_item_21 ?_
      refine k_nf (cells2 := 0) (slots2 := 0) (st2 := [.int r6]) rfl rfl rfl ?_
      refine k_istore (pc := 24) C dX12_item_24 (by decide) (L2 := [(0, .ref (E.1 + a0)), (1, .int x1), (2, .int x2), (3, .int x3), (4, .int r6)]) rfl ?_
      refine k_iload (pc := 26) C dX12_item_26 4 rfl ?_
      refine k_if_eq (pc := 28) C dX12_item_28 (tgt := 36) (by decide) (fun hc7 => ?_) (fun hc7 => ?_)
      · rw [if_pos hc7] at h
        refine k_iloadn (pc := 36) C dX12_item_36 (i := 3) rfl 3 rfl ?_
        refine k_iconst (pc := 37) C (v := (0 : Int32)) dX12_item_37 (by decide) ?_
        refine k_aloadn (pc := 38) C dX12_item_38 (i := 0) rfl 0 rfl ?_
        obtain ⟨b8, hb8, h⟩ := rl_e h
        refine k_getR (pc := 39) C lkF_RX12_83_12 hs5 ir_12_26 hb8 dX12_item_39 ?_
        refine k_iloadn (pc := 42) C dX12_item_42 (i := 1) rfl 1 rfl ?_
        obtain ⟨ha9, h⟩ := gp_e h
        refine k_iald (pc := 43) C ha9 dX12_item_43 ?_
        refine k_iconst (pc := 44) C (v := (1 : Int32)) dX12_item_44 (by decide) ?_
        refine k_isub (pc := 45) C dX12_item_45 ?_
        obtain ⟨r10, hr10, h⟩ := bd_e h
        refine k_S (pc := 46) (st := []) C (c_X12_in hr10) lkS_RX12_98 rfl rfl (Nat.le_of_ble_eq_true rfl) (Nat.le_of_ble_eq_true rfl) (Nat.le_of_ble_eq_true rfl) (Nat.le_of_ble_eq_true rfl) (Nat.le_of_ble_eq_true rfl) dX12_item_46 ?_
        refine k_nf (cells2 := 0) (slots2 := 0) (st2 := [.int r10]) rfl rfl rfl ?_
        refine k_if_eq (pc := 49) C dX12_item_49 (tgt := 66) (by decide) (fun hc11 => ?_) (fun hc11 => ?_)
        · rw [if_pos hc11] at h
          refine k_bipush (pc := 66) C (v := (-12 : Int32)) dX12_item_66 (by decide) ?_
          have h := Option.some.inj h
          subst h
          exact k_iret (pc := 68) C hr hk dX12_item_68
        · rw [if_neg hc11] at h
          refine k_aloadn (pc := 52) C dX12_item_52 (i := 0) rfl 0 rfl ?_
          obtain ⟨b12, hb12, h⟩ := rl_e h
          refine k_getR (pc := 53) C lkF_RX12_77_12 hs5 ir_12_24 hb12 dX12_item_53 ?_
          refine k_bipush (pc := 56) C (v := (40 : Int32)) dX12_item_56 (by decide) ?_
          refine k_iloadn (pc := 58) C dX12_item_58 (i := 1) rfl 1 rfl ?_
          refine k_imul (pc := 59) C dX12_item_59 ?_
          refine k_iloadn (pc := 60) C dX12_item_60 (i := 3) rfl 3 rfl ?_
          refine k_iadd (pc := 61) C dX12_item_61 ?_
          obtain ⟨ha13, h⟩ := gp_e h
          refine k_iald (pc := 62) C ha13 dX12_item_62 ?_
          refine k_goto (pc := 63) C dX12_item_63 (tgt := 68) (by decide) ?_
          have h := Option.some.inj h
          subst h
          exact k_iret (pc := 68) C hr hk dX12_item_68
      · rw [if_neg hc7] at h
        refine k_iload (pc := 31) C dX12_item_31 4 rfl ?_
        refine k_goto (pc := 33) C dX12_item_33 (tgt := 68) (by decide) ?_
        have h := Option.some.inj h
        subst h
        exact k_iret (pc := 68) C hr hk dX12_item_68
    · rw [if_pos hc4] at h
      refine k_iconst (pc := 16) C (v := (-1 : Int32)) dX12_item_16 (by decide) ?_
      have h := Option.some.inj h
      subst h
      exact k_iret (pc := 17) C hr hk dX12_item_17
theorem c_X12_item {E : Ev} {l : Launch} {S : Sh} {R : Rw} {I : Iw} {a0 : Nat} {x1 : Int32} {x2 : Int32} {x3 : Int32} {r : Int32} (h : f_X12_item S R I a0 x1 x2 x3 = some r) : Mt E l yX12_item cX12_item 5 (some .int) 2 42 [.ref (E.1 + a0), .int x1, .int x2, .int x3] S R I S R I (some (.int r)) 0 0 := mt_of (by decide) (Nat.le_of_ble_eq_true rfl) (fun p e s m args below meth c C hr hk hn => b_X12_item C hr hk _ _ _ _ h)
theorem lkV_RX12_335 : LkV RX12 335 RX12 yX12_go cX12_go 2 (some .int) 1 := ⟨(t7_in 90 (by decide +kernel) rfl), (t6_in 123 (by decide +kernel) rfl), (t6_in 124 (by decide +kernel) rfl), (t6_in 125 (by decide +kernel) rfl), (t1_in 7 (by decide +kernel) rfl), by decide, by decide +kernel⟩
theorem dX12_goes_0 : decode cX12_goes 0 = .ok (.iload_n 1, 1) := by decide +kernel
theorem dX12_goes_1 : decode cX12_goes 1 = .ok (.invokestatic 329, 3) := by decide +kernel
theorem dX12_goes_4 : decode cX12_goes 4 = .ok (.ifCond .eq 13, 3) := by decide +kernel
theorem dX12_goes_7 : decode cX12_goes 7 = .ok (.iload_n 3, 1) := by decide +kernel
theorem dX12_goes_8 : decode cX12_goes 8 = .ok (.iconst 0, 1) := by decide +kernel
theorem dX12_goes_9 : decode cX12_goes 9 = .ok (.bipush 20, 2) := by decide +kernel
theorem dX12_goes_11 : decode cX12_goes 11 = .ok (.invokestatic 98, 3) := by decide +kernel
theorem dX12_goes_14 : decode cX12_goes 14 = .ok (.ifCond .ne 5, 3) := by decide +kernel
theorem dX12_goes_17 : decode cX12_goes 17 = .ok (.iconst (-1), 1) := by decide +kernel
theorem dX12_goes_18 : decode cX12_goes 18 = .ok (.ireturn, 1) := by decide +kernel
theorem dX12_goes_19 : decode cX12_goes 19 = .ok (.aload_n 0, 1) := by decide +kernel
theorem dX12_goes_20 : decode cX12_goes 20 = .ok (.iload_n 1, 1) := by decide +kernel
theorem dX12_goes_21 : decode cX12_goes 21 = .ok (.iconst 0, 1) := by decide +kernel
theorem dX12_goes_22 : decode cX12_goes 22 = .ok (.invokevirtual 332, 3) := by decide +kernel
theorem dX12_goes_25 : decode cX12_goes 25 = .ok (.istore 4, 2) := by decide +kernel
theorem dX12_goes_27 : decode cX12_goes 27 = .ok (.iconst 0, 1) := by decide +kernel
theorem dX12_goes_28 : decode cX12_goes 28 = .ok (.istore 5, 2) := by decide +kernel
theorem dX12_goes_30 : decode cX12_goes 30 = .ok (.iconst 0, 1) := by decide +kernel
theorem dX12_goes_31 : decode cX12_goes 31 = .ok (.istore 6, 2) := by decide +kernel
theorem dX12_goes_33 : decode cX12_goes 33 = .ok (.iload 6, 2) := by decide +kernel
theorem dX12_goes_35 : decode cX12_goes 35 = .ok (.iload_n 3, 1) := by decide +kernel
theorem dX12_goes_36 : decode cX12_goes 36 = .ok (.if_icmp .ge 86, 3) := by decide +kernel
theorem dX12_goes_39 : decode cX12_goes 39 = .ok (.iload 4, 2) := by decide +kernel
theorem dX12_goes_41 : decode cX12_goes 41 = .ok (.ifCond .ne 81, 3) := by decide +kernel
theorem dX12_goes_44 : decode cX12_goes 44 = .ok (.iload_n 2, 1) := by decide +kernel
theorem dX12_goes_45 : decode cX12_goes 45 = .ok (.i2l, 1) := by decide +kernel
theorem dX12_goes_46 : decode cX12_goes 46 = .ok (.iload 6, 2) := by decide +kernel
theorem dX12_goes_48 : decode cX12_goes 48 = .ok (.i2l, 1) := by decide +kernel
theorem dX12_goes_49 : decode cX12_goes 49 = .ok (.ladd, 1) := by decide +kernel
theorem dX12_goes_50 : decode cX12_goes 50 = .ok (.lstore 7, 2) := by decide +kernel
theorem dX12_goes_52 : decode cX12_goes 52 = .ok (.lload 7, 2) := by decide +kernel
theorem dX12_goes_54 : decode cX12_goes 54 = .ok (.lconst 0, 1) := by decide +kernel
theorem dX12_goes_55 : decode cX12_goes 55 = .ok (.lcmp, 1) := by decide +kernel
theorem dX12_goes_56 : decode cX12_goes 56 = .ok (.ifCond .lt 16, 3) := by decide +kernel
theorem dX12_goes_59 : decode cX12_goes 59 = .ok (.lload 7, 2) := by decide +kernel
theorem dX12_goes_61 : decode cX12_goes 61 = .ok (.aload_n 0, 1) := by decide +kernel
theorem dX12_goes_62 : decode cX12_goes 62 = .ok (.getfield 83, 3) := by decide +kernel
theorem dX12_goes_65 : decode cX12_goes 65 = .ok (.iload_n 1, 1) := by decide +kernel
theorem dX12_goes_66 : decode cX12_goes 66 = .ok (.iaload, 1) := by decide +kernel
theorem dX12_goes_67 : decode cX12_goes 67 = .ok (.i2l, 1) := by decide +kernel
theorem dX12_goes_68 : decode cX12_goes 68 = .ok (.lcmp, 1) := by decide +kernel
theorem dX12_goes_69 : decode cX12_goes 69 = .ok (.ifCond .lt 8, 3) := by decide +kernel
theorem dX12_goes_72 : decode cX12_goes 72 = .ok (.bipush (-12), 2) := by decide +kernel
theorem dX12_goes_74 : decode cX12_goes 74 = .ok (.goto 4, 3) := by decide +kernel
theorem dX12_goes_77 : decode cX12_goes 77 = .ok (.iconst 0, 1) := by decide +kernel
theorem dX12_goes_78 : decode cX12_goes 78 = .ok (.istore 4, 2) := by decide +kernel
theorem dX12_goes_80 : decode cX12_goes 80 = .ok (.iload 4, 2) := by decide +kernel
theorem dX12_goes_82 : decode cX12_goes 82 = .ok (.ifCond .ne 34, 3) := by decide +kernel
theorem dX12_goes_85 : decode cX12_goes 85 = .ok (.iload 5, 2) := by decide +kernel
theorem dX12_goes_87 : decode cX12_goes 87 = .ok (.aload_n 0, 1) := by decide +kernel
theorem dX12_goes_88 : decode cX12_goes 88 = .ok (.aload_n 0, 1) := by decide +kernel
theorem dX12_goes_89 : decode cX12_goes 89 = .ok (.getfield 77, 3) := by decide +kernel
theorem dX12_goes_92 : decode cX12_goes 92 = .ok (.bipush 40, 2) := by decide +kernel
theorem dX12_goes_94 : decode cX12_goes 94 = .ok (.iload_n 1, 1) := by decide +kernel
theorem dX12_goes_95 : decode cX12_goes 95 = .ok (.imul, 1) := by decide +kernel
theorem dX12_goes_96 : decode cX12_goes 96 = .ok (.iload_n 2, 1) := by decide +kernel
theorem dX12_goes_97 : decode cX12_goes 97 = .ok (.iadd, 1) := by decide +kernel
theorem dX12_goes_98 : decode cX12_goes 98 = .ok (.iload 6, 2) := by decide +kernel
theorem dX12_goes_100 : decode cX12_goes 100 = .ok (.iadd, 1) := by decide +kernel
theorem dX12_goes_101 : decode cX12_goes 101 = .ok (.iaload, 1) := by decide +kernel
theorem dX12_goes_102 : decode cX12_goes 102 = .ok (.invokevirtual 335, 3) := by decide +kernel
theorem dX12_goes_105 : decode cX12_goes 105 = .ok (.ifCond .ge 7, 3) := by decide +kernel
theorem dX12_goes_108 : decode cX12_goes 108 = .ok (.iconst 0, 1) := by decide +kernel
theorem dX12_goes_109 : decode cX12_goes 109 = .ok (.goto 4, 3) := by decide +kernel
theorem dX12_goes_112 : decode cX12_goes 112 = .ok (.iconst 1, 1) := by decide +kernel
theorem dX12_goes_113 : decode cX12_goes 113 = .ok (.iadd, 1) := by decide +kernel
theorem dX12_goes_114 : decode cX12_goes 114 = .ok (.istore 5, 2) := by decide +kernel
theorem dX12_goes_116 : decode cX12_goes 116 = .ok (.iinc 6 1, 3) := by decide +kernel
theorem dX12_goes_119 : decode cX12_goes 119 = .ok (.goto (-86), 3) := by decide +kernel
theorem dX12_goes_122 : decode cX12_goes 122 = .ok (.iload 4, 2) := by decide +kernel
theorem dX12_goes_124 : decode cX12_goes 124 = .ok (.ifCond .eq 8, 3) := by decide +kernel
theorem dX12_goes_127 : decode cX12_goes 127 = .ok (.iload 4, 2) := by decide +kernel
theorem dX12_goes_129 : decode cX12_goes 129 = .ok (.goto 5, 3) := by decide +kernel
theorem dX12_goes_132 : decode cX12_goes 132 = .ok (.iload 5, 2) := by decide +kernel
theorem dX12_goes_134 : decode cX12_goes 134 = .ok (.ireturn, 1) := by decide +kernel
def f_X12_goes_122 (S : Sh) (R : Rw)  (I : Iw) (x4 : Int32) (x5 : Int32) : Option (Iw × Int32) := (if x4 = 0 then some (I, x5) else some (I, x4))
set_option maxHeartbeats 4000000 in
theorem b_X12_goes_122 {E : Ev} {p : Program} {l : Launch} {e : Env} {s : State} {m : MethodId} {args : Array Value} {below : List Frame} {meth : Method} {c : Code} (C : Cx E RX12 cX12_goes 9 p s m c) (hr : meth.sig.returnType = (some .int)) (hk : meth.locks = false) {S : Sh} {R : Rw} {r : Iw × Int32}  : ∀ (I : Iw) (x4 : Int32) (x5 : Int32), f_X12_goes_122 S R   I x4 x5 = some r → Wk E 9 p l e ({ frames := 8, cells := 0, slots := 0, locals := 181 } : Room) s m args below meth c 0 0 (MQ below (Qw E S R r.1 (some (.int r.2))) args s 0 0 (fun q => E.1 ≤ q)) 122 [(4, .int x4), (5, .int x5)] [] S R I := by
  intro I x4 x5 h
  rw [f_X12_goes_122] at h
  refine k_iload (pc := 122) C dX12_goes_122 0 rfl ?_
  refine k_if_eq (pc := 124) C dX12_goes_124 (tgt := 132) (by decide) (fun hc8 => ?_) (fun hc8 => ?_)
  · rw [if_pos hc8] at h
    refine k_iload (pc := 132) C dX12_goes_132 1 rfl ?_
    have h := Option.some.inj h
    subst h
    exact k_iret (pc := 134) C hr hk dX12_goes_134
  · rw [if_neg hc8] at h
    refine k_iload (pc := 127) C dX12_goes_127 0 rfl ?_
    refine k_goto (pc := 129) C dX12_goes_129 (tgt := 134) (by decide) ?_
    have h := Option.some.inj h
    subst h
    exact k_iret (pc := 134) C hr hk dX12_goes_134
def f_X12_goes_116 (S : Sh) (R : Rw) (ko33 : Iw → Nat → Int32 → Int32 → Int32 → Int32 → Int32 → Int32 → Option (Iw × Int32)) (I : Iw) (a0 : Nat) (x1 : Int32) (x2 : Int32) (x3 : Int32) (x4 : Int32) (x5 : Int32) (x6 : Int32) : Option (Iw × Int32) := ko33 I a0 x1 x2 x3 x4 x5 (x6 + (1 : Int32))
set_option maxHeartbeats 4000000 in
theorem b_X12_goes_116 {E : Ev} {p : Program} {l : Launch} {e : Env} {s : State} {m : MethodId} {args : Array Value} {below : List Frame} {meth : Method} {c : Code} (C : Cx E RX12 cX12_goes 9 p s m c) (hr : meth.sig.returnType = (some .int)) (hk : meth.locks = false) {S : Sh} {R : Rw} {r : Iw × Int32}  {ko33 : Iw → Nat → Int32 → Int32 → Int32 → Int32 → Int32 → Int32 → Option (Iw × Int32)} (hko33 : ∀ (I : Iw) (a0 : Nat) (x1 : Int32) (x2 : Int32) (x3 : Int32) (x4 : Int32) (x5 : Int32) (x6 : Int32), ko33 I a0 x1 x2 x3 x4 x5 x6 = some r → Wk E 9 p l e ({ frames := 8, cells := 0, slots := 0, locals := 181 } : Room) s m args below meth c 0 0 (MQ below (Qw E S R r.1 (some (.int r.2))) args s 0 0 (fun q => E.1 ≤ q)) 33 [(0, .ref (E.1 + a0)), (1, .int x1), (2, .int x2), (3, .int x3), (4, .int x4), (5, .int x5), (6, .int x6)] [] S R I) : ∀ (I : Iw) (a0 : Nat) (x1 : Int32) (x2 : Int32) (x3 : Int32) (x4 : Int32) (x5 : Int32) (x6 : Int32), f_X12_goes_116 S R ko33  I a0 x1 x2 x3 x4 x5 x6 = some r → Wk E 9 p l e ({ frames := 8, cells := 0, slots := 0, locals := 181 } : Room) s m args below meth c 0 0 (MQ below (Qw E S R r.1 (some (.int r.2))) args s 0 0 (fun q => E.1 ≤ q)) 116 [(0, .ref (E.1 + a0)), (1, .int x1), (2, .int x2), (3, .int x3), (4, .int x4), (5, .int x5), (6, .int x6)] [] S R I := by
  intro I a0 x1 x2 x3 x4 x5 x6 h
  rw [f_X12_goes_116] at h
  refine k_iinc (pc := 116) C dX12_goes_116 6 rfl (v := x6 + (1 : Int32)) (by rfl) (by decide) (L2 := [(0, .ref (E.1 + a0)), (1, .int x1), (2, .int x2), (3, .int x3), (4, .int x4), (5, .int x5), (6, .int (x6 + (1 : Int32)))]) rfl ?_
  refine k_goto (pc := 119) C dX12_goes_119 (tgt := 33) (by decide) ?_
  exact hko33 _ _ _ _ _ _ _ _ h
def f_X12_goes_113 (S : Sh) (R : Rw) (ko33 : Iw → Nat → Int32 → Int32 → Int32 → Int32 → Int32 → Int32 → Option (Iw × Int32)) (I : Iw) (a0 : Nat) (x1 : Int32) (x2 : Int32) (x3 : Int32) (x4 : Int32) (x6 : Int32) (s0 : Int32) (s1 : Int32) : Option (Iw × Int32) := f_X12_goes_116 S R ko33 I a0 x1 x2 x3 x4 (s1 + s0) x6
set_option maxHeartbeats 4000000 in
theorem b_X12_goes_113 {E : Ev} {p : Program} {l : Launch} {e : Env} {s : State} {m : MethodId} {args : Array Value} {below : List Frame} {meth : Method} {c : Code} (C : Cx E RX12 cX12_goes 9 p s m c) (hr : meth.sig.returnType = (some .int)) (hk : meth.locks = false) {S : Sh} {R : Rw} {r : Iw × Int32}  {ko33 : Iw → Nat → Int32 → Int32 → Int32 → Int32 → Int32 → Int32 → Option (Iw × Int32)} (hko33 : ∀ (I : Iw) (a0 : Nat) (x1 : Int32) (x2 : Int32) (x3 : Int32) (x4 : Int32) (x5 : Int32) (x6 : Int32), ko33 I a0 x1 x2 x3 x4 x5 x6 = some r → Wk E 9 p l e ({ frames := 8, cells := 0, slots := 0, locals := 181 } : Room) s m args below meth c 0 0 (MQ below (Qw E S R r.1 (some (.int r.2))) args s 0 0 (fun q => E.1 ≤ q)) 33 [(0, .ref (E.1 + a0)), (1, .int x1), (2, .int x2), (3, .int x3), (4, .int x4), (5, .int x5), (6, .int x6)] [] S R I) : ∀ (I : Iw) (a0 : Nat) (x1 : Int32) (x2 : Int32) (x3 : Int32) (x4 : Int32) (x6 : Int32) (s0 : Int32) (s1 : Int32), f_X12_goes_113 S R ko33  I a0 x1 x2 x3 x4 x6 s0 s1 = some r → Wk E 9 p l e ({ frames := 8, cells := 0, slots := 0, locals := 181 } : Room) s m args below meth c 0 0 (MQ below (Qw E S R r.1 (some (.int r.2))) args s 0 0 (fun q => E.1 ≤ q)) 113 [(0, .ref (E.1 + a0)), (1, .int x1), (2, .int x2), (3, .int x3), (4, .int x4), (6, .int x6)] [.int s0, .int s1] S R I := by
  intro I a0 x1 x2 x3 x4 x6 s0 s1 h
  rw [f_X12_goes_113] at h
  refine k_iadd (pc := 113) C dX12_goes_113 ?_
  refine k_istore (pc := 114) C dX12_goes_114 (by decide) (L2 := [(0, .ref (E.1 + a0)), (1, .int x1), (2, .int x2), (3, .int x3), (4, .int x4), (5, .int (s1 + s0)), (6, .int x6)]) rfl ?_
  exact b_X12_goes_116 C hr hk hko33 _ _ _ _ _ _ _ _ h
def f_X12_goes_78 (S : Sh) (R : Rw) (ko33 : Iw → Nat → Int32 → Int32 → Int32 → Int32 → Int32 → Int32 → Option (Iw × Int32)) (I : Iw) (a0 : Nat) (x1 : Int32) (x2 : Int32) (x3 : Int32) (x5 : Int32) (x6 : Int32) (s0 : Int32) : Option (Iw × Int32) := (if s0 = 0 then gp (sok S a0 12 34) (rl (R a0 24) (fun b13 => gp (aok S 20 b13 ((((40 : Int32) * x1) + x2) + x6)) (bd (f_X12_go S R I a0 (I b13 ((((40 : Int32) * x1) + x2) + x6).toNatClampNeg)) (fun r15 => (if 0 ≤ r15.2 then f_X12_goes_113 S R ko33 r15.1 a0 x1 x2 x3 s0 x6 (1 : Int32) x5 else f_X12_goes_113 S R ko33 r15.1 a0 x1 x2 x3 s0 x6 (0 : Int32) x5))))) else f_X12_goes_116 S R ko33 I a0 x1 x2 x3 s0 x5 x6)
set_option maxHeartbeats 4000000 in
theorem b_X12_goes_78 {E : Ev} {p : Program} {l : Launch} {e : Env} {s : State} {m : MethodId} {args : Array Value} {below : List Frame} {meth : Method} {c : Code} (C : Cx E RX12 cX12_goes 9 p s m c) (hr : meth.sig.returnType = (some .int)) (hk : meth.locks = false) {S : Sh} {R : Rw} {r : Iw × Int32}  {ko33 : Iw → Nat → Int32 → Int32 → Int32 → Int32 → Int32 → Int32 → Option (Iw × Int32)} (hko33 : ∀ (I : Iw) (a0 : Nat) (x1 : Int32) (x2 : Int32) (x3 : Int32) (x4 : Int32) (x5 : Int32) (x6 : Int32), ko33 I a0 x1 x2 x3 x4 x5 x6 = some r → Wk E 9 p l e ({ frames := 8, cells := 0, slots := 0, locals := 181 } : Room) s m args below meth c 0 0 (MQ below (Qw E S R r.1 (some (.int r.2))) args s 0 0 (fun q => E.1 ≤ q)) 33 [(0, .ref (E.1 + a0)), (1, .int x1), (2, .int x2), (3, .int x3), (4, .int x4), (5, .int x5), (6, .int x6)] [] S R I) : ∀ (I : Iw) (a0 : Nat) (x1 : Int32) (x2 : Int32) (x3 : Int32) (x5 : Int32) (x6 : Int32) (s0 : Int32), f_X12_goes_78 S R ko33  I a0 x1 x2 x3 x5 x6 s0 = some r → Wk E 9 p l e ({ frames := 8, cells := 0, slots := 0, locals := 181 } : Room) s m args below meth c 0 0 (MQ below (Qw E S R r.1 (some (.int r.2))) args s 0 0 (fun q => E.1 ≤ q)) 78 [(0, .ref (E.1 + a0)), (1, .int x1), (2, .int x2), (3, .int x3), (5, .int x5), (6, .int x6)] [.int s0] S R I := by
  intro I a0 x1 x2 x3 x5 x6 s0 h
  rw [f_X12_goes_78] at h
  refine k_istore (pc := 78) C dX12_goes_78 (by decide) (L2 := [(0, .ref (E.1 + a0)), (1, .int x1), (2, .int x2), (3, .int x3), (4, .int s0), (5, .int x5), (6, .int x6)]) rfl ?_
  refine k_iload (pc := 80) C dX12_goes_80 4 rfl ?_
  refine k_if_ne (pc := 82) C dX12_goes_82 (tgt := 116) (by decide) (fun hc11 => ?_) (fun hc11 => ?_)
  · rw [if_neg hc11] at h
    exact b_X12_goes_116 C hr hk hko33 _ _ _ _ _ _ _ _ h
  · rw [if_pos hc11] at h
    refine k_iload (pc := 85) C dX12_goes_85 5 rfl ?_
    refine k_aloadn (pc := 87) C dX12_goes_87 (i := 0) rfl 0 rfl ?_
    refine k_aloadn (pc := 88) C dX12_goes_88 (i := 0) rfl 0 rfl ?_
    obtain ⟨hs120, h⟩ := gp_e h
    have hs12 := sok_e hs120
    obtain ⟨b13, hb13, h⟩ := rl_e h
    refine k_getR (pc := 89) C lkF_RX12_77_12 hs12 ir_12_24 hb13 dX12_goes_89 ?_
    refine k_bipush (pc := 92) C (v := (40 : Int32)) dX12_goes_92 (by decide) ?_
    refine k_iloadn (pc := 94) C dX12_goes_94 (i := 1) rfl 1 rfl ?_
    refine k_imul (pc := 95) C dX12_goes_95 ?_
    refine k_iloadn (pc := 96) C dX12_goes_96 (i := 2) rfl 2 rfl ?_
    refine k_iadd (pc := 97) C dX12_goes_97 ?_
    refine k_iload (pc := 98) C dX12_goes_98 6 rfl ?_
    refine k_iadd (pc := 100) C dX12_goes_100 ?_
    obtain ⟨ha14, h⟩ := gp_e h
    refine k_iald (pc := 101) C ha14 dX12_goes_101 ?_
    obtain ⟨r15, hr15, h⟩ := bd_e h
    refine k_V (pc := 102) (st := [.int x5]) C (c_X12_go hr15) lkV_RX12_335 hs12 rfl rfl rfl (Nat.le_of_ble_eq_true rfl) (Nat.le_of_ble_eq_true rfl) (Nat.le_of_ble_eq_true rfl) (Nat.le_of_ble_eq_true rfl) (Nat.le_of_ble_eq_true rfl) dX12_goes_102 ?_
    refine k_nf (cells2 := 0) (slots2 := 0) (st2 := [.int r15.2, .int x5]) rfl rfl rfl ?_
    refine k_if_ge (pc := 105) C dX12_goes_105 (tgt := 112) (by decide) (fun hc16 => ?_) (fun hc16 => ?_)
    · rw [if_pos hc16] at h
      refine k_iconst (pc := 112) C (v := (1 : Int32)) dX12_goes_112 (by decide) ?_
      refine k_loc (L2 := [(0, .ref (E.1 + a0)), (1, .int x1), (2, .int x2), (3, .int x3), (4, .int s0), (6, .int x6)]) [0, 1, 2, 3, 4, 6] rfl ?_
      exact b_X12_goes_113 C hr hk hko33 _ _ _ _ _ _ _ _ _ h
    · rw [if_neg hc16] at h
      refine k_iconst (pc := 108) C (v := (0 : Int32)) dX12_goes_108 (by decide) ?_
      refine k_goto (pc := 109) C dX12_goes_109 (tgt := 113) (by decide) ?_
      refine k_loc (L2 := [(0, .ref (E.1 + a0)), (1, .int x1), (2, .int x2), (3, .int x3), (4, .int s0), (6, .int x6)]) [0, 1, 2, 3, 4, 6] rfl ?_
      exact b_X12_goes_113 C hr hk hko33 _ _ _ _ _ _ _ _ _ h
def f_X12_goes_72 (S : Sh) (R : Rw) (ko33 : Iw → Nat → Int32 → Int32 → Int32 → Int32 → Int32 → Int32 → Option (Iw × Int32)) (I : Iw) (a0 : Nat) (x1 : Int32) (x2 : Int32) (x3 : Int32) (x5 : Int32) (x6 : Int32) : Option (Iw × Int32) := f_X12_goes_78 S R ko33 I a0 x1 x2 x3 x5 x6 (-12 : Int32)
set_option maxHeartbeats 4000000 in
theorem b_X12_goes_72 {E : Ev} {p : Program} {l : Launch} {e : Env} {s : State} {m : MethodId} {args : Array Value} {below : List Frame} {meth : Method} {c : Code} (C : Cx E RX12 cX12_goes 9 p s m c) (hr : meth.sig.returnType = (some .int)) (hk : meth.locks = false) {S : Sh} {R : Rw} {r : Iw × Int32}  {ko33 : Iw → Nat → Int32 → Int32 → Int32 → Int32 → Int32 → Int32 → Option (Iw × Int32)} (hko33 : ∀ (I : Iw) (a0 : Nat) (x1 : Int32) (x2 : Int32) (x3 : Int32) (x4 : Int32) (x5 : Int32) (x6 : Int32), ko33 I a0 x1 x2 x3 x4 x5 x6 = some r → Wk E 9 p l e ({ frames := 8, cells := 0, slots := 0, locals := 181 } : Room) s m args below meth c 0 0 (MQ below (Qw E S R r.1 (some (.int r.2))) args s 0 0 (fun q => E.1 ≤ q)) 33 [(0, .ref (E.1 + a0)), (1, .int x1), (2, .int x2), (3, .int x3), (4, .int x4), (5, .int x5), (6, .int x6)] [] S R I) : ∀ (I : Iw) (a0 : Nat) (x1 : Int32) (x2 : Int32) (x3 : Int32) (x5 : Int32) (x6 : Int32), f_X12_goes_72 S R ko33  I a0 x1 x2 x3 x5 x6 = some r → Wk E 9 p l e ({ frames := 8, cells := 0, slots := 0, locals := 181 } : Room) s m args below meth c 0 0 (MQ below (Qw E S R r.1 (some (.int r.2))) args s 0 0 (fun q => E.1 ≤ q)) 72 [(0, .ref (E.1 + a0)), (1, .int x1), (2, .int x2), (3, .int x3), (5, .int x5), (6, .int x6)] [] S R I := by
  intro I a0 x1 x2 x3 x5 x6 h
  rw [f_X12_goes_72] at h
  refine k_bipush (pc := 72) C (v := (-12 : Int32)) dX12_goes_72 (by decide) ?_
  refine k_goto (pc := 74) C dX12_goes_74 (tgt := 78) (by decide) ?_
  exact b_X12_goes_78 C hr hk hko33 _ _ _ _ _ _ _ _ h
def f_X12_goes_33 (S : Sh) (R : Rw)  : Nat → Iw → Nat → Int32 → Int32 → Int32 → Int32 → Int32 → Int32 → Option (Iw × Int32)
  | 0, _, _, _, _, _, _, _, _ => none
  | n + 1, I, a0, x1, x2, x3, x4, x5, x6 => (if x3 ≤ x6 then f_X12_goes_122 S R  I x4 x5 else (if x4 = 0 then (if (lg_cmp (x2.toInt64 + x6.toInt64) (0 : Int64)) < 0 then f_X12_goes_72 S R (f_X12_goes_33 S R  n) I a0 x1 x2 x3 x5 x6 else gp (sok S a0 12 34) (rl (R a0 26) (fun b18 => gp (aok S 20 b18 x1) ((if (lg_cmp (x2.toInt64 + x6.toInt64) ((I b18 x1.toNatClampNeg).toInt64)) < 0 then f_X12_goes_78 S R (f_X12_goes_33 S R  n) I a0 x1 x2 x3 x5 x6 (0 : Int32) else f_X12_goes_72 S R (f_X12_goes_33 S R  n) I a0 x1 x2 x3 x5 x6))))) else f_X12_goes_122 S R  I x4 x5))
set_option maxHeartbeats 4000000 in
theorem b_X12_goes_33 {E : Ev} {p : Program} {l : Launch} {e : Env} {s : State} {m : MethodId} {args : Array Value} {below : List Frame} {meth : Method} {c : Code} (C : Cx E RX12 cX12_goes 9 p s m c) (hr : meth.sig.returnType = (some .int)) (hk : meth.locks = false) {S : Sh} {R : Rw} {r : Iw × Int32}  : ∀ (n : Nat) (I : Iw) (a0 : Nat) (x1 : Int32) (x2 : Int32) (x3 : Int32) (x4 : Int32) (x5 : Int32) (x6 : Int32), f_X12_goes_33 S R  n I a0 x1 x2 x3 x4 x5 x6 = some r → Wk E 9 p l e ({ frames := 8, cells := 0, slots := 0, locals := 181 } : Room) s m args below meth c 0 0 (MQ below (Qw E S R r.1 (some (.int r.2))) args s 0 0 (fun q => E.1 ≤ q)) 33 [(0, .ref (E.1 + a0)), (1, .int x1), (2, .int x2), (3, .int x3), (4, .int x4), (5, .int x5), (6, .int x6)] [] S R I := by
  intro n
  induction n with
  | zero =>
    intro I a0 x1 x2 x3 x4 x5 x6 h
    rw [f_X12_goes_33] at h
    cases h
  | succ n ih =>
    intro I a0 x1 x2 x3 x4 x5 x6 h
    rw [f_X12_goes_33] at h
    refine k_iload (pc := 33) C dX12_goes_33 6 rfl ?_
    refine k_iloadn (pc := 35) C dX12_goes_35 (i := 3) rfl 3 rfl ?_
    refine k_icmp_ge (pc := 36) C dX12_goes_36 (tgt := 122) (by decide) (fun hc7 => ?_) (fun hc7 => ?_)
    · rw [if_pos hc7] at h
      refine k_loc (L2 := [(4, .int x4), (5, .int x5)]) [4, 5] rfl ?_
      exact b_X12_goes_122 C hr hk  _ _ _ h
    · rw [if_neg hc7] at h
      refine k_iload (pc := 39) C dX12_goes_39 4 rfl ?_
      refine k_if_ne (pc := 41) C dX12_goes_41 (tgt := 122) (by decide) (fun hc9 => ?_) (fun hc9 => ?_)
      · rw [if_neg hc9] at h
        refine k_loc (L2 := [(4, .int x4), (5, .int x5)]) [4, 5] rfl ?_
        exact b_X12_goes_122 C hr hk  _ _ _ h
      · rw [if_pos hc9] at h
        refine k_iloadn (pc := 44) C dX12_goes_44 (i := 2) rfl 2 rfl ?_
        refine k_i2l (pc := 45) C dX12_goes_45 ?_
        refine k_iload (pc := 46) C dX12_goes_46 6 rfl ?_
        refine k_i2l (pc := 48) C dX12_goes_48 ?_
        refine k_ladd (pc := 49) C dX12_goes_49 ?_
        refine k_lstore (pc := 50) C dX12_goes_50 (by decide) (L2 := [(0, .ref (E.1 + a0)), (1, .int x1), (2, .int x2), (3, .int x3), (4, .int x4), (5, .int x5), (6, .int x6), (7, .long (x2.toInt64 + x6.toInt64))]) rfl ?_
        refine k_lload (pc := 52) C dX12_goes_52 7 rfl ?_
        refine k_lconst (pc := 54) C (v := (0 : Int64)) dX12_goes_54 (by decide) ?_
        refine k_lcmp (pc := 55) C dX12_goes_55 ?_
        refine k_if_lt (pc := 56) C dX12_goes_56 (tgt := 72) (by decide) (fun hc10 => ?_) (fun hc10 => ?_)
        · rw [if_pos hc10] at h
          refine k_loc (L2 := [(0, .ref (E.1 + a0)), (1, .int x1), (2, .int x2), (3, .int x3), (5, .int x5), (6, .int x6)]) [0, 1, 2, 3, 5, 6] rfl ?_
          exact b_X12_goes_72 C hr hk ih _ _ _ _ _ _ _ h
        · rw [if_neg hc10] at h
          refine k_lload (pc := 59) C dX12_goes_59 7 rfl ?_
          refine k_aloadn (pc := 61) C dX12_goes_61 (i := 0) rfl 0 rfl ?_
          obtain ⟨hs170, h⟩ := gp_e h
          have hs17 := sok_e hs170
          obtain ⟨b18, hb18, h⟩ := rl_e h
          refine k_getR (pc := 62) C lkF_RX12_83_12 hs17 ir_12_26 hb18 dX12_goes_62 ?_
          refine k_iloadn (pc := 65) C dX12_goes_65 (i := 1) rfl 1 rfl ?_
          obtain ⟨ha19, h⟩ := gp_e h
          refine k_iald (pc := 66) C ha19 dX12_goes_66 ?_
          refine k_i2l (pc := 67) C dX12_goes_67 ?_
          refine k_lcmp (pc := 68) C dX12_goes_68 ?_
          refine k_if_lt (pc := 69) C dX12_goes_69 (tgt := 77) (by decide) (fun hc20 => ?_) (fun hc20 => ?_)
          · rw [if_pos hc20] at h
            refine k_iconst (pc := 77) C (v := (0 : Int32)) dX12_goes_77 (by decide) ?_
            refine k_loc (L2 := [(0, .ref (E.1 + a0)), (1, .int x1), (2, .int x2), (3, .int x3), (5, .int x5), (6, .int x6)]) [0, 1, 2, 3, 5, 6] rfl ?_
            exact b_X12_goes_78 C hr hk ih _ _ _ _ _ _ _ _ h
          · rw [if_neg hc20] at h
            refine k_loc (L2 := [(0, .ref (E.1 + a0)), (1, .int x1), (2, .int x2), (3, .int x3), (5, .int x5), (6, .int x6)]) [0, 1, 2, 3, 5, 6] rfl ?_
            exact b_X12_goes_72 C hr hk ih _ _ _ _ _ _ _ h
def f_X12_goes (S : Sh) (R : Rw)  (I : Iw) (a0 : Nat) (x1 : Int32) (x2 : Int32) (x3 : Int32) : Option (Iw × Int32) := bd (f_X12_isSheet S R I x1) (fun r1 => (if r1 = 0 then some (I, (-1 : Int32)) else bd (f_X12_in S R I x3 (0 : Int32) (20 : Int32)) (fun r3 => (if r3 = 0 then some (I, (-1 : Int32)) else gp (sok S a0 12 34) (bd (f_X12_refuses S R I a0 x1 (0 : Int32)) (fun r6 => f_X12_goes_33 S R  512 I a0 x1 x2 x3 r6 (0 : Int32) (0 : Int32)))))))
set_option maxHeartbeats 4000000 in
theorem b_X12_goes {E : Ev} {p : Program} {l : Launch} {e : Env} {s : State} {m : MethodId} {args : Array Value} {below : List Frame} {meth : Method} {c : Code} (C : Cx E RX12 cX12_goes 9 p s m c) (hr : meth.sig.returnType = (some .int)) (hk : meth.locks = false) {S : Sh} {R : Rw} {r : Iw × Int32}  : ∀ (I : Iw) (a0 : Nat) (x1 : Int32) (x2 : Int32) (x3 : Int32), f_X12_goes S R   I a0 x1 x2 x3 = some r → Wk E 9 p l e ({ frames := 8, cells := 0, slots := 0, locals := 181 } : Room) s m args below meth c 0 0 (MQ below (Qw E S R r.1 (some (.int r.2))) args s 0 0 (fun q => E.1 ≤ q)) 0 [(0, .ref (E.1 + a0)), (1, .int x1), (2, .int x2), (3, .int x3)] [] S R I := by
  intro I a0 x1 x2 x3 h
  rw [f_X12_goes] at h
  refine k_iloadn (pc := 0) C dX12_goes_0 (i := 1) rfl 1 rfl ?_
  obtain ⟨r1, hr1, h⟩ := bd_e h
  refine k_S (pc := 1) (st := []) C (c_X12_isSheet hr1) lkS_RX12_329 rfl rfl (Nat.le_of_ble_eq_true rfl) (Nat.le_of_ble_eq_true rfl) (Nat.le_of_ble_eq_true rfl) (Nat.le_of_ble_eq_true rfl) (Nat.le_of_ble_eq_true rfl) dX12_goes_1 ?_
  refine k_nf (cells2 := 0) (slots2 := 0) (st2 := [.int r1]) rfl rfl rfl ?_
  refine k_if_eq (pc := 4) C dX12_goes_4 (tgt := 17) (by decide) (fun hc2 => ?_) (fun hc2 => ?_)
  · rw [if_pos hc2] at h
    refine k_iconst (pc := 17) C (v := (-1 : Int32)) dX12_goes_17 (by decide) ?_
    have h := Option.some.inj h
    subst h
    exact k_iret (pc := 18) C hr hk dX12_goes_18
  · rw [if_neg hc2] at h
    refine k_iloadn (pc := 7) C dX12_goes_7 (i := 3) rfl 3 rfl ?_
    refine k_iconst (pc := 8) C (v := (0 : Int32)) dX12_goes_8 (by decide) ?_
    refine k_bipush (pc := 9) C (v := (20 : Int32)) dX12_goes_9 (by decide) ?_
    obtain ⟨r3, hr3, h⟩ := bd_e h
    refine k_S (pc := 11) (st := []) C (c_X12_in hr3) lkS_RX12_98 rfl rfl (Nat.le_of_ble_eq_true rfl) (Nat.le_of_ble_eq_true rfl) (Nat.le_of_ble_eq_true rfl) (Nat.le_of_ble_eq_true rfl) (Nat.le_of_ble_eq_true rfl) dX12_goes_11 ?_
    refine k_nf (cells2 := 0) (slots2 := 0) (st2 := [.int r3]) rfl rfl rfl ?_
    refine k_if_ne (pc := 14) C dX12_goes_14 (tgt := 19) (by decide) (fun hc4 => ?_) (fun hc4 => ?_)
    · rw [if_neg hc4] at h
      refine k_aloadn (pc := 19) C dX12_goes_19 (i := 0) rfl 0 rfl ?_
      refine k_iloadn (pc := 20) C dX12_goes_20 (i := 1) rfl 1 rfl ?_
      refine k_iconst (pc := 21) C (v := (0 : Int32)) dX12_goes_21 (by decide) ?_
      obtain ⟨hs50, h⟩ := gp_e h
      have hs5 := sok_e hs50
      obtain ⟨r6, hr6, h⟩ := bd_e h
      refine k_V (pc := 22) (st := []) C (c_X12_refuses hr6) lkV_RX12_332 hs5 rfl rfl rfl (Nat.le_of_ble_eq_true rfl) (Nat.le_of_ble_eq_true rfl) (Nat.le_of_ble_eq_true rfl) (Nat.le_of_ble_eq_true rfl) (Nat.le_of_ble_eq_true rfl) dX12_goes_22 ?_
      refine k_nf (cells2 := 0) (slots2 := 0) (st2 := [.int r6]) rfl rfl rfl ?_
      refine k_istore (pc := 25) C dX12_goes_25 (by decide) (L2 := [(0, .ref (E.1 + a0)), (1, .int x1), (2, .int x2), (3, .int x3), (4, .int r6)]) rfl ?_
      refine k_iconst (pc := 27) C (v := (0 : Int32)) dX12_goes_27 (by decide) ?_
      refine k_istore (pc := 28) C dX12_goes_28 (by decide) (L2 := [(0, .ref (E.1 + a0)), (1, .int x1), (2, .int x2), (3, .int x3), (4, .int r6), (5, .int (0 : Int32))]) rfl ?_
      refine k_iconst (pc := 30) C (v := (0 : Int32)) dX12_goes_30 (by decide) ?_
      refine k_istore (pc := 31) C dX12_goes_31 (by decide) (L2 := [(0, .ref (E.1 + a0)), (1, .int x1), (2, .int x2), (3, .int x3), (4, .int r6), (5, .int (0 : Int32)), (6, .int (0 : Int32))]) rfl ?_
      exact b_X12_goes_33 C hr hk  _ _ _ _ _ _ _ _ _ h
    · rw [if_pos hc4] at h
      refine k_iconst (pc := 17) C (v := (-1 : Int32)) dX12_goes_17 (by decide) ?_
      have h := Option.some.inj h
      subst h
      exact k_iret (pc := 18) C hr hk dX12_goes_18
theorem c_X12_goes {E : Ev} {l : Launch} {S : Sh} {R : Rw} {I : Iw} {a0 : Nat} {x1 : Int32} {x2 : Int32} {x3 : Int32} {r : Iw × Int32} (h : f_X12_goes S R I a0 x1 x2 x3 = some r) : Mt E l yX12_goes cX12_goes 9 (some .int) 8 181 [.ref (E.1 + a0), .int x1, .int x2, .int x3] S R I S R r.1 (some (.int r.2)) 0 0 := mt_of (by decide) (Nat.le_of_ble_eq_true rfl) (fun p e s m args below meth c C hr hk hn => b_X12_goes C hr hk _ _ _ _ _ h)
