/-! X2_findFirst, X5_init, X3_init, X3_take, X3_addToken, X3_byteAt, X3_nameAt -/
theorem lkV_RX2_107 : LkV RX2 107 RX2 yX2_leastNext cX2_leastNext 6 (some .int) 3 := ⟨(t3_in 138 (by decide +kernel) rfl), (t3_in 140 (by decide +kernel) rfl), (t0_in 21 (by decide +kernel) rfl), (t3_in 141 (by decide +kernel) rfl), (t1_in 5 (by decide +kernel) rfl), by decide, by decide +kernel⟩
theorem lkF_RX2_31_2 : LkF RX2 31 2 10 := ⟨RX2, TX2, 11, "UnlikeNeighbours$Orders", fc2, by decide, (t1_in 187 (by decide +kernel) rfl), Or.inl rfl⟩
theorem dX2_findFirst_0 : decode cX2_findFirst 0 = .ok (.iconst 0, 1) := by decide +kernel
theorem dX2_findFirst_1 : decode cX2_findFirst 1 = .ok (.istore_n 2, 1) := by decide +kernel
theorem dX2_findFirst_2 : decode cX2_findFirst 2 = .ok (.aload_n 0, 1) := by decide +kernel
theorem dX2_findFirst_3 : decode cX2_findFirst 3 = .ok (.getfield 34, 3) := by decide +kernel
theorem dX2_findFirst_6 : decode cX2_findFirst 6 = .ok (.getfield 45, 3) := by decide +kernel
theorem dX2_findFirst_9 : decode cX2_findFirst 9 = .ok (.istore_n 3, 1) := by decide +kernel
theorem dX2_findFirst_10 : decode cX2_findFirst 10 = .ok (.aload_n 0, 1) := by decide +kernel
theorem dX2_findFirst_11 : decode cX2_findFirst 11 = .ok (.getfield 34, 3) := by decide +kernel
theorem dX2_findFirst_14 : decode cX2_findFirst 14 = .ok (.invokevirtual 62, 3) := by decide +kernel
theorem dX2_findFirst_17 : decode cX2_findFirst 17 = .ok (.istore 4, 2) := by decide +kernel
theorem dX2_findFirst_19 : decode cX2_findFirst 19 = .ok (.iconst 0, 1) := by decide +kernel
theorem dX2_findFirst_20 : decode cX2_findFirst 20 = .ok (.istore 5, 2) := by decide +kernel
theorem dX2_findFirst_22 : decode cX2_findFirst 22 = .ok (.iload 5, 2) := by decide +kernel
theorem dX2_findFirst_24 : decode cX2_findFirst 24 = .ok (.bipush 9, 2) := by decide +kernel
theorem dX2_findFirst_26 : decode cX2_findFirst 26 = .ok (.if_icmp .ge 50, 3) := by decide +kernel
theorem dX2_findFirst_29 : decode cX2_findFirst 29 = .ok (.aload_n 0, 1) := by decide +kernel
theorem dX2_findFirst_30 : decode cX2_findFirst 30 = .ok (.iload_n 3, 1) := by decide +kernel
theorem dX2_findFirst_31 : decode cX2_findFirst 31 = .ok (.iload 4, 2) := by decide +kernel
theorem dX2_findFirst_33 : decode cX2_findFirst 33 = .ok (.iload_n 1, 1) := by decide +kernel
theorem dX2_findFirst_34 : decode cX2_findFirst 34 = .ok (.invokevirtual 107, 3) := by decide +kernel
theorem dX2_findFirst_37 : decode cX2_findFirst 37 = .ok (.istore 6, 2) := by decide +kernel
theorem dX2_findFirst_39 : decode cX2_findFirst 39 = .ok (.iload 6, 2) := by decide +kernel
theorem dX2_findFirst_41 : decode cX2_findFirst 41 = .ok (.bipush (-3), 2) := by decide +kernel
theorem dX2_findFirst_43 : decode cX2_findFirst 43 = .ok (.if_icmp .ne 5, 3) := by decide +kernel
theorem dX2_findFirst_46 : decode cX2_findFirst 46 = .ok (.iload_n 2, 1) := by decide +kernel
theorem dX2_findFirst_47 : decode cX2_findFirst 47 = .ok (.ireturn, 1) := by decide +kernel
theorem dX2_findFirst_48 : decode cX2_findFirst 48 = .ok (.aload_n 0, 1) := by decide +kernel
theorem dX2_findFirst_49 : decode cX2_findFirst 49 = .ok (.getfield 31, 3) := by decide +kernel
theorem dX2_findFirst_52 : decode cX2_findFirst 52 = .ok (.iload_n 2, 1) := by decide +kernel
theorem dX2_findFirst_53 : decode cX2_findFirst 53 = .ok (.iload 6, 2) := by decide +kernel
theorem dX2_findFirst_55 : decode cX2_findFirst 55 = .ok (.iastore, 1) := by decide +kernel
theorem dX2_findFirst_56 : decode cX2_findFirst 56 = .ok (.iinc 2 1, 3) := by decide +kernel
theorem dX2_findFirst_59 : decode cX2_findFirst 59 = .ok (.iload_n 3, 1) := by decide +kernel
theorem dX2_findFirst_60 : decode cX2_findFirst 60 = .ok (.iload 6, 2) := by decide +kernel
theorem dX2_findFirst_62 : decode cX2_findFirst 62 = .ok (.invokestatic 89, 3) := by decide +kernel
theorem dX2_findFirst_65 : decode cX2_findFirst 65 = .ok (.istore_n 3, 1) := by decide +kernel
theorem dX2_findFirst_66 : decode cX2_findFirst 66 = .ok (.iload 6, 2) := by decide +kernel
theorem dX2_findFirst_68 : decode cX2_findFirst 68 = .ok (.istore 4, 2) := by decide +kernel
theorem dX2_findFirst_70 : decode cX2_findFirst 70 = .ok (.iinc 5 1, 3) := by decide +kernel
theorem dX2_findFirst_73 : decode cX2_findFirst 73 = .ok (.goto (-51), 3) := by decide +kernel
theorem dX2_findFirst_76 : decode cX2_findFirst 76 = .ok (.iload_n 2, 1) := by decide +kernel
theorem dX2_findFirst_77 : decode cX2_findFirst 77 = .ok (.ireturn, 1) := by decide +kernel
def f_X2_findFirst_22 (S : Sh) (R : Rw)  : Nat → Iw → Nat → Int32 → Int32 → Int32 → Int32 → Int32 → Option (Iw × Int32)
  | 0, _, _, _, _, _, _, _ => none
  | n + 1, I, a0, x1, x2, x3, x4, x5 => (if (9 : Int32) ≤ x5 then some (I, x2) else gp (sok S a0 2 11) (bd (f_X2_leastNext S R I a0 x3 x4 x1) (fun r9 => (if r9 = (-3 : Int32) then some (I, x2) else rl (R a0 10) (fun b11 => gp (aok S 20 b11 x2) (lt (up2 I b11 x2.toNatClampNeg r9) (fun I13 => bd (f_X11_without S R I13 x3 r9) (fun r14 => f_X2_findFirst_22 S R  n I13 a0 x1 (x2 + (1 : Int32)) r14 r9 (x5 + (1 : Int32))))))))))
set_option maxHeartbeats 4000000 in
theorem b_X2_findFirst_22 {E : Ev} {p : Program} {l : Launch} {e : Env} {s : State} {m : MethodId} {args : Array Value} {below : List Frame} {meth : Method} {c : Code} (C : Cx E RX2 cX2_findFirst 7 p s m c) (hr : meth.sig.returnType = (some .int)) (hk : meth.locks = false) {S : Sh} {R : Rw} {r : Iw × Int32}  : ∀ (n : Nat) (I : Iw) (a0 : Nat) (x1 : Int32) (x2 : Int32) (x3 : Int32) (x4 : Int32) (x5 : Int32), f_X2_findFirst_22 S R  n I a0 x1 x2 x3 x4 x5 = some r → Wk E 7 p l e ({ frames := 4, cells := 0, slots := 0, locals := 95 } : Room) s m args below meth c 0 0 (MQ below (Qw E S R r.1 (some (.int r.2))) args s 0 0 (fun q => E.1 ≤ q)) 22 [(0, .ref (E.1 + a0)), (1, .int x1), (2, .int x2), (3, .int x3), (4, .int x4), (5, .int x5)] [] S R I := by
  intro n
  induction n with
  | zero =>
    intro I a0 x1 x2 x3 x4 x5 h
    rw [f_X2_findFirst_22] at h
    cases h
  | succ n ih =>
    intro I a0 x1 x2 x3 x4 x5 h
    rw [f_X2_findFirst_22] at h
    refine k_iload (pc := 22) C dX2_findFirst_22 5 rfl ?_
    refine k_bipush (pc := 24) C (v := (9 : Int32)) dX2_findFirst_24 (by decide) ?_
    refine k_icmp_ge (pc := 26) C dX2_findFirst_26 (tgt := 76) (by decide) (fun hc7 => ?_) (fun hc7 => ?_)
    · rw [if_pos hc7] at h
      refine k_iloadn (pc := 76) C dX2_findFirst_76 (i := 2) rfl 2 rfl ?_
      have h := Option.some.inj h
      subst h
      exact k_iret (pc := 77) C hr hk dX2_findFirst_77
    · rw [if_neg hc7] at h
      refine k_aloadn (pc := 29) C dX2_findFirst_29 (i := 0) rfl 0 rfl ?_
      refine k_iloadn (pc := 30) C dX2_findFirst_30 (i := 3) rfl 3 rfl ?_
      refine k_iload (pc := 31) C dX2_findFirst_31 4 rfl ?_
      refine k_iloadn (pc := 33) C dX2_findFirst_33 (i := 1) rfl 1 rfl ?_
      obtain ⟨hs80, h⟩ := gp_e h
      have hs8 := sok_e hs80
      obtain ⟨r9, hr9, h⟩ := bd_e h
      refine k_V (pc := 34) (st := []) C (c_X2_leastNext hr9) lkV_RX2_107 hs8 rfl rfl rfl (Nat.le_of_ble_eq_true rfl) (Nat.le_of_ble_eq_true rfl) (Nat.le_of_ble_eq_true rfl) (Nat.le_of_ble_eq_true rfl) (Nat.le_of_ble_eq_true rfl) dX2_findFirst_34 ?_
      refine k_nf (cells2 := 0) (slots2 := 0) (st2 := [.int r9]) rfl rfl rfl ?_
      refine k_istore (pc := 37) C dX2_findFirst_37 (by decide) (L2 := [(0, .ref (E.1 + a0)), (1, .int x1), (2, .int x2), (3, .int x3), (4, .int x4), (5, .int x5), (6, .int r9)]) rfl ?_
      refine k_iload (pc := 39) C dX2_findFirst_39 6 rfl ?_
      refine k_bipush (pc := 41) C (v := (-3 : Int32)) dX2_findFirst_41 (by decide) ?_
      refine k_icmp_ne (pc := 43) C dX2_findFirst_43 (tgt := 48) (by decide) (fun hc10 => ?_) (fun hc10 => ?_)
      · rw [if_neg hc10] at h
        refine k_aloadn (pc := 48) C dX2_findFirst_48 (i := 0) rfl 0 rfl ?_
        obtain ⟨b11, hb11, h⟩ := rl_e h
        refine k_getR (pc := 49) C lkF_RX2_31_2 hs8 ir_2_10 hb11 dX2_findFirst_49 ?_
        refine k_iloadn (pc := 52) C dX2_findFirst_52 (i := 2) rfl 2 rfl ?_
        refine k_iload (pc := 53) C dX2_findFirst_53 6 rfl ?_
        obtain ⟨ha12, h⟩ := gp_e h
        obtain ⟨I13, eI13, h⟩ := lt_e h
        refine k_iast (pc := 55) C ha12 dX2_findFirst_55 ?_
        rw [← eI13]
        refine k_iinc (pc := 56) C dX2_findFirst_56 2 rfl (v := x2 + (1 : Int32)) (by rfl) (by decide) (L2 := [(0, .ref (E.1 + a0)), (1, .int x1), (2, .int (x2 + (1 : Int32))), (3, .int x3), (4, .int x4), (5, .int x5), (6, .int r9)]) rfl ?_
        refine k_iloadn (pc := 59) C dX2_findFirst_59 (i := 3) rfl 3 rfl ?_
        refine k_iload (pc := 60) C dX2_findFirst_60 6 rfl ?_
        obtain ⟨r14, hr14, h⟩ := bd_e h
        refine k_SN (pc := 62) (st := []) C (c_X11_without hr14) lkSN_RX2_89 rfl rfl (Nat.le_of_ble_eq_true rfl) (Nat.le_of_ble_eq_true rfl) (Nat.le_of_ble_eq_true rfl) (Nat.le_of_ble_eq_true rfl) (Nat.le_of_ble_eq_true rfl) dX2_findFirst_62 ?_
        refine k_nf (cells2 := 0) (slots2 := 0) (st2 := [.int r14]) rfl rfl rfl ?_
        refine k_istoren (pc := 65) C dX2_findFirst_65 (i := 3) rfl (by decide) (L2 := [(0, .ref (E.1 + a0)), (1, .int x1), (2, .int (x2 + (1 : Int32))), (3, .int r14), (4, .int x4), (5, .int x5), (6, .int r9)]) rfl ?_
        refine k_iload (pc := 66) C dX2_findFirst_66 6 rfl ?_
        refine k_istore (pc := 68) C dX2_findFirst_68 (by decide) (L2 := [(0, .ref (E.1 + a0)), (1, .int x1), (2, .int (x2 + (1 : Int32))), (3, .int r14), (4, .int r9), (5, .int x5), (6, .int r9)]) rfl ?_
        refine k_iinc (pc := 70) C dX2_findFirst_70 5 rfl (v := x5 + (1 : Int32)) (by rfl) (by decide) (L2 := [(0, .ref (E.1 + a0)), (1, .int x1), (2, .int (x2 + (1 : Int32))), (3, .int r14), (4, .int r9), (5, .int (x5 + (1 : Int32))), (6, .int r9)]) rfl ?_
        refine k_goto (pc := 73) C dX2_findFirst_73 (tgt := 22) (by decide) ?_
        refine k_loc (L2 := [(0, .ref (E.1 + a0)), (1, .int x1), (2, .int (x2 + (1 : Int32))), (3, .int r14), (4, .int r9), (5, .int (x5 + (1 : Int32)))]) [0, 1, 2, 3, 4, 5] rfl ?_
        exact ih _ _ _ _ _ _ _ h
      · rw [if_pos hc10] at h
        refine k_iloadn (pc := 46) C dX2_findFirst_46 (i := 2) rfl 2 rfl ?_
        have h := Option.some.inj h
        subst h
        exact k_iret (pc := 47) C hr hk dX2_findFirst_47
def f_X2_findFirst (S : Sh) (R : Rw)  (I : Iw) (a0 : Nat) (x1 : Int32) : Option (Iw × Int32) := gp (sok S a0 2 11) (rl (R a0 0) (fun b2 => gp (sok S b2 7 16) (rl (R a0 0) (fun b4 => gp (sok S b4 7 16) (bd (f_X7_last S R I b4) (fun r6 => f_X2_findFirst_22 S R  512 I a0 x1 (0 : Int32) (I b2 6) r6 (0 : Int32)))))))
set_option maxHeartbeats 4000000 in
theorem b_X2_findFirst {E : Ev} {p : Program} {l : Launch} {e : Env} {s : State} {m : MethodId} {args : Array Value} {below : List Frame} {meth : Method} {c : Code} (C : Cx E RX2 cX2_findFirst 7 p s m c) (hr : meth.sig.returnType = (some .int)) (hk : meth.locks = false) {S : Sh} {R : Rw} {r : Iw × Int32}  : ∀ (I : Iw) (a0 : Nat) (x1 : Int32), f_X2_findFirst S R   I a0 x1 = some r → Wk E 7 p l e ({ frames := 4, cells := 0, slots := 0, locals := 95 } : Room) s m args below meth c 0 0 (MQ below (Qw E S R r.1 (some (.int r.2))) args s 0 0 (fun q => E.1 ≤ q)) 0 [(0, .ref (E.1 + a0)), (1, .int x1)] [] S R I := by
  intro I a0 x1 h
  rw [f_X2_findFirst] at h
  refine k_iconst (pc := 0) C (v := (0 : Int32)) dX2_findFirst_0 (by decide) ?_
  refine k_istoren (pc := 1) C dX2_findFirst_1 (i := 2) rfl (by decide) (L2 := [(0, .ref (E.1 + a0)), (1, .int x1), (2, .int (0 : Int32))]) rfl ?_
  refine k_aloadn (pc := 2) C dX2_findFirst_2 (i := 0) rfl 0 rfl ?_
  obtain ⟨hs10, h⟩ := gp_e h
  have hs1 := sok_e hs10
  obtain ⟨b2, hb2, h⟩ := rl_e h
  refine k_getR (pc := 3) C lkF_RX2_34_2 hs1 ir_2_0 hb2 dX2_findFirst_3 ?_
  obtain ⟨hs30, h⟩ := gp_e h
  have hs3 := sok_e hs30
  refine k_getI (pc := 6) C lkF_RX2_45_7 hs3 ir_7_6 dX2_findFirst_6 ?_
  refine k_istoren (pc := 9) C dX2_findFirst_9 (i := 3) rfl (by decide) (L2 := [(0, .ref (E.1 + a0)), (1, .int x1), (2, .int (0 : Int32)), (3, .int (I b2 6))]) rfl ?_
  refine k_aloadn (pc := 10) C dX2_findFirst_10 (i := 0) rfl 0 rfl ?_
  obtain ⟨b4, hb4, h⟩ := rl_e h
  refine k_getR (pc := 11) C lkF_RX2_34_2 hs1 ir_2_0 hb4 dX2_findFirst_11 ?_
  obtain ⟨hs50, h⟩ := gp_e h
  have hs5 := sok_e hs50
  obtain ⟨r6, hr6, h⟩ := bd_e h
  refine k_V (pc := 14) (st := []) C (c_X7_last hr6) lkV_RX2_62 hs5 rfl rfl rfl (Nat.le_of_ble_eq_true rfl) (Nat.le_of_ble_eq_true rfl) (Nat.le_of_ble_eq_true rfl) (Nat.le_of_ble_eq_true rfl) (Nat.le_of_ble_eq_true rfl) dX2_findFirst_14 ?_
  refine k_nf (cells2 := 0) (slots2 := 0) (st2 := [.int r6]) rfl rfl rfl ?_
  refine k_istore (pc := 17) C dX2_findFirst_17 (by decide) (L2 := [(0, .ref (E.1 + a0)), (1, .int x1), (2, .int (0 : Int32)), (3, .int (I b2 6)), (4, .int r6)]) rfl ?_
  refine k_iconst (pc := 19) C (v := (0 : Int32)) dX2_findFirst_19 (by decide) ?_
  refine k_istore (pc := 20) C dX2_findFirst_20 (by decide) (L2 := [(0, .ref (E.1 + a0)), (1, .int x1), (2, .int (0 : Int32)), (3, .int (I b2 6)), (4, .int r6), (5, .int (0 : Int32))]) rfl ?_
  exact b_X2_findFirst_22 C hr hk  _ _ _ _ _ _ _ _ h
theorem c_X2_findFirst {E : Ev} {l : Launch} {S : Sh} {R : Rw} {I : Iw} {a0 : Nat} {x1 : Int32} {r : Iw × Int32} (h : f_X2_findFirst S R I a0 x1 = some r) : Mt E l yX2_findFirst cX2_findFirst 7 (some .int) 4 95 [.ref (E.1 + a0), .int x1] S R I S R r.1 (some (.int r.2)) 0 0 := mt_of (by decide) (Nat.le_of_ble_eq_true rfl) (fun p e s m args below meth c C hr hk hn => b_X2_findFirst C hr hk _ _ _ h)
theorem lkQ_RX5_9_5 : LkQ RX5 9 5 1 (.array .int) := ⟨RX5, TX5, 8, "UnlikeNeighbours$Rules", fc5, by decide, (t1_in 44 (by decide +kernel) rfl), Or.inl rfl, rfl, rfl, by decide +kernel⟩
theorem lkQ_RX5_15_5 : LkQ RX5 15 5 2 (.array .int) := ⟨RX5, TX5, 8, "UnlikeNeighbours$Rules", fc5, by decide, (t1_in 45 (by decide +kernel) rfl), Or.inl rfl, rfl, rfl, by decide +kernel⟩
theorem lkQ_RX5_18_5 : LkQ RX5 18 5 3 (.array .int) := ⟨RX5, TX5, 8, "UnlikeNeighbours$Rules", fc5, by decide, (t1_in 46 (by decide +kernel) rfl), Or.inl rfl, rfl, rfl, by decide +kernel⟩
theorem lkQ_RX5_21_5 : LkQ RX5 21 5 5 (.array .int) := ⟨RX5, TX5, 8, "UnlikeNeighbours$Rules", fc5, by decide, (t1_in 48 (by decide +kernel) rfl), Or.inl rfl, rfl, rfl, by decide +kernel⟩
theorem lkQ_RX5_24_5 : LkQ RX5 24 5 6 (.array .int) := ⟨RX5, TX5, 8, "UnlikeNeighbours$Rules", fc5, by decide, (t1_in 49 (by decide +kernel) rfl), Or.inl rfl, rfl, rfl, by decide +kernel⟩
theorem lkQ_RX5_27_5 : LkQ RX5 27 5 7 (.array .int) := ⟨RX5, TX5, 8, "UnlikeNeighbours$Rules", fc5, by decide, (t1_in 50 (by decide +kernel) rfl), Or.inl rfl, rfl, rfl, by decide +kernel⟩
theorem dX5_init_0 : decode cX5_init 0 = .ok (.aload_n 0, 1) := by decide +kernel
theorem dX5_init_1 : decode cX5_init 1 = .ok (.invokespecial 3, 3) := by decide +kernel
theorem dX5_init_4 : decode cX5_init 4 = .ok (.aload_n 0, 1) := by decide +kernel
theorem dX5_init_5 : decode cX5_init 5 = .ok (.bipush 8, 2) := by decide +kernel
theorem dX5_init_7 : decode cX5_init 7 = .ok (.newarray .int, 2) := by decide +kernel
theorem dX5_init_9 : decode cX5_init 9 = .ok (.putfield 9, 3) := by decide +kernel
theorem dX5_init_12 : decode cX5_init 12 = .ok (.aload_n 0, 1) := by decide +kernel
theorem dX5_init_13 : decode cX5_init 13 = .ok (.bipush 8, 2) := by decide +kernel
theorem dX5_init_15 : decode cX5_init 15 = .ok (.newarray .int, 2) := by decide +kernel
theorem dX5_init_17 : decode cX5_init 17 = .ok (.putfield 15, 3) := by decide +kernel
theorem dX5_init_20 : decode cX5_init 20 = .ok (.aload_n 0, 1) := by decide +kernel
theorem dX5_init_21 : decode cX5_init 21 = .ok (.bipush 8, 2) := by decide +kernel
theorem dX5_init_23 : decode cX5_init 23 = .ok (.newarray .int, 2) := by decide +kernel
theorem dX5_init_25 : decode cX5_init 25 = .ok (.putfield 18, 3) := by decide +kernel
theorem dX5_init_28 : decode cX5_init 28 = .ok (.aload_n 0, 1) := by decide +kernel
theorem dX5_init_29 : decode cX5_init 29 = .ok (.sipush 128, 3) := by decide +kernel
theorem dX5_init_32 : decode cX5_init 32 = .ok (.newarray .int, 2) := by decide +kernel
theorem dX5_init_34 : decode cX5_init 34 = .ok (.putfield 21, 3) := by decide +kernel
theorem dX5_init_37 : decode cX5_init 37 = .ok (.aload_n 0, 1) := by decide +kernel
theorem dX5_init_38 : decode cX5_init 38 = .ok (.sipush 128, 3) := by decide +kernel
theorem dX5_init_41 : decode cX5_init 41 = .ok (.newarray .int, 2) := by decide +kernel
theorem dX5_init_43 : decode cX5_init 43 = .ok (.putfield 24, 3) := by decide +kernel
theorem dX5_init_46 : decode cX5_init 46 = .ok (.aload_n 0, 1) := by decide +kernel
theorem dX5_init_47 : decode cX5_init 47 = .ok (.sipush 128, 3) := by decide +kernel
theorem dX5_init_50 : decode cX5_init 50 = .ok (.newarray .int, 2) := by decide +kernel
theorem dX5_init_52 : decode cX5_init 52 = .ok (.putfield 27, 3) := by decide +kernel
theorem dX5_init_55 : decode cX5_init 55 = .ok (.return_, 1) := by decide +kernel
def f_X5_init   (S : Sh) (R : Rw) (I : Iw) (a0 : Nat) : Option ((Sh × Rw × Iw)) := lt S.length (fun q1 => lt (S ++ [(20, 8)]) (fun S2 => lt (setA R q1 (fun _ => none)) (fun R3 => lt (setA I q1 (fun _ => 0)) (fun I4 => gp (sok S2 a0 5 8) (lt (up2 R3 a0 1 (some (.inl q1))) (fun R7 => lt S2.length (fun q8 => lt (S2 ++ [(20, 8)]) (fun S9 => lt (setA R7 q8 (fun _ => none)) (fun R10 => lt (setA I4 q8 (fun _ => 0)) (fun I11 => gp (sok S9 a0 5 8) (lt (up2 R10 a0 2 (some (.inl q8))) (fun R14 => lt S9.length (fun q15 => lt (S9 ++ [(20, 8)]) (fun S16 => lt (setA R14 q15 (fun _ => none)) (fun R17 => lt (setA I11 q15 (fun _ => 0)) (fun I18 => gp (sok S16 a0 5 8) (lt (up2 R17 a0 3 (some (.inl q15))) (fun R21 => lt S16.length (fun q22 => lt (S16 ++ [(20, 128)]) (fun S23 => lt (setA R21 q22 (fun _ => none)) (fun R24 => lt (setA I18 q22 (fun _ => 0)) (fun I25 => gp (sok S23 a0 5 8) (lt (up2 R24 a0 5 (some (.inl q22))) (fun R28 => lt S23.length (fun q29 => lt (S23 ++ [(20, 128)]) (fun S30 => lt (setA R28 q29 (fun _ => none)) (fun R31 => lt (setA I25 q29 (fun _ => 0)) (fun I32 => gp (sok S30 a0 5 8) (lt (up2 R31 a0 6 (some (.inl q29))) (fun R35 => lt S30.length (fun q36 => lt (S30 ++ [(20, 128)]) (fun S37 => lt (setA R35 q36 (fun _ => none)) (fun R38 => lt (setA I32 q36 (fun _ => 0)) (fun I39 => gp (sok S37 a0 5 8) (lt (up2 R38 a0 7 (some (.inl q36))) (fun R42 => some (S37, R42, I39)))))))))))))))))))))))))))))))))))))
set_option maxHeartbeats 4000000 in
theorem b_X5_init {E : Ev} {p : Program} {l : Launch} {e : Env} {s : State} {m : MethodId} {args : Array Value} {below : List Frame} {meth : Method} {c : Code} (C : Cx E RX5 cX5_init 1 p s m c) (hr : meth.sig.returnType = none) (hk : meth.locks = false) (hin : meth.name = "<init>") {r : (Sh × Rw × Iw)}  : ∀ (S : Sh) (R : Rw) (I : Iw) (a0 : Nat), f_X5_init    S R I a0 = some r → Wk E 1 p l e ({ frames := 1, cells := 6, slots := 408, locals := 20 } : Room) s m args below meth c 0 0 (MQ below (Qw E r.1 r.2.1 r.2.2 none) args s 6 408 (fun q => E.1 ≤ q)) 0 [(0, .ref (E.1 + a0))] [] S R I := by
  intro S R I a0 h
  rw [f_X5_init] at h
  refine k_aloadn (pc := 0) C dX5_init_0 (i := 0) rfl 0 rfl ?_
  refine k_objInit (pc := 1) C (t1_in 40 (by decide +kernel) rfl) (t1_in 27 (by decide +kernel) rfl) (t1_in 28 (by decide +kernel) rfl) (Nat.le_of_ble_eq_true rfl) (Nat.le_of_ble_eq_true rfl) (Nat.le_of_ble_eq_true rfl) dX5_init_1 ?_
  refine k_aloadn (pc := 4) C dX5_init_4 (i := 0) rfl 0 rfl ?_
  refine k_bipush (pc := 5) C (v := (8 : Int32)) dX5_init_5 (by decide) ?_
  obtain ⟨q1, eq1, h⟩ := lt_e h
  obtain ⟨S2, eS2, h⟩ := lt_e h
  obtain ⟨R3, eR3, h⟩ := lt_e h
  obtain ⟨I4, eI4, h⟩ := lt_e h
  refine k_newa (pc := 7) C (t := 20) (N := 8) rfl (by decide) (t1_in 68 (by decide +kernel) rfl) (by decide) (by decide) (by decide) (Nat.le_of_ble_eq_true rfl) (Nat.le_of_ble_eq_true rfl) dX5_init_7 ?_
  rw [← eq1, ← eS2, ← eR3, ← eI4]
  refine k_nf (cells2 := 1) (slots2 := 8) (st2 := [.ref (E.1 + q1), .ref (E.1 + a0)]) rfl rfl rfl ?_
  obtain ⟨hs60, h⟩ := gp_e h
  have hs6 := sok_e hs60
  obtain ⟨R7, eR7, h⟩ := lt_e h
  refine k_putFR (pc := 9) C hin lkQ_RX5_9_5 hs6 ir_5_1 (fun _ => ⟨rfl, rfl⟩) dX5_init_9 ?_
  rw [← eR7]
  refine k_aloadn (pc := 12) C dX5_init_12 (i := 0) rfl 0 rfl ?_
  refine k_bipush (pc := 13) C (v := (8 : Int32)) dX5_init_13 (by decide) ?_
  obtain ⟨q8, eq8, h⟩ := lt_e h
  obtain ⟨S9, eS9, h⟩ := lt_e h
  obtain ⟨R10, eR10, h⟩ := lt_e h
  obtain ⟨I11, eI11, h⟩ := lt_e h
  refine k_newa (pc := 15) C (t := 20) (N := 8) rfl (by decide) (t1_in 68 (by decide +kernel) rfl) (by decide) (by decide) (by decide) (Nat.le_of_ble_eq_true rfl) (Nat.le_of_ble_eq_true rfl) dX5_init_15 ?_
  rw [← eq8, ← eS9, ← eR10, ← eI11]
  refine k_nf (cells2 := 2) (slots2 := 16) (st2 := [.ref (E.1 + q8), .ref (E.1 + a0)]) rfl rfl rfl ?_
  obtain ⟨hs130, h⟩ := gp_e h
  have hs13 := sok_e hs130
  obtain ⟨R14, eR14, h⟩ := lt_e h
  refine k_putFR (pc := 17) C hin lkQ_RX5_15_5 hs13 ir_5_2 (fun _ => ⟨rfl, rfl⟩) dX5_init_17 ?_
  rw [← eR14]
  refine k_aloadn (pc := 20) C dX5_init_20 (i := 0) rfl 0 rfl ?_
  refine k_bipush (pc := 21) C (v := (8 : Int32)) dX5_init_21 (by decide) ?_
  obtain ⟨q15, eq15, h⟩ := lt_e h
  obtain ⟨S16, eS16, h⟩ := lt_e h
  obtain ⟨R17, eR17, h⟩ := lt_e h
  obtain ⟨I18, eI18, h⟩ := lt_e h
  refine k_newa (pc := 23) C (t := 20) (N := 8) rfl (by decide) (t1_in 68 (by decide +kernel) rfl) (by decide) (by decide) (by decide) (Nat.le_of_ble_eq_true rfl) (Nat.le_of_ble_eq_true rfl) dX5_init_23 ?_
  rw [← eq15, ← eS16, ← eR17, ← eI18]
  refine k_nf (cells2 := 3) (slots2 := 24) (st2 := [.ref (E.1 + q15), .ref (E.1 + a0)]) rfl rfl rfl ?_
  obtain ⟨hs200, h⟩ := gp_e h
  have hs20 := sok_e hs200
  obtain ⟨R21, eR21, h⟩ := lt_e h
  refine k_putFR (pc := 25) C hin lkQ_RX5_18_5 hs20 ir_5_3 (fun _ => ⟨rfl, rfl⟩) dX5_init_25 ?_
  rw [← eR21]
  refine k_aloadn (pc := 28) C dX5_init_28 (i := 0) rfl 0 rfl ?_
  refine k_sipush (pc := 29) C (v := (128 : Int32)) dX5_init_29 (by decide) ?_
  obtain ⟨q22, eq22, h⟩ := lt_e h
  obtain ⟨S23, eS23, h⟩ := lt_e h
  obtain ⟨R24, eR24, h⟩ := lt_e h
  obtain ⟨I25, eI25, h⟩ := lt_e h
  refine k_newa (pc := 32) C (t := 20) (N := 128) rfl (by decide) (t1_in 68 (by decide +kernel) rfl) (by decide) (by decide) (by decide) (Nat.le_of_ble_eq_true rfl) (Nat.le_of_ble_eq_true rfl) dX5_init_32 ?_
  rw [← eq22, ← eS23, ← eR24, ← eI25]
  refine k_nf (cells2 := 4) (slots2 := 152) (st2 := [.ref (E.1 + q22), .ref (E.1 + a0)]) rfl rfl rfl ?_
  obtain ⟨hs270, h⟩ := gp_e h
  have hs27 := sok_e hs270
  obtain ⟨R28, eR28, h⟩ := lt_e h
  refine k_putFR (pc := 34) C hin lkQ_RX5_21_5 hs27 ir_5_5 (fun _ => ⟨rfl, rfl⟩) dX5_init_34 ?_
  rw [← eR28]
  refine k_aloadn (pc := 37) C dX5_init_37 (i := 0) rfl 0 rfl ?_
  refine k_sipush (pc := 38) C (v := (128 : Int32)) dX5_init_38 (by decide) ?_
  obtain ⟨q29, eq29, h⟩ := lt_e h
  obtain ⟨S30, eS30, h⟩ := lt_e h
  obtain ⟨R31, eR31, h⟩ := lt_e h
  obtain ⟨I32, eI32, h⟩ := lt_e h
  refine k_newa (pc := 41) C (t := 20) (N := 128) rfl (by decide) (t1_in 68 (by decide +kernel) rfl) (by decide) (by decide) (by decide) (Nat.le_of_ble_eq_true rfl) (Nat.le_of_ble_eq_true rfl) dX5_init_41 ?_
  rw [← eq29, ← eS30, ← eR31, ← eI32]
  refine k_nf (cells2 := 5) (slots2 := 280) (st2 := [.ref (E.1 + q29), .ref (E.1 + a0)]) rfl rfl rfl ?_
  obtain ⟨hs340, h⟩ := gp_e h
  have hs34 := sok_e hs340
  obtain ⟨R35, eR35, h⟩ := lt_e h
  refine k_putFR (pc := 43) C hin lkQ_RX5_24_5 hs34 ir_5_6 (fun _ => ⟨rfl, rfl⟩) dX5_init_43 ?_
  rw [← eR35]
  refine k_aloadn (pc := 46) C dX5_init_46 (i := 0) rfl 0 rfl ?_
  refine k_sipush (pc := 47) C (v := (128 : Int32)) dX5_init_47 (by decide) ?_
  obtain ⟨q36, eq36, h⟩ := lt_e h
  obtain ⟨S37, eS37, h⟩ := lt_e h
  obtain ⟨R38, eR38, h⟩ := lt_e h
  obtain ⟨I39, eI39, h⟩ := lt_e h
  refine k_newa (pc := 50) C (t := 20) (N := 128) rfl (by decide) (t1_in 68 (by decide +kernel) rfl) (by decide) (by decide) (by decide) (Nat.le_of_ble_eq_true rfl) (Nat.le_of_ble_eq_true rfl) dX5_init_50 ?_
  rw [← eq36, ← eS37, ← eR38, ← eI39]
  refine k_nf (cells2 := 6) (slots2 := 408) (st2 := [.ref (E.1 + q36), .ref (E.1 + a0)]) rfl rfl rfl ?_
  obtain ⟨hs410, h⟩ := gp_e h
  have hs41 := sok_e hs410
  obtain ⟨R42, eR42, h⟩ := lt_e h
  refine k_putFR (pc := 52) C hin lkQ_RX5_27_5 hs41 ir_5_7 (fun _ => ⟨rfl, rfl⟩) dX5_init_52 ?_
  rw [← eR42]
  have h := Option.some.inj h
  subst h
  exact k_vret (pc := 55) C hr hk dX5_init_55
theorem c_X5_init {E : Ev} {l : Launch} {S : Sh} {R : Rw} {I : Iw} {a0 : Nat} {r : (Sh × Rw × Iw)} (h : f_X5_init S R I a0 = some r) : Mt E l yX5_init cX5_init 1 none 1 20 [.ref (E.1 + a0)] S R I r.1 r.2.1 r.2.2 none 6 408 := mt_of (by decide) (Nat.le_of_ble_eq_true rfl) (fun p e s m args below meth c C hr hk hn => b_X5_init C hr hk hn _ _ _ _ h)
theorem lkQ_RX3_9_3 : LkQ RX3 9 3 1 (.array .byte) := ⟨RX3, TX3, 7, "UnlikeNeighbours$Reader", fc3, by decide, (t1_in 148 (by decide +kernel) rfl), Or.inl rfl, rfl, rfl, by decide +kernel⟩
theorem lkQ_RX3_15_3 : LkQ RX3 15 3 2 (.array .int) := ⟨RX3, TX3, 7, "UnlikeNeighbours$Reader", fc3, by decide, (t1_in 149 (by decide +kernel) rfl), Or.inl rfl, rfl, rfl, by decide +kernel⟩
theorem lkQ_RX3_19_3 : LkQ RX3 19 3 3 (.array .int) := ⟨RX3, TX3, 7, "UnlikeNeighbours$Reader", fc3, by decide, (t1_in 150 (by decide +kernel) rfl), Or.inl rfl, rfl, rfl, by decide +kernel⟩
theorem lkN_RX3_22 : LkN RX3 22 5 8 := ⟨RX5, TX5, fc5, ⟨tyX5, tyX5_ok, by decide +kernel⟩, (t1_in 144 (by decide +kernel) rfl), (t1_in 36 (by decide +kernel) rfl), (t1_in 3 (by decide +kernel) rfl)⟩
theorem lkIN_RX3_24 : LkIN RX3 24 yX5_init "UnlikeNeighbours" cX5_init 1 0 := ⟨l1_in 145 (by decide +kernel), (t1_in 38 (by decide +kernel) rfl), (t1_in 39 (by decide +kernel) rfl), (t1_in 3 (by decide +kernel) rfl), rfl, by decide, by decide +kernel⟩
theorem lkQ_RX3_25_3 : LkQ RX3 25 3 6 (.object "UnlikeNeighbours$Rules") := ⟨RX3, TX3, 7, "UnlikeNeighbours$Reader", fc3, by decide, (t1_in 153 (by decide +kernel) rfl), Or.inl rfl, rfl, rfl, by decide +kernel⟩
theorem dX3_init_0 : decode cX3_init 0 = .ok (.aload_n 0, 1) := by decide +kernel
theorem dX3_init_1 : decode cX3_init 1 = .ok (.invokespecial 3, 3) := by decide +kernel
theorem dX3_init_4 : decode cX3_init 4 = .ok (.aload_n 0, 1) := by decide +kernel
theorem dX3_init_5 : decode cX3_init 5 = .ok (.sipush 200, 3) := by decide +kernel
theorem dX3_init_8 : decode cX3_init 8 = .ok (.newarray .byte, 2) := by decide +kernel
theorem dX3_init_10 : decode cX3_init 10 = .ok (.putfield 9, 3) := by decide +kernel
theorem dX3_init_13 : decode cX3_init 13 = .ok (.aload_n 0, 1) := by decide +kernel
theorem dX3_init_14 : decode cX3_init 14 = .ok (.sipush 201, 3) := by decide +kernel
theorem dX3_init_17 : decode cX3_init 17 = .ok (.newarray .int, 2) := by decide +kernel
theorem dX3_init_19 : decode cX3_init 19 = .ok (.putfield 15, 3) := by decide +kernel
theorem dX3_init_22 : decode cX3_init 22 = .ok (.aload_n 0, 1) := by decide +kernel
theorem dX3_init_23 : decode cX3_init 23 = .ok (.sipush 201, 3) := by decide +kernel
theorem dX3_init_26 : decode cX3_init 26 = .ok (.newarray .int, 2) := by decide +kernel
theorem dX3_init_28 : decode cX3_init 28 = .ok (.putfield 19, 3) := by decide +kernel
theorem dX3_init_31 : decode cX3_init 31 = .ok (.aload_n 0, 1) := by decide +kernel
theorem dX3_init_32 : decode cX3_init 32 = .ok (.new 22, 3) := by decide +kernel
theorem dX3_init_35 : decode cX3_init 35 = .ok (.dup, 1) := by decide +kernel
theorem dX3_init_36 : decode cX3_init 36 = .ok (.invokespecial 24, 3) := by decide +kernel
theorem dX3_init_39 : decode cX3_init 39 = .ok (.putfield 25, 3) := by decide +kernel
theorem dX3_init_42 : decode cX3_init 42 = .ok (.return_, 1) := by decide +kernel
def f_X3_init   (S : Sh) (R : Rw) (I : Iw) (a0 : Nat) : Option ((Sh × Rw × Iw)) := lt S.length (fun q1 => lt (S ++ [(21, 200)]) (fun S2 => lt (setA R q1 (fun _ => none)) (fun R3 => lt (setA I q1 (fun _ => 0)) (fun I4 => gp (sok S2 a0 3 7) (lt (up2 R3 a0 1 (some (.inl q1))) (fun R7 => lt S2.length (fun q8 => lt (S2 ++ [(20, 201)]) (fun S9 => lt (setA R7 q8 (fun _ => none)) (fun R10 => lt (setA I4 q8 (fun _ => 0)) (fun I11 => gp (sok S9 a0 3 7) (lt (up2 R10 a0 2 (some (.inl q8))) (fun R14 => lt S9.length (fun q15 => lt (S9 ++ [(20, 201)]) (fun S16 => lt (setA R14 q15 (fun _ => none)) (fun R17 => lt (setA I11 q15 (fun _ => 0)) (fun I18 => gp (sok S16 a0 3 7) (lt (up2 R17 a0 3 (some (.inl q15))) (fun R21 => lt S16.length (fun q22 => lt (S16 ++ [(5, 8)]) (fun S23 => lt (setA R21 q22 (fun _ => none)) (fun R24 => lt (setA I18 q22 (fun _ => 0)) (fun I25 => bd (f_X5_init S23 R24 I25 q22) (fun r27 => gp (sok r27.1 a0 3 7) (lt (up2 r27.2.1 a0 6 (some (.inl q22))) (fun R29 => some (r27.1, R29, r27.2.2))))))))))))))))))))))))))
set_option maxHeartbeats 4000000 in
theorem b_X3_init {E : Ev} {p : Program} {l : Launch} {e : Env} {s : State} {m : MethodId} {args : Array Value} {below : List Frame} {meth : Method} {c : Code} (C : Cx E RX3 cX3_init 1 p s m c) (hr : meth.sig.returnType = none) (hk : meth.locks = false) (hin : meth.name = "<init>") {r : (Sh × Rw × Iw)}  : ∀ (S : Sh) (R : Rw) (I : Iw) (a0 : Nat), f_X3_init    S R I a0 = some r → Wk E 1 p l e ({ frames := 2, cells := 10, slots := 1018, locals := 40 } : Room) s m args below meth c 0 0 (MQ below (Qw E r.1 r.2.1 r.2.2 none) args s 10 1018 (fun q => E.1 ≤ q)) 0 [(0, .ref (E.1 + a0))] [] S R I := by
  intro S R I a0 h
  rw [f_X3_init] at h
  refine k_aloadn (pc := 0) C dX3_init_0 (i := 0) rfl 0 rfl ?_
  refine k_objInit (pc := 1) C (t1_in 143 (by decide +kernel) rfl) (t1_in 27 (by decide +kernel) rfl) (t1_in 28 (by decide +kernel) rfl) (Nat.le_of_ble_eq_true rfl) (Nat.le_of_ble_eq_true rfl) (Nat.le_of_ble_eq_true rfl) dX3_init_1 ?_
  refine k_aloadn (pc := 4) C dX3_init_4 (i := 0) rfl 0 rfl ?_
  refine k_sipush (pc := 5) C (v := (200 : Int32)) dX3_init_5 (by decide) ?_
  obtain ⟨q1, eq1, h⟩ := lt_e h
  obtain ⟨S2, eS2, h⟩ := lt_e h
  obtain ⟨R3, eR3, h⟩ := lt_e h
  obtain ⟨I4, eI4, h⟩ := lt_e h
  refine k_newa (pc := 8) C (t := 21) (N := 200) rfl (by decide) (t1_in 169 (by decide +kernel) rfl) (by decide) (by decide) (by decide) (Nat.le_of_ble_eq_true rfl) (Nat.le_of_ble_eq_true rfl) dX3_init_8 ?_
  rw [← eq1, ← eS2, ← eR3, ← eI4]
  refine k_nf (cells2 := 1) (slots2 := 200) (st2 := [.ref (E.1 + q1), .ref (E.1 + a0)]) rfl rfl rfl ?_
  obtain ⟨hs60, h⟩ := gp_e h
  have hs6 := sok_e hs60
  obtain ⟨R7, eR7, h⟩ := lt_e h
  refine k_putFR (pc := 10) C hin lkQ_RX3_9_3 hs6 ir_3_1 (fun _ => ⟨rfl, rfl⟩) dX3_init_10 ?_
  rw [← eR7]
  refine k_aloadn (pc := 13) C dX3_init_13 (i := 0) rfl 0 rfl ?_
  refine k_sipush (pc := 14) C (v := (201 : Int32)) dX3_init_14 (by decide) ?_
  obtain ⟨q8, eq8, h⟩ := lt_e h
  obtain ⟨S9, eS9, h⟩ := lt_e h
  obtain ⟨R10, eR10, h⟩ := lt_e h
  obtain ⟨I11, eI11, h⟩ := lt_e h
  refine k_newa (pc := 17) C (t := 20) (N := 201) rfl (by decide) (t1_in 68 (by decide +kernel) rfl) (by decide) (by decide) (by decide) (Nat.le_of_ble_eq_true rfl) (Nat.le_of_ble_eq_true rfl) dX3_init_17 ?_
  rw [← eq8, ← eS9, ← eR10, ← eI11]
  refine k_nf (cells2 := 2) (slots2 := 401) (st2 := [.ref (E.1 + q8), .ref (E.1 + a0)]) rfl rfl rfl ?_
  obtain ⟨hs130, h⟩ := gp_e h
  have hs13 := sok_e hs130
  obtain ⟨R14, eR14, h⟩ := lt_e h
  refine k_putFR (pc := 19) C hin lkQ_RX3_15_3 hs13 ir_3_2 (fun _ => ⟨rfl, rfl⟩) dX3_init_19 ?_
  rw [← eR14]
  refine k_aloadn (pc := 22) C dX3_init_22 (i := 0) rfl 0 rfl ?_
  refine k_sipush (pc := 23) C (v := (201 : Int32)) dX3_init_23 (by decide) ?_
  obtain ⟨q15, eq15, h⟩ := lt_e h
  obtain ⟨S16, eS16, h⟩ := lt_e h
  obtain ⟨R17, eR17, h⟩ := lt_e h
  obtain ⟨I18, eI18, h⟩ := lt_e h
  refine k_newa (pc := 26) C (t := 20) (N := 201) rfl (by decide) (t1_in 68 (by decide +kernel) rfl) (by decide) (by decide) (by decide) (Nat.le_of_ble_eq_true rfl) (Nat.le_of_ble_eq_true rfl) dX3_init_26 ?_
  rw [← eq15, ← eS16, ← eR17, ← eI18]
  refine k_nf (cells2 := 3) (slots2 := 602) (st2 := [.ref (E.1 + q15), .ref (E.1 + a0)]) rfl rfl rfl ?_
  obtain ⟨hs200, h⟩ := gp_e h
  have hs20 := sok_e hs200
  obtain ⟨R21, eR21, h⟩ := lt_e h
  refine k_putFR (pc := 28) C hin lkQ_RX3_19_3 hs20 ir_3_3 (fun _ => ⟨rfl, rfl⟩) dX3_init_28 ?_
  rw [← eR21]
  refine k_aloadn (pc := 31) C dX3_init_31 (i := 0) rfl 0 rfl ?_
  obtain ⟨q22, eq22, h⟩ := lt_e h
  obtain ⟨S23, eS23, h⟩ := lt_e h
  obtain ⟨R24, eR24, h⟩ := lt_e h
  obtain ⟨I25, eI25, h⟩ := lt_e h
  refine k_new (pc := 32) C lkN_RX3_22 (Nat.le_of_ble_eq_true rfl) (Nat.le_of_ble_eq_true rfl) dX3_init_32 ?_
  rw [← eq22, ← eS23, ← eR24, ← eI25]
  refine k_nf (cells2 := 4) (slots2 := 610) (st2 := [.ref (E.1 + q22), .ref (E.1 + a0)]) rfl rfl rfl ?_
  refine k_dup (pc := 35) C dX3_init_35 rfl ?_
  obtain ⟨r27, hr27, h⟩ := bd_e h
  refine k_IN (pc := 36) (st := [.ref (E.1 + q22), .ref (E.1 + a0)]) C (c_X5_init hr27) lkIN_RX3_24 rfl rfl (Nat.le_of_ble_eq_true rfl) (Nat.le_of_ble_eq_true rfl) (Nat.le_of_ble_eq_true rfl) (Nat.le_of_ble_eq_true rfl) (Nat.le_of_ble_eq_true rfl) dX3_init_36 ?_
  refine k_nf (cells2 := 10) (slots2 := 1018) (st2 := [.ref (E.1 + q22), .ref (E.1 + a0)]) rfl rfl rfl ?_
  obtain ⟨hs280, h⟩ := gp_e h
  have hs28 := sok_e hs280
  obtain ⟨R29, eR29, h⟩ := lt_e h
  refine k_putFR (pc := 39) C hin lkQ_RX3_25_3 hs28 ir_3_6 (fun _ => ⟨rfl, rfl⟩) dX3_init_39 ?_
  rw [← eR29]
  have h := Option.some.inj h
  subst h
  exact k_vret (pc := 42) C hr hk dX3_init_42
theorem c_X3_init {E : Ev} {l : Launch} {S : Sh} {R : Rw} {I : Iw} {a0 : Nat} {r : (Sh × Rw × Iw)} (h : f_X3_init S R I a0 = some r) : Mt E l yX3_init cX3_init 1 none 2 40 [.ref (E.1 + a0)] S R I r.1 r.2.1 r.2.2 none 10 1018 := mt_of (by decide) (Nat.le_of_ble_eq_true rfl) (fun p e s m args below meth c C hr hk hn => b_X3_init C hr hk hn _ _ _ _ h)
theorem lkF_RX3_29_3 : LkF RX3 29 3 0 := ⟨RX3, TX3, 7, "UnlikeNeighbours$Reader", fc3, by decide, (t1_in 146 (by decide +kernel) rfl), Or.inl rfl⟩
theorem lkF_RX3_9_3 : LkF RX3 9 3 1 := ⟨RX3, TX3, 7, "UnlikeNeighbours$Reader", fc3, by decide, (t1_in 148 (by decide +kernel) rfl), Or.inl rfl⟩
theorem lkP_RX3_29_3 : LkP RX3 29 3 0 .int := ⟨RX3, TX3, 7, "UnlikeNeighbours$Reader", fc3, by decide, (t1_in 146 (by decide +kernel) rfl), Or.inl rfl, rfl, by decide +kernel⟩
theorem dX3_take_0 : decode cX3_take 0 = .ok (.aload_n 0, 1) := by decide +kernel
theorem dX3_take_1 : decode cX3_take 1 = .ok (.getfield 29, 3) := by decide +kernel
theorem dX3_take_4 : decode cX3_take 4 = .ok (.iload_n 3, 1) := by decide +kernel
theorem dX3_take_5 : decode cX3_take 5 = .ok (.iadd, 1) := by decide +kernel
theorem dX3_take_6 : decode cX3_take 6 = .ok (.sipush 200, 3) := by decide +kernel
theorem dX3_take_9 : decode cX3_take 9 = .ok (.if_icmp .le 6, 3) := by decide +kernel
theorem dX3_take_12 : decode cX3_take 12 = .ok (.bipush (-2), 2) := by decide +kernel
theorem dX3_take_14 : decode cX3_take 14 = .ok (.ireturn, 1) := by decide +kernel
theorem dX3_take_15 : decode cX3_take 15 = .ok (.iconst 0, 1) := by decide +kernel
theorem dX3_take_16 : decode cX3_take 16 = .ok (.istore 4, 2) := by decide +kernel
theorem dX3_take_18 : decode cX3_take 18 = .ok (.iload 4, 2) := by decide +kernel
theorem dX3_take_20 : decode cX3_take 20 = .ok (.iload_n 3, 1) := by decide +kernel
theorem dX3_take_21 : decode cX3_take 21 = .ok (.if_icmp .ge 37, 3) := by decide +kernel
theorem dX3_take_24 : decode cX3_take 24 = .ok (.aload_n 0, 1) := by decide +kernel
theorem dX3_take_25 : decode cX3_take 25 = .ok (.getfield 9, 3) := by decide +kernel
theorem dX3_take_28 : decode cX3_take 28 = .ok (.aload_n 0, 1) := by decide +kernel
theorem dX3_take_29 : decode cX3_take 29 = .ok (.getfield 29, 3) := by decide +kernel
theorem dX3_take_32 : decode cX3_take 32 = .ok (.lload_n 1, 1) := by decide +kernel
theorem dX3_take_33 : decode cX3_take 33 = .ok (.bipush 8, 2) := by decide +kernel
theorem dX3_take_35 : decode cX3_take 35 = .ok (.iload 4, 2) := by decide +kernel
theorem dX3_take_37 : decode cX3_take 37 = .ok (.imul, 1) := by decide +kernel
theorem dX3_take_38 : decode cX3_take 38 = .ok (.lushr, 1) := by decide +kernel
theorem dX3_take_39 : decode cX3_take 39 = .ok (.l2i, 1) := by decide +kernel
theorem dX3_take_40 : decode cX3_take 40 = .ok (.i2b, 1) := by decide +kernel
theorem dX3_take_41 : decode cX3_take 41 = .ok (.bastore, 1) := by decide +kernel
theorem dX3_take_42 : decode cX3_take 42 = .ok (.aload_n 0, 1) := by decide +kernel
theorem dX3_take_43 : decode cX3_take 43 = .ok (.dup, 1) := by decide +kernel
theorem dX3_take_44 : decode cX3_take 44 = .ok (.getfield 29, 3) := by decide +kernel
theorem dX3_take_47 : decode cX3_take 47 = .ok (.iconst 1, 1) := by decide +kernel
theorem dX3_take_48 : decode cX3_take 48 = .ok (.iadd, 1) := by decide +kernel
theorem dX3_take_49 : decode cX3_take 49 = .ok (.putfield 29, 3) := by decide +kernel
theorem dX3_take_52 : decode cX3_take 52 = .ok (.iinc 4 1, 3) := by decide +kernel
theorem dX3_take_55 : decode cX3_take 55 = .ok (.goto (-37), 3) := by decide +kernel
theorem dX3_take_58 : decode cX3_take 58 = .ok (.aload_n 0, 1) := by decide +kernel
theorem dX3_take_59 : decode cX3_take 59 = .ok (.getfield 29, 3) := by decide +kernel
theorem dX3_take_62 : decode cX3_take 62 = .ok (.ireturn, 1) := by decide +kernel
def f_X3_take_18 (S : Sh) (R : Rw)  : Nat → Iw → Nat → Int64 → Int32 → Int32 → Option (Iw × Int32)
  | 0, _, _, _, _, _ => none
  | n + 1, I, a0, x1, x3, x4 => (if x3 ≤ x4 then gp (sok S a0 3 7) (some (I, I a0 0)) else gp (sok S a0 3 7) (rl (R a0 1) (fun b6 => gp (aok S 21 b6 (I a0 0)) (lt (up2 I b6 (I a0 0).toNatClampNeg ((((x1.toUInt64 >>> (((8 : Int32) * x4).toInt64.toUInt64 &&& Int64.toUInt64 63)).toInt64).toInt32).toInt8.toInt32).toInt8.toInt32) (fun I8 => lt (up2 I8 a0 0 ((I8 a0 0) + (1 : Int32))) (fun I9 => f_X3_take_18 S R  n I9 a0 x1 x3 (x4 + (1 : Int32))))))))
set_option maxHeartbeats 4000000 in
theorem b_X3_take_18 {E : Ev} {p : Program} {l : Launch} {e : Env} {s : State} {m : MethodId} {args : Array Value} {below : List Frame} {meth : Method} {c : Code} (C : Cx E RX3 cX3_take 5 p s m c) (hr : meth.sig.returnType = (some .int)) (hk : meth.locks = false) {S : Sh} {R : Rw} {r : Iw × Int32}  : ∀ (n : Nat) (I : Iw) (a0 : Nat) (x1 : Int64) (x3 : Int32) (x4 : Int32), f_X3_take_18 S R  n I a0 x1 x3 x4 = some r → Wk E 5 p l e ({ frames := 0, cells := 0, slots := 0, locals := 0 } : Room) s m args below meth c 0 0 (MQ below (Qw E S R r.1 (some (.int r.2))) args s 0 0 (fun q => E.1 ≤ q)) 18 [(0, .ref (E.1 + a0)), (1, .long x1), (3, .int x3), (4, .int x4)] [] S R I := by
  intro n
  induction n with
  | zero =>
    intro I a0 x1 x3 x4 h
    rw [f_X3_take_18] at h
    cases h
  | succ n ih =>
    intro I a0 x1 x3 x4 h
    rw [f_X3_take_18] at h
    refine k_iload (pc := 18) C dX3_take_18 3 rfl ?_
    refine k_iloadn (pc := 20) C dX3_take_20 (i := 3) rfl 2 rfl ?_
    refine k_icmp_ge (pc := 21) C dX3_take_21 (tgt := 58) (by decide) (fun hc3 => ?_) (fun hc3 => ?_)
    · rw [if_pos hc3] at h
      refine k_aloadn (pc := 58) C dX3_take_58 (i := 0) rfl 0 rfl ?_
      obtain ⟨hs40, h⟩ := gp_e h
      have hs4 := sok_e hs40
      refine k_getI (pc := 59) C lkF_RX3_29_3 hs4 ir_3_0 dX3_take_59 ?_
      have h := Option.some.inj h
      subst h
      exact k_iret (pc := 62) C hr hk dX3_take_62
    · rw [if_neg hc3] at h
      refine k_aloadn (pc := 24) C dX3_take_24 (i := 0) rfl 0 rfl ?_
      obtain ⟨hs50, h⟩ := gp_e h
      have hs5 := sok_e hs50
      obtain ⟨b6, hb6, h⟩ := rl_e h
      refine k_getR (pc := 25) C lkF_RX3_9_3 hs5 ir_3_1 hb6 dX3_take_25 ?_
      refine k_aloadn (pc := 28) C dX3_take_28 (i := 0) rfl 0 rfl ?_
      refine k_getI (pc := 29) C lkF_RX3_29_3 hs5 ir_3_0 dX3_take_29 ?_
      refine k_lloadn (pc := 32) C dX3_take_32 (i := 1) rfl 1 rfl ?_
      refine k_bipush (pc := 33) C (v := (8 : Int32)) dX3_take_33 (by decide) ?_
      refine k_iload (pc := 35) C dX3_take_35 3 rfl ?_
      refine k_imul (pc := 37) C dX3_take_37 ?_
      refine k_lushr (pc := 38) C dX3_take_38 ?_
      refine k_l2i (pc := 39) C dX3_take_39 ?_
      refine k_i2b (pc := 40) C dX3_take_40 ?_
      obtain ⟨ha7, h⟩ := gp_e h
      obtain ⟨I8, eI8, h⟩ := lt_e h
      refine k_bast (pc := 41) C ha7 dX3_take_41 ?_
      rw [← eI8]
      refine k_aloadn (pc := 42) C dX3_take_42 (i := 0) rfl 0 rfl ?_
      refine k_dup (pc := 43) C dX3_take_43 rfl ?_
      refine k_getI (pc := 44) C lkF_RX3_29_3 hs5 ir_3_0 dX3_take_44 ?_
      refine k_iconst (pc := 47) C (v := (1 : Int32)) dX3_take_47 (by decide) ?_
      refine k_iadd (pc := 48) C dX3_take_48 ?_
      obtain ⟨I9, eI9, h⟩ := lt_e h
      refine k_putI (pc := 49) C lkP_RX3_29_3 hs5 ir_3_0 dX3_take_49 ?_
      rw [← eI9]
      refine k_iinc (pc := 52) C dX3_take_52 3 rfl (v := x4 + (1 : Int32)) (by rfl) (by decide) (L2 := [(0, .ref (E.1 + a0)), (1, .long x1), (3, .int x3), (4, .int (x4 + (1 : Int32)))]) rfl ?_
      refine k_goto (pc := 55) C dX3_take_55 (tgt := 18) (by decide) ?_
      exact ih _ _ _ _ _ h
def f_X3_take (S : Sh) (R : Rw)  (I : Iw) (a0 : Nat) (x1 : Int64) (x3 : Int32) : Option (Iw × Int32) := gp (sok S a0 3 7) ((if ((I a0 0) + x3) ≤ (200 : Int32) then f_X3_take_18 S R  512 I a0 x1 x3 (0 : Int32) else some (I, (-2 : Int32))))
set_option maxHeartbeats 4000000 in
theorem b_X3_take {E : Ev} {p : Program} {l : Launch} {e : Env} {s : State} {m : MethodId} {args : Array Value} {below : List Frame} {meth : Method} {c : Code} (C : Cx E RX3 cX3_take 5 p s m c) (hr : meth.sig.returnType = (some .int)) (hk : meth.locks = false) {S : Sh} {R : Rw} {r : Iw × Int32}  : ∀ (I : Iw) (a0 : Nat) (x1 : Int64) (x3 : Int32), f_X3_take S R   I a0 x1 x3 = some r → Wk E 5 p l e ({ frames := 0, cells := 0, slots := 0, locals := 0 } : Room) s m args below meth c 0 0 (MQ below (Qw E S R r.1 (some (.int r.2))) args s 0 0 (fun q => E.1 ≤ q)) 0 [(0, .ref (E.1 + a0)), (1, .long x1), (3, .int x3)] [] S R I := by
  intro I a0 x1 x3 h
  rw [f_X3_take] at h
  refine k_aloadn (pc := 0) C dX3_take_0 (i := 0) rfl 0 rfl ?_
  obtain ⟨hs10, h⟩ := gp_e h
  have hs1 := sok_e hs10
  refine k_getI (pc := 1) C lkF_RX3_29_3 hs1 ir_3_0 dX3_take_1 ?_
  refine k_iloadn (pc := 4) C dX3_take_4 (i := 3) rfl 2 rfl ?_
  refine k_iadd (pc := 5) C dX3_take_5 ?_
  refine k_sipush (pc := 6) C (v := (200 : Int32)) dX3_take_6 (by decide) ?_
  refine k_icmp_le (pc := 9) C dX3_take_9 (tgt := 15) (by decide) (fun hc2 => ?_) (fun hc2 => ?_)
  · rw [if_pos hc2] at h
    refine k_iconst (pc := 15) C (v := (0 : Int32)) dX3_take_15 (by decide) ?_
    refine k_istore (pc := 16) C dX3_take_16 (by decide) (L2 := [(0, .ref (E.1 + a0)), (1, .long x1), (3, .int x3), (4, .int (0 : Int32))]) rfl ?_
    exact b_X3_take_18 C hr hk  _ _ _ _ _ _ h
  · rw [if_neg hc2] at h
    refine k_bipush (pc := 12) C (v := (-2 : Int32)) dX3_take_12 (by decide) ?_
    have h := Option.some.inj h
    subst h
    exact k_iret (pc := 14) C hr hk dX3_take_14
theorem c_X3_take {E : Ev} {l : Launch} {S : Sh} {R : Rw} {I : Iw} {a0 : Nat} {x1 : Int64} {x3 : Int32} {r : Iw × Int32} (h : f_X3_take S R I a0 x1 x3 = some r) : Mt E l yX3_take cX3_take 5 (some .int) 0 0 [.ref (E.1 + a0), .long x1, .int x3] S R I S R r.1 (some (.int r.2)) 0 0 := mt_of (by decide) (Nat.le_of_ble_eq_true rfl) (fun p e s m args below meth c C hr hk hn => b_X3_take C hr hk _ _ _ _ h)
theorem lkF_RX3_50_3 : LkF RX3 50 3 4 := ⟨RX3, TX3, 7, "UnlikeNeighbours$Reader", fc3, by decide, (t1_in 151 (by decide +kernel) rfl), Or.inl rfl⟩
theorem lkF_RX3_15_3 : LkF RX3 15 3 2 := ⟨RX3, TX3, 7, "UnlikeNeighbours$Reader", fc3, by decide, (t1_in 149 (by decide +kernel) rfl), Or.inl rfl⟩
theorem lkF_RX3_19_3 : LkF RX3 19 3 3 := ⟨RX3, TX3, 7, "UnlikeNeighbours$Reader", fc3, by decide, (t1_in 150 (by decide +kernel) rfl), Or.inl rfl⟩
theorem lkP_RX3_50_3 : LkP RX3 50 3 4 .int := ⟨RX3, TX3, 7, "UnlikeNeighbours$Reader", fc3, by decide, (t1_in 151 (by decide +kernel) rfl), Or.inl rfl, rfl, by decide +kernel⟩
theorem dX3_addToken_0 : decode cX3_addToken 0 = .ok (.aload_n 0, 1) := by decide +kernel
theorem dX3_addToken_1 : decode cX3_addToken 1 = .ok (.getfield 50, 3) := by decide +kernel
theorem dX3_addToken_4 : decode cX3_addToken 4 = .ok (.sipush 200, 3) := by decide +kernel
theorem dX3_addToken_7 : decode cX3_addToken 7 = .ok (.if_icmp .gt 33, 3) := by decide +kernel
theorem dX3_addToken_10 : decode cX3_addToken 10 = .ok (.aload_n 0, 1) := by decide +kernel
theorem dX3_addToken_11 : decode cX3_addToken 11 = .ok (.getfield 15, 3) := by decide +kernel
theorem dX3_addToken_14 : decode cX3_addToken 14 = .ok (.aload_n 0, 1) := by decide +kernel
theorem dX3_addToken_15 : decode cX3_addToken 15 = .ok (.getfield 50, 3) := by decide +kernel
theorem dX3_addToken_18 : decode cX3_addToken 18 = .ok (.iload_n 1, 1) := by decide +kernel
theorem dX3_addToken_19 : decode cX3_addToken 19 = .ok (.iastore, 1) := by decide +kernel
theorem dX3_addToken_20 : decode cX3_addToken 20 = .ok (.aload_n 0, 1) := by decide +kernel
theorem dX3_addToken_21 : decode cX3_addToken 21 = .ok (.getfield 19, 3) := by decide +kernel
theorem dX3_addToken_24 : decode cX3_addToken 24 = .ok (.aload_n 0, 1) := by decide +kernel
theorem dX3_addToken_25 : decode cX3_addToken 25 = .ok (.getfield 50, 3) := by decide +kernel
theorem dX3_addToken_28 : decode cX3_addToken 28 = .ok (.iload_n 2, 1) := by decide +kernel
theorem dX3_addToken_29 : decode cX3_addToken 29 = .ok (.iastore, 1) := by decide +kernel
theorem dX3_addToken_30 : decode cX3_addToken 30 = .ok (.aload_n 0, 1) := by decide +kernel
theorem dX3_addToken_31 : decode cX3_addToken 31 = .ok (.dup, 1) := by decide +kernel
theorem dX3_addToken_32 : decode cX3_addToken 32 = .ok (.getfield 50, 3) := by decide +kernel
theorem dX3_addToken_35 : decode cX3_addToken 35 = .ok (.iconst 1, 1) := by decide +kernel
theorem dX3_addToken_36 : decode cX3_addToken 36 = .ok (.iadd, 1) := by decide +kernel
theorem dX3_addToken_37 : decode cX3_addToken 37 = .ok (.putfield 50, 3) := by decide +kernel
theorem dX3_addToken_40 : decode cX3_addToken 40 = .ok (.return_, 1) := by decide +kernel
def f_X3_addToken (S : Sh) (R : Rw)  (I : Iw) (a0 : Nat) (x1 : Int32) (x2 : Int32) : Option (Iw) := gp (sok S a0 3 7) ((if (200 : Int32) < (I a0 4) then some I else rl (R a0 2) (fun b3 => gp (aok S 20 b3 (I a0 4)) (lt (up2 I b3 (I a0 4).toNatClampNeg x1) (fun I5 => rl (R a0 3) (fun b6 => gp (aok S 20 b6 (I5 a0 4)) (lt (up2 I5 b6 (I5 a0 4).toNatClampNeg x2) (fun I8 => lt (up2 I8 a0 4 ((I8 a0 4) + (1 : Int32))) (fun I9 => some I9)))))))))
set_option maxHeartbeats 4000000 in
theorem b_X3_addToken {E : Ev} {p : Program} {l : Launch} {e : Env} {s : State} {m : MethodId} {args : Array Value} {below : List Frame} {meth : Method} {c : Code} (C : Cx E RX3 cX3_addToken 3 p s m c) (hr : meth.sig.returnType = none) (hk : meth.locks = false) {S : Sh} {R : Rw} {r : Iw}  : ∀ (I : Iw) (a0 : Nat) (x1 : Int32) (x2 : Int32), f_X3_addToken S R   I a0 x1 x2 = some r → Wk E 3 p l e ({ frames := 0, cells := 0, slots := 0, locals := 0 } : Room) s m args below meth c 0 0 (MQ below (Qw E S R r none) args s 0 0 (fun q => E.1 ≤ q)) 0 [(0, .ref (E.1 + a0)), (1, .int x1), (2, .int x2)] [] S R I := by
  intro I a0 x1 x2 h
  rw [f_X3_addToken] at h
  refine k_aloadn (pc := 0) C dX3_addToken_0 (i := 0) rfl 0 rfl ?_
  obtain ⟨hs10, h⟩ := gp_e h
  have hs1 := sok_e hs10
  refine k_getI (pc := 1) C lkF_RX3_50_3 hs1 ir_3_4 dX3_addToken_1 ?_
  refine k_sipush (pc := 4) C (v := (200 : Int32)) dX3_addToken_4 (by decide) ?_
  refine k_icmp_gt (pc := 7) C dX3_addToken_7 (tgt := 40) (by decide) (fun hc2 => ?_) (fun hc2 => ?_)
  · rw [if_pos hc2] at h
    have h := Option.some.inj h
    subst h
    exact k_vret (pc := 40) C hr hk dX3_addToken_40
  · rw [if_neg hc2] at h
    refine k_aloadn (pc := 10) C dX3_addToken_10 (i := 0) rfl 0 rfl ?_
    obtain ⟨b3, hb3, h⟩ := rl_e h
    refine k_getR (pc := 11) C lkF_RX3_15_3 hs1 ir_3_2 hb3 dX3_addToken_11 ?_
    refine k_aloadn (pc := 14) C dX3_addToken_14 (i := 0) rfl 0 rfl ?_
    refine k_getI (pc := 15) C lkF_RX3_50_3 hs1 ir_3_4 dX3_addToken_15 ?_
    refine k_iloadn (pc := 18) C dX3_addToken_18 (i := 1) rfl 1 rfl ?_
    obtain ⟨ha4, h⟩ := gp_e h
    obtain ⟨I5, eI5, h⟩ := lt_e h
    refine k_iast (pc := 19) C ha4 dX3_addToken_19 ?_
    rw [← eI5]
    refine k_aloadn (pc := 20) C dX3_addToken_20 (i := 0) rfl 0 rfl ?_
    obtain ⟨b6, hb6, h⟩ := rl_e h
    refine k_getR (pc := 21) C lkF_RX3_19_3 hs1 ir_3_3 hb6 dX3_addToken_21 ?_
    refine k_aloadn (pc := 24) C dX3_addToken_24 (i := 0) rfl 0 rfl ?_
    refine k_getI (pc := 25) C lkF_RX3_50_3 hs1 ir_3_4 dX3_addToken_25 ?_
    refine k_iloadn (pc := 28) C dX3_addToken_28 (i := 2) rfl 2 rfl ?_
    obtain ⟨ha7, h⟩ := gp_e h
    obtain ⟨I8, eI8, h⟩ := lt_e h
    refine k_iast (pc := 29) C ha7 dX3_addToken_29 ?_
    rw [← eI8]
    refine k_aloadn (pc := 30) C dX3_addToken_30 (i := 0) rfl 0 rfl ?_
    refine k_dup (pc := 31) C dX3_addToken_31 rfl ?_
    refine k_getI (pc := 32) C lkF_RX3_50_3 hs1 ir_3_4 dX3_addToken_32 ?_
    refine k_iconst (pc := 35) C (v := (1 : Int32)) dX3_addToken_35 (by decide) ?_
    refine k_iadd (pc := 36) C dX3_addToken_36 ?_
    obtain ⟨I9, eI9, h⟩ := lt_e h
    refine k_putI (pc := 37) C lkP_RX3_50_3 hs1 ir_3_4 dX3_addToken_37 ?_
    rw [← eI9]
    have h := Option.some.inj h
    subst h
    exact k_vret (pc := 40) C hr hk dX3_addToken_40
theorem c_X3_addToken {E : Ev} {l : Launch} {S : Sh} {R : Rw} {I : Iw} {a0 : Nat} {x1 : Int32} {x2 : Int32} {r : Iw} (h : f_X3_addToken S R I a0 x1 x2 = some r) : Mt E l yX3_addToken cX3_addToken 3 none 0 0 [.ref (E.1 + a0), .int x1, .int x2] S R I S R r none 0 0 := mt_of (by decide) (Nat.le_of_ble_eq_true rfl) (fun p e s m args below meth c C hr hk hn => b_X3_addToken C hr hk _ _ _ _ h)
theorem dX3_byteAt_0 : decode cX3_byteAt 0 = .ok (.aload_n 0, 1) := by decide +kernel
theorem dX3_byteAt_1 : decode cX3_byteAt 1 = .ok (.getfield 9, 3) := by decide +kernel
theorem dX3_byteAt_4 : decode cX3_byteAt 4 = .ok (.iload_n 1, 1) := by decide +kernel
theorem dX3_byteAt_5 : decode cX3_byteAt 5 = .ok (.baload, 1) := by decide +kernel
theorem dX3_byteAt_6 : decode cX3_byteAt 6 = .ok (.lookupswitch 69 #[(40, 58), (41, 58), (59, 58), (60, 58), (61, 58), (62, 58)], 58) := by decide +kernel
theorem dX3_byteAt_64 : decode cX3_byteAt 64 = .ok (.sipush 20000, 3) := by decide +kernel
theorem dX3_byteAt_67 : decode cX3_byteAt 67 = .ok (.aload_n 0, 1) := by decide +kernel
theorem dX3_byteAt_68 : decode cX3_byteAt 68 = .ok (.getfield 9, 3) := by decide +kernel
theorem dX3_byteAt_71 : decode cX3_byteAt 71 = .ok (.iload_n 1, 1) := by decide +kernel
theorem dX3_byteAt_72 : decode cX3_byteAt 72 = .ok (.baload, 1) := by decide +kernel
theorem dX3_byteAt_73 : decode cX3_byteAt 73 = .ok (.iadd, 1) := by decide +kernel
theorem dX3_byteAt_74 : decode cX3_byteAt 74 = .ok (.ireturn, 1) := by decide +kernel
theorem dX3_byteAt_75 : decode cX3_byteAt 75 = .ok (.sipush 30001, 3) := by decide +kernel
theorem dX3_byteAt_78 : decode cX3_byteAt 78 = .ok (.ireturn, 1) := by decide +kernel
def f_X3_byteAt (S : Sh) (R : Rw) (I : Iw)  (a0 : Nat) (x1 : Int32) : Option (Int32) := gp (sok S a0 3 7) (rl (R a0 1) (fun b2 => gp (aok S 21 b2 x1) ((if (I b2 x1.toNatClampNeg) = (40 : Int32) then rl (R a0 1) (fun b4 => gp (aok S 21 b4 x1) (some ((20000 : Int32) + (I b4 x1.toNatClampNeg)))) else (if (I b2 x1.toNatClampNeg) = (41 : Int32) then rl (R a0 1) (fun b6 => gp (aok S 21 b6 x1) (some ((20000 : Int32) + (I b6 x1.toNatClampNeg)))) else (if (I b2 x1.toNatClampNeg) = (59 : Int32) then rl (R a0 1) (fun b8 => gp (aok S 21 b8 x1) (some ((20000 : Int32) + (I b8 x1.toNatClampNeg)))) else (if (I b2 x1.toNatClampNeg) = (60 : Int32) then rl (R a0 1) (fun b10 => gp (aok S 21 b10 x1) (some ((20000 : Int32) + (I b10 x1.toNatClampNeg)))) else (if (I b2 x1.toNatClampNeg) = (61 : Int32) then rl (R a0 1) (fun b12 => gp (aok S 21 b12 x1) (some ((20000 : Int32) + (I b12 x1.toNatClampNeg)))) else (if (I b2 x1.toNatClampNeg) = (62 : Int32) then rl (R a0 1) (fun b14 => gp (aok S 21 b14 x1) (some ((20000 : Int32) + (I b14 x1.toNatClampNeg)))) else some (30001 : Int32))))))))))
set_option maxHeartbeats 4000000 in
theorem b_X3_byteAt {E : Ev} {p : Program} {l : Launch} {e : Env} {s : State} {m : MethodId} {args : Array Value} {below : List Frame} {meth : Method} {c : Code} (C : Cx E RX3 cX3_byteAt 2 p s m c) (hr : meth.sig.returnType = (some .int)) (hk : meth.locks = false) {S : Sh} {R : Rw} {I : Iw} {r : Int32}  : ∀ (a0 : Nat) (x1 : Int32), f_X3_byteAt S R I   a0 x1 = some r → Wk E 2 p l e ({ frames := 0, cells := 0, slots := 0, locals := 0 } : Room) s m args below meth c 0 0 (MQ below (Qw E S R I (some (.int r))) args s 0 0 (fun q => E.1 ≤ q)) 0 [(0, .ref (E.1 + a0)), (1, .int x1)] [] S R I := by
  intro a0 x1 h
  rw [f_X3_byteAt] at h
  refine k_aloadn (pc := 0) C dX3_byteAt_0 (i := 0) rfl 0 rfl ?_
  obtain ⟨hs10, h⟩ := gp_e h
  have hs1 := sok_e hs10
  obtain ⟨b2, hb2, h⟩ := rl_e h
  refine k_getR (pc := 1) C lkF_RX3_9_3 hs1 ir_3_1 hb2 dX3_byteAt_1 ?_
  refine k_iloadn (pc := 4) C dX3_byteAt_4 (i := 1) rfl 1 rfl ?_
  obtain ⟨ha3, h⟩ := gp_e h
  refine k_bald (pc := 5) C ha3 dX3_byteAt_5 ?_
  by_cases hc16 : (I b2 x1.toNatClampNeg) = (40 : Int32)
  · rw [if_pos hc16] at h
    refine k_look (pc := 6) C dX3_byteAt_6 (by decide) (off := 58) (by rw [hc16]; rfl) (tgt := 64) (by decide) ?_
    refine k_sipush (pc := 64) C (v := (20000 : Int32)) dX3_byteAt_64 (by decide) ?_
    refine k_aloadn (pc := 67) C dX3_byteAt_67 (i := 0) rfl 0 rfl ?_
    obtain ⟨b4, hb4, h⟩ := rl_e h
    refine k_getR (pc := 68) C lkF_RX3_9_3 hs1 ir_3_1 hb4 dX3_byteAt_68 ?_
    refine k_iloadn (pc := 71) C dX3_byteAt_71 (i := 1) rfl 1 rfl ?_
    obtain ⟨ha5, h⟩ := gp_e h
    refine k_bald (pc := 72) C ha5 dX3_byteAt_72 ?_
    refine k_iadd (pc := 73) C dX3_byteAt_73 ?_
    have h := Option.some.inj h
    subst h
    exact k_iret (pc := 74) C hr hk dX3_byteAt_74
  · rw [if_neg hc16] at h
    by_cases hc17 : (I b2 x1.toNatClampNeg) = (41 : Int32)
    · rw [if_pos hc17] at h
      refine k_look (pc := 6) C dX3_byteAt_6 (by decide) (off := 58) (by rw [hc17]; rfl) (tgt := 64) (by decide) ?_
      refine k_sipush (pc := 64) C (v := (20000 : Int32)) dX3_byteAt_64 (by decide) ?_
      refine k_aloadn (pc := 67) C dX3_byteAt_67 (i := 0) rfl 0 rfl ?_
      obtain ⟨b6, hb6, h⟩ := rl_e h
      refine k_getR (pc := 68) C lkF_RX3_9_3 hs1 ir_3_1 hb6 dX3_byteAt_68 ?_
      refine k_iloadn (pc := 71) C dX3_byteAt_71 (i := 1) rfl 1 rfl ?_
      obtain ⟨ha7, h⟩ := gp_e h
      refine k_bald (pc := 72) C ha7 dX3_byteAt_72 ?_
      refine k_iadd (pc := 73) C dX3_byteAt_73 ?_
      have h := Option.some.inj h
      subst h
      exact k_iret (pc := 74) C hr hk dX3_byteAt_74
    · rw [if_neg hc17] at h
      by_cases hc18 : (I b2 x1.toNatClampNeg) = (59 : Int32)
      · rw [if_pos hc18] at h
        refine k_look (pc := 6) C dX3_byteAt_6 (by decide) (off := 58) (by rw [hc18]; rfl) (tgt := 64) (by decide) ?_
        refine k_sipush (pc := 64) C (v := (20000 : Int32)) dX3_byteAt_64 (by decide) ?_
        refine k_aloadn (pc := 67) C dX3_byteAt_67 (i := 0) rfl 0 rfl ?_
        obtain ⟨b8, hb8, h⟩ := rl_e h
        refine k_getR (pc := 68) C lkF_RX3_9_3 hs1 ir_3_1 hb8 dX3_byteAt_68 ?_
        refine k_iloadn (pc := 71) C dX3_byteAt_71 (i := 1) rfl 1 rfl ?_
        obtain ⟨ha9, h⟩ := gp_e h
        refine k_bald (pc := 72) C ha9 dX3_byteAt_72 ?_
        refine k_iadd (pc := 73) C dX3_byteAt_73 ?_
        have h := Option.some.inj h
        subst h
        exact k_iret (pc := 74) C hr hk dX3_byteAt_74
      · rw [if_neg hc18] at h
        by_cases hc19 : (I b2 x1.toNatClampNeg) = (60 : Int32)
        · rw [if_pos hc19] at h
          refine k_look (pc := 6) C dX3_byteAt_6 (by decide) (off := 58) (by rw [hc19]; rfl) (tgt := 64) (by decide) ?_
          refine k_sipush (pc := 64) C (v := (20000 : Int32)) dX3_byteAt_64 (by decide) ?_
          refine k_aloadn (pc := 67) C dX3_byteAt_67 (i := 0) rfl 0 rfl ?_
          obtain ⟨b10, hb10, h⟩ := rl_e h
          refine k_getR (pc := 68) C lkF_RX3_9_3 hs1 ir_3_1 hb10 dX3_byteAt_68 ?_
          refine k_iloadn (pc := 71) C dX3_byteAt_71 (i := 1) rfl 1 rfl ?_
          obtain ⟨ha11, h⟩ := gp_e h
          refine k_bald (pc := 72) C ha11 dX3_byteAt_72 ?_
          refine k_iadd (pc := 73) C dX3_byteAt_73 ?_
          have h := Option.some.inj h
          subst h
          exact k_iret (pc := 74) C hr hk dX3_byteAt_74
        · rw [if_neg hc19] at h
          by_cases hc20 : (I b2 x1.toNatClampNeg) = (61 : Int32)
          · rw [if_pos hc20] at h
            refine k_look (pc := 6) C dX3_byteAt_6 (by decide) (off := 58) (by rw [hc20]; rfl) (tgt := 64) (by decide) ?_
            refine k_sipush (pc := 64) C (v := (20000 : Int32)) dX3_byteAt_64 (by decide) ?_
            refine k_aloadn (pc := 67) C dX3_byteAt_67 (i := 0) rfl 0 rfl ?_
            obtain ⟨b12, hb12, h⟩ := rl_e h
            refine k_getR (pc := 68) C lkF_RX3_9_3 hs1 ir_3_1 hb12 dX3_byteAt_68 ?_
            refine k_iloadn (pc := 71) C dX3_byteAt_71 (i := 1) rfl 1 rfl ?_
            obtain ⟨ha13, h⟩ := gp_e h
            refine k_bald (pc := 72) C ha13 dX3_byteAt_72 ?_
            refine k_iadd (pc := 73) C dX3_byteAt_73 ?_
            have h := Option.some.inj h
            subst h
            exact k_iret (pc := 74) C hr hk dX3_byteAt_74
          · rw [if_neg hc20] at h
            by_cases hc21 : (I b2 x1.toNatClampNeg) = (62 : Int32)
            · rw [if_pos hc21] at h
              refine k_look (pc := 6) C dX3_byteAt_6 (by decide) (off := 58) (by rw [hc21]; rfl) (tgt := 64) (by decide) ?_
              refine k_sipush (pc := 64) C (v := (20000 : Int32)) dX3_byteAt_64 (by decide) ?_
              refine k_aloadn (pc := 67) C dX3_byteAt_67 (i := 0) rfl 0 rfl ?_
              obtain ⟨b14, hb14, h⟩ := rl_e h
              refine k_getR (pc := 68) C lkF_RX3_9_3 hs1 ir_3_1 hb14 dX3_byteAt_68 ?_
              refine k_iloadn (pc := 71) C dX3_byteAt_71 (i := 1) rfl 1 rfl ?_
              obtain ⟨ha15, h⟩ := gp_e h
              refine k_bald (pc := 72) C ha15 dX3_byteAt_72 ?_
              refine k_iadd (pc := 73) C dX3_byteAt_73 ?_
              have h := Option.some.inj h
              subst h
              exact k_iret (pc := 74) C hr hk dX3_byteAt_74
            · rw [if_neg hc21] at h
              refine k_look (pc := 6) C dX3_byteAt_6 (by decide) (off := 69) (look_cons (look_ne hc16 (by decide)) (look_cons (look_ne hc17 (by decide)) (look_cons (look_ne hc18 (by decide)) (look_cons (look_ne hc19 (by decide)) (look_cons (look_ne hc20 (by decide)) (look_cons (look_ne hc21 (by decide)) rfl)))))) (tgt := 75) (by decide) ?_
              refine k_sipush (pc := 75) C (v := (30001 : Int32)) dX3_byteAt_75 (by decide) ?_
              have h := Option.some.inj h
              subst h
              exact k_iret (pc := 78) C hr hk dX3_byteAt_78
theorem c_X3_byteAt {E : Ev} {l : Launch} {S : Sh} {R : Rw} {I : Iw} {a0 : Nat} {x1 : Int32} {r : Int32} (h : f_X3_byteAt S R I a0 x1 = some r) : Mt E l yX3_byteAt cX3_byteAt 2 (some .int) 0 0 [.ref (E.1 + a0), .int x1] S R I S R I (some (.int r)) 0 0 := mt_of (by decide) (Nat.le_of_ble_eq_true rfl) (fun p e s m args below meth c C hr hk hn => b_X3_byteAt C hr hk _ _ h)
theorem lkSL_RX3 : Cond.methodLink RX3 81 yJ0_length_8abf5 ∈ TB := (t2_in 170 (by decide +kernel) rfl)
theorem lkSC_RX3 : Cond.methodLink RX3 86 yJ0_charAt_5068e ∈ TB := (t2_in 180 (by decide +kernel) rfl)
theorem dX3_nameAt_0 : decode cX3_nameAt 0 = .ok (.iconst 0, 1) := by decide +kernel
theorem dX3_nameAt_1 : decode cX3_nameAt 1 = .ok (.istore_n 3, 1) := by decide +kernel
theorem dX3_nameAt_2 : decode cX3_nameAt 2 = .ok (.iload_n 1, 1) := by decide +kernel
theorem dX3_nameAt_3 : decode cX3_nameAt 3 = .ok (.istore 4, 2) := by decide +kernel
theorem dX3_nameAt_5 : decode cX3_nameAt 5 = .ok (.iconst 0, 1) := by decide +kernel
theorem dX3_nameAt_6 : decode cX3_nameAt 6 = .ok (.istore 5, 2) := by decide +kernel
theorem dX3_nameAt_8 : decode cX3_nameAt 8 = .ok (.iload 5, 2) := by decide +kernel
theorem dX3_nameAt_10 : decode cX3_nameAt 10 = .ok (.ldc 79, 2) := by decide +kernel
theorem dX3_nameAt_12 : decode cX3_nameAt 12 = .ok (.invokevirtual 81, 3) := by decide +kernel
theorem dX3_nameAt_15 : decode cX3_nameAt 15 = .ok (.if_icmp .ge 76, 3) := by decide +kernel
theorem dX3_nameAt_18 : decode cX3_nameAt 18 = .ok (.ldc 79, 2) := by decide +kernel
theorem dX3_nameAt_20 : decode cX3_nameAt 20 = .ok (.iload 5, 2) := by decide +kernel
theorem dX3_nameAt_22 : decode cX3_nameAt 22 = .ok (.invokevirtual 86, 3) := by decide +kernel
theorem dX3_nameAt_25 : decode cX3_nameAt 25 = .ok (.istore 6, 2) := by decide +kernel
theorem dX3_nameAt_27 : decode cX3_nameAt 27 = .ok (.iload 6, 2) := by decide +kernel
theorem dX3_nameAt_29 : decode cX3_nameAt 29 = .ok (.bipush 32, 2) := by decide +kernel
theorem dX3_nameAt_31 : decode cX3_nameAt 31 = .ok (.if_icmp .eq 36, 3) := by decide +kernel
theorem dX3_nameAt_34 : decode cX3_nameAt 34 = .ok (.iload 4, 2) := by decide +kernel
theorem dX3_nameAt_36 : decode cX3_nameAt 36 = .ok (.iload_n 2, 1) := by decide +kernel
theorem dX3_nameAt_37 : decode cX3_nameAt 37 = .ok (.if_icmp .ge 22, 3) := by decide +kernel
theorem dX3_nameAt_40 : decode cX3_nameAt 40 = .ok (.aload_n 0, 1) := by decide +kernel
theorem dX3_nameAt_41 : decode cX3_nameAt 41 = .ok (.getfield 9, 3) := by decide +kernel
theorem dX3_nameAt_44 : decode cX3_nameAt 44 = .ok (.iload 4, 2) := by decide +kernel
theorem dX3_nameAt_46 : decode cX3_nameAt 46 = .ok (.baload, 1) := by decide +kernel
theorem dX3_nameAt_47 : decode cX3_nameAt 47 = .ok (.iload 6, 2) := by decide +kernel
theorem dX3_nameAt_49 : decode cX3_nameAt 49 = .ok (.if_icmp .ne 10, 3) := by decide +kernel
theorem dX3_nameAt_52 : decode cX3_nameAt 52 = .ok (.iload 4, 2) := by decide +kernel
theorem dX3_nameAt_54 : decode cX3_nameAt 54 = .ok (.iconst 1, 1) := by decide +kernel
theorem dX3_nameAt_55 : decode cX3_nameAt 55 = .ok (.iadd, 1) := by decide +kernel
theorem dX3_nameAt_56 : decode cX3_nameAt 56 = .ok (.goto 6, 3) := by decide +kernel
theorem dX3_nameAt_59 : decode cX3_nameAt 59 = .ok (.sipush 201, 3) := by decide +kernel
theorem dX3_nameAt_62 : decode cX3_nameAt 62 = .ok (.istore 4, 2) := by decide +kernel
theorem dX3_nameAt_64 : decode cX3_nameAt 64 = .ok (.goto 21, 3) := by decide +kernel
theorem dX3_nameAt_67 : decode cX3_nameAt 67 = .ok (.iload 4, 2) := by decide +kernel
theorem dX3_nameAt_69 : decode cX3_nameAt 69 = .ok (.iload_n 2, 1) := by decide +kernel
theorem dX3_nameAt_70 : decode cX3_nameAt 70 = .ok (.if_icmp .ne 9, 3) := by decide +kernel
theorem dX3_nameAt_73 : decode cX3_nameAt 73 = .ok (.sipush 10000, 3) := by decide +kernel
theorem dX3_nameAt_76 : decode cX3_nameAt 76 = .ok (.iload_n 3, 1) := by decide +kernel
theorem dX3_nameAt_77 : decode cX3_nameAt 77 = .ok (.iadd, 1) := by decide +kernel
theorem dX3_nameAt_78 : decode cX3_nameAt 78 = .ok (.ireturn, 1) := by decide +kernel
theorem dX3_nameAt_79 : decode cX3_nameAt 79 = .ok (.iinc 3 1, 3) := by decide +kernel
theorem dX3_nameAt_82 : decode cX3_nameAt 82 = .ok (.iload_n 1, 1) := by decide +kernel
theorem dX3_nameAt_83 : decode cX3_nameAt 83 = .ok (.istore 4, 2) := by decide +kernel
theorem dX3_nameAt_85 : decode cX3_nameAt 85 = .ok (.iinc 5 1, 3) := by decide +kernel
theorem dX3_nameAt_88 : decode cX3_nameAt 88 = .ok (.goto (-80), 3) := by decide +kernel
theorem dX3_nameAt_91 : decode cX3_nameAt 91 = .ok (.sipush 30001, 3) := by decide +kernel
theorem dX3_nameAt_94 : decode cX3_nameAt 94 = .ok (.ireturn, 1) := by decide +kernel
def f_X3_nameAt_85 (S : Sh) (R : Rw) (I : Iw) (ko8 : Nat → Int32 → Int32 → Int32 → Int32 → Int32 → Option (Int32)) (a0 : Nat) (x1 : Int32) (x2 : Int32) (x3 : Int32) (x4 : Int32) (x5 : Int32) : Option (Int32) := ko8 a0 x1 x2 x3 x4 (x5 + (1 : Int32))
set_option maxHeartbeats 4000000 in
theorem b_X3_nameAt_85 {E : Ev} {p : Program} {l : Launch} {e : Env} {s : State} {m : MethodId} {args : Array Value} {below : List Frame} {meth : Method} {c : Code} (C : Cx E RX3 cX3_nameAt 7 p s m c) (hr : meth.sig.returnType = (some .int)) (hk : meth.locks = false) {S : Sh} {R : Rw} {I : Iw} {r : Int32}  {ko8 : Nat → Int32 → Int32 → Int32 → Int32 → Int32 → Option (Int32)} (hko8 : ∀ (a0 : Nat) (x1 : Int32) (x2 : Int32) (x3 : Int32) (x4 : Int32) (x5 : Int32), ko8 a0 x1 x2 x3 x4 x5 = some r → Wk E 7 p l e ({ frames := 6, cells := 0, slots := 0, locals := 200 } : Room) s m args below meth c 0 0 (MQ below (Qw E S R I (some (.int r))) args s 0 0 (fun q => E.1 ≤ q)) 8 [(0, .ref (E.1 + a0)), (1, .int x1), (2, .int x2), (3, .int x3), (4, .int x4), (5, .int x5)] [] S R I) : ∀ (a0 : Nat) (x1 : Int32) (x2 : Int32) (x3 : Int32) (x4 : Int32) (x5 : Int32), f_X3_nameAt_85 S R I ko8  a0 x1 x2 x3 x4 x5 = some r → Wk E 7 p l e ({ frames := 6, cells := 0, slots := 0, locals := 200 } : Room) s m args below meth c 0 0 (MQ below (Qw E S R I (some (.int r))) args s 0 0 (fun q => E.1 ≤ q)) 85 [(0, .ref (E.1 + a0)), (1, .int x1), (2, .int x2), (3, .int x3), (4, .int x4), (5, .int x5)] [] S R I := by
  intro a0 x1 x2 x3 x4 x5 h
  rw [f_X3_nameAt_85] at h
  refine k_iinc (pc := 85) C dX3_nameAt_85 5 rfl (v := x5 + (1 : Int32)) (by rfl) (by decide) (L2 := [(0, .ref (E.1 + a0)), (1, .int x1), (2, .int x2), (3, .int x3), (4, .int x4), (5, .int (x5 + (1 : Int32)))]) rfl ?_
  refine k_goto (pc := 88) C dX3_nameAt_88 (tgt := 8) (by decide) ?_
  exact hko8 _ _ _ _ _ _ h
def f_X3_nameAt_62 (S : Sh) (R : Rw) (I : Iw) (ko8 : Nat → Int32 → Int32 → Int32 → Int32 → Int32 → Option (Int32)) (a0 : Nat) (x1 : Int32) (x2 : Int32) (x3 : Int32) (x5 : Int32) (s0 : Int32) : Option (Int32) := f_X3_nameAt_85 S R I ko8 a0 x1 x2 x3 s0 x5
set_option maxHeartbeats 4000000 in
theorem b_X3_nameAt_62 {E : Ev} {p : Program} {l : Launch} {e : Env} {s : State} {m : MethodId} {args : Array Value} {below : List Frame} {meth : Method} {c : Code} (C : Cx E RX3 cX3_nameAt 7 p s m c) (hr : meth.sig.returnType = (some .int)) (hk : meth.locks = false) {S : Sh} {R : Rw} {I : Iw} {r : Int32}  {ko8 : Nat → Int32 → Int32 → Int32 → Int32 → Int32 → Option (Int32)} (hko8 : ∀ (a0 : Nat) (x1 : Int32) (x2 : Int32) (x3 : Int32) (x4 : Int32) (x5 : Int32), ko8 a0 x1 x2 x3 x4 x5 = some r → Wk E 7 p l e ({ frames := 6, cells := 0, slots := 0, locals := 200 } : Room) s m args below meth c 0 0 (MQ below (Qw E S R I (some (.int r))) args s 0 0 (fun q => E.1 ≤ q)) 8 [(0, .ref (E.1 + a0)), (1, .int x1), (2, .int x2), (3, .int x3), (4, .int x4), (5, .int x5)] [] S R I) : ∀ (a0 : Nat) (x1 : Int32) (x2 : Int32) (x3 : Int32) (x5 : Int32) (s0 : Int32), f_X3_nameAt_62 S R I ko8  a0 x1 x2 x3 x5 s0 = some r → Wk E 7 p l e ({ frames := 6, cells := 0, slots := 0, locals := 200 } : Room) s m args below meth c 0 0 (MQ below (Qw E S R I (some (.int r))) args s 0 0 (fun q => E.1 ≤ q)) 62 [(0, .ref (E.1 + a0)), (1, .int x1), (2, .int x2), (3, .int x3), (5, .int x5)] [.int s0] S R I := by
  intro a0 x1 x2 x3 x5 s0 h
  rw [f_X3_nameAt_62] at h
  refine k_istore (pc := 62) C dX3_nameAt_62 (by decide) (L2 := [(0, .ref (E.1 + a0)), (1, .int x1), (2, .int x2), (3, .int x3), (4, .int s0), (5, .int x5)]) rfl ?_
  refine k_goto (pc := 64) C dX3_nameAt_64 (tgt := 85) (by decide) ?_
  exact b_X3_nameAt_85 C hr hk hko8 _ _ _ _ _ _ h
def f_X3_nameAt_59 (S : Sh) (R : Rw) (I : Iw) (ko8 : Nat → Int32 → Int32 → Int32 → Int32 → Int32 → Option (Int32)) (a0 : Nat) (x1 : Int32) (x2 : Int32) (x3 : Int32) (x5 : Int32) : Option (Int32) := f_X3_nameAt_62 S R I ko8 a0 x1 x2 x3 x5 (201 : Int32)
set_option maxHeartbeats 4000000 in
theorem b_X3_nameAt_59 {E : Ev} {p : Program} {l : Launch} {e : Env} {s : State} {m : MethodId} {args : Array Value} {below : List Frame} {meth : Method} {c : Code} (C : Cx E RX3 cX3_nameAt 7 p s m c) (hr : meth.sig.returnType = (some .int)) (hk : meth.locks = false) {S : Sh} {R : Rw} {I : Iw} {r : Int32}  {ko8 : Nat → Int32 → Int32 → Int32 → Int32 → Int32 → Option (Int32)} (hko8 : ∀ (a0 : Nat) (x1 : Int32) (x2 : Int32) (x3 : Int32) (x4 : Int32) (x5 : Int32), ko8 a0 x1 x2 x3 x4 x5 = some r → Wk E 7 p l e ({ frames := 6, cells := 0, slots := 0, locals := 200 } : Room) s m args below meth c 0 0 (MQ below (Qw E S R I (some (.int r))) args s 0 0 (fun q => E.1 ≤ q)) 8 [(0, .ref (E.1 + a0)), (1, .int x1), (2, .int x2), (3, .int x3), (4, .int x4), (5, .int x5)] [] S R I) : ∀ (a0 : Nat) (x1 : Int32) (x2 : Int32) (x3 : Int32) (x5 : Int32), f_X3_nameAt_59 S R I ko8  a0 x1 x2 x3 x5 = some r → Wk E 7 p l e ({ frames := 6, cells := 0, slots := 0, locals := 200 } : Room) s m args below meth c 0 0 (MQ below (Qw E S R I (some (.int r))) args s 0 0 (fun q => E.1 ≤ q)) 59 [(0, .ref (E.1 + a0)), (1, .int x1), (2, .int x2), (3, .int x3), (5, .int x5)] [] S R I := by
  intro a0 x1 x2 x3 x5 h
  rw [f_X3_nameAt_59] at h
  refine k_sipush (pc := 59) C (v := (201 : Int32)) dX3_nameAt_59 (by decide) ?_
  exact b_X3_nameAt_62 C hr hk hko8 _ _ _ _ _ _ h
def f_X3_nameAt_8 (S : Sh) (R : Rw) (I : Iw)  : Nat → Nat → Int32 → Int32 → Int32 → Int32 → Int32 → Option (Int32)
  | 0, _, _, _, _, _, _ => none
  | n + 1, a0, x1, x2, x3, x4, x5 => gp (decide (0 < txN)) ((if (nI (txL.getD 0 0)) ≤ x5 then some (30001 : Int32) else gp (chok 0 x5) ((if (chr 0 x5.toNatClampNeg) = (32 : Int32) then (if x4 = x2 then some ((10000 : Int32) + x3) else f_X3_nameAt_85 S R I (f_X3_nameAt_8 S R I  n) a0 x1 x2 (x3 + (1 : Int32)) x1 x5) else (if x2 ≤ x4 then f_X3_nameAt_59 S R I (f_X3_nameAt_8 S R I  n) a0 x1 x2 x3 x5 else gp (sok S a0 3 7) (rl (R a0 1) (fun b8 => gp (aok S 21 b8 x4) ((if (I b8 x4.toNatClampNeg) = (chr 0 x5.toNatClampNeg) then f_X3_nameAt_62 S R I (f_X3_nameAt_8 S R I  n) a0 x1 x2 x3 x5 (x4 + (1 : Int32)) else f_X3_nameAt_59 S R I (f_X3_nameAt_8 S R I  n) a0 x1 x2 x3 x5)))))))))
set_option maxHeartbeats 4000000 in
theorem b_X3_nameAt_8 {E : Ev} {p : Program} {l : Launch} {e : Env} {s : State} {m : MethodId} {args : Array Value} {below : List Frame} {meth : Method} {c : Code} (C : Cx E RX3 cX3_nameAt 7 p s m c) (hr : meth.sig.returnType = (some .int)) (hk : meth.locks = false) {S : Sh} {R : Rw} {I : Iw} {r : Int32}  : ∀ (n : Nat) (a0 : Nat) (x1 : Int32) (x2 : Int32) (x3 : Int32) (x4 : Int32) (x5 : Int32), f_X3_nameAt_8 S R I  n a0 x1 x2 x3 x4 x5 = some r → Wk E 7 p l e ({ frames := 6, cells := 0, slots := 0, locals := 200 } : Room) s m args below meth c 0 0 (MQ below (Qw E S R I (some (.int r))) args s 0 0 (fun q => E.1 ≤ q)) 8 [(0, .ref (E.1 + a0)), (1, .int x1), (2, .int x2), (3, .int x3), (4, .int x4), (5, .int x5)] [] S R I := by
  intro n
  induction n with
  | zero =>
    intro a0 x1 x2 x3 x4 x5 h
    rw [f_X3_nameAt_8] at h
    cases h
  | succ n ih =>
    intro a0 x1 x2 x3 x4 x5 h
    rw [f_X3_nameAt_8] at h
    refine k_iload (pc := 8) C dX3_nameAt_8 5 rfl ?_
    refine k_ldcS (pc := 10) C (i := 0) rfl dX3_nameAt_10 ?_
    obtain ⟨ha1, h⟩ := gp_e h
    refine k_strlen (pc := 12) C (st := [.int x5]) lkSL_RX3 (of_decide_eq_true ha1) rfl (Nat.le_of_ble_eq_true rfl) (Nat.le_of_ble_eq_true rfl) (Nat.le_of_ble_eq_true rfl) (Nat.le_of_ble_eq_true rfl) (Nat.le_of_ble_eq_true rfl) dX3_nameAt_12 ?_
    refine k_nf (cells2 := 0) (slots2 := 0) (st2 := [.int (nI (txL.getD 0 0)), .int x5]) rfl rfl rfl ?_
    refine k_icmp_ge (pc := 15) C dX3_nameAt_15 (tgt := 91) (by decide) (fun hc2 => ?_) (fun hc2 => ?_)
    · rw [if_pos hc2] at h
      refine k_sipush (pc := 91) C (v := (30001 : Int32)) dX3_nameAt_91 (by decide) ?_
      have h := Option.some.inj h
      subst h
      exact k_iret (pc := 94) C hr hk dX3_nameAt_94
    · rw [if_neg hc2] at h
      refine k_ldcS (pc := 18) C (i := 0) rfl dX3_nameAt_18 ?_
      refine k_iload (pc := 20) C dX3_nameAt_20 5 rfl ?_
      obtain ⟨ha3, h⟩ := gp_e h
      refine k_charAt (pc := 22) C (st := []) lkSC_RX3 ha3 rfl (Nat.le_of_ble_eq_true rfl) (Nat.le_of_ble_eq_true rfl) (Nat.le_of_ble_eq_true rfl) (Nat.le_of_ble_eq_true rfl) (Nat.le_of_ble_eq_true rfl) dX3_nameAt_22 ?_
      refine k_nf (cells2 := 0) (slots2 := 0) (st2 := [.int (chr 0 x5.toNatClampNeg)]) rfl rfl rfl ?_
      refine k_istore (pc := 25) C dX3_nameAt_25 (by decide) (L2 := [(0, .ref (E.1 + a0)), (1, .int x1), (2, .int x2), (3, .int x3), (4, .int x4), (5, .int x5), (6, .int (chr 0 x5.toNatClampNeg))]) rfl ?_
      refine k_iload (pc := 27) C dX3_nameAt_27 6 rfl ?_
      refine k_bipush (pc := 29) C (v := (32 : Int32)) dX3_nameAt_29 (by decide) ?_
      refine k_icmp_eq (pc := 31) C dX3_nameAt_31 (tgt := 67) (by decide) (fun hc4 => ?_) (fun hc4 => ?_)
      · rw [if_pos hc4] at h
        refine k_iload (pc := 67) C dX3_nameAt_67 4 rfl ?_
        refine k_iloadn (pc := 69) C dX3_nameAt_69 (i := 2) rfl 2 rfl ?_
        refine k_icmp_ne (pc := 70) C dX3_nameAt_70 (tgt := 79) (by decide) (fun hc5 => ?_) (fun hc5 => ?_)
        · rw [if_neg hc5] at h
          refine k_iinc (pc := 79) C dX3_nameAt_79 3 rfl (v := x3 + (1 : Int32)) (by rfl) (by decide) (L2 := [(0, .ref (E.1 + a0)), (1, .int x1), (2, .int x2), (3, .int (x3 + (1 : Int32))), (4, .int x4), (5, .int x5), (6, .int (chr 0 x5.toNatClampNeg))]) rfl ?_
          refine k_iloadn (pc := 82) C dX3_nameAt_82 (i := 1) rfl 1 rfl ?_
          refine k_istore (pc := 83) C dX3_nameAt_83 (by decide) (L2 := [(0, .ref (E.1 + a0)), (1, .int x1), (2, .int x2), (3, .int (x3 + (1 : Int32))), (4, .int x1), (5, .int x5), (6, .int (chr 0 x5.toNatClampNeg))]) rfl ?_
          refine k_loc (L2 := [(0, .ref (E.1 + a0)), (1, .int x1), (2, .int x2), (3, .int (x3 + (1 : Int32))), (4, .int x1), (5, .int x5)]) [0, 1, 2, 3, 4, 5] rfl ?_
          exact b_X3_nameAt_85 C hr hk ih _ _ _ _ _ _ h
        · rw [if_pos hc5] at h
          refine k_sipush (pc := 73) C (v := (10000 : Int32)) dX3_nameAt_73 (by decide) ?_
          refine k_iloadn (pc := 76) C dX3_nameAt_76 (i := 3) rfl 3 rfl ?_
          refine k_iadd (pc := 77) C dX3_nameAt_77 ?_
          have h := Option.some.inj h
          subst h
          exact k_iret (pc := 78) C hr hk dX3_nameAt_78
      · rw [if_neg hc4] at h
        refine k_iload (pc := 34) C dX3_nameAt_34 4 rfl ?_
        refine k_iloadn (pc := 36) C dX3_nameAt_36 (i := 2) rfl 2 rfl ?_
        refine k_icmp_ge (pc := 37) C dX3_nameAt_37 (tgt := 59) (by decide) (fun hc6 => ?_) (fun hc6 => ?_)
        · rw [if_pos hc6] at h
          refine k_loc (L2 := [(0, .ref (E.1 + a0)), (1, .int x1), (2, .int x2), (3, .int x3), (5, .int x5)]) [0, 1, 2, 3, 5] rfl ?_
          exact b_X3_nameAt_59 C hr hk ih _ _ _ _ _ h
        · rw [if_neg hc6] at h
          refine k_aloadn (pc := 40) C dX3_nameAt_40 (i := 0) rfl 0 rfl ?_
          obtain ⟨hs70, h⟩ := gp_e h
          have hs7 := sok_e hs70
          obtain ⟨b8, hb8, h⟩ := rl_e h
          refine k_getR (pc := 41) C lkF_RX3_9_3 hs7 ir_3_1 hb8 dX3_nameAt_41 ?_
          refine k_iload (pc := 44) C dX3_nameAt_44 4 rfl ?_
          obtain ⟨ha9, h⟩ := gp_e h
          refine k_bald (pc := 46) C ha9 dX3_nameAt_46 ?_
          refine k_iload (pc := 47) C dX3_nameAt_47 6 rfl ?_
          refine k_icmp_ne (pc := 49) C dX3_nameAt_49 (tgt := 59) (by decide) (fun hc10 => ?_) (fun hc10 => ?_)
          · rw [if_neg hc10] at h
            refine k_loc (L2 := [(0, .ref (E.1 + a0)), (1, .int x1), (2, .int x2), (3, .int x3), (5, .int x5)]) [0, 1, 2, 3, 5] rfl ?_
            exact b_X3_nameAt_59 C hr hk ih _ _ _ _ _ h
          · rw [if_pos hc10] at h
            refine k_iload (pc := 52) C dX3_nameAt_52 4 rfl ?_
            refine k_iconst (pc := 54) C (v := (1 : Int32)) dX3_nameAt_54 (by decide) ?_
            refine k_iadd (pc := 55) C dX3_nameAt_55 ?_
            refine k_goto (pc := 56) C dX3_nameAt_56 (tgt := 62) (by decide) ?_
            refine k_loc (L2 := [(0, .ref (E.1 + a0)), (1, .int x1), (2, .int x2), (3, .int x3), (5, .int x5)]) [0, 1, 2, 3, 5] rfl ?_
            exact b_X3_nameAt_62 C hr hk ih _ _ _ _ _ _ h
def f_X3_nameAt (S : Sh) (R : Rw) (I : Iw)  (a0 : Nat) (x1 : Int32) (x2 : Int32) : Option (Int32) := f_X3_nameAt_8 S R I  512 a0 x1 x2 (0 : Int32) x1 (0 : Int32)
set_option maxHeartbeats 4000000 in
theorem b_X3_nameAt {E : Ev} {p : Program} {l : Launch} {e : Env} {s : State} {m : MethodId} {args : Array Value} {below : List Frame} {meth : Method} {c : Code} (C : Cx E RX3 cX3_nameAt 7 p s m c) (hr : meth.sig.returnType = (some .int)) (hk : meth.locks = false) {S : Sh} {R : Rw} {I : Iw} {r : Int32}  : ∀ (a0 : Nat) (x1 : Int32) (x2 : Int32), f_X3_nameAt S R I   a0 x1 x2 = some r → Wk E 7 p l e ({ frames := 6, cells := 0, slots := 0, locals := 200 } : Room) s m args below meth c 0 0 (MQ below (Qw E S R I (some (.int r))) args s 0 0 (fun q => E.1 ≤ q)) 0 [(0, .ref (E.1 + a0)), (1, .int x1), (2, .int x2)] [] S R I := by
  intro a0 x1 x2 h
  rw [f_X3_nameAt] at h
  refine k_iconst (pc := 0) C (v := (0 : Int32)) dX3_nameAt_0 (by decide) ?_
  refine k_istoren (pc := 1) C dX3_nameAt_1 (i := 3) rfl (by decide) (L2 := [(0, .ref (E.1 + a0)), (1, .int x1), (2, .int x2), (3, .int (0 : Int32))]) rfl ?_
  refine k_iloadn (pc := 2) C dX3_nameAt_2 (i := 1) rfl 1 rfl ?_
  refine k_istore (pc := 3) C dX3_nameAt_3 (by decide) (L2 := [(0, .ref (E.1 + a0)), (1, .int x1), (2, .int x2), (3, .int (0 : Int32)), (4, .int x1)]) rfl ?_
  refine k_iconst (pc := 5) C (v := (0 : Int32)) dX3_nameAt_5 (by decide) ?_
  refine k_istore (pc := 6) C dX3_nameAt_6 (by decide) (L2 := [(0, .ref (E.1 + a0)), (1, .int x1), (2, .int x2), (3, .int (0 : Int32)), (4, .int x1), (5, .int (0 : Int32))]) rfl ?_
  exact b_X3_nameAt_8 C hr hk  _ _ _ _ _ _ _ h
theorem c_X3_nameAt {E : Ev} {l : Launch} {S : Sh} {R : Rw} {I : Iw} {a0 : Nat} {x1 : Int32} {x2 : Int32} {r : Int32} (h : f_X3_nameAt S R I a0 x1 x2 = some r) : Mt E l yX3_nameAt cX3_nameAt 7 (some .int) 6 200 [.ref (E.1 + a0), .int x1, .int x2] S R I S R I (some (.int r)) 0 0 := mt_of (by decide) (Nat.le_of_ble_eq_true rfl) (fun p e s m args below meth c C hr hk hn => b_X3_nameAt C hr hk _ _ _ h)
