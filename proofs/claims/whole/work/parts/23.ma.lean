/-! X11_change, X11_remake, X11_let, X11_feed, X11_rules, X11_beside, X11_mates, X11_may -/
theorem lkV_RX11_108 : LkV RX11 108 RX7 yX7_renewMates cX7_renewMates 4 none 0 := ⟨(t2_in 125 (by decide +kernel) rfl), (t2_in 42 (by decide +kernel) rfl), (t2_in 43 (by decide +kernel) rfl), (t2_in 44 (by decide +kernel) rfl), (t1_in 2 (by decide +kernel) rfl), by decide, by decide +kernel⟩
theorem dX11_change_0 : decode cX11_change 0 = .ok (.aload_n 0, 1) := by decide +kernel
theorem dX11_change_1 : decode cX11_change 1 = .ok (.getfield 12, 3) := by decide +kernel
theorem dX11_change_4 : decode cX11_change 4 = .ok (.iload_n 1, 1) := by decide +kernel
theorem dX11_change_5 : decode cX11_change 5 = .ok (.invokevirtual 63, 3) := by decide +kernel
theorem dX11_change_8 : decode cX11_change 8 = .ok (.ifCond .ne 5, 3) := by decide +kernel
theorem dX11_change_11 : decode cX11_change 11 = .ok (.iconst (-1), 1) := by decide +kernel
theorem dX11_change_12 : decode cX11_change 12 = .ok (.ireturn, 1) := by decide +kernel
theorem dX11_change_13 : decode cX11_change 13 = .ok (.iload_n 2, 1) := by decide +kernel
theorem dX11_change_14 : decode cX11_change 14 = .ok (.iconst 2, 1) := by decide +kernel
theorem dX11_change_15 : decode cX11_change 15 = .ok (.if_icmp .ne 44, 3) := by decide +kernel
theorem dX11_change_18 : decode cX11_change 18 = .ok (.iload_n 3, 1) := by decide +kernel
theorem dX11_change_19 : decode cX11_change 19 = .ok (.iconst 0, 1) := by decide +kernel
theorem dX11_change_20 : decode cX11_change 20 = .ok (.bipush 9, 2) := by decide +kernel
theorem dX11_change_22 : decode cX11_change 22 = .ok (.invokestatic 55, 3) := by decide +kernel
theorem dX11_change_25 : decode cX11_change 25 = .ok (.ifCond .eq 34, 3) := by decide +kernel
theorem dX11_change_28 : decode cX11_change 28 = .ok (.aload_n 0, 1) := by decide +kernel
theorem dX11_change_29 : decode cX11_change 29 = .ok (.getfield 12, 3) := by decide +kernel
theorem dX11_change_32 : decode cX11_change 32 = .ok (.getfield 73, 3) := by decide +kernel
theorem dX11_change_35 : decode cX11_change 35 = .ok (.iload_n 1, 1) := by decide +kernel
theorem dX11_change_36 : decode cX11_change 36 = .ok (.iaload, 1) := by decide +kernel
theorem dX11_change_37 : decode cX11_change 37 = .ok (.istore 4, 2) := by decide +kernel
theorem dX11_change_39 : decode cX11_change 39 = .ok (.aload_n 0, 1) := by decide +kernel
theorem dX11_change_40 : decode cX11_change 40 = .ok (.getfield 12, 3) := by decide +kernel
theorem dX11_change_43 : decode cX11_change 43 = .ok (.getfield 73, 3) := by decide +kernel
theorem dX11_change_46 : decode cX11_change 46 = .ok (.iload_n 1, 1) := by decide +kernel
theorem dX11_change_47 : decode cX11_change 47 = .ok (.iload_n 3, 1) := by decide +kernel
theorem dX11_change_48 : decode cX11_change 48 = .ok (.iastore, 1) := by decide +kernel
theorem dX11_change_49 : decode cX11_change 49 = .ok (.aload_n 0, 1) := by decide +kernel
theorem dX11_change_50 : decode cX11_change 50 = .ok (.getfield 12, 3) := by decide +kernel
theorem dX11_change_53 : decode cX11_change 53 = .ok (.invokevirtual 108, 3) := by decide +kernel
theorem dX11_change_56 : decode cX11_change 56 = .ok (.iload 4, 2) := by decide +kernel
theorem dX11_change_58 : decode cX11_change 58 = .ok (.ireturn, 1) := by decide +kernel
theorem dX11_change_59 : decode cX11_change 59 = .ok (.iload_n 2, 1) := by decide +kernel
theorem dX11_change_60 : decode cX11_change 60 = .ok (.iconst 3, 1) := by decide +kernel
theorem dX11_change_61 : decode cX11_change 61 = .ok (.if_icmp .ne 38, 3) := by decide +kernel
theorem dX11_change_64 : decode cX11_change 64 = .ok (.iload_n 3, 1) := by decide +kernel
theorem dX11_change_65 : decode cX11_change 65 = .ok (.iconst 1, 1) := by decide +kernel
theorem dX11_change_66 : decode cX11_change 66 = .ok (.sipush 999, 3) := by decide +kernel
theorem dX11_change_69 : decode cX11_change 69 = .ok (.invokestatic 55, 3) := by decide +kernel
theorem dX11_change_72 : decode cX11_change 72 = .ok (.ifCond .eq 27, 3) := by decide +kernel
theorem dX11_change_75 : decode cX11_change 75 = .ok (.aload_n 0, 1) := by decide +kernel
theorem dX11_change_76 : decode cX11_change 76 = .ok (.getfield 12, 3) := by decide +kernel
theorem dX11_change_79 : decode cX11_change 79 = .ok (.getfield 76, 3) := by decide +kernel
theorem dX11_change_82 : decode cX11_change 82 = .ok (.iload_n 1, 1) := by decide +kernel
theorem dX11_change_83 : decode cX11_change 83 = .ok (.iaload, 1) := by decide +kernel
theorem dX11_change_84 : decode cX11_change 84 = .ok (.istore 4, 2) := by decide +kernel
theorem dX11_change_86 : decode cX11_change 86 = .ok (.aload_n 0, 1) := by decide +kernel
theorem dX11_change_87 : decode cX11_change 87 = .ok (.getfield 12, 3) := by decide +kernel
theorem dX11_change_90 : decode cX11_change 90 = .ok (.getfield 76, 3) := by decide +kernel
theorem dX11_change_93 : decode cX11_change 93 = .ok (.iload_n 1, 1) := by decide +kernel
theorem dX11_change_94 : decode cX11_change 94 = .ok (.iload_n 3, 1) := by decide +kernel
theorem dX11_change_95 : decode cX11_change 95 = .ok (.iastore, 1) := by decide +kernel
theorem dX11_change_96 : decode cX11_change 96 = .ok (.iload 4, 2) := by decide +kernel
theorem dX11_change_98 : decode cX11_change 98 = .ok (.ireturn, 1) := by decide +kernel
theorem dX11_change_99 : decode cX11_change 99 = .ok (.iconst (-1), 1) := by decide +kernel
theorem dX11_change_100 : decode cX11_change 100 = .ok (.ireturn, 1) := by decide +kernel
def f_X11_change_59 (S : Sh) (R : Rw)  (I : Iw) (a0 : Nat) (x1 : Int32) (x2 : Int32) (x3 : Int32) : Option (Iw × Int32) := (if x2 = (3 : Int32) then bd (f_X11_isBetween S R I x3 (1 : Int32) (999 : Int32)) (fun r8 => (if r8 = 0 then some (I, (-1 : Int32)) else gp (sok S a0 11 12) (rl (R a0 0) (fun b11 => gp (sok S b11 7 16) (rl (R b11 3) (fun b13 => gp (aok S 20 b13 x1) (rl (R a0 0) (fun b15 => gp (sok S b15 7 16) (rl (R b15 3) (fun b17 => gp (aok S 20 b17 x1) (lt (up2 I b17 x1.toNatClampNeg x3) (fun I19 => some (I19, I b13 x1.toNatClampNeg))))))))))))) else some (I, (-1 : Int32)))
set_option maxHeartbeats 4000000 in
theorem b_X11_change_59 {E : Ev} {p : Program} {l : Launch} {e : Env} {s : State} {m : MethodId} {args : Array Value} {below : List Frame} {meth : Method} {c : Code} (C : Cx E RX11 cX11_change 5 p s m c) (hr : meth.sig.returnType = (some .int)) (hk : meth.locks = false) {S : Sh} {R : Rw} {r : Iw × Int32}  : ∀ (I : Iw) (a0 : Nat) (x1 : Int32) (x2 : Int32) (x3 : Int32), f_X11_change_59 S R   I a0 x1 x2 x3 = some r → Wk E 5 p l e ({ frames := 5, cells := 0, slots := 0, locals := 111 } : Room) s m args below meth c 0 0 (MQ below (Qw E S R r.1 (some (.int r.2))) args s 0 0 (fun q => E.1 ≤ q)) 59 [(0, .ref (E.1 + a0)), (1, .int x1), (2, .int x2), (3, .int x3)] [] S R I := by
  intro I a0 x1 x2 x3 h
  rw [f_X11_change_59] at h
  refine k_iloadn (pc := 59) C dX11_change_59 (i := 2) rfl 2 rfl ?_
  refine k_iconst (pc := 60) C (v := (3 : Int32)) dX11_change_60 (by decide) ?_
  refine k_icmp_ne (pc := 61) C dX11_change_61 (tgt := 99) (by decide) (fun hc7 => ?_) (fun hc7 => ?_)
  · rw [if_neg hc7] at h
    refine k_iconst (pc := 99) C (v := (-1 : Int32)) dX11_change_99 (by decide) ?_
    have h := Option.some.inj h
    subst h
    exact k_iret (pc := 100) C hr hk dX11_change_100
  · rw [if_pos hc7] at h
    refine k_iloadn (pc := 64) C dX11_change_64 (i := 3) rfl 3 rfl ?_
    refine k_iconst (pc := 65) C (v := (1 : Int32)) dX11_change_65 (by decide) ?_
    refine k_sipush (pc := 66) C (v := (999 : Int32)) dX11_change_66 (by decide) ?_
    obtain ⟨r8, hr8, h⟩ := bd_e h
    refine k_S (pc := 69) (st := []) C (c_X11_isBetween hr8) lkS_RX11_55 rfl rfl (Nat.le_of_ble_eq_true rfl) (Nat.le_of_ble_eq_true rfl) (Nat.le_of_ble_eq_true rfl) (Nat.le_of_ble_eq_true rfl) (Nat.le_of_ble_eq_true rfl) dX11_change_69 ?_
    refine k_nf (cells2 := 0) (slots2 := 0) (st2 := [.int r8]) rfl rfl rfl ?_
    refine k_if_eq (pc := 72) C dX11_change_72 (tgt := 99) (by decide) (fun hc9 => ?_) (fun hc9 => ?_)
    · rw [if_pos hc9] at h
      refine k_iconst (pc := 99) C (v := (-1 : Int32)) dX11_change_99 (by decide) ?_
      have h := Option.some.inj h
      subst h
      exact k_iret (pc := 100) C hr hk dX11_change_100
    · rw [if_neg hc9] at h
      refine k_aloadn (pc := 75) C dX11_change_75 (i := 0) rfl 0 rfl ?_
      obtain ⟨hs100, h⟩ := gp_e h
      have hs10 := sok_e hs100
      obtain ⟨b11, hb11, h⟩ := rl_e h
      refine k_getR (pc := 76) C lkF_RX11_12_11 hs10 ir_11_0 hb11 dX11_change_76 ?_
      obtain ⟨hs120, h⟩ := gp_e h
      have hs12 := sok_e hs120
      obtain ⟨b13, hb13, h⟩ := rl_e h
      refine k_getR (pc := 79) C lkF_RX11_76_7 hs12 ir_7_3 hb13 dX11_change_79 ?_
      refine k_iloadn (pc := 82) C dX11_change_82 (i := 1) rfl 1 rfl ?_
      obtain ⟨ha14, h⟩ := gp_e h
      refine k_iald (pc := 83) C ha14 dX11_change_83 ?_
      refine k_istore (pc := 84) C dX11_change_84 (by decide) (L2 := [(0, .ref (E.1 + a0)), (1, .int x1), (2, .int x2), (3, .int x3), (4, .int (I b13 x1.toNatClampNeg))]) rfl ?_
      refine k_aloadn (pc := 86) C dX11_change_86 (i := 0) rfl 0 rfl ?_
      obtain ⟨b15, hb15, h⟩ := rl_e h
      refine k_getR (pc := 87) C lkF_RX11_12_11 hs10 ir_11_0 hb15 dX11_change_87 ?_
      obtain ⟨hs160, h⟩ := gp_e h
      have hs16 := sok_e hs160
      obtain ⟨b17, hb17, h⟩ := rl_e h
      refine k_getR (pc := 90) C lkF_RX11_76_7 hs16 ir_7_3 hb17 dX11_change_90 ?_
      refine k_iloadn (pc := 93) C dX11_change_93 (i := 1) rfl 1 rfl ?_
      refine k_iloadn (pc := 94) C dX11_change_94 (i := 3) rfl 3 rfl ?_
      obtain ⟨ha18, h⟩ := gp_e h
      obtain ⟨I19, eI19, h⟩ := lt_e h
      refine k_iast (pc := 95) C ha18 dX11_change_95 ?_
      rw [← eI19]
      refine k_iload (pc := 96) C dX11_change_96 4 rfl ?_
      have h := Option.some.inj h
      subst h
      exact k_iret (pc := 98) C hr hk dX11_change_98
def f_X11_change (S : Sh) (R : Rw)  (I : Iw) (a0 : Nat) (x1 : Int32) (x2 : Int32) (x3 : Int32) : Option (Iw × Int32) := gp (sok S a0 11 12) (rl (R a0 0) (fun b2 => gp (sok S b2 7 16) (bd (f_X7_has S R I b2 x1) (fun r4 => (if r4 = 0 then some (I, (-1 : Int32)) else (if x2 = (2 : Int32) then bd (f_X11_isBetween S R I x3 (0 : Int32) (9 : Int32)) (fun r20 => (if r20 = 0 then f_X11_change_59 S R  I a0 x1 x2 x3 else rl (R a0 0) (fun b22 => gp (sok S b22 7 16) (rl (R b22 2) (fun b24 => gp (aok S 20 b24 x1) (rl (R a0 0) (fun b26 => gp (sok S b26 7 16) (rl (R b26 2) (fun b28 => gp (aok S 20 b28 x1) (lt (up2 I b28 x1.toNatClampNeg x3) (fun I30 => rl (R a0 0) (fun b31 => gp (sok S b31 7 16) (bd (f_X7_renewMates S R I30 b31) (fun r33 => some (r33, I b24 x1.toNatClampNeg))))))))))))))) else f_X11_change_59 S R  I a0 x1 x2 x3))))))
set_option maxHeartbeats 4000000 in
theorem b_X11_change {E : Ev} {p : Program} {l : Launch} {e : Env} {s : State} {m : MethodId} {args : Array Value} {below : List Frame} {meth : Method} {c : Code} (C : Cx E RX11 cX11_change 5 p s m c) (hr : meth.sig.returnType = (some .int)) (hk : meth.locks = false) {S : Sh} {R : Rw} {r : Iw × Int32}  : ∀ (I : Iw) (a0 : Nat) (x1 : Int32) (x2 : Int32) (x3 : Int32), f_X11_change S R   I a0 x1 x2 x3 = some r → Wk E 5 p l e ({ frames := 5, cells := 0, slots := 0, locals := 111 } : Room) s m args below meth c 0 0 (MQ below (Qw E S R r.1 (some (.int r.2))) args s 0 0 (fun q => E.1 ≤ q)) 0 [(0, .ref (E.1 + a0)), (1, .int x1), (2, .int x2), (3, .int x3)] [] S R I := by
  intro I a0 x1 x2 x3 h
  rw [f_X11_change] at h
  refine k_aloadn (pc := 0) C dX11_change_0 (i := 0) rfl 0 rfl ?_
  obtain ⟨hs10, h⟩ := gp_e h
  have hs1 := sok_e hs10
  obtain ⟨b2, hb2, h⟩ := rl_e h
  refine k_getR (pc := 1) C lkF_RX11_12_11 hs1 ir_11_0 hb2 dX11_change_1 ?_
  refine k_iloadn (pc := 4) C dX11_change_4 (i := 1) rfl 1 rfl ?_
  obtain ⟨hs30, h⟩ := gp_e h
  have hs3 := sok_e hs30
  obtain ⟨r4, hr4, h⟩ := bd_e h
  refine k_V (pc := 5) (st := []) C (c_X7_has hr4) lkV_RX11_63 hs3 rfl rfl rfl (Nat.le_of_ble_eq_true rfl) (Nat.le_of_ble_eq_true rfl) (Nat.le_of_ble_eq_true rfl) (Nat.le_of_ble_eq_true rfl) (Nat.le_of_ble_eq_true rfl) dX11_change_5 ?_
  refine k_nf (cells2 := 0) (slots2 := 0) (st2 := [.int r4]) rfl rfl rfl ?_
  refine k_if_ne (pc := 8) C dX11_change_8 (tgt := 13) (by decide) (fun hc5 => ?_) (fun hc5 => ?_)
  · rw [if_neg hc5] at h
    refine k_iloadn (pc := 13) C dX11_change_13 (i := 2) rfl 2 rfl ?_
    refine k_iconst (pc := 14) C (v := (2 : Int32)) dX11_change_14 (by decide) ?_
    refine k_icmp_ne (pc := 15) C dX11_change_15 (tgt := 59) (by decide) (fun hc6 => ?_) (fun hc6 => ?_)
    · rw [if_neg hc6] at h
      exact b_X11_change_59 C hr hk  _ _ _ _ _ h
    · rw [if_pos hc6] at h
      refine k_iloadn (pc := 18) C dX11_change_18 (i := 3) rfl 3 rfl ?_
      refine k_iconst (pc := 19) C (v := (0 : Int32)) dX11_change_19 (by decide) ?_
      refine k_bipush (pc := 20) C (v := (9 : Int32)) dX11_change_20 (by decide) ?_
      obtain ⟨r20, hr20, h⟩ := bd_e h
      refine k_S (pc := 22) (st := []) C (c_X11_isBetween hr20) lkS_RX11_55 rfl rfl (Nat.le_of_ble_eq_true rfl) (Nat.le_of_ble_eq_true rfl) (Nat.le_of_ble_eq_true rfl) (Nat.le_of_ble_eq_true rfl) (Nat.le_of_ble_eq_true rfl) dX11_change_22 ?_
      refine k_nf (cells2 := 0) (slots2 := 0) (st2 := [.int r20]) rfl rfl rfl ?_
      refine k_if_eq (pc := 25) C dX11_change_25 (tgt := 59) (by decide) (fun hc21 => ?_) (fun hc21 => ?_)
      · rw [if_pos hc21] at h
        exact b_X11_change_59 C hr hk  _ _ _ _ _ h
      · rw [if_neg hc21] at h
        refine k_aloadn (pc := 28) C dX11_change_28 (i := 0) rfl 0 rfl ?_
        obtain ⟨b22, hb22, h⟩ := rl_e h
        refine k_getR (pc := 29) C lkF_RX11_12_11 hs1 ir_11_0 hb22 dX11_change_29 ?_
        obtain ⟨hs230, h⟩ := gp_e h
        have hs23 := sok_e hs230
        obtain ⟨b24, hb24, h⟩ := rl_e h
        refine k_getR (pc := 32) C lkF_RX11_73_7 hs23 ir_7_2 hb24 dX11_change_32 ?_
        refine k_iloadn (pc := 35) C dX11_change_35 (i := 1) rfl 1 rfl ?_
        obtain ⟨ha25, h⟩ := gp_e h
        refine k_iald (pc := 36) C ha25 dX11_change_36 ?_
        refine k_istore (pc := 37) C dX11_change_37 (by decide) (L2 := [(0, .ref (E.1 + a0)), (1, .int x1), (2, .int x2), (3, .int x3), (4, .int (I b24 x1.toNatClampNeg))]) rfl ?_
        refine k_aloadn (pc := 39) C dX11_change_39 (i := 0) rfl 0 rfl ?_
        obtain ⟨b26, hb26, h⟩ := rl_e h
        refine k_getR (pc := 40) C lkF_RX11_12_11 hs1 ir_11_0 hb26 dX11_change_40 ?_
        obtain ⟨hs270, h⟩ := gp_e h
        have hs27 := sok_e hs270
        obtain ⟨b28, hb28, h⟩ := rl_e h
        refine k_getR (pc := 43) C lkF_RX11_73_7 hs27 ir_7_2 hb28 dX11_change_43 ?_
        refine k_iloadn (pc := 46) C dX11_change_46 (i := 1) rfl 1 rfl ?_
        refine k_iloadn (pc := 47) C dX11_change_47 (i := 3) rfl 3 rfl ?_
        obtain ⟨ha29, h⟩ := gp_e h
        obtain ⟨I30, eI30, h⟩ := lt_e h
        refine k_iast (pc := 48) C ha29 dX11_change_48 ?_
        rw [← eI30]
        refine k_aloadn (pc := 49) C dX11_change_49 (i := 0) rfl 0 rfl ?_
        obtain ⟨b31, hb31, h⟩ := rl_e h
        refine k_getR (pc := 50) C lkF_RX11_12_11 hs1 ir_11_0 hb31 dX11_change_50 ?_
        obtain ⟨hs320, h⟩ := gp_e h
        have hs32 := sok_e hs320
        obtain ⟨r33, hr33, h⟩ := bd_e h
        refine k_V (pc := 53) (st := []) C (c_X7_renewMates hr33) lkV_RX11_108 hs32 rfl rfl rfl (Nat.le_of_ble_eq_true rfl) (Nat.le_of_ble_eq_true rfl) (Nat.le_of_ble_eq_true rfl) (Nat.le_of_ble_eq_true rfl) (Nat.le_of_ble_eq_true rfl) dX11_change_53 ?_
        refine k_nf (cells2 := 0) (slots2 := 0) (st2 := []) rfl rfl rfl ?_
        refine k_iload (pc := 56) C dX11_change_56 4 rfl ?_
        have h := Option.some.inj h
        subst h
        exact k_iret (pc := 58) C hr hk dX11_change_58
  · rw [if_pos hc5] at h
    refine k_iconst (pc := 11) C (v := (-1 : Int32)) dX11_change_11 (by decide) ?_
    have h := Option.some.inj h
    subst h
    exact k_iret (pc := 12) C hr hk dX11_change_12
theorem c_X11_change {E : Ev} {l : Launch} {S : Sh} {R : Rw} {I : Iw} {a0 : Nat} {x1 : Int32} {x2 : Int32} {x3 : Int32} {r : Iw × Int32} (h : f_X11_change S R I a0 x1 x2 x3 = some r) : Mt E l yX11_change cX11_change 5 (some .int) 5 111 [.ref (E.1 + a0), .int x1, .int x2, .int x3] S R I S R r.1 (some (.int r.2)) 0 0 := mt_of (by decide) (Nat.le_of_ble_eq_true rfl) (fun p e s m args below meth c C hr hk hn => b_X11_change C hr hk _ _ _ _ _ h)
theorem lkV_RX11_111 : LkV RX11 111 RX7 yX7_becomeKind cX7_becomeKind 3 none 2 := ⟨(t2_in 130 (by decide +kernel) rfl), (t2_in 131 (by decide +kernel) rfl), (t2_in 132 (by decide +kernel) rfl), (t2_in 133 (by decide +kernel) rfl), (t1_in 2 (by decide +kernel) rfl), by decide, by decide +kernel⟩
theorem dX11_remake_0 : decode cX11_remake 0 = .ok (.aload_n 0, 1) := by decide +kernel
theorem dX11_remake_1 : decode cX11_remake 1 = .ok (.getfield 12, 3) := by decide +kernel
theorem dX11_remake_4 : decode cX11_remake 4 = .ok (.iload_n 1, 1) := by decide +kernel
theorem dX11_remake_5 : decode cX11_remake 5 = .ok (.invokevirtual 63, 3) := by decide +kernel
theorem dX11_remake_8 : decode cX11_remake 8 = .ok (.ifCond .eq 12, 3) := by decide +kernel
theorem dX11_remake_11 : decode cX11_remake 11 = .ok (.iload_n 2, 1) := by decide +kernel
theorem dX11_remake_12 : decode cX11_remake 12 = .ok (.iconst 1, 1) := by decide +kernel
theorem dX11_remake_13 : decode cX11_remake 13 = .ok (.iconst 5, 1) := by decide +kernel
theorem dX11_remake_14 : decode cX11_remake 14 = .ok (.invokestatic 55, 3) := by decide +kernel
theorem dX11_remake_17 : decode cX11_remake 17 = .ok (.ifCond .ne 5, 3) := by decide +kernel
theorem dX11_remake_20 : decode cX11_remake 20 = .ok (.iconst (-1), 1) := by decide +kernel
theorem dX11_remake_21 : decode cX11_remake 21 = .ok (.ireturn, 1) := by decide +kernel
theorem dX11_remake_22 : decode cX11_remake 22 = .ok (.aload_n 0, 1) := by decide +kernel
theorem dX11_remake_23 : decode cX11_remake 23 = .ok (.getfield 12, 3) := by decide +kernel
theorem dX11_remake_26 : decode cX11_remake 26 = .ok (.getfield 67, 3) := by decide +kernel
theorem dX11_remake_29 : decode cX11_remake 29 = .ok (.iload_n 1, 1) := by decide +kernel
theorem dX11_remake_30 : decode cX11_remake 30 = .ok (.iaload, 1) := by decide +kernel
theorem dX11_remake_31 : decode cX11_remake 31 = .ok (.istore_n 3, 1) := by decide +kernel
theorem dX11_remake_32 : decode cX11_remake 32 = .ok (.aload_n 0, 1) := by decide +kernel
theorem dX11_remake_33 : decode cX11_remake 33 = .ok (.getfield 12, 3) := by decide +kernel
theorem dX11_remake_36 : decode cX11_remake 36 = .ok (.iload_n 1, 1) := by decide +kernel
theorem dX11_remake_37 : decode cX11_remake 37 = .ok (.iload_n 2, 1) := by decide +kernel
theorem dX11_remake_38 : decode cX11_remake 38 = .ok (.invokevirtual 111, 3) := by decide +kernel
theorem dX11_remake_41 : decode cX11_remake 41 = .ok (.iload_n 3, 1) := by decide +kernel
theorem dX11_remake_42 : decode cX11_remake 42 = .ok (.ireturn, 1) := by decide +kernel
def f_X11_remake (S : Sh) (R : Rw)  (I : Iw) (a0 : Nat) (x1 : Int32) (x2 : Int32) : Option (Iw × Int32) := gp (sok S a0 11 12) (rl (R a0 0) (fun b2 => gp (sok S b2 7 16) (bd (f_X7_has S R I b2 x1) (fun r4 => (if r4 = 0 then some (I, (-1 : Int32)) else bd (f_X11_isBetween S R I x2 (1 : Int32) (5 : Int32)) (fun r6 => (if r6 = 0 then some (I, (-1 : Int32)) else rl (R a0 0) (fun b8 => gp (sok S b8 7 16) (rl (R b8 0) (fun b10 => gp (aok S 20 b10 x1) (rl (R a0 0) (fun b12 => gp (sok S b12 7 16) (bd (f_X7_becomeKind S R I b12 x1 x2) (fun r14 => some (r14, I b10 x1.toNatClampNeg)))))))))))))))
set_option maxHeartbeats 4000000 in
theorem b_X11_remake {E : Ev} {p : Program} {l : Launch} {e : Env} {s : State} {m : MethodId} {args : Array Value} {below : List Frame} {meth : Method} {c : Code} (C : Cx E RX11 cX11_remake 4 p s m c) (hr : meth.sig.returnType = (some .int)) (hk : meth.locks = false) {S : Sh} {R : Rw} {r : Iw × Int32}  : ∀ (I : Iw) (a0 : Nat) (x1 : Int32) (x2 : Int32), f_X11_remake S R   I a0 x1 x2 = some r → Wk E 4 p l e ({ frames := 6, cells := 0, slots := 0, locals := 133 } : Room) s m args below meth c 0 0 (MQ below (Qw E S R r.1 (some (.int r.2))) args s 0 0 (fun q => E.1 ≤ q)) 0 [(0, .ref (E.1 + a0)), (1, .int x1), (2, .int x2)] [] S R I := by
  intro I a0 x1 x2 h
  rw [f_X11_remake] at h
  refine k_aloadn (pc := 0) C dX11_remake_0 (i := 0) rfl 0 rfl ?_
  obtain ⟨hs10, h⟩ := gp_e h
  have hs1 := sok_e hs10
  obtain ⟨b2, hb2, h⟩ := rl_e h
  refine k_getR (pc := 1) C lkF_RX11_12_11 hs1 ir_11_0 hb2 dX11_remake_1 ?_
  refine k_iloadn (pc := 4) C dX11_remake_4 (i := 1) rfl 1 rfl ?_
  obtain ⟨hs30, h⟩ := gp_e h
  have hs3 := sok_e hs30
  obtain ⟨r4, hr4, h⟩ := bd_e h
  refine k_V (pc := 5) (st := []) C (c_X7_has hr4) lkV_RX11_63 hs3 rfl rfl rfl (Nat.le_of_ble_eq_true rfl) (Nat.le_of_ble_eq_true rfl) (Nat.le_of_ble_eq_true rfl) (Nat.le_of_ble_eq_true rfl) (Nat.le_of_ble_eq_true rfl) dX11_remake_5 ?_
  refine k_nf (cells2 := 0) (slots2 := 0) (st2 := [.int r4]) rfl rfl rfl ?_
  refine k_if_eq (pc := 8) C dX11_remake_8 (tgt := 20) (by decide) (fun hc5 => ?_) (fun hc5 => ?_)
  · rw [if_pos hc5] at h
    refine k_iconst (pc := 20) C (v := (-1 : Int32)) dX11_remake_20 (by decide) ?_
    have h := Option.some.inj h
    subst h
    exact k_iret (pc := 21) C hr hk dX11_remake_21
  · rw [if_neg hc5] at h
    refine k_iloadn (pc := 11) C dX11_remake_11 (i := 2) rfl 2 rfl ?_
    refine k_iconst (pc := 12) C (v := (1 : Int32)) dX11_remake_12 (by decide) ?_
    refine k_iconst (pc := 13) C (v := (5 : Int32)) dX11_remake_13 (by decide) ?_
    obtain ⟨r6, hr6, h⟩ := bd_e h
    refine k_S (pc := 14) (st := []) C (c_X11_isBetween hr6) lkS_RX11_55 rfl rfl (Nat.le_of_ble_eq_true rfl) (Nat.le_of_ble_eq_true rfl) (Nat.le_of_ble_eq_true rfl) (Nat.le_of_ble_eq_true rfl) (Nat.le_of_ble_eq_true rfl) dX11_remake_14 ?_
    refine k_nf (cells2 := 0) (slots2 := 0) (st2 := [.int r6]) rfl rfl rfl ?_
    refine k_if_ne (pc := 17) C dX11_remake_17 (tgt := 22) (by decide) (fun hc7 => ?_) (fun hc7 => ?_)
    · rw [if_neg hc7] at h
      refine k_aloadn (pc := 22) C dX11_remake_22 (i := 0) rfl 0 rfl ?_
      obtain ⟨b8, hb8, h⟩ := rl_e h
      refine k_getR (pc := 23) C lkF_RX11_12_11 hs1 ir_11_0 hb8 dX11_remake_23 ?_
      obtain ⟨hs90, h⟩ := gp_e h
      have hs9 := sok_e hs90
      obtain ⟨b10, hb10, h⟩ := rl_e h
      refine k_getR (pc := 26) C lkF_RX11_67_7 hs9 ir_7_0 hb10 dX11_remake_26 ?_
      refine k_iloadn (pc := 29) C dX11_remake_29 (i := 1) rfl 1 rfl ?_
      obtain ⟨ha11, h⟩ := gp_e h
      refine k_iald (pc := 30) C ha11 dX11_remake_30 ?_
      refine k_istoren (pc := 31) C dX11_remake_31 (i := 3) rfl (by decide) (L2 := [(0, .ref (E.1 + a0)), (1, .int x1), (2, .int x2), (3, .int (I b10 x1.toNatClampNeg))]) rfl ?_
      refine k_aloadn (pc := 32) C dX11_remake_32 (i := 0) rfl 0 rfl ?_
      obtain ⟨b12, hb12, h⟩ := rl_e h
      refine k_getR (pc := 33) C lkF_RX11_12_11 hs1 ir_11_0 hb12 dX11_remake_33 ?_
      refine k_iloadn (pc := 36) C dX11_remake_36 (i := 1) rfl 1 rfl ?_
      refine k_iloadn (pc := 37) C dX11_remake_37 (i := 2) rfl 2 rfl ?_
      obtain ⟨hs130, h⟩ := gp_e h
      have hs13 := sok_e hs130
      obtain ⟨r14, hr14, h⟩ := bd_e h
      refine k_V (pc := 38) (st := []) C (c_X7_becomeKind hr14) lkV_RX11_111 hs13 rfl rfl rfl (Nat.le_of_ble_eq_true rfl) (Nat.le_of_ble_eq_true rfl) (Nat.le_of_ble_eq_true rfl) (Nat.le_of_ble_eq_true rfl) (Nat.le_of_ble_eq_true rfl) dX11_remake_38 ?_
      refine k_nf (cells2 := 0) (slots2 := 0) (st2 := []) rfl rfl rfl ?_
      refine k_iloadn (pc := 41) C dX11_remake_41 (i := 3) rfl 3 rfl ?_
      have h := Option.some.inj h
      subst h
      exact k_iret (pc := 42) C hr hk dX11_remake_42
    · rw [if_pos hc7] at h
      refine k_iconst (pc := 20) C (v := (-1 : Int32)) dX11_remake_20 (by decide) ?_
      have h := Option.some.inj h
      subst h
      exact k_iret (pc := 21) C hr hk dX11_remake_21
theorem c_X11_remake {E : Ev} {l : Launch} {S : Sh} {R : Rw} {I : Iw} {a0 : Nat} {x1 : Int32} {x2 : Int32} {r : Iw × Int32} (h : f_X11_remake S R I a0 x1 x2 = some r) : Mt E l yX11_remake cX11_remake 4 (some .int) 6 133 [.ref (E.1 + a0), .int x1, .int x2] S R I S R r.1 (some (.int r.2)) 0 0 := mt_of (by decide) (Nat.le_of_ble_eq_true rfl) (fun p e s m args below meth c C hr hk hn => b_X11_remake C hr hk _ _ _ _ h)
theorem lkF_RX11_122_7 : LkF RX11 122 7 10 := ⟨RX7, TX7, 16, "UnlikeNeighbours$Shed", fc7, by decide, (t1_in 94 (by decide +kernel) rfl), Or.inl rfl⟩
theorem lkP_RX11_122_7 : LkP RX11 122 7 10 .int := ⟨RX7, TX7, 16, "UnlikeNeighbours$Shed", fc7, by decide, (t1_in 94 (by decide +kernel) rfl), Or.inl rfl, rfl, by decide +kernel⟩
theorem lkF_RX11_115_7 : LkF RX11 115 7 9 := ⟨RX7, TX7, 16, "UnlikeNeighbours$Shed", fc7, by decide, (t1_in 92 (by decide +kernel) rfl), Or.inl rfl⟩
theorem lkV_RX11_118 : LkV RX11 118 RX7 yX7_becomeGap cX7_becomeGap 2 none 1 := ⟨(t2_in 138 (by decide +kernel) rfl), (t2_in 139 (by decide +kernel) rfl), (t2_in 140 (by decide +kernel) rfl), (t2_in 141 (by decide +kernel) rfl), (t1_in 2 (by decide +kernel) rfl), by decide, by decide +kernel⟩
theorem dX11_let_0 : decode cX11_let 0 = .ok (.iload_n 1, 1) := by decide +kernel
theorem dX11_let_1 : decode cX11_let 1 = .ok (.ifCond .ne 30, 3) := by decide +kernel
theorem dX11_let_4 : decode cX11_let 4 = .ok (.iload_n 2, 1) := by decide +kernel
theorem dX11_let_5 : decode cX11_let 5 = .ok (.iconst 1, 1) := by decide +kernel
theorem dX11_let_6 : decode cX11_let 6 = .ok (.iconst 3, 1) := by decide +kernel
theorem dX11_let_7 : decode cX11_let 7 = .ok (.invokestatic 55, 3) := by decide +kernel
theorem dX11_let_10 : decode cX11_let 10 = .ok (.ifCond .eq 21, 3) := by decide +kernel
theorem dX11_let_13 : decode cX11_let 13 = .ok (.aload_n 0, 1) := by decide +kernel
theorem dX11_let_14 : decode cX11_let 14 = .ok (.getfield 12, 3) := by decide +kernel
theorem dX11_let_17 : decode cX11_let 17 = .ok (.getfield 115, 3) := by decide +kernel
theorem dX11_let_20 : decode cX11_let 20 = .ok (.istore_n 3, 1) := by decide +kernel
theorem dX11_let_21 : decode cX11_let 21 = .ok (.aload_n 0, 1) := by decide +kernel
theorem dX11_let_22 : decode cX11_let 22 = .ok (.getfield 12, 3) := by decide +kernel
theorem dX11_let_25 : decode cX11_let 25 = .ok (.iload_n 2, 1) := by decide +kernel
theorem dX11_let_26 : decode cX11_let 26 = .ok (.invokevirtual 118, 3) := by decide +kernel
theorem dX11_let_29 : decode cX11_let 29 = .ok (.iload_n 3, 1) := by decide +kernel
theorem dX11_let_30 : decode cX11_let 30 = .ok (.ireturn, 1) := by decide +kernel
theorem dX11_let_31 : decode cX11_let 31 = .ok (.iload_n 1, 1) := by decide +kernel
theorem dX11_let_32 : decode cX11_let 32 = .ok (.iconst 1, 1) := by decide +kernel
theorem dX11_let_33 : decode cX11_let 33 = .ok (.if_icmp .ne 31, 3) := by decide +kernel
theorem dX11_let_36 : decode cX11_let 36 = .ok (.iload_n 2, 1) := by decide +kernel
theorem dX11_let_37 : decode cX11_let 37 = .ok (.iconst 0, 1) := by decide +kernel
theorem dX11_let_38 : decode cX11_let 38 = .ok (.bipush 9, 2) := by decide +kernel
theorem dX11_let_40 : decode cX11_let 40 = .ok (.invokestatic 55, 3) := by decide +kernel
theorem dX11_let_43 : decode cX11_let 43 = .ok (.ifCond .eq 21, 3) := by decide +kernel
theorem dX11_let_46 : decode cX11_let 46 = .ok (.aload_n 0, 1) := by decide +kernel
theorem dX11_let_47 : decode cX11_let 47 = .ok (.getfield 12, 3) := by decide +kernel
theorem dX11_let_50 : decode cX11_let 50 = .ok (.getfield 122, 3) := by decide +kernel
theorem dX11_let_53 : decode cX11_let 53 = .ok (.istore_n 3, 1) := by decide +kernel
theorem dX11_let_54 : decode cX11_let 54 = .ok (.aload_n 0, 1) := by decide +kernel
theorem dX11_let_55 : decode cX11_let 55 = .ok (.getfield 12, 3) := by decide +kernel
theorem dX11_let_58 : decode cX11_let 58 = .ok (.iload_n 2, 1) := by decide +kernel
theorem dX11_let_59 : decode cX11_let 59 = .ok (.putfield 122, 3) := by decide +kernel
theorem dX11_let_62 : decode cX11_let 62 = .ok (.iload_n 3, 1) := by decide +kernel
theorem dX11_let_63 : decode cX11_let 63 = .ok (.ireturn, 1) := by decide +kernel
theorem dX11_let_64 : decode cX11_let 64 = .ok (.iconst (-1), 1) := by decide +kernel
theorem dX11_let_65 : decode cX11_let 65 = .ok (.ireturn, 1) := by decide +kernel
def f_X11_let_31 (S : Sh) (R : Rw)  (I : Iw) (a0 : Nat) (x1 : Int32) (x2 : Int32) : Option (Iw × Int32) := (if x1 = (1 : Int32) then bd (f_X11_isBetween S R I x2 (0 : Int32) (9 : Int32)) (fun r3 => (if r3 = 0 then some (I, (-1 : Int32)) else gp (sok S a0 11 12) (rl (R a0 0) (fun b6 => gp (sok S b6 7 16) (rl (R a0 0) (fun b8 => gp (sok S b8 7 16) (lt (up2 I b8 10 x2) (fun I10 => some (I10, I b6 10))))))))) else some (I, (-1 : Int32)))
set_option maxHeartbeats 4000000 in
theorem b_X11_let_31 {E : Ev} {p : Program} {l : Launch} {e : Env} {s : State} {m : MethodId} {args : Array Value} {below : List Frame} {meth : Method} {c : Code} (C : Cx E RX11 cX11_let 4 p s m c) (hr : meth.sig.returnType = (some .int)) (hk : meth.locks = false) {S : Sh} {R : Rw} {r : Iw × Int32}  : ∀ (I : Iw) (a0 : Nat) (x1 : Int32) (x2 : Int32), f_X11_let_31 S R   I a0 x1 x2 = some r → Wk E 4 p l e ({ frames := 6, cells := 0, slots := 0, locals := 132 } : Room) s m args below meth c 0 0 (MQ below (Qw E S R r.1 (some (.int r.2))) args s 0 0 (fun q => E.1 ≤ q)) 31 [(0, .ref (E.1 + a0)), (1, .int x1), (2, .int x2)] [] S R I := by
  intro I a0 x1 x2 h
  rw [f_X11_let_31] at h
  refine k_iloadn (pc := 31) C dX11_let_31 (i := 1) rfl 1 rfl ?_
  refine k_iconst (pc := 32) C (v := (1 : Int32)) dX11_let_32 (by decide) ?_
  refine k_icmp_ne (pc := 33) C dX11_let_33 (tgt := 64) (by decide) (fun hc2 => ?_) (fun hc2 => ?_)
  · rw [if_neg hc2] at h
    refine k_iconst (pc := 64) C (v := (-1 : Int32)) dX11_let_64 (by decide) ?_
    have h := Option.some.inj h
    subst h
    exact k_iret (pc := 65) C hr hk dX11_let_65
  · rw [if_pos hc2] at h
    refine k_iloadn (pc := 36) C dX11_let_36 (i := 2) rfl 2 rfl ?_
    refine k_iconst (pc := 37) C (v := (0 : Int32)) dX11_let_37 (by decide) ?_
    refine k_bipush (pc := 38) C (v := (9 : Int32)) dX11_let_38 (by decide) ?_
    obtain ⟨r3, hr3, h⟩ := bd_e h
    refine k_S (pc := 40) (st := []) C (c_X11_isBetween hr3) lkS_RX11_55 rfl rfl (Nat.le_of_ble_eq_true rfl) (Nat.le_of_ble_eq_true rfl) (Nat.le_of_ble_eq_true rfl) (Nat.le_of_ble_eq_true rfl) (Nat.le_of_ble_eq_true rfl) dX11_let_40 ?_
    refine k_nf (cells2 := 0) (slots2 := 0) (st2 := [.int r3]) rfl rfl rfl ?_
    refine k_if_eq (pc := 43) C dX11_let_43 (tgt := 64) (by decide) (fun hc4 => ?_) (fun hc4 => ?_)
    · rw [if_pos hc4] at h
      refine k_iconst (pc := 64) C (v := (-1 : Int32)) dX11_let_64 (by decide) ?_
      have h := Option.some.inj h
      subst h
      exact k_iret (pc := 65) C hr hk dX11_let_65
    · rw [if_neg hc4] at h
      refine k_aloadn (pc := 46) C dX11_let_46 (i := 0) rfl 0 rfl ?_
      obtain ⟨hs50, h⟩ := gp_e h
      have hs5 := sok_e hs50
      obtain ⟨b6, hb6, h⟩ := rl_e h
      refine k_getR (pc := 47) C lkF_RX11_12_11 hs5 ir_11_0 hb6 dX11_let_47 ?_
      obtain ⟨hs70, h⟩ := gp_e h
      have hs7 := sok_e hs70
      refine k_getI (pc := 50) C lkF_RX11_122_7 hs7 ir_7_10 dX11_let_50 ?_
      refine k_istoren (pc := 53) C dX11_let_53 (i := 3) rfl (by decide) (L2 := [(0, .ref (E.1 + a0)), (1, .int x1), (2, .int x2), (3, .int (I b6 10))]) rfl ?_
      refine k_aloadn (pc := 54) C dX11_let_54 (i := 0) rfl 0 rfl ?_
      obtain ⟨b8, hb8, h⟩ := rl_e h
      refine k_getR (pc := 55) C lkF_RX11_12_11 hs5 ir_11_0 hb8 dX11_let_55 ?_
      refine k_iloadn (pc := 58) C dX11_let_58 (i := 2) rfl 2 rfl ?_
      obtain ⟨hs90, h⟩ := gp_e h
      have hs9 := sok_e hs90
      obtain ⟨I10, eI10, h⟩ := lt_e h
      refine k_putI (pc := 59) C lkP_RX11_122_7 hs9 ir_7_10 dX11_let_59 ?_
      rw [← eI10]
      refine k_iloadn (pc := 62) C dX11_let_62 (i := 3) rfl 3 rfl ?_
      have h := Option.some.inj h
      subst h
      exact k_iret (pc := 63) C hr hk dX11_let_63
def f_X11_let (S : Sh) (R : Rw)  (I : Iw) (a0 : Nat) (x1 : Int32) (x2 : Int32) : Option (Iw × Int32) := (if x1 = 0 then bd (f_X11_isBetween S R I x2 (1 : Int32) (3 : Int32)) (fun r11 => (if r11 = 0 then f_X11_let_31 S R  I a0 x1 x2 else gp (sok S a0 11 12) (rl (R a0 0) (fun b14 => gp (sok S b14 7 16) (rl (R a0 0) (fun b16 => gp (sok S b16 7 16) (bd (f_X7_becomeGap S R I b16 x2) (fun r18 => some (r18, I b14 9))))))))) else f_X11_let_31 S R  I a0 x1 x2)
set_option maxHeartbeats 4000000 in
theorem b_X11_let {E : Ev} {p : Program} {l : Launch} {e : Env} {s : State} {m : MethodId} {args : Array Value} {below : List Frame} {meth : Method} {c : Code} (C : Cx E RX11 cX11_let 4 p s m c) (hr : meth.sig.returnType = (some .int)) (hk : meth.locks = false) {S : Sh} {R : Rw} {r : Iw × Int32}  : ∀ (I : Iw) (a0 : Nat) (x1 : Int32) (x2 : Int32), f_X11_let S R   I a0 x1 x2 = some r → Wk E 4 p l e ({ frames := 6, cells := 0, slots := 0, locals := 132 } : Room) s m args below meth c 0 0 (MQ below (Qw E S R r.1 (some (.int r.2))) args s 0 0 (fun q => E.1 ≤ q)) 0 [(0, .ref (E.1 + a0)), (1, .int x1), (2, .int x2)] [] S R I := by
  intro I a0 x1 x2 h
  rw [f_X11_let] at h
  refine k_iloadn (pc := 0) C dX11_let_0 (i := 1) rfl 1 rfl ?_
  refine k_if_ne (pc := 1) C dX11_let_1 (tgt := 31) (by decide) (fun hc1 => ?_) (fun hc1 => ?_)
  · rw [if_neg hc1] at h
    exact b_X11_let_31 C hr hk  _ _ _ _ h
  · rw [if_pos hc1] at h
    refine k_iloadn (pc := 4) C dX11_let_4 (i := 2) rfl 2 rfl ?_
    refine k_iconst (pc := 5) C (v := (1 : Int32)) dX11_let_5 (by decide) ?_
    refine k_iconst (pc := 6) C (v := (3 : Int32)) dX11_let_6 (by decide) ?_
    obtain ⟨r11, hr11, h⟩ := bd_e h
    refine k_S (pc := 7) (st := []) C (c_X11_isBetween hr11) lkS_RX11_55 rfl rfl (Nat.le_of_ble_eq_true rfl) (Nat.le_of_ble_eq_true rfl) (Nat.le_of_ble_eq_true rfl) (Nat.le_of_ble_eq_true rfl) (Nat.le_of_ble_eq_true rfl) dX11_let_7 ?_
    refine k_nf (cells2 := 0) (slots2 := 0) (st2 := [.int r11]) rfl rfl rfl ?_
    refine k_if_eq (pc := 10) C dX11_let_10 (tgt := 31) (by decide) (fun hc12 => ?_) (fun hc12 => ?_)
    · rw [if_pos hc12] at h
      exact b_X11_let_31 C hr hk  _ _ _ _ h
    · rw [if_neg hc12] at h
      refine k_aloadn (pc := 13) C dX11_let_13 (i := 0) rfl 0 rfl ?_
      obtain ⟨hs130, h⟩ := gp_e h
      have hs13 := sok_e hs130
      obtain ⟨b14, hb14, h⟩ := rl_e h
      refine k_getR (pc := 14) C lkF_RX11_12_11 hs13 ir_11_0 hb14 dX11_let_14 ?_
      obtain ⟨hs150, h⟩ := gp_e h
      have hs15 := sok_e hs150
      refine k_getI (pc := 17) C lkF_RX11_115_7 hs15 ir_7_9 dX11_let_17 ?_
      refine k_istoren (pc := 20) C dX11_let_20 (i := 3) rfl (by decide) (L2 := [(0, .ref (E.1 + a0)), (1, .int x1), (2, .int x2), (3, .int (I b14 9))]) rfl ?_
      refine k_aloadn (pc := 21) C dX11_let_21 (i := 0) rfl 0 rfl ?_
      obtain ⟨b16, hb16, h⟩ := rl_e h
      refine k_getR (pc := 22) C lkF_RX11_12_11 hs13 ir_11_0 hb16 dX11_let_22 ?_
      refine k_iloadn (pc := 25) C dX11_let_25 (i := 2) rfl 2 rfl ?_
      obtain ⟨hs170, h⟩ := gp_e h
      have hs17 := sok_e hs170
      obtain ⟨r18, hr18, h⟩ := bd_e h
      refine k_V (pc := 26) (st := []) C (c_X7_becomeGap hr18) lkV_RX11_118 hs17 rfl rfl rfl (Nat.le_of_ble_eq_true rfl) (Nat.le_of_ble_eq_true rfl) (Nat.le_of_ble_eq_true rfl) (Nat.le_of_ble_eq_true rfl) (Nat.le_of_ble_eq_true rfl) dX11_let_26 ?_
      refine k_nf (cells2 := 0) (slots2 := 0) (st2 := []) rfl rfl rfl ?_
      refine k_iloadn (pc := 29) C dX11_let_29 (i := 3) rfl 3 rfl ?_
      have h := Option.some.inj h
      subst h
      exact k_iret (pc := 30) C hr hk dX11_let_30
theorem c_X11_let {E : Ev} {l : Launch} {S : Sh} {R : Rw} {I : Iw} {a0 : Nat} {x1 : Int32} {x2 : Int32} {r : Iw × Int32} (h : f_X11_let S R I a0 x1 x2 = some r) : Mt E l yX11_let cX11_let 4 (some .int) 6 132 [.ref (E.1 + a0), .int x1, .int x2] S R I S R r.1 (some (.int r.2)) 0 0 := mt_of (by decide) (Nat.le_of_ble_eq_true rfl) (fun p e s m args below meth c C hr hk hn => b_X11_let C hr hk _ _ _ _ h)
theorem lkF_RX11_22_11 : LkF RX11 22 11 3 := ⟨RX11, TX11, 12, "UnlikeNeighbours", fc11, by decide, (t1_in 236 (by decide +kernel) rfl), Or.inl rfl⟩
theorem lkV_RX11_125 : LkV RX11 125 RX3 yX3_take cX3_take 5 (some .int) 2 := ⟨(t2_in 146 (by decide +kernel) rfl), (t2_in 147 (by decide +kernel) rfl), (t2_in 148 (by decide +kernel) rfl), (t2_in 149 (by decide +kernel) rfl), (t1_in 4 (by decide +kernel) rfl), by decide, by decide +kernel⟩
theorem dX11_feed_0 : decode cX11_feed 0 = .ok (.iload_n 3, 1) := by decide +kernel
theorem dX11_feed_1 : decode cX11_feed 1 = .ok (.iconst 1, 1) := by decide +kernel
theorem dX11_feed_2 : decode cX11_feed 2 = .ok (.bipush 8, 2) := by decide +kernel
theorem dX11_feed_4 : decode cX11_feed 4 = .ok (.invokestatic 55, 3) := by decide +kernel
theorem dX11_feed_7 : decode cX11_feed 7 = .ok (.ifCond .eq 15, 3) := by decide +kernel
theorem dX11_feed_10 : decode cX11_feed 10 = .ok (.aload_n 0, 1) := by decide +kernel
theorem dX11_feed_11 : decode cX11_feed 11 = .ok (.getfield 22, 3) := by decide +kernel
theorem dX11_feed_14 : decode cX11_feed 14 = .ok (.lload_n 1, 1) := by decide +kernel
theorem dX11_feed_15 : decode cX11_feed 15 = .ok (.iload_n 3, 1) := by decide +kernel
theorem dX11_feed_16 : decode cX11_feed 16 = .ok (.invokevirtual 125, 3) := by decide +kernel
theorem dX11_feed_19 : decode cX11_feed 19 = .ok (.goto 4, 3) := by decide +kernel
theorem dX11_feed_22 : decode cX11_feed 22 = .ok (.iconst (-1), 1) := by decide +kernel
theorem dX11_feed_23 : decode cX11_feed 23 = .ok (.ireturn, 1) := by decide +kernel
def f_X11_feed (S : Sh) (R : Rw)  (I : Iw) (a0 : Nat) (x1 : Int64) (x3 : Int32) : Option (Iw × Int32) := bd (f_X11_isBetween S R I x3 (1 : Int32) (8 : Int32)) (fun r1 => (if r1 = 0 then some (I, (-1 : Int32)) else gp (sok S a0 11 12) (rl (R a0 3) (fun b4 => gp (sok S b4 3 7) (bd (f_X3_take S R I b4 x1 x3) (fun r6 => some (r6.1, r6.2)))))))
set_option maxHeartbeats 4000000 in
theorem b_X11_feed {E : Ev} {p : Program} {l : Launch} {e : Env} {s : State} {m : MethodId} {args : Array Value} {below : List Frame} {meth : Method} {c : Code} (C : Cx E RX11 cX11_feed 4 p s m c) (hr : meth.sig.returnType = (some .int)) (hk : meth.locks = false) {S : Sh} {R : Rw} {r : Iw × Int32}  : ∀ (I : Iw) (a0 : Nat) (x1 : Int64) (x3 : Int32), f_X11_feed S R   I a0 x1 x3 = some r → Wk E 4 p l e ({ frames := 1, cells := 0, slots := 0, locals := 24 } : Room) s m args below meth c 0 0 (MQ below (Qw E S R r.1 (some (.int r.2))) args s 0 0 (fun q => E.1 ≤ q)) 0 [(0, .ref (E.1 + a0)), (1, .long x1), (3, .int x3)] [] S R I := by
  intro I a0 x1 x3 h
  rw [f_X11_feed] at h
  refine k_iloadn (pc := 0) C dX11_feed_0 (i := 3) rfl 2 rfl ?_
  refine k_iconst (pc := 1) C (v := (1 : Int32)) dX11_feed_1 (by decide) ?_
  refine k_bipush (pc := 2) C (v := (8 : Int32)) dX11_feed_2 (by decide) ?_
  obtain ⟨r1, hr1, h⟩ := bd_e h
  refine k_S (pc := 4) (st := []) C (c_X11_isBetween hr1) lkS_RX11_55 rfl rfl (Nat.le_of_ble_eq_true rfl) (Nat.le_of_ble_eq_true rfl) (Nat.le_of_ble_eq_true rfl) (Nat.le_of_ble_eq_true rfl) (Nat.le_of_ble_eq_true rfl) dX11_feed_4 ?_
  refine k_nf (cells2 := 0) (slots2 := 0) (st2 := [.int r1]) rfl rfl rfl ?_
  refine k_if_eq (pc := 7) C dX11_feed_7 (tgt := 22) (by decide) (fun hc2 => ?_) (fun hc2 => ?_)
  · rw [if_pos hc2] at h
    refine k_iconst (pc := 22) C (v := (-1 : Int32)) dX11_feed_22 (by decide) ?_
    have h := Option.some.inj h
    subst h
    exact k_iret (pc := 23) C hr hk dX11_feed_23
  · rw [if_neg hc2] at h
    refine k_aloadn (pc := 10) C dX11_feed_10 (i := 0) rfl 0 rfl ?_
    obtain ⟨hs30, h⟩ := gp_e h
    have hs3 := sok_e hs30
    obtain ⟨b4, hb4, h⟩ := rl_e h
    refine k_getR (pc := 11) C lkF_RX11_22_11 hs3 ir_11_3 hb4 dX11_feed_11 ?_
    refine k_lloadn (pc := 14) C dX11_feed_14 (i := 1) rfl 1 rfl ?_
    refine k_iloadn (pc := 15) C dX11_feed_15 (i := 3) rfl 2 rfl ?_
    obtain ⟨hs50, h⟩ := gp_e h
    have hs5 := sok_e hs50
    obtain ⟨r6, hr6, h⟩ := bd_e h
    refine k_V (pc := 16) (st := []) C (c_X3_take hr6) lkV_RX11_125 hs5 rfl rfl rfl (Nat.le_of_ble_eq_true rfl) (Nat.le_of_ble_eq_true rfl) (Nat.le_of_ble_eq_true rfl) (Nat.le_of_ble_eq_true rfl) (Nat.le_of_ble_eq_true rfl) dX11_feed_16 ?_
    refine k_nf (cells2 := 0) (slots2 := 0) (st2 := [.int r6.2]) rfl rfl rfl ?_
    refine k_goto (pc := 19) C dX11_feed_19 (tgt := 23) (by decide) ?_
    have h := Option.some.inj h
    subst h
    exact k_iret (pc := 23) C hr hk dX11_feed_23
theorem c_X11_feed {E : Ev} {l : Launch} {S : Sh} {R : Rw} {I : Iw} {a0 : Nat} {x1 : Int64} {x3 : Int32} {r : Iw × Int32} (h : f_X11_feed S R I a0 x1 x3 = some r) : Mt E l yX11_feed cX11_feed 4 (some .int) 1 24 [.ref (E.1 + a0), .long x1, .int x3] S R I S R r.1 (some (.int r.2)) 0 0 := mt_of (by decide) (Nat.le_of_ble_eq_true rfl) (fun p e s m args below meth c C hr hk hn => b_X11_feed C hr hk _ _ _ _ h)
theorem lkF_RX11_129_7 : LkF RX11 129 7 11 := ⟨RX7, TX7, 16, "UnlikeNeighbours$Shed", fc7, by decide, (t1_in 98 (by decide +kernel) rfl), Or.inl rfl⟩
theorem lkV_RX11_133 : LkV RX11 133 RX3 yX3_readInto cX3_readInto 3 (some .int) 1 := ⟨(t2_in 154 (by decide +kernel) rfl), (t2_in 155 (by decide +kernel) rfl), (t2_in 156 (by decide +kernel) rfl), (t2_in 157 (by decide +kernel) rfl), (t1_in 4 (by decide +kernel) rfl), by decide, by decide +kernel⟩
theorem dX11_rules_0 : decode cX11_rules 0 = .ok (.aload_n 0, 1) := by decide +kernel
theorem dX11_rules_1 : decode cX11_rules 1 = .ok (.getfield 22, 3) := by decide +kernel
theorem dX11_rules_4 : decode cX11_rules 4 = .ok (.aload_n 0, 1) := by decide +kernel
theorem dX11_rules_5 : decode cX11_rules 5 = .ok (.getfield 12, 3) := by decide +kernel
theorem dX11_rules_8 : decode cX11_rules 8 = .ok (.getfield 129, 3) := by decide +kernel
theorem dX11_rules_11 : decode cX11_rules 11 = .ok (.invokevirtual 133, 3) := by decide +kernel
theorem dX11_rules_14 : decode cX11_rules 14 = .ok (.ireturn, 1) := by decide +kernel
def f_X11_rules (S : Sh) (R : Rw)  (I : Iw) (a0 : Nat) : Option (Iw × Int32) := gp (sok S a0 11 12) (rl (R a0 3) (fun b2 => rl (R a0 0) (fun b3 => gp (sok S b3 7 16) (rl (R b3 11) (fun b5 => gp (sok S b2 3 7) (bd (f_X3_readInto S R I b2 b5) (fun r7 => some (r7.1, r7.2))))))))
set_option maxHeartbeats 4000000 in
theorem b_X11_rules {E : Ev} {p : Program} {l : Launch} {e : Env} {s : State} {m : MethodId} {args : Array Value} {below : List Frame} {meth : Method} {c : Code} (C : Cx E RX11 cX11_rules 1 p s m c) (hr : meth.sig.returnType = (some .int)) (hk : meth.locks = false) {S : Sh} {R : Rw} {r : Iw × Int32}  : ∀ (I : Iw) (a0 : Nat), f_X11_rules S R   I a0 = some r → Wk E 1 p l e ({ frames := 29, cells := 0, slots := 0, locals := 667 } : Room) s m args below meth c 0 0 (MQ below (Qw E S R r.1 (some (.int r.2))) args s 0 0 (fun q => E.1 ≤ q)) 0 [(0, .ref (E.1 + a0))] [] S R I := by
  intro I a0 h
  rw [f_X11_rules] at h
  refine k_aloadn (pc := 0) C dX11_rules_0 (i := 0) rfl 0 rfl ?_
  obtain ⟨hs10, h⟩ := gp_e h
  have hs1 := sok_e hs10
  obtain ⟨b2, hb2, h⟩ := rl_e h
  refine k_getR (pc := 1) C lkF_RX11_22_11 hs1 ir_11_3 hb2 dX11_rules_1 ?_
  refine k_aloadn (pc := 4) C dX11_rules_4 (i := 0) rfl 0 rfl ?_
  obtain ⟨b3, hb3, h⟩ := rl_e h
  refine k_getR (pc := 5) C lkF_RX11_12_11 hs1 ir_11_0 hb3 dX11_rules_5 ?_
  obtain ⟨hs40, h⟩ := gp_e h
  have hs4 := sok_e hs40
  obtain ⟨b5, hb5, h⟩ := rl_e h
  refine k_getR (pc := 8) C lkF_RX11_129_7 hs4 ir_7_11 hb5 dX11_rules_8 ?_
  obtain ⟨hs60, h⟩ := gp_e h
  have hs6 := sok_e hs60
  obtain ⟨r7, hr7, h⟩ := bd_e h
  refine k_V (pc := 11) (st := []) C (c_X3_readInto hr7) lkV_RX11_133 hs6 rfl rfl rfl (Nat.le_of_ble_eq_true rfl) (Nat.le_of_ble_eq_true rfl) (Nat.le_of_ble_eq_true rfl) (Nat.le_of_ble_eq_true rfl) (Nat.le_of_ble_eq_true rfl) dX11_rules_11 ?_
  refine k_nf (cells2 := 0) (slots2 := 0) (st2 := [.int r7.2]) rfl rfl rfl ?_
  have h := Option.some.inj h
  subst h
  exact k_iret (pc := 14) C hr hk dX11_rules_14
theorem c_X11_rules {E : Ev} {l : Launch} {S : Sh} {R : Rw} {I : Iw} {a0 : Nat} {r : Iw × Int32} (h : f_X11_rules S R I a0 = some r) : Mt E l yX11_rules cX11_rules 1 (some .int) 29 667 [.ref (E.1 + a0)] S R I S R r.1 (some (.int r.2)) 0 0 := mt_of (by decide) (Nat.le_of_ble_eq_true rfl) (fun p e s m args below meth c C hr hk hn => b_X11_rules C hr hk _ _ h)
theorem lkF_RX11_137_7 : LkF RX11 137 7 4 := ⟨RX7, TX7, 16, "UnlikeNeighbours$Shed", fc7, by decide, (t1_in 81 (by decide +kernel) rfl), Or.inl rfl⟩
theorem dX11_beside_0 : decode cX11_beside 0 = .ok (.aload_n 0, 1) := by decide +kernel
theorem dX11_beside_1 : decode cX11_beside 1 = .ok (.getfield 12, 3) := by decide +kernel
theorem dX11_beside_4 : decode cX11_beside 4 = .ok (.iload_n 1, 1) := by decide +kernel
theorem dX11_beside_5 : decode cX11_beside 5 = .ok (.invokevirtual 63, 3) := by decide +kernel
theorem dX11_beside_8 : decode cX11_beside 8 = .ok (.ifCond .eq 19, 3) := by decide +kernel
theorem dX11_beside_11 : decode cX11_beside 11 = .ok (.aload_n 0, 1) := by decide +kernel
theorem dX11_beside_12 : decode cX11_beside 12 = .ok (.getfield 12, 3) := by decide +kernel
theorem dX11_beside_15 : decode cX11_beside 15 = .ok (.iload_n 2, 1) := by decide +kernel
theorem dX11_beside_16 : decode cX11_beside 16 = .ok (.invokevirtual 63, 3) := by decide +kernel
theorem dX11_beside_19 : decode cX11_beside 19 = .ok (.ifCond .eq 8, 3) := by decide +kernel
theorem dX11_beside_22 : decode cX11_beside 22 = .ok (.iload_n 1, 1) := by decide +kernel
theorem dX11_beside_23 : decode cX11_beside 23 = .ok (.iload_n 2, 1) := by decide +kernel
theorem dX11_beside_24 : decode cX11_beside 24 = .ok (.if_icmp .ne 5, 3) := by decide +kernel
theorem dX11_beside_27 : decode cX11_beside 27 = .ok (.iconst (-1), 1) := by decide +kernel
theorem dX11_beside_28 : decode cX11_beside 28 = .ok (.ireturn, 1) := by decide +kernel
theorem dX11_beside_29 : decode cX11_beside 29 = .ok (.aload_n 0, 1) := by decide +kernel
theorem dX11_beside_30 : decode cX11_beside 30 = .ok (.getfield 12, 3) := by decide +kernel
theorem dX11_beside_33 : decode cX11_beside 33 = .ok (.getfield 137, 3) := by decide +kernel
theorem dX11_beside_36 : decode cX11_beside 36 = .ok (.iload_n 1, 1) := by decide +kernel
theorem dX11_beside_37 : decode cX11_beside 37 = .ok (.iaload, 1) := by decide +kernel
theorem dX11_beside_38 : decode cX11_beside 38 = .ok (.iload_n 2, 1) := by decide +kernel
theorem dX11_beside_39 : decode cX11_beside 39 = .ok (.invokestatic 101, 3) := by decide +kernel
theorem dX11_beside_42 : decode cX11_beside 42 = .ok (.ifCond .eq 7, 3) := by decide +kernel
theorem dX11_beside_45 : decode cX11_beside 45 = .ok (.iconst 1, 1) := by decide +kernel
theorem dX11_beside_46 : decode cX11_beside 46 = .ok (.goto 4, 3) := by decide +kernel
theorem dX11_beside_49 : decode cX11_beside 49 = .ok (.iconst 0, 1) := by decide +kernel
theorem dX11_beside_50 : decode cX11_beside 50 = .ok (.ireturn, 1) := by decide +kernel
def f_X11_beside (S : Sh) (R : Rw) (I : Iw)  (a0 : Nat) (x1 : Int32) (x2 : Int32) : Option (Int32) := gp (sok S a0 11 12) (rl (R a0 0) (fun b2 => gp (sok S b2 7 16) (bd (f_X7_has S R I b2 x1) (fun r4 => (if r4 = 0 then some (-1 : Int32) else rl (R a0 0) (fun b6 => gp (sok S b6 7 16) (bd (f_X7_has S R I b6 x2) (fun r8 => (if r8 = 0 then some (-1 : Int32) else (if x1 = x2 then some (-1 : Int32) else rl (R a0 0) (fun b11 => gp (sok S b11 7 16) (rl (R b11 4) (fun b13 => gp (aok S 20 b13 x1) (bd (f_X11_holds S R I (I b13 x1.toNatClampNeg) x2) (fun r15 => (if r15 = 0 then some (0 : Int32) else some (1 : Int32)))))))))))))))))
set_option maxHeartbeats 4000000 in
theorem b_X11_beside {E : Ev} {p : Program} {l : Launch} {e : Env} {s : State} {m : MethodId} {args : Array Value} {below : List Frame} {meth : Method} {c : Code} (C : Cx E RX11 cX11_beside 3 p s m c) (hr : meth.sig.returnType = (some .int)) (hk : meth.locks = false) {S : Sh} {R : Rw} {I : Iw} {r : Int32}  : ∀ (a0 : Nat) (x1 : Int32) (x2 : Int32), f_X11_beside S R I   a0 x1 x2 = some r → Wk E 3 p l e ({ frames := 1, cells := 0, slots := 0, locals := 21 } : Room) s m args below meth c 0 0 (MQ below (Qw E S R I (some (.int r))) args s 0 0 (fun q => E.1 ≤ q)) 0 [(0, .ref (E.1 + a0)), (1, .int x1), (2, .int x2)] [] S R I := by
  intro a0 x1 x2 h
  rw [f_X11_beside] at h
  refine k_aloadn (pc := 0) C dX11_beside_0 (i := 0) rfl 0 rfl ?_
  obtain ⟨hs10, h⟩ := gp_e h
  have hs1 := sok_e hs10
  obtain ⟨b2, hb2, h⟩ := rl_e h
  refine k_getR (pc := 1) C lkF_RX11_12_11 hs1 ir_11_0 hb2 dX11_beside_1 ?_
  refine k_iloadn (pc := 4) C dX11_beside_4 (i := 1) rfl 1 rfl ?_
  obtain ⟨hs30, h⟩ := gp_e h
  have hs3 := sok_e hs30
  obtain ⟨r4, hr4, h⟩ := bd_e h
  refine k_V (pc := 5) (st := []) C (c_X7_has hr4) lkV_RX11_63 hs3 rfl rfl rfl (Nat.le_of_ble_eq_true rfl) (Nat.le_of_ble_eq_true rfl) (Nat.le_of_ble_eq_true rfl) (Nat.le_of_ble_eq_true rfl) (Nat.le_of_ble_eq_true rfl) dX11_beside_5 ?_
  refine k_nf (cells2 := 0) (slots2 := 0) (st2 := [.int r4]) rfl rfl rfl ?_
  refine k_if_eq (pc := 8) C dX11_beside_8 (tgt := 27) (by decide) (fun hc5 => ?_) (fun hc5 => ?_)
  · rw [if_pos hc5] at h
    refine k_iconst (pc := 27) C (v := (-1 : Int32)) dX11_beside_27 (by decide) ?_
    have h := Option.some.inj h
    subst h
    exact k_iret (pc := 28) C hr hk dX11_beside_28
  · rw [if_neg hc5] at h
    refine k_aloadn (pc := 11) C dX11_beside_11 (i := 0) rfl 0 rfl ?_
    obtain ⟨b6, hb6, h⟩ := rl_e h
    refine k_getR (pc := 12) C lkF_RX11_12_11 hs1 ir_11_0 hb6 dX11_beside_12 ?_
    refine k_iloadn (pc := 15) C dX11_beside_15 (i := 2) rfl 2 rfl ?_
    obtain ⟨hs70, h⟩ := gp_e h
    have hs7 := sok_e hs70
    obtain ⟨r8, hr8, h⟩ := bd_e h
    refine k_V (pc := 16) (st := []) C (c_X7_has hr8) lkV_RX11_63 hs7 rfl rfl rfl (Nat.le_of_ble_eq_true rfl) (Nat.le_of_ble_eq_true rfl) (Nat.le_of_ble_eq_true rfl) (Nat.le_of_ble_eq_true rfl) (Nat.le_of_ble_eq_true rfl) dX11_beside_16 ?_
    refine k_nf (cells2 := 0) (slots2 := 0) (st2 := [.int r8]) rfl rfl rfl ?_
    refine k_if_eq (pc := 19) C dX11_beside_19 (tgt := 27) (by decide) (fun hc9 => ?_) (fun hc9 => ?_)
    · rw [if_pos hc9] at h
      refine k_iconst (pc := 27) C (v := (-1 : Int32)) dX11_beside_27 (by decide) ?_
      have h := Option.some.inj h
      subst h
      exact k_iret (pc := 28) C hr hk dX11_beside_28
    · rw [if_neg hc9] at h
      refine k_iloadn (pc := 22) C dX11_beside_22 (i := 1) rfl 1 rfl ?_
      refine k_iloadn (pc := 23) C dX11_beside_23 (i := 2) rfl 2 rfl ?_
      refine k_icmp_ne (pc := 24) C dX11_beside_24 (tgt := 29) (by decide) (fun hc10 => ?_) (fun hc10 => ?_)
      · rw [if_neg hc10] at h
        refine k_aloadn (pc := 29) C dX11_beside_29 (i := 0) rfl 0 rfl ?_
        obtain ⟨b11, hb11, h⟩ := rl_e h
        refine k_getR (pc := 30) C lkF_RX11_12_11 hs1 ir_11_0 hb11 dX11_beside_30 ?_
        obtain ⟨hs120, h⟩ := gp_e h
        have hs12 := sok_e hs120
        obtain ⟨b13, hb13, h⟩ := rl_e h
        refine k_getR (pc := 33) C lkF_RX11_137_7 hs12 ir_7_4 hb13 dX11_beside_33 ?_
        refine k_iloadn (pc := 36) C dX11_beside_36 (i := 1) rfl 1 rfl ?_
        obtain ⟨ha14, h⟩ := gp_e h
        refine k_iald (pc := 37) C ha14 dX11_beside_37 ?_
        refine k_iloadn (pc := 38) C dX11_beside_38 (i := 2) rfl 2 rfl ?_
        obtain ⟨r15, hr15, h⟩ := bd_e h
        refine k_S (pc := 39) (st := []) C (c_X11_holds hr15) lkS_RX11_101 rfl rfl (Nat.le_of_ble_eq_true rfl) (Nat.le_of_ble_eq_true rfl) (Nat.le_of_ble_eq_true rfl) (Nat.le_of_ble_eq_true rfl) (Nat.le_of_ble_eq_true rfl) dX11_beside_39 ?_
        refine k_nf (cells2 := 0) (slots2 := 0) (st2 := [.int r15]) rfl rfl rfl ?_
        refine k_if_eq (pc := 42) C dX11_beside_42 (tgt := 49) (by decide) (fun hc16 => ?_) (fun hc16 => ?_)
        · rw [if_pos hc16] at h
          refine k_iconst (pc := 49) C (v := (0 : Int32)) dX11_beside_49 (by decide) ?_
          have h := Option.some.inj h
          subst h
          exact k_iret (pc := 50) C hr hk dX11_beside_50
        · rw [if_neg hc16] at h
          refine k_iconst (pc := 45) C (v := (1 : Int32)) dX11_beside_45 (by decide) ?_
          refine k_goto (pc := 46) C dX11_beside_46 (tgt := 50) (by decide) ?_
          have h := Option.some.inj h
          subst h
          exact k_iret (pc := 50) C hr hk dX11_beside_50
      · rw [if_pos hc10] at h
        refine k_iconst (pc := 27) C (v := (-1 : Int32)) dX11_beside_27 (by decide) ?_
        have h := Option.some.inj h
        subst h
        exact k_iret (pc := 28) C hr hk dX11_beside_28
theorem c_X11_beside {E : Ev} {l : Launch} {S : Sh} {R : Rw} {I : Iw} {a0 : Nat} {x1 : Int32} {x2 : Int32} {r : Int32} (h : f_X11_beside S R I a0 x1 x2 = some r) : Mt E l yX11_beside cX11_beside 3 (some .int) 1 21 [.ref (E.1 + a0), .int x1, .int x2] S R I S R I (some (.int r)) 0 0 := mt_of (by decide) (Nat.le_of_ble_eq_true rfl) (fun p e s m args below meth c C hr hk hn => b_X11_beside C hr hk _ _ _ h)
theorem dX11_mates_0 : decode cX11_mates 0 = .ok (.aload_n 0, 1) := by decide +kernel
theorem dX11_mates_1 : decode cX11_mates 1 = .ok (.getfield 12, 3) := by decide +kernel
theorem dX11_mates_4 : decode cX11_mates 4 = .ok (.iload_n 1, 1) := by decide +kernel
theorem dX11_mates_5 : decode cX11_mates 5 = .ok (.invokevirtual 63, 3) := by decide +kernel
theorem dX11_mates_8 : decode cX11_mates 8 = .ok (.ifCond .eq 15, 3) := by decide +kernel
theorem dX11_mates_11 : decode cX11_mates 11 = .ok (.aload_n 0, 1) := by decide +kernel
theorem dX11_mates_12 : decode cX11_mates 12 = .ok (.getfield 12, 3) := by decide +kernel
theorem dX11_mates_15 : decode cX11_mates 15 = .ok (.getfield 137, 3) := by decide +kernel
theorem dX11_mates_18 : decode cX11_mates 18 = .ok (.iload_n 1, 1) := by decide +kernel
theorem dX11_mates_19 : decode cX11_mates 19 = .ok (.iaload, 1) := by decide +kernel
theorem dX11_mates_20 : decode cX11_mates 20 = .ok (.goto 4, 3) := by decide +kernel
theorem dX11_mates_23 : decode cX11_mates 23 = .ok (.iconst (-1), 1) := by decide +kernel
theorem dX11_mates_24 : decode cX11_mates 24 = .ok (.ireturn, 1) := by decide +kernel
def f_X11_mates (S : Sh) (R : Rw) (I : Iw)  (a0 : Nat) (x1 : Int32) : Option (Int32) := gp (sok S a0 11 12) (rl (R a0 0) (fun b2 => gp (sok S b2 7 16) (bd (f_X7_has S R I b2 x1) (fun r4 => (if r4 = 0 then some (-1 : Int32) else rl (R a0 0) (fun b6 => gp (sok S b6 7 16) (rl (R b6 4) (fun b8 => gp (aok S 20 b8 x1) (some (I b8 x1.toNatClampNeg))))))))))
set_option maxHeartbeats 4000000 in
theorem b_X11_mates {E : Ev} {p : Program} {l : Launch} {e : Env} {s : State} {m : MethodId} {args : Array Value} {below : List Frame} {meth : Method} {c : Code} (C : Cx E RX11 cX11_mates 2 p s m c) (hr : meth.sig.returnType = (some .int)) (hk : meth.locks = false) {S : Sh} {R : Rw} {I : Iw} {r : Int32}  : ∀ (a0 : Nat) (x1 : Int32), f_X11_mates S R I   a0 x1 = some r → Wk E 2 p l e ({ frames := 1, cells := 0, slots := 0, locals := 21 } : Room) s m args below meth c 0 0 (MQ below (Qw E S R I (some (.int r))) args s 0 0 (fun q => E.1 ≤ q)) 0 [(0, .ref (E.1 + a0)), (1, .int x1)] [] S R I := by
  intro a0 x1 h
  rw [f_X11_mates] at h
  refine k_aloadn (pc := 0) C dX11_mates_0 (i := 0) rfl 0 rfl ?_
  obtain ⟨hs10, h⟩ := gp_e h
  have hs1 := sok_e hs10
  obtain ⟨b2, hb2, h⟩ := rl_e h
  refine k_getR (pc := 1) C lkF_RX11_12_11 hs1 ir_11_0 hb2 dX11_mates_1 ?_
  refine k_iloadn (pc := 4) C dX11_mates_4 (i := 1) rfl 1 rfl ?_
  obtain ⟨hs30, h⟩ := gp_e h
  have hs3 := sok_e hs30
  obtain ⟨r4, hr4, h⟩ := bd_e h
  refine k_V (pc := 5) (st := []) C (c_X7_has hr4) lkV_RX11_63 hs3 rfl rfl rfl (Nat.le_of_ble_eq_true rfl) (Nat.le_of_ble_eq_true rfl) (Nat.le_of_ble_eq_true rfl) (Nat.le_of_ble_eq_true rfl) (Nat.le_of_ble_eq_true rfl) dX11_mates_5 ?_
  refine k_nf (cells2 := 0) (slots2 := 0) (st2 := [.int r4]) rfl rfl rfl ?_
  refine k_if_eq (pc := 8) C dX11_mates_8 (tgt := 23) (by decide) (fun hc5 => ?_) (fun hc5 => ?_)
  · rw [if_pos hc5] at h
    refine k_iconst (pc := 23) C (v := (-1 : Int32)) dX11_mates_23 (by decide) ?_
    have h := Option.some.inj h
    subst h
    exact k_iret (pc := 24) C hr hk dX11_mates_24
  · rw [if_neg hc5] at h
    refine k_aloadn (pc := 11) C dX11_mates_11 (i := 0) rfl 0 rfl ?_
    obtain ⟨b6, hb6, h⟩ := rl_e h
    refine k_getR (pc := 12) C lkF_RX11_12_11 hs1 ir_11_0 hb6 dX11_mates_12 ?_
    obtain ⟨hs70, h⟩ := gp_e h
    have hs7 := sok_e hs70
    obtain ⟨b8, hb8, h⟩ := rl_e h
    refine k_getR (pc := 15) C lkF_RX11_137_7 hs7 ir_7_4 hb8 dX11_mates_15 ?_
    refine k_iloadn (pc := 18) C dX11_mates_18 (i := 1) rfl 1 rfl ?_
    obtain ⟨ha9, h⟩ := gp_e h
    refine k_iald (pc := 19) C ha9 dX11_mates_19 ?_
    refine k_goto (pc := 20) C dX11_mates_20 (tgt := 24) (by decide) ?_
    have h := Option.some.inj h
    subst h
    exact k_iret (pc := 24) C hr hk dX11_mates_24
theorem c_X11_mates {E : Ev} {l : Launch} {S : Sh} {R : Rw} {I : Iw} {a0 : Nat} {x1 : Int32} {r : Int32} (h : f_X11_mates S R I a0 x1 = some r) : Mt E l yX11_mates cX11_mates 2 (some .int) 1 21 [.ref (E.1 + a0), .int x1] S R I S R I (some (.int r)) 0 0 := mt_of (by decide) (Nat.le_of_ble_eq_true rfl) (fun p e s m args below meth c C hr hk hn => b_X11_mates C hr hk _ _ h)
theorem dX11_may_0 : decode cX11_may 0 = .ok (.aload_n 0, 1) := by decide +kernel
theorem dX11_may_1 : decode cX11_may 1 = .ok (.getfield 12, 3) := by decide +kernel
theorem dX11_may_4 : decode cX11_may 4 = .ok (.aload_n 0, 1) := by decide +kernel
theorem dX11_may_5 : decode cX11_may 5 = .ok (.getfield 12, 3) := by decide +kernel
theorem dX11_may_8 : decode cX11_may 8 = .ok (.getfield 89, 3) := by decide +kernel
theorem dX11_may_11 : decode cX11_may 11 = .ok (.aload_n 0, 1) := by decide +kernel
theorem dX11_may_12 : decode cX11_may 12 = .ok (.getfield 12, 3) := by decide +kernel
theorem dX11_may_15 : decode cX11_may 15 = .ok (.invokevirtual 93, 3) := by decide +kernel
theorem dX11_may_18 : decode cX11_may 18 = .ok (.invokevirtual 97, 3) := by decide +kernel
theorem dX11_may_21 : decode cX11_may 21 = .ok (.ireturn, 1) := by decide +kernel
def f_X11_may (S : Sh) (R : Rw) (I : Iw)  (a0 : Nat) : Option (Int32) := gp (sok S a0 11 12) (rl (R a0 0) (fun b2 => rl (R a0 0) (fun b3 => gp (sok S b3 7 16) (rl (R a0 0) (fun b5 => gp (sok S b5 7 16) (bd (f_X7_last S R I b5) (fun r7 => gp (sok S b2 7 16) (bd (f_X7_mayGo S R I b2 (I b3 6) r7) (fun r9 => some r9)))))))))
set_option maxHeartbeats 4000000 in
theorem b_X11_may {E : Ev} {p : Program} {l : Launch} {e : Env} {s : State} {m : MethodId} {args : Array Value} {below : List Frame} {meth : Method} {c : Code} (C : Cx E RX11 cX11_may 1 p s m c) (hr : meth.sig.returnType = (some .int)) (hk : meth.locks = false) {S : Sh} {R : Rw} {I : Iw} {r : Int32}  : ∀ (a0 : Nat), f_X11_may S R I   a0 = some r → Wk E 1 p l e ({ frames := 3, cells := 0, slots := 0, locals := 68 } : Room) s m args below meth c 0 0 (MQ below (Qw E S R I (some (.int r))) args s 0 0 (fun q => E.1 ≤ q)) 0 [(0, .ref (E.1 + a0))] [] S R I := by
  intro a0 h
  rw [f_X11_may] at h
  refine k_aloadn (pc := 0) C dX11_may_0 (i := 0) rfl 0 rfl ?_
  obtain ⟨hs10, h⟩ := gp_e h
  have hs1 := sok_e hs10
  obtain ⟨b2, hb2, h⟩ := rl_e h
  refine k_getR (pc := 1) C lkF_RX11_12_11 hs1 ir_11_0 hb2 dX11_may_1 ?_
  refine k_aloadn (pc := 4) C dX11_may_4 (i := 0) rfl 0 rfl ?_
  obtain ⟨b3, hb3, h⟩ := rl_e h
  refine k_getR (pc := 5) C lkF_RX11_12_11 hs1 ir_11_0 hb3 dX11_may_5 ?_
  obtain ⟨hs40, h⟩ := gp_e h
  have hs4 := sok_e hs40
  refine k_getI (pc := 8) C lkF_RX11_89_7 hs4 ir_7_6 dX11_may_8 ?_
  refine k_aloadn (pc := 11) C dX11_may_11 (i := 0) rfl 0 rfl ?_
  obtain ⟨b5, hb5, h⟩ := rl_e h
  refine k_getR (pc := 12) C lkF_RX11_12_11 hs1 ir_11_0 hb5 dX11_may_12 ?_
  obtain ⟨hs60, h⟩ := gp_e h
  have hs6 := sok_e hs60
  obtain ⟨r7, hr7, h⟩ := bd_e h
  refine k_V (pc := 15) (st := [.int (I b3 6), .ref (E.1 + b2)]) C (c_X7_last hr7) lkV_RX11_93 hs6 rfl rfl rfl (Nat.le_of_ble_eq_true rfl) (Nat.le_of_ble_eq_true rfl) (Nat.le_of_ble_eq_true rfl) (Nat.le_of_ble_eq_true rfl) (Nat.le_of_ble_eq_true rfl) dX11_may_15 ?_
  refine k_nf (cells2 := 0) (slots2 := 0) (st2 := [.int r7, .int (I b3 6), .ref (E.1 + b2)]) rfl rfl rfl ?_
  obtain ⟨hs80, h⟩ := gp_e h
  have hs8 := sok_e hs80
  obtain ⟨r9, hr9, h⟩ := bd_e h
  refine k_V (pc := 18) (st := []) C (c_X7_mayGo hr9) lkV_RX11_97 hs8 rfl rfl rfl (Nat.le_of_ble_eq_true rfl) (Nat.le_of_ble_eq_true rfl) (Nat.le_of_ble_eq_true rfl) (Nat.le_of_ble_eq_true rfl) (Nat.le_of_ble_eq_true rfl) dX11_may_18 ?_
  refine k_nf (cells2 := 0) (slots2 := 0) (st2 := [.int r9]) rfl rfl rfl ?_
  have h := Option.some.inj h
  subst h
  exact k_iret (pc := 21) C hr hk dX11_may_21
theorem c_X11_may {E : Ev} {l : Launch} {S : Sh} {R : Rw} {I : Iw} {a0 : Nat} {r : Int32} (h : f_X11_may S R I a0 = some r) : Mt E l yX11_may cX11_may 1 (some .int) 3 68 [.ref (E.1 + a0)] S R I S R I (some (.int r)) 0 0 := mt_of (by decide) (Nat.le_of_ble_eq_true rfl) (fun p e s m args below meth c C hr hk hn => b_X11_may C hr hk _ h)
