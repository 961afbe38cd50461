/-! X11_trace, X11_many, X11_keep, X11_again -/
theorem lkF_RX11_248_11 : LkF RX11 248 11 11 := ⟨RX11, TX11, 12, "UnlikeNeighbours", fc11, by decide, (t2_in 4 (by decide +kernel) rfl), Or.inl rfl⟩
theorem lkF_RX11_287_0 : LkF RX11 287 0 3 := ⟨RX0, TX0, 5, "UnlikeNeighbours$Thing", fc0, by decide, (t4_in 110 (by decide +kernel) rfl), Or.inl rfl⟩
theorem lkF_RX11_287_1 : LkF RX11 287 1 3 := ⟨RX1, TX1, 5, "UnlikeNeighbours$Thing", fc1, by decide, (t4_in 110 (by decide +kernel) rfl), Or.inl rfl⟩
theorem lkF_RX11_287_4 : LkF RX11 287 4 3 := ⟨RX4, TX4, 5, "UnlikeNeighbours$Thing", fc4, by decide, (t4_in 110 (by decide +kernel) rfl), Or.inl rfl⟩
theorem lkF_RX11_287_6 : LkF RX11 287 6 3 := ⟨RX6, TX6, 5, "UnlikeNeighbours$Thing", fc6, by decide, (t4_in 110 (by decide +kernel) rfl), Or.inl rfl⟩
theorem lkF_RX11_287_9 : LkF RX11 287 9 3 := ⟨RX9, TX9, 5, "UnlikeNeighbours$Thing", fc9, by decide, (t4_in 110 (by decide +kernel) rfl), Or.inl rfl⟩
theorem lkF_RX11_287_10 : LkF RX11 287 10 3 := ⟨RX10, TX10, 5, "UnlikeNeighbours$Thing", fc10, by decide, (t4_in 110 (by decide +kernel) rfl), Or.inl rfl⟩
theorem lkFT_RX11_287 : ∀ ci : Nat, thc ci = true → LkF RX11 287 ci 3 := th_all lkF_RX11_287_0 lkF_RX11_287_1 lkF_RX11_287_4 lkF_RX11_287_6 lkF_RX11_287_9 lkF_RX11_287_10
theorem lkF_RX11_290_0 : LkF RX11 290 0 2 := ⟨RX0, TX0, 5, "UnlikeNeighbours$Thing", fc0, by decide, (t4_in 108 (by decide +kernel) rfl), Or.inl rfl⟩
theorem lkF_RX11_290_1 : LkF RX11 290 1 2 := ⟨RX1, TX1, 5, "UnlikeNeighbours$Thing", fc1, by decide, (t4_in 108 (by decide +kernel) rfl), Or.inl rfl⟩
theorem lkF_RX11_290_4 : LkF RX11 290 4 2 := ⟨RX4, TX4, 5, "UnlikeNeighbours$Thing", fc4, by decide, (t4_in 108 (by decide +kernel) rfl), Or.inl rfl⟩
theorem lkF_RX11_290_6 : LkF RX11 290 6 2 := ⟨RX6, TX6, 5, "UnlikeNeighbours$Thing", fc6, by decide, (t4_in 108 (by decide +kernel) rfl), Or.inl rfl⟩
theorem lkF_RX11_290_9 : LkF RX11 290 9 2 := ⟨RX9, TX9, 5, "UnlikeNeighbours$Thing", fc9, by decide, (t4_in 108 (by decide +kernel) rfl), Or.inl rfl⟩
theorem lkF_RX11_290_10 : LkF RX11 290 10 2 := ⟨RX10, TX10, 5, "UnlikeNeighbours$Thing", fc10, by decide, (t4_in 108 (by decide +kernel) rfl), Or.inl rfl⟩
theorem lkFT_RX11_290 : ∀ ci : Nat, thc ci = true → LkF RX11 290 ci 2 := th_all lkF_RX11_290_0 lkF_RX11_290_1 lkF_RX11_290_4 lkF_RX11_290_6 lkF_RX11_290_9 lkF_RX11_290_10
theorem dX11_trace_0 : decode cX11_trace 0 = .ok (.aload_n 0, 1) := by decide +kernel
theorem dX11_trace_1 : decode cX11_trace 1 = .ok (.getfield 248, 3) := by decide +kernel
theorem dX11_trace_4 : decode cX11_trace 4 = .ok (.ifnull 30, 3) := by decide +kernel
theorem dX11_trace_7 : decode cX11_trace 7 = .ok (.iload_n 1, 1) := by decide +kernel
theorem dX11_trace_8 : decode cX11_trace 8 = .ok (.ifCond .lt 26, 3) := by decide +kernel
theorem dX11_trace_11 : decode cX11_trace 11 = .ok (.iload_n 1, 1) := by decide +kernel
theorem dX11_trace_12 : decode cX11_trace 12 = .ok (.aload_n 0, 1) := by decide +kernel
theorem dX11_trace_13 : decode cX11_trace 13 = .ok (.getfield 248, 3) := by decide +kernel
theorem dX11_trace_16 : decode cX11_trace 16 = .ok (.getfield 287, 3) := by decide +kernel
theorem dX11_trace_19 : decode cX11_trace 19 = .ok (.if_icmp .ge 15, 3) := by decide +kernel
theorem dX11_trace_22 : decode cX11_trace 22 = .ok (.aload_n 0, 1) := by decide +kernel
theorem dX11_trace_23 : decode cX11_trace 23 = .ok (.getfield 248, 3) := by decide +kernel
theorem dX11_trace_26 : decode cX11_trace 26 = .ok (.getfield 290, 3) := by decide +kernel
theorem dX11_trace_29 : decode cX11_trace 29 = .ok (.iload_n 1, 1) := by decide +kernel
theorem dX11_trace_30 : decode cX11_trace 30 = .ok (.iaload, 1) := by decide +kernel
theorem dX11_trace_31 : decode cX11_trace 31 = .ok (.goto 5, 3) := by decide +kernel
theorem dX11_trace_34 : decode cX11_trace 34 = .ok (.bipush (-3), 2) := by decide +kernel
theorem dX11_trace_36 : decode cX11_trace 36 = .ok (.ireturn, 1) := by decide +kernel
def f_X11_trace (S : Sh) (R : Rw) (I : Iw)  (a0 : Nat) (x1 : Int32) : Option (Int32) := gp (sok S a0 11 12) ((onl (R a0 11) (some (-3 : Int32)) ((if x1 < 0 then some (-3 : Int32) else rl (R a0 11) (fun b4 => gp (thg S b4) ((if (I b4 3) ≤ x1 then some (-3 : Int32) else rl (R a0 11) (fun b8 => gp (thg S b8) (rl (R b8 2) (fun b11 => gp (aok S 20 b11 x1) (some (I b11 x1.toNatClampNeg))))))))))))
set_option maxHeartbeats 4000000 in
theorem b_X11_trace {E : Ev} {p : Program} {l : Launch} {e : Env} {s : State} {m : MethodId} {args : Array Value} {below : List Frame} {meth : Method} {c : Code} (C : Cx E RX11 cX11_trace 2 p s m c) (hr : meth.sig.returnType = (some .int)) (hk : meth.locks = false) {S : Sh} {R : Rw} {I : Iw} {r : Int32}  : ∀ (a0 : Nat) (x1 : Int32), f_X11_trace S R I   a0 x1 = some r → Wk E 2 p l e ({ frames := 0, cells := 0, slots := 0, locals := 0 } : Room) s m args below meth c 0 0 (MQ below (Qw E S R I (some (.int r))) args s 0 0 (fun q => E.1 ≤ q)) 0 [(0, .ref (E.1 + a0)), (1, .int x1)] [] S R I := by
  intro a0 x1 h
  rw [f_X11_trace] at h
  refine k_aloadn (pc := 0) C dX11_trace_0 (i := 0) rfl 0 rfl ?_
  obtain ⟨hs10, h⟩ := gp_e h
  have hs1 := sok_e hs10
  refine k_getO (pc := 1) C lkF_RX11_248_11 hs1 ir_11_11 dX11_trace_1 ?_
  refine k_ifnull (pc := 4) C dX11_trace_4 (tgt := 34) (by decide) (fun hc2 => ?_) (fun _ hc2 => ?_)
  · rw [onl_n hc2] at h
    refine k_bipush (pc := 34) C (v := (-3 : Int32)) dX11_trace_34 (by decide) ?_
    have h := Option.some.inj h
    subst h
    exact k_iret (pc := 36) C hr hk dX11_trace_36
  · rw [onl_s hc2] at h
    refine k_iloadn (pc := 7) C dX11_trace_7 (i := 1) rfl 1 rfl ?_
    refine k_if_lt (pc := 8) C dX11_trace_8 (tgt := 34) (by decide) (fun hc3 => ?_) (fun hc3 => ?_)
    · rw [if_pos hc3] at h
      refine k_bipush (pc := 34) C (v := (-3 : Int32)) dX11_trace_34 (by decide) ?_
      have h := Option.some.inj h
      subst h
      exact k_iret (pc := 36) C hr hk dX11_trace_36
    · rw [if_neg hc3] at h
      refine k_iloadn (pc := 11) C dX11_trace_11 (i := 1) rfl 1 rfl ?_
      refine k_aloadn (pc := 12) C dX11_trace_12 (i := 0) rfl 0 rfl ?_
      obtain ⟨b4, hb4, h⟩ := rl_e h
      refine k_getR (pc := 13) C lkF_RX11_248_11 hs1 ir_11_11 hb4 dX11_trace_13 ?_
      obtain ⟨hs50, h⟩ := gp_e h
      obtain ⟨ci6, hs5t, hs5⟩ := thg_e hs50
      refine k_getI (pc := 16) C (lkFT_RX11_287 _ hs5t) hs5 (irT_3 _ hs5t) dX11_trace_16 ?_
      refine k_icmp_ge (pc := 19) C dX11_trace_19 (tgt := 34) (by decide) (fun hc7 => ?_) (fun hc7 => ?_)
      · rw [if_pos hc7] at h
        refine k_bipush (pc := 34) C (v := (-3 : Int32)) dX11_trace_34 (by decide) ?_
        have h := Option.some.inj h
        subst h
        exact k_iret (pc := 36) C hr hk dX11_trace_36
      · rw [if_neg hc7] at h
        refine k_aloadn (pc := 22) C dX11_trace_22 (i := 0) rfl 0 rfl ?_
        obtain ⟨b8, hb8, h⟩ := rl_e h
        refine k_getR (pc := 23) C lkF_RX11_248_11 hs1 ir_11_11 hb8 dX11_trace_23 ?_
        obtain ⟨hs90, h⟩ := gp_e h
        obtain ⟨ci10, hs9t, hs9⟩ := thg_e hs90
        obtain ⟨b11, hb11, h⟩ := rl_e h
        refine k_getR (pc := 26) C (lkFT_RX11_290 _ hs9t) hs9 (irT_2 _ hs9t) hb11 dX11_trace_26 ?_
        refine k_iloadn (pc := 29) C dX11_trace_29 (i := 1) rfl 1 rfl ?_
        obtain ⟨ha12, h⟩ := gp_e h
        refine k_iald (pc := 30) C ha12 dX11_trace_30 ?_
        refine k_goto (pc := 31) C dX11_trace_31 (tgt := 36) (by decide) ?_
        have h := Option.some.inj h
        subst h
        exact k_iret (pc := 36) C hr hk dX11_trace_36
theorem c_X11_trace {E : Ev} {l : Launch} {S : Sh} {R : Rw} {I : Iw} {a0 : Nat} {x1 : Int32} {r : Int32} (h : f_X11_trace S R I a0 x1 = some r) : Mt E l yX11_trace cX11_trace 2 (some .int) 0 0 [.ref (E.1 + a0), .int x1] S R I S R I (some (.int r)) 0 0 := mt_of (by decide) (Nat.le_of_ble_eq_true rfl) (fun p e s m args below meth c C hr hk hn => b_X11_trace C hr hk _ _ h)
theorem lkF_RX11_293_5 : LkF RX11 293 5 0 := ⟨RX5, TX5, 8, "UnlikeNeighbours$Rules", fc5, by decide, (t1_in 43 (by decide +kernel) rfl), Or.inl rfl⟩
theorem lkF_RX11_296_3 : LkF RX11 296 3 0 := ⟨RX3, TX3, 7, "UnlikeNeighbours$Reader", fc3, by decide, (t1_in 147 (by decide +kernel) rfl), Or.inl rfl⟩
theorem dX11_many_0 : decode cX11_many 0 = .ok (.iload_n 1, 1) := by decide +kernel
theorem dX11_many_1 : decode cX11_many 1 = .ok (.tableswitch 110 0 6 #[43, 51, 62, 70, 78, 83, 91], 43) := by decide +kernel
theorem dX11_many_44 : decode cX11_many 44 = .ok (.aload_n 0, 1) := by decide +kernel
theorem dX11_many_45 : decode cX11_many 45 = .ok (.getfield 12, 3) := by decide +kernel
theorem dX11_many_48 : decode cX11_many 48 = .ok (.getfield 179, 3) := by decide +kernel
theorem dX11_many_51 : decode cX11_many 51 = .ok (.ireturn, 1) := by decide +kernel
theorem dX11_many_52 : decode cX11_many 52 = .ok (.aload_n 0, 1) := by decide +kernel
theorem dX11_many_53 : decode cX11_many 53 = .ok (.getfield 12, 3) := by decide +kernel
theorem dX11_many_56 : decode cX11_many 56 = .ok (.getfield 129, 3) := by decide +kernel
theorem dX11_many_59 : decode cX11_many 59 = .ok (.getfield 293, 3) := by decide +kernel
theorem dX11_many_62 : decode cX11_many 62 = .ok (.ireturn, 1) := by decide +kernel
theorem dX11_many_63 : decode cX11_many 63 = .ok (.aload_n 0, 1) := by decide +kernel
theorem dX11_many_64 : decode cX11_many 64 = .ok (.getfield 12, 3) := by decide +kernel
theorem dX11_many_67 : decode cX11_many 67 = .ok (.getfield 149, 3) := by decide +kernel
theorem dX11_many_70 : decode cX11_many 70 = .ok (.ireturn, 1) := by decide +kernel
theorem dX11_many_71 : decode cX11_many 71 = .ok (.aload_n 0, 1) := by decide +kernel
theorem dX11_many_72 : decode cX11_many 72 = .ok (.getfield 12, 3) := by decide +kernel
theorem dX11_many_75 : decode cX11_many 75 = .ok (.getfield 188, 3) := by decide +kernel
theorem dX11_many_78 : decode cX11_many 78 = .ok (.ireturn, 1) := by decide +kernel
theorem dX11_many_79 : decode cX11_many 79 = .ok (.aload_n 0, 1) := by decide +kernel
theorem dX11_many_80 : decode cX11_many 80 = .ok (.getfield 209, 3) := by decide +kernel
theorem dX11_many_83 : decode cX11_many 83 = .ok (.ireturn, 1) := by decide +kernel
theorem dX11_many_84 : decode cX11_many 84 = .ok (.aload_n 0, 1) := by decide +kernel
theorem dX11_many_85 : decode cX11_many 85 = .ok (.getfield 22, 3) := by decide +kernel
theorem dX11_many_88 : decode cX11_many 88 = .ok (.getfield 296, 3) := by decide +kernel
theorem dX11_many_91 : decode cX11_many 91 = .ok (.ireturn, 1) := by decide +kernel
theorem dX11_many_92 : decode cX11_many 92 = .ok (.aload_n 0, 1) := by decide +kernel
theorem dX11_many_93 : decode cX11_many 93 = .ok (.getfield 248, 3) := by decide +kernel
theorem dX11_many_96 : decode cX11_many 96 = .ok (.ifnonnull 7, 3) := by decide +kernel
theorem dX11_many_99 : decode cX11_many 99 = .ok (.iconst 0, 1) := by decide +kernel
theorem dX11_many_100 : decode cX11_many 100 = .ok (.goto 10, 3) := by decide +kernel
theorem dX11_many_103 : decode cX11_many 103 = .ok (.aload_n 0, 1) := by decide +kernel
theorem dX11_many_104 : decode cX11_many 104 = .ok (.getfield 248, 3) := by decide +kernel
theorem dX11_many_107 : decode cX11_many 107 = .ok (.getfield 287, 3) := by decide +kernel
theorem dX11_many_110 : decode cX11_many 110 = .ok (.ireturn, 1) := by decide +kernel
theorem dX11_many_111 : decode cX11_many 111 = .ok (.iconst (-1), 1) := by decide +kernel
theorem dX11_many_112 : decode cX11_many 112 = .ok (.ireturn, 1) := by decide +kernel
def f_X11_many (S : Sh) (R : Rw) (I : Iw)  (a0 : Nat) (x1 : Int32) : Option (Int32) := (if x1 = (0 : Int32) then gp (sok S a0 11 12) (rl (R a0 0) (fun b2 => gp (sok S b2 7 16) (some (I b2 5)))) else (if x1 = (1 : Int32) then gp (sok S a0 11 12) (rl (R a0 0) (fun b5 => gp (sok S b5 7 16) (rl (R b5 11) (fun b7 => gp (sok S b7 5 8) (some (I b7 0)))))) else (if x1 = (2 : Int32) then gp (sok S a0 11 12) (rl (R a0 0) (fun b10 => gp (sok S b10 7 16) (some (I b10 8)))) else (if x1 = (3 : Int32) then gp (sok S a0 11 12) (rl (R a0 0) (fun b13 => gp (sok S b13 7 16) (some (I b13 14)))) else (if x1 = (4 : Int32) then gp (sok S a0 11 12) (some (I a0 6)) else (if x1 = (5 : Int32) then gp (sok S a0 11 12) (rl (R a0 3) (fun b17 => gp (sok S b17 3 7) (some (I b17 0)))) else (if x1 = (6 : Int32) then gp (sok S a0 11 12) ((onl (R a0 11) (some (0 : Int32)) (rl (R a0 11) (fun b21 => gp (thg S b21) (some (I b21 3)))))) else some (-1 : Int32))))))))
set_option maxHeartbeats 4000000 in
theorem b_X11_many {E : Ev} {p : Program} {l : Launch} {e : Env} {s : State} {m : MethodId} {args : Array Value} {below : List Frame} {meth : Method} {c : Code} (C : Cx E RX11 cX11_many 2 p s m c) (hr : meth.sig.returnType = (some .int)) (hk : meth.locks = false) {S : Sh} {R : Rw} {I : Iw} {r : Int32}  : ∀ (a0 : Nat) (x1 : Int32), f_X11_many S R I   a0 x1 = some r → Wk E 2 p l e ({ frames := 0, cells := 0, slots := 0, locals := 0 } : Room) s m args below meth c 0 0 (MQ below (Qw E S R I (some (.int r))) args s 0 0 (fun q => E.1 ≤ q)) 0 [(0, .ref (E.1 + a0)), (1, .int x1)] [] S R I := by
  intro a0 x1 h
  rw [f_X11_many] at h
  refine k_iloadn (pc := 0) C dX11_many_0 (i := 1) rfl 1 rfl ?_
  by_cases hc24 : x1 = (0 : Int32)
  · rw [if_pos hc24] at h
    refine k_tabIn (pc := 1) C dX11_many_1 (by rw [hc24]; decide) (by rw [hc24]; decide) (off := 43) (by rw [hc24]; rfl) (tgt := 44) (by decide) ?_
    refine k_aloadn (pc := 44) C dX11_many_44 (i := 0) rfl 0 rfl ?_
    obtain ⟨hs10, h⟩ := gp_e h
    have hs1 := sok_e hs10
    obtain ⟨b2, hb2, h⟩ := rl_e h
    refine k_getR (pc := 45) C lkF_RX11_12_11 hs1 ir_11_0 hb2 dX11_many_45 ?_
    obtain ⟨hs30, h⟩ := gp_e h
    have hs3 := sok_e hs30
    refine k_getI (pc := 48) C lkF_RX11_179_7 hs3 ir_7_5 dX11_many_48 ?_
    have h := Option.some.inj h
    subst h
    exact k_iret (pc := 51) C hr hk dX11_many_51
  · rw [if_neg hc24] at h
    by_cases hc25 : x1 = (1 : Int32)
    · rw [if_pos hc25] at h
      refine k_tabIn (pc := 1) C dX11_many_1 (by rw [hc25]; decide) (by rw [hc25]; decide) (off := 51) (by rw [hc25]; rfl) (tgt := 52) (by decide) ?_
      refine k_aloadn (pc := 52) C dX11_many_52 (i := 0) rfl 0 rfl ?_
      obtain ⟨hs40, h⟩ := gp_e h
      have hs4 := sok_e hs40
      obtain ⟨b5, hb5, h⟩ := rl_e h
      refine k_getR (pc := 53) C lkF_RX11_12_11 hs4 ir_11_0 hb5 dX11_many_53 ?_
      obtain ⟨hs60, h⟩ := gp_e h
      have hs6 := sok_e hs60
      obtain ⟨b7, hb7, h⟩ := rl_e h
      refine k_getR (pc := 56) C lkF_RX11_129_7 hs6 ir_7_11 hb7 dX11_many_56 ?_
      obtain ⟨hs80, h⟩ := gp_e h
      have hs8 := sok_e hs80
      refine k_getI (pc := 59) C lkF_RX11_293_5 hs8 ir_5_0 dX11_many_59 ?_
      have h := Option.some.inj h
      subst h
      exact k_iret (pc := 62) C hr hk dX11_many_62
    · rw [if_neg hc25] at h
      by_cases hc26 : x1 = (2 : Int32)
      · rw [if_pos hc26] at h
        refine k_tabIn (pc := 1) C dX11_many_1 (by rw [hc26]; decide) (by rw [hc26]; decide) (off := 62) (by rw [hc26]; rfl) (tgt := 63) (by decide) ?_
        refine k_aloadn (pc := 63) C dX11_many_63 (i := 0) rfl 0 rfl ?_
        obtain ⟨hs90, h⟩ := gp_e h
        have hs9 := sok_e hs90
        obtain ⟨b10, hb10, h⟩ := rl_e h
        refine k_getR (pc := 64) C lkF_RX11_12_11 hs9 ir_11_0 hb10 dX11_many_64 ?_
        obtain ⟨hs110, h⟩ := gp_e h
        have hs11 := sok_e hs110
        refine k_getI (pc := 67) C lkF_RX11_149_7 hs11 ir_7_8 dX11_many_67 ?_
        have h := Option.some.inj h
        subst h
        exact k_iret (pc := 70) C hr hk dX11_many_70
      · rw [if_neg hc26] at h
        by_cases hc27 : x1 = (3 : Int32)
        · rw [if_pos hc27] at h
          refine k_tabIn (pc := 1) C dX11_many_1 (by rw [hc27]; decide) (by rw [hc27]; decide) (off := 70) (by rw [hc27]; rfl) (tgt := 71) (by decide) ?_
          refine k_aloadn (pc := 71) C dX11_many_71 (i := 0) rfl 0 rfl ?_
          obtain ⟨hs120, h⟩ := gp_e h
          have hs12 := sok_e hs120
          obtain ⟨b13, hb13, h⟩ := rl_e h
          refine k_getR (pc := 72) C lkF_RX11_12_11 hs12 ir_11_0 hb13 dX11_many_72 ?_
          obtain ⟨hs140, h⟩ := gp_e h
          have hs14 := sok_e hs140
          refine k_getI (pc := 75) C lkF_RX11_188_7 hs14 ir_7_14 dX11_many_75 ?_
          have h := Option.some.inj h
          subst h
          exact k_iret (pc := 78) C hr hk dX11_many_78
        · rw [if_neg hc27] at h
          by_cases hc28 : x1 = (4 : Int32)
          · rw [if_pos hc28] at h
            refine k_tabIn (pc := 1) C dX11_many_1 (by rw [hc28]; decide) (by rw [hc28]; decide) (off := 78) (by rw [hc28]; rfl) (tgt := 79) (by decide) ?_
            refine k_aloadn (pc := 79) C dX11_many_79 (i := 0) rfl 0 rfl ?_
            obtain ⟨hs150, h⟩ := gp_e h
            have hs15 := sok_e hs150
            refine k_getI (pc := 80) C lkF_RX11_209_11 hs15 ir_11_6 dX11_many_80 ?_
            have h := Option.some.inj h
            subst h
            exact k_iret (pc := 83) C hr hk dX11_many_83
          · rw [if_neg hc28] at h
            by_cases hc29 : x1 = (5 : Int32)
            · rw [if_pos hc29] at h
              refine k_tabIn (pc := 1) C dX11_many_1 (by rw [hc29]; decide) (by rw [hc29]; decide) (off := 83) (by rw [hc29]; rfl) (tgt := 84) (by decide) ?_
              refine k_aloadn (pc := 84) C dX11_many_84 (i := 0) rfl 0 rfl ?_
              obtain ⟨hs160, h⟩ := gp_e h
              have hs16 := sok_e hs160
              obtain ⟨b17, hb17, h⟩ := rl_e h
              refine k_getR (pc := 85) C lkF_RX11_22_11 hs16 ir_11_3 hb17 dX11_many_85 ?_
              obtain ⟨hs180, h⟩ := gp_e h
              have hs18 := sok_e hs180
              refine k_getI (pc := 88) C lkF_RX11_296_3 hs18 ir_3_0 dX11_many_88 ?_
              have h := Option.some.inj h
              subst h
              exact k_iret (pc := 91) C hr hk dX11_many_91
            · rw [if_neg hc29] at h
              by_cases hc30 : x1 = (6 : Int32)
              · rw [if_pos hc30] at h
                refine k_tabIn (pc := 1) C dX11_many_1 (by rw [hc30]; decide) (by rw [hc30]; decide) (off := 91) (by rw [hc30]; rfl) (tgt := 92) (by decide) ?_
                refine k_aloadn (pc := 92) C dX11_many_92 (i := 0) rfl 0 rfl ?_
                obtain ⟨hs190, h⟩ := gp_e h
                have hs19 := sok_e hs190
                refine k_getO (pc := 93) C lkF_RX11_248_11 hs19 ir_11_11 dX11_many_93 ?_
                refine k_ifnonnull (pc := 96) C dX11_many_96 (tgt := 103) (by decide) (fun hc20 => ?_) (fun _ hc20 => ?_)
                · rw [onl_n hc20] at h
                  refine k_iconst (pc := 99) C (v := (0 : Int32)) dX11_many_99 (by decide) ?_
                  refine k_goto (pc := 100) C dX11_many_100 (tgt := 110) (by decide) ?_
                  have h := Option.some.inj h
                  subst h
                  exact k_iret (pc := 110) C hr hk dX11_many_110
                · rw [onl_s hc20] at h
                  refine k_aloadn (pc := 103) C dX11_many_103 (i := 0) rfl 0 rfl ?_
                  obtain ⟨b21, hb21, h⟩ := rl_e h
                  refine k_getR (pc := 104) C lkF_RX11_248_11 hs19 ir_11_11 hb21 dX11_many_104 ?_
                  obtain ⟨hs220, h⟩ := gp_e h
                  obtain ⟨ci23, hs22t, hs22⟩ := thg_e hs220
                  refine k_getI (pc := 107) C (lkFT_RX11_287 _ hs22t) hs22 (irT_3 _ hs22t) dX11_many_107 ?_
                  have h := Option.some.inj h
                  subst h
                  exact k_iret (pc := 110) C hr hk dX11_many_110
              · rw [if_neg hc30] at h
                refine k_tabOut (pc := 1) C dX11_many_1 (tab_out x1 0 6 (fun z h1 h2 hz => by
                  have hz2 : z = 0 ∨ z = 1 ∨ z = 2 ∨ z = 3 ∨ z = 4 ∨ z = 5 ∨ z = 6 := by omega
                  rcases hz2 with rfl | rfl | rfl | rfl | rfl | rfl | rfl
                  · exact hc24 (Int32.toInt_inj.mp (hz.trans (by decide)))
                  · exact hc25 (Int32.toInt_inj.mp (hz.trans (by decide)))
                  · exact hc26 (Int32.toInt_inj.mp (hz.trans (by decide)))
                  · exact hc27 (Int32.toInt_inj.mp (hz.trans (by decide)))
                  · exact hc28 (Int32.toInt_inj.mp (hz.trans (by decide)))
                  · exact hc29 (Int32.toInt_inj.mp (hz.trans (by decide)))
                  · exact hc30 (Int32.toInt_inj.mp (hz.trans (by decide)))
                  ) ) (tgt := 111) (by decide) ?_
                refine k_iconst (pc := 111) C (v := (-1 : Int32)) dX11_many_111 (by decide) ?_
                have h := Option.some.inj h
                subst h
                exact k_iret (pc := 112) C hr hk dX11_many_112
theorem c_X11_many {E : Ev} {l : Launch} {S : Sh} {R : Rw} {I : Iw} {a0 : Nat} {x1 : Int32} {r : Int32} (h : f_X11_many S R I a0 x1 = some r) : Mt E l yX11_many cX11_many 2 (some .int) 0 0 [.ref (E.1 + a0), .int x1] S R I S R I (some (.int r)) 0 0 := mt_of (by decide) (Nat.le_of_ble_eq_true rfl) (fun p e s m args below meth c C hr hk hn => b_X11_many C hr hk _ _ h)
theorem lkF_RX11_16_11 : LkF RX11 16 11 1 := ⟨RX11, TX11, 12, "UnlikeNeighbours", fc11, by decide, (t1_in 234 (by decide +kernel) rfl), Or.inl rfl⟩
theorem lkV_RX11_299 : LkV RX11 299 RX7 yX7_copyFrom cX7_copyFrom 2 none 1 := ⟨(t5_in 52 (by decide +kernel) rfl), (t5_in 53 (by decide +kernel) rfl), (t5_in 54 (by decide +kernel) rfl), (t5_in 55 (by decide +kernel) rfl), (t1_in 2 (by decide +kernel) rfl), by decide, by decide +kernel⟩
theorem lkP_RX11_302_11 : LkP RX11 302 11 2 .boolean := ⟨RX11, TX11, 12, "UnlikeNeighbours", fc11, by decide, (t1_in 235 (by decide +kernel) rfl), Or.inl rfl, rfl, by decide +kernel⟩
theorem dX11_keep_0 : decode cX11_keep 0 = .ok (.aload_n 0, 1) := by decide +kernel
theorem dX11_keep_1 : decode cX11_keep 1 = .ok (.getfield 16, 3) := by decide +kernel
theorem dX11_keep_4 : decode cX11_keep 4 = .ok (.aload_n 0, 1) := by decide +kernel
theorem dX11_keep_5 : decode cX11_keep 5 = .ok (.getfield 12, 3) := by decide +kernel
theorem dX11_keep_8 : decode cX11_keep 8 = .ok (.invokevirtual 299, 3) := by decide +kernel
theorem dX11_keep_11 : decode cX11_keep 11 = .ok (.aload_n 0, 1) := by decide +kernel
theorem dX11_keep_12 : decode cX11_keep 12 = .ok (.iconst 1, 1) := by decide +kernel
theorem dX11_keep_13 : decode cX11_keep 13 = .ok (.putfield 302, 3) := by decide +kernel
theorem dX11_keep_16 : decode cX11_keep 16 = .ok (.iconst 1, 1) := by decide +kernel
theorem dX11_keep_17 : decode cX11_keep 17 = .ok (.ireturn, 1) := by decide +kernel
def f_X11_keep (S : Sh) (R : Rw)  (I : Iw) (a0 : Nat) : Option (Iw × Int32) := gp (sok S a0 11 12) (rl (R a0 1) (fun b2 => rl (R a0 0) (fun b3 => gp (sok S b2 7 16) (bd (f_X7_copyFrom S R I b2 b3) (fun r5 => lt (up2 r5 a0 2 (1 : Int32)) (fun I6 => some (I6, (1 : Int32))))))))
set_option maxHeartbeats 4000000 in
theorem b_X11_keep {E : Ev} {p : Program} {l : Launch} {e : Env} {s : State} {m : MethodId} {args : Array Value} {below : List Frame} {meth : Method} {c : Code} (C : Cx E RX11 cX11_keep 1 p s m c) (hr : meth.sig.returnType = (some .int)) (hk : meth.locks = false) {S : Sh} {R : Rw} {r : Iw × Int32}  : ∀ (I : Iw) (a0 : Nat), f_X11_keep S R   I a0 = some r → Wk E 1 p l e ({ frames := 3, cells := 0, slots := 0, locals := 102 } : Room) s m args below meth c 0 0 (MQ below (Qw E S R r.1 (some (.int r.2))) args s 0 0 (fun q => E.1 ≤ q)) 0 [(0, .ref (E.1 + a0))] [] S R I := by
  intro I a0 h
  rw [f_X11_keep] at h
  refine k_aloadn (pc := 0) C dX11_keep_0 (i := 0) rfl 0 rfl ?_
  obtain ⟨hs10, h⟩ := gp_e h
  have hs1 := sok_e hs10
  obtain ⟨b2, hb2, h⟩ := rl_e h
  refine k_getR (pc := 1) C lkF_RX11_16_11 hs1 ir_11_1 hb2 dX11_keep_1 ?_
  refine k_aloadn (pc := 4) C dX11_keep_4 (i := 0) rfl 0 rfl ?_
  obtain ⟨b3, hb3, h⟩ := rl_e h
  refine k_getR (pc := 5) C lkF_RX11_12_11 hs1 ir_11_0 hb3 dX11_keep_5 ?_
  obtain ⟨hs40, h⟩ := gp_e h
  have hs4 := sok_e hs40
  obtain ⟨r5, hr5, h⟩ := bd_e h
  refine k_V (pc := 8) (st := []) C (c_X7_copyFrom hr5) lkV_RX11_299 hs4 rfl rfl rfl (Nat.le_of_ble_eq_true rfl) (Nat.le_of_ble_eq_true rfl) (Nat.le_of_ble_eq_true rfl) (Nat.le_of_ble_eq_true rfl) (Nat.le_of_ble_eq_true rfl) dX11_keep_8 ?_
  refine k_nf (cells2 := 0) (slots2 := 0) (st2 := []) rfl rfl rfl ?_
  refine k_aloadn (pc := 11) C dX11_keep_11 (i := 0) rfl 0 rfl ?_
  refine k_iconst (pc := 12) C (v := (1 : Int32)) dX11_keep_12 (by decide) ?_
  obtain ⟨I6, eI6, h⟩ := lt_e h
  refine k_putZ (pc := 13) C lkP_RX11_302_11 hs1 ir_11_2 (Or.inr rfl) dX11_keep_13 ?_
  rw [← eI6]
  refine k_iconst (pc := 16) C (v := (1 : Int32)) dX11_keep_16 (by decide) ?_
  have h := Option.some.inj h
  subst h
  exact k_iret (pc := 17) C hr hk dX11_keep_17
theorem c_X11_keep {E : Ev} {l : Launch} {S : Sh} {R : Rw} {I : Iw} {a0 : Nat} {r : Iw × Int32} (h : f_X11_keep S R I a0 = some r) : Mt E l yX11_keep cX11_keep 1 (some .int) 3 102 [.ref (E.1 + a0)] S R I S R r.1 (some (.int r.2)) 0 0 := mt_of (by decide) (Nat.le_of_ble_eq_true rfl) (fun p e s m args below meth c C hr hk hn => b_X11_keep C hr hk _ _ h)
theorem lkF_RX11_302_11 : LkF RX11 302 11 2 := ⟨RX11, TX11, 12, "UnlikeNeighbours", fc11, by decide, (t1_in 235 (by decide +kernel) rfl), Or.inl rfl⟩
theorem dX11_again_0 : decode cX11_again 0 = .ok (.aload_n 0, 1) := by decide +kernel
theorem dX11_again_1 : decode cX11_again 1 = .ok (.getfield 302, 3) := by decide +kernel
theorem dX11_again_4 : decode cX11_again 4 = .ok (.ifCond .ne 6, 3) := by decide +kernel
theorem dX11_again_7 : decode cX11_again 7 = .ok (.bipush (-3), 2) := by decide +kernel
theorem dX11_again_9 : decode cX11_again 9 = .ok (.ireturn, 1) := by decide +kernel
theorem dX11_again_10 : decode cX11_again 10 = .ok (.aload_n 0, 1) := by decide +kernel
theorem dX11_again_11 : decode cX11_again 11 = .ok (.getfield 12, 3) := by decide +kernel
theorem dX11_again_14 : decode cX11_again 14 = .ok (.aload_n 0, 1) := by decide +kernel
theorem dX11_again_15 : decode cX11_again 15 = .ok (.getfield 16, 3) := by decide +kernel
theorem dX11_again_18 : decode cX11_again 18 = .ok (.invokevirtual 299, 3) := by decide +kernel
theorem dX11_again_21 : decode cX11_again 21 = .ok (.aload_n 0, 1) := by decide +kernel
theorem dX11_again_22 : decode cX11_again 22 = .ok (.getfield 12, 3) := by decide +kernel
theorem dX11_again_25 : decode cX11_again 25 = .ok (.getfield 179, 3) := by decide +kernel
theorem dX11_again_28 : decode cX11_again 28 = .ok (.ireturn, 1) := by decide +kernel
def f_X11_again (S : Sh) (R : Rw)  (I : Iw) (a0 : Nat) : Option (Iw × Int32) := gp (sok S a0 11 12) ((if (I a0 2) = 0 then some (I, (-3 : Int32)) else rl (R a0 0) (fun b3 => rl (R a0 1) (fun b4 => gp (sok S b3 7 16) (bd (f_X7_copyFrom S R I b3 b4) (fun r6 => rl (R a0 0) (fun b7 => gp (sok S b7 7 16) (some (r6, r6 b7 5)))))))))
set_option maxHeartbeats 4000000 in
theorem b_X11_again {E : Ev} {p : Program} {l : Launch} {e : Env} {s : State} {m : MethodId} {args : Array Value} {below : List Frame} {meth : Method} {c : Code} (C : Cx E RX11 cX11_again 1 p s m c) (hr : meth.sig.returnType = (some .int)) (hk : meth.locks = false) {S : Sh} {R : Rw} {r : Iw × Int32}  : ∀ (I : Iw) (a0 : Nat), f_X11_again S R   I a0 = some r → Wk E 1 p l e ({ frames := 3, cells := 0, slots := 0, locals := 102 } : Room) s m args below meth c 0 0 (MQ below (Qw E S R r.1 (some (.int r.2))) args s 0 0 (fun q => E.1 ≤ q)) 0 [(0, .ref (E.1 + a0))] [] S R I := by
  intro I a0 h
  rw [f_X11_again] at h
  refine k_aloadn (pc := 0) C dX11_again_0 (i := 0) rfl 0 rfl ?_
  obtain ⟨hs10, h⟩ := gp_e h
  have hs1 := sok_e hs10
  refine k_getI (pc := 1) C lkF_RX11_302_11 hs1 ir_11_2 dX11_again_1 ?_
  refine k_if_ne (pc := 4) C dX11_again_4 (tgt := 10) (by decide) (fun hc2 => ?_) (fun hc2 => ?_)
  · rw [if_neg hc2] at h
    refine k_aloadn (pc := 10) C dX11_again_10 (i := 0) rfl 0 rfl ?_
    obtain ⟨b3, hb3, h⟩ := rl_e h
    refine k_getR (pc := 11) C lkF_RX11_12_11 hs1 ir_11_0 hb3 dX11_again_11 ?_
    refine k_aloadn (pc := 14) C dX11_again_14 (i := 0) rfl 0 rfl ?_
    obtain ⟨b4, hb4, h⟩ := rl_e h
    refine k_getR (pc := 15) C lkF_RX11_16_11 hs1 ir_11_1 hb4 dX11_again_15 ?_
    obtain ⟨hs50, h⟩ := gp_e h
    have hs5 := sok_e hs50
    obtain ⟨r6, hr6, h⟩ := bd_e h
    refine k_V (pc := 18) (st := []) C (c_X7_copyFrom hr6) lkV_RX11_299 hs5 rfl rfl rfl (Nat.le_of_ble_eq_true rfl) (Nat.le_of_ble_eq_true rfl) (Nat.le_of_ble_eq_true rfl) (Nat.le_of_ble_eq_true rfl) (Nat.le_of_ble_eq_true rfl) dX11_again_18 ?_
    refine k_nf (cells2 := 0) (slots2 := 0) (st2 := []) rfl rfl rfl ?_
    refine k_aloadn (pc := 21) C dX11_again_21 (i := 0) rfl 0 rfl ?_
    obtain ⟨b7, hb7, h⟩ := rl_e h
    refine k_getR (pc := 22) C lkF_RX11_12_11 hs1 ir_11_0 hb7 dX11_again_22 ?_
    obtain ⟨hs80, h⟩ := gp_e h
    have hs8 := sok_e hs80
    refine k_getI (pc := 25) C lkF_RX11_179_7 hs8 ir_7_5 dX11_again_25 ?_
    have h := Option.some.inj h
    subst h
    exact k_iret (pc := 28) C hr hk dX11_again_28
  · rw [if_pos hc2] at h
    refine k_bipush (pc := 7) C (v := (-3 : Int32)) dX11_again_7 (by decide) ?_
    have h := Option.some.inj h
    subst h
    exact k_iret (pc := 9) C hr hk dX11_again_9
theorem c_X11_again {E : Ev} {l : Launch} {S : Sh} {R : Rw} {I : Iw} {a0 : Nat} {r : Iw × Int32} (h : f_X11_again S R I a0 = some r) : Mt E l yX11_again cX11_again 1 (some .int) 3 102 [.ref (E.1 + a0)] S R I S R r.1 (some (.int r.2)) 0 0 := mt_of (by decide) (Nat.le_of_ble_eq_true rfl) (fun p e s m args below meth c C hr hk hn => b_X11_again C hr hk _ _ h)
