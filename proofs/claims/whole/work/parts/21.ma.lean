/-! X11_good, X11_standing, X11_goodOf, X11_change, X11_remake -/
theorem lkF_RX11_12_11 : LkF RX11 12 11 0 := ⟨RX11, TX11, 12, "UnlikeNeighbours", fc11, by decide, (t1_in 233 (by decide +kernel) rfl), Or.inl rfl⟩
theorem lkV_RX11_59 : LkV RX11 59 RX7 yX7_add cX7_add 6 (some .int) 4 := ⟨(t2_in 37 (by decide +kernel) rfl), (t2_in 38 (by decide +kernel) rfl), (t2_in 39 (by decide +kernel) rfl), (t2_in 40 (by decide +kernel) rfl), (t1_in 2 (by decide +kernel) rfl), by decide, by decide +kernel⟩
theorem dX11_good_0 : decode cX11_good 0 = .ok (.iload_n 1, 1) := by decide +kernel
theorem dX11_good_1 : decode cX11_good 1 = .ok (.iconst 1, 1) := by decide +kernel
theorem dX11_good_2 : decode cX11_good 2 = .ok (.iconst 5, 1) := by decide +kernel
theorem dX11_good_3 : decode cX11_good 3 = .ok (.invokestatic 55, 3) := by decide +kernel
theorem dX11_good_6 : decode cX11_good 6 = .ok (.ifCond .eq 34, 3) := by decide +kernel
theorem dX11_good_9 : decode cX11_good 9 = .ok (.iload_n 2, 1) := by decide +kernel
theorem dX11_good_10 : decode cX11_good 10 = .ok (.iconst 0, 1) := by decide +kernel
theorem dX11_good_11 : decode cX11_good 11 = .ok (.iconst 2, 1) := by decide +kernel
theorem dX11_good_12 : decode cX11_good 12 = .ok (.invokestatic 55, 3) := by decide +kernel
theorem dX11_good_15 : decode cX11_good 15 = .ok (.ifCond .eq 25, 3) := by decide +kernel
theorem dX11_good_18 : decode cX11_good 18 = .ok (.iload_n 3, 1) := by decide +kernel
theorem dX11_good_19 : decode cX11_good 19 = .ok (.iconst 0, 1) := by decide +kernel
theorem dX11_good_20 : decode cX11_good 20 = .ok (.bipush 9, 2) := by decide +kernel
theorem dX11_good_22 : decode cX11_good 22 = .ok (.invokestatic 55, 3) := by decide +kernel
theorem dX11_good_25 : decode cX11_good 25 = .ok (.ifCond .eq 15, 3) := by decide +kernel
theorem dX11_good_28 : decode cX11_good 28 = .ok (.iload 4, 2) := by decide +kernel
theorem dX11_good_30 : decode cX11_good 30 = .ok (.iconst 1, 1) := by decide +kernel
theorem dX11_good_31 : decode cX11_good 31 = .ok (.sipush 999, 3) := by decide +kernel
theorem dX11_good_34 : decode cX11_good 34 = .ok (.invokestatic 55, 3) := by decide +kernel
theorem dX11_good_37 : decode cX11_good 37 = .ok (.ifCond .ne 5, 3) := by decide +kernel
theorem dX11_good_40 : decode cX11_good 40 = .ok (.iconst (-1), 1) := by decide +kernel
theorem dX11_good_41 : decode cX11_good 41 = .ok (.ireturn, 1) := by decide +kernel
theorem dX11_good_42 : decode cX11_good 42 = .ok (.aload_n 0, 1) := by decide +kernel
theorem dX11_good_43 : decode cX11_good 43 = .ok (.getfield 12, 3) := by decide +kernel
theorem dX11_good_46 : decode cX11_good 46 = .ok (.iload_n 1, 1) := by decide +kernel
theorem dX11_good_47 : decode cX11_good 47 = .ok (.iload_n 2, 1) := by decide +kernel
theorem dX11_good_48 : decode cX11_good 48 = .ok (.iload_n 3, 1) := by decide +kernel
theorem dX11_good_49 : decode cX11_good 49 = .ok (.iload 4, 2) := by decide +kernel
theorem dX11_good_51 : decode cX11_good 51 = .ok (.invokevirtual 59, 3) := by decide +kernel
theorem dX11_good_54 : decode cX11_good 54 = .ok (.ireturn, 1) := by decide +kernel
def f_X11_good (S : Sh) (R : Rw)  (I : Iw) (a0 : Nat) (x1 : Int32) (x2 : Int32) (x3 : Int32) (x4 : Int32) : Option (Iw × Int32) := bd (f_X11_isBetween S R I x1 (1 : Int32) (5 : Int32)) (fun r1 => (if r1 = 0 then some (I, (-1 : Int32)) else bd (f_X11_isBetween S R I x2 (0 : Int32) (2 : Int32)) (fun r3 => (if r3 = 0 then some (I, (-1 : Int32)) else bd (f_X11_isBetween S R I x3 (0 : Int32) (9 : Int32)) (fun r5 => (if r5 = 0 then some (I, (-1 : Int32)) else bd (f_X11_isBetween S R I x4 (1 : Int32) (999 : Int32)) (fun r7 => (if r7 = 0 then some (I, (-1 : Int32)) else gp (sok S a0 11 12) (rl (R a0 0) (fun b10 => gp (sok S b10 7 16) (bd (f_X7_add S R I b10 x1 x2 x3 x4) (fun r12 => some (r12.1, r12.2)))))))))))))
set_option maxHeartbeats 4000000 in
theorem b_X11_good {E : Ev} {p : Program} {l : Launch} {e : Env} {s : State} {m : MethodId} {args : Array Value} {below : List Frame} {meth : Method} {c : Code} (C : Cx E RX11 cX11_good 5 p s m c) (hr : meth.sig.returnType = (some .int)) (hk : meth.locks = false) {S : Sh} {R : Rw} {r : Iw × Int32}  : ∀ (I : Iw) (a0 : Nat) (x1 : Int32) (x2 : Int32) (x3 : Int32) (x4 : Int32), f_X11_good S R   I a0 x1 x2 x3 x4 = some r → Wk E 5 p l e ({ frames := 6, cells := 0, slots := 0, locals := 136 } : Room) s m args below meth c 0 0 (MQ below (Qw E S R r.1 (some (.int r.2))) args s 0 0 (fun q => E.1 ≤ q)) 0 [(0, .ref (E.1 + a0)), (1, .int x1), (2, .int x2), (3, .int x3), (4, .int x4)] [] S R I := by
  intro I a0 x1 x2 x3 x4 h
  rw [f_X11_good] at h
  refine k_iloadn (pc := 0) C dX11_good_0 (i := 1) rfl 1 rfl ?_
  refine k_iconst (pc := 1) C (v := (1 : Int32)) dX11_good_1 (by decide) ?_
  refine k_iconst (pc := 2) C (v := (5 : Int32)) dX11_good_2 (by decide) ?_
  obtain ⟨r1, hr1, h⟩ := bd_e h
  refine k_S (pc := 3) (st := []) C (c_X11_isBetween hr1) lkS_RX11_55 rfl rfl (Nat.le_of_ble_eq_true rfl) (Nat.le_of_ble_eq_true rfl) (Nat.le_of_ble_eq_true rfl) (Nat.le_of_ble_eq_true rfl) (Nat.le_of_ble_eq_true rfl) dX11_good_3 ?_
  refine k_nf (cells2 := 0) (slots2 := 0) (st2 := [.int r1]) rfl rfl rfl ?_
  refine k_if_eq (pc := 6) C dX11_good_6 (tgt := 40) (by decide) (fun hc2 => ?_) (fun hc2 => ?_)
  · rw [if_pos hc2] at h
    refine k_iconst (pc := 40) C (v := (-1 : Int32)) dX11_good_40 (by decide) ?_
    have h := Option.some.inj h
    subst h
    exact k_iret (pc := 41) C hr hk dX11_good_41
  · rw [if_neg hc2] at h
    refine k_iloadn (pc := 9) C dX11_good_9 (i := 2) rfl 2 rfl ?_
    refine k_iconst (pc := 10) C (v := (0 : Int32)) dX11_good_10 (by decide) ?_
    refine k_iconst (pc := 11) C (v := (2 : Int32)) dX11_good_11 (by decide) ?_
    obtain ⟨r3, hr3, h⟩ := bd_e h
    refine k_S (pc := 12) (st := []) C (c_X11_isBetween hr3) lkS_RX11_55 rfl rfl (Nat.le_of_ble_eq_true rfl) (Nat.le_of_ble_eq_true rfl) (Nat.le_of_ble_eq_true rfl) (Nat.le_of_ble_eq_true rfl) (Nat.le_of_ble_eq_true rfl) dX11_good_12 ?_
    refine k_nf (cells2 := 0) (slots2 := 0) (st2 := [.int r3]) rfl rfl rfl ?_
    refine k_if_eq (pc := 15) C dX11_good_15 (tgt := 40) (by decide) (fun hc4 => ?_) (fun hc4 => ?_)
    · rw [if_pos hc4] at h
      refine k_iconst (pc := 40) C (v := (-1 : Int32)) dX11_good_40 (by decide) ?_
      have h := Option.some.inj h
      subst h
      exact k_iret (pc := 41) C hr hk dX11_good_41
    · rw [if_neg hc4] at h
      refine k_iloadn (pc := 18) C dX11_good_18 (i := 3) rfl 3 rfl ?_
      refine k_iconst (pc := 19) C (v := (0 : Int32)) dX11_good_19 (by decide) ?_
      refine k_bipush (pc := 20) C (v := (9 : Int32)) dX11_good_20 (by decide) ?_
      obtain ⟨r5, hr5, h⟩ := bd_e h
      refine k_S (pc := 22) (st := []) C (c_X11_isBetween hr5) lkS_RX11_55 rfl rfl (Nat.le_of_ble_eq_true rfl) (Nat.le_of_ble_eq_true rfl) (Nat.le_of_ble_eq_true rfl) (Nat.le_of_ble_eq_true rfl) (Nat.le_of_ble_eq_true rfl) dX11_good_22 ?_
      refine k_nf (cells2 := 0) (slots2 := 0) (st2 := [.int r5]) rfl rfl rfl ?_
      refine k_if_eq (pc := 25) C dX11_good_25 (tgt := 40) (by decide) (fun hc6 => ?_) (fun hc6 => ?_)
      · rw [if_pos hc6] at h
        refine k_iconst (pc := 40) C (v := (-1 : Int32)) dX11_good_40 (by decide) ?_
        have h := Option.some.inj h
        subst h
        exact k_iret (pc := 41) C hr hk dX11_good_41
      · rw [if_neg hc6] at h
        refine k_iload (pc := 28) C dX11_good_28 4 rfl ?_
        refine k_iconst (pc := 30) C (v := (1 : Int32)) dX11_good_30 (by decide) ?_
        refine k_sipush (pc := 31) C (v := (999 : Int32)) dX11_good_31 (by decide) ?_
        obtain ⟨r7, hr7, h⟩ := bd_e h
        refine k_S (pc := 34) (st := []) C (c_X11_isBetween hr7) lkS_RX11_55 rfl rfl (Nat.le_of_ble_eq_true rfl) (Nat.le_of_ble_eq_true rfl) (Nat.le_of_ble_eq_true rfl) (Nat.le_of_ble_eq_true rfl) (Nat.le_of_ble_eq_true rfl) dX11_good_34 ?_
        refine k_nf (cells2 := 0) (slots2 := 0) (st2 := [.int r7]) rfl rfl rfl ?_
        refine k_if_ne (pc := 37) C dX11_good_37 (tgt := 42) (by decide) (fun hc8 => ?_) (fun hc8 => ?_)
        · rw [if_neg hc8] at h
          refine k_aloadn (pc := 42) C dX11_good_42 (i := 0) rfl 0 rfl ?_
          obtain ⟨hs90, h⟩ := gp_e h
          have hs9 := sok_e hs90
          obtain ⟨b10, hb10, h⟩ := rl_e h
          refine k_getR (pc := 43) C lkF_RX11_12_11 hs9 ir_11_0 hb10 dX11_good_43 ?_
          refine k_iloadn (pc := 46) C dX11_good_46 (i := 1) rfl 1 rfl ?_
          refine k_iloadn (pc := 47) C dX11_good_47 (i := 2) rfl 2 rfl ?_
          refine k_iloadn (pc := 48) C dX11_good_48 (i := 3) rfl 3 rfl ?_
          refine k_iload (pc := 49) C dX11_good_49 4 rfl ?_
          obtain ⟨hs110, h⟩ := gp_e h
          have hs11 := sok_e hs110
          obtain ⟨r12, hr12, h⟩ := bd_e h
          refine k_V (pc := 51) (st := []) C (c_X7_add hr12) lkV_RX11_59 hs11 rfl rfl rfl (Nat.le_of_ble_eq_true rfl) (Nat.le_of_ble_eq_true rfl) (Nat.le_of_ble_eq_true rfl) (Nat.le_of_ble_eq_true rfl) (Nat.le_of_ble_eq_true rfl) dX11_good_51 ?_
          refine k_nf (cells2 := 0) (slots2 := 0) (st2 := [.int r12.2]) rfl rfl rfl ?_
          have h := Option.some.inj h
          subst h
          exact k_iret (pc := 54) C hr hk dX11_good_54
        · rw [if_pos hc8] at h
          refine k_iconst (pc := 40) C (v := (-1 : Int32)) dX11_good_40 (by decide) ?_
          have h := Option.some.inj h
          subst h
          exact k_iret (pc := 41) C hr hk dX11_good_41
theorem c_X11_good {E : Ev} {l : Launch} {S : Sh} {R : Rw} {I : Iw} {a0 : Nat} {x1 : Int32} {x2 : Int32} {x3 : Int32} {x4 : Int32} {r : Iw × Int32} (h : f_X11_good S R I a0 x1 x2 x3 x4 = some r) : Mt E l yX11_good cX11_good 5 (some .int) 6 136 [.ref (E.1 + a0), .int x1, .int x2, .int x3, .int x4] S R I S R r.1 (some (.int r.2)) 0 0 := mt_of (by decide) (Nat.le_of_ble_eq_true rfl) (fun p e s m args below meth c C hr hk hn => b_X11_good C hr hk _ _ _ _ _ _ h)
theorem lkF_RX11_89_7 : LkF RX11 89 7 6 := ⟨RX7, TX7, 16, "UnlikeNeighbours$Shed", fc7, by decide, (t1_in 86 (by decide +kernel) rfl), Or.inl rfl⟩
theorem lkV_RX11_93 : LkV RX11 93 RX7 yX7_last cX7_last 1 (some .int) 0 := ⟨(t2_in 100 (by decide +kernel) rfl), (t2_in 101 (by decide +kernel) rfl), (t2_in 102 (by decide +kernel) rfl), (t2_in 103 (by decide +kernel) rfl), (t1_in 2 (by decide +kernel) rfl), by decide, by decide +kernel⟩
theorem lkV_RX11_97 : LkV RX11 97 RX7 yX7_mayGo cX7_mayGo 4 (some .int) 2 := ⟨(t2_in 104 (by decide +kernel) rfl), (t2_in 105 (by decide +kernel) rfl), (t2_in 106 (by decide +kernel) rfl), (t2_in 107 (by decide +kernel) rfl), (t1_in 2 (by decide +kernel) rfl), by decide, by decide +kernel⟩
theorem lkS_RX11_101 : LkS RX11 101 yX11_holds cX11_holds 2 (some .boolean) 2 := ⟨(t2_in 115 (by decide +kernel) rfl), (t2_in 113 (by decide +kernel) rfl), (t2_in 114 (by decide +kernel) rfl), (t1_in 1 (by decide +kernel) rfl), by decide, by decide +kernel⟩
theorem lkV_RX11_105 : LkV RX11 105 RX7 yX7_topsOf cX7_topsOf 5 (some .int) 1 := ⟨(t2_in 116 (by decide +kernel) rfl), (t2_in 109 (by decide +kernel) rfl), (t2_in 110 (by decide +kernel) rfl), (t2_in 111 (by decide +kernel) rfl), (t1_in 2 (by decide +kernel) rfl), by decide, by decide +kernel⟩
theorem dX11_standing_0 : decode cX11_standing 0 = .ok (.aload_n 0, 1) := by decide +kernel
theorem dX11_standing_1 : decode cX11_standing 1 = .ok (.getfield 12, 3) := by decide +kernel
theorem dX11_standing_4 : decode cX11_standing 4 = .ok (.aload_n 0, 1) := by decide +kernel
theorem dX11_standing_5 : decode cX11_standing 5 = .ok (.getfield 12, 3) := by decide +kernel
theorem dX11_standing_8 : decode cX11_standing 8 = .ok (.getfield 89, 3) := by decide +kernel
theorem dX11_standing_11 : decode cX11_standing 11 = .ok (.aload_n 0, 1) := by decide +kernel
theorem dX11_standing_12 : decode cX11_standing 12 = .ok (.getfield 12, 3) := by decide +kernel
theorem dX11_standing_15 : decode cX11_standing 15 = .ok (.invokevirtual 93, 3) := by decide +kernel
theorem dX11_standing_18 : decode cX11_standing 18 = .ok (.invokevirtual 97, 3) := by decide +kernel
theorem dX11_standing_21 : decode cX11_standing 21 = .ok (.iload_n 1, 1) := by decide +kernel
theorem dX11_standing_22 : decode cX11_standing 22 = .ok (.invokestatic 101, 3) := by decide +kernel
theorem dX11_standing_25 : decode cX11_standing 25 = .ok (.ifCond .eq 5, 3) := by decide +kernel
theorem dX11_standing_28 : decode cX11_standing 28 = .ok (.iconst 3, 1) := by decide +kernel
theorem dX11_standing_29 : decode cX11_standing 29 = .ok (.ireturn, 1) := by decide +kernel
theorem dX11_standing_30 : decode cX11_standing 30 = .ok (.aload_n 0, 1) := by decide +kernel
theorem dX11_standing_31 : decode cX11_standing 31 = .ok (.getfield 12, 3) := by decide +kernel
theorem dX11_standing_34 : decode cX11_standing 34 = .ok (.aload_n 0, 1) := by decide +kernel
theorem dX11_standing_35 : decode cX11_standing 35 = .ok (.getfield 12, 3) := by decide +kernel
theorem dX11_standing_38 : decode cX11_standing 38 = .ok (.getfield 89, 3) := by decide +kernel
theorem dX11_standing_41 : decode cX11_standing 41 = .ok (.invokevirtual 105, 3) := by decide +kernel
theorem dX11_standing_44 : decode cX11_standing 44 = .ok (.iload_n 1, 1) := by decide +kernel
theorem dX11_standing_45 : decode cX11_standing 45 = .ok (.invokestatic 101, 3) := by decide +kernel
theorem dX11_standing_48 : decode cX11_standing 48 = .ok (.ifCond .eq 5, 3) := by decide +kernel
theorem dX11_standing_51 : decode cX11_standing 51 = .ok (.iconst 2, 1) := by decide +kernel
theorem dX11_standing_52 : decode cX11_standing 52 = .ok (.ireturn, 1) := by decide +kernel
theorem dX11_standing_53 : decode cX11_standing 53 = .ok (.aload_n 0, 1) := by decide +kernel
theorem dX11_standing_54 : decode cX11_standing 54 = .ok (.getfield 12, 3) := by decide +kernel
theorem dX11_standing_57 : decode cX11_standing 57 = .ok (.getfield 89, 3) := by decide +kernel
theorem dX11_standing_60 : decode cX11_standing 60 = .ok (.iload_n 1, 1) := by decide +kernel
theorem dX11_standing_61 : decode cX11_standing 61 = .ok (.invokestatic 101, 3) := by decide +kernel
theorem dX11_standing_64 : decode cX11_standing 64 = .ok (.ifCond .eq 7, 3) := by decide +kernel
theorem dX11_standing_67 : decode cX11_standing 67 = .ok (.iconst 1, 1) := by decide +kernel
theorem dX11_standing_68 : decode cX11_standing 68 = .ok (.goto 4, 3) := by decide +kernel
theorem dX11_standing_71 : decode cX11_standing 71 = .ok (.iconst 0, 1) := by decide +kernel
theorem dX11_standing_72 : decode cX11_standing 72 = .ok (.ireturn, 1) := by decide +kernel
def f_X11_standing (S : Sh) (R : Rw) (I : Iw)  (a0 : Nat) (x1 : Int32) : Option (Int32) := gp (sok S a0 11 12) (rl (R a0 0) (fun b2 => rl (R a0 0) (fun b3 => gp (sok S b3 7 16) (rl (R a0 0) (fun b5 => gp (sok S b5 7 16) (bd (f_X7_last S R I b5) (fun r7 => gp (sok S b2 7 16) (bd (f_X7_mayGo S R I b2 (I b3 6) r7) (fun r9 => bd (f_X11_holds S R I r9 x1) (fun r10 => (if r10 = 0 then rl (R a0 0) (fun b12 => rl (R a0 0) (fun b13 => gp (sok S b13 7 16) (gp (sok S b12 7 16) (bd (f_X7_topsOf S R I b12 (I b13 6)) (fun r16 => bd (f_X11_holds S R I r16 x1) (fun r17 => (if r17 = 0 then rl (R a0 0) (fun b19 => gp (sok S b19 7 16) (bd (f_X11_holds S R I (I b19 6) x1) (fun r21 => (if r21 = 0 then some (0 : Int32) else some (1 : Int32))))) else some (2 : Int32)))))))) else some (3 : Int32))))))))))))
set_option maxHeartbeats 4000000 in
theorem b_X11_standing {E : Ev} {p : Program} {l : Launch} {e : Env} {s : State} {m : MethodId} {args : Array Value} {below : List Frame} {meth : Method} {c : Code} (C : Cx E RX11 cX11_standing 2 p s m c) (hr : meth.sig.returnType = (some .int)) (hk : meth.locks = false) {S : Sh} {R : Rw} {I : Iw} {r : Int32}  : ∀ (a0 : Nat) (x1 : Int32), f_X11_standing S R I   a0 x1 = some r → Wk E 2 p l e ({ frames := 3, cells := 0, slots := 0, locals := 68 } : Room) s m args below meth c 0 0 (MQ below (Qw E S R I (some (.int r))) args s 0 0 (fun q => E.1 ≤ q)) 0 [(0, .ref (E.1 + a0)), (1, .int x1)] [] S R I := by
  intro a0 x1 h
  rw [f_X11_standing] at h
  refine k_aloadn (pc := 0) C dX11_standing_0 (i := 0) rfl 0 rfl ?_
  obtain ⟨hs10, h⟩ := gp_e h
  have hs1 := sok_e hs10
  obtain ⟨b2, hb2, h⟩ := rl_e h
  refine k_getR (pc := 1) C lkF_RX11_12_11 hs1 ir_11_0 hb2 dX11_standing_1 ?_
  refine k_aloadn (pc := 4) C dX11_standing_4 (i := 0) rfl 0 rfl ?_
  obtain ⟨b3, hb3, h⟩ := rl_e h
  refine k_getR (pc := 5) C lkF_RX11_12_11 hs1 ir_11_0 hb3 dX11_standing_5 ?_
  obtain ⟨hs40, h⟩ := gp_e h
  have hs4 := sok_e hs40
  refine k_getI (pc := 8) C lkF_RX11_89_7 hs4 ir_7_6 dX11_standing_8 ?_
  refine k_aloadn (pc := 11) C dX11_standing_11 (i := 0) rfl 0 rfl ?_
  obtain ⟨b5, hb5, h⟩ := rl_e h
  refine k_getR (pc := 12) C lkF_RX11_12_11 hs1 ir_11_0 hb5 dX11_standing_12 ?_
  obtain ⟨hs60, h⟩ := gp_e h
  have hs6 := sok_e hs60
  obtain ⟨r7, hr7, h⟩ := bd_e h
  refine k_V (pc := 15) (st := [.int (I b3 6), .ref (E.1 + b2)]) C (c_X7_last hr7) lkV_RX11_93 hs6 rfl rfl rfl (Nat.le_of_ble_eq_true rfl) (Nat.le_of_ble_eq_true rfl) (Nat.le_of_ble_eq_true rfl) (Nat.le_of_ble_eq_true rfl) (Nat.le_of_ble_eq_true rfl) dX11_standing_15 ?_
  refine k_nf (cells2 := 0) (slots2 := 0) (st2 := [.int r7, .int (I b3 6), .ref (E.1 + b2)]) rfl rfl rfl ?_
  obtain ⟨hs80, h⟩ := gp_e h
  have hs8 := sok_e hs80
  obtain ⟨r9, hr9, h⟩ := bd_e h
  refine k_V (pc := 18) (st := []) C (c_X7_mayGo hr9) lkV_RX11_97 hs8 rfl rfl rfl (Nat.le_of_ble_eq_true rfl) (Nat.le_of_ble_eq_true rfl) (Nat.le_of_ble_eq_true rfl) (Nat.le_of_ble_eq_true rfl) (Nat.le_of_ble_eq_true rfl) dX11_standing_18 ?_
  refine k_nf (cells2 := 0) (slots2 := 0) (st2 := [.int r9]) rfl rfl rfl ?_
  refine k_iloadn (pc := 21) C dX11_standing_21 (i := 1) rfl 1 rfl ?_
  obtain ⟨r10, hr10, h⟩ := bd_e h
  refine k_S (pc := 22) (st := []) C (c_X11_holds hr10) lkS_RX11_101 rfl rfl (Nat.le_of_ble_eq_true rfl) (Nat.le_of_ble_eq_true rfl) (Nat.le_of_ble_eq_true rfl) (Nat.le_of_ble_eq_true rfl) (Nat.le_of_ble_eq_true rfl) dX11_standing_22 ?_
  refine k_nf (cells2 := 0) (slots2 := 0) (st2 := [.int r10]) rfl rfl rfl ?_
  refine k_if_eq (pc := 25) C dX11_standing_25 (tgt := 30) (by decide) (fun hc11 => ?_) (fun hc11 => ?_)
  · rw [if_pos hc11] at h
    refine k_aloadn (pc := 30) C dX11_standing_30 (i := 0) rfl 0 rfl ?_
    obtain ⟨b12, hb12, h⟩ := rl_e h
    refine k_getR (pc := 31) C lkF_RX11_12_11 hs1 ir_11_0 hb12 dX11_standing_31 ?_
    refine k_aloadn (pc := 34) C dX11_standing_34 (i := 0) rfl 0 rfl ?_
    obtain ⟨b13, hb13, h⟩ := rl_e h
    refine k_getR (pc := 35) C lkF_RX11_12_11 hs1 ir_11_0 hb13 dX11_standing_35 ?_
    obtain ⟨hs140, h⟩ := gp_e h
    have hs14 := sok_e hs140
    refine k_getI (pc := 38) C lkF_RX11_89_7 hs14 ir_7_6 dX11_standing_38 ?_
    obtain ⟨hs150, h⟩ := gp_e h
    have hs15 := sok_e hs150
    obtain ⟨r16, hr16, h⟩ := bd_e h
    refine k_V (pc := 41) (st := []) C (c_X7_topsOf hr16) lkV_RX11_105 hs15 rfl rfl rfl (Nat.le_of_ble_eq_true rfl) (Nat.le_of_ble_eq_true rfl) (Nat.le_of_ble_eq_true rfl) (Nat.le_of_ble_eq_true rfl) (Nat.le_of_ble_eq_true rfl) dX11_standing_41 ?_
    refine k_nf (cells2 := 0) (slots2 := 0) (st2 := [.int r16]) rfl rfl rfl ?_
    refine k_iloadn (pc := 44) C dX11_standing_44 (i := 1) rfl 1 rfl ?_
    obtain ⟨r17, hr17, h⟩ := bd_e h
    refine k_S (pc := 45) (st := []) C (c_X11_holds hr17) lkS_RX11_101 rfl rfl (Nat.le_of_ble_eq_true rfl) (Nat.le_of_ble_eq_true rfl) (Nat.le_of_ble_eq_true rfl) (Nat.le_of_ble_eq_true rfl) (Nat.le_of_ble_eq_true rfl) dX11_standing_45 ?_
    refine k_nf (cells2 := 0) (slots2 := 0) (st2 := [.int r17]) rfl rfl rfl ?_
    refine k_if_eq (pc := 48) C dX11_standing_48 (tgt := 53) (by decide) (fun hc18 => ?_) (fun hc18 => ?_)
    · rw [if_pos hc18] at h
      refine k_aloadn (pc := 53) C dX11_standing_53 (i := 0) rfl 0 rfl ?_
      obtain ⟨b19, hb19, h⟩ := rl_e h
      refine k_getR (pc := 54) C lkF_RX11_12_11 hs1 ir_11_0 hb19 dX11_standing_54 ?_
      obtain ⟨hs200, h⟩ := gp_e h
      have hs20 := sok_e hs200
      refine k_getI (pc := 57) C lkF_RX11_89_7 hs20 ir_7_6 dX11_standing_57 ?_
      refine k_iloadn (pc := 60) C dX11_standing_60 (i := 1) rfl 1 rfl ?_
      obtain ⟨r21, hr21, h⟩ := bd_e h
      refine k_S (pc := 61) (st := []) C (c_X11_holds hr21) lkS_RX11_101 rfl rfl (Nat.le_of_ble_eq_true rfl) (Nat.le_of_ble_eq_true rfl) (Nat.le_of_ble_eq_true rfl) (Nat.le_of_ble_eq_true rfl) (Nat.le_of_ble_eq_true rfl) dX11_standing_61 ?_
      refine k_nf (cells2 := 0) (slots2 := 0) (st2 := [.int r21]) rfl rfl rfl ?_
      refine k_if_eq (pc := 64) C dX11_standing_64 (tgt := 71) (by decide) (fun hc22 => ?_) (fun hc22 => ?_)
      · rw [if_pos hc22] at h
        refine k_iconst (pc := 71) C (v := (0 : Int32)) dX11_standing_71 (by decide) ?_
        have h := Option.some.inj h
        subst h
        exact k_iret (pc := 72) C hr hk dX11_standing_72
      · rw [if_neg hc22] at h
        refine k_iconst (pc := 67) C (v := (1 : Int32)) dX11_standing_67 (by decide) ?_
        refine k_goto (pc := 68) C dX11_standing_68 (tgt := 72) (by decide) ?_
        have h := Option.some.inj h
        subst h
        exact k_iret (pc := 72) C hr hk dX11_standing_72
    · rw [if_neg hc18] at h
      refine k_iconst (pc := 51) C (v := (2 : Int32)) dX11_standing_51 (by decide) ?_
      have h := Option.some.inj h
      subst h
      exact k_iret (pc := 52) C hr hk dX11_standing_52
  · rw [if_neg hc11] at h
    refine k_iconst (pc := 28) C (v := (3 : Int32)) dX11_standing_28 (by decide) ?_
    have h := Option.some.inj h
    subst h
    exact k_iret (pc := 29) C hr hk dX11_standing_29
theorem c_X11_standing {E : Ev} {l : Launch} {S : Sh} {R : Rw} {I : Iw} {a0 : Nat} {x1 : Int32} {r : Int32} (h : f_X11_standing S R I a0 x1 = some r) : Mt E l yX11_standing cX11_standing 2 (some .int) 3 68 [.ref (E.1 + a0), .int x1] S R I S R I (some (.int r)) 0 0 := mt_of (by decide) (Nat.le_of_ble_eq_true rfl) (fun p e s m args below meth c C hr hk hn => b_X11_standing C hr hk _ _ h)
theorem lkV_RX11_63 : LkV RX11 63 RX7 yX7_has cX7_has 2 (some .boolean) 1 := ⟨(t2_in 64 (by decide +kernel) rfl), (t2_in 65 (by decide +kernel) rfl), (t2_in 66 (by decide +kernel) rfl), (t2_in 67 (by decide +kernel) rfl), (t1_in 2 (by decide +kernel) rfl), by decide, by decide +kernel⟩
theorem lkF_RX11_67_7 : LkF RX11 67 7 0 := ⟨RX7, TX7, 16, "UnlikeNeighbours$Shed", fc7, by decide, (t1_in 70 (by decide +kernel) rfl), Or.inl rfl⟩
theorem lkF_RX11_70_7 : LkF RX11 70 7 1 := ⟨RX7, TX7, 16, "UnlikeNeighbours$Shed", fc7, by decide, (t1_in 73 (by decide +kernel) rfl), Or.inl rfl⟩
theorem lkF_RX11_73_7 : LkF RX11 73 7 2 := ⟨RX7, TX7, 16, "UnlikeNeighbours$Shed", fc7, by decide, (t1_in 75 (by decide +kernel) rfl), Or.inl rfl⟩
theorem lkF_RX11_76_7 : LkF RX11 76 7 3 := ⟨RX7, TX7, 16, "UnlikeNeighbours$Shed", fc7, by decide, (t1_in 78 (by decide +kernel) rfl), Or.inl rfl⟩
theorem lkV_RX11_79 : LkV RX11 79 RX7 yX7_fee cX7_fee 3 (some .int) 1 := ⟨(t2_in 68 (by decide +kernel) rfl), (t2_in 69 (by decide +kernel) rfl), (t2_in 70 (by decide +kernel) rfl), (t2_in 71 (by decide +kernel) rfl), (t1_in 2 (by decide +kernel) rfl), by decide, by decide +kernel⟩
theorem lkV_RX11_83 : LkV RX11 83 RX11 yX11_standing cX11_standing 2 (some .int) 1 := ⟨(t2_in 96 (by decide +kernel) rfl), (t2_in 98 (by decide +kernel) rfl), (t0_in 5 (by decide +kernel) rfl), (t2_in 99 (by decide +kernel) rfl), (t1_in 1 (by decide +kernel) rfl), by decide, by decide +kernel⟩
theorem lkV_RX11_86 : LkV RX11 86 RX7 yX7_placeInLine cX7_placeInLine 3 (some .int) 1 := ⟨(t2_in 117 (by decide +kernel) rfl), (t2_in 118 (by decide +kernel) rfl), (t2_in 119 (by decide +kernel) rfl), (t2_in 120 (by decide +kernel) rfl), (t1_in 2 (by decide +kernel) rfl), by decide, by decide +kernel⟩
theorem dX11_goodOf_0 : decode cX11_goodOf 0 = .ok (.aload_n 0, 1) := by decide +kernel
theorem dX11_goodOf_1 : decode cX11_goodOf 1 = .ok (.getfield 12, 3) := by decide +kernel
theorem dX11_goodOf_4 : decode cX11_goodOf 4 = .ok (.iload_n 1, 1) := by decide +kernel
theorem dX11_goodOf_5 : decode cX11_goodOf 5 = .ok (.invokevirtual 63, 3) := by decide +kernel
theorem dX11_goodOf_8 : decode cX11_goodOf 8 = .ok (.ifCond .ne 5, 3) := by decide +kernel
theorem dX11_goodOf_11 : decode cX11_goodOf 11 = .ok (.iconst (-1), 1) := by decide +kernel
theorem dX11_goodOf_12 : decode cX11_goodOf 12 = .ok (.ireturn, 1) := by decide +kernel
theorem dX11_goodOf_13 : decode cX11_goodOf 13 = .ok (.iload_n 2, 1) := by decide +kernel
theorem dX11_goodOf_14 : decode cX11_goodOf 14 = .ok (.tableswitch 106 0 6 #[42, 52, 62, 72, 82, 91, 97], 42) := by decide +kernel
theorem dX11_goodOf_56 : decode cX11_goodOf 56 = .ok (.aload_n 0, 1) := by decide +kernel
theorem dX11_goodOf_57 : decode cX11_goodOf 57 = .ok (.getfield 12, 3) := by decide +kernel
theorem dX11_goodOf_60 : decode cX11_goodOf 60 = .ok (.getfield 67, 3) := by decide +kernel
theorem dX11_goodOf_63 : decode cX11_goodOf 63 = .ok (.iload_n 1, 1) := by decide +kernel
theorem dX11_goodOf_64 : decode cX11_goodOf 64 = .ok (.iaload, 1) := by decide +kernel
theorem dX11_goodOf_65 : decode cX11_goodOf 65 = .ok (.ireturn, 1) := by decide +kernel
theorem dX11_goodOf_66 : decode cX11_goodOf 66 = .ok (.aload_n 0, 1) := by decide +kernel
theorem dX11_goodOf_67 : decode cX11_goodOf 67 = .ok (.getfield 12, 3) := by decide +kernel
theorem dX11_goodOf_70 : decode cX11_goodOf 70 = .ok (.getfield 70, 3) := by decide +kernel
theorem dX11_goodOf_73 : decode cX11_goodOf 73 = .ok (.iload_n 1, 1) := by decide +kernel
theorem dX11_goodOf_74 : decode cX11_goodOf 74 = .ok (.iaload, 1) := by decide +kernel
theorem dX11_goodOf_75 : decode cX11_goodOf 75 = .ok (.ireturn, 1) := by decide +kernel
theorem dX11_goodOf_76 : decode cX11_goodOf 76 = .ok (.aload_n 0, 1) := by decide +kernel
theorem dX11_goodOf_77 : decode cX11_goodOf 77 = .ok (.getfield 12, 3) := by decide +kernel
theorem dX11_goodOf_80 : decode cX11_goodOf 80 = .ok (.getfield 73, 3) := by decide +kernel
theorem dX11_goodOf_83 : decode cX11_goodOf 83 = .ok (.iload_n 1, 1) := by decide +kernel
theorem dX11_goodOf_84 : decode cX11_goodOf 84 = .ok (.iaload, 1) := by decide +kernel
theorem dX11_goodOf_85 : decode cX11_goodOf 85 = .ok (.ireturn, 1) := by decide +kernel
theorem dX11_goodOf_86 : decode cX11_goodOf 86 = .ok (.aload_n 0, 1) := by decide +kernel
theorem dX11_goodOf_87 : decode cX11_goodOf 87 = .ok (.getfield 12, 3) := by decide +kernel
theorem dX11_goodOf_90 : decode cX11_goodOf 90 = .ok (.getfield 76, 3) := by decide +kernel
theorem dX11_goodOf_93 : decode cX11_goodOf 93 = .ok (.iload_n 1, 1) := by decide +kernel
theorem dX11_goodOf_94 : decode cX11_goodOf 94 = .ok (.iaload, 1) := by decide +kernel
theorem dX11_goodOf_95 : decode cX11_goodOf 95 = .ok (.ireturn, 1) := by decide +kernel
theorem dX11_goodOf_96 : decode cX11_goodOf 96 = .ok (.aload_n 0, 1) := by decide +kernel
theorem dX11_goodOf_97 : decode cX11_goodOf 97 = .ok (.getfield 12, 3) := by decide +kernel
theorem dX11_goodOf_100 : decode cX11_goodOf 100 = .ok (.iload_n 1, 1) := by decide +kernel
theorem dX11_goodOf_101 : decode cX11_goodOf 101 = .ok (.invokevirtual 79, 3) := by decide +kernel
theorem dX11_goodOf_104 : decode cX11_goodOf 104 = .ok (.ireturn, 1) := by decide +kernel
theorem dX11_goodOf_105 : decode cX11_goodOf 105 = .ok (.aload_n 0, 1) := by decide +kernel
theorem dX11_goodOf_106 : decode cX11_goodOf 106 = .ok (.iload_n 1, 1) := by decide +kernel
theorem dX11_goodOf_107 : decode cX11_goodOf 107 = .ok (.invokevirtual 83, 3) := by decide +kernel
theorem dX11_goodOf_110 : decode cX11_goodOf 110 = .ok (.ireturn, 1) := by decide +kernel
theorem dX11_goodOf_111 : decode cX11_goodOf 111 = .ok (.aload_n 0, 1) := by decide +kernel
theorem dX11_goodOf_112 : decode cX11_goodOf 112 = .ok (.getfield 12, 3) := by decide +kernel
theorem dX11_goodOf_115 : decode cX11_goodOf 115 = .ok (.iload_n 1, 1) := by decide +kernel
theorem dX11_goodOf_116 : decode cX11_goodOf 116 = .ok (.invokevirtual 86, 3) := by decide +kernel
theorem dX11_goodOf_119 : decode cX11_goodOf 119 = .ok (.ireturn, 1) := by decide +kernel
theorem dX11_goodOf_120 : decode cX11_goodOf 120 = .ok (.iconst (-1), 1) := by decide +kernel
theorem dX11_goodOf_121 : decode cX11_goodOf 121 = .ok (.ireturn, 1) := by decide +kernel
def f_X11_goodOf (S : Sh) (R : Rw) (I : Iw)  (a0 : Nat) (x1 : Int32) (x2 : Int32) : Option (Int32) := gp (sok S a0 11 12) (rl (R a0 0) (fun b2 => gp (sok S b2 7 16) (bd (f_X7_has S R I b2 x1) (fun r4 => (if r4 = 0 then some (-1 : Int32) else (if x2 = (0 : Int32) then rl (R a0 0) (fun b6 => gp (sok S b6 7 16) (rl (R b6 0) (fun b8 => gp (aok S 20 b8 x1) (some (I b8 x1.toNatClampNeg))))) else (if x2 = (1 : Int32) then rl (R a0 0) (fun b10 => gp (sok S b10 7 16) (rl (R b10 1) (fun b12 => gp (aok S 20 b12 x1) (some (I b12 x1.toNatClampNeg))))) else (if x2 = (2 : Int32) then rl (R a0 0) (fun b14 => gp (sok S b14 7 16) (rl (R b14 2) (fun b16 => gp (aok S 20 b16 x1) (some (I b16 x1.toNatClampNeg))))) else (if x2 = (3 : Int32) then rl (R a0 0) (fun b18 => gp (sok S b18 7 16) (rl (R b18 3) (fun b20 => gp (aok S 20 b20 x1) (some (I b20 x1.toNatClampNeg))))) else (if x2 = (4 : Int32) then rl (R a0 0) (fun b22 => gp (sok S b22 7 16) (bd (f_X7_fee S R I b22 x1) (fun r24 => some r24))) else (if x2 = (5 : Int32) then bd (f_X11_standing S R I a0 x1) (fun r25 => some r25) else (if x2 = (6 : Int32) then rl (R a0 0) (fun b26 => gp (sok S b26 7 16) (bd (f_X7_placeInLine S R I b26 x1) (fun r28 => some r28))) else some (-1 : Int32)))))))))))))
set_option maxHeartbeats 4000000 in
theorem b_X11_goodOf {E : Ev} {p : Program} {l : Launch} {e : Env} {s : State} {m : MethodId} {args : Array Value} {below : List Frame} {meth : Method} {c : Code} (C : Cx E RX11 cX11_goodOf 3 p s m c) (hr : meth.sig.returnType = (some .int)) (hk : meth.locks = false) {S : Sh} {R : Rw} {I : Iw} {r : Int32}  : ∀ (a0 : Nat) (x1 : Int32) (x2 : Int32), f_X11_goodOf S R I   a0 x1 x2 = some r → Wk E 3 p l e ({ frames := 5, cells := 0, slots := 0, locals := 117 } : Room) s m args below meth c 0 0 (MQ below (Qw E S R I (some (.int r))) args s 0 0 (fun q => E.1 ≤ q)) 0 [(0, .ref (E.1 + a0)), (1, .int x1), (2, .int x2)] [] S R I := by
  intro a0 x1 x2 h
  rw [f_X11_goodOf] at h
  refine k_aloadn (pc := 0) C dX11_goodOf_0 (i := 0) rfl 0 rfl ?_
  obtain ⟨hs10, h⟩ := gp_e h
  have hs1 := sok_e hs10
  obtain ⟨b2, hb2, h⟩ := rl_e h
  refine k_getR (pc := 1) C lkF_RX11_12_11 hs1 ir_11_0 hb2 dX11_goodOf_1 ?_
  refine k_iloadn (pc := 4) C dX11_goodOf_4 (i := 1) rfl 1 rfl ?_
  obtain ⟨hs30, h⟩ := gp_e h
  have hs3 := sok_e hs30
  obtain ⟨r4, hr4, h⟩ := bd_e h
  refine k_V (pc := 5) (st := []) C (c_X7_has hr4) lkV_RX11_63 hs3 rfl rfl rfl (Nat.le_of_ble_eq_true rfl) (Nat.le_of_ble_eq_true rfl) (Nat.le_of_ble_eq_true rfl) (Nat.le_of_ble_eq_true rfl) (Nat.le_of_ble_eq_true rfl) dX11_goodOf_5 ?_
  refine k_nf (cells2 := 0) (slots2 := 0) (st2 := [.int r4]) rfl rfl rfl ?_
  refine k_if_ne (pc := 8) C dX11_goodOf_8 (tgt := 13) (by decide) (fun hc5 => ?_) (fun hc5 => ?_)
  · rw [if_neg hc5] at h
    refine k_iloadn (pc := 13) C dX11_goodOf_13 (i := 2) rfl 2 rfl ?_
    by_cases hc29 : x2 = (0 : Int32)
    · rw [if_pos hc29] at h
      refine k_tabIn (pc := 14) C dX11_goodOf_14 (by rw [hc29]; decide) (by rw [hc29]; decide) (off := 42) (by rw [hc29]; rfl) (tgt := 56) (by decide) ?_
      refine k_aloadn (pc := 56) C dX11_goodOf_56 (i := 0) rfl 0 rfl ?_
      obtain ⟨b6, hb6, h⟩ := rl_e h
      refine k_getR (pc := 57) C lkF_RX11_12_11 hs1 ir_11_0 hb6 dX11_goodOf_57 ?_
      obtain ⟨hs70, h⟩ := gp_e h
      have hs7 := sok_e hs70
      obtain ⟨b8, hb8, h⟩ := rl_e h
      refine k_getR (pc := 60) C lkF_RX11_67_7 hs7 ir_7_0 hb8 dX11_goodOf_60 ?_
      refine k_iloadn (pc := 63) C dX11_goodOf_63 (i := 1) rfl 1 rfl ?_
      obtain ⟨ha9, h⟩ := gp_e h
      refine k_iald (pc := 64) C ha9 dX11_goodOf_64 ?_
      have h := Option.some.inj h
      subst h
      exact k_iret (pc := 65) C hr hk dX11_goodOf_65
    · rw [if_neg hc29] at h
      by_cases hc30 : x2 = (1 : Int32)
      · rw [if_pos hc30] at h
        refine k_tabIn (pc := 14) C dX11_goodOf_14 (by rw [hc30]; decide) (by rw [hc30]; decide) (off := 52) (by rw [hc30]; rfl) (tgt := 66) (by decide) ?_
        refine k_aloadn (pc := 66) C dX11_goodOf_66 (i := 0) rfl 0 rfl ?_
        obtain ⟨b10, hb10, h⟩ := rl_e h
        refine k_getR (pc := 67) C lkF_RX11_12_11 hs1 ir_11_0 hb10 dX11_goodOf_67 ?_
        obtain ⟨hs110, h⟩ := gp_e h
        have hs11 := sok_e hs110
        obtain ⟨b12, hb12, h⟩ := rl_e h
        refine k_getR (pc := 70) C lkF_RX11_70_7 hs11 ir_7_1 hb12 dX11_goodOf_70 ?_
        refine k_iloadn (pc := 73) C dX11_goodOf_73 (i := 1) rfl 1 rfl ?_
        obtain ⟨ha13, h⟩ := gp_e h
        refine k_iald (pc := 74) C ha13 dX11_goodOf_74 ?_
        have h := Option.some.inj h
        subst h
        exact k_iret (pc := 75) C hr hk dX11_goodOf_75
      · rw [if_neg hc30] at h
        by_cases hc31 : x2 = (2 : Int32)
        · rw [if_pos hc31] at h
          refine k_tabIn (pc := 14) C dX11_goodOf_14 (by rw [hc31]; decide) (by rw [hc31]; decide) (off := 62) (by rw [hc31]; rfl) (tgt := 76) (by decide) ?_
          refine k_aloadn (pc := 76) C dX11_goodOf_76 (i := 0) rfl 0 rfl ?_
          obtain ⟨b14, hb14, h⟩ := rl_e h
          refine k_getR (pc := 77) C lkF_RX11_12_11 hs1 ir_11_0 hb14 dX11_goodOf_77 ?_
          obtain ⟨hs150, h⟩ := gp_e h
          have hs15 := sok_e hs150
          obtain ⟨b16, hb16, h⟩ := rl_e h
          refine k_getR (pc := 80) C lkF_RX11_73_7 hs15 ir_7_2 hb16 dX11_goodOf_80 ?_
          refine k_iloadn (pc := 83) C dX11_goodOf_83 (i := 1) rfl 1 rfl ?_
          obtain ⟨ha17, h⟩ := gp_e h
          refine k_iald (pc := 84) C ha17 dX11_goodOf_84 ?_
          have h := Option.some.inj h
          subst h
          exact k_iret (pc := 85) C hr hk dX11_goodOf_85
        · rw [if_neg hc31] at h
          by_cases hc32 : x2 = (3 : Int32)
          · rw [if_pos hc32] at h
            refine k_tabIn (pc := 14) C dX11_goodOf_14 (by rw [hc32]; decide) (by rw [hc32]; decide) (off := 72) (by rw [hc32]; rfl) (tgt := 86) (by decide) ?_
            refine k_aloadn (pc := 86) C dX11_goodOf_86 (i := 0) rfl 0 rfl ?_
            obtain ⟨b18, hb18, h⟩ := rl_e h
            refine k_getR (pc := 87) C lkF_RX11_12_11 hs1 ir_11_0 hb18 dX11_goodOf_87 ?_
            obtain ⟨hs190, h⟩ := gp_e h
            have hs19 := sok_e hs190
            obtain ⟨b20, hb20, h⟩ := rl_e h
            refine k_getR (pc := 90) C lkF_RX11_76_7 hs19 ir_7_3 hb20 dX11_goodOf_90 ?_
            refine k_iloadn (pc := 93) C dX11_goodOf_93 (i := 1) rfl 1 rfl ?_
            obtain ⟨ha21, h⟩ := gp_e h
            refine k_iald (pc := 94) C ha21 dX11_goodOf_94 ?_
            have h := Option.some.inj h
            subst h
            exact k_iret (pc := 95) C hr hk dX11_goodOf_95
          · rw [if_neg hc32] at h
            by_cases hc33 : x2 = (4 : Int32)
            · rw [if_pos hc33] at h
              refine k_tabIn (pc := 14) C dX11_goodOf_14 (by rw [hc33]; decide) (by rw [hc33]; decide) (off := 82) (by rw [hc33]; rfl) (tgt := 96) (by decide) ?_
              refine k_aloadn (pc := 96) C dX11_goodOf_96 (i := 0) rfl 0 rfl ?_
              obtain ⟨b22, hb22, h⟩ := rl_e h
              refine k_getR (pc := 97) C lkF_RX11_12_11 hs1 ir_11_0 hb22 dX11_goodOf_97 ?_
              refine k_iloadn (pc := 100) C dX11_goodOf_100 (i := 1) rfl 1 rfl ?_
              obtain ⟨hs230, h⟩ := gp_e h
              have hs23 := sok_e hs230
              obtain ⟨r24, hr24, h⟩ := bd_e h
              refine k_V (pc := 101) (st := []) C (c_X7_fee hr24) lkV_RX11_79 hs23 rfl rfl rfl (Nat.le_of_ble_eq_true rfl) (Nat.le_of_ble_eq_true rfl) (Nat.le_of_ble_eq_true rfl) (Nat.le_of_ble_eq_true rfl) (Nat.le_of_ble_eq_true rfl) dX11_goodOf_101 ?_
              refine k_nf (cells2 := 0) (slots2 := 0) (st2 := [.int r24]) rfl rfl rfl ?_
              have h := Option.some.inj h
              subst h
              exact k_iret (pc := 104) C hr hk dX11_goodOf_104
            · rw [if_neg hc33] at h
              by_cases hc34 : x2 = (5 : Int32)
              · rw [if_pos hc34] at h
                refine k_tabIn (pc := 14) C dX11_goodOf_14 (by rw [hc34]; decide) (by rw [hc34]; decide) (off := 91) (by rw [hc34]; rfl) (tgt := 105) (by decide) ?_
                refine k_aloadn (pc := 105) C dX11_goodOf_105 (i := 0) rfl 0 rfl ?_
                refine k_iloadn (pc := 106) C dX11_goodOf_106 (i := 1) rfl 1 rfl ?_
                obtain ⟨r25, hr25, h⟩ := bd_e h
                refine k_V (pc := 107) (st := []) C (c_X11_standing hr25) lkV_RX11_83 hs1 rfl rfl rfl (Nat.le_of_ble_eq_true rfl) (Nat.le_of_ble_eq_true rfl) (Nat.le_of_ble_eq_true rfl) (Nat.le_of_ble_eq_true rfl) (Nat.le_of_ble_eq_true rfl) dX11_goodOf_107 ?_
                refine k_nf (cells2 := 0) (slots2 := 0) (st2 := [.int r25]) rfl rfl rfl ?_
                have h := Option.some.inj h
                subst h
                exact k_iret (pc := 110) C hr hk dX11_goodOf_110
              · rw [if_neg hc34] at h
                by_cases hc35 : x2 = (6 : Int32)
                · rw [if_pos hc35] at h
                  refine k_tabIn (pc := 14) C dX11_goodOf_14 (by rw [hc35]; decide) (by rw [hc35]; decide) (off := 97) (by rw [hc35]; rfl) (tgt := 111) (by decide) ?_
                  refine k_aloadn (pc := 111) C dX11_goodOf_111 (i := 0) rfl 0 rfl ?_
                  obtain ⟨b26, hb26, h⟩ := rl_e h
                  refine k_getR (pc := 112) C lkF_RX11_12_11 hs1 ir_11_0 hb26 dX11_goodOf_112 ?_
                  refine k_iloadn (pc := 115) C dX11_goodOf_115 (i := 1) rfl 1 rfl ?_
                  obtain ⟨hs270, h⟩ := gp_e h
                  have hs27 := sok_e hs270
                  obtain ⟨r28, hr28, h⟩ := bd_e h
                  refine k_V (pc := 116) (st := []) C (c_X7_placeInLine hr28) lkV_RX11_86 hs27 rfl rfl rfl (Nat.le_of_ble_eq_true rfl) (Nat.le_of_ble_eq_true rfl) (Nat.le_of_ble_eq_true rfl) (Nat.le_of_ble_eq_true rfl) (Nat.le_of_ble_eq_true rfl) dX11_goodOf_116 ?_
                  refine k_nf (cells2 := 0) (slots2 := 0) (st2 := [.int r28]) rfl rfl rfl ?_
                  have h := Option.some.inj h
                  subst h
                  exact k_iret (pc := 119) C hr hk dX11_goodOf_119
                · rw [if_neg hc35] at h
                  refine k_tabOut (pc := 14) C dX11_goodOf_14 (tab_out x2 0 6 (fun z h1 h2 hz => by
                    have hz2 : z = 0 ∨ z = 1 ∨ z = 2 ∨ z = 3 ∨ z = 4 ∨ z = 5 ∨ z = 6 := by omega
                    rcases hz2 with rfl | rfl | rfl | rfl | rfl | rfl | rfl
                    · exact hc29 (Int32.toInt_inj.mp (hz.trans (by decide)))
                    · exact hc30 (Int32.toInt_inj.mp (hz.trans (by decide)))
                    · exact hc31 (Int32.toInt_inj.mp (hz.trans (by decide)))
                    · exact hc32 (Int32.toInt_inj.mp (hz.trans (by decide)))
                    · exact hc33 (Int32.toInt_inj.mp (hz.trans (by decide)))
                    · exact hc34 (Int32.toInt_inj.mp (hz.trans (by decide)))
                    · exact hc35 (Int32.toInt_inj.mp (hz.trans (by decide)))
                    ) ) (tgt := 120) (by decide) ?_
                  refine k_iconst (pc := 120) C (v := (-1 : Int32)) dX11_goodOf_120 (by decide) ?_
                  have h := Option.some.inj h
                  subst h
                  exact k_iret (pc := 121) C hr hk dX11_goodOf_121
  · rw [if_pos hc5] at h
    refine k_iconst (pc := 11) C (v := (-1 : Int32)) dX11_goodOf_11 (by decide) ?_
    have h := Option.some.inj h
    subst h
    exact k_iret (pc := 12) C hr hk dX11_goodOf_12
theorem c_X11_goodOf {E : Ev} {l : Launch} {S : Sh} {R : Rw} {I : Iw} {a0 : Nat} {x1 : Int32} {x2 : Int32} {r : Int32} (h : f_X11_goodOf S R I a0 x1 x2 = some r) : Mt E l yX11_goodOf cX11_goodOf 3 (some .int) 5 117 [.ref (E.1 + a0), .int x1, .int x2] S R I S R I (some (.int r)) 0 0 := mt_of (by decide) (Nat.le_of_ble_eq_true rfl) (fun p e s m args below meth c C hr hk hn => b_X11_goodOf C hr hk _ _ _ h)
theorem lkV_RX11_108 : LkV RX11 108 RX7 yX7_renewMates cX7_renewMates 4 none 0 := ⟨(t2_in 125 (by decide +kernel) rfl), (t2_in 42 (by decide +kernel) rfl), (t2_in 43 (by decide +kernel) rfl), (t2_in 44 (by decide +kernel) rfl), (t1_in 2 (by decide +kernel) rfl), by decide, by decide +kernel⟩
theorem dX11_change_0 : decode cX11_change 0 = .ok (.aload_n 0, 1) := by decide +kernel
theorem dX11_change_1 : decode cX11_change 1 = .ok (.getfield 12, 3) := by decide +kernel
theorem dX11_change_4 : decode cX11_change 4 = .ok (.iload_n 1, 1) := by decide +kernel
theorem dX11_change_5 : decode cX11_change 5 = .ok (.invokevirtual 63, 3) := by decide +kernel
theorem dX11_change_8 : decode cX11_change 8 = .ok (.ifCond .ne 5, 3) := by decide +kernel
theorem dX11_change_11 : decode cX11_change 11 = .ok (.iconst (-1), 1) := by decide +kernel
theorem dX11_change_12 : decode cX11_change 12 = .ok (.ireturn, 1) := by decide +kernel
theorem dX11_change_13 : decode cX11_change 13 = .ok (.iload_n 2, 1) := by decide +kernel
theorem dX11_change_14 : decode cX11_change 14 = .ok (.iconst 2, 1) := by decide +kernel
theorem dX11_change_15 : decode cX11_change 15 = .ok (.if_icmp .ne 44, 3) := by decide +kernel
theorem dX11_change_18 : decode cX11_change 18 = .ok (.iload_n 3, 1) := by decide +kernel
theorem dX11_change_19 : decode cX11_change 19 = .ok (.iconst 0, 1) := by decide +kernel
theorem dX11_change_20 : decode cX11_change 20 = .ok (.bipush 9, 2) := by decide +kernel
theorem dX11_change_22 : decode cX11_change 22 = .ok (.invokestatic 55, 3) := by decide +kernel
theorem dX11_change_25 : decode cX11_change 25 = .ok (.ifCond .eq 34, 3) := by decide +kernel
theorem dX11_change_28 : decode cX11_change 28 = .ok (.aload_n 0, 1) := by decide +kernel
theorem dX11_change_29 : decode cX11_change 29 = .ok (.getfield 12, 3) := by decide +kernel
theorem dX11_change_32 : decode cX11_change 32 = .ok (.getfield 73, 3) := by decide +kernel
theorem dX11_change_35 : decode cX11_change 35 = .ok (.iload_n 1, 1) := by decide +kernel
theorem dX11_change_36 : decode cX11_change 36 = .ok (.iaload, 1) := by decide +kernel
theorem dX11_change_37 : decode cX11_change 37 = .ok (.istore 4, 2) := by decide +kernel
theorem dX11_change_39 : decode cX11_change 39 = .ok (.aload_n 0, 1) := by decide +kernel
theorem dX11_change_40 : decode cX11_change 40 = .ok (.getfield 12, 3) := by decide +kernel
theorem dX11_change_43 : decode cX11_change 43 = .ok (.getfield 73, 3) := by decide +kernel
theorem dX11_change_46 : decode cX11_change 46 = .ok (.iload_n 1, 1) := by decide +kernel
theorem dX11_change_47 : decode cX11_change 47 = .ok (.iload_n 3, 1) := by decide +kernel
theorem dX11_change_48 : decode cX11_change 48 = .ok (.iastore, 1) := by decide +kernel
theorem dX11_change_49 : decode cX11_change 49 = .ok (.aload_n 0, 1) := by decide +kernel
theorem dX11_change_50 : decode cX11_change 50 = .ok (.getfield 12, 3) := by decide +kernel
theorem dX11_change_53 : decode cX11_change 53 = .ok (.invokevirtual 108, 3) := by decide +kernel
theorem dX11_change_56 : decode cX11_change 56 = .ok (.iload 4, 2) := by decide +kernel
theorem dX11_change_58 : decode cX11_change 58 = .ok (.ireturn, 1) := by decide +kernel
theorem dX11_change_59 : decode cX11_change 59 = .ok (.iload_n 2, 1) := by decide +kernel
theorem dX11_change_60 : decode cX11_change 60 = .ok (.iconst 3, 1) := by decide +kernel
theorem dX11_change_61 : decode cX11_change 61 = .ok (.if_icmp .ne 38, 3) := by decide +kernel
theorem dX11_change_64 : decode cX11_change 64 = .ok (.iload_n 3, 1) := by decide +kernel
theorem dX11_change_65 : decode cX11_change 65 = .ok (.iconst 1, 1) := by decide +kernel
theorem dX11_change_66 : decode cX11_change 66 = .ok (.sipush 999, 3) := by decide +kernel
theorem dX11_change_69 : decode cX11_change 69 = .ok (.invokestatic 55, 3) := by decide +kernel
theorem dX11_change_72 : decode cX11_change 72 = .ok (.ifCond .eq 27, 3) := by decide +kernel
theorem dX11_change_75 : decode cX11_change 75 = .ok (.aload_n 0, 1) := by decide +kernel
theorem dX11_change_76 : decode cX11_change 76 = .ok (.getfield 12, 3) := by decide +kernel
theorem dX11_change_79 : decode cX11_change 79 = .ok (.getfield 76, 3) := by decide +kernel
theorem dX11_change_82 : decode cX11_change 82 = .ok (.iload_n 1, 1) := by decide +kernel
theorem dX11_change_83 : decode cX11_change 83 = .ok (.iaload, 1) := by decide +kernel
theorem dX11_change_84 : decode cX11_change 84 = .ok (.istore 4, 2) := by decide +kernel
theorem dX11_change_86 : decode cX11_change 86 = .ok (.aload_n 0, 1) := by decide +kernel
theorem dX11_change_87 : decode cX11_change 87 = .ok (.getfield 12, 3) := by decide +kernel
theorem dX11_change_90 : decode cX11_change 90 = .ok (.getfield 76, 3) := by decide +kernel
theorem dX11_change_93 : decode cX11_change 93 = .ok (.iload_n 1, 1) := by decide +kernel
theorem dX11_change_94 : decode cX11_change 94 = .ok (.iload_n 3, 1) := by decide +kernel
theorem dX11_change_95 : decode cX11_change 95 = .ok (.iastore, 1) := by decide +kernel
theorem dX11_change_96 : decode cX11_change 96 = .ok (.iload 4, 2) := by decide +kernel
theorem dX11_change_98 : decode cX11_change 98 = .ok (.ireturn, 1) := by decide +kernel
theorem dX11_change_99 : decode cX11_change 99 = .ok (.iconst (-1), 1) := by decide +kernel
theorem dX11_change_100 : decode cX11_change 100 = .ok (.ireturn, 1) := by decide +kernel
def f_X11_change_59 (S : Sh) (R : Rw)  (I : Iw) (a0 : Nat) (x1 : Int32) (x2 : Int32) (x3 : Int32) : Option (Iw × Int32) := (if x2 = (3 : Int32) then bd (f_X11_isBetween S R I x3 (1 : Int32) (999 : Int32)) (fun r8 => (if r8 = 0 then some (I, (-1 : Int32)) else gp (sok S a0 11 12) (rl (R a0 0) (fun b11 => gp (sok S b11 7 16) (rl (R b11 3) (fun b13 => gp (aok S 20 b13 x1) (rl (R a0 0) (fun b15 => gp (sok S b15 7 16) (rl (R b15 3) (fun b17 => gp (aok S 20 b17 x1) (lt (up2 I b17 x1.toNatClampNeg x3) (fun I19 => some (I19, I b13 x1.toNatClampNeg))))))))))))) else some (I, (-1 : Int32)))
set_option maxHeartbeats 4000000 in
theorem b_X11_change_59 {E : Ev} {p : Program} {l : Launch} {e : Env} {s : State} {m : MethodId} {args : Array Value} {below : List Frame} {meth : Method} {c : Code} (C : Cx E RX11 cX11_change 5 p s m c) (hr : meth.sig.returnType = (some .int)) (hk : meth.locks = false) {S : Sh} {R : Rw} {r : Iw × Int32}  : ∀ (I : Iw) (a0 : Nat) (x1 : Int32) (x2 : Int32) (x3 : Int32), f_X11_change_59 S R   I a0 x1 x2 x3 = some r → Wk E 5 p l e ({ frames := 5, cells := 0, slots := 0, locals := 111 } : Room) s m args below meth c 0 0 (MQ below (Qw E S R r.1 (some (.int r.2))) args s 0 0 (fun q => E.1 ≤ q)) 59 [(0, .ref (E.1 + a0)), (1, .int x1), (2, .int x2), (3, .int x3)] [] S R I := by
  intro I a0 x1 x2 x3 h
  rw [f_X11_change_59] at h
  refine k_iloadn (pc := 59) C dX11_change_59 (i := 2) rfl 2 rfl ?_
  refine k_iconst (pc := 60) C (v := (3 : Int32)) dX11_change_60 (by decide) ?_
  refine k_icmp_ne (pc := 61) C dX11_change_61 (tgt := 99) (by decide) (fun hc7 => ?_) (fun hc7 => ?_)
  · rw [if_neg hc7] at h
    refine k_iconst (pc := 99) C (v := (-1 : Int32)) dX11_change_99 (by decide) ?_
    have h := Option.some.inj h
    subst h
    exact k_iret (pc := 100) C hr hk dX11_change_100
  · rw [if_pos hc7] at h
    refine k_iloadn (pc := 64) C dX11_change_64 (i := 3) rfl 3 rfl ?_
    refine k_iconst (pc := 65) C (v := (1 : Int32)) dX11_change_65 (by decide) ?_
    refine k_sipush (pc := 66) C (v := (999 : Int32)) dX11_change_66 (by decide) ?_
    obtain ⟨r8, hr8, h⟩ := bd_e h
    refine k_S (pc := 69) (st := []) C (c_X11_isBetween hr8) lkS_RX11_55 rfl rfl (Nat.le_of_ble_eq_true rfl) (Nat.le_of_ble_eq_true rfl) (Nat.le_of_ble_eq_true rfl) (Nat.le_of_ble_eq_true rfl) (Nat.le_of_ble_eq_true rfl) dX11_change_69 ?_
    refine k_nf (cells2 := 0) (slots2 := 0) (st2 := [.int r8]) rfl rfl rfl ?_
    refine k_if_eq (pc := 72) C dX11_change_72 (tgt := 99) (by decide) (fun hc9 => ?_) (fun hc9 => ?_)
    · rw [if_pos hc9] at h
      refine k_iconst (pc := 99) C (v := (-1 : Int32)) dX11_change_99 (by decide) ?_
      have h := Option.some.inj h
      subst h
      exact k_iret (pc := 100) C hr hk dX11_change_100
    · rw [if_neg hc9] at h
      refine k_aloadn (pc := 75) C dX11_change_75 (i := 0) rfl 0 rfl ?_
      obtain ⟨hs100, h⟩ := gp_e h
      have hs10 := sok_e hs100
      obtain ⟨b11, hb11, h⟩ := rl_e h
      refine k_getR (pc := 76) C lkF_RX11_12_11 hs10 ir_11_0 hb11 dX11_change_76 ?_
      obtain ⟨hs120, h⟩ := gp_e h
      have hs12 := sok_e hs120
      obtain ⟨b13, hb13, h⟩ := rl_e h
      refine k_getR (pc := 79) C lkF_RX11_76_7 hs12 ir_7_3 hb13 dX11_change_79 ?_
      refine k_iloadn (pc := 82) C dX11_change_82 (i := 1) rfl 1 rfl ?_
      obtain ⟨ha14, h⟩ := gp_e h
      refine k_iald (pc := 83) C ha14 dX11_change_83 ?_
      refine k_istore (pc := 84) C dX11_change_84 (by decide) (L2 := [(0, .ref (E.1 + a0)), (1, .int x1), (2, .int x2), (3, .int x3), (4, .int (I b13 x1.toNatClampNeg))]) rfl ?_
      refine k_aloadn (pc := 86) C dX11_change_86 (i := 0) rfl 0 rfl ?_
      obtain ⟨b15, hb15, h⟩ := rl_e h
      refine k_getR (pc := 87) C lkF_RX11_12_11 hs10 ir_11_0 hb15 dX11_change_87 ?_
      obtain ⟨hs160, h⟩ := gp_e h
      have hs16 := sok_e hs160
      obtain ⟨b17, hb17, h⟩ := rl_e h
      refine k_getR (pc := 90) C lkF_RX11_76_7 hs16 ir_7_3 hb17 dX11_change_90 ?_
      refine k_iloadn (pc := 93) C dX11_change_93 (i := 1) rfl 1 rfl ?_
      refine k_iloadn (pc := 94) C dX11_change_94 (i := 3) rfl 3 rfl ?_
      obtain ⟨ha18, h⟩ := gp_e h
      obtain ⟨I19, eI19, h⟩ := lt_e h
      refine k_iast (pc := 95) C ha18 dX11_change_95 ?_
      rw [← eI19]
      refine k_iload (pc := 96) C dX11_change_96 4 rfl ?_
      have h := Option.some.inj h
      subst h
      exact k_iret (pc := 98) C hr hk dX11_change_98
def f_X11_change (S : Sh) (R : Rw)  (I : Iw) (a0 : Nat) (x1 : Int32) (x2 : Int32) (x3 : Int32) : Option (Iw × Int32) := gp (sok S a0 11 12) (rl (R a0 0) (fun b2 => gp (sok S b2 7 16) (bd (f_X7_has S R I b2 x1) (fun r4 => (if r4 = 0 then some (I, (-1 : Int32)) else (if x2 = (2 : Int32) then bd (f_X11_isBetween S R I x3 (0 : Int32) (9 : Int32)) (fun r20 => (if r20 = 0 then f_X11_change_59 S R  I a0 x1 x2 x3 else rl (R a0 0) (fun b22 => gp (sok S b22 7 16) (rl (R b22 2) (fun b24 => gp (aok S 20 b24 x1) (rl (R a0 0) (fun b26 => gp (sok S b26 7 16) (rl (R b26 2) (fun b28 => gp (aok S 20 b28 x1) (lt (up2 I b28 x1.toNatClampNeg x3) (fun I30 => rl (R a0 0) (fun b31 => gp (sok S b31 7 16) (bd (f_X7_renewMates S R I30 b31) (fun r33 => some (r33, I b24 x1.toNatClampNeg))))))))))))))) else f_X11_change_59 S R  I a0 x1 x2 x3))))))
set_option maxHeartbeats 4000000 in
theorem b_X11_change {E : Ev} {p : Program} {l : Launch} {e : Env} {s : State} {m : MethodId} {args : Array Value} {below : List Frame} {meth : Method} {c : Code} (C : Cx E RX11 cX11_change 5 p s m c) (hr : meth.sig.returnType = (some .int)) (hk : meth.locks = false) {S : Sh} {R : Rw} {r : Iw × Int32}  : ∀ (I : Iw) (a0 : Nat) (x1 : Int32) (x2 : Int32) (x3 : Int32), f_X11_change S R   I a0 x1 x2 x3 = some r → Wk E 5 p l e ({ frames := 5, cells := 0, slots := 0, locals := 111 } : Room) s m args below meth c 0 0 (MQ below (Qw E S R r.1 (some (.int r.2))) args s 0 0 (fun q => E.1 ≤ q)) 0 [(0, .ref (E.1 + a0)), (1, .int x1), (2, .int x2), (3, .int x3)] [] S R I := by
  intro I a0 x1 x2 x3 h
  rw [f_X11_change] at h
  refine k_aloadn (pc := 0) C dX11_change_0 (i := 0) rfl 0 rfl ?_
  obtain ⟨hs10, h⟩ := gp_e h
  have hs1 := sok_e hs10
  obtain ⟨b2, hb2, h⟩ := rl_e h
  refine k_getR (pc := 1) C lkF_RX11_12_11 hs1 ir_11_0 hb2 dX11_change_1 ?_
  refine k_iloadn (pc := 4) C dX11_change_4 (i := 1) rfl 1 rfl ?_
  obtain ⟨hs30, h⟩ := gp_e h
  have hs3 := sok_e hs30
  obtain ⟨r4, hr4, h⟩ := bd_e h
  refine k_V (pc := 5) (st := []) C (c_X7_has hr4) lkV_RX11_63 hs3 rfl rfl rfl (Nat.le_of_ble_eq_true rfl) (Nat.le_of_ble_eq_true rfl) (Nat.le_of_ble_eq_true rfl) (Nat.le_of_ble_eq_true rfl) (Nat.le_of_ble_eq_true rfl) dX11_change_5 ?_
  refine k_nf (cells2 := 0) (slots2 := 0) (st2 := [.int r4]) rfl rfl rfl ?_
  refine k_if_ne (pc := 8) C dX11_change_8 (tgt := 13) (by decide) (fun hc5 => ?_) (fun hc5 => ?_)
  · rw [if_neg hc5] at h
    refine k_iloadn (pc := 13) C dX11_change_13 (i := 2) rfl 2 rfl ?_
    refine k_iconst (pc := 14) C (v := (2 : Int32)) dX11_change_14 (by decide) ?_
    refine k_icmp_ne (pc := 15) C dX11_change_15 (tgt := 59) (by decide) (fun hc6 => ?_) (fun hc6 => ?_)
    · rw [if_neg hc6] at h
      exact b_X11_change_59 C hr hk  _ _ _ _ _ h
    · rw [if_pos hc6] at h
      refine k_iloadn (pc := 18) C dX11_change_18 (i := 3) rfl 3 rfl ?_
      refine k_iconst (pc := 19) C (v := (0 : Int32)) dX11_change_19 (by decide) ?_
      refine k_bipush (pc := 20) C (v := (9 : Int32)) dX11_change_20 (by decide) ?_
      obtain ⟨r20, hr20, h⟩ := bd_e h
      refine k_S (pc := 22) (st := []) C (c_X11_isBetween hr20) lkS_RX11_55 rfl rfl (Nat.le_of_ble_eq_true rfl) (Nat.le_of_ble_eq_true rfl) (Nat.le_of_ble_eq_true rfl) (Nat.le_of_ble_eq_true rfl) (Nat.le_of_ble_eq_true rfl) dX11_change_22 ?_
      refine k_nf (cells2 := 0) (slots2 := 0) (st2 := [.int r20]) rfl rfl rfl ?_
      refine k_if_eq (pc := 25) C dX11_change_25 (tgt := 59) (by decide) (fun hc21 => ?_) (fun hc21 => ?_)
      · rw [if_pos hc21] at h
        exact b_X11_change_59 C hr hk  _ _ _ _ _ h
      · rw [if_neg hc21] at h
        refine k_aloadn (pc := 28) C dX11_change_28 (i := 0) rfl 0 rfl ?_
        obtain ⟨b22, hb22, h⟩ := rl_e h
        refine k_getR (pc := 29) C lkF_RX11_12_11 hs1 ir_11_0 hb22 dX11_change_29 ?_
        obtain ⟨hs230, h⟩ := gp_e h
        have hs23 := sok_e hs230
        obtain ⟨b24, hb24, h⟩ := rl_e h
        refine k_getR (pc := 32) C lkF_RX11_73_7 hs23 ir_7_2 hb24 dX11_change_32 ?_
        refine k_iloadn (pc := 35) C dX11_change_35 (i := 1) rfl 1 rfl ?_
        obtain ⟨ha25, h⟩ := gp_e h
        refine k_iald (pc := 36) C ha25 dX11_change_36 ?_
        refine k_istore (pc := 37) C dX11_change_37 (by decide) (L2 := [(0, .ref (E.1 + a0)), (1, .int x1), (2, .int x2), (3, .int x3), (4, .int (I b24 x1.toNatClampNeg))]) rfl ?_
        refine k_aloadn (pc := 39) C dX11_change_39 (i := 0) rfl 0 rfl ?_
        obtain ⟨b26, hb26, h⟩ := rl_e h
        refine k_getR (pc := 40) C lkF_RX11_12_11 hs1 ir_11_0 hb26 dX11_change_40 ?_
        obtain ⟨hs270, h⟩ := gp_e h
        have hs27 := sok_e hs270
        obtain ⟨b28, hb28, h⟩ := rl_e h
        refine k_getR (pc := 43) C lkF_RX11_73_7 hs27 ir_7_2 hb28 dX11_change_43 ?_
        refine k_iloadn (pc := 46) C dX11_change_46 (i := 1) rfl 1 rfl ?_
        refine k_iloadn (pc := 47) C dX11_change_47 (i := 3) rfl 3 rfl ?_
        obtain ⟨ha29, h⟩ := gp_e h
        obtain ⟨I30, eI30, h⟩ := lt_e h
        refine k_iast (pc := 48) C ha29 dX11_change_48 ?_
        rw [← eI30]
        refine k_aloadn (pc := 49) C dX11_change_49 (i := 0) rfl 0 rfl ?_
        obtain ⟨b31, hb31, h⟩ := rl_e h
        refine k_getR (pc := 50) C lkF_RX11_12_11 hs1 ir_11_0 hb31 dX11_change_50 ?_
        obtain ⟨hs320, h⟩ := gp_e h
        have hs32 := sok_e hs320
        obtain ⟨r33, hr33, h⟩ := bd_e h
        refine k_V (pc := 53) (st := []) C (c_X7_renewMates hr33) lkV_RX11_108 hs32 rfl rfl rfl (Nat.le_of_ble_eq_true rfl) (Nat.le_of_ble_eq_true rfl) (Nat.le_of_ble_eq_true rfl) (Nat.le_of_ble_eq_true rfl) (Nat.le_of_ble_eq_true rfl) dX11_change_53 ?_
        refine k_nf (cells2 := 0) (slots2 := 0) (st2 := []) rfl rfl rfl ?_
        refine k_iload (pc := 56) C dX11_change_56 4 rfl ?_
        have h := Option.some.inj h
        subst h
        exact k_iret (pc := 58) C hr hk dX11_change_58
  · rw [if_pos hc5] at h
    refine k_iconst (pc := 11) C (v := (-1 : Int32)) dX11_change_11 (by decide) ?_
    have h := Option.some.inj h
    subst h
    exact k_iret (pc := 12) C hr hk dX11_change_12
theorem c_X11_change {E : Ev} {l : Launch} {S : Sh} {R : Rw} {I : Iw} {a0 : Nat} {x1 : Int32} {x2 : Int32} {x3 : Int32} {r : Iw × Int32} (h : f_X11_change S R I a0 x1 x2 x3 = some r) : Mt E l yX11_change cX11_change 5 (some .int) 5 111 [.ref (E.1 + a0), .int x1, .int x2, .int x3] S R I S R r.1 (some (.int r.2)) 0 0 := mt_of (by decide) (Nat.le_of_ble_eq_true rfl) (fun p e s m args below meth c C hr hk hn => b_X11_change C hr hk _ _ _ _ _ h)
theorem lkV_RX11_111 : LkV RX11 111 RX7 yX7_becomeKind cX7_becomeKind 3 none 2 := ⟨(t2_in 130 (by decide +kernel) rfl), (t2_in 131 (by decide +kernel) rfl), (t2_in 132 (by decide +kernel) rfl), (t2_in 133 (by decide +kernel) rfl), (t1_in 2 (by decide +kernel) rfl), by decide, by decide +kernel⟩
theorem dX11_remake_0 : decode cX11_remake 0 = .ok (.aload_n 0, 1) := by decide +kernel
theorem dX11_remake_1 : decode cX11_remake 1 = .ok (.getfield 12, 3) := by decide +kernel
theorem dX11_remake_4 : decode cX11_remake 4 = .ok (.iload_n 1, 1) := by decide +kernel
theorem dX11_remake_5 : decode cX11_remake 5 = .ok (.invokevirtual 63, 3) := by decide +kernel
theorem dX11_remake_8 : decode cX11_remake 8 = .ok (.ifCond .eq 12, 3) := by decide +kernel
theorem dX11_remake_11 : decode cX11_remake 11 = .ok (.iload_n 2, 1) := by decide +kernel
theorem dX11_remake_12 : decode cX11_remake 12 = .ok (.iconst 1, 1) := by decide +kernel
theorem dX11_remake_13 : decode cX11_remake 13 = .ok (.iconst 5, 1) := by decide +kernel
theorem dX11_remake_14 : decode cX11_remake 14 = .ok (.invokestatic 55, 3) := by decide +kernel
theorem dX11_remake_17 : decode cX11_remake 17 = .ok (.ifCond .ne 5, 3) := by decide +kernel
theorem dX11_remake_20 : decode cX11_remake 20 = .ok (.iconst (-1), 1) := by decide +kernel
theorem dX11_remake_21 : decode cX11_remake 21 = .ok (.ireturn, 1) := by decide +kernel
theorem dX11_remake_22 : decode cX11_remake 22 = .ok (.aload_n 0, 1) := by decide +kernel
theorem dX11_remake_23 : decode cX11_remake 23 = .ok (.getfield 12, 3) := by decide +kernel
theorem dX11_remake_26 : decode cX11_remake 26 = .ok (.getfield 67, 3) := by decide +kernel
theorem dX11_remake_29 : decode cX11_remake 29 = .ok (.iload_n 1, 1) := by decide +kernel
theorem dX11_remake_30 : decode cX11_remake 30 = .ok (.iaload, 1) := by decide +kernel
theorem dX11_remake_31 : decode cX11_remake 31 = .ok (.istore_n 3, 1) := by decide +kernel
theorem dX11_remake_32 : decode cX11_remake 32 = .ok (.aload_n 0, 1) := by decide +kernel
theorem dX11_remake_33 : decode cX11_remake 33 = .ok (.getfield 12, 3) := by decide +kernel
theorem dX11_remake_36 : decode cX11_remake 36 = .ok (.iload_n 1, 1) := by decide +kernel
theorem dX11_remake_37 : decode cX11_remake 37 = .ok (.iload_n 2, 1) := by decide +kernel
theorem dX11_remake_38 : decode cX11_remake 38 = .ok (.invokevirtual 111, 3) := by decide +kernel
theorem dX11_remake_41 : decode cX11_remake 41 = .ok (.iload_n 3, 1) := by decide +kernel
theorem dX11_remake_42 : decode cX11_remake 42 = .ok (.ireturn, 1) := by decide +kernel
def f_X11_remake (S : Sh) (R : Rw)  (I : Iw) (a0 : Nat) (x1 : Int32) (x2 : Int32) : Option (Iw × Int32) := gp (sok S a0 11 12) (rl (R a0 0) (fun b2 => gp (sok S b2 7 16) (bd (f_X7_has S R I b2 x1) (fun r4 => (if r4 = 0 then some (I, (-1 : Int32)) else bd (f_X11_isBetween S R I x2 (1 : Int32) (5 : Int32)) (fun r6 => (if r6 = 0 then some (I, (-1 : Int32)) else rl (R a0 0) (fun b8 => gp (sok S b8 7 16) (rl (R b8 0) (fun b10 => gp (aok S 20 b10 x1) (rl (R a0 0) (fun b12 => gp (sok S b12 7 16) (bd (f_X7_becomeKind S R I b12 x1 x2) (fun r14 => some (r14, I b10 x1.toNatClampNeg)))))))))))))))
set_option maxHeartbeats 4000000 in
theorem b_X11_remake {E : Ev} {p : Program} {l : Launch} {e : Env} {s : State} {m : MethodId} {args : Array Value} {below : List Frame} {meth : Method} {c : Code} (C : Cx E RX11 cX11_remake 4 p s m c) (hr : meth.sig.returnType = (some .int)) (hk : meth.locks = false) {S : Sh} {R : Rw} {r : Iw × Int32}  : ∀ (I : Iw) (a0 : Nat) (x1 : Int32) (x2 : Int32), f_X11_remake S R   I a0 x1 x2 = some r → Wk E 4 p l e ({ frames := 6, cells := 0, slots := 0, locals := 133 } : Room) s m args below meth c 0 0 (MQ below (Qw E S R r.1 (some (.int r.2))) args s 0 0 (fun q => E.1 ≤ q)) 0 [(0, .ref (E.1 + a0)), (1, .int x1), (2, .int x2)] [] S R I := by
  intro I a0 x1 x2 h
  rw [f_X11_remake] at h
  refine k_aloadn (pc := 0) C dX11_remake_0 (i := 0) rfl 0 rfl ?_
  obtain ⟨hs10, h⟩ := gp_e h
  have hs1 := sok_e hs10
  obtain ⟨b2, hb2, h⟩ := rl_e h
  refine k_getR (pc := 1) C lkF_RX11_12_11 hs1 ir_11_0 hb2 dX11_remake_1 ?_
  refine k_iloadn (pc := 4) C dX11_remake_4 (i := 1) rfl 1 rfl ?_
  obtain ⟨hs30, h⟩ := gp_e h
  have hs3 := sok_e hs30
  obtain ⟨r4, hr4, h⟩ := bd_e h
  refine k_V (pc := 5) (st := []) C (c_X7_has hr4) lkV_RX11_63 hs3 rfl rfl rfl (Nat.le_of_ble_eq_true rfl) (Nat.le_of_ble_eq_true rfl) (Nat.le_of_ble_eq_true rfl) (Nat.le_of_ble_eq_true rfl) (Nat.le_of_ble_eq_true rfl) dX11_remake_5 ?_
  refine k_nf (cells2 := 0) (slots2 := 0) (st2 := [.int r4]) rfl rfl rfl ?_
  refine k_if_eq (pc := 8) C dX11_remake_8 (tgt := 20) (by decide) (fun hc5 => ?_) (fun hc5 => ?_)
  · rw [if_pos hc5] at h
    refine k_iconst (pc := 20) C (v := (-1 : Int32)) dX11_remake_20 (by decide) ?_
    have h := Option.some.inj h
    subst h
    exact k_iret (pc := 21) C hr hk dX11_remake_21
  · rw [if_neg hc5] at h
    refine k_iloadn (pc := 11) C dX11_remake_11 (i := 2) rfl 2 rfl ?_
    refine k_iconst (pc := 12) C (v := (1 : Int32)) dX11_remake_12 (by decide) ?_
    refine k_iconst (pc := 13) C (v := (5 : Int32)) dX11_remake_13 (by decide) ?_
    obtain ⟨r6, hr6, h⟩ := bd_e h
    refine k_S (pc := 14) (st := []) C (c_X11_isBetween hr6) lkS_RX11_55 rfl rfl (Nat.le_of_ble_eq_true rfl) (Nat.le_of_ble_eq_true rfl) (Nat.le_of_ble_eq_true rfl) (Nat.le_of_ble_eq_true rfl) (Nat.le_of_ble_eq_true rfl) dX11_remake_14 ?_
    refine k_nf (cells2 := 0) (slots2 := 0) (st2 := [.int r6]) rfl rfl rfl ?_
    refine k_if_ne (pc := 17) C dX11_remake_17 (tgt := 22) (by decide) (fun hc7 => ?_) (fun hc7 => ?_)
    · rw [if_neg hc7] at h
      refine k_aloadn (pc := 22) C dX11_remake_22 (i := 0) rfl 0 rfl ?_
      obtain ⟨b8, hb8, h⟩ := rl_e h
      refine k_getR (pc := 23) C lkF_RX11_12_11 hs1 ir_11_0 hb8 dX11_remake_23 ?_
      obtain ⟨hs90, h⟩ := gp_e h
      have hs9 := sok_e hs90
      obtain ⟨b10, hb10, h⟩ := rl_e h
      refine k_getR (pc := 26) C lkF_RX11_67_7 hs9 ir_7_0 hb10 dX11_remake_26 ?_
      refine k_iloadn (pc := 29) C dX11_remake_29 (i := 1) rfl 1 rfl ?_
      obtain ⟨ha11, h⟩ := gp_e h
      refine k_iald (pc := 30) C ha11 dX11_remake_30 ?_
      refine k_istoren (pc := 31) C dX11_remake_31 (i := 3) rfl (by decide) (L2 := [(0, .ref (E.1 + a0)), (1, .int x1), (2, .int x2), (3, .int (I b10 x1.toNatClampNeg))]) rfl ?_
      refine k_aloadn (pc := 32) C dX11_remake_32 (i := 0) rfl 0 rfl ?_
      obtain ⟨b12, hb12, h⟩ := rl_e h
      refine k_getR (pc := 33) C lkF_RX11_12_11 hs1 ir_11_0 hb12 dX11_remake_33 ?_
      refine k_iloadn (pc := 36) C dX11_remake_36 (i := 1) rfl 1 rfl ?_
      refine k_iloadn (pc := 37) C dX11_remake_37 (i := 2) rfl 2 rfl ?_
      obtain ⟨hs130, h⟩ := gp_e h
      have hs13 := sok_e hs130
      obtain ⟨r14, hr14, h⟩ := bd_e h
      refine k_V (pc := 38) (st := []) C (c_X7_becomeKind hr14) lkV_RX11_111 hs13 rfl rfl rfl (Nat.le_of_ble_eq_true rfl) (Nat.le_of_ble_eq_true rfl) (Nat.le_of_ble_eq_true rfl) (Nat.le_of_ble_eq_true rfl) (Nat.le_of_ble_eq_true rfl) dX11_remake_38 ?_
      refine k_nf (cells2 := 0) (slots2 := 0) (st2 := []) rfl rfl rfl ?_
      refine k_iloadn (pc := 41) C dX11_remake_41 (i := 3) rfl 3 rfl ?_
      have h := Option.some.inj h
      subst h
      exact k_iret (pc := 42) C hr hk dX11_remake_42
    · rw [if_pos hc7] at h
      refine k_iconst (pc := 20) C (v := (-1 : Int32)) dX11_remake_20 (by decide) ?_
      have h := Option.some.inj h
      subst h
      exact k_iret (pc := 21) C hr hk dX11_remake_21
theorem c_X11_remake {E : Ev} {l : Launch} {S : Sh} {R : Rw} {I : Iw} {a0 : Nat} {x1 : Int32} {x2 : Int32} {r : Iw × Int32} (h : f_X11_remake S R I a0 x1 x2 = some r) : Mt E l yX11_remake cX11_remake 4 (some .int) 6 133 [.ref (E.1 + a0), .int x1, .int x2] S R I S R r.1 (some (.int r.2)) 0 0 := mt_of (by decide) (Nat.le_of_ble_eq_true rfl) (fun p e s m args below meth c C hr hk hn => b_X11_remake C hr hk _ _ _ _ h)
