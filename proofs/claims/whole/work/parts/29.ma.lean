/-! X11_shelf, X11_taken, X11_thingOn -/
theorem lkV_RX11_234 : LkV RX11 234 RX11 yX11_holdRow cX11_holdRow 3 none 2 := ⟨(t4_in 71 (by decide +kernel) rfl), (t4_in 73 (by decide +kernel) rfl), (t0_in 26 (by decide +kernel) rfl), (t4_in 74 (by decide +kernel) rfl), (t1_in 1 (by decide +kernel) rfl), by decide, by decide +kernel⟩
theorem dX11_shelf_0 : decode cX11_shelf 0 = .ok (.iload_n 1, 1) := by decide +kernel
theorem dX11_shelf_1 : decode cX11_shelf 1 = .ok (.iconst 0, 1) := by decide +kernel
theorem dX11_shelf_2 : decode cX11_shelf 2 = .ok (.iconst 3, 1) := by decide +kernel
theorem dX11_shelf_3 : decode cX11_shelf 3 = .ok (.invokestatic 55, 3) := by decide +kernel
theorem dX11_shelf_6 : decode cX11_shelf 6 = .ok (.ifCond .eq 39, 3) := by decide +kernel
theorem dX11_shelf_9 : decode cX11_shelf 9 = .ok (.iload_n 2, 1) := by decide +kernel
theorem dX11_shelf_10 : decode cX11_shelf 10 = .ok (.iconst 0, 1) := by decide +kernel
theorem dX11_shelf_11 : decode cX11_shelf 11 = .ok (.iconst 2, 1) := by decide +kernel
theorem dX11_shelf_12 : decode cX11_shelf 12 = .ok (.invokestatic 55, 3) := by decide +kernel
theorem dX11_shelf_15 : decode cX11_shelf 15 = .ok (.ifCond .eq 30, 3) := by decide +kernel
theorem dX11_shelf_18 : decode cX11_shelf 18 = .ok (.iload_n 2, 1) := by decide +kernel
theorem dX11_shelf_19 : decode cX11_shelf 19 = .ok (.ifCond .ne 14, 3) := by decide +kernel
theorem dX11_shelf_22 : decode cX11_shelf 22 = .ok (.aload_n 0, 1) := by decide +kernel
theorem dX11_shelf_23 : decode cX11_shelf 23 = .ok (.getfield 12, 3) := by decide +kernel
theorem dX11_shelf_26 : decode cX11_shelf 26 = .ok (.iload_n 3, 1) := by decide +kernel
theorem dX11_shelf_27 : decode cX11_shelf 27 = .ok (.invokevirtual 63, 3) := by decide +kernel
theorem dX11_shelf_30 : decode cX11_shelf 30 = .ok (.ifCond .eq 15, 3) := by decide +kernel
theorem dX11_shelf_33 : decode cX11_shelf 33 = .ok (.iload_n 2, 1) := by decide +kernel
theorem dX11_shelf_34 : decode cX11_shelf 34 = .ok (.iconst 1, 1) := by decide +kernel
theorem dX11_shelf_35 : decode cX11_shelf 35 = .ok (.if_icmp .ne 12, 3) := by decide +kernel
theorem dX11_shelf_38 : decode cX11_shelf 38 = .ok (.iload_n 3, 1) := by decide +kernel
theorem dX11_shelf_39 : decode cX11_shelf 39 = .ok (.invokestatic 215, 3) := by decide +kernel
theorem dX11_shelf_42 : decode cX11_shelf 42 = .ok (.ifCond .ne 5, 3) := by decide +kernel
theorem dX11_shelf_45 : decode cX11_shelf 45 = .ok (.iconst (-1), 1) := by decide +kernel
theorem dX11_shelf_46 : decode cX11_shelf 46 = .ok (.ireturn, 1) := by decide +kernel
theorem dX11_shelf_47 : decode cX11_shelf 47 = .ok (.aload_n 0, 1) := by decide +kernel
theorem dX11_shelf_48 : decode cX11_shelf 48 = .ok (.getfield 45, 3) := by decide +kernel
theorem dX11_shelf_51 : decode cX11_shelf 51 = .ok (.iload_n 1, 1) := by decide +kernel
theorem dX11_shelf_52 : decode cX11_shelf 52 = .ok (.iload_n 2, 1) := by decide +kernel
theorem dX11_shelf_53 : decode cX11_shelf 53 = .ok (.iastore, 1) := by decide +kernel
theorem dX11_shelf_54 : decode cX11_shelf 54 = .ok (.aload_n 0, 1) := by decide +kernel
theorem dX11_shelf_55 : decode cX11_shelf 55 = .ok (.getfield 48, 3) := by decide +kernel
theorem dX11_shelf_58 : decode cX11_shelf 58 = .ok (.iload_n 1, 1) := by decide +kernel
theorem dX11_shelf_59 : decode cX11_shelf 59 = .ok (.iload_n 3, 1) := by decide +kernel
theorem dX11_shelf_60 : decode cX11_shelf 60 = .ok (.iastore, 1) := by decide +kernel
theorem dX11_shelf_61 : decode cX11_shelf 61 = .ok (.iload_n 2, 1) := by decide +kernel
theorem dX11_shelf_62 : decode cX11_shelf 62 = .ok (.iconst 1, 1) := by decide +kernel
theorem dX11_shelf_63 : decode cX11_shelf 63 = .ok (.if_icmp .ne 14, 3) := by decide +kernel
theorem dX11_shelf_66 : decode cX11_shelf 66 = .ok (.aload_n 0, 1) := by decide +kernel
theorem dX11_shelf_67 : decode cX11_shelf 67 = .ok (.iload_n 1, 1) := by decide +kernel
theorem dX11_shelf_68 : decode cX11_shelf 68 = .ok (.aload_n 0, 1) := by decide +kernel
theorem dX11_shelf_69 : decode cX11_shelf 69 = .ok (.getfield 41, 3) := by decide +kernel
theorem dX11_shelf_72 : decode cX11_shelf 72 = .ok (.iload_n 3, 1) := by decide +kernel
theorem dX11_shelf_73 : decode cX11_shelf 73 = .ok (.aaload, 1) := by decide +kernel
theorem dX11_shelf_74 : decode cX11_shelf 74 = .ok (.invokevirtual 234, 3) := by decide +kernel
theorem dX11_shelf_77 : decode cX11_shelf 77 = .ok (.iconst 1, 1) := by decide +kernel
theorem dX11_shelf_78 : decode cX11_shelf 78 = .ok (.ireturn, 1) := by decide +kernel
def f_X11_shelf_47 (S : Sh) (R : Rw)  (I : Iw) (a0 : Nat) (x1 : Int32) (x2 : Int32) (x3 : Int32) : Option (Iw × Int32) := gp (sok S a0 11 12) (rl (R a0 8) (fun b8 => gp (aok S 20 b8 x1) (lt (up2 I b8 x1.toNatClampNeg x2) (fun I10 => rl (R a0 9) (fun b11 => gp (aok S 20 b11 x1) (lt (up2 I10 b11 x1.toNatClampNeg x3) (fun I13 => (if x2 = (1 : Int32) then rl (R a0 7) (fun b15 => gp (aok S 23 b15 x3) (rl (R b15 x3.toNatClampNeg) (fun b17 => bd (f_X11_holdRow S R I13 a0 x1 b17) (fun r18 => some (r18, (1 : Int32)))))) else some (I13, (1 : Int32))))))))))
set_option maxHeartbeats 4000000 in
theorem b_X11_shelf_47 {E : Ev} {p : Program} {l : Launch} {e : Env} {s : State} {m : MethodId} {args : Array Value} {below : List Frame} {meth : Method} {c : Code} (C : Cx E RX11 cX11_shelf 4 p s m c) (hr : meth.sig.returnType = (some .int)) (hk : meth.locks = false) {S : Sh} {R : Rw} {r : Iw × Int32}  : ∀ (I : Iw) (a0 : Nat) (x1 : Int32) (x2 : Int32) (x3 : Int32), f_X11_shelf_47 S R   I a0 x1 x2 x3 = some r → Wk E 4 p l e ({ frames := 2, cells := 0, slots := 0, locals := 42 } : Room) s m args below meth c 0 0 (MQ below (Qw E S R r.1 (some (.int r.2))) args s 0 0 (fun q => E.1 ≤ q)) 47 [(0, .ref (E.1 + a0)), (1, .int x1), (2, .int x2), (3, .int x3)] [] S R I := by
  intro I a0 x1 x2 x3 h
  rw [f_X11_shelf_47] at h
  refine k_aloadn (pc := 47) C dX11_shelf_47 (i := 0) rfl 0 rfl ?_
  obtain ⟨hs70, h⟩ := gp_e h
  have hs7 := sok_e hs70
  obtain ⟨b8, hb8, h⟩ := rl_e h
  refine k_getR (pc := 48) C lkF_RX11_45_11 hs7 ir_11_8 hb8 dX11_shelf_48 ?_
  refine k_iloadn (pc := 51) C dX11_shelf_51 (i := 1) rfl 1 rfl ?_
  refine k_iloadn (pc := 52) C dX11_shelf_52 (i := 2) rfl 2 rfl ?_
  obtain ⟨ha9, h⟩ := gp_e h
  obtain ⟨I10, eI10, h⟩ := lt_e h
  refine k_iast (pc := 53) C ha9 dX11_shelf_53 ?_
  rw [← eI10]
  refine k_aloadn (pc := 54) C dX11_shelf_54 (i := 0) rfl 0 rfl ?_
  obtain ⟨b11, hb11, h⟩ := rl_e h
  refine k_getR (pc := 55) C lkF_RX11_48_11 hs7 ir_11_9 hb11 dX11_shelf_55 ?_
  refine k_iloadn (pc := 58) C dX11_shelf_58 (i := 1) rfl 1 rfl ?_
  refine k_iloadn (pc := 59) C dX11_shelf_59 (i := 3) rfl 3 rfl ?_
  obtain ⟨ha12, h⟩ := gp_e h
  obtain ⟨I13, eI13, h⟩ := lt_e h
  refine k_iast (pc := 60) C ha12 dX11_shelf_60 ?_
  rw [← eI13]
  refine k_iloadn (pc := 61) C dX11_shelf_61 (i := 2) rfl 2 rfl ?_
  refine k_iconst (pc := 62) C (v := (1 : Int32)) dX11_shelf_62 (by decide) ?_
  refine k_icmp_ne (pc := 63) C dX11_shelf_63 (tgt := 77) (by decide) (fun hc14 => ?_) (fun hc14 => ?_)
  · rw [if_neg hc14] at h
    refine k_iconst (pc := 77) C (v := (1 : Int32)) dX11_shelf_77 (by decide) ?_
    have h := Option.some.inj h
    subst h
    exact k_iret (pc := 78) C hr hk dX11_shelf_78
  · rw [if_pos hc14] at h
    refine k_aloadn (pc := 66) C dX11_shelf_66 (i := 0) rfl 0 rfl ?_
    refine k_iloadn (pc := 67) C dX11_shelf_67 (i := 1) rfl 1 rfl ?_
    refine k_aloadn (pc := 68) C dX11_shelf_68 (i := 0) rfl 0 rfl ?_
    obtain ⟨b15, hb15, h⟩ := rl_e h
    refine k_getR (pc := 69) C lkF_RX11_41_11 hs7 ir_11_7 hb15 dX11_shelf_69 ?_
    refine k_iloadn (pc := 72) C dX11_shelf_72 (i := 3) rfl 3 rfl ?_
    obtain ⟨ha16, h⟩ := gp_e h
    obtain ⟨b17, hb17, h⟩ := rl_e h
    refine k_aald (pc := 73) C (t := 23) (by decide) ha16 dX11_shelf_73 ?_
    rw [hb17]
    refine k_nf (cells2 := 0) (slots2 := 0) (st2 := [.ref (E.1 + b17), .int x1, .ref (E.1 + a0)]) rfl rfl rfl ?_
    obtain ⟨r18, hr18, h⟩ := bd_e h
    refine k_V (pc := 74) (st := []) C (c_X11_holdRow hr18) lkV_RX11_234 hs7 rfl rfl rfl (Nat.le_of_ble_eq_true rfl) (Nat.le_of_ble_eq_true rfl) (Nat.le_of_ble_eq_true rfl) (Nat.le_of_ble_eq_true rfl) (Nat.le_of_ble_eq_true rfl) dX11_shelf_74 ?_
    refine k_nf (cells2 := 0) (slots2 := 0) (st2 := []) rfl rfl rfl ?_
    refine k_iconst (pc := 77) C (v := (1 : Int32)) dX11_shelf_77 (by decide) ?_
    have h := Option.some.inj h
    subst h
    exact k_iret (pc := 78) C hr hk dX11_shelf_78
def f_X11_shelf_33 (S : Sh) (R : Rw)  (I : Iw) (a0 : Nat) (x1 : Int32) (x2 : Int32) (x3 : Int32) : Option (Iw × Int32) := (if x2 = (1 : Int32) then bd (f_X11_isSheet S R I x3) (fun r19 => (if r19 = 0 then some (I, (-1 : Int32)) else f_X11_shelf_47 S R  I a0 x1 x2 x3)) else f_X11_shelf_47 S R  I a0 x1 x2 x3)
set_option maxHeartbeats 4000000 in
theorem b_X11_shelf_33 {E : Ev} {p : Program} {l : Launch} {e : Env} {s : State} {m : MethodId} {args : Array Value} {below : List Frame} {meth : Method} {c : Code} (C : Cx E RX11 cX11_shelf 4 p s m c) (hr : meth.sig.returnType = (some .int)) (hk : meth.locks = false) {S : Sh} {R : Rw} {r : Iw × Int32}  : ∀ (I : Iw) (a0 : Nat) (x1 : Int32) (x2 : Int32) (x3 : Int32), f_X11_shelf_33 S R   I a0 x1 x2 x3 = some r → Wk E 4 p l e ({ frames := 2, cells := 0, slots := 0, locals := 42 } : Room) s m args below meth c 0 0 (MQ below (Qw E S R r.1 (some (.int r.2))) args s 0 0 (fun q => E.1 ≤ q)) 33 [(0, .ref (E.1 + a0)), (1, .int x1), (2, .int x2), (3, .int x3)] [] S R I := by
  intro I a0 x1 x2 x3 h
  rw [f_X11_shelf_33] at h
  refine k_iloadn (pc := 33) C dX11_shelf_33 (i := 2) rfl 2 rfl ?_
  refine k_iconst (pc := 34) C (v := (1 : Int32)) dX11_shelf_34 (by decide) ?_
  refine k_icmp_ne (pc := 35) C dX11_shelf_35 (tgt := 47) (by decide) (fun hc6 => ?_) (fun hc6 => ?_)
  · rw [if_neg hc6] at h
    exact b_X11_shelf_47 C hr hk  _ _ _ _ _ h
  · rw [if_pos hc6] at h
    refine k_iloadn (pc := 38) C dX11_shelf_38 (i := 3) rfl 3 rfl ?_
    obtain ⟨r19, hr19, h⟩ := bd_e h
    refine k_S (pc := 39) (st := []) C (c_X11_isSheet hr19) lkS_RX11_215 rfl rfl (Nat.le_of_ble_eq_true rfl) (Nat.le_of_ble_eq_true rfl) (Nat.le_of_ble_eq_true rfl) (Nat.le_of_ble_eq_true rfl) (Nat.le_of_ble_eq_true rfl) dX11_shelf_39 ?_
    refine k_nf (cells2 := 0) (slots2 := 0) (st2 := [.int r19]) rfl rfl rfl ?_
    refine k_if_ne (pc := 42) C dX11_shelf_42 (tgt := 47) (by decide) (fun hc20 => ?_) (fun hc20 => ?_)
    · rw [if_neg hc20] at h
      exact b_X11_shelf_47 C hr hk  _ _ _ _ _ h
    · rw [if_pos hc20] at h
      refine k_iconst (pc := 45) C (v := (-1 : Int32)) dX11_shelf_45 (by decide) ?_
      have h := Option.some.inj h
      subst h
      exact k_iret (pc := 46) C hr hk dX11_shelf_46
def f_X11_shelf (S : Sh) (R : Rw)  (I : Iw) (a0 : Nat) (x1 : Int32) (x2 : Int32) (x3 : Int32) : Option (Iw × Int32) := bd (f_X11_isBetween S R I x1 (0 : Int32) (3 : Int32)) (fun r1 => (if r1 = 0 then some (I, (-1 : Int32)) else bd (f_X11_isBetween S R I x2 (0 : Int32) (2 : Int32)) (fun r3 => (if r3 = 0 then some (I, (-1 : Int32)) else (if x2 = 0 then gp (sok S a0 11 12) (rl (R a0 0) (fun b22 => gp (sok S b22 7 16) (bd (f_X7_has S R I b22 x3) (fun r24 => (if r24 = 0 then some (I, (-1 : Int32)) else f_X11_shelf_33 S R  I a0 x1 x2 x3))))) else f_X11_shelf_33 S R  I a0 x1 x2 x3)))))
set_option maxHeartbeats 4000000 in
theorem b_X11_shelf {E : Ev} {p : Program} {l : Launch} {e : Env} {s : State} {m : MethodId} {args : Array Value} {below : List Frame} {meth : Method} {c : Code} (C : Cx E RX11 cX11_shelf 4 p s m c) (hr : meth.sig.returnType = (some .int)) (hk : meth.locks = false) {S : Sh} {R : Rw} {r : Iw × Int32}  : ∀ (I : Iw) (a0 : Nat) (x1 : Int32) (x2 : Int32) (x3 : Int32), f_X11_shelf S R   I a0 x1 x2 x3 = some r → Wk E 4 p l e ({ frames := 2, cells := 0, slots := 0, locals := 42 } : Room) s m args below meth c 0 0 (MQ below (Qw E S R r.1 (some (.int r.2))) args s 0 0 (fun q => E.1 ≤ q)) 0 [(0, .ref (E.1 + a0)), (1, .int x1), (2, .int x2), (3, .int x3)] [] S R I := by
  intro I a0 x1 x2 x3 h
  rw [f_X11_shelf] at h
  refine k_iloadn (pc := 0) C dX11_shelf_0 (i := 1) rfl 1 rfl ?_
  refine k_iconst (pc := 1) C (v := (0 : Int32)) dX11_shelf_1 (by decide) ?_
  refine k_iconst (pc := 2) C (v := (3 : Int32)) dX11_shelf_2 (by decide) ?_
  obtain ⟨r1, hr1, h⟩ := bd_e h
  refine k_S (pc := 3) (st := []) C (c_X11_isBetween hr1) lkS_RX11_55 rfl rfl (Nat.le_of_ble_eq_true rfl) (Nat.le_of_ble_eq_true rfl) (Nat.le_of_ble_eq_true rfl) (Nat.le_of_ble_eq_true rfl) (Nat.le_of_ble_eq_true rfl) dX11_shelf_3 ?_
  refine k_nf (cells2 := 0) (slots2 := 0) (st2 := [.int r1]) rfl rfl rfl ?_
  refine k_if_eq (pc := 6) C dX11_shelf_6 (tgt := 45) (by decide) (fun hc2 => ?_) (fun hc2 => ?_)
  · rw [if_pos hc2] at h
    refine k_iconst (pc := 45) C (v := (-1 : Int32)) dX11_shelf_45 (by decide) ?_
    have h := Option.some.inj h
    subst h
    exact k_iret (pc := 46) C hr hk dX11_shelf_46
  · rw [if_neg hc2] at h
    refine k_iloadn (pc := 9) C dX11_shelf_9 (i := 2) rfl 2 rfl ?_
    refine k_iconst (pc := 10) C (v := (0 : Int32)) dX11_shelf_10 (by decide) ?_
    refine k_iconst (pc := 11) C (v := (2 : Int32)) dX11_shelf_11 (by decide) ?_
    obtain ⟨r3, hr3, h⟩ := bd_e h
    refine k_S (pc := 12) (st := []) C (c_X11_isBetween hr3) lkS_RX11_55 rfl rfl (Nat.le_of_ble_eq_true rfl) (Nat.le_of_ble_eq_true rfl) (Nat.le_of_ble_eq_true rfl) (Nat.le_of_ble_eq_true rfl) (Nat.le_of_ble_eq_true rfl) dX11_shelf_12 ?_
    refine k_nf (cells2 := 0) (slots2 := 0) (st2 := [.int r3]) rfl rfl rfl ?_
    refine k_if_eq (pc := 15) C dX11_shelf_15 (tgt := 45) (by decide) (fun hc4 => ?_) (fun hc4 => ?_)
    · rw [if_pos hc4] at h
      refine k_iconst (pc := 45) C (v := (-1 : Int32)) dX11_shelf_45 (by decide) ?_
      have h := Option.some.inj h
      subst h
      exact k_iret (pc := 46) C hr hk dX11_shelf_46
    · rw [if_neg hc4] at h
      refine k_iloadn (pc := 18) C dX11_shelf_18 (i := 2) rfl 2 rfl ?_
      refine k_if_ne (pc := 19) C dX11_shelf_19 (tgt := 33) (by decide) (fun hc5 => ?_) (fun hc5 => ?_)
      · rw [if_neg hc5] at h
        exact b_X11_shelf_33 C hr hk  _ _ _ _ _ h
      · rw [if_pos hc5] at h
        refine k_aloadn (pc := 22) C dX11_shelf_22 (i := 0) rfl 0 rfl ?_
        obtain ⟨hs210, h⟩ := gp_e h
        have hs21 := sok_e hs210
        obtain ⟨b22, hb22, h⟩ := rl_e h
        refine k_getR (pc := 23) C lkF_RX11_12_11 hs21 ir_11_0 hb22 dX11_shelf_23 ?_
        refine k_iloadn (pc := 26) C dX11_shelf_26 (i := 3) rfl 3 rfl ?_
        obtain ⟨hs230, h⟩ := gp_e h
        have hs23 := sok_e hs230
        obtain ⟨r24, hr24, h⟩ := bd_e h
        refine k_V (pc := 27) (st := []) C (c_X7_has hr24) lkV_RX11_63 hs23 rfl rfl rfl (Nat.le_of_ble_eq_true rfl) (Nat.le_of_ble_eq_true rfl) (Nat.le_of_ble_eq_true rfl) (Nat.le_of_ble_eq_true rfl) (Nat.le_of_ble_eq_true rfl) dX11_shelf_27 ?_
        refine k_nf (cells2 := 0) (slots2 := 0) (st2 := [.int r24]) rfl rfl rfl ?_
        refine k_if_eq (pc := 30) C dX11_shelf_30 (tgt := 45) (by decide) (fun hc25 => ?_) (fun hc25 => ?_)
        · rw [if_pos hc25] at h
          refine k_iconst (pc := 45) C (v := (-1 : Int32)) dX11_shelf_45 (by decide) ?_
          have h := Option.some.inj h
          subst h
          exact k_iret (pc := 46) C hr hk dX11_shelf_46
        · rw [if_neg hc25] at h
          exact b_X11_shelf_33 C hr hk  _ _ _ _ _ h
theorem c_X11_shelf {E : Ev} {l : Launch} {S : Sh} {R : Rw} {I : Iw} {a0 : Nat} {x1 : Int32} {x2 : Int32} {x3 : Int32} {r : Iw × Int32} (h : f_X11_shelf S R I a0 x1 x2 x3 = some r) : Mt E l yX11_shelf cX11_shelf 4 (some .int) 2 42 [.ref (E.1 + a0), .int x1, .int x2, .int x3] S R I S R r.1 (some (.int r.2)) 0 0 := mt_of (by decide) (Nat.le_of_ble_eq_true rfl) (fun p e s m args below meth c C hr hk hn => b_X11_shelf C hr hk _ _ _ _ _ h)
theorem lkS_RX11_241 : LkS RX11 241 yX11_isOrIsUnder cX11_isOrIsUnder 4 (some .boolean) 2 := ⟨(t4_in 79 (by decide +kernel) rfl), (t2_in 78 (by decide +kernel) rfl), (t2_in 79 (by decide +kernel) rfl), (t1_in 1 (by decide +kernel) rfl), by decide, by decide +kernel⟩
theorem dX11_taken_0 : decode cX11_taken 0 = .ok (.iload_n 1, 1) := by decide +kernel
theorem dX11_taken_1 : decode cX11_taken 1 = .ok (.iconst 0, 1) := by decide +kernel
theorem dX11_taken_2 : decode cX11_taken 2 = .ok (.iconst 3, 1) := by decide +kernel
theorem dX11_taken_3 : decode cX11_taken 3 = .ok (.invokestatic 55, 3) := by decide +kernel
theorem dX11_taken_6 : decode cX11_taken 6 = .ok (.ifCond .eq 24, 3) := by decide +kernel
theorem dX11_taken_9 : decode cX11_taken 9 = .ok (.iload_n 2, 1) := by decide +kernel
theorem dX11_taken_10 : decode cX11_taken 10 = .ok (.iconst 0, 1) := by decide +kernel
theorem dX11_taken_11 : decode cX11_taken 11 = .ok (.iconst 5, 1) := by decide +kernel
theorem dX11_taken_12 : decode cX11_taken 12 = .ok (.invokestatic 55, 3) := by decide +kernel
theorem dX11_taken_15 : decode cX11_taken 15 = .ok (.ifCond .ne 17, 3) := by decide +kernel
theorem dX11_taken_18 : decode cX11_taken 18 = .ok (.iload_n 2, 1) := by decide +kernel
theorem dX11_taken_19 : decode cX11_taken 19 = .ok (.bipush 10, 2) := by decide +kernel
theorem dX11_taken_21 : decode cX11_taken 21 = .ok (.isub, 1) := by decide +kernel
theorem dX11_taken_22 : decode cX11_taken 22 = .ok (.iconst 0, 1) := by decide +kernel
theorem dX11_taken_23 : decode cX11_taken 23 = .ok (.iconst 4, 1) := by decide +kernel
theorem dX11_taken_24 : decode cX11_taken 24 = .ok (.invokestatic 55, 3) := by decide +kernel
theorem dX11_taken_27 : decode cX11_taken 27 = .ok (.ifCond .ne 5, 3) := by decide +kernel
theorem dX11_taken_30 : decode cX11_taken 30 = .ok (.iconst (-1), 1) := by decide +kernel
theorem dX11_taken_31 : decode cX11_taken 31 = .ok (.ireturn, 1) := by decide +kernel
theorem dX11_taken_32 : decode cX11_taken 32 = .ok (.aload_n 0, 1) := by decide +kernel
theorem dX11_taken_33 : decode cX11_taken 33 = .ok (.getfield 48, 3) := by decide +kernel
theorem dX11_taken_36 : decode cX11_taken 36 = .ok (.iload_n 1, 1) := by decide +kernel
theorem dX11_taken_37 : decode cX11_taken 37 = .ok (.iaload, 1) := by decide +kernel
theorem dX11_taken_38 : decode cX11_taken 38 = .ok (.istore_n 3, 1) := by decide +kernel
theorem dX11_taken_39 : decode cX11_taken 39 = .ok (.aload_n 0, 1) := by decide +kernel
theorem dX11_taken_40 : decode cX11_taken 40 = .ok (.getfield 45, 3) := by decide +kernel
theorem dX11_taken_43 : decode cX11_taken 43 = .ok (.iload_n 1, 1) := by decide +kernel
theorem dX11_taken_44 : decode cX11_taken 44 = .ok (.iaload, 1) := by decide +kernel
theorem dX11_taken_45 : decode cX11_taken 45 = .ok (.iconst 1, 1) := by decide +kernel
theorem dX11_taken_46 : decode cX11_taken 46 = .ok (.if_icmp .ne 23, 3) := by decide +kernel
theorem dX11_taken_49 : decode cX11_taken 49 = .ok (.iload_n 3, 1) := by decide +kernel
theorem dX11_taken_50 : decode cX11_taken 50 = .ok (.iload_n 2, 1) := by decide +kernel
theorem dX11_taken_51 : decode cX11_taken 51 = .ok (.bipush 10, 2) := by decide +kernel
theorem dX11_taken_53 : decode cX11_taken 53 = .ok (.isub, 1) := by decide +kernel
theorem dX11_taken_54 : decode cX11_taken 54 = .ok (.if_icmp .ne 12, 3) := by decide +kernel
theorem dX11_taken_57 : decode cX11_taken 57 = .ok (.aload_n 0, 1) := by decide +kernel
theorem dX11_taken_58 : decode cX11_taken 58 = .ok (.getfield 51, 3) := by decide +kernel
theorem dX11_taken_61 : decode cX11_taken 61 = .ok (.iload_n 1, 1) := by decide +kernel
theorem dX11_taken_62 : decode cX11_taken 62 = .ok (.iaload, 1) := by decide +kernel
theorem dX11_taken_63 : decode cX11_taken 63 = .ok (.goto 5, 3) := by decide +kernel
theorem dX11_taken_66 : decode cX11_taken 66 = .ok (.bipush (-13), 2) := by decide +kernel
theorem dX11_taken_68 : decode cX11_taken 68 = .ok (.ireturn, 1) := by decide +kernel
theorem dX11_taken_69 : decode cX11_taken 69 = .ok (.aload_n 0, 1) := by decide +kernel
theorem dX11_taken_70 : decode cX11_taken 70 = .ok (.getfield 45, 3) := by decide +kernel
theorem dX11_taken_73 : decode cX11_taken 73 = .ok (.iload_n 1, 1) := by decide +kernel
theorem dX11_taken_74 : decode cX11_taken 74 = .ok (.iaload, 1) := by decide +kernel
theorem dX11_taken_75 : decode cX11_taken 75 = .ok (.iconst 2, 1) := by decide +kernel
theorem dX11_taken_76 : decode cX11_taken 76 = .ok (.if_icmp .eq 14, 3) := by decide +kernel
theorem dX11_taken_79 : decode cX11_taken 79 = .ok (.aload_n 0, 1) := by decide +kernel
theorem dX11_taken_80 : decode cX11_taken 80 = .ok (.getfield 12, 3) := by decide +kernel
theorem dX11_taken_83 : decode cX11_taken 83 = .ok (.iload_n 3, 1) := by decide +kernel
theorem dX11_taken_84 : decode cX11_taken 84 = .ok (.invokevirtual 63, 3) := by decide +kernel
theorem dX11_taken_87 : decode cX11_taken 87 = .ok (.ifCond .ne 6, 3) := by decide +kernel
theorem dX11_taken_90 : decode cX11_taken 90 = .ok (.bipush (-11), 2) := by decide +kernel
theorem dX11_taken_92 : decode cX11_taken 92 = .ok (.ireturn, 1) := by decide +kernel
theorem dX11_taken_93 : decode cX11_taken 93 = .ok (.aload_n 0, 1) := by decide +kernel
theorem dX11_taken_94 : decode cX11_taken 94 = .ok (.getfield 12, 3) := by decide +kernel
theorem dX11_taken_97 : decode cX11_taken 97 = .ok (.getfield 67, 3) := by decide +kernel
theorem dX11_taken_100 : decode cX11_taken 100 = .ok (.iload_n 3, 1) := by decide +kernel
theorem dX11_taken_101 : decode cX11_taken 101 = .ok (.iaload, 1) := by decide +kernel
theorem dX11_taken_102 : decode cX11_taken 102 = .ok (.iload_n 2, 1) := by decide +kernel
theorem dX11_taken_103 : decode cX11_taken 103 = .ok (.invokestatic 241, 3) := by decide +kernel
theorem dX11_taken_106 : decode cX11_taken 106 = .ok (.ifCond .eq 7, 3) := by decide +kernel
theorem dX11_taken_109 : decode cX11_taken 109 = .ok (.iload_n 3, 1) := by decide +kernel
theorem dX11_taken_110 : decode cX11_taken 110 = .ok (.goto 5, 3) := by decide +kernel
theorem dX11_taken_113 : decode cX11_taken 113 = .ok (.bipush (-13), 2) := by decide +kernel
theorem dX11_taken_115 : decode cX11_taken 115 = .ok (.ireturn, 1) := by decide +kernel
def f_X11_taken_32 (S : Sh) (R : Rw) (I : Iw)  (a0 : Nat) (x1 : Int32) (x2 : Int32) : Option (Int32) := gp (sok S a0 11 12) (rl (R a0 9) (fun b6 => gp (aok S 20 b6 x1) (rl (R a0 8) (fun b8 => gp (aok S 20 b8 x1) ((if (I b8 x1.toNatClampNeg) = (1 : Int32) then (if (I b6 x1.toNatClampNeg) = (x2 - (10 : Int32)) then rl (R a0 10) (fun b25 => gp (aok S 20 b25 x1) (some (I b25 x1.toNatClampNeg))) else some (-13 : Int32)) else rl (R a0 8) (fun b11 => gp (aok S 20 b11 x1) ((if (I b11 x1.toNatClampNeg) = (2 : Int32) then some (-11 : Int32) else rl (R a0 0) (fun b14 => gp (sok S b14 7 16) (bd (f_X7_has S R I b14 (I b6 x1.toNatClampNeg)) (fun r16 => (if r16 = 0 then some (-11 : Int32) else rl (R a0 0) (fun b18 => gp (sok S b18 7 16) (rl (R b18 0) (fun b20 => gp (aok S 20 b20 (I b6 x1.toNatClampNeg)) (bd (f_X11_isOrIsUnder S R I (I b20 (I b6 x1.toNatClampNeg).toNatClampNeg) x2) (fun r22 => (if r22 = 0 then some (-13 : Int32) else some (I b6 x1.toNatClampNeg))))))))))))))))))))
set_option maxHeartbeats 4000000 in
theorem b_X11_taken_32 {E : Ev} {p : Program} {l : Launch} {e : Env} {s : State} {m : MethodId} {args : Array Value} {below : List Frame} {meth : Method} {c : Code} (C : Cx E RX11 cX11_taken 4 p s m c) (hr : meth.sig.returnType = (some .int)) (hk : meth.locks = false) {S : Sh} {R : Rw} {I : Iw} {r : Int32}  : ∀ (a0 : Nat) (x1 : Int32) (x2 : Int32), f_X11_taken_32 S R I   a0 x1 x2 = some r → Wk E 4 p l e ({ frames := 2, cells := 0, slots := 0, locals := 45 } : Room) s m args below meth c 0 0 (MQ below (Qw E S R I (some (.int r))) args s 0 0 (fun q => E.1 ≤ q)) 32 [(0, .ref (E.1 + a0)), (1, .int x1), (2, .int x2)] [] S R I := by
  intro a0 x1 x2 h
  rw [f_X11_taken_32] at h
  refine k_aloadn (pc := 32) C dX11_taken_32 (i := 0) rfl 0 rfl ?_
  obtain ⟨hs50, h⟩ := gp_e h
  have hs5 := sok_e hs50
  obtain ⟨b6, hb6, h⟩ := rl_e h
  refine k_getR (pc := 33) C lkF_RX11_48_11 hs5 ir_11_9 hb6 dX11_taken_33 ?_
  refine k_iloadn (pc := 36) C dX11_taken_36 (i := 1) rfl 1 rfl ?_
  obtain ⟨ha7, h⟩ := gp_e h
  refine k_iald (pc := 37) C ha7 dX11_taken_37 ?_
  refine k_istoren (pc := 38) C dX11_taken_38 (i := 3) rfl (by decide) (L2 := [(0, .ref (E.1 + a0)), (1, .int x1), (2, .int x2), (3, .int (I b6 x1.toNatClampNeg))]) rfl ?_
  refine k_aloadn (pc := 39) C dX11_taken_39 (i := 0) rfl 0 rfl ?_
  obtain ⟨b8, hb8, h⟩ := rl_e h
  refine k_getR (pc := 40) C lkF_RX11_45_11 hs5 ir_11_8 hb8 dX11_taken_40 ?_
  refine k_iloadn (pc := 43) C dX11_taken_43 (i := 1) rfl 1 rfl ?_
  obtain ⟨ha9, h⟩ := gp_e h
  refine k_iald (pc := 44) C ha9 dX11_taken_44 ?_
  refine k_iconst (pc := 45) C (v := (1 : Int32)) dX11_taken_45 (by decide) ?_
  refine k_icmp_ne (pc := 46) C dX11_taken_46 (tgt := 69) (by decide) (fun hc10 => ?_) (fun hc10 => ?_)
  · rw [if_neg hc10] at h
    refine k_aloadn (pc := 69) C dX11_taken_69 (i := 0) rfl 0 rfl ?_
    obtain ⟨b11, hb11, h⟩ := rl_e h
    refine k_getR (pc := 70) C lkF_RX11_45_11 hs5 ir_11_8 hb11 dX11_taken_70 ?_
    refine k_iloadn (pc := 73) C dX11_taken_73 (i := 1) rfl 1 rfl ?_
    obtain ⟨ha12, h⟩ := gp_e h
    refine k_iald (pc := 74) C ha12 dX11_taken_74 ?_
    refine k_iconst (pc := 75) C (v := (2 : Int32)) dX11_taken_75 (by decide) ?_
    refine k_icmp_eq (pc := 76) C dX11_taken_76 (tgt := 90) (by decide) (fun hc13 => ?_) (fun hc13 => ?_)
    · rw [if_pos hc13] at h
      refine k_bipush (pc := 90) C (v := (-11 : Int32)) dX11_taken_90 (by decide) ?_
      have h := Option.some.inj h
      subst h
      exact k_iret (pc := 92) C hr hk dX11_taken_92
    · rw [if_neg hc13] at h
      refine k_aloadn (pc := 79) C dX11_taken_79 (i := 0) rfl 0 rfl ?_
      obtain ⟨b14, hb14, h⟩ := rl_e h
      refine k_getR (pc := 80) C lkF_RX11_12_11 hs5 ir_11_0 hb14 dX11_taken_80 ?_
      refine k_iloadn (pc := 83) C dX11_taken_83 (i := 3) rfl 3 rfl ?_
      obtain ⟨hs150, h⟩ := gp_e h
      have hs15 := sok_e hs150
      obtain ⟨r16, hr16, h⟩ := bd_e h
      refine k_V (pc := 84) (st := []) C (c_X7_has hr16) lkV_RX11_63 hs15 rfl rfl rfl (Nat.le_of_ble_eq_true rfl) (Nat.le_of_ble_eq_true rfl) (Nat.le_of_ble_eq_true rfl) (Nat.le_of_ble_eq_true rfl) (Nat.le_of_ble_eq_true rfl) dX11_taken_84 ?_
      refine k_nf (cells2 := 0) (slots2 := 0) (st2 := [.int r16]) rfl rfl rfl ?_
      refine k_if_ne (pc := 87) C dX11_taken_87 (tgt := 93) (by decide) (fun hc17 => ?_) (fun hc17 => ?_)
      · rw [if_neg hc17] at h
        refine k_aloadn (pc := 93) C dX11_taken_93 (i := 0) rfl 0 rfl ?_
        obtain ⟨b18, hb18, h⟩ := rl_e h
        refine k_getR (pc := 94) C lkF_RX11_12_11 hs5 ir_11_0 hb18 dX11_taken_94 ?_
        obtain ⟨hs190, h⟩ := gp_e h
        have hs19 := sok_e hs190
        obtain ⟨b20, hb20, h⟩ := rl_e h
        refine k_getR (pc := 97) C lkF_RX11_67_7 hs19 ir_7_0 hb20 dX11_taken_97 ?_
        refine k_iloadn (pc := 100) C dX11_taken_100 (i := 3) rfl 3 rfl ?_
        obtain ⟨ha21, h⟩ := gp_e h
        refine k_iald (pc := 101) C ha21 dX11_taken_101 ?_
        refine k_iloadn (pc := 102) C dX11_taken_102 (i := 2) rfl 2 rfl ?_
        obtain ⟨r22, hr22, h⟩ := bd_e h
        refine k_S (pc := 103) (st := []) C (c_X11_isOrIsUnder hr22) lkS_RX11_241 rfl rfl (Nat.le_of_ble_eq_true rfl) (Nat.le_of_ble_eq_true rfl) (Nat.le_of_ble_eq_true rfl) (Nat.le_of_ble_eq_true rfl) (Nat.le_of_ble_eq_true rfl) dX11_taken_103 ?_
        refine k_nf (cells2 := 0) (slots2 := 0) (st2 := [.int r22]) rfl rfl rfl ?_
        refine k_if_eq (pc := 106) C dX11_taken_106 (tgt := 113) (by decide) (fun hc23 => ?_) (fun hc23 => ?_)
        · rw [if_pos hc23] at h
          refine k_bipush (pc := 113) C (v := (-13 : Int32)) dX11_taken_113 (by decide) ?_
          have h := Option.some.inj h
          subst h
          exact k_iret (pc := 115) C hr hk dX11_taken_115
        · rw [if_neg hc23] at h
          refine k_iloadn (pc := 109) C dX11_taken_109 (i := 3) rfl 3 rfl ?_
          refine k_goto (pc := 110) C dX11_taken_110 (tgt := 115) (by decide) ?_
          have h := Option.some.inj h
          subst h
          exact k_iret (pc := 115) C hr hk dX11_taken_115
      · rw [if_pos hc17] at h
        refine k_bipush (pc := 90) C (v := (-11 : Int32)) dX11_taken_90 (by decide) ?_
        have h := Option.some.inj h
        subst h
        exact k_iret (pc := 92) C hr hk dX11_taken_92
  · rw [if_pos hc10] at h
    refine k_iloadn (pc := 49) C dX11_taken_49 (i := 3) rfl 3 rfl ?_
    refine k_iloadn (pc := 50) C dX11_taken_50 (i := 2) rfl 2 rfl ?_
    refine k_bipush (pc := 51) C (v := (10 : Int32)) dX11_taken_51 (by decide) ?_
    refine k_isub (pc := 53) C dX11_taken_53 ?_
    refine k_icmp_ne (pc := 54) C dX11_taken_54 (tgt := 66) (by decide) (fun hc24 => ?_) (fun hc24 => ?_)
    · rw [if_neg hc24] at h
      refine k_bipush (pc := 66) C (v := (-13 : Int32)) dX11_taken_66 (by decide) ?_
      have h := Option.some.inj h
      subst h
      exact k_iret (pc := 68) C hr hk dX11_taken_68
    · rw [if_pos hc24] at h
      refine k_aloadn (pc := 57) C dX11_taken_57 (i := 0) rfl 0 rfl ?_
      obtain ⟨b25, hb25, h⟩ := rl_e h
      refine k_getR (pc := 58) C lkF_RX11_51_11 hs5 ir_11_10 hb25 dX11_taken_58 ?_
      refine k_iloadn (pc := 61) C dX11_taken_61 (i := 1) rfl 1 rfl ?_
      obtain ⟨ha26, h⟩ := gp_e h
      refine k_iald (pc := 62) C ha26 dX11_taken_62 ?_
      refine k_goto (pc := 63) C dX11_taken_63 (tgt := 68) (by decide) ?_
      have h := Option.some.inj h
      subst h
      exact k_iret (pc := 68) C hr hk dX11_taken_68
def f_X11_taken (S : Sh) (R : Rw) (I : Iw)  (a0 : Nat) (x1 : Int32) (x2 : Int32) : Option (Int32) := bd (f_X11_isBetween S R I x1 (0 : Int32) (3 : Int32)) (fun r1 => (if r1 = 0 then some (-1 : Int32) else bd (f_X11_isBetween S R I x2 (0 : Int32) (5 : Int32)) (fun r3 => (if r3 = 0 then bd (f_X11_isBetween S R I (x2 - (10 : Int32)) (0 : Int32) (4 : Int32)) (fun r27 => (if r27 = 0 then some (-1 : Int32) else f_X11_taken_32 S R I  a0 x1 x2)) else f_X11_taken_32 S R I  a0 x1 x2))))
set_option maxHeartbeats 4000000 in
theorem b_X11_taken {E : Ev} {p : Program} {l : Launch} {e : Env} {s : State} {m : MethodId} {args : Array Value} {below : List Frame} {meth : Method} {c : Code} (C : Cx E RX11 cX11_taken 4 p s m c) (hr : meth.sig.returnType = (some .int)) (hk : meth.locks = false) {S : Sh} {R : Rw} {I : Iw} {r : Int32}  : ∀ (a0 : Nat) (x1 : Int32) (x2 : Int32), f_X11_taken S R I   a0 x1 x2 = some r → Wk E 4 p l e ({ frames := 2, cells := 0, slots := 0, locals := 45 } : Room) s m args below meth c 0 0 (MQ below (Qw E S R I (some (.int r))) args s 0 0 (fun q => E.1 ≤ q)) 0 [(0, .ref (E.1 + a0)), (1, .int x1), (2, .int x2)] [] S R I := by
  intro a0 x1 x2 h
  rw [f_X11_taken] at h
  refine k_iloadn (pc := 0) C dX11_taken_0 (i := 1) rfl 1 rfl ?_
  refine k_iconst (pc := 1) C (v := (0 : Int32)) dX11_taken_1 (by decide) ?_
  refine k_iconst (pc := 2) C (v := (3 : Int32)) dX11_taken_2 (by decide) ?_
  obtain ⟨r1, hr1, h⟩ := bd_e h
  refine k_S (pc := 3) (st := []) C (c_X11_isBetween hr1) lkS_RX11_55 rfl rfl (Nat.le_of_ble_eq_true rfl) (Nat.le_of_ble_eq_true rfl) (Nat.le_of_ble_eq_true rfl) (Nat.le_of_ble_eq_true rfl) (Nat.le_of_ble_eq_true rfl) dX11_taken_3 ?_
  refine k_nf (cells2 := 0) (slots2 := 0) (st2 := [.int r1]) rfl rfl rfl ?_
  refine k_if_eq (pc := 6) C dX11_taken_6 (tgt := 30) (by decide) (fun hc2 => ?_) (fun hc2 => ?_)
  · rw [if_pos hc2] at h
    refine k_iconst (pc := 30) C (v := (-1 : Int32)) dX11_taken_30 (by decide) ?_
    have h := Option.some.inj h
    subst h
    exact k_iret (pc := 31) C hr hk dX11_taken_31
  · rw [if_neg hc2] at h
    refine k_iloadn (pc := 9) C dX11_taken_9 (i := 2) rfl 2 rfl ?_
    refine k_iconst (pc := 10) C (v := (0 : Int32)) dX11_taken_10 (by decide) ?_
    refine k_iconst (pc := 11) C (v := (5 : Int32)) dX11_taken_11 (by decide) ?_
    obtain ⟨r3, hr3, h⟩ := bd_e h
    refine k_S (pc := 12) (st := []) C (c_X11_isBetween hr3) lkS_RX11_55 rfl rfl (Nat.le_of_ble_eq_true rfl) (Nat.le_of_ble_eq_true rfl) (Nat.le_of_ble_eq_true rfl) (Nat.le_of_ble_eq_true rfl) (Nat.le_of_ble_eq_true rfl) dX11_taken_12 ?_
    refine k_nf (cells2 := 0) (slots2 := 0) (st2 := [.int r3]) rfl rfl rfl ?_
    refine k_if_ne (pc := 15) C dX11_taken_15 (tgt := 32) (by decide) (fun hc4 => ?_) (fun hc4 => ?_)
    · rw [if_neg hc4] at h
      exact b_X11_taken_32 C hr hk  _ _ _ h
    · rw [if_pos hc4] at h
      refine k_iloadn (pc := 18) C dX11_taken_18 (i := 2) rfl 2 rfl ?_
      refine k_bipush (pc := 19) C (v := (10 : Int32)) dX11_taken_19 (by decide) ?_
      refine k_isub (pc := 21) C dX11_taken_21 ?_
      refine k_iconst (pc := 22) C (v := (0 : Int32)) dX11_taken_22 (by decide) ?_
      refine k_iconst (pc := 23) C (v := (4 : Int32)) dX11_taken_23 (by decide) ?_
      obtain ⟨r27, hr27, h⟩ := bd_e h
      refine k_S (pc := 24) (st := []) C (c_X11_isBetween hr27) lkS_RX11_55 rfl rfl (Nat.le_of_ble_eq_true rfl) (Nat.le_of_ble_eq_true rfl) (Nat.le_of_ble_eq_true rfl) (Nat.le_of_ble_eq_true rfl) (Nat.le_of_ble_eq_true rfl) dX11_taken_24 ?_
      refine k_nf (cells2 := 0) (slots2 := 0) (st2 := [.int r27]) rfl rfl rfl ?_
      refine k_if_ne (pc := 27) C dX11_taken_27 (tgt := 32) (by decide) (fun hc28 => ?_) (fun hc28 => ?_)
      · rw [if_neg hc28] at h
        exact b_X11_taken_32 C hr hk  _ _ _ h
      · rw [if_pos hc28] at h
        refine k_iconst (pc := 30) C (v := (-1 : Int32)) dX11_taken_30 (by decide) ?_
        have h := Option.some.inj h
        subst h
        exact k_iret (pc := 31) C hr hk dX11_taken_31
theorem c_X11_taken {E : Ev} {l : Launch} {S : Sh} {R : Rw} {I : Iw} {a0 : Nat} {x1 : Int32} {x2 : Int32} {r : Int32} (h : f_X11_taken S R I a0 x1 x2 = some r) : Mt E l yX11_taken cX11_taken 4 (some .int) 2 45 [.ref (E.1 + a0), .int x1, .int x2] S R I S R I (some (.int r)) 0 0 := mt_of (by decide) (Nat.le_of_ble_eq_true rfl) (fun p e s m args below meth c C hr hk hn => b_X11_taken C hr hk _ _ _ h)
theorem lkN_RX11_270 : LkN RX11 270 10 5 := ⟨RX10, TX10, fc10, ⟨tyX10, tyX10_ok, by decide +kernel⟩, (t4_in 88 (by decide +kernel) rfl), (t4_in 89 (by decide +kernel) rfl), (t1_in 16 (by decide +kernel) rfl)⟩
theorem lkI_RX11_272 : LkI RX11 272 yX10_init cX10_init 3 2 := ⟨(t4_in 90 (by decide +kernel) rfl), (t4_in 91 (by decide +kernel) rfl), (t4_in 92 (by decide +kernel) rfl), (t1_in 16 (by decide +kernel) rfl), rfl, by decide, by decide +kernel⟩
theorem lkN_RX11_274 : LkN RX11 274 1 5 := ⟨RX1, TX1, fc1, ⟨tyX1, tyX1_ok, by decide +kernel⟩, (t4_in 126 (by decide +kernel) rfl), (t4_in 127 (by decide +kernel) rfl), (t1_in 17 (by decide +kernel) rfl)⟩
theorem lkI_RX11_276 : LkI RX11 276 yX1_init cX1_init 3 2 := ⟨(t4_in 128 (by decide +kernel) rfl), (t4_in 129 (by decide +kernel) rfl), (t4_in 130 (by decide +kernel) rfl), (t1_in 17 (by decide +kernel) rfl), rfl, by decide, by decide +kernel⟩
theorem lkN_RX11_277 : LkN RX11 277 0 5 := ⟨RX0, TX0, fc0, ⟨tyX0, tyX0_ok, by decide +kernel⟩, (t4_in 138 (by decide +kernel) rfl), (t4_in 139 (by decide +kernel) rfl), (t1_in 18 (by decide +kernel) rfl)⟩
theorem lkI_RX11_279 : LkI RX11 279 yX0_init cX0_init 3 2 := ⟨(t4_in 140 (by decide +kernel) rfl), (t4_in 141 (by decide +kernel) rfl), (t4_in 142 (by decide +kernel) rfl), (t1_in 18 (by decide +kernel) rfl), rfl, by decide, by decide +kernel⟩
theorem lkN_RX11_280 : LkN RX11 280 6 5 := ⟨RX6, TX6, fc6, ⟨tyX6, tyX6_ok, by decide +kernel⟩, (t4_in 150 (by decide +kernel) rfl), (t4_in 151 (by decide +kernel) rfl), (t1_in 19 (by decide +kernel) rfl)⟩
theorem lkI_RX11_282 : LkI RX11 282 yX6_init cX6_init 3 2 := ⟨(t4_in 152 (by decide +kernel) rfl), (t4_in 153 (by decide +kernel) rfl), (t4_in 154 (by decide +kernel) rfl), (t1_in 19 (by decide +kernel) rfl), rfl, by decide, by decide +kernel⟩
theorem lkN_RX11_283 : LkN RX11 283 4 5 := ⟨RX4, TX4, fc4, ⟨tyX4, tyX4_ok, by decide +kernel⟩, (t4_in 162 (by decide +kernel) rfl), (t4_in 163 (by decide +kernel) rfl), (t1_in 20 (by decide +kernel) rfl)⟩
theorem lkI_RX11_285 : LkI RX11 285 yX4_init cX4_init 3 2 := ⟨(t4_in 164 (by decide +kernel) rfl), (t4_in 165 (by decide +kernel) rfl), (t4_in 166 (by decide +kernel) rfl), (t1_in 20 (by decide +kernel) rfl), rfl, by decide, by decide +kernel⟩
theorem lkN_RX11_253 : LkN RX11 253 9 5 := ⟨RX9, TX9, fc9, ⟨tyX9, tyX9_ok, by decide +kernel⟩, (t4_in 174 (by decide +kernel) rfl), (t4_in 175 (by decide +kernel) rfl), (t1_in 15 (by decide +kernel) rfl)⟩
theorem lkI_RX11_286 : LkI RX11 286 yX9_init cX9_init 3 2 := ⟨(t4_in 176 (by decide +kernel) rfl), (t4_in 94 (by decide +kernel) rfl), (t4_in 95 (by decide +kernel) rfl), (t1_in 15 (by decide +kernel) rfl), rfl, by decide, by decide +kernel⟩
theorem dX11_thingOn_0 : decode cX11_thingOn 0 = .ok (.iload_n 1, 1) := by decide +kernel
theorem dX11_thingOn_1 : decode cX11_thingOn 1 = .ok (.iconst 0, 1) := by decide +kernel
theorem dX11_thingOn_2 : decode cX11_thingOn 2 = .ok (.iconst 3, 1) := by decide +kernel
theorem dX11_thingOn_3 : decode cX11_thingOn 3 = .ok (.invokestatic 55, 3) := by decide +kernel
theorem dX11_thingOn_6 : decode cX11_thingOn 6 = .ok (.ifCond .eq 28, 3) := by decide +kernel
theorem dX11_thingOn_9 : decode cX11_thingOn 9 = .ok (.aload_n 0, 1) := by decide +kernel
theorem dX11_thingOn_10 : decode cX11_thingOn 10 = .ok (.getfield 45, 3) := by decide +kernel
theorem dX11_thingOn_13 : decode cX11_thingOn 13 = .ok (.iload_n 1, 1) := by decide +kernel
theorem dX11_thingOn_14 : decode cX11_thingOn 14 = .ok (.iaload, 1) := by decide +kernel
theorem dX11_thingOn_15 : decode cX11_thingOn 15 = .ok (.ifCond .ne 19, 3) := by decide +kernel
theorem dX11_thingOn_18 : decode cX11_thingOn 18 = .ok (.aload_n 0, 1) := by decide +kernel
theorem dX11_thingOn_19 : decode cX11_thingOn 19 = .ok (.getfield 12, 3) := by decide +kernel
theorem dX11_thingOn_22 : decode cX11_thingOn 22 = .ok (.aload_n 0, 1) := by decide +kernel
theorem dX11_thingOn_23 : decode cX11_thingOn 23 = .ok (.getfield 48, 3) := by decide +kernel
theorem dX11_thingOn_26 : decode cX11_thingOn 26 = .ok (.iload_n 1, 1) := by decide +kernel
theorem dX11_thingOn_27 : decode cX11_thingOn 27 = .ok (.iaload, 1) := by decide +kernel
theorem dX11_thingOn_28 : decode cX11_thingOn 28 = .ok (.invokevirtual 63, 3) := by decide +kernel
theorem dX11_thingOn_31 : decode cX11_thingOn 31 = .ok (.ifCond .ne 5, 3) := by decide +kernel
theorem dX11_thingOn_34 : decode cX11_thingOn 34 = .ok (.aconst_null, 1) := by decide +kernel
theorem dX11_thingOn_35 : decode cX11_thingOn 35 = .ok (.areturn, 1) := by decide +kernel
theorem dX11_thingOn_36 : decode cX11_thingOn 36 = .ok (.aload_n 0, 1) := by decide +kernel
theorem dX11_thingOn_37 : decode cX11_thingOn 37 = .ok (.getfield 48, 3) := by decide +kernel
theorem dX11_thingOn_40 : decode cX11_thingOn 40 = .ok (.iload_n 1, 1) := by decide +kernel
theorem dX11_thingOn_41 : decode cX11_thingOn 41 = .ok (.iaload, 1) := by decide +kernel
theorem dX11_thingOn_42 : decode cX11_thingOn 42 = .ok (.istore_n 2, 1) := by decide +kernel
theorem dX11_thingOn_43 : decode cX11_thingOn 43 = .ok (.aload_n 0, 1) := by decide +kernel
theorem dX11_thingOn_44 : decode cX11_thingOn 44 = .ok (.getfield 12, 3) := by decide +kernel
theorem dX11_thingOn_47 : decode cX11_thingOn 47 = .ok (.getfield 73, 3) := by decide +kernel
theorem dX11_thingOn_50 : decode cX11_thingOn 50 = .ok (.iload_n 2, 1) := by decide +kernel
theorem dX11_thingOn_51 : decode cX11_thingOn 51 = .ok (.iaload, 1) := by decide +kernel
theorem dX11_thingOn_52 : decode cX11_thingOn 52 = .ok (.istore_n 3, 1) := by decide +kernel
theorem dX11_thingOn_53 : decode cX11_thingOn 53 = .ok (.aload_n 0, 1) := by decide +kernel
theorem dX11_thingOn_54 : decode cX11_thingOn 54 = .ok (.getfield 12, 3) := by decide +kernel
theorem dX11_thingOn_57 : decode cX11_thingOn 57 = .ok (.getfield 67, 3) := by decide +kernel
theorem dX11_thingOn_60 : decode cX11_thingOn 60 = .ok (.iload_n 2, 1) := by decide +kernel
theorem dX11_thingOn_61 : decode cX11_thingOn 61 = .ok (.iaload, 1) := by decide +kernel
theorem dX11_thingOn_62 : decode cX11_thingOn 62 = .ok (.tableswitch 84 1 5 #[34, 44, 54, 64, 74], 34) := by decide +kernel
theorem dX11_thingOn_96 : decode cX11_thingOn 96 = .ok (.new 270, 3) := by decide +kernel
theorem dX11_thingOn_99 : decode cX11_thingOn 99 = .ok (.dup, 1) := by decide +kernel
theorem dX11_thingOn_100 : decode cX11_thingOn 100 = .ok (.iload_n 2, 1) := by decide +kernel
theorem dX11_thingOn_101 : decode cX11_thingOn 101 = .ok (.iload_n 3, 1) := by decide +kernel
theorem dX11_thingOn_102 : decode cX11_thingOn 102 = .ok (.invokespecial 272, 3) := by decide +kernel
theorem dX11_thingOn_105 : decode cX11_thingOn 105 = .ok (.areturn, 1) := by decide +kernel
theorem dX11_thingOn_106 : decode cX11_thingOn 106 = .ok (.new 274, 3) := by decide +kernel
theorem dX11_thingOn_109 : decode cX11_thingOn 109 = .ok (.dup, 1) := by decide +kernel
theorem dX11_thingOn_110 : decode cX11_thingOn 110 = .ok (.iload_n 2, 1) := by decide +kernel
theorem dX11_thingOn_111 : decode cX11_thingOn 111 = .ok (.iload_n 3, 1) := by decide +kernel
theorem dX11_thingOn_112 : decode cX11_thingOn 112 = .ok (.invokespecial 276, 3) := by decide +kernel
theorem dX11_thingOn_115 : decode cX11_thingOn 115 = .ok (.areturn, 1) := by decide +kernel
theorem dX11_thingOn_116 : decode cX11_thingOn 116 = .ok (.new 277, 3) := by decide +kernel
theorem dX11_thingOn_119 : decode cX11_thingOn 119 = .ok (.dup, 1) := by decide +kernel
theorem dX11_thingOn_120 : decode cX11_thingOn 120 = .ok (.iload_n 2, 1) := by decide +kernel
theorem dX11_thingOn_121 : decode cX11_thingOn 121 = .ok (.iload_n 3, 1) := by decide +kernel
theorem dX11_thingOn_122 : decode cX11_thingOn 122 = .ok (.invokespecial 279, 3) := by decide +kernel
theorem dX11_thingOn_125 : decode cX11_thingOn 125 = .ok (.areturn, 1) := by decide +kernel
theorem dX11_thingOn_126 : decode cX11_thingOn 126 = .ok (.new 280, 3) := by decide +kernel
theorem dX11_thingOn_129 : decode cX11_thingOn 129 = .ok (.dup, 1) := by decide +kernel
theorem dX11_thingOn_130 : decode cX11_thingOn 130 = .ok (.iload_n 2, 1) := by decide +kernel
theorem dX11_thingOn_131 : decode cX11_thingOn 131 = .ok (.iload_n 3, 1) := by decide +kernel
theorem dX11_thingOn_132 : decode cX11_thingOn 132 = .ok (.invokespecial 282, 3) := by decide +kernel
theorem dX11_thingOn_135 : decode cX11_thingOn 135 = .ok (.areturn, 1) := by decide +kernel
theorem dX11_thingOn_136 : decode cX11_thingOn 136 = .ok (.new 283, 3) := by decide +kernel
theorem dX11_thingOn_139 : decode cX11_thingOn 139 = .ok (.dup, 1) := by decide +kernel
theorem dX11_thingOn_140 : decode cX11_thingOn 140 = .ok (.iload_n 2, 1) := by decide +kernel
theorem dX11_thingOn_141 : decode cX11_thingOn 141 = .ok (.iload_n 3, 1) := by decide +kernel
theorem dX11_thingOn_142 : decode cX11_thingOn 142 = .ok (.invokespecial 285, 3) := by decide +kernel
theorem dX11_thingOn_145 : decode cX11_thingOn 145 = .ok (.areturn, 1) := by decide +kernel
theorem dX11_thingOn_146 : decode cX11_thingOn 146 = .ok (.new 253, 3) := by decide +kernel
theorem dX11_thingOn_149 : decode cX11_thingOn 149 = .ok (.dup, 1) := by decide +kernel
theorem dX11_thingOn_150 : decode cX11_thingOn 150 = .ok (.iload_n 2, 1) := by decide +kernel
theorem dX11_thingOn_151 : decode cX11_thingOn 151 = .ok (.iload_n 3, 1) := by decide +kernel
theorem dX11_thingOn_152 : decode cX11_thingOn 152 = .ok (.invokespecial 286, 3) := by decide +kernel
theorem dX11_thingOn_155 : decode cX11_thingOn 155 = .ok (.areturn, 1) := by decide +kernel
def f_X11_thingOn   (S : Sh) (R : Rw) (I : Iw) (a0 : Nat) (x1 : Int32) : Option ((Sh × Rw × Iw) × Rf) := bd (f_X11_isBetween S R I x1 (0 : Int32) (3 : Int32)) (fun r1 => (if r1 = 0 then some ((S, R, I), (none : Rf)) else gp (sok S a0 11 12) (rl (R a0 8) (fun b4 => gp (aok S 20 b4 x1) ((if (I b4 x1.toNatClampNeg) = 0 then rl (R a0 0) (fun b7 => rl (R a0 9) (fun b8 => gp (aok S 20 b8 x1) (gp (sok S b7 7 16) (bd (f_X7_has S R I b7 (I b8 x1.toNatClampNeg)) (fun r11 => (if r11 = 0 then some ((S, R, I), (none : Rf)) else rl (R a0 9) (fun b13 => gp (aok S 20 b13 x1) (rl (R a0 0) (fun b15 => gp (sok S b15 7 16) (rl (R b15 2) (fun b17 => gp (aok S 20 b17 (I b13 x1.toNatClampNeg)) (rl (R a0 0) (fun b19 => gp (sok S b19 7 16) (rl (R b19 0) (fun b21 => gp (aok S 20 b21 (I b13 x1.toNatClampNeg)) ((if (I b21 (I b13 x1.toNatClampNeg).toNatClampNeg) = (1 : Int32) then lt S.length (fun q23 => lt (S ++ [(10, 5)]) (fun S24 => lt (setA R q23 (fun _ => none)) (fun R25 => lt (setA I q23 (fun _ => 0)) (fun I26 => bd (f_X10_init S24 R25 I26 q23 (I b13 x1.toNatClampNeg) (I b17 (I b13 x1.toNatClampNeg).toNatClampNeg)) (fun r28 => some ((r28.1, r28.2.1, r28.2.2), (some (.inl q23) : Rf))))))) else (if (I b21 (I b13 x1.toNatClampNeg).toNatClampNeg) = (2 : Int32) then lt S.length (fun q29 => lt (S ++ [(1, 5)]) (fun S30 => lt (setA R q29 (fun _ => none)) (fun R31 => lt (setA I q29 (fun _ => 0)) (fun I32 => bd (f_X1_init S30 R31 I32 q29 (I b13 x1.toNatClampNeg) (I b17 (I b13 x1.toNatClampNeg).toNatClampNeg)) (fun r34 => some ((r34.1, r34.2.1, r34.2.2), (some (.inl q29) : Rf))))))) else (if (I b21 (I b13 x1.toNatClampNeg).toNatClampNeg) = (3 : Int32) then lt S.length (fun q35 => lt (S ++ [(0, 5)]) (fun S36 => lt (setA R q35 (fun _ => none)) (fun R37 => lt (setA I q35 (fun _ => 0)) (fun I38 => bd (f_X0_init S36 R37 I38 q35 (I b13 x1.toNatClampNeg) (I b17 (I b13 x1.toNatClampNeg).toNatClampNeg)) (fun r40 => some ((r40.1, r40.2.1, r40.2.2), (some (.inl q35) : Rf))))))) else (if (I b21 (I b13 x1.toNatClampNeg).toNatClampNeg) = (4 : Int32) then lt S.length (fun q41 => lt (S ++ [(6, 5)]) (fun S42 => lt (setA R q41 (fun _ => none)) (fun R43 => lt (setA I q41 (fun _ => 0)) (fun I44 => bd (f_X6_init S42 R43 I44 q41 (I b13 x1.toNatClampNeg) (I b17 (I b13 x1.toNatClampNeg).toNatClampNeg)) (fun r46 => some ((r46.1, r46.2.1, r46.2.2), (some (.inl q41) : Rf))))))) else (if (I b21 (I b13 x1.toNatClampNeg).toNatClampNeg) = (5 : Int32) then lt S.length (fun q47 => lt (S ++ [(4, 5)]) (fun S48 => lt (setA R q47 (fun _ => none)) (fun R49 => lt (setA I q47 (fun _ => 0)) (fun I50 => bd (f_X4_init S48 R49 I50 q47 (I b13 x1.toNatClampNeg) (I b17 (I b13 x1.toNatClampNeg).toNatClampNeg)) (fun r52 => some ((r52.1, r52.2.1, r52.2.2), (some (.inl q47) : Rf))))))) else lt S.length (fun q53 => lt (S ++ [(9, 5)]) (fun S54 => lt (setA R q53 (fun _ => none)) (fun R55 => lt (setA I q53 (fun _ => 0)) (fun I56 => bd (f_X9_init S54 R55 I56 q53 (I b13 x1.toNatClampNeg) (I b17 (I b13 x1.toNatClampNeg).toNatClampNeg)) (fun r58 => some ((r58.1, r58.2.1, r58.2.2), (some (.inl q53) : Rf)))))))))))))))))))))))))))) else some ((S, R, I), (none : Rf))))))))
set_option maxHeartbeats 4000000 in
theorem b_X11_thingOn {E : Ev} {p : Program} {l : Launch} {e : Env} {s : State} {m : MethodId} {args : Array Value} {below : List Frame} {meth : Method} {c : Code} (C : Cx E RX11 cX11_thingOn 4 p s m c) (hr : meth.sig.returnType = (some (.object "UnlikeNeighbours$Thing"))) (hk : meth.locks = false) {r : (Sh × Rw × Iw) × Rf}  : ∀ (S : Sh) (R : Rw) (I : Iw) (a0 : Nat) (x1 : Int32), f_X11_thingOn    S R I a0 x1 = some r → Wk E 4 p l e ({ frames := 4, cells := 2, slots := 35, locals := 86 } : Room) s m args below meth c 0 0 (MQ below (Qw E r.1.1 r.1.2.1 r.1.2.2 (some (rv E r.2))) args s 2 35 (fun q => E.1 ≤ q)) 0 [(0, .ref (E.1 + a0)), (1, .int x1)] [] S R I := by
  intro S R I a0 x1 h
  rw [f_X11_thingOn] at h
  refine k_iloadn (pc := 0) C dX11_thingOn_0 (i := 1) rfl 1 rfl ?_
  refine k_iconst (pc := 1) C (v := (0 : Int32)) dX11_thingOn_1 (by decide) ?_
  refine k_iconst (pc := 2) C (v := (3 : Int32)) dX11_thingOn_2 (by decide) ?_
  obtain ⟨r1, hr1, h⟩ := bd_e h
  refine k_S (pc := 3) (st := []) C (c_X11_isBetween hr1) lkS_RX11_55 rfl rfl (Nat.le_of_ble_eq_true rfl) (Nat.le_of_ble_eq_true rfl) (Nat.le_of_ble_eq_true rfl) (Nat.le_of_ble_eq_true rfl) (Nat.le_of_ble_eq_true rfl) dX11_thingOn_3 ?_
  refine k_nf (cells2 := 0) (slots2 := 0) (st2 := [.int r1]) rfl rfl rfl ?_
  refine k_if_eq (pc := 6) C dX11_thingOn_6 (tgt := 34) (by decide) (fun hc2 => ?_) (fun hc2 => ?_)
  · rw [if_pos hc2] at h
    refine k_null (pc := 34) C dX11_thingOn_34 ?_
    have h := Option.some.inj h
    subst h
    refine k_widen (k0 := 2) (n0 := 35) (Nat.le_of_ble_eq_true rfl) (Nat.le_of_ble_eq_true rfl) ?_
    exact k_aret (pc := 35) (v := (none : Rf)) C hr (Or.inl ⟨_, rfl⟩) hk dX11_thingOn_35
  · rw [if_neg hc2] at h
    refine k_aloadn (pc := 9) C dX11_thingOn_9 (i := 0) rfl 0 rfl ?_
    obtain ⟨hs30, h⟩ := gp_e h
    have hs3 := sok_e hs30
    obtain ⟨b4, hb4, h⟩ := rl_e h
    refine k_getR (pc := 10) C lkF_RX11_45_11 hs3 ir_11_8 hb4 dX11_thingOn_10 ?_
    refine k_iloadn (pc := 13) C dX11_thingOn_13 (i := 1) rfl 1 rfl ?_
    obtain ⟨ha5, h⟩ := gp_e h
    refine k_iald (pc := 14) C ha5 dX11_thingOn_14 ?_
    refine k_if_ne (pc := 15) C dX11_thingOn_15 (tgt := 34) (by decide) (fun hc6 => ?_) (fun hc6 => ?_)
    · rw [if_neg hc6] at h
      refine k_null (pc := 34) C dX11_thingOn_34 ?_
      have h := Option.some.inj h
      subst h
      refine k_widen (k0 := 2) (n0 := 35) (Nat.le_of_ble_eq_true rfl) (Nat.le_of_ble_eq_true rfl) ?_
      exact k_aret (pc := 35) (v := (none : Rf)) C hr (Or.inl ⟨_, rfl⟩) hk dX11_thingOn_35
    · rw [if_pos hc6] at h
      refine k_aloadn (pc := 18) C dX11_thingOn_18 (i := 0) rfl 0 rfl ?_
      obtain ⟨b7, hb7, h⟩ := rl_e h
      refine k_getR (pc := 19) C lkF_RX11_12_11 hs3 ir_11_0 hb7 dX11_thingOn_19 ?_
      refine k_aloadn (pc := 22) C dX11_thingOn_22 (i := 0) rfl 0 rfl ?_
      obtain ⟨b8, hb8, h⟩ := rl_e h
      refine k_getR (pc := 23) C lkF_RX11_48_11 hs3 ir_11_9 hb8 dX11_thingOn_23 ?_
      refine k_iloadn (pc := 26) C dX11_thingOn_26 (i := 1) rfl 1 rfl ?_
      obtain ⟨ha9, h⟩ := gp_e h
      refine k_iald (pc := 27) C ha9 dX11_thingOn_27 ?_
      obtain ⟨hs100, h⟩ := gp_e h
      have hs10 := sok_e hs100
      obtain ⟨r11, hr11, h⟩ := bd_e h
      refine k_V (pc := 28) (st := []) C (c_X7_has hr11) lkV_RX11_63 hs10 rfl rfl rfl (Nat.le_of_ble_eq_true rfl) (Nat.le_of_ble_eq_true rfl) (Nat.le_of_ble_eq_true rfl) (Nat.le_of_ble_eq_true rfl) (Nat.le_of_ble_eq_true rfl) dX11_thingOn_28 ?_
      refine k_nf (cells2 := 0) (slots2 := 0) (st2 := [.int r11]) rfl rfl rfl ?_
      refine k_if_ne (pc := 31) C dX11_thingOn_31 (tgt := 36) (by decide) (fun hc12 => ?_) (fun hc12 => ?_)
      · rw [if_neg hc12] at h
        refine k_aloadn (pc := 36) C dX11_thingOn_36 (i := 0) rfl 0 rfl ?_
        obtain ⟨b13, hb13, h⟩ := rl_e h
        refine k_getR (pc := 37) C lkF_RX11_48_11 hs3 ir_11_9 hb13 dX11_thingOn_37 ?_
        refine k_iloadn (pc := 40) C dX11_thingOn_40 (i := 1) rfl 1 rfl ?_
        obtain ⟨ha14, h⟩ := gp_e h
        refine k_iald (pc := 41) C ha14 dX11_thingOn_41 ?_
        refine k_istoren (pc := 42) C dX11_thingOn_42 (i := 2) rfl (by decide) (L2 := [(0, .ref (E.1 + a0)), (1, .int x1), (2, .int (I b13 x1.toNatClampNeg))]) rfl ?_
        refine k_aloadn (pc := 43) C dX11_thingOn_43 (i := 0) rfl 0 rfl ?_
        obtain ⟨b15, hb15, h⟩ := rl_e h
        refine k_getR (pc := 44) C lkF_RX11_12_11 hs3 ir_11_0 hb15 dX11_thingOn_44 ?_
        obtain ⟨hs160, h⟩ := gp_e h
        have hs16 := sok_e hs160
        obtain ⟨b17, hb17, h⟩ := rl_e h
        refine k_getR (pc := 47) C lkF_RX11_73_7 hs16 ir_7_2 hb17 dX11_thingOn_47 ?_
        refine k_iloadn (pc := 50) C dX11_thingOn_50 (i := 2) rfl 2 rfl ?_
        obtain ⟨ha18, h⟩ := gp_e h
        refine k_iald (pc := 51) C ha18 dX11_thingOn_51 ?_
        refine k_istoren (pc := 52) C dX11_thingOn_52 (i := 3) rfl (by decide) (L2 := [(0, .ref (E.1 + a0)), (1, .int x1), (2, .int (I b13 x1.toNatClampNeg)), (3, .int (I b17 (I b13 x1.toNatClampNeg).toNatClampNeg))]) rfl ?_
        refine k_aloadn (pc := 53) C dX11_thingOn_53 (i := 0) rfl 0 rfl ?_
        obtain ⟨b19, hb19, h⟩ := rl_e h
        refine k_getR (pc := 54) C lkF_RX11_12_11 hs3 ir_11_0 hb19 dX11_thingOn_54 ?_
        obtain ⟨hs200, h⟩ := gp_e h
        have hs20 := sok_e hs200
        obtain ⟨b21, hb21, h⟩ := rl_e h
        refine k_getR (pc := 57) C lkF_RX11_67_7 hs20 ir_7_0 hb21 dX11_thingOn_57 ?_
        refine k_iloadn (pc := 60) C dX11_thingOn_60 (i := 2) rfl 2 rfl ?_
        obtain ⟨ha22, h⟩ := gp_e h
        refine k_iald (pc := 61) C ha22 dX11_thingOn_61 ?_
        by_cases hc59 : (I b21 (I b13 x1.toNatClampNeg).toNatClampNeg) = (1 : Int32)
        · rw [if_pos hc59] at h
          refine k_tabIn (pc := 62) C dX11_thingOn_62 (by rw [hc59]; decide) (by rw [hc59]; decide) (off := 34) (by rw [hc59]; rfl) (tgt := 96) (by decide) ?_
          obtain ⟨q23, eq23, h⟩ := lt_e h
          obtain ⟨S24, eS24, h⟩ := lt_e h
          obtain ⟨R25, eR25, h⟩ := lt_e h
          obtain ⟨I26, eI26, h⟩ := lt_e h
          refine k_new (pc := 96) C lkN_RX11_270 (Nat.le_of_ble_eq_true rfl) (Nat.le_of_ble_eq_true rfl) dX11_thingOn_96 ?_
          rw [← eq23, ← eS24, ← eR25, ← eI26]
          refine k_nf (cells2 := 1) (slots2 := 5) (st2 := [.ref (E.1 + q23)]) rfl rfl rfl ?_
          refine k_dup (pc := 99) C dX11_thingOn_99 rfl ?_
          refine k_iloadn (pc := 100) C dX11_thingOn_100 (i := 2) rfl 2 rfl ?_
          refine k_iloadn (pc := 101) C dX11_thingOn_101 (i := 3) rfl 3 rfl ?_
          obtain ⟨r28, hr28, h⟩ := bd_e h
          refine k_I (pc := 102) (st := [.ref (E.1 + q23)]) C (c_X10_init hr28) lkI_RX11_272 rfl rfl (Nat.le_of_ble_eq_true rfl) (Nat.le_of_ble_eq_true rfl) (Nat.le_of_ble_eq_true rfl) (Nat.le_of_ble_eq_true rfl) (Nat.le_of_ble_eq_true rfl) dX11_thingOn_102 ?_
          refine k_nf (cells2 := 2) (slots2 := 35) (st2 := [.ref (E.1 + q23)]) rfl rfl rfl ?_
          have h := Option.some.inj h
          subst h
          exact k_aret (pc := 105) (v := (some (.inl q23) : Rf)) C hr (Or.inl ⟨_, rfl⟩) hk dX11_thingOn_105
        · rw [if_neg hc59] at h
          by_cases hc60 : (I b21 (I b13 x1.toNatClampNeg).toNatClampNeg) = (2 : Int32)
          · rw [if_pos hc60] at h
            refine k_tabIn (pc := 62) C dX11_thingOn_62 (by rw [hc60]; decide) (by rw [hc60]; decide) (off := 44) (by rw [hc60]; rfl) (tgt := 106) (by decide) ?_
            obtain ⟨q29, eq29, h⟩ := lt_e h
            obtain ⟨S30, eS30, h⟩ := lt_e h
            obtain ⟨R31, eR31, h⟩ := lt_e h
            obtain ⟨I32, eI32, h⟩ := lt_e h
            refine k_new (pc := 106) C lkN_RX11_274 (Nat.le_of_ble_eq_true rfl) (Nat.le_of_ble_eq_true rfl) dX11_thingOn_106 ?_
            rw [← eq29, ← eS30, ← eR31, ← eI32]
            refine k_nf (cells2 := 1) (slots2 := 5) (st2 := [.ref (E.1 + q29)]) rfl rfl rfl ?_
            refine k_dup (pc := 109) C dX11_thingOn_109 rfl ?_
            refine k_iloadn (pc := 110) C dX11_thingOn_110 (i := 2) rfl 2 rfl ?_
            refine k_iloadn (pc := 111) C dX11_thingOn_111 (i := 3) rfl 3 rfl ?_
            obtain ⟨r34, hr34, h⟩ := bd_e h
            refine k_I (pc := 112) (st := [.ref (E.1 + q29)]) C (c_X1_init hr34) lkI_RX11_276 rfl rfl (Nat.le_of_ble_eq_true rfl) (Nat.le_of_ble_eq_true rfl) (Nat.le_of_ble_eq_true rfl) (Nat.le_of_ble_eq_true rfl) (Nat.le_of_ble_eq_true rfl) dX11_thingOn_112 ?_
            refine k_nf (cells2 := 2) (slots2 := 35) (st2 := [.ref (E.1 + q29)]) rfl rfl rfl ?_
            have h := Option.some.inj h
            subst h
            exact k_aret (pc := 115) (v := (some (.inl q29) : Rf)) C hr (Or.inl ⟨_, rfl⟩) hk dX11_thingOn_115
          · rw [if_neg hc60] at h
            by_cases hc61 : (I b21 (I b13 x1.toNatClampNeg).toNatClampNeg) = (3 : Int32)
            · rw [if_pos hc61] at h
              refine k_tabIn (pc := 62) C dX11_thingOn_62 (by rw [hc61]; decide) (by rw [hc61]; decide) (off := 54) (by rw [hc61]; rfl) (tgt := 116) (by decide) ?_
              obtain ⟨q35, eq35, h⟩ := lt_e h
              obtain ⟨S36, eS36, h⟩ := lt_e h
              obtain ⟨R37, eR37, h⟩ := lt_e h
              obtain ⟨I38, eI38, h⟩ := lt_e h
              refine k_new (pc := 116) C lkN_RX11_277 (Nat.le_of_ble_eq_true rfl) (Nat.le_of_ble_eq_true rfl) dX11_thingOn_116 ?_
              rw [← eq35, ← eS36, ← eR37, ← eI38]
              refine k_nf (cells2 := 1) (slots2 := 5) (st2 := [.ref (E.1 + q35)]) rfl rfl rfl ?_
              refine k_dup (pc := 119) C dX11_thingOn_119 rfl ?_
              refine k_iloadn (pc := 120) C dX11_thingOn_120 (i := 2) rfl 2 rfl ?_
              refine k_iloadn (pc := 121) C dX11_thingOn_121 (i := 3) rfl 3 rfl ?_
              obtain ⟨r40, hr40, h⟩ := bd_e h
              refine k_I (pc := 122) (st := [.ref (E.1 + q35)]) C (c_X0_init hr40) lkI_RX11_279 rfl rfl (Nat.le_of_ble_eq_true rfl) (Nat.le_of_ble_eq_true rfl) (Nat.le_of_ble_eq_true rfl) (Nat.le_of_ble_eq_true rfl) (Nat.le_of_ble_eq_true rfl) dX11_thingOn_122 ?_
              refine k_nf (cells2 := 2) (slots2 := 35) (st2 := [.ref (E.1 + q35)]) rfl rfl rfl ?_
              have h := Option.some.inj h
              subst h
              exact k_aret (pc := 125) (v := (some (.inl q35) : Rf)) C hr (Or.inl ⟨_, rfl⟩) hk dX11_thingOn_125
            · rw [if_neg hc61] at h
              by_cases hc62 : (I b21 (I b13 x1.toNatClampNeg).toNatClampNeg) = (4 : Int32)
              · rw [if_pos hc62] at h
                refine k_tabIn (pc := 62) C dX11_thingOn_62 (by rw [hc62]; decide) (by rw [hc62]; decide) (off := 64) (by rw [hc62]; rfl) (tgt := 126) (by decide) ?_
                obtain ⟨q41, eq41, h⟩ := lt_e h
                obtain ⟨S42, eS42, h⟩ := lt_e h
                obtain ⟨R43, eR43, h⟩ := lt_e h
                obtain ⟨I44, eI44, h⟩ := lt_e h
                refine k_new (pc := 126) C lkN_RX11_280 (Nat.le_of_ble_eq_true rfl) (Nat.le_of_ble_eq_true rfl) dX11_thingOn_126 ?_
                rw [← eq41, ← eS42, ← eR43, ← eI44]
                refine k_nf (cells2 := 1) (slots2 := 5) (st2 := [.ref (E.1 + q41)]) rfl rfl rfl ?_
                refine k_dup (pc := 129) C dX11_thingOn_129 rfl ?_
                refine k_iloadn (pc := 130) C dX11_thingOn_130 (i := 2) rfl 2 rfl ?_
                refine k_iloadn (pc := 131) C dX11_thingOn_131 (i := 3) rfl 3 rfl ?_
                obtain ⟨r46, hr46, h⟩ := bd_e h
                refine k_I (pc := 132) (st := [.ref (E.1 + q41)]) C (c_X6_init hr46) lkI_RX11_282 rfl rfl (Nat.le_of_ble_eq_true rfl) (Nat.le_of_ble_eq_true rfl) (Nat.le_of_ble_eq_true rfl) (Nat.le_of_ble_eq_true rfl) (Nat.le_of_ble_eq_true rfl) dX11_thingOn_132 ?_
                refine k_nf (cells2 := 2) (slots2 := 35) (st2 := [.ref (E.1 + q41)]) rfl rfl rfl ?_
                have h := Option.some.inj h
                subst h
                exact k_aret (pc := 135) (v := (some (.inl q41) : Rf)) C hr (Or.inl ⟨_, rfl⟩) hk dX11_thingOn_135
              · rw [if_neg hc62] at h
                by_cases hc63 : (I b21 (I b13 x1.toNatClampNeg).toNatClampNeg) = (5 : Int32)
                · rw [if_pos hc63] at h
                  refine k_tabIn (pc := 62) C dX11_thingOn_62 (by rw [hc63]; decide) (by rw [hc63]; decide) (off := 74) (by rw [hc63]; rfl) (tgt := 136) (by decide) ?_
                  obtain ⟨q47, eq47, h⟩ := lt_e h
                  obtain ⟨S48, eS48, h⟩ := lt_e h
                  obtain ⟨R49, eR49, h⟩ := lt_e h
                  obtain ⟨I50, eI50, h⟩ := lt_e h
                  refine k_new (pc := 136) C lkN_RX11_283 (Nat.le_of_ble_eq_true rfl) (Nat.le_of_ble_eq_true rfl) dX11_thingOn_136 ?_
                  rw [← eq47, ← eS48, ← eR49, ← eI50]
                  refine k_nf (cells2 := 1) (slots2 := 5) (st2 := [.ref (E.1 + q47)]) rfl rfl rfl ?_
                  refine k_dup (pc := 139) C dX11_thingOn_139 rfl ?_
                  refine k_iloadn (pc := 140) C dX11_thingOn_140 (i := 2) rfl 2 rfl ?_
                  refine k_iloadn (pc := 141) C dX11_thingOn_141 (i := 3) rfl 3 rfl ?_
                  obtain ⟨r52, hr52, h⟩ := bd_e h
                  refine k_I (pc := 142) (st := [.ref (E.1 + q47)]) C (c_X4_init hr52) lkI_RX11_285 rfl rfl (Nat.le_of_ble_eq_true rfl) (Nat.le_of_ble_eq_true rfl) (Nat.le_of_ble_eq_true rfl) (Nat.le_of_ble_eq_true rfl) (Nat.le_of_ble_eq_true rfl) dX11_thingOn_142 ?_
                  refine k_nf (cells2 := 2) (slots2 := 35) (st2 := [.ref (E.1 + q47)]) rfl rfl rfl ?_
                  have h := Option.some.inj h
                  subst h
                  exact k_aret (pc := 145) (v := (some (.inl q47) : Rf)) C hr (Or.inl ⟨_, rfl⟩) hk dX11_thingOn_145
                · rw [if_neg hc63] at h
                  refine k_tabOut (pc := 62) C dX11_thingOn_62 (tab_out (I b21 (I b13 x1.toNatClampNeg).toNatClampNeg) 1 5 (fun z h1 h2 hz => by
                    have hz2 : z = 1 ∨ z = 2 ∨ z = 3 ∨ z = 4 ∨ z = 5 := by omega
                    rcases hz2 with rfl | rfl | rfl | rfl | rfl
                    · exact hc59 (Int32.toInt_inj.mp (hz.trans (by decide)))
                    · exact hc60 (Int32.toInt_inj.mp (hz.trans (by decide)))
                    · exact hc61 (Int32.toInt_inj.mp (hz.trans (by decide)))
                    · exact hc62 (Int32.toInt_inj.mp (hz.trans (by decide)))
                    · exact hc63 (Int32.toInt_inj.mp (hz.trans (by decide)))
                    ) ) (tgt := 146) (by decide) ?_
                  obtain ⟨q53, eq53, h⟩ := lt_e h
                  obtain ⟨S54, eS54, h⟩ := lt_e h
                  obtain ⟨R55, eR55, h⟩ := lt_e h
                  obtain ⟨I56, eI56, h⟩ := lt_e h
                  refine k_new (pc := 146) C lkN_RX11_253 (Nat.le_of_ble_eq_true rfl) (Nat.le_of_ble_eq_true rfl) dX11_thingOn_146 ?_
                  rw [← eq53, ← eS54, ← eR55, ← eI56]
                  refine k_nf (cells2 := 1) (slots2 := 5) (st2 := [.ref (E.1 + q53)]) rfl rfl rfl ?_
                  refine k_dup (pc := 149) C dX11_thingOn_149 rfl ?_
                  refine k_iloadn (pc := 150) C dX11_thingOn_150 (i := 2) rfl 2 rfl ?_
                  refine k_iloadn (pc := 151) C dX11_thingOn_151 (i := 3) rfl 3 rfl ?_
                  obtain ⟨r58, hr58, h⟩ := bd_e h
                  refine k_I (pc := 152) (st := [.ref (E.1 + q53)]) C (c_X9_init hr58) lkI_RX11_286 rfl rfl (Nat.le_of_ble_eq_true rfl) (Nat.le_of_ble_eq_true rfl) (Nat.le_of_ble_eq_true rfl) (Nat.le_of_ble_eq_true rfl) (Nat.le_of_ble_eq_true rfl) dX11_thingOn_152 ?_
                  refine k_nf (cells2 := 2) (slots2 := 35) (st2 := [.ref (E.1 + q53)]) rfl rfl rfl ?_
                  have h := Option.some.inj h
                  subst h
                  exact k_aret (pc := 155) (v := (some (.inl q53) : Rf)) C hr (Or.inl ⟨_, rfl⟩) hk dX11_thingOn_155
      · rw [if_pos hc12] at h
        refine k_null (pc := 34) C dX11_thingOn_34 ?_
        have h := Option.some.inj h
        subst h
        refine k_widen (k0 := 2) (n0 := 35) (Nat.le_of_ble_eq_true rfl) (Nat.le_of_ble_eq_true rfl) ?_
        exact k_aret (pc := 35) (v := (none : Rf)) C hr (Or.inl ⟨_, rfl⟩) hk dX11_thingOn_35
theorem c_X11_thingOn {E : Ev} {l : Launch} {S : Sh} {R : Rw} {I : Iw} {a0 : Nat} {x1 : Int32} {r : (Sh × Rw × Iw) × Rf} (h : f_X11_thingOn S R I a0 x1 = some r) : Mt E l yX11_thingOn cX11_thingOn 4 (some (.object "UnlikeNeighbours$Thing")) 4 86 [.ref (E.1 + a0), .int x1] S R I r.1.1 r.1.2.1 r.1.2.2 (some (rv E r.2)) 2 35 := mt_of (by decide) (Nat.le_of_ble_eq_true rfl) (fun p e s m args below meth c C hr hk hn => b_X11_thingOn C hr hk _ _ _ _ _ h)
