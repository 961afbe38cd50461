/-! X11_item, X11_goes, X11_goats, X11_holdRow -/
theorem lkV_RX11_231 : LkV RX11 231 RX8 yX8_refusalAs cX8_refusalAs 2 (some .int) 1 := ⟨(t4_in 55 (by decide +kernel) rfl), (t4_in 56 (by decide +kernel) rfl), (t4_in 57 (by decide +kernel) rfl), (t4_in 58 (by decide +kernel) rfl), (t1_in 6 (by decide +kernel) rfl), by decide, by decide +kernel⟩
theorem dX11_item_0 : decode cX11_item 0 = .ok (.iload_n 1, 1) := by decide +kernel
theorem dX11_item_1 : decode cX11_item 1 = .ok (.invokestatic 215, 3) := by decide +kernel
theorem dX11_item_4 : decode cX11_item 4 = .ok (.ifCond .eq 12, 3) := by decide +kernel
theorem dX11_item_7 : decode cX11_item 7 = .ok (.iload_n 2, 1) := by decide +kernel
theorem dX11_item_8 : decode cX11_item 8 = .ok (.iconst 0, 1) := by decide +kernel
theorem dX11_item_9 : decode cX11_item 9 = .ok (.iconst 4, 1) := by decide +kernel
theorem dX11_item_10 : decode cX11_item 10 = .ok (.invokestatic 55, 3) := by decide +kernel
theorem dX11_item_13 : decode cX11_item 13 = .ok (.ifCond .ne 5, 3) := by decide +kernel
theorem dX11_item_16 : decode cX11_item 16 = .ok (.iconst (-1), 1) := by decide +kernel
theorem dX11_item_17 : decode cX11_item 17 = .ok (.ireturn, 1) := by decide +kernel
theorem dX11_item_18 : decode cX11_item 18 = .ok (.aload_n 0, 1) := by decide +kernel
theorem dX11_item_19 : decode cX11_item 19 = .ok (.getfield 41, 3) := by decide +kernel
theorem dX11_item_22 : decode cX11_item 22 = .ok (.iload_n 1, 1) := by decide +kernel
theorem dX11_item_23 : decode cX11_item 23 = .ok (.aaload, 1) := by decide +kernel
theorem dX11_item_24 : decode cX11_item 24 = .ok (.astore 4, 2) := by decide +kernel
theorem dX11_item_26 : decode cX11_item 26 = .ok (.aload 4, 2) := by decide +kernel
theorem dX11_item_28 : decode cX11_item 28 = .ok (.iload_n 2, 1) := by decide +kernel
theorem dX11_item_29 : decode cX11_item 29 = .ok (.invokevirtual 231, 3) := by decide +kernel
theorem dX11_item_32 : decode cX11_item 32 = .ok (.istore 5, 2) := by decide +kernel
theorem dX11_item_34 : decode cX11_item 34 = .ok (.iload 5, 2) := by decide +kernel
theorem dX11_item_36 : decode cX11_item 36 = .ok (.ifCond .eq 6, 3) := by decide +kernel
theorem dX11_item_39 : decode cX11_item 39 = .ok (.iload 5, 2) := by decide +kernel
theorem dX11_item_41 : decode cX11_item 41 = .ok (.ireturn, 1) := by decide +kernel
theorem dX11_item_42 : decode cX11_item 42 = .ok (.aload 4, 2) := by decide +kernel
theorem dX11_item_44 : decode cX11_item 44 = .ok (.iload_n 3, 1) := by decide +kernel
theorem dX11_item_45 : decode cX11_item 45 = .ok (.invokevirtual 224, 3) := by decide +kernel
theorem dX11_item_48 : decode cX11_item 48 = .ok (.ifCond .eq 13, 3) := by decide +kernel
theorem dX11_item_51 : decode cX11_item 51 = .ok (.aload 4, 2) := by decide +kernel
theorem dX11_item_53 : decode cX11_item 53 = .ok (.getfield 225, 3) := by decide +kernel
theorem dX11_item_56 : decode cX11_item 56 = .ok (.iload_n 3, 1) := by decide +kernel
theorem dX11_item_57 : decode cX11_item 57 = .ok (.iaload, 1) := by decide +kernel
theorem dX11_item_58 : decode cX11_item 58 = .ok (.goto 5, 3) := by decide +kernel
theorem dX11_item_61 : decode cX11_item 61 = .ok (.bipush (-12), 2) := by decide +kernel
theorem dX11_item_63 : decode cX11_item 63 = .ok (.ireturn, 1) := by decide +kernel
def f_X11_item (S : Sh) (R : Rw) (I : Iw)  (a0 : Nat) (x1 : Int32) (x2 : Int32) (x3 : Int32) : Option (Int32) := bd (f_X11_isSheet S R I x1) (fun r1 => (if r1 = 0 then some (-1 : Int32) else bd (f_X11_isBetween S R I x2 (0 : Int32) (4 : Int32)) (fun r3 => (if r3 = 0 then some (-1 : Int32) else gp (sok S a0 11 12) (rl (R a0 7) (fun b6 => gp (aok S 23 b6 x1) (rl (R b6 x1.toNatClampNeg) (fun b8 => gp (sok S b8 8 3) (bd (f_X8_refusalAs S R I b8 x2) (fun r10 => (if r10 = 0 then bd (f_X8_has S R I b8 x3) (fun r12 => (if r12 = 0 then some (-12 : Int32) else rl (R b8 2) (fun b14 => gp (aok S 20 b14 x3) (some (I b14 x3.toNatClampNeg))))) else some r10)))))))))))
set_option maxHeartbeats 4000000 in
theorem b_X11_item {E : Ev} {p : Program} {l : Launch} {e : Env} {s : State} {m : MethodId} {args : Array Value} {below : List Frame} {meth : Method} {c : Code} (C : Cx E RX11 cX11_item 6 p s m c) (hr : meth.sig.returnType = (some .int)) (hk : meth.locks = false) {S : Sh} {R : Rw} {I : Iw} {r : Int32}  : ∀ (a0 : Nat) (x1 : Int32) (x2 : Int32) (x3 : Int32), f_X11_item S R I   a0 x1 x2 x3 = some r → Wk E 6 p l e ({ frames := 2, cells := 0, slots := 0, locals := 42 } : Room) s m args below meth c 0 0 (MQ below (Qw E S R I (some (.int r))) args s 0 0 (fun q => E.1 ≤ q)) 0 [(0, .ref (E.1 + a0)), (1, .int x1), (2, .int x2), (3, .int x3)] [] S R I := by
  intro a0 x1 x2 x3 h
  rw [f_X11_item] at h
  refine k_iloadn (pc := 0) C dX11_item_0 (i := 1) rfl 1 rfl ?_
  obtain ⟨r1, hr1, h⟩ := bd_e h
  refine k_S (pc := 1) (st := []) C (c_X11_isSheet hr1) lkS_RX11_215 rfl rfl (Nat.le_of_ble_eq_true rfl) (Nat.le_of_ble_eq_true rfl) (Nat.le_of_ble_eq_true rfl) (Nat.le_of_ble_eq_true rfl) (Nat.le_of_ble_eq_true rfl) dX11_item_1 ?_
  refine k_nf (cells2 := 0) (slots2 := 0) (st2 := [.int r1]) rfl rfl rfl ?_
  refine k_if_eq (pc := 4) C dX11_item_4 (tgt := 16) (by decide) (fun hc2 => ?_) (fun hc2 => ?_)
  · rw [if_pos hc2] at h
    refine k_iconst (pc := 16) C (v := (-1 : Int32)) dX11_item_16 (by decide) ?_
    have h := Option.some.inj h
    subst h
    exact k_iret (pc := 17) C hr hk dX11_item_17
  · rw [if_neg hc2] at h
    refine k_iloadn (pc := 7) C dX11_item_7 (i := 2) rfl 2 rfl ?_
    refine k_iconst (pc := 8) C (v := (0 : Int32)) dX11_item_8 (by decide) ?_
    refine k_iconst (pc := 9) C (v := (4 : Int32)) dX11_item_9 (by decide) ?_
    obtain ⟨r3, hr3, h⟩ := bd_e h
    refine k_S (pc := 10) (st := []) C (c_X11_isBetween hr3) lkS_RX11_55 rfl rfl (Nat.le_of_ble_eq_true rfl) (Nat.le_of_ble_eq_true rfl) (Nat.le_of_ble_eq_true rfl) (Nat.le_of_ble_eq_true rfl) (Nat.le_of_ble_eq_true rfl) dX11_item_10 ?_
    refine k_nf (cells2 := 0) (slots2 := 0) (st2 := [.int r3]) rfl rfl rfl ?_
    refine k_if_ne (pc := 13) C dX11_item_13 (tgt := 18) (by decide) (fun hc4 => ?_) (fun hc4 => ?_)
    · rw [if_neg hc4] at h
      refine k_aloadn (pc := 18) C dX11_item_18 (i := 0) rfl 0 rfl ?_
      obtain ⟨hs50, h⟩ := gp_e h
      have hs5 := sok_e hs50
      obtain ⟨b6, hb6, h⟩ := rl_e h
      refine k_getR (pc := 19) C lkF_RX11_41_11 hs5 ir_11_7 hb6 dX11_item_19 ?_
      refine k_iloadn (pc := 22) C dX11_item_22 (i := 1) rfl 1 rfl ?_
      obtain ⟨ha7, h⟩ := gp_e h
      obtain ⟨b8, hb8, h⟩ := rl_e h
      refine k_aald (pc := 23) C (t := 23) (by decide) ha7 dX11_item_23 ?_
      rw [hb8]
      refine k_nf (cells2 := 0) (slots2 := 0) (st2 := [.ref (E.1 + b8)]) rfl rfl rfl ?_
      refine k_astore (pc := 24) C dX11_item_24 (by decide) (L2 := [(0, .ref (E.1 + a0)), (1, .int x1), (2, .int x2), (3, .int x3), (4, .ref (E.1 + b8))]) rfl ?_
      refine k_aload (pc := 26) C dX11_item_26 4 rfl ?_
      refine k_iloadn (pc := 28) C dX11_item_28 (i := 2) rfl 2 rfl ?_
      obtain ⟨hs90, h⟩ := gp_e h
      have hs9 := sok_e hs90
      obtain ⟨r10, hr10, h⟩ := bd_e h
      refine k_V (pc := 29) (st := []) C (c_X8_refusalAs hr10) lkV_RX11_231 hs9 rfl rfl rfl (Nat.le_of_ble_eq_true rfl) (Nat.le_of_ble_eq_true rfl) (Nat.le_of_ble_eq_true rfl) (Nat.le_of_ble_eq_true rfl) (Nat.le_of_ble_eq_true rfl) dX11_item_29 ?_
      refine k_nf (cells2 := 0) (slots2 := 0) (st2 := [.int r10]) rfl rfl rfl ?_
      refine k_istore (pc := 32) C dX11_item_32 (by decide) (L2 := [(0, .ref (E.1 + a0)), (1, .int x1), (2, .int x2), (3, .int x3), (4, .ref (E.1 + b8)), (5, .int r10)]) rfl ?_
      refine k_iload (pc := 34) C dX11_item_34 5 rfl ?_
      refine k_if_eq (pc := 36) C dX11_item_36 (tgt := 42) (by decide) (fun hc11 => ?_) (fun hc11 => ?_)
      · rw [if_pos hc11] at h
        refine k_aload (pc := 42) C dX11_item_42 4 rfl ?_
        refine k_iloadn (pc := 44) C dX11_item_44 (i := 3) rfl 3 rfl ?_
        obtain ⟨r12, hr12, h⟩ := bd_e h
        refine k_V (pc := 45) (st := []) C (c_X8_has hr12) lkV_RX11_224 hs9 rfl rfl rfl (Nat.le_of_ble_eq_true rfl) (Nat.le_of_ble_eq_true rfl) (Nat.le_of_ble_eq_true rfl) (Nat.le_of_ble_eq_true rfl) (Nat.le_of_ble_eq_true rfl) dX11_item_45 ?_
        refine k_nf (cells2 := 0) (slots2 := 0) (st2 := [.int r12]) rfl rfl rfl ?_
        refine k_if_eq (pc := 48) C dX11_item_48 (tgt := 61) (by decide) (fun hc13 => ?_) (fun hc13 => ?_)
        · rw [if_pos hc13] at h
          refine k_bipush (pc := 61) C (v := (-12 : Int32)) dX11_item_61 (by decide) ?_
          have h := Option.some.inj h
          subst h
          exact k_iret (pc := 63) C hr hk dX11_item_63
        · rw [if_neg hc13] at h
          refine k_aload (pc := 51) C dX11_item_51 4 rfl ?_
          obtain ⟨b14, hb14, h⟩ := rl_e h
          refine k_getR (pc := 53) C lkF_RX11_225_8 hs9 ir_8_2 hb14 dX11_item_53 ?_
          refine k_iloadn (pc := 56) C dX11_item_56 (i := 3) rfl 3 rfl ?_
          obtain ⟨ha15, h⟩ := gp_e h
          refine k_iald (pc := 57) C ha15 dX11_item_57 ?_
          refine k_goto (pc := 58) C dX11_item_58 (tgt := 63) (by decide) ?_
          have h := Option.some.inj h
          subst h
          exact k_iret (pc := 63) C hr hk dX11_item_63
      · rw [if_neg hc11] at h
        refine k_iload (pc := 39) C dX11_item_39 5 rfl ?_
        have h := Option.some.inj h
        subst h
        exact k_iret (pc := 41) C hr hk dX11_item_41
    · rw [if_pos hc4] at h
      refine k_iconst (pc := 16) C (v := (-1 : Int32)) dX11_item_16 (by decide) ?_
      have h := Option.some.inj h
      subst h
      exact k_iret (pc := 17) C hr hk dX11_item_17
theorem c_X11_item {E : Ev} {l : Launch} {S : Sh} {R : Rw} {I : Iw} {a0 : Nat} {x1 : Int32} {x2 : Int32} {x3 : Int32} {r : Int32} (h : f_X11_item S R I a0 x1 x2 x3 = some r) : Mt E l yX11_item cX11_item 6 (some .int) 2 42 [.ref (E.1 + a0), .int x1, .int x2, .int x3] S R I S R I (some (.int r)) 0 0 := mt_of (by decide) (Nat.le_of_ble_eq_true rfl) (fun p e s m args below meth c C hr hk hn => b_X11_item C hr hk _ _ _ _ h)
theorem dX11_goes_0 : decode cX11_goes 0 = .ok (.iload_n 1, 1) := by decide +kernel
theorem dX11_goes_1 : decode cX11_goes 1 = .ok (.invokestatic 215, 3) := by decide +kernel
theorem dX11_goes_4 : decode cX11_goes 4 = .ok (.ifCond .eq 13, 3) := by decide +kernel
theorem dX11_goes_7 : decode cX11_goes 7 = .ok (.iload_n 3, 1) := by decide +kernel
theorem dX11_goes_8 : decode cX11_goes 8 = .ok (.iconst 0, 1) := by decide +kernel
theorem dX11_goes_9 : decode cX11_goes 9 = .ok (.bipush 20, 2) := by decide +kernel
theorem dX11_goes_11 : decode cX11_goes 11 = .ok (.invokestatic 55, 3) := by decide +kernel
theorem dX11_goes_14 : decode cX11_goes 14 = .ok (.ifCond .ne 5, 3) := by decide +kernel
theorem dX11_goes_17 : decode cX11_goes 17 = .ok (.iconst (-1), 1) := by decide +kernel
theorem dX11_goes_18 : decode cX11_goes 18 = .ok (.ireturn, 1) := by decide +kernel
theorem dX11_goes_19 : decode cX11_goes 19 = .ok (.aload_n 0, 1) := by decide +kernel
theorem dX11_goes_20 : decode cX11_goes 20 = .ok (.getfield 41, 3) := by decide +kernel
theorem dX11_goes_23 : decode cX11_goes 23 = .ok (.iload_n 1, 1) := by decide +kernel
theorem dX11_goes_24 : decode cX11_goes 24 = .ok (.aaload, 1) := by decide +kernel
theorem dX11_goes_25 : decode cX11_goes 25 = .ok (.astore 4, 2) := by decide +kernel
theorem dX11_goes_27 : decode cX11_goes 27 = .ok (.aload 4, 2) := by decide +kernel
theorem dX11_goes_29 : decode cX11_goes 29 = .ok (.iconst 0, 1) := by decide +kernel
theorem dX11_goes_30 : decode cX11_goes 30 = .ok (.invokevirtual 231, 3) := by decide +kernel
theorem dX11_goes_33 : decode cX11_goes 33 = .ok (.istore 5, 2) := by decide +kernel
theorem dX11_goes_35 : decode cX11_goes 35 = .ok (.iload 5, 2) := by decide +kernel
theorem dX11_goes_37 : decode cX11_goes 37 = .ok (.ifCond .eq 6, 3) := by decide +kernel
theorem dX11_goes_40 : decode cX11_goes 40 = .ok (.iload 5, 2) := by decide +kernel
theorem dX11_goes_42 : decode cX11_goes 42 = .ok (.ireturn, 1) := by decide +kernel
theorem dX11_goes_43 : decode cX11_goes 43 = .ok (.iconst 0, 1) := by decide +kernel
theorem dX11_goes_44 : decode cX11_goes 44 = .ok (.istore 6, 2) := by decide +kernel
theorem dX11_goes_46 : decode cX11_goes 46 = .ok (.iconst 0, 1) := by decide +kernel
theorem dX11_goes_47 : decode cX11_goes 47 = .ok (.istore 7, 2) := by decide +kernel
theorem dX11_goes_49 : decode cX11_goes 49 = .ok (.iload 7, 2) := by decide +kernel
theorem dX11_goes_51 : decode cX11_goes 51 = .ok (.iload_n 3, 1) := by decide +kernel
theorem dX11_goes_52 : decode cX11_goes 52 = .ok (.if_icmp .ge 60, 3) := by decide +kernel
theorem dX11_goes_55 : decode cX11_goes 55 = .ok (.aload 4, 2) := by decide +kernel
theorem dX11_goes_57 : decode cX11_goes 57 = .ok (.iload_n 2, 1) := by decide +kernel
theorem dX11_goes_58 : decode cX11_goes 58 = .ok (.iload 7, 2) := by decide +kernel
theorem dX11_goes_60 : decode cX11_goes 60 = .ok (.iadd, 1) := by decide +kernel
theorem dX11_goes_61 : decode cX11_goes 61 = .ok (.invokevirtual 224, 3) := by decide +kernel
theorem dX11_goes_64 : decode cX11_goes 64 = .ok (.ifCond .ne 6, 3) := by decide +kernel
theorem dX11_goes_67 : decode cX11_goes 67 = .ok (.bipush (-12), 2) := by decide +kernel
theorem dX11_goes_69 : decode cX11_goes 69 = .ok (.ireturn, 1) := by decide +kernel
theorem dX11_goes_70 : decode cX11_goes 70 = .ok (.aload 4, 2) := by decide +kernel
theorem dX11_goes_72 : decode cX11_goes 72 = .ok (.getfield 225, 3) := by decide +kernel
theorem dX11_goes_75 : decode cX11_goes 75 = .ok (.iload_n 2, 1) := by decide +kernel
theorem dX11_goes_76 : decode cX11_goes 76 = .ok (.iload 7, 2) := by decide +kernel
theorem dX11_goes_78 : decode cX11_goes 78 = .ok (.iadd, 1) := by decide +kernel
theorem dX11_goes_79 : decode cX11_goes 79 = .ok (.iaload, 1) := by decide +kernel
theorem dX11_goes_80 : decode cX11_goes 80 = .ok (.istore 8, 2) := by decide +kernel
theorem dX11_goes_82 : decode cX11_goes 82 = .ok (.aload_n 0, 1) := by decide +kernel
theorem dX11_goes_83 : decode cX11_goes 83 = .ok (.invokevirtual 140, 3) := by decide +kernel
theorem dX11_goes_86 : decode cX11_goes 86 = .ok (.iload 8, 2) := by decide +kernel
theorem dX11_goes_88 : decode cX11_goes 88 = .ok (.invokestatic 101, 3) := by decide +kernel
theorem dX11_goes_91 : decode cX11_goes 91 = .ok (.ifCond .eq 15, 3) := by decide +kernel
theorem dX11_goes_94 : decode cX11_goes 94 = .ok (.aload_n 0, 1) := by decide +kernel
theorem dX11_goes_95 : decode cX11_goes 95 = .ok (.getfield 12, 3) := by decide +kernel
theorem dX11_goes_98 : decode cX11_goes 98 = .ok (.iload 8, 2) := by decide +kernel
theorem dX11_goes_100 : decode cX11_goes 100 = .ok (.invokevirtual 143, 3) := by decide +kernel
theorem dX11_goes_103 : decode cX11_goes 103 = .ok (.iinc 6 1, 3) := by decide +kernel
theorem dX11_goes_106 : decode cX11_goes 106 = .ok (.iinc 7 1, 3) := by decide +kernel
theorem dX11_goes_109 : decode cX11_goes 109 = .ok (.goto (-60), 3) := by decide +kernel
theorem dX11_goes_112 : decode cX11_goes 112 = .ok (.iload 6, 2) := by decide +kernel
theorem dX11_goes_114 : decode cX11_goes 114 = .ok (.ireturn, 1) := by decide +kernel
def f_X11_goes_106 (S : Sh) (R : Rw) (ko49 : Iw → Nat → Int32 → Int32 → Nat → Int32 → Int32 → Option (Iw × Int32)) (I : Iw) (a0 : Nat) (x2 : Int32) (x3 : Int32) (a4 : Nat) (x6 : Int32) (x7 : Int32) : Option (Iw × Int32) := ko49 I a0 x2 x3 a4 x6 (x7 + (1 : Int32))
set_option maxHeartbeats 4000000 in
theorem b_X11_goes_106 {E : Ev} {p : Program} {l : Launch} {e : Env} {s : State} {m : MethodId} {args : Array Value} {below : List Frame} {meth : Method} {c : Code} (C : Cx E RX11 cX11_goes 9 p s m c) (hr : meth.sig.returnType = (some .int)) (hk : meth.locks = false) {S : Sh} {R : Rw} {r : Iw × Int32}  {ko49 : Iw → Nat → Int32 → Int32 → Nat → Int32 → Int32 → Option (Iw × Int32)} (hko49 : ∀ (I : Iw) (a0 : Nat) (x2 : Int32) (x3 : Int32) (a4 : Nat) (x6 : Int32) (x7 : Int32), ko49 I a0 x2 x3 a4 x6 x7 = some r → Wk E 9 p l e ({ frames := 4, cells := 0, slots := 0, locals := 88 } : Room) s m args below meth c 0 0 (MQ below (Qw E S R r.1 (some (.int r.2))) args s 0 0 (fun q => E.1 ≤ q)) 49 [(0, .ref (E.1 + a0)), (2, .int x2), (3, .int x3), (4, .ref (E.1 + a4)), (6, .int x6), (7, .int x7)] [] S R I) : ∀ (I : Iw) (a0 : Nat) (x2 : Int32) (x3 : Int32) (a4 : Nat) (x6 : Int32) (x7 : Int32), f_X11_goes_106 S R ko49  I a0 x2 x3 a4 x6 x7 = some r → Wk E 9 p l e ({ frames := 4, cells := 0, slots := 0, locals := 88 } : Room) s m args below meth c 0 0 (MQ below (Qw E S R r.1 (some (.int r.2))) args s 0 0 (fun q => E.1 ≤ q)) 106 [(0, .ref (E.1 + a0)), (2, .int x2), (3, .int x3), (4, .ref (E.1 + a4)), (6, .int x6), (7, .int x7)] [] S R I := by
  intro I a0 x2 x3 a4 x6 x7 h
  rw [f_X11_goes_106] at h
  refine k_iinc (pc := 106) C dX11_goes_106 5 rfl (v := x7 + (1 : Int32)) (by rfl) (by decide) (L2 := [(0, .ref (E.1 + a0)), (2, .int x2), (3, .int x3), (4, .ref (E.1 + a4)), (6, .int x6), (7, .int (x7 + (1 : Int32)))]) rfl ?_
  refine k_goto (pc := 109) C dX11_goes_109 (tgt := 49) (by decide) ?_
  exact hko49 _ _ _ _ _ _ _ h
def f_X11_goes_49 (S : Sh) (R : Rw)  : Nat → Iw → Nat → Int32 → Int32 → Nat → Int32 → Int32 → Option (Iw × Int32)
  | 0, _, _, _, _, _, _, _ => none
  | n + 1, I, a0, x2, x3, a4, x6, x7 => (if x3 ≤ x7 then some (I, x6) else gp (sok S a4 8 3) (bd (f_X8_has S R I a4 (x2 + x7)) (fun r14 => (if r14 = 0 then some (I, (-12 : Int32)) else rl (R a4 2) (fun b16 => gp (aok S 20 b16 (x2 + x7)) (gp (sok S a0 11 12) (bd (f_X11_may S R I a0) (fun r19 => bd (f_X11_holds S R I r19 (I b16 (x2 + x7).toNatClampNeg)) (fun r20 => (if r20 = 0 then f_X11_goes_106 S R (f_X11_goes_49 S R  n) I a0 x2 x3 a4 x6 x7 else rl (R a0 0) (fun b22 => gp (sok S b22 7 16) (bd (f_X7_putOut S R I b22 (I b16 (x2 + x7).toNatClampNeg)) (fun r24 => f_X11_goes_106 S R (f_X11_goes_49 S R  n) r24 a0 x2 x3 a4 (x6 + (1 : Int32)) x7)))))))))))))
set_option maxHeartbeats 4000000 in
theorem b_X11_goes_49 {E : Ev} {p : Program} {l : Launch} {e : Env} {s : State} {m : MethodId} {args : Array Value} {below : List Frame} {meth : Method} {c : Code} (C : Cx E RX11 cX11_goes 9 p s m c) (hr : meth.sig.returnType = (some .int)) (hk : meth.locks = false) {S : Sh} {R : Rw} {r : Iw × Int32}  : ∀ (n : Nat) (I : Iw) (a0 : Nat) (x2 : Int32) (x3 : Int32) (a4 : Nat) (x6 : Int32) (x7 : Int32), f_X11_goes_49 S R  n I a0 x2 x3 a4 x6 x7 = some r → Wk E 9 p l e ({ frames := 4, cells := 0, slots := 0, locals := 88 } : Room) s m args below meth c 0 0 (MQ below (Qw E S R r.1 (some (.int r.2))) args s 0 0 (fun q => E.1 ≤ q)) 49 [(0, .ref (E.1 + a0)), (2, .int x2), (3, .int x3), (4, .ref (E.1 + a4)), (6, .int x6), (7, .int x7)] [] S R I := by
  intro n
  induction n with
  | zero =>
    intro I a0 x2 x3 a4 x6 x7 h
    rw [f_X11_goes_49] at h
    cases h
  | succ n ih =>
    intro I a0 x2 x3 a4 x6 x7 h
    rw [f_X11_goes_49] at h
    refine k_iload (pc := 49) C dX11_goes_49 5 rfl ?_
    refine k_iloadn (pc := 51) C dX11_goes_51 (i := 3) rfl 2 rfl ?_
    refine k_icmp_ge (pc := 52) C dX11_goes_52 (tgt := 112) (by decide) (fun hc12 => ?_) (fun hc12 => ?_)
    · rw [if_pos hc12] at h
      refine k_iload (pc := 112) C dX11_goes_112 4 rfl ?_
      have h := Option.some.inj h
      subst h
      exact k_iret (pc := 114) C hr hk dX11_goes_114
    · rw [if_neg hc12] at h
      refine k_aload (pc := 55) C dX11_goes_55 3 rfl ?_
      refine k_iloadn (pc := 57) C dX11_goes_57 (i := 2) rfl 1 rfl ?_
      refine k_iload (pc := 58) C dX11_goes_58 5 rfl ?_
      refine k_iadd (pc := 60) C dX11_goes_60 ?_
      obtain ⟨hs130, h⟩ := gp_e h
      have hs13 := sok_e hs130
      obtain ⟨r14, hr14, h⟩ := bd_e h
      refine k_V (pc := 61) (st := []) C (c_X8_has hr14) lkV_RX11_224 hs13 rfl rfl rfl (Nat.le_of_ble_eq_true rfl) (Nat.le_of_ble_eq_true rfl) (Nat.le_of_ble_eq_true rfl) (Nat.le_of_ble_eq_true rfl) (Nat.le_of_ble_eq_true rfl) dX11_goes_61 ?_
      refine k_nf (cells2 := 0) (slots2 := 0) (st2 := [.int r14]) rfl rfl rfl ?_
      refine k_if_ne (pc := 64) C dX11_goes_64 (tgt := 70) (by decide) (fun hc15 => ?_) (fun hc15 => ?_)
      · rw [if_neg hc15] at h
        refine k_aload (pc := 70) C dX11_goes_70 3 rfl ?_
        obtain ⟨b16, hb16, h⟩ := rl_e h
        refine k_getR (pc := 72) C lkF_RX11_225_8 hs13 ir_8_2 hb16 dX11_goes_72 ?_
        refine k_iloadn (pc := 75) C dX11_goes_75 (i := 2) rfl 1 rfl ?_
        refine k_iload (pc := 76) C dX11_goes_76 5 rfl ?_
        refine k_iadd (pc := 78) C dX11_goes_78 ?_
        obtain ⟨ha17, h⟩ := gp_e h
        refine k_iald (pc := 79) C ha17 dX11_goes_79 ?_
        refine k_istore (pc := 80) C dX11_goes_80 (by decide) (L2 := [(0, .ref (E.1 + a0)), (2, .int x2), (3, .int x3), (4, .ref (E.1 + a4)), (6, .int x6), (7, .int x7), (8, .int (I b16 (x2 + x7).toNatClampNeg))]) rfl ?_
        refine k_aloadn (pc := 82) C dX11_goes_82 (i := 0) rfl 0 rfl ?_
        obtain ⟨hs180, h⟩ := gp_e h
        have hs18 := sok_e hs180
        obtain ⟨r19, hr19, h⟩ := bd_e h
        refine k_V (pc := 83) (st := []) C (c_X11_may hr19) lkV_RX11_140 hs18 rfl rfl rfl (Nat.le_of_ble_eq_true rfl) (Nat.le_of_ble_eq_true rfl) (Nat.le_of_ble_eq_true rfl) (Nat.le_of_ble_eq_true rfl) (Nat.le_of_ble_eq_true rfl) dX11_goes_83 ?_
        refine k_nf (cells2 := 0) (slots2 := 0) (st2 := [.int r19]) rfl rfl rfl ?_
        refine k_iload (pc := 86) C dX11_goes_86 6 rfl ?_
        obtain ⟨r20, hr20, h⟩ := bd_e h
        refine k_S (pc := 88) (st := []) C (c_X11_holds hr20) lkS_RX11_101 rfl rfl (Nat.le_of_ble_eq_true rfl) (Nat.le_of_ble_eq_true rfl) (Nat.le_of_ble_eq_true rfl) (Nat.le_of_ble_eq_true rfl) (Nat.le_of_ble_eq_true rfl) dX11_goes_88 ?_
        refine k_nf (cells2 := 0) (slots2 := 0) (st2 := [.int r20]) rfl rfl rfl ?_
        refine k_if_eq (pc := 91) C dX11_goes_91 (tgt := 106) (by decide) (fun hc21 => ?_) (fun hc21 => ?_)
        · rw [if_pos hc21] at h
          refine k_loc (L2 := [(0, .ref (E.1 + a0)), (2, .int x2), (3, .int x3), (4, .ref (E.1 + a4)), (6, .int x6), (7, .int x7)]) [0, 1, 2, 3, 4, 5] rfl ?_
          exact b_X11_goes_106 C hr hk ih _ _ _ _ _ _ _ h
        · rw [if_neg hc21] at h
          refine k_aloadn (pc := 94) C dX11_goes_94 (i := 0) rfl 0 rfl ?_
          obtain ⟨b22, hb22, h⟩ := rl_e h
          refine k_getR (pc := 95) C lkF_RX11_12_11 hs18 ir_11_0 hb22 dX11_goes_95 ?_
          refine k_iload (pc := 98) C dX11_goes_98 6 rfl ?_
          obtain ⟨hs230, h⟩ := gp_e h
          have hs23 := sok_e hs230
          obtain ⟨r24, hr24, h⟩ := bd_e h
          refine k_V (pc := 100) (st := []) C (c_X7_putOut hr24) lkV_RX11_143 hs23 rfl rfl rfl (Nat.le_of_ble_eq_true rfl) (Nat.le_of_ble_eq_true rfl) (Nat.le_of_ble_eq_true rfl) (Nat.le_of_ble_eq_true rfl) (Nat.le_of_ble_eq_true rfl) dX11_goes_100 ?_
          refine k_nf (cells2 := 0) (slots2 := 0) (st2 := []) rfl rfl rfl ?_
          refine k_iinc (pc := 103) C dX11_goes_103 4 rfl (v := x6 + (1 : Int32)) (by rfl) (by decide) (L2 := [(0, .ref (E.1 + a0)), (2, .int x2), (3, .int x3), (4, .ref (E.1 + a4)), (6, .int (x6 + (1 : Int32))), (7, .int x7), (8, .int (I b16 (x2 + x7).toNatClampNeg))]) rfl ?_
          refine k_loc (L2 := [(0, .ref (E.1 + a0)), (2, .int x2), (3, .int x3), (4, .ref (E.1 + a4)), (6, .int (x6 + (1 : Int32))), (7, .int x7)]) [0, 1, 2, 3, 4, 5] rfl ?_
          exact b_X11_goes_106 C hr hk ih _ _ _ _ _ _ _ h
      · rw [if_pos hc15] at h
        refine k_bipush (pc := 67) C (v := (-12 : Int32)) dX11_goes_67 (by decide) ?_
        have h := Option.some.inj h
        subst h
        exact k_iret (pc := 69) C hr hk dX11_goes_69
def f_X11_goes (S : Sh) (R : Rw)  (I : Iw) (a0 : Nat) (x1 : Int32) (x2 : Int32) (x3 : Int32) : Option (Iw × Int32) := bd (f_X11_isSheet S R I x1) (fun r1 => (if r1 = 0 then some (I, (-1 : Int32)) else bd (f_X11_isBetween S R I x3 (0 : Int32) (20 : Int32)) (fun r3 => (if r3 = 0 then some (I, (-1 : Int32)) else gp (sok S a0 11 12) (rl (R a0 7) (fun b6 => gp (aok S 23 b6 x1) (rl (R b6 x1.toNatClampNeg) (fun b8 => gp (sok S b8 8 3) (bd (f_X8_refusalAs S R I b8 (0 : Int32)) (fun r10 => (if r10 = 0 then f_X11_goes_49 S R  512 I a0 x2 x3 b8 (0 : Int32) (0 : Int32) else some (I, r10))))))))))))
set_option maxHeartbeats 4000000 in
theorem b_X11_goes {E : Ev} {p : Program} {l : Launch} {e : Env} {s : State} {m : MethodId} {args : Array Value} {below : List Frame} {meth : Method} {c : Code} (C : Cx E RX11 cX11_goes 9 p s m c) (hr : meth.sig.returnType = (some .int)) (hk : meth.locks = false) {S : Sh} {R : Rw} {r : Iw × Int32}  : ∀ (I : Iw) (a0 : Nat) (x1 : Int32) (x2 : Int32) (x3 : Int32), f_X11_goes S R   I a0 x1 x2 x3 = some r → Wk E 9 p l e ({ frames := 4, cells := 0, slots := 0, locals := 88 } : Room) s m args below meth c 0 0 (MQ below (Qw E S R r.1 (some (.int r.2))) args s 0 0 (fun q => E.1 ≤ q)) 0 [(0, .ref (E.1 + a0)), (1, .int x1), (2, .int x2), (3, .int x3)] [] S R I := by
  intro I a0 x1 x2 x3 h
  rw [f_X11_goes] at h
  refine k_iloadn (pc := 0) C dX11_goes_0 (i := 1) rfl 1 rfl ?_
  obtain ⟨r1, hr1, h⟩ := bd_e h
  refine k_S (pc := 1) (st := []) C (c_X11_isSheet hr1) lkS_RX11_215 rfl rfl (Nat.le_of_ble_eq_true rfl) (Nat.le_of_ble_eq_true rfl) (Nat.le_of_ble_eq_true rfl) (Nat.le_of_ble_eq_true rfl) (Nat.le_of_ble_eq_true rfl) dX11_goes_1 ?_
  refine k_nf (cells2 := 0) (slots2 := 0) (st2 := [.int r1]) rfl rfl rfl ?_
  refine k_if_eq (pc := 4) C dX11_goes_4 (tgt := 17) (by decide) (fun hc2 => ?_) (fun hc2 => ?_)
  · rw [if_pos hc2] at h
    refine k_iconst (pc := 17) C (v := (-1 : Int32)) dX11_goes_17 (by decide) ?_
    have h := Option.some.inj h
    subst h
    exact k_iret (pc := 18) C hr hk dX11_goes_18
  · rw [if_neg hc2] at h
    refine k_iloadn (pc := 7) C dX11_goes_7 (i := 3) rfl 3 rfl ?_
    refine k_iconst (pc := 8) C (v := (0 : Int32)) dX11_goes_8 (by decide) ?_
    refine k_bipush (pc := 9) C (v := (20 : Int32)) dX11_goes_9 (by decide) ?_
    obtain ⟨r3, hr3, h⟩ := bd_e h
    refine k_S (pc := 11) (st := []) C (c_X11_isBetween hr3) lkS_RX11_55 rfl rfl (Nat.le_of_ble_eq_true rfl) (Nat.le_of_ble_eq_true rfl) (Nat.le_of_ble_eq_true rfl) (Nat.le_of_ble_eq_true rfl) (Nat.le_of_ble_eq_true rfl) dX11_goes_11 ?_
    refine k_nf (cells2 := 0) (slots2 := 0) (st2 := [.int r3]) rfl rfl rfl ?_
    refine k_if_ne (pc := 14) C dX11_goes_14 (tgt := 19) (by decide) (fun hc4 => ?_) (fun hc4 => ?_)
    · rw [if_neg hc4] at h
      refine k_aloadn (pc := 19) C dX11_goes_19 (i := 0) rfl 0 rfl ?_
      obtain ⟨hs50, h⟩ := gp_e h
      have hs5 := sok_e hs50
      obtain ⟨b6, hb6, h⟩ := rl_e h
      refine k_getR (pc := 20) C lkF_RX11_41_11 hs5 ir_11_7 hb6 dX11_goes_20 ?_
      refine k_iloadn (pc := 23) C dX11_goes_23 (i := 1) rfl 1 rfl ?_
      obtain ⟨ha7, h⟩ := gp_e h
      obtain ⟨b8, hb8, h⟩ := rl_e h
      refine k_aald (pc := 24) C (t := 23) (by decide) ha7 dX11_goes_24 ?_
      rw [hb8]
      refine k_nf (cells2 := 0) (slots2 := 0) (st2 := [.ref (E.1 + b8)]) rfl rfl rfl ?_
      refine k_astore (pc := 25) C dX11_goes_25 (by decide) (L2 := [(0, .ref (E.1 + a0)), (1, .int x1), (2, .int x2), (3, .int x3), (4, .ref (E.1 + b8))]) rfl ?_
      refine k_aload (pc := 27) C dX11_goes_27 4 rfl ?_
      refine k_iconst (pc := 29) C (v := (0 : Int32)) dX11_goes_29 (by decide) ?_
      obtain ⟨hs90, h⟩ := gp_e h
      have hs9 := sok_e hs90
      obtain ⟨r10, hr10, h⟩ := bd_e h
      refine k_V (pc := 30) (st := []) C (c_X8_refusalAs hr10) lkV_RX11_231 hs9 rfl rfl rfl (Nat.le_of_ble_eq_true rfl) (Nat.le_of_ble_eq_true rfl) (Nat.le_of_ble_eq_true rfl) (Nat.le_of_ble_eq_true rfl) (Nat.le_of_ble_eq_true rfl) dX11_goes_30 ?_
      refine k_nf (cells2 := 0) (slots2 := 0) (st2 := [.int r10]) rfl rfl rfl ?_
      refine k_istore (pc := 33) C dX11_goes_33 (by decide) (L2 := [(0, .ref (E.1 + a0)), (1, .int x1), (2, .int x2), (3, .int x3), (4, .ref (E.1 + b8)), (5, .int r10)]) rfl ?_
      refine k_iload (pc := 35) C dX11_goes_35 5 rfl ?_
      refine k_if_eq (pc := 37) C dX11_goes_37 (tgt := 43) (by decide) (fun hc11 => ?_) (fun hc11 => ?_)
      · rw [if_pos hc11] at h
        refine k_iconst (pc := 43) C (v := (0 : Int32)) dX11_goes_43 (by decide) ?_
        refine k_istore (pc := 44) C dX11_goes_44 (by decide) (L2 := [(0, .ref (E.1 + a0)), (1, .int x1), (2, .int x2), (3, .int x3), (4, .ref (E.1 + b8)), (5, .int r10), (6, .int (0 : Int32))]) rfl ?_
        refine k_iconst (pc := 46) C (v := (0 : Int32)) dX11_goes_46 (by decide) ?_
        refine k_istore (pc := 47) C dX11_goes_47 (by decide) (L2 := [(0, .ref (E.1 + a0)), (1, .int x1), (2, .int x2), (3, .int x3), (4, .ref (E.1 + b8)), (5, .int r10), (6, .int (0 : Int32)), (7, .int (0 : Int32))]) rfl ?_
        refine k_loc (L2 := [(0, .ref (E.1 + a0)), (2, .int x2), (3, .int x3), (4, .ref (E.1 + b8)), (6, .int (0 : Int32)), (7, .int (0 : Int32))]) [0, 2, 3, 4, 6, 7] rfl ?_
        exact b_X11_goes_49 C hr hk  _ _ _ _ _ _ _ _ h
      · rw [if_neg hc11] at h
        refine k_iload (pc := 40) C dX11_goes_40 5 rfl ?_
        have h := Option.some.inj h
        subst h
        exact k_iret (pc := 42) C hr hk dX11_goes_42
    · rw [if_pos hc4] at h
      refine k_iconst (pc := 17) C (v := (-1 : Int32)) dX11_goes_17 (by decide) ?_
      have h := Option.some.inj h
      subst h
      exact k_iret (pc := 18) C hr hk dX11_goes_18
theorem c_X11_goes {E : Ev} {l : Launch} {S : Sh} {R : Rw} {I : Iw} {a0 : Nat} {x1 : Int32} {x2 : Int32} {x3 : Int32} {r : Iw × Int32} (h : f_X11_goes S R I a0 x1 x2 x3 = some r) : Mt E l yX11_goes cX11_goes 9 (some .int) 4 88 [.ref (E.1 + a0), .int x1, .int x2, .int x3] S R I S R r.1 (some (.int r.2)) 0 0 := mt_of (by decide) (Nat.le_of_ble_eq_true rfl) (fun p e s m args below meth c C hr hk hn => b_X11_goes C hr hk _ _ _ _ _ h)
theorem dX11_goats_0 : decode cX11_goats 0 = .ok (.iload_n 1, 1) := by decide +kernel
theorem dX11_goats_1 : decode cX11_goats 1 = .ok (.invokestatic 215, 3) := by decide +kernel
theorem dX11_goats_4 : decode cX11_goats 4 = .ok (.ifCond .eq 13, 3) := by decide +kernel
theorem dX11_goats_7 : decode cX11_goats 7 = .ok (.iload_n 3, 1) := by decide +kernel
theorem dX11_goats_8 : decode cX11_goats 8 = .ok (.iconst 0, 1) := by decide +kernel
theorem dX11_goats_9 : decode cX11_goats 9 = .ok (.bipush 9, 2) := by decide +kernel
theorem dX11_goats_11 : decode cX11_goats 11 = .ok (.invokestatic 55, 3) := by decide +kernel
theorem dX11_goats_14 : decode cX11_goats 14 = .ok (.ifCond .ne 5, 3) := by decide +kernel
theorem dX11_goats_17 : decode cX11_goats 17 = .ok (.iconst (-1), 1) := by decide +kernel
theorem dX11_goats_18 : decode cX11_goats 18 = .ok (.ireturn, 1) := by decide +kernel
theorem dX11_goats_19 : decode cX11_goats 19 = .ok (.aload_n 0, 1) := by decide +kernel
theorem dX11_goats_20 : decode cX11_goats 20 = .ok (.getfield 41, 3) := by decide +kernel
theorem dX11_goats_23 : decode cX11_goats 23 = .ok (.iload_n 1, 1) := by decide +kernel
theorem dX11_goats_24 : decode cX11_goats 24 = .ok (.aaload, 1) := by decide +kernel
theorem dX11_goats_25 : decode cX11_goats 25 = .ok (.astore 4, 2) := by decide +kernel
theorem dX11_goats_27 : decode cX11_goats 27 = .ok (.aload 4, 2) := by decide +kernel
theorem dX11_goats_29 : decode cX11_goats 29 = .ok (.iconst 0, 1) := by decide +kernel
theorem dX11_goats_30 : decode cX11_goats 30 = .ok (.invokevirtual 231, 3) := by decide +kernel
theorem dX11_goats_33 : decode cX11_goats 33 = .ok (.istore 5, 2) := by decide +kernel
theorem dX11_goats_35 : decode cX11_goats 35 = .ok (.iload 5, 2) := by decide +kernel
theorem dX11_goats_37 : decode cX11_goats 37 = .ok (.ifCond .eq 6, 3) := by decide +kernel
theorem dX11_goats_40 : decode cX11_goats 40 = .ok (.iload 5, 2) := by decide +kernel
theorem dX11_goats_42 : decode cX11_goats 42 = .ok (.ireturn, 1) := by decide +kernel
theorem dX11_goats_43 : decode cX11_goats 43 = .ok (.iconst 0, 1) := by decide +kernel
theorem dX11_goats_44 : decode cX11_goats 44 = .ok (.istore 6, 2) := by decide +kernel
theorem dX11_goats_46 : decode cX11_goats 46 = .ok (.aload_n 0, 1) := by decide +kernel
theorem dX11_goats_47 : decode cX11_goats 47 = .ok (.getfield 12, 3) := by decide +kernel
theorem dX11_goats_50 : decode cX11_goats 50 = .ok (.getfield 89, 3) := by decide +kernel
theorem dX11_goats_53 : decode cX11_goats 53 = .ok (.istore 7, 2) := by decide +kernel
theorem dX11_goats_55 : decode cX11_goats 55 = .ok (.aload_n 0, 1) := by decide +kernel
theorem dX11_goats_56 : decode cX11_goats 56 = .ok (.getfield 12, 3) := by decide +kernel
theorem dX11_goats_59 : decode cX11_goats 59 = .ok (.invokevirtual 93, 3) := by decide +kernel
theorem dX11_goats_62 : decode cX11_goats 62 = .ok (.istore 8, 2) := by decide +kernel
theorem dX11_goats_64 : decode cX11_goats 64 = .ok (.iconst 0, 1) := by decide +kernel
theorem dX11_goats_65 : decode cX11_goats 65 = .ok (.istore 9, 2) := by decide +kernel
theorem dX11_goats_67 : decode cX11_goats 67 = .ok (.iload 9, 2) := by decide +kernel
theorem dX11_goats_69 : decode cX11_goats 69 = .ok (.iload_n 3, 1) := by decide +kernel
theorem dX11_goats_70 : decode cX11_goats 70 = .ok (.if_icmp .ge 91, 3) := by decide +kernel
theorem dX11_goats_73 : decode cX11_goats 73 = .ok (.aload 4, 2) := by decide +kernel
theorem dX11_goats_75 : decode cX11_goats 75 = .ok (.iload_n 2, 1) := by decide +kernel
theorem dX11_goats_76 : decode cX11_goats 76 = .ok (.iload 9, 2) := by decide +kernel
theorem dX11_goats_78 : decode cX11_goats 78 = .ok (.iadd, 1) := by decide +kernel
theorem dX11_goats_79 : decode cX11_goats 79 = .ok (.invokevirtual 224, 3) := by decide +kernel
theorem dX11_goats_82 : decode cX11_goats 82 = .ok (.ifCond .ne 6, 3) := by decide +kernel
theorem dX11_goats_85 : decode cX11_goats 85 = .ok (.bipush (-12), 2) := by decide +kernel
theorem dX11_goats_87 : decode cX11_goats 87 = .ok (.ireturn, 1) := by decide +kernel
theorem dX11_goats_88 : decode cX11_goats 88 = .ok (.aload 4, 2) := by decide +kernel
theorem dX11_goats_90 : decode cX11_goats 90 = .ok (.getfield 225, 3) := by decide +kernel
theorem dX11_goats_93 : decode cX11_goats 93 = .ok (.iload_n 2, 1) := by decide +kernel
theorem dX11_goats_94 : decode cX11_goats 94 = .ok (.iload 9, 2) := by decide +kernel
theorem dX11_goats_96 : decode cX11_goats 96 = .ok (.iadd, 1) := by decide +kernel
theorem dX11_goats_97 : decode cX11_goats 97 = .ok (.iaload, 1) := by decide +kernel
theorem dX11_goats_98 : decode cX11_goats 98 = .ok (.istore 10, 2) := by decide +kernel
theorem dX11_goats_100 : decode cX11_goats 100 = .ok (.aload_n 0, 1) := by decide +kernel
theorem dX11_goats_101 : decode cX11_goats 101 = .ok (.getfield 12, 3) := by decide +kernel
theorem dX11_goats_104 : decode cX11_goats 104 = .ok (.iload 7, 2) := by decide +kernel
theorem dX11_goats_106 : decode cX11_goats 106 = .ok (.invokevirtual 105, 3) := by decide +kernel
theorem dX11_goats_109 : decode cX11_goats 109 = .ok (.iload 10, 2) := by decide +kernel
theorem dX11_goats_111 : decode cX11_goats 111 = .ok (.invokestatic 101, 3) := by decide +kernel
theorem dX11_goats_114 : decode cX11_goats 114 = .ok (.ifCond .ne 6, 3) := by decide +kernel
theorem dX11_goats_117 : decode cX11_goats 117 = .ok (.bipush (-4), 2) := by decide +kernel
theorem dX11_goats_119 : decode cX11_goats 119 = .ok (.ireturn, 1) := by decide +kernel
theorem dX11_goats_120 : decode cX11_goats 120 = .ok (.aload_n 0, 1) := by decide +kernel
theorem dX11_goats_121 : decode cX11_goats 121 = .ok (.getfield 12, 3) := by decide +kernel
theorem dX11_goats_124 : decode cX11_goats 124 = .ok (.iload 7, 2) := by decide +kernel
theorem dX11_goats_126 : decode cX11_goats 126 = .ok (.iload 8, 2) := by decide +kernel
theorem dX11_goats_128 : decode cX11_goats 128 = .ok (.invokevirtual 97, 3) := by decide +kernel
theorem dX11_goats_131 : decode cX11_goats 131 = .ok (.iload 10, 2) := by decide +kernel
theorem dX11_goats_133 : decode cX11_goats 133 = .ok (.invokestatic 101, 3) := by decide +kernel
theorem dX11_goats_136 : decode cX11_goats 136 = .ok (.ifCond .ne 6, 3) := by decide +kernel
theorem dX11_goats_139 : decode cX11_goats 139 = .ok (.iinc 6 1, 3) := by decide +kernel
theorem dX11_goats_142 : decode cX11_goats 142 = .ok (.iload 7, 2) := by decide +kernel
theorem dX11_goats_144 : decode cX11_goats 144 = .ok (.iload 10, 2) := by decide +kernel
theorem dX11_goats_146 : decode cX11_goats 146 = .ok (.invokestatic 173, 3) := by decide +kernel
theorem dX11_goats_149 : decode cX11_goats 149 = .ok (.istore 7, 2) := by decide +kernel
theorem dX11_goats_151 : decode cX11_goats 151 = .ok (.iload 10, 2) := by decide +kernel
theorem dX11_goats_153 : decode cX11_goats 153 = .ok (.istore 8, 2) := by decide +kernel
theorem dX11_goats_155 : decode cX11_goats 155 = .ok (.iinc 9 1, 3) := by decide +kernel
theorem dX11_goats_158 : decode cX11_goats 158 = .ok (.goto (-91), 3) := by decide +kernel
theorem dX11_goats_161 : decode cX11_goats 161 = .ok (.iload 6, 2) := by decide +kernel
theorem dX11_goats_163 : decode cX11_goats 163 = .ok (.ireturn, 1) := by decide +kernel
def f_X11_goats_142 (S : Sh) (R : Rw) (I : Iw) (ko67 : Nat → Int32 → Int32 → Nat → Int32 → Int32 → Int32 → Int32 → Option (Int32)) (a0 : Nat) (x2 : Int32) (x3 : Int32) (a4 : Nat) (x6 : Int32) (x7 : Int32) (x9 : Int32) (x10 : Int32) : Option (Int32) := bd (f_X11_without S R I x7 x10) (fun r34 => ko67 a0 x2 x3 a4 x6 r34 x10 (x9 + (1 : Int32)))
set_option maxHeartbeats 4000000 in
theorem b_X11_goats_142 {E : Ev} {p : Program} {l : Launch} {e : Env} {s : State} {m : MethodId} {args : Array Value} {below : List Frame} {meth : Method} {c : Code} (C : Cx E RX11 cX11_goats 11 p s m c) (hr : meth.sig.returnType = (some .int)) (hk : meth.locks = false) {S : Sh} {R : Rw} {I : Iw} {r : Int32}  {ko67 : Nat → Int32 → Int32 → Nat → Int32 → Int32 → Int32 → Int32 → Option (Int32)} (hko67 : ∀ (a0 : Nat) (x2 : Int32) (x3 : Int32) (a4 : Nat) (x6 : Int32) (x7 : Int32) (x8 : Int32) (x9 : Int32), ko67 a0 x2 x3 a4 x6 x7 x8 x9 = some r → Wk E 11 p l e ({ frames := 3, cells := 0, slots := 0, locals := 68 } : Room) s m args below meth c 0 0 (MQ below (Qw E S R I (some (.int r))) args s 0 0 (fun q => E.1 ≤ q)) 67 [(0, .ref (E.1 + a0)), (2, .int x2), (3, .int x3), (4, .ref (E.1 + a4)), (6, .int x6), (7, .int x7), (8, .int x8), (9, .int x9)] [] S R I) : ∀ (a0 : Nat) (x2 : Int32) (x3 : Int32) (a4 : Nat) (x6 : Int32) (x7 : Int32) (x9 : Int32) (x10 : Int32), f_X11_goats_142 S R I ko67  a0 x2 x3 a4 x6 x7 x9 x10 = some r → Wk E 11 p l e ({ frames := 3, cells := 0, slots := 0, locals := 68 } : Room) s m args below meth c 0 0 (MQ below (Qw E S R I (some (.int r))) args s 0 0 (fun q => E.1 ≤ q)) 142 [(0, .ref (E.1 + a0)), (2, .int x2), (3, .int x3), (4, .ref (E.1 + a4)), (6, .int x6), (7, .int x7), (9, .int x9), (10, .int x10)] [] S R I := by
  intro a0 x2 x3 a4 x6 x7 x9 x10 h
  rw [f_X11_goats_142] at h
  refine k_iload (pc := 142) C dX11_goats_142 5 rfl ?_
  refine k_iload (pc := 144) C dX11_goats_144 7 rfl ?_
  obtain ⟨r34, hr34, h⟩ := bd_e h
  refine k_S (pc := 146) (st := []) C (c_X11_without hr34) lkS_RX11_173 rfl rfl (Nat.le_of_ble_eq_true rfl) (Nat.le_of_ble_eq_true rfl) (Nat.le_of_ble_eq_true rfl) (Nat.le_of_ble_eq_true rfl) (Nat.le_of_ble_eq_true rfl) dX11_goats_146 ?_
  refine k_nf (cells2 := 0) (slots2 := 0) (st2 := [.int r34]) rfl rfl rfl ?_
  refine k_istore (pc := 149) C dX11_goats_149 (by decide) (L2 := [(0, .ref (E.1 + a0)), (2, .int x2), (3, .int x3), (4, .ref (E.1 + a4)), (6, .int x6), (7, .int r34), (9, .int x9), (10, .int x10)]) rfl ?_
  refine k_iload (pc := 151) C dX11_goats_151 7 rfl ?_
  refine k_istore (pc := 153) C dX11_goats_153 (by decide) (L2 := [(0, .ref (E.1 + a0)), (2, .int x2), (3, .int x3), (4, .ref (E.1 + a4)), (6, .int x6), (7, .int r34), (8, .int x10), (9, .int x9), (10, .int x10)]) rfl ?_
  refine k_iinc (pc := 155) C dX11_goats_155 7 rfl (v := x9 + (1 : Int32)) (by rfl) (by decide) (L2 := [(0, .ref (E.1 + a0)), (2, .int x2), (3, .int x3), (4, .ref (E.1 + a4)), (6, .int x6), (7, .int r34), (8, .int x10), (9, .int (x9 + (1 : Int32))), (10, .int x10)]) rfl ?_
  refine k_goto (pc := 158) C dX11_goats_158 (tgt := 67) (by decide) ?_
  refine k_loc (L2 := [(0, .ref (E.1 + a0)), (2, .int x2), (3, .int x3), (4, .ref (E.1 + a4)), (6, .int x6), (7, .int r34), (8, .int x10), (9, .int (x9 + (1 : Int32)))]) [0, 1, 2, 3, 4, 5, 6, 7] rfl ?_
  exact hko67 _ _ _ _ _ _ _ _ h
def f_X11_goats_67 (S : Sh) (R : Rw) (I : Iw)  : Nat → Nat → Int32 → Int32 → Nat → Int32 → Int32 → Int32 → Int32 → Option (Int32)
  | 0, _, _, _, _, _, _, _, _ => none
  | n + 1, a0, x2, x3, a4, x6, x7, x8, x9 => (if x3 ≤ x9 then some x6 else gp (sok S a4 8 3) (bd (f_X8_has S R I a4 (x2 + x9)) (fun r19 => (if r19 = 0 then some (-12 : Int32) else rl (R a4 2) (fun b21 => gp (aok S 20 b21 (x2 + x9)) (gp (sok S a0 11 12) (rl (R a0 0) (fun b24 => gp (sok S b24 7 16) (bd (f_X7_topsOf S R I b24 x7) (fun r26 => bd (f_X11_holds S R I r26 (I b21 (x2 + x9).toNatClampNeg)) (fun r27 => (if r27 = 0 then some (-4 : Int32) else rl (R a0 0) (fun b29 => gp (sok S b29 7 16) (bd (f_X7_mayGo S R I b29 x7 x8) (fun r31 => bd (f_X11_holds S R I r31 (I b21 (x2 + x9).toNatClampNeg)) (fun r32 => (if r32 = 0 then f_X11_goats_142 S R I (f_X11_goats_67 S R I  n) a0 x2 x3 a4 (x6 + (1 : Int32)) x7 x9 (I b21 (x2 + x9).toNatClampNeg) else f_X11_goats_142 S R I (f_X11_goats_67 S R I  n) a0 x2 x3 a4 x6 x7 x9 (I b21 (x2 + x9).toNatClampNeg))))))))))))))))))
set_option maxHeartbeats 4000000 in
theorem b_X11_goats_67 {E : Ev} {p : Program} {l : Launch} {e : Env} {s : State} {m : MethodId} {args : Array Value} {below : List Frame} {meth : Method} {c : Code} (C : Cx E RX11 cX11_goats 11 p s m c) (hr : meth.sig.returnType = (some .int)) (hk : meth.locks = false) {S : Sh} {R : Rw} {I : Iw} {r : Int32}  : ∀ (n : Nat) (a0 : Nat) (x2 : Int32) (x3 : Int32) (a4 : Nat) (x6 : Int32) (x7 : Int32) (x8 : Int32) (x9 : Int32), f_X11_goats_67 S R I  n a0 x2 x3 a4 x6 x7 x8 x9 = some r → Wk E 11 p l e ({ frames := 3, cells := 0, slots := 0, locals := 68 } : Room) s m args below meth c 0 0 (MQ below (Qw E S R I (some (.int r))) args s 0 0 (fun q => E.1 ≤ q)) 67 [(0, .ref (E.1 + a0)), (2, .int x2), (3, .int x3), (4, .ref (E.1 + a4)), (6, .int x6), (7, .int x7), (8, .int x8), (9, .int x9)] [] S R I := by
  intro n
  induction n with
  | zero =>
    intro a0 x2 x3 a4 x6 x7 x8 x9 h
    rw [f_X11_goats_67] at h
    cases h
  | succ n ih =>
    intro a0 x2 x3 a4 x6 x7 x8 x9 h
    rw [f_X11_goats_67] at h
    refine k_iload (pc := 67) C dX11_goats_67 7 rfl ?_
    refine k_iloadn (pc := 69) C dX11_goats_69 (i := 3) rfl 2 rfl ?_
    refine k_icmp_ge (pc := 70) C dX11_goats_70 (tgt := 161) (by decide) (fun hc17 => ?_) (fun hc17 => ?_)
    · rw [if_pos hc17] at h
      refine k_iload (pc := 161) C dX11_goats_161 4 rfl ?_
      have h := Option.some.inj h
      subst h
      exact k_iret (pc := 163) C hr hk dX11_goats_163
    · rw [if_neg hc17] at h
      refine k_aload (pc := 73) C dX11_goats_73 3 rfl ?_
      refine k_iloadn (pc := 75) C dX11_goats_75 (i := 2) rfl 1 rfl ?_
      refine k_iload (pc := 76) C dX11_goats_76 7 rfl ?_
      refine k_iadd (pc := 78) C dX11_goats_78 ?_
      obtain ⟨hs180, h⟩ := gp_e h
      have hs18 := sok_e hs180
      obtain ⟨r19, hr19, h⟩ := bd_e h
      refine k_V (pc := 79) (st := []) C (c_X8_has hr19) lkV_RX11_224 hs18 rfl rfl rfl (Nat.le_of_ble_eq_true rfl) (Nat.le_of_ble_eq_true rfl) (Nat.le_of_ble_eq_true rfl) (Nat.le_of_ble_eq_true rfl) (Nat.le_of_ble_eq_true rfl) dX11_goats_79 ?_
      refine k_nf (cells2 := 0) (slots2 := 0) (st2 := [.int r19]) rfl rfl rfl ?_
      refine k_if_ne (pc := 82) C dX11_goats_82 (tgt := 88) (by decide) (fun hc20 => ?_) (fun hc20 => ?_)
      · rw [if_neg hc20] at h
        refine k_aload (pc := 88) C dX11_goats_88 3 rfl ?_
        obtain ⟨b21, hb21, h⟩ := rl_e h
        refine k_getR (pc := 90) C lkF_RX11_225_8 hs18 ir_8_2 hb21 dX11_goats_90 ?_
        refine k_iloadn (pc := 93) C dX11_goats_93 (i := 2) rfl 1 rfl ?_
        refine k_iload (pc := 94) C dX11_goats_94 7 rfl ?_
        refine k_iadd (pc := 96) C dX11_goats_96 ?_
        obtain ⟨ha22, h⟩ := gp_e h
        refine k_iald (pc := 97) C ha22 dX11_goats_97 ?_
        refine k_istore (pc := 98) C dX11_goats_98 (by decide) (L2 := [(0, .ref (E.1 + a0)), (2, .int x2), (3, .int x3), (4, .ref (E.1 + a4)), (6, .int x6), (7, .int x7), (8, .int x8), (9, .int x9), (10, .int (I b21 (x2 + x9).toNatClampNeg))]) rfl ?_
        refine k_aloadn (pc := 100) C dX11_goats_100 (i := 0) rfl 0 rfl ?_
        obtain ⟨hs230, h⟩ := gp_e h
        have hs23 := sok_e hs230
        obtain ⟨b24, hb24, h⟩ := rl_e h
        refine k_getR (pc := 101) C lkF_RX11_12_11 hs23 ir_11_0 hb24 dX11_goats_101 ?_
        refine k_iload (pc := 104) C dX11_goats_104 5 rfl ?_
        obtain ⟨hs250, h⟩ := gp_e h
        have hs25 := sok_e hs250
        obtain ⟨r26, hr26, h⟩ := bd_e h
        refine k_V (pc := 106) (st := []) C (c_X7_topsOf hr26) lkV_RX11_105 hs25 rfl rfl rfl (Nat.le_of_ble_eq_true rfl) (Nat.le_of_ble_eq_true rfl) (Nat.le_of_ble_eq_true rfl) (Nat.le_of_ble_eq_true rfl) (Nat.le_of_ble_eq_true rfl) dX11_goats_106 ?_
        refine k_nf (cells2 := 0) (slots2 := 0) (st2 := [.int r26]) rfl rfl rfl ?_
        refine k_iload (pc := 109) C dX11_goats_109 8 rfl ?_
        obtain ⟨r27, hr27, h⟩ := bd_e h
        refine k_S (pc := 111) (st := []) C (c_X11_holds hr27) lkS_RX11_101 rfl rfl (Nat.le_of_ble_eq_true rfl) (Nat.le_of_ble_eq_true rfl) (Nat.le_of_ble_eq_true rfl) (Nat.le_of_ble_eq_true rfl) (Nat.le_of_ble_eq_true rfl) dX11_goats_111 ?_
        refine k_nf (cells2 := 0) (slots2 := 0) (st2 := [.int r27]) rfl rfl rfl ?_
        refine k_if_ne (pc := 114) C dX11_goats_114 (tgt := 120) (by decide) (fun hc28 => ?_) (fun hc28 => ?_)
        · rw [if_neg hc28] at h
          refine k_aloadn (pc := 120) C dX11_goats_120 (i := 0) rfl 0 rfl ?_
          obtain ⟨b29, hb29, h⟩ := rl_e h
          refine k_getR (pc := 121) C lkF_RX11_12_11 hs23 ir_11_0 hb29 dX11_goats_121 ?_
          refine k_iload (pc := 124) C dX11_goats_124 5 rfl ?_
          refine k_iload (pc := 126) C dX11_goats_126 6 rfl ?_
          obtain ⟨hs300, h⟩ := gp_e h
          have hs30 := sok_e hs300
          obtain ⟨r31, hr31, h⟩ := bd_e h
          refine k_V (pc := 128) (st := []) C (c_X7_mayGo hr31) lkV_RX11_97 hs30 rfl rfl rfl (Nat.le_of_ble_eq_true rfl) (Nat.le_of_ble_eq_true rfl) (Nat.le_of_ble_eq_true rfl) (Nat.le_of_ble_eq_true rfl) (Nat.le_of_ble_eq_true rfl) dX11_goats_128 ?_
          refine k_nf (cells2 := 0) (slots2 := 0) (st2 := [.int r31]) rfl rfl rfl ?_
          refine k_iload (pc := 131) C dX11_goats_131 8 rfl ?_
          obtain ⟨r32, hr32, h⟩ := bd_e h
          refine k_S (pc := 133) (st := []) C (c_X11_holds hr32) lkS_RX11_101 rfl rfl (Nat.le_of_ble_eq_true rfl) (Nat.le_of_ble_eq_true rfl) (Nat.le_of_ble_eq_true rfl) (Nat.le_of_ble_eq_true rfl) (Nat.le_of_ble_eq_true rfl) dX11_goats_133 ?_
          refine k_nf (cells2 := 0) (slots2 := 0) (st2 := [.int r32]) rfl rfl rfl ?_
          refine k_if_ne (pc := 136) C dX11_goats_136 (tgt := 142) (by decide) (fun hc33 => ?_) (fun hc33 => ?_)
          · rw [if_neg hc33] at h
            refine k_loc (L2 := [(0, .ref (E.1 + a0)), (2, .int x2), (3, .int x3), (4, .ref (E.1 + a4)), (6, .int x6), (7, .int x7), (9, .int x9), (10, .int (I b21 (x2 + x9).toNatClampNeg))]) [0, 1, 2, 3, 4, 5, 7, 8] rfl ?_
            exact b_X11_goats_142 C hr hk ih _ _ _ _ _ _ _ _ h
          · rw [if_pos hc33] at h
            refine k_iinc (pc := 139) C dX11_goats_139 4 rfl (v := x6 + (1 : Int32)) (by rfl) (by decide) (L2 := [(0, .ref (E.1 + a0)), (2, .int x2), (3, .int x3), (4, .ref (E.1 + a4)), (6, .int (x6 + (1 : Int32))), (7, .int x7), (8, .int x8), (9, .int x9), (10, .int (I b21 (x2 + x9).toNatClampNeg))]) rfl ?_
            refine k_loc (L2 := [(0, .ref (E.1 + a0)), (2, .int x2), (3, .int x3), (4, .ref (E.1 + a4)), (6, .int (x6 + (1 : Int32))), (7, .int x7), (9, .int x9), (10, .int (I b21 (x2 + x9).toNatClampNeg))]) [0, 1, 2, 3, 4, 5, 7, 8] rfl ?_
            exact b_X11_goats_142 C hr hk ih _ _ _ _ _ _ _ _ h
        · rw [if_pos hc28] at h
          refine k_bipush (pc := 117) C (v := (-4 : Int32)) dX11_goats_117 (by decide) ?_
          have h := Option.some.inj h
          subst h
          exact k_iret (pc := 119) C hr hk dX11_goats_119
      · rw [if_pos hc20] at h
        refine k_bipush (pc := 85) C (v := (-12 : Int32)) dX11_goats_85 (by decide) ?_
        have h := Option.some.inj h
        subst h
        exact k_iret (pc := 87) C hr hk dX11_goats_87
def f_X11_goats (S : Sh) (R : Rw) (I : Iw)  (a0 : Nat) (x1 : Int32) (x2 : Int32) (x3 : Int32) : Option (Int32) := bd (f_X11_isSheet S R I x1) (fun r1 => (if r1 = 0 then some (-1 : Int32) else bd (f_X11_isBetween S R I x3 (0 : Int32) (9 : Int32)) (fun r3 => (if r3 = 0 then some (-1 : Int32) else gp (sok S a0 11 12) (rl (R a0 7) (fun b6 => gp (aok S 23 b6 x1) (rl (R b6 x1.toNatClampNeg) (fun b8 => gp (sok S b8 8 3) (bd (f_X8_refusalAs S R I b8 (0 : Int32)) (fun r10 => (if r10 = 0 then rl (R a0 0) (fun b12 => gp (sok S b12 7 16) (rl (R a0 0) (fun b14 => gp (sok S b14 7 16) (bd (f_X7_last S R I b14) (fun r16 => f_X11_goats_67 S R I  512 a0 x2 x3 b8 (0 : Int32) (I b12 6) r16 (0 : Int32)))))) else some r10)))))))))))
set_option maxHeartbeats 4000000 in
theorem b_X11_goats {E : Ev} {p : Program} {l : Launch} {e : Env} {s : State} {m : MethodId} {args : Array Value} {below : List Frame} {meth : Method} {c : Code} (C : Cx E RX11 cX11_goats 11 p s m c) (hr : meth.sig.returnType = (some .int)) (hk : meth.locks = false) {S : Sh} {R : Rw} {I : Iw} {r : Int32}  : ∀ (a0 : Nat) (x1 : Int32) (x2 : Int32) (x3 : Int32), f_X11_goats S R I   a0 x1 x2 x3 = some r → Wk E 11 p l e ({ frames := 3, cells := 0, slots := 0, locals := 68 } : Room) s m args below meth c 0 0 (MQ below (Qw E S R I (some (.int r))) args s 0 0 (fun q => E.1 ≤ q)) 0 [(0, .ref (E.1 + a0)), (1, .int x1), (2, .int x2), (3, .int x3)] [] S R I := by
  intro a0 x1 x2 x3 h
  rw [f_X11_goats] at h
  refine k_iloadn (pc := 0) C dX11_goats_0 (i := 1) rfl 1 rfl ?_
  obtain ⟨r1, hr1, h⟩ := bd_e h
  refine k_S (pc := 1) (st := []) C (c_X11_isSheet hr1) lkS_RX11_215 rfl rfl (Nat.le_of_ble_eq_true rfl) (Nat.le_of_ble_eq_true rfl) (Nat.le_of_ble_eq_true rfl) (Nat.le_of_ble_eq_true rfl) (Nat.le_of_ble_eq_true rfl) dX11_goats_1 ?_
  refine k_nf (cells2 := 0) (slots2 := 0) (st2 := [.int r1]) rfl rfl rfl ?_
  refine k_if_eq (pc := 4) C dX11_goats_4 (tgt := 17) (by decide) (fun hc2 => ?_) (fun hc2 => ?_)
  · rw [if_pos hc2] at h
    refine k_iconst (pc := 17) C (v := (-1 : Int32)) dX11_goats_17 (by decide) ?_
    have h := Option.some.inj h
    subst h
    exact k_iret (pc := 18) C hr hk dX11_goats_18
  · rw [if_neg hc2] at h
    refine k_iloadn (pc := 7) C dX11_goats_7 (i := 3) rfl 3 rfl ?_
    refine k_iconst (pc := 8) C (v := (0 : Int32)) dX11_goats_8 (by decide) ?_
    refine k_bipush (pc := 9) C (v := (9 : Int32)) dX11_goats_9 (by decide) ?_
    obtain ⟨r3, hr3, h⟩ := bd_e h
    refine k_S (pc := 11) (st := []) C (c_X11_isBetween hr3) lkS_RX11_55 rfl rfl (Nat.le_of_ble_eq_true rfl) (Nat.le_of_ble_eq_true rfl) (Nat.le_of_ble_eq_true rfl) (Nat.le_of_ble_eq_true rfl) (Nat.le_of_ble_eq_true rfl) dX11_goats_11 ?_
    refine k_nf (cells2 := 0) (slots2 := 0) (st2 := [.int r3]) rfl rfl rfl ?_
    refine k_if_ne (pc := 14) C dX11_goats_14 (tgt := 19) (by decide) (fun hc4 => ?_) (fun hc4 => ?_)
    · rw [if_neg hc4] at h
      refine k_aloadn (pc := 19) C dX11_goats_19 (i := 0) rfl 0 rfl ?_
      obtain ⟨hs50, h⟩ := gp_e h
      have hs5 := sok_e hs50
      obtain ⟨b6, hb6, h⟩ := rl_e h
      refine k_getR (pc := 20) C lkF_RX11_41_11 hs5 ir_11_7 hb6 dX11_goats_20 ?_
      refine k_iloadn (pc := 23) C dX11_goats_23 (i := 1) rfl 1 rfl ?_
      obtain ⟨ha7, h⟩ := gp_e h
      obtain ⟨b8, hb8, h⟩ := rl_e h
      refine k_aald (pc := 24) C (t := 23) (by decide) ha7 dX11_goats_24 ?_
      rw [hb8]
      refine k_nf (cells2 := 0) (slots2 := 0) (st2 := [.ref (E.1 + b8)]) rfl rfl rfl ?_
      refine k_astore (pc := 25) C dX11_goats_25 (by decide) (L2 := [(0, .ref (E.1 + a0)), (1, .int x1), (2, .int x2), (3, .int x3), (4, .ref (E.1 + b8))]) rfl ?_
      refine k_aload (pc := 27) C dX11_goats_27 4 rfl ?_
      refine k_iconst (pc := 29) C (v := (0 : Int32)) dX11_goats_29 (by decide) ?_
      obtain ⟨hs90, h⟩ := gp_e h
      have hs9 := sok_e hs90
      obtain ⟨r10, hr10, h⟩ := bd_e h
      refine k_V (pc := 30) (st := []) C (c_X8_refusalAs hr10) lkV_RX11_231 hs9 rfl rfl rfl (Nat.le_of_ble_eq_true rfl) (Nat.le_of_ble_eq_true rfl) (Nat.le_of_ble_eq_true rfl) (Nat.le_of_ble_eq_true rfl) (Nat.le_of_ble_eq_true rfl) dX11_goats_30 ?_
      refine k_nf (cells2 := 0) (slots2 := 0) (st2 := [.int r10]) rfl rfl rfl ?_
      refine k_istore (pc := 33) C dX11_goats_33 (by decide) (L2 := [(0, .ref (E.1 + a0)), (1, .int x1), (2, .int x2), (3, .int x3), (4, .ref (E.1 + b8)), (5, .int r10)]) rfl ?_
      refine k_iload (pc := 35) C dX11_goats_35 5 rfl ?_
      refine k_if_eq (pc := 37) C dX11_goats_37 (tgt := 43) (by decide) (fun hc11 => ?_) (fun hc11 => ?_)
      · rw [if_pos hc11] at h
        refine k_iconst (pc := 43) C (v := (0 : Int32)) dX11_goats_43 (by decide) ?_
        refine k_istore (pc := 44) C dX11_goats_44 (by decide) (L2 := [(0, .ref (E.1 + a0)), (1, .int x1), (2, .int x2), (3, .int x3), (4, .ref (E.1 + b8)), (5, .int r10), (6, .int (0 : Int32))]) rfl ?_
        refine k_aloadn (pc := 46) C dX11_goats_46 (i := 0) rfl 0 rfl ?_
        obtain ⟨b12, hb12, h⟩ := rl_e h
        refine k_getR (pc := 47) C lkF_RX11_12_11 hs5 ir_11_0 hb12 dX11_goats_47 ?_
        obtain ⟨hs130, h⟩ := gp_e h
        have hs13 := sok_e hs130
        refine k_getI (pc := 50) C lkF_RX11_89_7 hs13 ir_7_6 dX11_goats_50 ?_
        refine k_istore (pc := 53) C dX11_goats_53 (by decide) (L2 := [(0, .ref (E.1 + a0)), (1, .int x1), (2, .int x2), (3, .int x3), (4, .ref (E.1 + b8)), (5, .int r10), (6, .int (0 : Int32)), (7, .int (I b12 6))]) rfl ?_
        refine k_aloadn (pc := 55) C dX11_goats_55 (i := 0) rfl 0 rfl ?_
        obtain ⟨b14, hb14, h⟩ := rl_e h
        refine k_getR (pc := 56) C lkF_RX11_12_11 hs5 ir_11_0 hb14 dX11_goats_56 ?_
        obtain ⟨hs150, h⟩ := gp_e h
        have hs15 := sok_e hs150
        obtain ⟨r16, hr16, h⟩ := bd_e h
        refine k_V (pc := 59) (st := []) C (c_X7_last hr16) lkV_RX11_93 hs15 rfl rfl rfl (Nat.le_of_ble_eq_true rfl) (Nat.le_of_ble_eq_true rfl) (Nat.le_of_ble_eq_true rfl) (Nat.le_of_ble_eq_true rfl) (Nat.le_of_ble_eq_true rfl) dX11_goats_59 ?_
        refine k_nf (cells2 := 0) (slots2 := 0) (st2 := [.int r16]) rfl rfl rfl ?_
        refine k_istore (pc := 62) C dX11_goats_62 (by decide) (L2 := [(0, .ref (E.1 + a0)), (1, .int x1), (2, .int x2), (3, .int x3), (4, .ref (E.1 + b8)), (5, .int r10), (6, .int (0 : Int32)), (7, .int (I b12 6)), (8, .int r16)]) rfl ?_
        refine k_iconst (pc := 64) C (v := (0 : Int32)) dX11_goats_64 (by decide) ?_
        refine k_istore (pc := 65) C dX11_goats_65 (by decide) (L2 := [(0, .ref (E.1 + a0)), (1, .int x1), (2, .int x2), (3, .int x3), (4, .ref (E.1 + b8)), (5, .int r10), (6, .int (0 : Int32)), (7, .int (I b12 6)), (8, .int r16), (9, .int (0 : Int32))]) rfl ?_
        refine k_loc (L2 := [(0, .ref (E.1 + a0)), (2, .int x2), (3, .int x3), (4, .ref (E.1 + b8)), (6, .int (0 : Int32)), (7, .int (I b12 6)), (8, .int r16), (9, .int (0 : Int32))]) [0, 2, 3, 4, 6, 7, 8, 9] rfl ?_
        exact b_X11_goats_67 C hr hk  _ _ _ _ _ _ _ _ _ h
      · rw [if_neg hc11] at h
        refine k_iload (pc := 40) C dX11_goats_40 5 rfl ?_
        have h := Option.some.inj h
        subst h
        exact k_iret (pc := 42) C hr hk dX11_goats_42
    · rw [if_pos hc4] at h
      refine k_iconst (pc := 17) C (v := (-1 : Int32)) dX11_goats_17 (by decide) ?_
      have h := Option.some.inj h
      subst h
      exact k_iret (pc := 18) C hr hk dX11_goats_18
theorem c_X11_goats {E : Ev} {l : Launch} {S : Sh} {R : Rw} {I : Iw} {a0 : Nat} {x1 : Int32} {x2 : Int32} {x3 : Int32} {r : Int32} (h : f_X11_goats S R I a0 x1 x2 x3 = some r) : Mt E l yX11_goats cX11_goats 11 (some .int) 3 68 [.ref (E.1 + a0), .int x1, .int x2, .int x3] S R I S R I (some (.int r)) 0 0 := mt_of (by decide) (Nat.le_of_ble_eq_true rfl) (fun p e s m args below meth c C hr hk hn => b_X11_goats C hr hk _ _ _ _ h)
theorem lkF_RX11_48_11 : LkF RX11 48 11 9 := ⟨RX11, TX11, 12, "UnlikeNeighbours", fc11, by decide, (t2_in 2 (by decide +kernel) rfl), Or.inl rfl⟩
theorem lkF_RX11_51_11 : LkF RX11 51 11 10 := ⟨RX11, TX11, 12, "UnlikeNeighbours", fc11, by decide, (t2_in 3 (by decide +kernel) rfl), Or.inl rfl⟩
theorem lkF_RX11_238_8 : LkF RX11 238 8 1 := ⟨RX8, TX8, 3, "UnlikeNeighbours$Sheet", fc8, by decide, (t1_in 223 (by decide +kernel) rfl), Or.inl rfl⟩
theorem dX11_holdRow_0 : decode cX11_holdRow 0 = .ok (.aload_n 0, 1) := by decide +kernel
theorem dX11_holdRow_1 : decode cX11_holdRow 1 = .ok (.getfield 45, 3) := by decide +kernel
theorem dX11_holdRow_4 : decode cX11_holdRow 4 = .ok (.iload_n 1, 1) := by decide +kernel
theorem dX11_holdRow_5 : decode cX11_holdRow 5 = .ok (.aload_n 2, 1) := by decide +kernel
theorem dX11_holdRow_6 : decode cX11_holdRow 6 = .ok (.getfield 221, 3) := by decide +kernel
theorem dX11_holdRow_9 : decode cX11_holdRow 9 = .ok (.iconst (-1), 1) := by decide +kernel
theorem dX11_holdRow_10 : decode cX11_holdRow 10 = .ok (.if_icmp .ne 7, 3) := by decide +kernel
theorem dX11_holdRow_13 : decode cX11_holdRow 13 = .ok (.iconst 2, 1) := by decide +kernel
theorem dX11_holdRow_14 : decode cX11_holdRow 14 = .ok (.goto 4, 3) := by decide +kernel
theorem dX11_holdRow_17 : decode cX11_holdRow 17 = .ok (.iconst 1, 1) := by decide +kernel
theorem dX11_holdRow_18 : decode cX11_holdRow 18 = .ok (.iastore, 1) := by decide +kernel
theorem dX11_holdRow_19 : decode cX11_holdRow 19 = .ok (.aload_n 0, 1) := by decide +kernel
theorem dX11_holdRow_20 : decode cX11_holdRow 20 = .ok (.getfield 48, 3) := by decide +kernel
theorem dX11_holdRow_23 : decode cX11_holdRow 23 = .ok (.iload_n 1, 1) := by decide +kernel
theorem dX11_holdRow_24 : decode cX11_holdRow 24 = .ok (.aload_n 2, 1) := by decide +kernel
theorem dX11_holdRow_25 : decode cX11_holdRow 25 = .ok (.getfield 221, 3) := by decide +kernel
theorem dX11_holdRow_28 : decode cX11_holdRow 28 = .ok (.iastore, 1) := by decide +kernel
theorem dX11_holdRow_29 : decode cX11_holdRow 29 = .ok (.aload_n 0, 1) := by decide +kernel
theorem dX11_holdRow_30 : decode cX11_holdRow 30 = .ok (.getfield 51, 3) := by decide +kernel
theorem dX11_holdRow_33 : decode cX11_holdRow 33 = .ok (.iload_n 1, 1) := by decide +kernel
theorem dX11_holdRow_34 : decode cX11_holdRow 34 = .ok (.aload_n 2, 1) := by decide +kernel
theorem dX11_holdRow_35 : decode cX11_holdRow 35 = .ok (.getfield 238, 3) := by decide +kernel
theorem dX11_holdRow_38 : decode cX11_holdRow 38 = .ok (.iastore, 1) := by decide +kernel
theorem dX11_holdRow_39 : decode cX11_holdRow 39 = .ok (.return_, 1) := by decide +kernel
def f_X11_holdRow_18 (S : Sh) (R : Rw)  (I : Iw) (a0 : Nat) (x1 : Int32) (a2 : Nat) (s0 : Int32) (s1 : Int32) (q2 : Nat) : Option (Iw) := gp (aok S 20 q2 s1) (lt (up2 I q2 s1.toNatClampNeg s0) (fun I6 => gp (sok S a0 11 12) (rl (R a0 9) (fun b8 => gp (sok S a2 8 3) (gp (aok S 20 b8 x1) (lt (up2 I6 b8 x1.toNatClampNeg (I6 a2 0)) (fun I11 => rl (R a0 10) (fun b12 => gp (aok S 20 b12 x1) (lt (up2 I11 b12 x1.toNatClampNeg (I11 a2 1)) (fun I14 => some I14))))))))))
set_option maxHeartbeats 4000000 in
theorem b_X11_holdRow_18 {E : Ev} {p : Program} {l : Launch} {e : Env} {s : State} {m : MethodId} {args : Array Value} {below : List Frame} {meth : Method} {c : Code} (C : Cx E RX11 cX11_holdRow 3 p s m c) (hr : meth.sig.returnType = none) (hk : meth.locks = false) {S : Sh} {R : Rw} {r : Iw}  : ∀ (I : Iw) (a0 : Nat) (x1 : Int32) (a2 : Nat) (s0 : Int32) (s1 : Int32) (q2 : Nat), f_X11_holdRow_18 S R   I a0 x1 a2 s0 s1 q2 = some r → Wk E 3 p l e ({ frames := 0, cells := 0, slots := 0, locals := 0 } : Room) s m args below meth c 0 0 (MQ below (Qw E S R r none) args s 0 0 (fun q => E.1 ≤ q)) 18 [(0, .ref (E.1 + a0)), (1, .int x1), (2, .ref (E.1 + a2))] [.int s0, .int s1, .ref (E.1 + q2)] S R I := by
  intro I a0 x1 a2 s0 s1 q2 h
  rw [f_X11_holdRow_18] at h
  obtain ⟨ha5, h⟩ := gp_e h
  obtain ⟨I6, eI6, h⟩ := lt_e h
  refine k_iast (pc := 18) C ha5 dX11_holdRow_18 ?_
  rw [← eI6]
  refine k_aloadn (pc := 19) C dX11_holdRow_19 (i := 0) rfl 0 rfl ?_
  obtain ⟨hs70, h⟩ := gp_e h
  have hs7 := sok_e hs70
  obtain ⟨b8, hb8, h⟩ := rl_e h
  refine k_getR (pc := 20) C lkF_RX11_48_11 hs7 ir_11_9 hb8 dX11_holdRow_20 ?_
  refine k_iloadn (pc := 23) C dX11_holdRow_23 (i := 1) rfl 1 rfl ?_
  refine k_aloadn (pc := 24) C dX11_holdRow_24 (i := 2) rfl 2 rfl ?_
  obtain ⟨hs90, h⟩ := gp_e h
  have hs9 := sok_e hs90
  refine k_getI (pc := 25) C lkF_RX11_221_8 hs9 ir_8_0 dX11_holdRow_25 ?_
  obtain ⟨ha10, h⟩ := gp_e h
  obtain ⟨I11, eI11, h⟩ := lt_e h
  refine k_iast (pc := 28) C ha10 dX11_holdRow_28 ?_
  rw [← eI11]
  refine k_aloadn (pc := 29) C dX11_holdRow_29 (i := 0) rfl 0 rfl ?_
  obtain ⟨b12, hb12, h⟩ := rl_e h
  refine k_getR (pc := 30) C lkF_RX11_51_11 hs7 ir_11_10 hb12 dX11_holdRow_30 ?_
  refine k_iloadn (pc := 33) C dX11_holdRow_33 (i := 1) rfl 1 rfl ?_
  refine k_aloadn (pc := 34) C dX11_holdRow_34 (i := 2) rfl 2 rfl ?_
  refine k_getI (pc := 35) C lkF_RX11_238_8 hs9 ir_8_1 dX11_holdRow_35 ?_
  obtain ⟨ha13, h⟩ := gp_e h
  obtain ⟨I14, eI14, h⟩ := lt_e h
  refine k_iast (pc := 38) C ha13 dX11_holdRow_38 ?_
  rw [← eI14]
  have h := Option.some.inj h
  subst h
  exact k_vret (pc := 39) C hr hk dX11_holdRow_39
def f_X11_holdRow (S : Sh) (R : Rw)  (I : Iw) (a0 : Nat) (x1 : Int32) (a2 : Nat) : Option (Iw) := gp (sok S a0 11 12) (rl (R a0 8) (fun b2 => gp (sok S a2 8 3) ((if (I a2 0) = (-1 : Int32) then f_X11_holdRow_18 S R  I a0 x1 a2 (2 : Int32) x1 b2 else f_X11_holdRow_18 S R  I a0 x1 a2 (1 : Int32) x1 b2))))
set_option maxHeartbeats 4000000 in
theorem b_X11_holdRow {E : Ev} {p : Program} {l : Launch} {e : Env} {s : State} {m : MethodId} {args : Array Value} {below : List Frame} {meth : Method} {c : Code} (C : Cx E RX11 cX11_holdRow 3 p s m c) (hr : meth.sig.returnType = none) (hk : meth.locks = false) {S : Sh} {R : Rw} {r : Iw}  : ∀ (I : Iw) (a0 : Nat) (x1 : Int32) (a2 : Nat), f_X11_holdRow S R   I a0 x1 a2 = some r → Wk E 3 p l e ({ frames := 0, cells := 0, slots := 0, locals := 0 } : Room) s m args below meth c 0 0 (MQ below (Qw E S R r none) args s 0 0 (fun q => E.1 ≤ q)) 0 [(0, .ref (E.1 + a0)), (1, .int x1), (2, .ref (E.1 + a2))] [] S R I := by
  intro I a0 x1 a2 h
  rw [f_X11_holdRow] at h
  refine k_aloadn (pc := 0) C dX11_holdRow_0 (i := 0) rfl 0 rfl ?_
  obtain ⟨hs10, h⟩ := gp_e h
  have hs1 := sok_e hs10
  obtain ⟨b2, hb2, h⟩ := rl_e h
  refine k_getR (pc := 1) C lkF_RX11_45_11 hs1 ir_11_8 hb2 dX11_holdRow_1 ?_
  refine k_iloadn (pc := 4) C dX11_holdRow_4 (i := 1) rfl 1 rfl ?_
  refine k_aloadn (pc := 5) C dX11_holdRow_5 (i := 2) rfl 2 rfl ?_
  obtain ⟨hs30, h⟩ := gp_e h
  have hs3 := sok_e hs30
  refine k_getI (pc := 6) C lkF_RX11_221_8 hs3 ir_8_0 dX11_holdRow_6 ?_
  refine k_iconst (pc := 9) C (v := (-1 : Int32)) dX11_holdRow_9 (by decide) ?_
  refine k_icmp_ne (pc := 10) C dX11_holdRow_10 (tgt := 17) (by decide) (fun hc4 => ?_) (fun hc4 => ?_)
  · rw [if_neg hc4] at h
    refine k_iconst (pc := 17) C (v := (1 : Int32)) dX11_holdRow_17 (by decide) ?_
    exact b_X11_holdRow_18 C hr hk  _ _ _ _ _ _ _ h
  · rw [if_pos hc4] at h
    refine k_iconst (pc := 13) C (v := (2 : Int32)) dX11_holdRow_13 (by decide) ?_
    refine k_goto (pc := 14) C dX11_holdRow_14 (tgt := 18) (by decide) ?_
    exact b_X11_holdRow_18 C hr hk  _ _ _ _ _ _ _ h
theorem c_X11_holdRow {E : Ev} {l : Launch} {S : Sh} {R : Rw} {I : Iw} {a0 : Nat} {x1 : Int32} {a2 : Nat} {r : Iw} (h : f_X11_holdRow S R I a0 x1 a2 = some r) : Mt E l yX11_holdRow cX11_holdRow 3 none 0 0 [.ref (E.1 + a0), .int x1, .ref (E.1 + a2)] S R I S R r none 0 0 := mt_of (by decide) (Nat.le_of_ble_eq_true rfl) (fun p e s m args below meth c C hr hk hn => b_X11_holdRow C hr hk _ _ _ _ h)
