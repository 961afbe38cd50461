/-! X11_goat, X11_gapFor, X11_game, X11_play, X11_report, X11_forget, X11_span -/
theorem lkF_RX11_179_7 : LkF RX11 179 7 5 := ⟨RX7, TX7, 16, "UnlikeNeighbours$Shed", fc7, by decide, (t1_in 83 (by decide +kernel) rfl), Or.inl rfl⟩
theorem dX11_goat_0 : decode cX11_goat 0 = .ok (.bipush (-3), 2) := by decide +kernel
theorem dX11_goat_2 : decode cX11_goat 2 = .ok (.istore_n 1, 1) := by decide +kernel
theorem dX11_goat_3 : decode cX11_goat 3 = .ok (.aload_n 0, 1) := by decide +kernel
theorem dX11_goat_4 : decode cX11_goat 4 = .ok (.getfield 31, 3) := by decide +kernel
theorem dX11_goat_7 : decode cX11_goat 7 = .ok (.invokevirtual 155, 3) := by decide +kernel
theorem dX11_goat_10 : decode cX11_goat 10 = .ok (.istore_n 2, 1) := by decide +kernel
theorem dX11_goat_11 : decode cX11_goat 11 = .ok (.iconst 0, 1) := by decide +kernel
theorem dX11_goat_12 : decode cX11_goat 12 = .ok (.istore_n 3, 1) := by decide +kernel
theorem dX11_goat_13 : decode cX11_goat 13 = .ok (.iload_n 3, 1) := by decide +kernel
theorem dX11_goat_14 : decode cX11_goat 14 = .ok (.aload_n 0, 1) := by decide +kernel
theorem dX11_goat_15 : decode cX11_goat 15 = .ok (.getfield 12, 3) := by decide +kernel
theorem dX11_goat_18 : decode cX11_goat 18 = .ok (.getfield 179, 3) := by decide +kernel
theorem dX11_goat_21 : decode cX11_goat 21 = .ok (.if_icmp .ge 73, 3) := by decide +kernel
theorem dX11_goat_24 : decode cX11_goat 24 = .ok (.aload_n 0, 1) := by decide +kernel
theorem dX11_goat_25 : decode cX11_goat 25 = .ok (.getfield 12, 3) := by decide +kernel
theorem dX11_goat_28 : decode cX11_goat 28 = .ok (.getfield 89, 3) := by decide +kernel
theorem dX11_goat_31 : decode cX11_goat 31 = .ok (.iload_n 3, 1) := by decide +kernel
theorem dX11_goat_32 : decode cX11_goat 32 = .ok (.invokestatic 101, 3) := by decide +kernel
theorem dX11_goat_35 : decode cX11_goat 35 = .ok (.ifCond .eq 53, 3) := by decide +kernel
theorem dX11_goat_38 : decode cX11_goat 38 = .ok (.aload_n 0, 1) := by decide +kernel
theorem dX11_goat_39 : decode cX11_goat 39 = .ok (.getfield 12, 3) := by decide +kernel
theorem dX11_goat_42 : decode cX11_goat 42 = .ok (.getfield 67, 3) := by decide +kernel
theorem dX11_goat_45 : decode cX11_goat 45 = .ok (.iload_n 3, 1) := by decide +kernel
theorem dX11_goat_46 : decode cX11_goat 46 = .ok (.iaload, 1) := by decide +kernel
theorem dX11_goat_47 : decode cX11_goat 47 = .ok (.istore 4, 2) := by decide +kernel
theorem dX11_goat_49 : decode cX11_goat 49 = .ok (.aload_n 0, 1) := by decide +kernel
theorem dX11_goat_50 : decode cX11_goat 50 = .ok (.getfield 12, 3) := by decide +kernel
theorem dX11_goat_53 : decode cX11_goat 53 = .ok (.iload_n 3, 1) := by decide +kernel
theorem dX11_goat_54 : decode cX11_goat 54 = .ok (.iconst 3, 1) := by decide +kernel
theorem dX11_goat_55 : decode cX11_goat 55 = .ok (.invokevirtual 111, 3) := by decide +kernel
theorem dX11_goat_58 : decode cX11_goat 58 = .ok (.aload_n 0, 1) := by decide +kernel
theorem dX11_goat_59 : decode cX11_goat 59 = .ok (.getfield 31, 3) := by decide +kernel
theorem dX11_goat_62 : decode cX11_goat 62 = .ok (.invokevirtual 155, 3) := by decide +kernel
theorem dX11_goat_65 : decode cX11_goat 65 = .ok (.istore 5, 2) := by decide +kernel
theorem dX11_goat_67 : decode cX11_goat 67 = .ok (.aload_n 0, 1) := by decide +kernel
theorem dX11_goat_68 : decode cX11_goat 68 = .ok (.getfield 12, 3) := by decide +kernel
theorem dX11_goat_71 : decode cX11_goat 71 = .ok (.iload_n 3, 1) := by decide +kernel
theorem dX11_goat_72 : decode cX11_goat 72 = .ok (.iload 4, 2) := by decide +kernel
theorem dX11_goat_74 : decode cX11_goat 74 = .ok (.invokevirtual 111, 3) := by decide +kernel
theorem dX11_goat_77 : decode cX11_goat 77 = .ok (.iload 5, 2) := by decide +kernel
theorem dX11_goat_79 : decode cX11_goat 79 = .ok (.iload_n 2, 1) := by decide +kernel
theorem dX11_goat_80 : decode cX11_goat 80 = .ok (.if_icmp .le 8, 3) := by decide +kernel
theorem dX11_goat_83 : decode cX11_goat 83 = .ok (.iload 5, 2) := by decide +kernel
theorem dX11_goat_85 : decode cX11_goat 85 = .ok (.istore_n 2, 1) := by decide +kernel
theorem dX11_goat_86 : decode cX11_goat 86 = .ok (.iload_n 3, 1) := by decide +kernel
theorem dX11_goat_87 : decode cX11_goat 87 = .ok (.istore_n 1, 1) := by decide +kernel
theorem dX11_goat_88 : decode cX11_goat 88 = .ok (.iinc 3 1, 3) := by decide +kernel
theorem dX11_goat_91 : decode cX11_goat 91 = .ok (.goto (-78), 3) := by decide +kernel
theorem dX11_goat_94 : decode cX11_goat 94 = .ok (.iload_n 1, 1) := by decide +kernel
theorem dX11_goat_95 : decode cX11_goat 95 = .ok (.ireturn, 1) := by decide +kernel
def f_X11_goat_88 (S : Sh) (R : Rw) (ko13 : Iw → Nat → Int32 → Int32 → Int32 → Option (Iw × Int32)) (I : Iw) (a0 : Nat) (x1 : Int32) (x2 : Int32) (x3 : Int32) : Option (Iw × Int32) := ko13 I a0 x1 x2 (x3 + (1 : Int32))
set_option maxHeartbeats 4000000 in
theorem b_X11_goat_88 {E : Ev} {p : Program} {l : Launch} {e : Env} {s : State} {m : MethodId} {args : Array Value} {below : List Frame} {meth : Method} {c : Code} (C : Cx E RX11 cX11_goat 6 p s m c) (hr : meth.sig.returnType = (some .int)) (hk : meth.locks = false) {S : Sh} {R : Rw} {r : Iw × Int32}  {ko13 : Iw → Nat → Int32 → Int32 → Int32 → Option (Iw × Int32)} (hko13 : ∀ (I : Iw) (a0 : Nat) (x1 : Int32) (x2 : Int32) (x3 : Int32), ko13 I a0 x1 x2 x3 = some r → Wk E 6 p l e ({ frames := 38, cells := 0, slots := 0, locals := 887 } : Room) s m args below meth c 0 0 (MQ below (Qw E S R r.1 (some (.int r.2))) args s 0 0 (fun q => E.1 ≤ q)) 13 [(0, .ref (E.1 + a0)), (1, .int x1), (2, .int x2), (3, .int x3)] [] S R I) : ∀ (I : Iw) (a0 : Nat) (x1 : Int32) (x2 : Int32) (x3 : Int32), f_X11_goat_88 S R ko13  I a0 x1 x2 x3 = some r → Wk E 6 p l e ({ frames := 38, cells := 0, slots := 0, locals := 887 } : Room) s m args below meth c 0 0 (MQ below (Qw E S R r.1 (some (.int r.2))) args s 0 0 (fun q => E.1 ≤ q)) 88 [(0, .ref (E.1 + a0)), (1, .int x1), (2, .int x2), (3, .int x3)] [] S R I := by
  intro I a0 x1 x2 x3 h
  rw [f_X11_goat_88] at h
  refine k_iinc (pc := 88) C dX11_goat_88 3 rfl (v := x3 + (1 : Int32)) (by rfl) (by decide) (L2 := [(0, .ref (E.1 + a0)), (1, .int x1), (2, .int x2), (3, .int (x3 + (1 : Int32)))]) rfl ?_
  refine k_goto (pc := 91) C dX11_goat_91 (tgt := 13) (by decide) ?_
  exact hko13 _ _ _ _ _ h
def f_X11_goat_13 (S : Sh) (R : Rw)  : Nat → Iw → Nat → Int32 → Int32 → Int32 → Option (Iw × Int32)
  | 0, _, _, _, _, _ => none
  | n + 1, I, a0, x1, x2, x3 => gp (sok S a0 11 12) (rl (R a0 0) (fun b6 => gp (sok S b6 7 16) ((if (I b6 5) ≤ x3 then some (I, x1) else rl (R a0 0) (fun b9 => gp (sok S b9 7 16) (bd (f_X11_holds S R I (I b9 6) x3) (fun r11 => (if r11 = 0 then f_X11_goat_88 S R (f_X11_goat_13 S R  n) I a0 x1 x2 x3 else rl (R a0 0) (fun b13 => gp (sok S b13 7 16) (rl (R b13 0) (fun b15 => gp (aok S 20 b15 x3) (rl (R a0 0) (fun b17 => gp (sok S b17 7 16) (bd (f_X7_becomeKind S R I b17 x3 (3 : Int32)) (fun r19 => rl (R a0 4) (fun b20 => gp (sok S b20 2 11) (bd (f_X2_study S R r19 b20) (fun r22 => rl (R a0 0) (fun b23 => gp (sok S b23 7 16) (bd (f_X7_becomeKind S R r22.1 b23 x3 (I b15 x3.toNatClampNeg)) (fun r25 => (if r22.2 ≤ x2 then f_X11_goat_88 S R (f_X11_goat_13 S R  n) r25 a0 x1 x2 x3 else f_X11_goat_88 S R (f_X11_goat_13 S R  n) r25 a0 x3 r22.2 x3))))))))))))))))))))))
set_option maxHeartbeats 4000000 in
theorem b_X11_goat_13 {E : Ev} {p : Program} {l : Launch} {e : Env} {s : State} {m : MethodId} {args : Array Value} {below : List Frame} {meth : Method} {c : Code} (C : Cx E RX11 cX11_goat 6 p s m c) (hr : meth.sig.returnType = (some .int)) (hk : meth.locks = false) {S : Sh} {R : Rw} {r : Iw × Int32}  : ∀ (n : Nat) (I : Iw) (a0 : Nat) (x1 : Int32) (x2 : Int32) (x3 : Int32), f_X11_goat_13 S R  n I a0 x1 x2 x3 = some r → Wk E 6 p l e ({ frames := 38, cells := 0, slots := 0, locals := 887 } : Room) s m args below meth c 0 0 (MQ below (Qw E S R r.1 (some (.int r.2))) args s 0 0 (fun q => E.1 ≤ q)) 13 [(0, .ref (E.1 + a0)), (1, .int x1), (2, .int x2), (3, .int x3)] [] S R I := by
  intro n
  induction n with
  | zero =>
    intro I a0 x1 x2 x3 h
    rw [f_X11_goat_13] at h
    cases h
  | succ n ih =>
    intro I a0 x1 x2 x3 h
    rw [f_X11_goat_13] at h
    refine k_iloadn (pc := 13) C dX11_goat_13 (i := 3) rfl 3 rfl ?_
    refine k_aloadn (pc := 14) C dX11_goat_14 (i := 0) rfl 0 rfl ?_
    obtain ⟨hs50, h⟩ := gp_e h
    have hs5 := sok_e hs50
    obtain ⟨b6, hb6, h⟩ := rl_e h
    refine k_getR (pc := 15) C lkF_RX11_12_11 hs5 ir_11_0 hb6 dX11_goat_15 ?_
    obtain ⟨hs70, h⟩ := gp_e h
    have hs7 := sok_e hs70
    refine k_getI (pc := 18) C lkF_RX11_179_7 hs7 ir_7_5 dX11_goat_18 ?_
    refine k_icmp_ge (pc := 21) C dX11_goat_21 (tgt := 94) (by decide) (fun hc8 => ?_) (fun hc8 => ?_)
    · rw [if_pos hc8] at h
      refine k_iloadn (pc := 94) C dX11_goat_94 (i := 1) rfl 1 rfl ?_
      have h := Option.some.inj h
      subst h
      exact k_iret (pc := 95) C hr hk dX11_goat_95
    · rw [if_neg hc8] at h
      refine k_aloadn (pc := 24) C dX11_goat_24 (i := 0) rfl 0 rfl ?_
      obtain ⟨b9, hb9, h⟩ := rl_e h
      refine k_getR (pc := 25) C lkF_RX11_12_11 hs5 ir_11_0 hb9 dX11_goat_25 ?_
      obtain ⟨hs100, h⟩ := gp_e h
      have hs10 := sok_e hs100
      refine k_getI (pc := 28) C lkF_RX11_89_7 hs10 ir_7_6 dX11_goat_28 ?_
      refine k_iloadn (pc := 31) C dX11_goat_31 (i := 3) rfl 3 rfl ?_
      obtain ⟨r11, hr11, h⟩ := bd_e h
      refine k_S (pc := 32) (st := []) C (c_X11_holds hr11) lkS_RX11_101 rfl rfl (Nat.le_of_ble_eq_true rfl) (Nat.le_of_ble_eq_true rfl) (Nat.le_of_ble_eq_true rfl) (Nat.le_of_ble_eq_true rfl) (Nat.le_of_ble_eq_true rfl) dX11_goat_32 ?_
      refine k_nf (cells2 := 0) (slots2 := 0) (st2 := [.int r11]) rfl rfl rfl ?_
      refine k_if_eq (pc := 35) C dX11_goat_35 (tgt := 88) (by decide) (fun hc12 => ?_) (fun hc12 => ?_)
      · rw [if_pos hc12] at h
        exact b_X11_goat_88 C hr hk ih _ _ _ _ _ h
      · rw [if_neg hc12] at h
        refine k_aloadn (pc := 38) C dX11_goat_38 (i := 0) rfl 0 rfl ?_
        obtain ⟨b13, hb13, h⟩ := rl_e h
        refine k_getR (pc := 39) C lkF_RX11_12_11 hs5 ir_11_0 hb13 dX11_goat_39 ?_
        obtain ⟨hs140, h⟩ := gp_e h
        have hs14 := sok_e hs140
        obtain ⟨b15, hb15, h⟩ := rl_e h
        refine k_getR (pc := 42) C lkF_RX11_67_7 hs14 ir_7_0 hb15 dX11_goat_42 ?_
        refine k_iloadn (pc := 45) C dX11_goat_45 (i := 3) rfl 3 rfl ?_
        obtain ⟨ha16, h⟩ := gp_e h
        refine k_iald (pc := 46) C ha16 dX11_goat_46 ?_
        refine k_istore (pc := 47) C dX11_goat_47 (by decide) (L2 := [(0, .ref (E.1 + a0)), (1, .int x1), (2, .int x2), (3, .int x3), (4, .int (I b15 x3.toNatClampNeg))]) rfl ?_
        refine k_aloadn (pc := 49) C dX11_goat_49 (i := 0) rfl 0 rfl ?_
        obtain ⟨b17, hb17, h⟩ := rl_e h
        refine k_getR (pc := 50) C lkF_RX11_12_11 hs5 ir_11_0 hb17 dX11_goat_50 ?_
        refine k_iloadn (pc := 53) C dX11_goat_53 (i := 3) rfl 3 rfl ?_
        refine k_iconst (pc := 54) C (v := (3 : Int32)) dX11_goat_54 (by decide) ?_
        obtain ⟨hs180, h⟩ := gp_e h
        have hs18 := sok_e hs180
        obtain ⟨r19, hr19, h⟩ := bd_e h
        refine k_V (pc := 55) (st := []) C (c_X7_becomeKind hr19) lkV_RX11_111 hs18 rfl rfl rfl (Nat.le_of_ble_eq_true rfl) (Nat.le_of_ble_eq_true rfl) (Nat.le_of_ble_eq_true rfl) (Nat.le_of_ble_eq_true rfl) (Nat.le_of_ble_eq_true rfl) dX11_goat_55 ?_
        refine k_nf (cells2 := 0) (slots2 := 0) (st2 := []) rfl rfl rfl ?_
        refine k_aloadn (pc := 58) C dX11_goat_58 (i := 0) rfl 0 rfl ?_
        obtain ⟨b20, hb20, h⟩ := rl_e h
        refine k_getR (pc := 59) C lkF_RX11_31_11 hs5 ir_11_4 hb20 dX11_goat_59 ?_
        obtain ⟨hs210, h⟩ := gp_e h
        have hs21 := sok_e hs210
        obtain ⟨r22, hr22, h⟩ := bd_e h
        refine k_V (pc := 62) (st := []) C (c_X2_study hr22) lkV_RX11_155 hs21 rfl rfl rfl (Nat.le_of_ble_eq_true rfl) (Nat.le_of_ble_eq_true rfl) (Nat.le_of_ble_eq_true rfl) (Nat.le_of_ble_eq_true rfl) (Nat.le_of_ble_eq_true rfl) dX11_goat_62 ?_
        refine k_nf (cells2 := 0) (slots2 := 0) (st2 := [.int r22.2]) rfl rfl rfl ?_
        refine k_istore (pc := 65) C dX11_goat_65 (by decide) (L2 := [(0, .ref (E.1 + a0)), (1, .int x1), (2, .int x2), (3, .int x3), (4, .int (I b15 x3.toNatClampNeg)), (5, .int r22.2)]) rfl ?_
        refine k_aloadn (pc := 67) C dX11_goat_67 (i := 0) rfl 0 rfl ?_
        obtain ⟨b23, hb23, h⟩ := rl_e h
        refine k_getR (pc := 68) C lkF_RX11_12_11 hs5 ir_11_0 hb23 dX11_goat_68 ?_
        refine k_iloadn (pc := 71) C dX11_goat_71 (i := 3) rfl 3 rfl ?_
        refine k_iload (pc := 72) C dX11_goat_72 4 rfl ?_
        obtain ⟨hs240, h⟩ := gp_e h
        have hs24 := sok_e hs240
        obtain ⟨r25, hr25, h⟩ := bd_e h
        refine k_V (pc := 74) (st := []) C (c_X7_becomeKind hr25) lkV_RX11_111 hs24 rfl rfl rfl (Nat.le_of_ble_eq_true rfl) (Nat.le_of_ble_eq_true rfl) (Nat.le_of_ble_eq_true rfl) (Nat.le_of_ble_eq_true rfl) (Nat.le_of_ble_eq_true rfl) dX11_goat_74 ?_
        refine k_nf (cells2 := 0) (slots2 := 0) (st2 := []) rfl rfl rfl ?_
        refine k_iload (pc := 77) C dX11_goat_77 5 rfl ?_
        refine k_iloadn (pc := 79) C dX11_goat_79 (i := 2) rfl 2 rfl ?_
        refine k_icmp_le (pc := 80) C dX11_goat_80 (tgt := 88) (by decide) (fun hc26 => ?_) (fun hc26 => ?_)
        · rw [if_pos hc26] at h
          refine k_loc (L2 := [(0, .ref (E.1 + a0)), (1, .int x1), (2, .int x2), (3, .int x3)]) [0, 1, 2, 3] rfl ?_
          exact b_X11_goat_88 C hr hk ih _ _ _ _ _ h
        · rw [if_neg hc26] at h
          refine k_iload (pc := 83) C dX11_goat_83 5 rfl ?_
          refine k_istoren (pc := 85) C dX11_goat_85 (i := 2) rfl (by decide) (L2 := [(0, .ref (E.1 + a0)), (1, .int x1), (2, .int r22.2), (3, .int x3), (4, .int (I b15 x3.toNatClampNeg)), (5, .int r22.2)]) rfl ?_
          refine k_iloadn (pc := 86) C dX11_goat_86 (i := 3) rfl 3 rfl ?_
          refine k_istoren (pc := 87) C dX11_goat_87 (i := 1) rfl (by decide) (L2 := [(0, .ref (E.1 + a0)), (1, .int x3), (2, .int r22.2), (3, .int x3), (4, .int (I b15 x3.toNatClampNeg)), (5, .int r22.2)]) rfl ?_
          refine k_loc (L2 := [(0, .ref (E.1 + a0)), (1, .int x3), (2, .int r22.2), (3, .int x3)]) [0, 1, 2, 3] rfl ?_
          exact b_X11_goat_88 C hr hk ih _ _ _ _ _ h
def f_X11_goat (S : Sh) (R : Rw)  (I : Iw) (a0 : Nat) : Option (Iw × Int32) := gp (sok S a0 11 12) (rl (R a0 4) (fun b2 => gp (sok S b2 2 11) (bd (f_X2_study S R I b2) (fun r4 => f_X11_goat_13 S R  512 r4.1 a0 (-3 : Int32) r4.2 (0 : Int32)))))
set_option maxHeartbeats 4000000 in
theorem b_X11_goat {E : Ev} {p : Program} {l : Launch} {e : Env} {s : State} {m : MethodId} {args : Array Value} {below : List Frame} {meth : Method} {c : Code} (C : Cx E RX11 cX11_goat 6 p s m c) (hr : meth.sig.returnType = (some .int)) (hk : meth.locks = false) {S : Sh} {R : Rw} {r : Iw × Int32}  : ∀ (I : Iw) (a0 : Nat), f_X11_goat S R   I a0 = some r → Wk E 6 p l e ({ frames := 38, cells := 0, slots := 0, locals := 887 } : Room) s m args below meth c 0 0 (MQ below (Qw E S R r.1 (some (.int r.2))) args s 0 0 (fun q => E.1 ≤ q)) 0 [(0, .ref (E.1 + a0))] [] S R I := by
  intro I a0 h
  rw [f_X11_goat] at h
  refine k_bipush (pc := 0) C (v := (-3 : Int32)) dX11_goat_0 (by decide) ?_
  refine k_istoren (pc := 2) C dX11_goat_2 (i := 1) rfl (by decide) (L2 := [(0, .ref (E.1 + a0)), (1, .int (-3 : Int32))]) rfl ?_
  refine k_aloadn (pc := 3) C dX11_goat_3 (i := 0) rfl 0 rfl ?_
  obtain ⟨hs10, h⟩ := gp_e h
  have hs1 := sok_e hs10
  obtain ⟨b2, hb2, h⟩ := rl_e h
  refine k_getR (pc := 4) C lkF_RX11_31_11 hs1 ir_11_4 hb2 dX11_goat_4 ?_
  obtain ⟨hs30, h⟩ := gp_e h
  have hs3 := sok_e hs30
  obtain ⟨r4, hr4, h⟩ := bd_e h
  refine k_V (pc := 7) (st := []) C (c_X2_study hr4) lkV_RX11_155 hs3 rfl rfl rfl (Nat.le_of_ble_eq_true rfl) (Nat.le_of_ble_eq_true rfl) (Nat.le_of_ble_eq_true rfl) (Nat.le_of_ble_eq_true rfl) (Nat.le_of_ble_eq_true rfl) dX11_goat_7 ?_
  refine k_nf (cells2 := 0) (slots2 := 0) (st2 := [.int r4.2]) rfl rfl rfl ?_
  refine k_istoren (pc := 10) C dX11_goat_10 (i := 2) rfl (by decide) (L2 := [(0, .ref (E.1 + a0)), (1, .int (-3 : Int32)), (2, .int r4.2)]) rfl ?_
  refine k_iconst (pc := 11) C (v := (0 : Int32)) dX11_goat_11 (by decide) ?_
  refine k_istoren (pc := 12) C dX11_goat_12 (i := 3) rfl (by decide) (L2 := [(0, .ref (E.1 + a0)), (1, .int (-3 : Int32)), (2, .int r4.2), (3, .int (0 : Int32))]) rfl ?_
  exact b_X11_goat_13 C hr hk  _ _ _ _ _ _ h
theorem c_X11_goat {E : Ev} {l : Launch} {S : Sh} {R : Rw} {I : Iw} {a0 : Nat} {r : Iw × Int32} (h : f_X11_goat S R I a0 = some r) : Mt E l yX11_goat cX11_goat 6 (some .int) 38 887 [.ref (E.1 + a0)] S R I S R r.1 (some (.int r.2)) 0 0 := mt_of (by decide) (Nat.le_of_ble_eq_true rfl) (fun p e s m args below meth c C hr hk hn => b_X11_goat C hr hk _ _ h)
theorem dX11_gapFor_0 : decode cX11_gapFor 0 = .ok (.aload_n 0, 1) := by decide +kernel
theorem dX11_gapFor_1 : decode cX11_gapFor 1 = .ok (.getfield 12, 3) := by decide +kernel
theorem dX11_gapFor_4 : decode cX11_gapFor 4 = .ok (.getfield 115, 3) := by decide +kernel
theorem dX11_gapFor_7 : decode cX11_gapFor 7 = .ok (.istore_n 1, 1) := by decide +kernel
theorem dX11_gapFor_8 : decode cX11_gapFor 8 = .ok (.bipush (-3), 2) := by decide +kernel
theorem dX11_gapFor_10 : decode cX11_gapFor 10 = .ok (.istore_n 2, 1) := by decide +kernel
theorem dX11_gapFor_11 : decode cX11_gapFor 11 = .ok (.iconst 3, 1) := by decide +kernel
theorem dX11_gapFor_12 : decode cX11_gapFor 12 = .ok (.istore_n 3, 1) := by decide +kernel
theorem dX11_gapFor_13 : decode cX11_gapFor 13 = .ok (.iload_n 3, 1) := by decide +kernel
theorem dX11_gapFor_14 : decode cX11_gapFor 14 = .ok (.iconst 1, 1) := by decide +kernel
theorem dX11_gapFor_15 : decode cX11_gapFor 15 = .ok (.if_icmp .lt 35, 3) := by decide +kernel
theorem dX11_gapFor_18 : decode cX11_gapFor 18 = .ok (.iload_n 2, 1) := by decide +kernel
theorem dX11_gapFor_19 : decode cX11_gapFor 19 = .ok (.bipush (-3), 2) := by decide +kernel
theorem dX11_gapFor_21 : decode cX11_gapFor 21 = .ok (.if_icmp .ne 29, 3) := by decide +kernel
theorem dX11_gapFor_24 : decode cX11_gapFor 24 = .ok (.aload_n 0, 1) := by decide +kernel
theorem dX11_gapFor_25 : decode cX11_gapFor 25 = .ok (.getfield 12, 3) := by decide +kernel
theorem dX11_gapFor_28 : decode cX11_gapFor 28 = .ok (.iload_n 3, 1) := by decide +kernel
theorem dX11_gapFor_29 : decode cX11_gapFor 29 = .ok (.invokevirtual 118, 3) := by decide +kernel
theorem dX11_gapFor_32 : decode cX11_gapFor 32 = .ok (.aload_n 0, 1) := by decide +kernel
theorem dX11_gapFor_33 : decode cX11_gapFor 33 = .ok (.getfield 31, 3) := by decide +kernel
theorem dX11_gapFor_36 : decode cX11_gapFor 36 = .ok (.invokevirtual 155, 3) := by decide +kernel
theorem dX11_gapFor_39 : decode cX11_gapFor 39 = .ok (.ifCond .le 5, 3) := by decide +kernel
theorem dX11_gapFor_42 : decode cX11_gapFor 42 = .ok (.iload_n 3, 1) := by decide +kernel
theorem dX11_gapFor_43 : decode cX11_gapFor 43 = .ok (.istore_n 2, 1) := by decide +kernel
theorem dX11_gapFor_44 : decode cX11_gapFor 44 = .ok (.iinc 3 (-1), 3) := by decide +kernel
theorem dX11_gapFor_47 : decode cX11_gapFor 47 = .ok (.goto (-34), 3) := by decide +kernel
theorem dX11_gapFor_50 : decode cX11_gapFor 50 = .ok (.aload_n 0, 1) := by decide +kernel
theorem dX11_gapFor_51 : decode cX11_gapFor 51 = .ok (.getfield 12, 3) := by decide +kernel
theorem dX11_gapFor_54 : decode cX11_gapFor 54 = .ok (.iload_n 1, 1) := by decide +kernel
theorem dX11_gapFor_55 : decode cX11_gapFor 55 = .ok (.invokevirtual 118, 3) := by decide +kernel
theorem dX11_gapFor_58 : decode cX11_gapFor 58 = .ok (.iload_n 2, 1) := by decide +kernel
theorem dX11_gapFor_59 : decode cX11_gapFor 59 = .ok (.ireturn, 1) := by decide +kernel
def f_X11_gapFor_50 (S : Sh) (R : Rw)  (I : Iw) (a0 : Nat) (x1 : Int32) (x2 : Int32) : Option (Iw × Int32) := gp (sok S a0 11 12) (rl (R a0 0) (fun b6 => gp (sok S b6 7 16) (bd (f_X7_becomeGap S R I b6 x1) (fun r8 => some (r8, x2)))))
set_option maxHeartbeats 4000000 in
theorem b_X11_gapFor_50 {E : Ev} {p : Program} {l : Launch} {e : Env} {s : State} {m : MethodId} {args : Array Value} {below : List Frame} {meth : Method} {c : Code} (C : Cx E RX11 cX11_gapFor 4 p s m c) (hr : meth.sig.returnType = (some .int)) (hk : meth.locks = false) {S : Sh} {R : Rw} {r : Iw × Int32}  : ∀ (I : Iw) (a0 : Nat) (x1 : Int32) (x2 : Int32), f_X11_gapFor_50 S R   I a0 x1 x2 = some r → Wk E 4 p l e ({ frames := 38, cells := 0, slots := 0, locals := 887 } : Room) s m args below meth c 0 0 (MQ below (Qw E S R r.1 (some (.int r.2))) args s 0 0 (fun q => E.1 ≤ q)) 50 [(0, .ref (E.1 + a0)), (1, .int x1), (2, .int x2)] [] S R I := by
  intro I a0 x1 x2 h
  rw [f_X11_gapFor_50] at h
  refine k_aloadn (pc := 50) C dX11_gapFor_50 (i := 0) rfl 0 rfl ?_
  obtain ⟨hs50, h⟩ := gp_e h
  have hs5 := sok_e hs50
  obtain ⟨b6, hb6, h⟩ := rl_e h
  refine k_getR (pc := 51) C lkF_RX11_12_11 hs5 ir_11_0 hb6 dX11_gapFor_51 ?_
  refine k_iloadn (pc := 54) C dX11_gapFor_54 (i := 1) rfl 1 rfl ?_
  obtain ⟨hs70, h⟩ := gp_e h
  have hs7 := sok_e hs70
  obtain ⟨r8, hr8, h⟩ := bd_e h
  refine k_V (pc := 55) (st := []) C (c_X7_becomeGap hr8) lkV_RX11_118 hs7 rfl rfl rfl (Nat.le_of_ble_eq_true rfl) (Nat.le_of_ble_eq_true rfl) (Nat.le_of_ble_eq_true rfl) (Nat.le_of_ble_eq_true rfl) (Nat.le_of_ble_eq_true rfl) dX11_gapFor_55 ?_
  refine k_nf (cells2 := 0) (slots2 := 0) (st2 := []) rfl rfl rfl ?_
  refine k_iloadn (pc := 58) C dX11_gapFor_58 (i := 2) rfl 2 rfl ?_
  have h := Option.some.inj h
  subst h
  exact k_iret (pc := 59) C hr hk dX11_gapFor_59
def f_X11_gapFor_44 (S : Sh) (R : Rw) (ko13 : Iw → Nat → Int32 → Int32 → Int32 → Option (Iw × Int32)) (I : Iw) (a0 : Nat) (x1 : Int32) (x2 : Int32) (x3 : Int32) : Option (Iw × Int32) := ko13 I a0 x1 x2 (x3 + (-1 : Int32))
set_option maxHeartbeats 4000000 in
theorem b_X11_gapFor_44 {E : Ev} {p : Program} {l : Launch} {e : Env} {s : State} {m : MethodId} {args : Array Value} {below : List Frame} {meth : Method} {c : Code} (C : Cx E RX11 cX11_gapFor 4 p s m c) (hr : meth.sig.returnType = (some .int)) (hk : meth.locks = false) {S : Sh} {R : Rw} {r : Iw × Int32}  {ko13 : Iw → Nat → Int32 → Int32 → Int32 → Option (Iw × Int32)} (hko13 : ∀ (I : Iw) (a0 : Nat) (x1 : Int32) (x2 : Int32) (x3 : Int32), ko13 I a0 x1 x2 x3 = some r → Wk E 4 p l e ({ frames := 38, cells := 0, slots := 0, locals := 887 } : Room) s m args below meth c 0 0 (MQ below (Qw E S R r.1 (some (.int r.2))) args s 0 0 (fun q => E.1 ≤ q)) 13 [(0, .ref (E.1 + a0)), (1, .int x1), (2, .int x2), (3, .int x3)] [] S R I) : ∀ (I : Iw) (a0 : Nat) (x1 : Int32) (x2 : Int32) (x3 : Int32), f_X11_gapFor_44 S R ko13  I a0 x1 x2 x3 = some r → Wk E 4 p l e ({ frames := 38, cells := 0, slots := 0, locals := 887 } : Room) s m args below meth c 0 0 (MQ below (Qw E S R r.1 (some (.int r.2))) args s 0 0 (fun q => E.1 ≤ q)) 44 [(0, .ref (E.1 + a0)), (1, .int x1), (2, .int x2), (3, .int x3)] [] S R I := by
  intro I a0 x1 x2 x3 h
  rw [f_X11_gapFor_44] at h
  refine k_iinc (pc := 44) C dX11_gapFor_44 3 rfl (v := x3 + (-1 : Int32)) (by rfl) (by decide) (L2 := [(0, .ref (E.1 + a0)), (1, .int x1), (2, .int x2), (3, .int (x3 + (-1 : Int32)))]) rfl ?_
  refine k_goto (pc := 47) C dX11_gapFor_47 (tgt := 13) (by decide) ?_
  exact hko13 _ _ _ _ _ h
def f_X11_gapFor_13 (S : Sh) (R : Rw)  : Nat → Iw → Nat → Int32 → Int32 → Int32 → Option (Iw × Int32)
  | 0, _, _, _, _, _ => none
  | n + 1, I, a0, x1, x2, x3 => (if x3 < (1 : Int32) then f_X11_gapFor_50 S R  I a0 x1 x2 else (if x2 = (-3 : Int32) then gp (sok S a0 11 12) (rl (R a0 0) (fun b11 => gp (sok S b11 7 16) (bd (f_X7_becomeGap S R I b11 x3) (fun r13 => rl (R a0 4) (fun b14 => gp (sok S b14 2 11) (bd (f_X2_study S R r13 b14) (fun r16 => (if r16.2 ≤ 0 then f_X11_gapFor_44 S R (f_X11_gapFor_13 S R  n) r16.1 a0 x1 x2 x3 else f_X11_gapFor_44 S R (f_X11_gapFor_13 S R  n) r16.1 a0 x1 x3 x3)))))))) else f_X11_gapFor_50 S R  I a0 x1 x2))
set_option maxHeartbeats 4000000 in
theorem b_X11_gapFor_13 {E : Ev} {p : Program} {l : Launch} {e : Env} {s : State} {m : MethodId} {args : Array Value} {below : List Frame} {meth : Method} {c : Code} (C : Cx E RX11 cX11_gapFor 4 p s m c) (hr : meth.sig.returnType = (some .int)) (hk : meth.locks = false) {S : Sh} {R : Rw} {r : Iw × Int32}  : ∀ (n : Nat) (I : Iw) (a0 : Nat) (x1 : Int32) (x2 : Int32) (x3 : Int32), f_X11_gapFor_13 S R  n I a0 x1 x2 x3 = some r → Wk E 4 p l e ({ frames := 38, cells := 0, slots := 0, locals := 887 } : Room) s m args below meth c 0 0 (MQ below (Qw E S R r.1 (some (.int r.2))) args s 0 0 (fun q => E.1 ≤ q)) 13 [(0, .ref (E.1 + a0)), (1, .int x1), (2, .int x2), (3, .int x3)] [] S R I := by
  intro n
  induction n with
  | zero =>
    intro I a0 x1 x2 x3 h
    rw [f_X11_gapFor_13] at h
    cases h
  | succ n ih =>
    intro I a0 x1 x2 x3 h
    rw [f_X11_gapFor_13] at h
    refine k_iloadn (pc := 13) C dX11_gapFor_13 (i := 3) rfl 3 rfl ?_
    refine k_iconst (pc := 14) C (v := (1 : Int32)) dX11_gapFor_14 (by decide) ?_
    refine k_icmp_lt (pc := 15) C dX11_gapFor_15 (tgt := 50) (by decide) (fun hc4 => ?_) (fun hc4 => ?_)
    · rw [if_pos hc4] at h
      refine k_loc (L2 := [(0, .ref (E.1 + a0)), (1, .int x1), (2, .int x2)]) [0, 1, 2] rfl ?_
      exact b_X11_gapFor_50 C hr hk  _ _ _ _ h
    · rw [if_neg hc4] at h
      refine k_iloadn (pc := 18) C dX11_gapFor_18 (i := 2) rfl 2 rfl ?_
      refine k_bipush (pc := 19) C (v := (-3 : Int32)) dX11_gapFor_19 (by decide) ?_
      refine k_icmp_ne (pc := 21) C dX11_gapFor_21 (tgt := 50) (by decide) (fun hc9 => ?_) (fun hc9 => ?_)
      · rw [if_neg hc9] at h
        refine k_loc (L2 := [(0, .ref (E.1 + a0)), (1, .int x1), (2, .int x2)]) [0, 1, 2] rfl ?_
        exact b_X11_gapFor_50 C hr hk  _ _ _ _ h
      · rw [if_pos hc9] at h
        refine k_aloadn (pc := 24) C dX11_gapFor_24 (i := 0) rfl 0 rfl ?_
        obtain ⟨hs100, h⟩ := gp_e h
        have hs10 := sok_e hs100
        obtain ⟨b11, hb11, h⟩ := rl_e h
        refine k_getR (pc := 25) C lkF_RX11_12_11 hs10 ir_11_0 hb11 dX11_gapFor_25 ?_
        refine k_iloadn (pc := 28) C dX11_gapFor_28 (i := 3) rfl 3 rfl ?_
        obtain ⟨hs120, h⟩ := gp_e h
        have hs12 := sok_e hs120
        obtain ⟨r13, hr13, h⟩ := bd_e h
        refine k_V (pc := 29) (st := []) C (c_X7_becomeGap hr13) lkV_RX11_118 hs12 rfl rfl rfl (Nat.le_of_ble_eq_true rfl) (Nat.le_of_ble_eq_true rfl) (Nat.le_of_ble_eq_true rfl) (Nat.le_of_ble_eq_true rfl) (Nat.le_of_ble_eq_true rfl) dX11_gapFor_29 ?_
        refine k_nf (cells2 := 0) (slots2 := 0) (st2 := []) rfl rfl rfl ?_
        refine k_aloadn (pc := 32) C dX11_gapFor_32 (i := 0) rfl 0 rfl ?_
        obtain ⟨b14, hb14, h⟩ := rl_e h
        refine k_getR (pc := 33) C lkF_RX11_31_11 hs10 ir_11_4 hb14 dX11_gapFor_33 ?_
        obtain ⟨hs150, h⟩ := gp_e h
        have hs15 := sok_e hs150
        obtain ⟨r16, hr16, h⟩ := bd_e h
        refine k_V (pc := 36) (st := []) C (c_X2_study hr16) lkV_RX11_155 hs15 rfl rfl rfl (Nat.le_of_ble_eq_true rfl) (Nat.le_of_ble_eq_true rfl) (Nat.le_of_ble_eq_true rfl) (Nat.le_of_ble_eq_true rfl) (Nat.le_of_ble_eq_true rfl) dX11_gapFor_36 ?_
        refine k_nf (cells2 := 0) (slots2 := 0) (st2 := [.int r16.2]) rfl rfl rfl ?_
        refine k_if_le (pc := 39) C dX11_gapFor_39 (tgt := 44) (by decide) (fun hc17 => ?_) (fun hc17 => ?_)
        · rw [if_pos hc17] at h
          exact b_X11_gapFor_44 C hr hk ih _ _ _ _ _ h
        · rw [if_neg hc17] at h
          refine k_iloadn (pc := 42) C dX11_gapFor_42 (i := 3) rfl 3 rfl ?_
          refine k_istoren (pc := 43) C dX11_gapFor_43 (i := 2) rfl (by decide) (L2 := [(0, .ref (E.1 + a0)), (1, .int x1), (2, .int x3), (3, .int x3)]) rfl ?_
          exact b_X11_gapFor_44 C hr hk ih _ _ _ _ _ h
def f_X11_gapFor (S : Sh) (R : Rw)  (I : Iw) (a0 : Nat) : Option (Iw × Int32) := gp (sok S a0 11 12) (rl (R a0 0) (fun b2 => gp (sok S b2 7 16) (f_X11_gapFor_13 S R  512 I a0 (I b2 9) (-3 : Int32) (3 : Int32))))
set_option maxHeartbeats 4000000 in
theorem b_X11_gapFor {E : Ev} {p : Program} {l : Launch} {e : Env} {s : State} {m : MethodId} {args : Array Value} {below : List Frame} {meth : Method} {c : Code} (C : Cx E RX11 cX11_gapFor 4 p s m c) (hr : meth.sig.returnType = (some .int)) (hk : meth.locks = false) {S : Sh} {R : Rw} {r : Iw × Int32}  : ∀ (I : Iw) (a0 : Nat), f_X11_gapFor S R   I a0 = some r → Wk E 4 p l e ({ frames := 38, cells := 0, slots := 0, locals := 887 } : Room) s m args below meth c 0 0 (MQ below (Qw E S R r.1 (some (.int r.2))) args s 0 0 (fun q => E.1 ≤ q)) 0 [(0, .ref (E.1 + a0))] [] S R I := by
  intro I a0 h
  rw [f_X11_gapFor] at h
  refine k_aloadn (pc := 0) C dX11_gapFor_0 (i := 0) rfl 0 rfl ?_
  obtain ⟨hs10, h⟩ := gp_e h
  have hs1 := sok_e hs10
  obtain ⟨b2, hb2, h⟩ := rl_e h
  refine k_getR (pc := 1) C lkF_RX11_12_11 hs1 ir_11_0 hb2 dX11_gapFor_1 ?_
  obtain ⟨hs30, h⟩ := gp_e h
  have hs3 := sok_e hs30
  refine k_getI (pc := 4) C lkF_RX11_115_7 hs3 ir_7_9 dX11_gapFor_4 ?_
  refine k_istoren (pc := 7) C dX11_gapFor_7 (i := 1) rfl (by decide) (L2 := [(0, .ref (E.1 + a0)), (1, .int (I b2 9))]) rfl ?_
  refine k_bipush (pc := 8) C (v := (-3 : Int32)) dX11_gapFor_8 (by decide) ?_
  refine k_istoren (pc := 10) C dX11_gapFor_10 (i := 2) rfl (by decide) (L2 := [(0, .ref (E.1 + a0)), (1, .int (I b2 9)), (2, .int (-3 : Int32))]) rfl ?_
  refine k_iconst (pc := 11) C (v := (3 : Int32)) dX11_gapFor_11 (by decide) ?_
  refine k_istoren (pc := 12) C dX11_gapFor_12 (i := 3) rfl (by decide) (L2 := [(0, .ref (E.1 + a0)), (1, .int (I b2 9)), (2, .int (-3 : Int32)), (3, .int (3 : Int32))]) rfl ?_
  exact b_X11_gapFor_13 C hr hk  _ _ _ _ _ _ h
theorem c_X11_gapFor {E : Ev} {l : Launch} {S : Sh} {R : Rw} {I : Iw} {a0 : Nat} {r : Iw × Int32} (h : f_X11_gapFor S R I a0 = some r) : Mt E l yX11_gapFor cX11_gapFor 4 (some .int) 38 887 [.ref (E.1 + a0)] S R I S R r.1 (some (.int r.2)) 0 0 := mt_of (by decide) (Nat.le_of_ble_eq_true rfl) (fun p e s m args below meth c C hr hk hn => b_X11_gapFor C hr hk _ _ h)
theorem lkV_RX11_182 : LkV RX11 182 RX2 yX2_wins cX2_wins 3 (some .boolean) 2 := ⟨(t3_in 188 (by decide +kernel) rfl), (t3_in 189 (by decide +kernel) rfl), (t3_in 190 (by decide +kernel) rfl), (t3_in 191 (by decide +kernel) rfl), (t1_in 5 (by decide +kernel) rfl), by decide, by decide +kernel⟩
theorem dX11_game_0 : decode cX11_game 0 = .ok (.aload_n 0, 1) := by decide +kernel
theorem dX11_game_1 : decode cX11_game 1 = .ok (.getfield 31, 3) := by decide +kernel
theorem dX11_game_4 : decode cX11_game 4 = .ok (.invokevirtual 155, 3) := by decide +kernel
theorem dX11_game_7 : decode cX11_game 7 = .ok (.pop, 1) := by decide +kernel
theorem dX11_game_8 : decode cX11_game 8 = .ok (.aload_n 0, 1) := by decide +kernel
theorem dX11_game_9 : decode cX11_game 9 = .ok (.getfield 31, 3) := by decide +kernel
theorem dX11_game_12 : decode cX11_game 12 = .ok (.aload_n 0, 1) := by decide +kernel
theorem dX11_game_13 : decode cX11_game 13 = .ok (.getfield 12, 3) := by decide +kernel
theorem dX11_game_16 : decode cX11_game 16 = .ok (.getfield 89, 3) := by decide +kernel
theorem dX11_game_19 : decode cX11_game 19 = .ok (.aload_n 0, 1) := by decide +kernel
theorem dX11_game_20 : decode cX11_game 20 = .ok (.getfield 12, 3) := by decide +kernel
theorem dX11_game_23 : decode cX11_game 23 = .ok (.invokevirtual 93, 3) := by decide +kernel
theorem dX11_game_26 : decode cX11_game 26 = .ok (.invokevirtual 182, 3) := by decide +kernel
theorem dX11_game_29 : decode cX11_game 29 = .ok (.ifCond .eq 7, 3) := by decide +kernel
theorem dX11_game_32 : decode cX11_game 32 = .ok (.iconst 1, 1) := by decide +kernel
theorem dX11_game_33 : decode cX11_game 33 = .ok (.goto 4, 3) := by decide +kernel
theorem dX11_game_36 : decode cX11_game 36 = .ok (.iconst 0, 1) := by decide +kernel
theorem dX11_game_37 : decode cX11_game 37 = .ok (.ireturn, 1) := by decide +kernel
def f_X11_game (S : Sh) (R : Rw)  (I : Iw) (a0 : Nat) : Option (Iw × Int32) := gp (sok S a0 11 12) (rl (R a0 4) (fun b2 => gp (sok S b2 2 11) (bd (f_X2_study S R I b2) (fun r4 => rl (R a0 4) (fun b5 => rl (R a0 0) (fun b6 => gp (sok S b6 7 16) (rl (R a0 0) (fun b8 => gp (sok S b8 7 16) (bd (f_X7_last S R r4.1 b8) (fun r10 => gp (sok S b5 2 11) (bd (f_X2_wins S R r4.1 b5 (r4.1 b6 6) r10) (fun r12 => (if r12 = 0 then some (r4.1, (0 : Int32)) else some (r4.1, (1 : Int32)))))))))))))))
set_option maxHeartbeats 4000000 in
theorem b_X11_game {E : Ev} {p : Program} {l : Launch} {e : Env} {s : State} {m : MethodId} {args : Array Value} {below : List Frame} {meth : Method} {c : Code} (C : Cx E RX11 cX11_game 1 p s m c) (hr : meth.sig.returnType = (some .int)) (hk : meth.locks = false) {S : Sh} {R : Rw} {r : Iw × Int32}  : ∀ (I : Iw) (a0 : Nat), f_X11_game S R   I a0 = some r → Wk E 1 p l e ({ frames := 38, cells := 0, slots := 0, locals := 887 } : Room) s m args below meth c 0 0 (MQ below (Qw E S R r.1 (some (.int r.2))) args s 0 0 (fun q => E.1 ≤ q)) 0 [(0, .ref (E.1 + a0))] [] S R I := by
  intro I a0 h
  rw [f_X11_game] at h
  refine k_aloadn (pc := 0) C dX11_game_0 (i := 0) rfl 0 rfl ?_
  obtain ⟨hs10, h⟩ := gp_e h
  have hs1 := sok_e hs10
  obtain ⟨b2, hb2, h⟩ := rl_e h
  refine k_getR (pc := 1) C lkF_RX11_31_11 hs1 ir_11_4 hb2 dX11_game_1 ?_
  obtain ⟨hs30, h⟩ := gp_e h
  have hs3 := sok_e hs30
  obtain ⟨r4, hr4, h⟩ := bd_e h
  refine k_V (pc := 4) (st := []) C (c_X2_study hr4) lkV_RX11_155 hs3 rfl rfl rfl (Nat.le_of_ble_eq_true rfl) (Nat.le_of_ble_eq_true rfl) (Nat.le_of_ble_eq_true rfl) (Nat.le_of_ble_eq_true rfl) (Nat.le_of_ble_eq_true rfl) dX11_game_4 ?_
  refine k_nf (cells2 := 0) (slots2 := 0) (st2 := [.int r4.2]) rfl rfl rfl ?_
  refine k_pop (pc := 7) C dX11_game_7 rfl ?_
  refine k_aloadn (pc := 8) C dX11_game_8 (i := 0) rfl 0 rfl ?_
  obtain ⟨b5, hb5, h⟩ := rl_e h
  refine k_getR (pc := 9) C lkF_RX11_31_11 hs1 ir_11_4 hb5 dX11_game_9 ?_
  refine k_aloadn (pc := 12) C dX11_game_12 (i := 0) rfl 0 rfl ?_
  obtain ⟨b6, hb6, h⟩ := rl_e h
  refine k_getR (pc := 13) C lkF_RX11_12_11 hs1 ir_11_0 hb6 dX11_game_13 ?_
  obtain ⟨hs70, h⟩ := gp_e h
  have hs7 := sok_e hs70
  refine k_getI (pc := 16) C lkF_RX11_89_7 hs7 ir_7_6 dX11_game_16 ?_
  refine k_aloadn (pc := 19) C dX11_game_19 (i := 0) rfl 0 rfl ?_
  obtain ⟨b8, hb8, h⟩ := rl_e h
  refine k_getR (pc := 20) C lkF_RX11_12_11 hs1 ir_11_0 hb8 dX11_game_20 ?_
  obtain ⟨hs90, h⟩ := gp_e h
  have hs9 := sok_e hs90
  obtain ⟨r10, hr10, h⟩ := bd_e h
  refine k_V (pc := 23) (st := [.int (r4.1 b6 6), .ref (E.1 + b5)]) C (c_X7_last hr10) lkV_RX11_93 hs9 rfl rfl rfl (Nat.le_of_ble_eq_true rfl) (Nat.le_of_ble_eq_true rfl) (Nat.le_of_ble_eq_true rfl) (Nat.le_of_ble_eq_true rfl) (Nat.le_of_ble_eq_true rfl) dX11_game_23 ?_
  refine k_nf (cells2 := 0) (slots2 := 0) (st2 := [.int r10, .int (r4.1 b6 6), .ref (E.1 + b5)]) rfl rfl rfl ?_
  obtain ⟨hs110, h⟩ := gp_e h
  have hs11 := sok_e hs110
  obtain ⟨r12, hr12, h⟩ := bd_e h
  refine k_V (pc := 26) (st := []) C (c_X2_wins hr12) lkV_RX11_182 hs11 rfl rfl rfl (Nat.le_of_ble_eq_true rfl) (Nat.le_of_ble_eq_true rfl) (Nat.le_of_ble_eq_true rfl) (Nat.le_of_ble_eq_true rfl) (Nat.le_of_ble_eq_true rfl) dX11_game_26 ?_
  refine k_nf (cells2 := 0) (slots2 := 0) (st2 := [.int r12]) rfl rfl rfl ?_
  refine k_if_eq (pc := 29) C dX11_game_29 (tgt := 36) (by decide) (fun hc13 => ?_) (fun hc13 => ?_)
  · rw [if_pos hc13] at h
    refine k_iconst (pc := 36) C (v := (0 : Int32)) dX11_game_36 (by decide) ?_
    have h := Option.some.inj h
    subst h
    exact k_iret (pc := 37) C hr hk dX11_game_37
  · rw [if_neg hc13] at h
    refine k_iconst (pc := 32) C (v := (1 : Int32)) dX11_game_32 (by decide) ?_
    refine k_goto (pc := 33) C dX11_game_33 (tgt := 37) (by decide) ?_
    have h := Option.some.inj h
    subst h
    exact k_iret (pc := 37) C hr hk dX11_game_37
theorem c_X11_game {E : Ev} {l : Launch} {S : Sh} {R : Rw} {I : Iw} {a0 : Nat} {r : Iw × Int32} (h : f_X11_game S R I a0 = some r) : Mt E l yX11_game cX11_game 1 (some .int) 38 887 [.ref (E.1 + a0)] S R I S R r.1 (some (.int r.2)) 0 0 := mt_of (by decide) (Nat.le_of_ble_eq_true rfl) (fun p e s m args below meth c C hr hk hn => b_X11_game C hr hk _ _ h)
theorem dX11_play_0 : decode cX11_play 0 = .ok (.aload_n 0, 1) := by decide +kernel
theorem dX11_play_1 : decode cX11_play 1 = .ok (.getfield 31, 3) := by decide +kernel
theorem dX11_play_4 : decode cX11_play 4 = .ok (.invokevirtual 155, 3) := by decide +kernel
theorem dX11_play_7 : decode cX11_play 7 = .ok (.pop, 1) := by decide +kernel
theorem dX11_play_8 : decode cX11_play 8 = .ok (.aload_n 0, 1) := by decide +kernel
theorem dX11_play_9 : decode cX11_play 9 = .ok (.invokevirtual 140, 3) := by decide +kernel
theorem dX11_play_12 : decode cX11_play 12 = .ok (.istore_n 1, 1) := by decide +kernel
theorem dX11_play_13 : decode cX11_play 13 = .ok (.iconst 0, 1) := by decide +kernel
theorem dX11_play_14 : decode cX11_play 14 = .ok (.istore_n 2, 1) := by decide +kernel
theorem dX11_play_15 : decode cX11_play 15 = .ok (.iload_n 2, 1) := by decide +kernel
theorem dX11_play_16 : decode cX11_play 16 = .ok (.bipush 9, 2) := by decide +kernel
theorem dX11_play_18 : decode cX11_play 18 = .ok (.if_icmp .ge 41, 3) := by decide +kernel
theorem dX11_play_21 : decode cX11_play 21 = .ok (.iload_n 1, 1) := by decide +kernel
theorem dX11_play_22 : decode cX11_play 22 = .ok (.iload_n 2, 1) := by decide +kernel
theorem dX11_play_23 : decode cX11_play 23 = .ok (.invokestatic 101, 3) := by decide +kernel
theorem dX11_play_26 : decode cX11_play 26 = .ok (.ifCond .eq 27, 3) := by decide +kernel
theorem dX11_play_29 : decode cX11_play 29 = .ok (.aload_n 0, 1) := by decide +kernel
theorem dX11_play_30 : decode cX11_play 30 = .ok (.getfield 31, 3) := by decide +kernel
theorem dX11_play_33 : decode cX11_play 33 = .ok (.aload_n 0, 1) := by decide +kernel
theorem dX11_play_34 : decode cX11_play 34 = .ok (.getfield 12, 3) := by decide +kernel
theorem dX11_play_37 : decode cX11_play 37 = .ok (.getfield 89, 3) := by decide +kernel
theorem dX11_play_40 : decode cX11_play 40 = .ok (.iload_n 2, 1) := by decide +kernel
theorem dX11_play_41 : decode cX11_play 41 = .ok (.invokestatic 173, 3) := by decide +kernel
theorem dX11_play_44 : decode cX11_play 44 = .ok (.iload_n 2, 1) := by decide +kernel
theorem dX11_play_45 : decode cX11_play 45 = .ok (.invokevirtual 182, 3) := by decide +kernel
theorem dX11_play_48 : decode cX11_play 48 = .ok (.ifCond .ne 5, 3) := by decide +kernel
theorem dX11_play_51 : decode cX11_play 51 = .ok (.iload_n 2, 1) := by decide +kernel
theorem dX11_play_52 : decode cX11_play 52 = .ok (.ireturn, 1) := by decide +kernel
theorem dX11_play_53 : decode cX11_play 53 = .ok (.iinc 2 1, 3) := by decide +kernel
theorem dX11_play_56 : decode cX11_play 56 = .ok (.goto (-41), 3) := by decide +kernel
theorem dX11_play_59 : decode cX11_play 59 = .ok (.bipush (-3), 2) := by decide +kernel
theorem dX11_play_61 : decode cX11_play 61 = .ok (.ireturn, 1) := by decide +kernel
def f_X11_play_53 (S : Sh) (R : Rw) (ko15 : Iw → Nat → Int32 → Int32 → Option (Iw × Int32)) (I : Iw) (a0 : Nat) (x1 : Int32) (x2 : Int32) : Option (Iw × Int32) := ko15 I a0 x1 (x2 + (1 : Int32))
set_option maxHeartbeats 4000000 in
theorem b_X11_play_53 {E : Ev} {p : Program} {l : Launch} {e : Env} {s : State} {m : MethodId} {args : Array Value} {below : List Frame} {meth : Method} {c : Code} (C : Cx E RX11 cX11_play 3 p s m c) (hr : meth.sig.returnType = (some .int)) (hk : meth.locks = false) {S : Sh} {R : Rw} {r : Iw × Int32}  {ko15 : Iw → Nat → Int32 → Int32 → Option (Iw × Int32)} (hko15 : ∀ (I : Iw) (a0 : Nat) (x1 : Int32) (x2 : Int32), ko15 I a0 x1 x2 = some r → Wk E 3 p l e ({ frames := 38, cells := 0, slots := 0, locals := 887 } : Room) s m args below meth c 0 0 (MQ below (Qw E S R r.1 (some (.int r.2))) args s 0 0 (fun q => E.1 ≤ q)) 15 [(0, .ref (E.1 + a0)), (1, .int x1), (2, .int x2)] [] S R I) : ∀ (I : Iw) (a0 : Nat) (x1 : Int32) (x2 : Int32), f_X11_play_53 S R ko15  I a0 x1 x2 = some r → Wk E 3 p l e ({ frames := 38, cells := 0, slots := 0, locals := 887 } : Room) s m args below meth c 0 0 (MQ below (Qw E S R r.1 (some (.int r.2))) args s 0 0 (fun q => E.1 ≤ q)) 53 [(0, .ref (E.1 + a0)), (1, .int x1), (2, .int x2)] [] S R I := by
  intro I a0 x1 x2 h
  rw [f_X11_play_53] at h
  refine k_iinc (pc := 53) C dX11_play_53 2 rfl (v := x2 + (1 : Int32)) (by rfl) (by decide) (L2 := [(0, .ref (E.1 + a0)), (1, .int x1), (2, .int (x2 + (1 : Int32)))]) rfl ?_
  refine k_goto (pc := 56) C dX11_play_56 (tgt := 15) (by decide) ?_
  exact hko15 _ _ _ _ h
def f_X11_play_15 (S : Sh) (R : Rw)  : Nat → Iw → Nat → Int32 → Int32 → Option (Iw × Int32)
  | 0, _, _, _, _ => none
  | n + 1, I, a0, x1, x2 => (if (9 : Int32) ≤ x2 then some (I, (-3 : Int32)) else bd (f_X11_holds S R I x1 x2) (fun r7 => (if r7 = 0 then f_X11_play_53 S R (f_X11_play_15 S R  n) I a0 x1 x2 else gp (sok S a0 11 12) (rl (R a0 4) (fun b10 => rl (R a0 0) (fun b11 => gp (sok S b11 7 16) (bd (f_X11_without S R I (I b11 6) x2) (fun r13 => gp (sok S b10 2 11) (bd (f_X2_wins S R I b10 r13 x2) (fun r15 => (if r15 = 0 then some (I, x2) else f_X11_play_53 S R (f_X11_play_15 S R  n) I a0 x1 x2)))))))))))
set_option maxHeartbeats 4000000 in
theorem b_X11_play_15 {E : Ev} {p : Program} {l : Launch} {e : Env} {s : State} {m : MethodId} {args : Array Value} {below : List Frame} {meth : Method} {c : Code} (C : Cx E RX11 cX11_play 3 p s m c) (hr : meth.sig.returnType = (some .int)) (hk : meth.locks = false) {S : Sh} {R : Rw} {r : Iw × Int32}  : ∀ (n : Nat) (I : Iw) (a0 : Nat) (x1 : Int32) (x2 : Int32), f_X11_play_15 S R  n I a0 x1 x2 = some r → Wk E 3 p l e ({ frames := 38, cells := 0, slots := 0, locals := 887 } : Room) s m args below meth c 0 0 (MQ below (Qw E S R r.1 (some (.int r.2))) args s 0 0 (fun q => E.1 ≤ q)) 15 [(0, .ref (E.1 + a0)), (1, .int x1), (2, .int x2)] [] S R I := by
  intro n
  induction n with
  | zero =>
    intro I a0 x1 x2 h
    rw [f_X11_play_15] at h
    cases h
  | succ n ih =>
    intro I a0 x1 x2 h
    rw [f_X11_play_15] at h
    refine k_iloadn (pc := 15) C dX11_play_15 (i := 2) rfl 2 rfl ?_
    refine k_bipush (pc := 16) C (v := (9 : Int32)) dX11_play_16 (by decide) ?_
    refine k_icmp_ge (pc := 18) C dX11_play_18 (tgt := 59) (by decide) (fun hc6 => ?_) (fun hc6 => ?_)
    · rw [if_pos hc6] at h
      refine k_bipush (pc := 59) C (v := (-3 : Int32)) dX11_play_59 (by decide) ?_
      have h := Option.some.inj h
      subst h
      exact k_iret (pc := 61) C hr hk dX11_play_61
    · rw [if_neg hc6] at h
      refine k_iloadn (pc := 21) C dX11_play_21 (i := 1) rfl 1 rfl ?_
      refine k_iloadn (pc := 22) C dX11_play_22 (i := 2) rfl 2 rfl ?_
      obtain ⟨r7, hr7, h⟩ := bd_e h
      refine k_S (pc := 23) (st := []) C (c_X11_holds hr7) lkS_RX11_101 rfl rfl (Nat.le_of_ble_eq_true rfl) (Nat.le_of_ble_eq_true rfl) (Nat.le_of_ble_eq_true rfl) (Nat.le_of_ble_eq_true rfl) (Nat.le_of_ble_eq_true rfl) dX11_play_23 ?_
      refine k_nf (cells2 := 0) (slots2 := 0) (st2 := [.int r7]) rfl rfl rfl ?_
      refine k_if_eq (pc := 26) C dX11_play_26 (tgt := 53) (by decide) (fun hc8 => ?_) (fun hc8 => ?_)
      · rw [if_pos hc8] at h
        exact b_X11_play_53 C hr hk ih _ _ _ _ h
      · rw [if_neg hc8] at h
        refine k_aloadn (pc := 29) C dX11_play_29 (i := 0) rfl 0 rfl ?_
        obtain ⟨hs90, h⟩ := gp_e h
        have hs9 := sok_e hs90
        obtain ⟨b10, hb10, h⟩ := rl_e h
        refine k_getR (pc := 30) C lkF_RX11_31_11 hs9 ir_11_4 hb10 dX11_play_30 ?_
        refine k_aloadn (pc := 33) C dX11_play_33 (i := 0) rfl 0 rfl ?_
        obtain ⟨b11, hb11, h⟩ := rl_e h
        refine k_getR (pc := 34) C lkF_RX11_12_11 hs9 ir_11_0 hb11 dX11_play_34 ?_
        obtain ⟨hs120, h⟩ := gp_e h
        have hs12 := sok_e hs120
        refine k_getI (pc := 37) C lkF_RX11_89_7 hs12 ir_7_6 dX11_play_37 ?_
        refine k_iloadn (pc := 40) C dX11_play_40 (i := 2) rfl 2 rfl ?_
        obtain ⟨r13, hr13, h⟩ := bd_e h
        refine k_S (pc := 41) (st := [.ref (E.1 + b10)]) C (c_X11_without hr13) lkS_RX11_173 rfl rfl (Nat.le_of_ble_eq_true rfl) (Nat.le_of_ble_eq_true rfl) (Nat.le_of_ble_eq_true rfl) (Nat.le_of_ble_eq_true rfl) (Nat.le_of_ble_eq_true rfl) dX11_play_41 ?_
        refine k_nf (cells2 := 0) (slots2 := 0) (st2 := [.int r13, .ref (E.1 + b10)]) rfl rfl rfl ?_
        refine k_iloadn (pc := 44) C dX11_play_44 (i := 2) rfl 2 rfl ?_
        obtain ⟨hs140, h⟩ := gp_e h
        have hs14 := sok_e hs140
        obtain ⟨r15, hr15, h⟩ := bd_e h
        refine k_V (pc := 45) (st := []) C (c_X2_wins hr15) lkV_RX11_182 hs14 rfl rfl rfl (Nat.le_of_ble_eq_true rfl) (Nat.le_of_ble_eq_true rfl) (Nat.le_of_ble_eq_true rfl) (Nat.le_of_ble_eq_true rfl) (Nat.le_of_ble_eq_true rfl) dX11_play_45 ?_
        refine k_nf (cells2 := 0) (slots2 := 0) (st2 := [.int r15]) rfl rfl rfl ?_
        refine k_if_ne (pc := 48) C dX11_play_48 (tgt := 53) (by decide) (fun hc16 => ?_) (fun hc16 => ?_)
        · rw [if_neg hc16] at h
          exact b_X11_play_53 C hr hk ih _ _ _ _ h
        · rw [if_pos hc16] at h
          refine k_iloadn (pc := 51) C dX11_play_51 (i := 2) rfl 2 rfl ?_
          have h := Option.some.inj h
          subst h
          exact k_iret (pc := 52) C hr hk dX11_play_52
def f_X11_play (S : Sh) (R : Rw)  (I : Iw) (a0 : Nat) : Option (Iw × Int32) := gp (sok S a0 11 12) (rl (R a0 4) (fun b2 => gp (sok S b2 2 11) (bd (f_X2_study S R I b2) (fun r4 => bd (f_X11_may S R r4.1 a0) (fun r5 => f_X11_play_15 S R  512 r4.1 a0 r5 (0 : Int32))))))
set_option maxHeartbeats 4000000 in
theorem b_X11_play {E : Ev} {p : Program} {l : Launch} {e : Env} {s : State} {m : MethodId} {args : Array Value} {below : List Frame} {meth : Method} {c : Code} (C : Cx E RX11 cX11_play 3 p s m c) (hr : meth.sig.returnType = (some .int)) (hk : meth.locks = false) {S : Sh} {R : Rw} {r : Iw × Int32}  : ∀ (I : Iw) (a0 : Nat), f_X11_play S R   I a0 = some r → Wk E 3 p l e ({ frames := 38, cells := 0, slots := 0, locals := 887 } : Room) s m args below meth c 0 0 (MQ below (Qw E S R r.1 (some (.int r.2))) args s 0 0 (fun q => E.1 ≤ q)) 0 [(0, .ref (E.1 + a0))] [] S R I := by
  intro I a0 h
  rw [f_X11_play] at h
  refine k_aloadn (pc := 0) C dX11_play_0 (i := 0) rfl 0 rfl ?_
  obtain ⟨hs10, h⟩ := gp_e h
  have hs1 := sok_e hs10
  obtain ⟨b2, hb2, h⟩ := rl_e h
  refine k_getR (pc := 1) C lkF_RX11_31_11 hs1 ir_11_4 hb2 dX11_play_1 ?_
  obtain ⟨hs30, h⟩ := gp_e h
  have hs3 := sok_e hs30
  obtain ⟨r4, hr4, h⟩ := bd_e h
  refine k_V (pc := 4) (st := []) C (c_X2_study hr4) lkV_RX11_155 hs3 rfl rfl rfl (Nat.le_of_ble_eq_true rfl) (Nat.le_of_ble_eq_true rfl) (Nat.le_of_ble_eq_true rfl) (Nat.le_of_ble_eq_true rfl) (Nat.le_of_ble_eq_true rfl) dX11_play_4 ?_
  refine k_nf (cells2 := 0) (slots2 := 0) (st2 := [.int r4.2]) rfl rfl rfl ?_
  refine k_pop (pc := 7) C dX11_play_7 rfl ?_
  refine k_aloadn (pc := 8) C dX11_play_8 (i := 0) rfl 0 rfl ?_
  obtain ⟨r5, hr5, h⟩ := bd_e h
  refine k_V (pc := 9) (st := []) C (c_X11_may hr5) lkV_RX11_140 hs1 rfl rfl rfl (Nat.le_of_ble_eq_true rfl) (Nat.le_of_ble_eq_true rfl) (Nat.le_of_ble_eq_true rfl) (Nat.le_of_ble_eq_true rfl) (Nat.le_of_ble_eq_true rfl) dX11_play_9 ?_
  refine k_nf (cells2 := 0) (slots2 := 0) (st2 := [.int r5]) rfl rfl rfl ?_
  refine k_istoren (pc := 12) C dX11_play_12 (i := 1) rfl (by decide) (L2 := [(0, .ref (E.1 + a0)), (1, .int r5)]) rfl ?_
  refine k_iconst (pc := 13) C (v := (0 : Int32)) dX11_play_13 (by decide) ?_
  refine k_istoren (pc := 14) C dX11_play_14 (i := 2) rfl (by decide) (L2 := [(0, .ref (E.1 + a0)), (1, .int r5), (2, .int (0 : Int32))]) rfl ?_
  exact b_X11_play_15 C hr hk  _ _ _ _ _ h
theorem c_X11_play {E : Ev} {l : Launch} {S : Sh} {R : Rw} {I : Iw} {a0 : Nat} {r : Iw × Int32} (h : f_X11_play S R I a0 = some r) : Mt E l yX11_play cX11_play 3 (some .int) 38 887 [.ref (E.1 + a0)] S R I S R r.1 (some (.int r.2)) 0 0 := mt_of (by decide) (Nat.le_of_ble_eq_true rfl) (fun p e s m args below meth c C hr hk hn => b_X11_play C hr hk _ _ h)
theorem lkV_RX11_185 : LkV RX11 185 RX7 yX7_addReport cX7_addReport 3 (some .int) 2 := ⟨(t3_in 200 (by decide +kernel) rfl), (t3_in 201 (by decide +kernel) rfl), (t3_in 202 (by decide +kernel) rfl), (t3_in 203 (by decide +kernel) rfl), (t1_in 2 (by decide +kernel) rfl), by decide, by decide +kernel⟩
theorem dX11_report_0 : decode cX11_report 0 = .ok (.aload_n 0, 1) := by decide +kernel
theorem dX11_report_1 : decode cX11_report 1 = .ok (.getfield 12, 3) := by decide +kernel
theorem dX11_report_4 : decode cX11_report 4 = .ok (.iload_n 1, 1) := by decide +kernel
theorem dX11_report_5 : decode cX11_report 5 = .ok (.invokevirtual 63, 3) := by decide +kernel
theorem dX11_report_8 : decode cX11_report 8 = .ok (.ifCond .eq 12, 3) := by decide +kernel
theorem dX11_report_11 : decode cX11_report 11 = .ok (.iload_n 2, 1) := by decide +kernel
theorem dX11_report_12 : decode cX11_report 12 = .ok (.iconst 0, 1) := by decide +kernel
theorem dX11_report_13 : decode cX11_report 13 = .ok (.iconst 1, 1) := by decide +kernel
theorem dX11_report_14 : decode cX11_report 14 = .ok (.invokestatic 55, 3) := by decide +kernel
theorem dX11_report_17 : decode cX11_report 17 = .ok (.ifCond .ne 5, 3) := by decide +kernel
theorem dX11_report_20 : decode cX11_report 20 = .ok (.iconst (-1), 1) := by decide +kernel
theorem dX11_report_21 : decode cX11_report 21 = .ok (.ireturn, 1) := by decide +kernel
theorem dX11_report_22 : decode cX11_report 22 = .ok (.aload_n 0, 1) := by decide +kernel
theorem dX11_report_23 : decode cX11_report 23 = .ok (.getfield 12, 3) := by decide +kernel
theorem dX11_report_26 : decode cX11_report 26 = .ok (.iload_n 1, 1) := by decide +kernel
theorem dX11_report_27 : decode cX11_report 27 = .ok (.iload_n 2, 1) := by decide +kernel
theorem dX11_report_28 : decode cX11_report 28 = .ok (.invokevirtual 185, 3) := by decide +kernel
theorem dX11_report_31 : decode cX11_report 31 = .ok (.ireturn, 1) := by decide +kernel
def f_X11_report (S : Sh) (R : Rw)  (I : Iw) (a0 : Nat) (x1 : Int32) (x2 : Int32) : Option (Iw × Int32) := gp (sok S a0 11 12) (rl (R a0 0) (fun b2 => gp (sok S b2 7 16) (bd (f_X7_has S R I b2 x1) (fun r4 => (if r4 = 0 then some (I, (-1 : Int32)) else bd (f_X11_isBetween S R I x2 (0 : Int32) (1 : Int32)) (fun r6 => (if r6 = 0 then some (I, (-1 : Int32)) else rl (R a0 0) (fun b8 => gp (sok S b8 7 16) (bd (f_X7_addReport S R I b8 x1 x2) (fun r10 => some (r10.1, r10.2)))))))))))
set_option maxHeartbeats 4000000 in
theorem b_X11_report {E : Ev} {p : Program} {l : Launch} {e : Env} {s : State} {m : MethodId} {args : Array Value} {below : List Frame} {meth : Method} {c : Code} (C : Cx E RX11 cX11_report 3 p s m c) (hr : meth.sig.returnType = (some .int)) (hk : meth.locks = false) {S : Sh} {R : Rw} {r : Iw × Int32}  : ∀ (I : Iw) (a0 : Nat) (x1 : Int32) (x2 : Int32), f_X11_report S R   I a0 x1 x2 = some r → Wk E 3 p l e ({ frames := 1, cells := 0, slots := 0, locals := 22 } : Room) s m args below meth c 0 0 (MQ below (Qw E S R r.1 (some (.int r.2))) args s 0 0 (fun q => E.1 ≤ q)) 0 [(0, .ref (E.1 + a0)), (1, .int x1), (2, .int x2)] [] S R I := by
  intro I a0 x1 x2 h
  rw [f_X11_report] at h
  refine k_aloadn (pc := 0) C dX11_report_0 (i := 0) rfl 0 rfl ?_
  obtain ⟨hs10, h⟩ := gp_e h
  have hs1 := sok_e hs10
  obtain ⟨b2, hb2, h⟩ := rl_e h
  refine k_getR (pc := 1) C lkF_RX11_12_11 hs1 ir_11_0 hb2 dX11_report_1 ?_
  refine k_iloadn (pc := 4) C dX11_report_4 (i := 1) rfl 1 rfl ?_
  obtain ⟨hs30, h⟩ := gp_e h
  have hs3 := sok_e hs30
  obtain ⟨r4, hr4, h⟩ := bd_e h
  refine k_V (pc := 5) (st := []) C (c_X7_has hr4) lkV_RX11_63 hs3 rfl rfl rfl (Nat.le_of_ble_eq_true rfl) (Nat.le_of_ble_eq_true rfl) (Nat.le_of_ble_eq_true rfl) (Nat.le_of_ble_eq_true rfl) (Nat.le_of_ble_eq_true rfl) dX11_report_5 ?_
  refine k_nf (cells2 := 0) (slots2 := 0) (st2 := [.int r4]) rfl rfl rfl ?_
  refine k_if_eq (pc := 8) C dX11_report_8 (tgt := 20) (by decide) (fun hc5 => ?_) (fun hc5 => ?_)
  · rw [if_pos hc5] at h
    refine k_iconst (pc := 20) C (v := (-1 : Int32)) dX11_report_20 (by decide) ?_
    have h := Option.some.inj h
    subst h
    exact k_iret (pc := 21) C hr hk dX11_report_21
  · rw [if_neg hc5] at h
    refine k_iloadn (pc := 11) C dX11_report_11 (i := 2) rfl 2 rfl ?_
    refine k_iconst (pc := 12) C (v := (0 : Int32)) dX11_report_12 (by decide) ?_
    refine k_iconst (pc := 13) C (v := (1 : Int32)) dX11_report_13 (by decide) ?_
    obtain ⟨r6, hr6, h⟩ := bd_e h
    refine k_S (pc := 14) (st := []) C (c_X11_isBetween hr6) lkS_RX11_55 rfl rfl (Nat.le_of_ble_eq_true rfl) (Nat.le_of_ble_eq_true rfl) (Nat.le_of_ble_eq_true rfl) (Nat.le_of_ble_eq_true rfl) (Nat.le_of_ble_eq_true rfl) dX11_report_14 ?_
    refine k_nf (cells2 := 0) (slots2 := 0) (st2 := [.int r6]) rfl rfl rfl ?_
    refine k_if_ne (pc := 17) C dX11_report_17 (tgt := 22) (by decide) (fun hc7 => ?_) (fun hc7 => ?_)
    · rw [if_neg hc7] at h
      refine k_aloadn (pc := 22) C dX11_report_22 (i := 0) rfl 0 rfl ?_
      obtain ⟨b8, hb8, h⟩ := rl_e h
      refine k_getR (pc := 23) C lkF_RX11_12_11 hs1 ir_11_0 hb8 dX11_report_23 ?_
      refine k_iloadn (pc := 26) C dX11_report_26 (i := 1) rfl 1 rfl ?_
      refine k_iloadn (pc := 27) C dX11_report_27 (i := 2) rfl 2 rfl ?_
      obtain ⟨hs90, h⟩ := gp_e h
      have hs9 := sok_e hs90
      obtain ⟨r10, hr10, h⟩ := bd_e h
      refine k_V (pc := 28) (st := []) C (c_X7_addReport hr10) lkV_RX11_185 hs9 rfl rfl rfl (Nat.le_of_ble_eq_true rfl) (Nat.le_of_ble_eq_true rfl) (Nat.le_of_ble_eq_true rfl) (Nat.le_of_ble_eq_true rfl) (Nat.le_of_ble_eq_true rfl) dX11_report_28 ?_
      refine k_nf (cells2 := 0) (slots2 := 0) (st2 := [.int r10.2]) rfl rfl rfl ?_
      have h := Option.some.inj h
      subst h
      exact k_iret (pc := 31) C hr hk dX11_report_31
    · rw [if_pos hc7] at h
      refine k_iconst (pc := 20) C (v := (-1 : Int32)) dX11_report_20 (by decide) ?_
      have h := Option.some.inj h
      subst h
      exact k_iret (pc := 21) C hr hk dX11_report_21
theorem c_X11_report {E : Ev} {l : Launch} {S : Sh} {R : Rw} {I : Iw} {a0 : Nat} {x1 : Int32} {x2 : Int32} {r : Iw × Int32} (h : f_X11_report S R I a0 x1 x2 = some r) : Mt E l yX11_report cX11_report 3 (some .int) 1 22 [.ref (E.1 + a0), .int x1, .int x2] S R I S R r.1 (some (.int r.2)) 0 0 := mt_of (by decide) (Nat.le_of_ble_eq_true rfl) (fun p e s m args below meth c C hr hk hn => b_X11_report C hr hk _ _ _ _ h)
theorem lkF_RX11_188_7 : LkF RX11 188 7 14 := ⟨RX7, TX7, 16, "UnlikeNeighbours$Shed", fc7, by decide, (t1_in 102 (by decide +kernel) rfl), Or.inl rfl⟩
theorem lkP_RX11_188_7 : LkP RX11 188 7 14 .int := ⟨RX7, TX7, 16, "UnlikeNeighbours$Shed", fc7, by decide, (t1_in 102 (by decide +kernel) rfl), Or.inl rfl, rfl, by decide +kernel⟩
theorem dX11_forget_0 : decode cX11_forget 0 = .ok (.aload_n 0, 1) := by decide +kernel
theorem dX11_forget_1 : decode cX11_forget 1 = .ok (.getfield 12, 3) := by decide +kernel
theorem dX11_forget_4 : decode cX11_forget 4 = .ok (.getfield 188, 3) := by decide +kernel
theorem dX11_forget_7 : decode cX11_forget 7 = .ok (.istore_n 1, 1) := by decide +kernel
theorem dX11_forget_8 : decode cX11_forget 8 = .ok (.aload_n 0, 1) := by decide +kernel
theorem dX11_forget_9 : decode cX11_forget 9 = .ok (.getfield 12, 3) := by decide +kernel
theorem dX11_forget_12 : decode cX11_forget 12 = .ok (.iconst 0, 1) := by decide +kernel
theorem dX11_forget_13 : decode cX11_forget 13 = .ok (.putfield 188, 3) := by decide +kernel
theorem dX11_forget_16 : decode cX11_forget 16 = .ok (.iload_n 1, 1) := by decide +kernel
theorem dX11_forget_17 : decode cX11_forget 17 = .ok (.ireturn, 1) := by decide +kernel
def f_X11_forget (S : Sh) (R : Rw)  (I : Iw) (a0 : Nat) : Option (Iw × Int32) := gp (sok S a0 11 12) (rl (R a0 0) (fun b2 => gp (sok S b2 7 16) (rl (R a0 0) (fun b4 => gp (sok S b4 7 16) (lt (up2 I b4 14 (0 : Int32)) (fun I6 => some (I6, I b2 14)))))))
set_option maxHeartbeats 4000000 in
theorem b_X11_forget {E : Ev} {p : Program} {l : Launch} {e : Env} {s : State} {m : MethodId} {args : Array Value} {below : List Frame} {meth : Method} {c : Code} (C : Cx E RX11 cX11_forget 2 p s m c) (hr : meth.sig.returnType = (some .int)) (hk : meth.locks = false) {S : Sh} {R : Rw} {r : Iw × Int32}  : ∀ (I : Iw) (a0 : Nat), f_X11_forget S R   I a0 = some r → Wk E 2 p l e ({ frames := 0, cells := 0, slots := 0, locals := 0 } : Room) s m args below meth c 0 0 (MQ below (Qw E S R r.1 (some (.int r.2))) args s 0 0 (fun q => E.1 ≤ q)) 0 [(0, .ref (E.1 + a0))] [] S R I := by
  intro I a0 h
  rw [f_X11_forget] at h
  refine k_aloadn (pc := 0) C dX11_forget_0 (i := 0) rfl 0 rfl ?_
  obtain ⟨hs10, h⟩ := gp_e h
  have hs1 := sok_e hs10
  obtain ⟨b2, hb2, h⟩ := rl_e h
  refine k_getR (pc := 1) C lkF_RX11_12_11 hs1 ir_11_0 hb2 dX11_forget_1 ?_
  obtain ⟨hs30, h⟩ := gp_e h
  have hs3 := sok_e hs30
  refine k_getI (pc := 4) C lkF_RX11_188_7 hs3 ir_7_14 dX11_forget_4 ?_
  refine k_istoren (pc := 7) C dX11_forget_7 (i := 1) rfl (by decide) (L2 := [(0, .ref (E.1 + a0)), (1, .int (I b2 14))]) rfl ?_
  refine k_aloadn (pc := 8) C dX11_forget_8 (i := 0) rfl 0 rfl ?_
  obtain ⟨b4, hb4, h⟩ := rl_e h
  refine k_getR (pc := 9) C lkF_RX11_12_11 hs1 ir_11_0 hb4 dX11_forget_9 ?_
  refine k_iconst (pc := 12) C (v := (0 : Int32)) dX11_forget_12 (by decide) ?_
  obtain ⟨hs50, h⟩ := gp_e h
  have hs5 := sok_e hs50
  obtain ⟨I6, eI6, h⟩ := lt_e h
  refine k_putI (pc := 13) C lkP_RX11_188_7 hs5 ir_7_14 dX11_forget_13 ?_
  rw [← eI6]
  refine k_iloadn (pc := 16) C dX11_forget_16 (i := 1) rfl 1 rfl ?_
  have h := Option.some.inj h
  subst h
  exact k_iret (pc := 17) C hr hk dX11_forget_17
theorem c_X11_forget {E : Ev} {l : Launch} {S : Sh} {R : Rw} {I : Iw} {a0 : Nat} {r : Iw × Int32} (h : f_X11_forget S R I a0 = some r) : Mt E l yX11_forget cX11_forget 2 (some .int) 0 0 [.ref (E.1 + a0)] S R I S R r.1 (some (.int r.2)) 0 0 := mt_of (by decide) (Nat.le_of_ble_eq_true rfl) (fun p e s m args below meth c C hr hk hn => b_X11_forget C hr hk _ _ h)
theorem lkV_RX11_191 : LkV RX11 191 RX7 yX7_placesBut cX7_placesBut 4 (some .int) 1 := ⟨(t3_in 212 (by decide +kernel) rfl), (t3_in 213 (by decide +kernel) rfl), (t3_in 214 (by decide +kernel) rfl), (t3_in 215 (by decide +kernel) rfl), (t1_in 2 (by decide +kernel) rfl), by decide, by decide +kernel⟩
theorem lkS_RX11_194 : LkS RX11 194 yJ6_bitCount_0f7a4 cJ6_bitCount_0f7a4 1 (some .int) 1 := ⟨(t3_in 224 (by decide +kernel) rfl), (t3_in 91 (by decide +kernel) rfl), (t3_in 92 (by decide +kernel) rfl), (t1_in 14 (by decide +kernel) rfl), by decide, by decide +kernel⟩
theorem dX11_span_0 : decode cX11_span 0 = .ok (.iload_n 1, 1) := by decide +kernel
theorem dX11_span_1 : decode cX11_span 1 = .ok (.iconst 0, 1) := by decide +kernel
theorem dX11_span_2 : decode cX11_span 2 = .ok (.iconst 2, 1) := by decide +kernel
theorem dX11_span_3 : decode cX11_span 3 = .ok (.invokestatic 55, 3) := by decide +kernel
theorem dX11_span_6 : decode cX11_span 6 = .ok (.ifCond .ne 5, 3) := by decide +kernel
theorem dX11_span_9 : decode cX11_span 9 = .ok (.iconst (-1), 1) := by decide +kernel
theorem dX11_span_10 : decode cX11_span 10 = .ok (.ireturn, 1) := by decide +kernel
theorem dX11_span_11 : decode cX11_span 11 = .ok (.aload_n 0, 1) := by decide +kernel
theorem dX11_span_12 : decode cX11_span 12 = .ok (.getfield 12, 3) := by decide +kernel
theorem dX11_span_15 : decode cX11_span 15 = .ok (.iconst (-1), 1) := by decide +kernel
theorem dX11_span_16 : decode cX11_span 16 = .ok (.invokevirtual 191, 3) := by decide +kernel
theorem dX11_span_19 : decode cX11_span 19 = .ok (.istore_n 2, 1) := by decide +kernel
theorem dX11_span_20 : decode cX11_span 20 = .ok (.iload_n 1, 1) := by decide +kernel
theorem dX11_span_21 : decode cX11_span 21 = .ok (.ifCond .ne 8, 3) := by decide +kernel
theorem dX11_span_24 : decode cX11_span 24 = .ok (.iload_n 2, 1) := by decide +kernel
theorem dX11_span_25 : decode cX11_span 25 = .ok (.invokestatic 194, 3) := by decide +kernel
theorem dX11_span_28 : decode cX11_span 28 = .ok (.ireturn, 1) := by decide +kernel
theorem dX11_span_29 : decode cX11_span 29 = .ok (.bipush (-3), 2) := by decide +kernel
theorem dX11_span_31 : decode cX11_span 31 = .ok (.istore_n 3, 1) := by decide +kernel
theorem dX11_span_32 : decode cX11_span 32 = .ok (.iconst 0, 1) := by decide +kernel
theorem dX11_span_33 : decode cX11_span 33 = .ok (.istore 4, 2) := by decide +kernel
theorem dX11_span_35 : decode cX11_span 35 = .ok (.iload 4, 2) := by decide +kernel
theorem dX11_span_37 : decode cX11_span 37 = .ok (.bipush 9, 2) := by decide +kernel
theorem dX11_span_39 : decode cX11_span 39 = .ok (.if_icmp .gt 32, 3) := by decide +kernel
theorem dX11_span_42 : decode cX11_span 42 = .ok (.iload_n 2, 1) := by decide +kernel
theorem dX11_span_43 : decode cX11_span 43 = .ok (.iload 4, 2) := by decide +kernel
theorem dX11_span_45 : decode cX11_span 45 = .ok (.invokestatic 101, 3) := by decide +kernel
theorem dX11_span_48 : decode cX11_span 48 = .ok (.ifCond .eq 17, 3) := by decide +kernel
theorem dX11_span_51 : decode cX11_span 51 = .ok (.iload_n 1, 1) := by decide +kernel
theorem dX11_span_52 : decode cX11_span 52 = .ok (.iconst 2, 1) := by decide +kernel
theorem dX11_span_53 : decode cX11_span 53 = .ok (.if_icmp .eq 9, 3) := by decide +kernel
theorem dX11_span_56 : decode cX11_span 56 = .ok (.iload_n 3, 1) := by decide +kernel
theorem dX11_span_57 : decode cX11_span 57 = .ok (.bipush (-3), 2) := by decide +kernel
theorem dX11_span_59 : decode cX11_span 59 = .ok (.if_icmp .ne 6, 3) := by decide +kernel
theorem dX11_span_62 : decode cX11_span 62 = .ok (.iload 4, 2) := by decide +kernel
theorem dX11_span_64 : decode cX11_span 64 = .ok (.istore_n 3, 1) := by decide +kernel
theorem dX11_span_65 : decode cX11_span 65 = .ok (.iinc 4 1, 3) := by decide +kernel
theorem dX11_span_68 : decode cX11_span 68 = .ok (.goto (-33), 3) := by decide +kernel
theorem dX11_span_71 : decode cX11_span 71 = .ok (.iload_n 3, 1) := by decide +kernel
theorem dX11_span_72 : decode cX11_span 72 = .ok (.ireturn, 1) := by decide +kernel
def f_X11_span_65 (S : Sh) (R : Rw) (I : Iw) (ko35 : Int32 → Int32 → Int32 → Int32 → Option (Int32)) (x1 : Int32) (x2 : Int32) (x3 : Int32) (x4 : Int32) : Option (Int32) := ko35 x1 x2 x3 (x4 + (1 : Int32))
set_option maxHeartbeats 4000000 in
theorem b_X11_span_65 {E : Ev} {p : Program} {l : Launch} {e : Env} {s : State} {m : MethodId} {args : Array Value} {below : List Frame} {meth : Method} {c : Code} (C : Cx E RX11 cX11_span 5 p s m c) (hr : meth.sig.returnType = (some .int)) (hk : meth.locks = false) {S : Sh} {R : Rw} {I : Iw} {r : Int32}  {ko35 : Int32 → Int32 → Int32 → Int32 → Option (Int32)} (hko35 : ∀ (x1 : Int32) (x2 : Int32) (x3 : Int32) (x4 : Int32), ko35 x1 x2 x3 x4 = some r → Wk E 5 p l e ({ frames := 4, cells := 0, slots := 0, locals := 90 } : Room) s m args below meth c 0 0 (MQ below (Qw E S R I (some (.int r))) args s 0 0 (fun q => E.1 ≤ q)) 35 [(1, .int x1), (2, .int x2), (3, .int x3), (4, .int x4)] [] S R I) : ∀ (x1 : Int32) (x2 : Int32) (x3 : Int32) (x4 : Int32), f_X11_span_65 S R I ko35  x1 x2 x3 x4 = some r → Wk E 5 p l e ({ frames := 4, cells := 0, slots := 0, locals := 90 } : Room) s m args below meth c 0 0 (MQ below (Qw E S R I (some (.int r))) args s 0 0 (fun q => E.1 ≤ q)) 65 [(1, .int x1), (2, .int x2), (3, .int x3), (4, .int x4)] [] S R I := by
  intro x1 x2 x3 x4 h
  rw [f_X11_span_65] at h
  refine k_iinc (pc := 65) C dX11_span_65 3 rfl (v := x4 + (1 : Int32)) (by rfl) (by decide) (L2 := [(1, .int x1), (2, .int x2), (3, .int x3), (4, .int (x4 + (1 : Int32)))]) rfl ?_
  refine k_goto (pc := 68) C dX11_span_68 (tgt := 35) (by decide) ?_
  exact hko35 _ _ _ _ h
def f_X11_span_62 (S : Sh) (R : Rw) (I : Iw) (ko35 : Int32 → Int32 → Int32 → Int32 → Option (Int32)) (x1 : Int32) (x2 : Int32) (x4 : Int32) : Option (Int32) := f_X11_span_65 S R I ko35 x1 x2 x4 x4
set_option maxHeartbeats 4000000 in
theorem b_X11_span_62 {E : Ev} {p : Program} {l : Launch} {e : Env} {s : State} {m : MethodId} {args : Array Value} {below : List Frame} {meth : Method} {c : Code} (C : Cx E RX11 cX11_span 5 p s m c) (hr : meth.sig.returnType = (some .int)) (hk : meth.locks = false) {S : Sh} {R : Rw} {I : Iw} {r : Int32}  {ko35 : Int32 → Int32 → Int32 → Int32 → Option (Int32)} (hko35 : ∀ (x1 : Int32) (x2 : Int32) (x3 : Int32) (x4 : Int32), ko35 x1 x2 x3 x4 = some r → Wk E 5 p l e ({ frames := 4, cells := 0, slots := 0, locals := 90 } : Room) s m args below meth c 0 0 (MQ below (Qw E S R I (some (.int r))) args s 0 0 (fun q => E.1 ≤ q)) 35 [(1, .int x1), (2, .int x2), (3, .int x3), (4, .int x4)] [] S R I) : ∀ (x1 : Int32) (x2 : Int32) (x4 : Int32), f_X11_span_62 S R I ko35  x1 x2 x4 = some r → Wk E 5 p l e ({ frames := 4, cells := 0, slots := 0, locals := 90 } : Room) s m args below meth c 0 0 (MQ below (Qw E S R I (some (.int r))) args s 0 0 (fun q => E.1 ≤ q)) 62 [(1, .int x1), (2, .int x2), (4, .int x4)] [] S R I := by
  intro x1 x2 x4 h
  rw [f_X11_span_62] at h
  refine k_iload (pc := 62) C dX11_span_62 2 rfl ?_
  refine k_istoren (pc := 64) C dX11_span_64 (i := 3) rfl (by decide) (L2 := [(1, .int x1), (2, .int x2), (3, .int x4), (4, .int x4)]) rfl ?_
  exact b_X11_span_65 C hr hk hko35 _ _ _ _ h
def f_X11_span_35 (S : Sh) (R : Rw) (I : Iw)  : Nat → Int32 → Int32 → Int32 → Int32 → Option (Int32)
  | 0, _, _, _, _ => none
  | n + 1, x1, x2, x3, x4 => (if (9 : Int32) < x4 then some x3 else bd (f_X11_holds S R I x2 x4) (fun r9 => (if r9 = 0 then f_X11_span_65 S R I (f_X11_span_35 S R I  n) x1 x2 x3 x4 else (if x1 = (2 : Int32) then f_X11_span_62 S R I (f_X11_span_35 S R I  n) x1 x2 x4 else (if x3 = (-3 : Int32) then f_X11_span_62 S R I (f_X11_span_35 S R I  n) x1 x2 x4 else f_X11_span_65 S R I (f_X11_span_35 S R I  n) x1 x2 x3 x4)))))
set_option maxHeartbeats 4000000 in
theorem b_X11_span_35 {E : Ev} {p : Program} {l : Launch} {e : Env} {s : State} {m : MethodId} {args : Array Value} {below : List Frame} {meth : Method} {c : Code} (C : Cx E RX11 cX11_span 5 p s m c) (hr : meth.sig.returnType = (some .int)) (hk : meth.locks = false) {S : Sh} {R : Rw} {I : Iw} {r : Int32}  : ∀ (n : Nat) (x1 : Int32) (x2 : Int32) (x3 : Int32) (x4 : Int32), f_X11_span_35 S R I  n x1 x2 x3 x4 = some r → Wk E 5 p l e ({ frames := 4, cells := 0, slots := 0, locals := 90 } : Room) s m args below meth c 0 0 (MQ below (Qw E S R I (some (.int r))) args s 0 0 (fun q => E.1 ≤ q)) 35 [(1, .int x1), (2, .int x2), (3, .int x3), (4, .int x4)] [] S R I := by
  intro n
  induction n with
  | zero =>
    intro x1 x2 x3 x4 h
    rw [f_X11_span_35] at h
    cases h
  | succ n ih =>
    intro x1 x2 x3 x4 h
    rw [f_X11_span_35] at h
    refine k_iload (pc := 35) C dX11_span_35 3 rfl ?_
    refine k_bipush (pc := 37) C (v := (9 : Int32)) dX11_span_37 (by decide) ?_
    refine k_icmp_gt (pc := 39) C dX11_span_39 (tgt := 71) (by decide) (fun hc8 => ?_) (fun hc8 => ?_)
    · rw [if_pos hc8] at h
      refine k_iloadn (pc := 71) C dX11_span_71 (i := 3) rfl 2 rfl ?_
      have h := Option.some.inj h
      subst h
      exact k_iret (pc := 72) C hr hk dX11_span_72
    · rw [if_neg hc8] at h
      refine k_iloadn (pc := 42) C dX11_span_42 (i := 2) rfl 1 rfl ?_
      refine k_iload (pc := 43) C dX11_span_43 3 rfl ?_
      obtain ⟨r9, hr9, h⟩ := bd_e h
      refine k_S (pc := 45) (st := []) C (c_X11_holds hr9) lkS_RX11_101 rfl rfl (Nat.le_of_ble_eq_true rfl) (Nat.le_of_ble_eq_true rfl) (Nat.le_of_ble_eq_true rfl) (Nat.le_of_ble_eq_true rfl) (Nat.le_of_ble_eq_true rfl) dX11_span_45 ?_
      refine k_nf (cells2 := 0) (slots2 := 0) (st2 := [.int r9]) rfl rfl rfl ?_
      refine k_if_eq (pc := 48) C dX11_span_48 (tgt := 65) (by decide) (fun hc10 => ?_) (fun hc10 => ?_)
      · rw [if_pos hc10] at h
        exact b_X11_span_65 C hr hk ih _ _ _ _ h
      · rw [if_neg hc10] at h
        refine k_iloadn (pc := 51) C dX11_span_51 (i := 1) rfl 0 rfl ?_
        refine k_iconst (pc := 52) C (v := (2 : Int32)) dX11_span_52 (by decide) ?_
        refine k_icmp_eq (pc := 53) C dX11_span_53 (tgt := 62) (by decide) (fun hc11 => ?_) (fun hc11 => ?_)
        · rw [if_pos hc11] at h
          refine k_loc (L2 := [(1, .int x1), (2, .int x2), (4, .int x4)]) [0, 1, 3] rfl ?_
          exact b_X11_span_62 C hr hk ih _ _ _ h
        · rw [if_neg hc11] at h
          refine k_iloadn (pc := 56) C dX11_span_56 (i := 3) rfl 2 rfl ?_
          refine k_bipush (pc := 57) C (v := (-3 : Int32)) dX11_span_57 (by decide) ?_
          refine k_icmp_ne (pc := 59) C dX11_span_59 (tgt := 65) (by decide) (fun hc12 => ?_) (fun hc12 => ?_)
          · rw [if_neg hc12] at h
            exact b_X11_span_65 C hr hk ih _ _ _ _ h
          · rw [if_pos hc12] at h
            refine k_loc (L2 := [(1, .int x1), (2, .int x2), (4, .int x4)]) [0, 1, 3] rfl ?_
            exact b_X11_span_62 C hr hk ih _ _ _ h
def f_X11_span (S : Sh) (R : Rw) (I : Iw)  (a0 : Nat) (x1 : Int32) : Option (Int32) := bd (f_X11_isBetween S R I x1 (0 : Int32) (2 : Int32)) (fun r1 => (if r1 = 0 then some (-1 : Int32) else gp (sok S a0 11 12) (rl (R a0 0) (fun b4 => gp (sok S b4 7 16) (bd (f_X7_placesBut S R I b4 (-1 : Int32)) (fun r6 => (if x1 = 0 then bd (f_J6_bitCount_0f7a4 S R I r6) (fun r13 => some r13) else f_X11_span_35 S R I  512 x1 r6 (-3 : Int32) (0 : Int32))))))))
set_option maxHeartbeats 4000000 in
theorem b_X11_span {E : Ev} {p : Program} {l : Launch} {e : Env} {s : State} {m : MethodId} {args : Array Value} {below : List Frame} {meth : Method} {c : Code} (C : Cx E RX11 cX11_span 5 p s m c) (hr : meth.sig.returnType = (some .int)) (hk : meth.locks = false) {S : Sh} {R : Rw} {I : Iw} {r : Int32}  : ∀ (a0 : Nat) (x1 : Int32), f_X11_span S R I   a0 x1 = some r → Wk E 5 p l e ({ frames := 4, cells := 0, slots := 0, locals := 90 } : Room) s m args below meth c 0 0 (MQ below (Qw E S R I (some (.int r))) args s 0 0 (fun q => E.1 ≤ q)) 0 [(0, .ref (E.1 + a0)), (1, .int x1)] [] S R I := by
  intro a0 x1 h
  rw [f_X11_span] at h
  refine k_iloadn (pc := 0) C dX11_span_0 (i := 1) rfl 1 rfl ?_
  refine k_iconst (pc := 1) C (v := (0 : Int32)) dX11_span_1 (by decide) ?_
  refine k_iconst (pc := 2) C (v := (2 : Int32)) dX11_span_2 (by decide) ?_
  obtain ⟨r1, hr1, h⟩ := bd_e h
  refine k_S (pc := 3) (st := []) C (c_X11_isBetween hr1) lkS_RX11_55 rfl rfl (Nat.le_of_ble_eq_true rfl) (Nat.le_of_ble_eq_true rfl) (Nat.le_of_ble_eq_true rfl) (Nat.le_of_ble_eq_true rfl) (Nat.le_of_ble_eq_true rfl) dX11_span_3 ?_
  refine k_nf (cells2 := 0) (slots2 := 0) (st2 := [.int r1]) rfl rfl rfl ?_
  refine k_if_ne (pc := 6) C dX11_span_6 (tgt := 11) (by decide) (fun hc2 => ?_) (fun hc2 => ?_)
  · rw [if_neg hc2] at h
    refine k_aloadn (pc := 11) C dX11_span_11 (i := 0) rfl 0 rfl ?_
    obtain ⟨hs30, h⟩ := gp_e h
    have hs3 := sok_e hs30
    obtain ⟨b4, hb4, h⟩ := rl_e h
    refine k_getR (pc := 12) C lkF_RX11_12_11 hs3 ir_11_0 hb4 dX11_span_12 ?_
    refine k_iconst (pc := 15) C (v := (-1 : Int32)) dX11_span_15 (by decide) ?_
    obtain ⟨hs50, h⟩ := gp_e h
    have hs5 := sok_e hs50
    obtain ⟨r6, hr6, h⟩ := bd_e h
    refine k_V (pc := 16) (st := []) C (c_X7_placesBut hr6) lkV_RX11_191 hs5 rfl rfl rfl (Nat.le_of_ble_eq_true rfl) (Nat.le_of_ble_eq_true rfl) (Nat.le_of_ble_eq_true rfl) (Nat.le_of_ble_eq_true rfl) (Nat.le_of_ble_eq_true rfl) dX11_span_16 ?_
    refine k_nf (cells2 := 0) (slots2 := 0) (st2 := [.int r6]) rfl rfl rfl ?_
    refine k_istoren (pc := 19) C dX11_span_19 (i := 2) rfl (by decide) (L2 := [(0, .ref (E.1 + a0)), (1, .int x1), (2, .int r6)]) rfl ?_
    refine k_iloadn (pc := 20) C dX11_span_20 (i := 1) rfl 1 rfl ?_
    refine k_if_ne (pc := 21) C dX11_span_21 (tgt := 29) (by decide) (fun hc7 => ?_) (fun hc7 => ?_)
    · rw [if_neg hc7] at h
      refine k_bipush (pc := 29) C (v := (-3 : Int32)) dX11_span_29 (by decide) ?_
      refine k_istoren (pc := 31) C dX11_span_31 (i := 3) rfl (by decide) (L2 := [(0, .ref (E.1 + a0)), (1, .int x1), (2, .int r6), (3, .int (-3 : Int32))]) rfl ?_
      refine k_iconst (pc := 32) C (v := (0 : Int32)) dX11_span_32 (by decide) ?_
      refine k_istore (pc := 33) C dX11_span_33 (by decide) (L2 := [(0, .ref (E.1 + a0)), (1, .int x1), (2, .int r6), (3, .int (-3 : Int32)), (4, .int (0 : Int32))]) rfl ?_
      refine k_loc (L2 := [(1, .int x1), (2, .int r6), (3, .int (-3 : Int32)), (4, .int (0 : Int32))]) [1, 2, 3, 4] rfl ?_
      exact b_X11_span_35 C hr hk  _ _ _ _ _ h
    · rw [if_pos hc7] at h
      refine k_iloadn (pc := 24) C dX11_span_24 (i := 2) rfl 2 rfl ?_
      obtain ⟨r13, hr13, h⟩ := bd_e h
      refine k_S (pc := 25) (st := []) C (c_J6_bitCount_0f7a4 hr13) lkS_RX11_194 rfl rfl (Nat.le_of_ble_eq_true rfl) (Nat.le_of_ble_eq_true rfl) (Nat.le_of_ble_eq_true rfl) (Nat.le_of_ble_eq_true rfl) (Nat.le_of_ble_eq_true rfl) dX11_span_25 ?_
      refine k_nf (cells2 := 0) (slots2 := 0) (st2 := [.int r13]) rfl rfl rfl ?_
      have h := Option.some.inj h
      subst h
      exact k_iret (pc := 28) C hr hk dX11_span_28
  · rw [if_pos hc2] at h
    refine k_iconst (pc := 9) C (v := (-1 : Int32)) dX11_span_9 (by decide) ?_
    have h := Option.some.inj h
    subst h
    exact k_iret (pc := 10) C hr hk dX11_span_10
theorem c_X11_span {E : Ev} {l : Launch} {S : Sh} {R : Rw} {I : Iw} {a0 : Nat} {x1 : Int32} {r : Int32} (h : f_X11_span S R I a0 x1 = some r) : Mt E l yX11_span cX11_span 5 (some .int) 4 90 [.ref (E.1 + a0), .int x1] S R I S R I (some (.int r)) 0 0 := mt_of (by decide) (Nat.le_of_ble_eq_true rfl) (fun p e s m args below meth c C hr hk hn => b_X11_span C hr hk _ _ h)
