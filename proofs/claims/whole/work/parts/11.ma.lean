/-! X7_renewMates, X7_add, X7_addReport, X7_becomeKind, X7_becomeGap, X7_last, X11_holds, X7_topsOf -/
theorem lkF_RX7_24_7 : LkF RX7 24 7 4 := ⟨RX7, TX7, 16, "UnlikeNeighbours$Shed", fc7, by decide, (t1_in 80 (by decide +kernel) rfl), Or.inl rfl⟩
theorem lkV_RX7_66 : LkV RX7 66 RX7 yX7_cameBeside cX7_cameBeside 3 (some .boolean) 2 := ⟨(t2_in 45 (by decide +kernel) rfl), (t2_in 47 (by decide +kernel) rfl), (t0_in 0 (by decide +kernel) rfl), (t2_in 48 (by decide +kernel) rfl), (t1_in 2 (by decide +kernel) rfl), by decide, by decide +kernel⟩
theorem dX7_renewMates_0 : decode cX7_renewMates 0 = .ok (.iconst 0, 1) := by decide +kernel
theorem dX7_renewMates_1 : decode cX7_renewMates 1 = .ok (.istore_n 1, 1) := by decide +kernel
theorem dX7_renewMates_2 : decode cX7_renewMates 2 = .ok (.iload_n 1, 1) := by decide +kernel
theorem dX7_renewMates_3 : decode cX7_renewMates 3 = .ok (.aload_n 0, 1) := by decide +kernel
theorem dX7_renewMates_4 : decode cX7_renewMates 4 = .ok (.getfield 50, 3) := by decide +kernel
theorem dX7_renewMates_7 : decode cX7_renewMates 7 = .ok (.if_icmp .ge 49, 3) := by decide +kernel
theorem dX7_renewMates_10 : decode cX7_renewMates 10 = .ok (.iconst 0, 1) := by decide +kernel
theorem dX7_renewMates_11 : decode cX7_renewMates 11 = .ok (.istore_n 2, 1) := by decide +kernel
theorem dX7_renewMates_12 : decode cX7_renewMates 12 = .ok (.iconst 0, 1) := by decide +kernel
theorem dX7_renewMates_13 : decode cX7_renewMates 13 = .ok (.istore_n 3, 1) := by decide +kernel
theorem dX7_renewMates_14 : decode cX7_renewMates 14 = .ok (.iload_n 3, 1) := by decide +kernel
theorem dX7_renewMates_15 : decode cX7_renewMates 15 = .ok (.aload_n 0, 1) := by decide +kernel
theorem dX7_renewMates_16 : decode cX7_renewMates 16 = .ok (.getfield 50, 3) := by decide +kernel
theorem dX7_renewMates_19 : decode cX7_renewMates 19 = .ok (.if_icmp .ge 24, 3) := by decide +kernel
theorem dX7_renewMates_22 : decode cX7_renewMates 22 = .ok (.aload_n 0, 1) := by decide +kernel
theorem dX7_renewMates_23 : decode cX7_renewMates 23 = .ok (.iload_n 1, 1) := by decide +kernel
theorem dX7_renewMates_24 : decode cX7_renewMates 24 = .ok (.iload_n 3, 1) := by decide +kernel
theorem dX7_renewMates_25 : decode cX7_renewMates 25 = .ok (.invokevirtual 66, 3) := by decide +kernel
theorem dX7_renewMates_28 : decode cX7_renewMates 28 = .ok (.ifCond .eq 9, 3) := by decide +kernel
theorem dX7_renewMates_31 : decode cX7_renewMates 31 = .ok (.iload_n 2, 1) := by decide +kernel
theorem dX7_renewMates_32 : decode cX7_renewMates 32 = .ok (.iconst 1, 1) := by decide +kernel
theorem dX7_renewMates_33 : decode cX7_renewMates 33 = .ok (.iload_n 3, 1) := by decide +kernel
theorem dX7_renewMates_34 : decode cX7_renewMates 34 = .ok (.ishl, 1) := by decide +kernel
theorem dX7_renewMates_35 : decode cX7_renewMates 35 = .ok (.ior, 1) := by decide +kernel
theorem dX7_renewMates_36 : decode cX7_renewMates 36 = .ok (.istore_n 2, 1) := by decide +kernel
theorem dX7_renewMates_37 : decode cX7_renewMates 37 = .ok (.iinc 3 1, 3) := by decide +kernel
theorem dX7_renewMates_40 : decode cX7_renewMates 40 = .ok (.goto (-26), 3) := by decide +kernel
theorem dX7_renewMates_43 : decode cX7_renewMates 43 = .ok (.aload_n 0, 1) := by decide +kernel
theorem dX7_renewMates_44 : decode cX7_renewMates 44 = .ok (.getfield 24, 3) := by decide +kernel
theorem dX7_renewMates_47 : decode cX7_renewMates 47 = .ok (.iload_n 1, 1) := by decide +kernel
theorem dX7_renewMates_48 : decode cX7_renewMates 48 = .ok (.iload_n 2, 1) := by decide +kernel
theorem dX7_renewMates_49 : decode cX7_renewMates 49 = .ok (.iastore, 1) := by decide +kernel
theorem dX7_renewMates_50 : decode cX7_renewMates 50 = .ok (.iinc 1 1, 3) := by decide +kernel
theorem dX7_renewMates_53 : decode cX7_renewMates 53 = .ok (.goto (-51), 3) := by decide +kernel
theorem dX7_renewMates_56 : decode cX7_renewMates 56 = .ok (.return_, 1) := by decide +kernel
def f_X7_renewMates_37 (S : Sh) (R : Rw) (ko2 : Iw → Nat → Int32 → Option (Iw)) (ko14 : Iw → Nat → Int32 → Int32 → Int32 → Option (Iw)) (I : Iw) (a0 : Nat) (x1 : Int32) (x2 : Int32) (x3 : Int32) : Option (Iw) := ko14 I a0 x1 x2 (x3 + (1 : Int32))
set_option maxHeartbeats 4000000 in
theorem b_X7_renewMates_37 {E : Ev} {p : Program} {l : Launch} {e : Env} {s : State} {m : MethodId} {args : Array Value} {below : List Frame} {meth : Method} {c : Code} (C : Cx E RX7 cX7_renewMates 4 p s m c) (hr : meth.sig.returnType = none) (hk : meth.locks = false) {S : Sh} {R : Rw} {r : Iw}  {ko2 : Iw → Nat → Int32 → Option (Iw)} (hko2 : ∀ (I : Iw) (a0 : Nat) (x1 : Int32), ko2 I a0 x1 = some r → Wk E 4 p l e ({ frames := 4, cells := 0, slots := 0, locals := 88 } : Room) s m args below meth c 0 0 (MQ below (Qw E S R r none) args s 0 0 (fun q => E.1 ≤ q)) 2 [(0, .ref (E.1 + a0)), (1, .int x1)] [] S R I) {ko14 : Iw → Nat → Int32 → Int32 → Int32 → Option (Iw)} (hko14 : ∀ (I : Iw) (a0 : Nat) (x1 : Int32) (x2 : Int32) (x3 : Int32), ko14 I a0 x1 x2 x3 = some r → Wk E 4 p l e ({ frames := 4, cells := 0, slots := 0, locals := 88 } : Room) s m args below meth c 0 0 (MQ below (Qw E S R r none) args s 0 0 (fun q => E.1 ≤ q)) 14 [(0, .ref (E.1 + a0)), (1, .int x1), (2, .int x2), (3, .int x3)] [] S R I) : ∀ (I : Iw) (a0 : Nat) (x1 : Int32) (x2 : Int32) (x3 : Int32), f_X7_renewMates_37 S R ko2 ko14  I a0 x1 x2 x3 = some r → Wk E 4 p l e ({ frames := 4, cells := 0, slots := 0, locals := 88 } : Room) s m args below meth c 0 0 (MQ below (Qw E S R r none) args s 0 0 (fun q => E.1 ≤ q)) 37 [(0, .ref (E.1 + a0)), (1, .int x1), (2, .int x2), (3, .int x3)] [] S R I := by
  intro I a0 x1 x2 x3 h
  rw [f_X7_renewMates_37] at h
  refine k_iinc (pc := 37) C dX7_renewMates_37 3 rfl (v := x3 + (1 : Int32)) (by rfl) (by decide) (L2 := [(0, .ref (E.1 + a0)), (1, .int x1), (2, .int x2), (3, .int (x3 + (1 : Int32)))]) rfl ?_
  refine k_goto (pc := 40) C dX7_renewMates_40 (tgt := 14) (by decide) ?_
  exact hko14 _ _ _ _ _ h
def f_X7_renewMates_14 (S : Sh) (R : Rw) (ko2 : Iw → Nat → Int32 → Option (Iw)) : Nat → Iw → Nat → Int32 → Int32 → Int32 → Option (Iw)
  | 0, _, _, _, _, _ => none
  | n + 1, I, a0, x1, x2, x3 => gp (sok S a0 7 16) ((if (I a0 5) ≤ x3 then rl (R a0 4) (fun b5 => gp (aok S 20 b5 x1) (lt (up2 I b5 x1.toNatClampNeg x2) (fun I7 => ko2 I7 a0 (x1 + (1 : Int32))))) else bd (f_X7_cameBeside S R I a0 x1 x3) (fun r8 => (if r8 = 0 then f_X7_renewMates_37 S R ko2 (f_X7_renewMates_14 S R ko2 n) I a0 x1 x2 x3 else f_X7_renewMates_37 S R ko2 (f_X7_renewMates_14 S R ko2 n) I a0 x1 (x2 ||| ((1 : Int32) <<< (x3 &&& 31))) x3))))
set_option maxHeartbeats 4000000 in
theorem b_X7_renewMates_14 {E : Ev} {p : Program} {l : Launch} {e : Env} {s : State} {m : MethodId} {args : Array Value} {below : List Frame} {meth : Method} {c : Code} (C : Cx E RX7 cX7_renewMates 4 p s m c) (hr : meth.sig.returnType = none) (hk : meth.locks = false) {S : Sh} {R : Rw} {r : Iw}  {ko2 : Iw → Nat → Int32 → Option (Iw)} (hko2 : ∀ (I : Iw) (a0 : Nat) (x1 : Int32), ko2 I a0 x1 = some r → Wk E 4 p l e ({ frames := 4, cells := 0, slots := 0, locals := 88 } : Room) s m args below meth c 0 0 (MQ below (Qw E S R r none) args s 0 0 (fun q => E.1 ≤ q)) 2 [(0, .ref (E.1 + a0)), (1, .int x1)] [] S R I) : ∀ (n : Nat) (I : Iw) (a0 : Nat) (x1 : Int32) (x2 : Int32) (x3 : Int32), f_X7_renewMates_14 S R ko2 n I a0 x1 x2 x3 = some r → Wk E 4 p l e ({ frames := 4, cells := 0, slots := 0, locals := 88 } : Room) s m args below meth c 0 0 (MQ below (Qw E S R r none) args s 0 0 (fun q => E.1 ≤ q)) 14 [(0, .ref (E.1 + a0)), (1, .int x1), (2, .int x2), (3, .int x3)] [] S R I := by
  intro n
  induction n with
  | zero =>
    intro I a0 x1 x2 x3 h
    rw [f_X7_renewMates_14] at h
    cases h
  | succ n ih =>
    intro I a0 x1 x2 x3 h
    rw [f_X7_renewMates_14] at h
    refine k_iloadn (pc := 14) C dX7_renewMates_14 (i := 3) rfl 3 rfl ?_
    refine k_aloadn (pc := 15) C dX7_renewMates_15 (i := 0) rfl 0 rfl ?_
    obtain ⟨hs30, h⟩ := gp_e h
    have hs3 := sok_e hs30
    refine k_getI (pc := 16) C lkF_RX7_50_7 hs3 ir_7_5 dX7_renewMates_16 ?_
    refine k_icmp_ge (pc := 19) C dX7_renewMates_19 (tgt := 43) (by decide) (fun hc4 => ?_) (fun hc4 => ?_)
    · rw [if_pos hc4] at h
      refine k_aloadn (pc := 43) C dX7_renewMates_43 (i := 0) rfl 0 rfl ?_
      obtain ⟨b5, hb5, h⟩ := rl_e h
      refine k_getR (pc := 44) C lkF_RX7_24_7 hs3 ir_7_4 hb5 dX7_renewMates_44 ?_
      refine k_iloadn (pc := 47) C dX7_renewMates_47 (i := 1) rfl 1 rfl ?_
      refine k_iloadn (pc := 48) C dX7_renewMates_48 (i := 2) rfl 2 rfl ?_
      obtain ⟨ha6, h⟩ := gp_e h
      obtain ⟨I7, eI7, h⟩ := lt_e h
      refine k_iast (pc := 49) C ha6 dX7_renewMates_49 ?_
      rw [← eI7]
      refine k_iinc (pc := 50) C dX7_renewMates_50 1 rfl (v := x1 + (1 : Int32)) (by rfl) (by decide) (L2 := [(0, .ref (E.1 + a0)), (1, .int (x1 + (1 : Int32))), (2, .int x2), (3, .int x3)]) rfl ?_
      refine k_goto (pc := 53) C dX7_renewMates_53 (tgt := 2) (by decide) ?_
      refine k_loc (L2 := [(0, .ref (E.1 + a0)), (1, .int (x1 + (1 : Int32)))]) [0, 1] rfl ?_
      exact hko2 _ _ _ h
    · rw [if_neg hc4] at h
      refine k_aloadn (pc := 22) C dX7_renewMates_22 (i := 0) rfl 0 rfl ?_
      refine k_iloadn (pc := 23) C dX7_renewMates_23 (i := 1) rfl 1 rfl ?_
      refine k_iloadn (pc := 24) C dX7_renewMates_24 (i := 3) rfl 3 rfl ?_
      obtain ⟨r8, hr8, h⟩ := bd_e h
      refine k_V (pc := 25) (st := []) C (c_X7_cameBeside hr8) lkV_RX7_66 hs3 rfl rfl rfl (Nat.le_of_ble_eq_true rfl) (Nat.le_of_ble_eq_true rfl) (Nat.le_of_ble_eq_true rfl) (Nat.le_of_ble_eq_true rfl) (Nat.le_of_ble_eq_true rfl) dX7_renewMates_25 ?_
      refine k_nf (cells2 := 0) (slots2 := 0) (st2 := [.int r8]) rfl rfl rfl ?_
      refine k_if_eq (pc := 28) C dX7_renewMates_28 (tgt := 37) (by decide) (fun hc9 => ?_) (fun hc9 => ?_)
      · rw [if_pos hc9] at h
        exact b_X7_renewMates_37 C hr hk hko2 ih _ _ _ _ _ h
      · rw [if_neg hc9] at h
        refine k_iloadn (pc := 31) C dX7_renewMates_31 (i := 2) rfl 2 rfl ?_
        refine k_iconst (pc := 32) C (v := (1 : Int32)) dX7_renewMates_32 (by decide) ?_
        refine k_iloadn (pc := 33) C dX7_renewMates_33 (i := 3) rfl 3 rfl ?_
        refine k_ishl (pc := 34) C dX7_renewMates_34 ?_
        refine k_ior (pc := 35) C dX7_renewMates_35 ?_
        refine k_istoren (pc := 36) C dX7_renewMates_36 (i := 2) rfl (by decide) (L2 := [(0, .ref (E.1 + a0)), (1, .int x1), (2, .int (x2 ||| ((1 : Int32) <<< (x3 &&& 31)))), (3, .int x3)]) rfl ?_
        exact b_X7_renewMates_37 C hr hk hko2 ih _ _ _ _ _ h
def f_X7_renewMates_2 (S : Sh) (R : Rw)  : Nat → Iw → Nat → Int32 → Option (Iw)
  | 0, _, _, _ => none
  | n + 1, I, a0, x1 => gp (sok S a0 7 16) ((if (I a0 5) ≤ x1 then some I else f_X7_renewMates_14 S R (f_X7_renewMates_2 S R  n) 512 I a0 x1 (0 : Int32) (0 : Int32)))
set_option maxHeartbeats 4000000 in
theorem b_X7_renewMates_2 {E : Ev} {p : Program} {l : Launch} {e : Env} {s : State} {m : MethodId} {args : Array Value} {below : List Frame} {meth : Method} {c : Code} (C : Cx E RX7 cX7_renewMates 4 p s m c) (hr : meth.sig.returnType = none) (hk : meth.locks = false) {S : Sh} {R : Rw} {r : Iw}  : ∀ (n : Nat) (I : Iw) (a0 : Nat) (x1 : Int32), f_X7_renewMates_2 S R  n I a0 x1 = some r → Wk E 4 p l e ({ frames := 4, cells := 0, slots := 0, locals := 88 } : Room) s m args below meth c 0 0 (MQ below (Qw E S R r none) args s 0 0 (fun q => E.1 ≤ q)) 2 [(0, .ref (E.1 + a0)), (1, .int x1)] [] S R I := by
  intro n
  induction n with
  | zero =>
    intro I a0 x1 h
    rw [f_X7_renewMates_2] at h
    cases h
  | succ n ih =>
    intro I a0 x1 h
    rw [f_X7_renewMates_2] at h
    refine k_iloadn (pc := 2) C dX7_renewMates_2 (i := 1) rfl 1 rfl ?_
    refine k_aloadn (pc := 3) C dX7_renewMates_3 (i := 0) rfl 0 rfl ?_
    obtain ⟨hs10, h⟩ := gp_e h
    have hs1 := sok_e hs10
    refine k_getI (pc := 4) C lkF_RX7_50_7 hs1 ir_7_5 dX7_renewMates_4 ?_
    refine k_icmp_ge (pc := 7) C dX7_renewMates_7 (tgt := 56) (by decide) (fun hc2 => ?_) (fun hc2 => ?_)
    · rw [if_pos hc2] at h
      cases h
      exact k_vret (pc := 56) C hr hk dX7_renewMates_56
    · rw [if_neg hc2] at h
      refine k_iconst (pc := 10) C (v := (0 : Int32)) dX7_renewMates_10 (by decide) ?_
      refine k_istoren (pc := 11) C dX7_renewMates_11 (i := 2) rfl (by decide) (L2 := [(0, .ref (E.1 + a0)), (1, .int x1), (2, .int (0 : Int32))]) rfl ?_
      refine k_iconst (pc := 12) C (v := (0 : Int32)) dX7_renewMates_12 (by decide) ?_
      refine k_istoren (pc := 13) C dX7_renewMates_13 (i := 3) rfl (by decide) (L2 := [(0, .ref (E.1 + a0)), (1, .int x1), (2, .int (0 : Int32)), (3, .int (0 : Int32))]) rfl ?_
      exact b_X7_renewMates_14 C hr hk ih _ _ _ _ _ _ h
def f_X7_renewMates (S : Sh) (R : Rw)  (I : Iw) (a0 : Nat) : Option (Iw) := f_X7_renewMates_2 S R  512 I a0 (0 : Int32)
set_option maxHeartbeats 4000000 in
theorem b_X7_renewMates {E : Ev} {p : Program} {l : Launch} {e : Env} {s : State} {m : MethodId} {args : Array Value} {below : List Frame} {meth : Method} {c : Code} (C : Cx E RX7 cX7_renewMates 4 p s m c) (hr : meth.sig.returnType = none) (hk : meth.locks = false) {S : Sh} {R : Rw} {r : Iw}  : ∀ (I : Iw) (a0 : Nat), f_X7_renewMates S R   I a0 = some r → Wk E 4 p l e ({ frames := 4, cells := 0, slots := 0, locals := 88 } : Room) s m args below meth c 0 0 (MQ below (Qw E S R r none) args s 0 0 (fun q => E.1 ≤ q)) 0 [(0, .ref (E.1 + a0))] [] S R I := by
  intro I a0 h
  rw [f_X7_renewMates] at h
  refine k_iconst (pc := 0) C (v := (0 : Int32)) dX7_renewMates_0 (by decide) ?_
  refine k_istoren (pc := 1) C dX7_renewMates_1 (i := 1) rfl (by decide) (L2 := [(0, .ref (E.1 + a0)), (1, .int (0 : Int32))]) rfl ?_
  exact b_X7_renewMates_2 C hr hk  _ _ _ _ h
theorem c_X7_renewMates {E : Ev} {l : Launch} {S : Sh} {R : Rw} {I : Iw} {a0 : Nat} {r : Iw} (h : f_X7_renewMates S R I a0 = some r) : Mt E l yX7_renewMates cX7_renewMates 4 none 4 88 [.ref (E.1 + a0)] S R I S R r none 0 0 := mt_of (by decide) (Nat.le_of_ble_eq_true rfl) (fun p e s m args below meth c C hr hk hn => b_X7_renewMates C hr hk _ _ h)
theorem lkF_RX7_15_7 : LkF RX7 15 7 1 := ⟨RX7, TX7, 16, "UnlikeNeighbours$Shed", fc7, by decide, (t1_in 72 (by decide +kernel) rfl), Or.inl rfl⟩
theorem lkF_RX7_21_7 : LkF RX7 21 7 3 := ⟨RX7, TX7, 16, "UnlikeNeighbours$Shed", fc7, by decide, (t1_in 77 (by decide +kernel) rfl), Or.inl rfl⟩
theorem lkF_RX7_53_7 : LkF RX7 53 7 6 := ⟨RX7, TX7, 16, "UnlikeNeighbours$Shed", fc7, by decide, (t1_in 85 (by decide +kernel) rfl), Or.inl rfl⟩
theorem lkP_RX7_53_7 : LkP RX7 53 7 6 .int := ⟨RX7, TX7, 16, "UnlikeNeighbours$Shed", fc7, by decide, (t1_in 85 (by decide +kernel) rfl), Or.inl rfl, rfl, by decide +kernel⟩
theorem lkP_RX7_50_7 : LkP RX7 50 7 5 .int := ⟨RX7, TX7, 16, "UnlikeNeighbours$Shed", fc7, by decide, (t1_in 82 (by decide +kernel) rfl), Or.inl rfl, rfl, by decide +kernel⟩
theorem lkV_RX7_56 : LkV RX7 56 RX7 yX7_renewMates cX7_renewMates 4 none 0 := ⟨(t2_in 41 (by decide +kernel) rfl), (t2_in 42 (by decide +kernel) rfl), (t2_in 43 (by decide +kernel) rfl), (t2_in 44 (by decide +kernel) rfl), (t1_in 2 (by decide +kernel) rfl), by decide, by decide +kernel⟩
theorem dX7_add_0 : decode cX7_add 0 = .ok (.aload_n 0, 1) := by decide +kernel
theorem dX7_add_1 : decode cX7_add 1 = .ok (.getfield 50, 3) := by decide +kernel
theorem dX7_add_4 : decode cX7_add 4 = .ok (.bipush 9, 2) := by decide +kernel
theorem dX7_add_6 : decode cX7_add 6 = .ok (.if_icmp .lt 6, 3) := by decide +kernel
theorem dX7_add_9 : decode cX7_add 9 = .ok (.bipush (-2), 2) := by decide +kernel
theorem dX7_add_11 : decode cX7_add 11 = .ok (.ireturn, 1) := by decide +kernel
theorem dX7_add_12 : decode cX7_add 12 = .ok (.aload_n 0, 1) := by decide +kernel
theorem dX7_add_13 : decode cX7_add 13 = .ok (.getfield 50, 3) := by decide +kernel
theorem dX7_add_16 : decode cX7_add 16 = .ok (.istore 5, 2) := by decide +kernel
theorem dX7_add_18 : decode cX7_add 18 = .ok (.aload_n 0, 1) := by decide +kernel
theorem dX7_add_19 : decode cX7_add 19 = .ok (.getfield 9, 3) := by decide +kernel
theorem dX7_add_22 : decode cX7_add 22 = .ok (.iload 5, 2) := by decide +kernel
theorem dX7_add_24 : decode cX7_add 24 = .ok (.iload_n 1, 1) := by decide +kernel
theorem dX7_add_25 : decode cX7_add 25 = .ok (.iastore, 1) := by decide +kernel
theorem dX7_add_26 : decode cX7_add 26 = .ok (.aload_n 0, 1) := by decide +kernel
theorem dX7_add_27 : decode cX7_add 27 = .ok (.getfield 15, 3) := by decide +kernel
theorem dX7_add_30 : decode cX7_add 30 = .ok (.iload 5, 2) := by decide +kernel
theorem dX7_add_32 : decode cX7_add 32 = .ok (.iload_n 2, 1) := by decide +kernel
theorem dX7_add_33 : decode cX7_add 33 = .ok (.iastore, 1) := by decide +kernel
theorem dX7_add_34 : decode cX7_add 34 = .ok (.aload_n 0, 1) := by decide +kernel
theorem dX7_add_35 : decode cX7_add 35 = .ok (.getfield 18, 3) := by decide +kernel
theorem dX7_add_38 : decode cX7_add 38 = .ok (.iload 5, 2) := by decide +kernel
theorem dX7_add_40 : decode cX7_add 40 = .ok (.iload_n 3, 1) := by decide +kernel
theorem dX7_add_41 : decode cX7_add 41 = .ok (.iastore, 1) := by decide +kernel
theorem dX7_add_42 : decode cX7_add 42 = .ok (.aload_n 0, 1) := by decide +kernel
theorem dX7_add_43 : decode cX7_add 43 = .ok (.getfield 21, 3) := by decide +kernel
theorem dX7_add_46 : decode cX7_add 46 = .ok (.iload 5, 2) := by decide +kernel
theorem dX7_add_48 : decode cX7_add 48 = .ok (.iload 4, 2) := by decide +kernel
theorem dX7_add_50 : decode cX7_add 50 = .ok (.iastore, 1) := by decide +kernel
theorem dX7_add_51 : decode cX7_add 51 = .ok (.aload_n 0, 1) := by decide +kernel
theorem dX7_add_52 : decode cX7_add 52 = .ok (.dup, 1) := by decide +kernel
theorem dX7_add_53 : decode cX7_add 53 = .ok (.getfield 53, 3) := by decide +kernel
theorem dX7_add_56 : decode cX7_add 56 = .ok (.iconst 1, 1) := by decide +kernel
theorem dX7_add_57 : decode cX7_add 57 = .ok (.iload 5, 2) := by decide +kernel
theorem dX7_add_59 : decode cX7_add 59 = .ok (.ishl, 1) := by decide +kernel
theorem dX7_add_60 : decode cX7_add 60 = .ok (.ior, 1) := by decide +kernel
theorem dX7_add_61 : decode cX7_add 61 = .ok (.putfield 53, 3) := by decide +kernel
theorem dX7_add_64 : decode cX7_add 64 = .ok (.aload_n 0, 1) := by decide +kernel
theorem dX7_add_65 : decode cX7_add 65 = .ok (.dup, 1) := by decide +kernel
theorem dX7_add_66 : decode cX7_add 66 = .ok (.getfield 50, 3) := by decide +kernel
theorem dX7_add_69 : decode cX7_add 69 = .ok (.iconst 1, 1) := by decide +kernel
theorem dX7_add_70 : decode cX7_add 70 = .ok (.iadd, 1) := by decide +kernel
theorem dX7_add_71 : decode cX7_add 71 = .ok (.putfield 50, 3) := by decide +kernel
theorem dX7_add_74 : decode cX7_add 74 = .ok (.aload_n 0, 1) := by decide +kernel
theorem dX7_add_75 : decode cX7_add 75 = .ok (.invokevirtual 56, 3) := by decide +kernel
theorem dX7_add_78 : decode cX7_add 78 = .ok (.iload 5, 2) := by decide +kernel
theorem dX7_add_80 : decode cX7_add 80 = .ok (.ireturn, 1) := by decide +kernel
def f_X7_add (S : Sh) (R : Rw)  (I : Iw) (a0 : Nat) (x1 : Int32) (x2 : Int32) (x3 : Int32) (x4 : Int32) : Option (Iw × Int32) := gp (sok S a0 7 16) ((if (I a0 5) < (9 : Int32) then rl (R a0 0) (fun b3 => gp (aok S 20 b3 (I a0 5)) (lt (up2 I b3 (I a0 5).toNatClampNeg x1) (fun I5 => rl (R a0 1) (fun b6 => gp (aok S 20 b6 (I a0 5)) (lt (up2 I5 b6 (I a0 5).toNatClampNeg x2) (fun I8 => rl (R a0 2) (fun b9 => gp (aok S 20 b9 (I a0 5)) (lt (up2 I8 b9 (I a0 5).toNatClampNeg x3) (fun I11 => rl (R a0 3) (fun b12 => gp (aok S 20 b12 (I a0 5)) (lt (up2 I11 b12 (I a0 5).toNatClampNeg x4) (fun I14 => lt (up2 I14 a0 6 ((I14 a0 6) ||| ((1 : Int32) <<< ((I a0 5) &&& 31)))) (fun I15 => lt (up2 I15 a0 5 ((I15 a0 5) + (1 : Int32))) (fun I16 => bd (f_X7_renewMates S R I16 a0) (fun r17 => some (r17, I a0 5)))))))))))))))) else some (I, (-2 : Int32))))
set_option maxHeartbeats 4000000 in
theorem b_X7_add {E : Ev} {p : Program} {l : Launch} {e : Env} {s : State} {m : MethodId} {args : Array Value} {below : List Frame} {meth : Method} {c : Code} (C : Cx E RX7 cX7_add 6 p s m c) (hr : meth.sig.returnType = (some .int)) (hk : meth.locks = false) {S : Sh} {R : Rw} {r : Iw × Int32}  : ∀ (I : Iw) (a0 : Nat) (x1 : Int32) (x2 : Int32) (x3 : Int32) (x4 : Int32), f_X7_add S R   I a0 x1 x2 x3 x4 = some r → Wk E 6 p l e ({ frames := 5, cells := 0, slots := 0, locals := 111 } : Room) s m args below meth c 0 0 (MQ below (Qw E S R r.1 (some (.int r.2))) args s 0 0 (fun q => E.1 ≤ q)) 0 [(0, .ref (E.1 + a0)), (1, .int x1), (2, .int x2), (3, .int x3), (4, .int x4)] [] S R I := by
  intro I a0 x1 x2 x3 x4 h
  rw [f_X7_add] at h
  refine k_aloadn (pc := 0) C dX7_add_0 (i := 0) rfl 0 rfl ?_
  obtain ⟨hs10, h⟩ := gp_e h
  have hs1 := sok_e hs10
  refine k_getI (pc := 1) C lkF_RX7_50_7 hs1 ir_7_5 dX7_add_1 ?_
  refine k_bipush (pc := 4) C (v := (9 : Int32)) dX7_add_4 (by decide) ?_
  refine k_icmp_lt (pc := 6) C dX7_add_6 (tgt := 12) (by decide) (fun hc2 => ?_) (fun hc2 => ?_)
  · rw [if_pos hc2] at h
    refine k_aloadn (pc := 12) C dX7_add_12 (i := 0) rfl 0 rfl ?_
    refine k_getI (pc := 13) C lkF_RX7_50_7 hs1 ir_7_5 dX7_add_13 ?_
    refine k_istore (pc := 16) C dX7_add_16 (by decide) (L2 := [(0, .ref (E.1 + a0)), (1, .int x1), (2, .int x2), (3, .int x3), (4, .int x4), (5, .int (I a0 5))]) rfl ?_
    refine k_aloadn (pc := 18) C dX7_add_18 (i := 0) rfl 0 rfl ?_
    obtain ⟨b3, hb3, h⟩ := rl_e h
    refine k_getR (pc := 19) C lkF_RX7_9_7 hs1 ir_7_0 hb3 dX7_add_19 ?_
    refine k_iload (pc := 22) C dX7_add_22 5 rfl ?_
    refine k_iloadn (pc := 24) C dX7_add_24 (i := 1) rfl 1 rfl ?_
    obtain ⟨ha4, h⟩ := gp_e h
    obtain ⟨I5, eI5, h⟩ := lt_e h
    refine k_iast (pc := 25) C ha4 dX7_add_25 ?_
    rw [← eI5]
    refine k_aloadn (pc := 26) C dX7_add_26 (i := 0) rfl 0 rfl ?_
    obtain ⟨b6, hb6, h⟩ := rl_e h
    refine k_getR (pc := 27) C lkF_RX7_15_7 hs1 ir_7_1 hb6 dX7_add_27 ?_
    refine k_iload (pc := 30) C dX7_add_30 5 rfl ?_
    refine k_iloadn (pc := 32) C dX7_add_32 (i := 2) rfl 2 rfl ?_
    obtain ⟨ha7, h⟩ := gp_e h
    obtain ⟨I8, eI8, h⟩ := lt_e h
    refine k_iast (pc := 33) C ha7 dX7_add_33 ?_
    rw [← eI8]
    refine k_aloadn (pc := 34) C dX7_add_34 (i := 0) rfl 0 rfl ?_
    obtain ⟨b9, hb9, h⟩ := rl_e h
    refine k_getR (pc := 35) C lkF_RX7_18_7 hs1 ir_7_2 hb9 dX7_add_35 ?_
    refine k_iload (pc := 38) C dX7_add_38 5 rfl ?_
    refine k_iloadn (pc := 40) C dX7_add_40 (i := 3) rfl 3 rfl ?_
    obtain ⟨ha10, h⟩ := gp_e h
    obtain ⟨I11, eI11, h⟩ := lt_e h
    refine k_iast (pc := 41) C ha10 dX7_add_41 ?_
    rw [← eI11]
    refine k_aloadn (pc := 42) C dX7_add_42 (i := 0) rfl 0 rfl ?_
    obtain ⟨b12, hb12, h⟩ := rl_e h
    refine k_getR (pc := 43) C lkF_RX7_21_7 hs1 ir_7_3 hb12 dX7_add_43 ?_
    refine k_iload (pc := 46) C dX7_add_46 5 rfl ?_
    refine k_iload (pc := 48) C dX7_add_48 4 rfl ?_
    obtain ⟨ha13, h⟩ := gp_e h
    obtain ⟨I14, eI14, h⟩ := lt_e h
    refine k_iast (pc := 50) C ha13 dX7_add_50 ?_
    rw [← eI14]
    refine k_aloadn (pc := 51) C dX7_add_51 (i := 0) rfl 0 rfl ?_
    refine k_dup (pc := 52) C dX7_add_52 rfl ?_
    refine k_getI (pc := 53) C lkF_RX7_53_7 hs1 ir_7_6 dX7_add_53 ?_
    refine k_iconst (pc := 56) C (v := (1 : Int32)) dX7_add_56 (by decide) ?_
    refine k_iload (pc := 57) C dX7_add_57 5 rfl ?_
    refine k_ishl (pc := 59) C dX7_add_59 ?_
    refine k_ior (pc := 60) C dX7_add_60 ?_
    obtain ⟨I15, eI15, h⟩ := lt_e h
    refine k_putI (pc := 61) C lkP_RX7_53_7 hs1 ir_7_6 dX7_add_61 ?_
    rw [← eI15]
    refine k_aloadn (pc := 64) C dX7_add_64 (i := 0) rfl 0 rfl ?_
    refine k_dup (pc := 65) C dX7_add_65 rfl ?_
    refine k_getI (pc := 66) C lkF_RX7_50_7 hs1 ir_7_5 dX7_add_66 ?_
    refine k_iconst (pc := 69) C (v := (1 : Int32)) dX7_add_69 (by decide) ?_
    refine k_iadd (pc := 70) C dX7_add_70 ?_
    obtain ⟨I16, eI16, h⟩ := lt_e h
    refine k_putI (pc := 71) C lkP_RX7_50_7 hs1 ir_7_5 dX7_add_71 ?_
    rw [← eI16]
    refine k_aloadn (pc := 74) C dX7_add_74 (i := 0) rfl 0 rfl ?_
    obtain ⟨r17, hr17, h⟩ := bd_e h
    refine k_V (pc := 75) (st := []) C (c_X7_renewMates hr17) lkV_RX7_56 hs1 rfl rfl rfl (Nat.le_of_ble_eq_true rfl) (Nat.le_of_ble_eq_true rfl) (Nat.le_of_ble_eq_true rfl) (Nat.le_of_ble_eq_true rfl) (Nat.le_of_ble_eq_true rfl) dX7_add_75 ?_
    refine k_nf (cells2 := 0) (slots2 := 0) (st2 := []) rfl rfl rfl ?_
    refine k_iload (pc := 78) C dX7_add_78 5 rfl ?_
    cases h
    exact k_iret (pc := 80) C hr hk dX7_add_80
  · rw [if_neg hc2] at h
    refine k_bipush (pc := 9) C (v := (-2 : Int32)) dX7_add_9 (by decide) ?_
    cases h
    exact k_iret (pc := 11) C hr hk dX7_add_11
theorem c_X7_add {E : Ev} {l : Launch} {S : Sh} {R : Rw} {I : Iw} {a0 : Nat} {x1 : Int32} {x2 : Int32} {x3 : Int32} {x4 : Int32} {r : Iw × Int32} (h : f_X7_add S R I a0 x1 x2 x3 x4 = some r) : Mt E l yX7_add cX7_add 6 (some .int) 5 111 [.ref (E.1 + a0), .int x1, .int x2, .int x3, .int x4] S R I S R r.1 (some (.int r.2)) 0 0 := mt_of (by decide) (Nat.le_of_ble_eq_true rfl) (fun p e s m args below meth c C hr hk hn => b_X7_add C hr hk _ _ _ _ _ _ h)
theorem lkF_RX7_59_7 : LkF RX7 59 7 14 := ⟨RX7, TX7, 16, "UnlikeNeighbours$Shed", fc7, by decide, (t1_in 101 (by decide +kernel) rfl), Or.inl rfl⟩
theorem lkF_RX7_41_7 : LkF RX7 41 7 12 := ⟨RX7, TX7, 16, "UnlikeNeighbours$Shed", fc7, by decide, (t1_in 99 (by decide +kernel) rfl), Or.inl rfl⟩
theorem lkF_RX7_44_7 : LkF RX7 44 7 13 := ⟨RX7, TX7, 16, "UnlikeNeighbours$Shed", fc7, by decide, (t1_in 100 (by decide +kernel) rfl), Or.inl rfl⟩
theorem lkP_RX7_59_7 : LkP RX7 59 7 14 .int := ⟨RX7, TX7, 16, "UnlikeNeighbours$Shed", fc7, by decide, (t1_in 101 (by decide +kernel) rfl), Or.inl rfl, rfl, by decide +kernel⟩
theorem dX7_addReport_0 : decode cX7_addReport 0 = .ok (.aload_n 0, 1) := by decide +kernel
theorem dX7_addReport_1 : decode cX7_addReport 1 = .ok (.getfield 59, 3) := by decide +kernel
theorem dX7_addReport_4 : decode cX7_addReport 4 = .ok (.bipush 6, 2) := by decide +kernel
theorem dX7_addReport_6 : decode cX7_addReport 6 = .ok (.if_icmp .lt 6, 3) := by decide +kernel
theorem dX7_addReport_9 : decode cX7_addReport 9 = .ok (.bipush (-2), 2) := by decide +kernel
theorem dX7_addReport_11 : decode cX7_addReport 11 = .ok (.ireturn, 1) := by decide +kernel
theorem dX7_addReport_12 : decode cX7_addReport 12 = .ok (.aload_n 0, 1) := by decide +kernel
theorem dX7_addReport_13 : decode cX7_addReport 13 = .ok (.getfield 41, 3) := by decide +kernel
theorem dX7_addReport_16 : decode cX7_addReport 16 = .ok (.aload_n 0, 1) := by decide +kernel
theorem dX7_addReport_17 : decode cX7_addReport 17 = .ok (.getfield 59, 3) := by decide +kernel
theorem dX7_addReport_20 : decode cX7_addReport 20 = .ok (.iload_n 1, 1) := by decide +kernel
theorem dX7_addReport_21 : decode cX7_addReport 21 = .ok (.iastore, 1) := by decide +kernel
theorem dX7_addReport_22 : decode cX7_addReport 22 = .ok (.aload_n 0, 1) := by decide +kernel
theorem dX7_addReport_23 : decode cX7_addReport 23 = .ok (.getfield 44, 3) := by decide +kernel
theorem dX7_addReport_26 : decode cX7_addReport 26 = .ok (.aload_n 0, 1) := by decide +kernel
theorem dX7_addReport_27 : decode cX7_addReport 27 = .ok (.getfield 59, 3) := by decide +kernel
theorem dX7_addReport_30 : decode cX7_addReport 30 = .ok (.iload_n 2, 1) := by decide +kernel
theorem dX7_addReport_31 : decode cX7_addReport 31 = .ok (.iastore, 1) := by decide +kernel
theorem dX7_addReport_32 : decode cX7_addReport 32 = .ok (.aload_n 0, 1) := by decide +kernel
theorem dX7_addReport_33 : decode cX7_addReport 33 = .ok (.dup, 1) := by decide +kernel
theorem dX7_addReport_34 : decode cX7_addReport 34 = .ok (.getfield 59, 3) := by decide +kernel
theorem dX7_addReport_37 : decode cX7_addReport 37 = .ok (.iconst 1, 1) := by decide +kernel
theorem dX7_addReport_38 : decode cX7_addReport 38 = .ok (.iadd, 1) := by decide +kernel
theorem dX7_addReport_39 : decode cX7_addReport 39 = .ok (.putfield 59, 3) := by decide +kernel
theorem dX7_addReport_42 : decode cX7_addReport 42 = .ok (.aload_n 0, 1) := by decide +kernel
theorem dX7_addReport_43 : decode cX7_addReport 43 = .ok (.getfield 59, 3) := by decide +kernel
theorem dX7_addReport_46 : decode cX7_addReport 46 = .ok (.iconst 1, 1) := by decide +kernel
theorem dX7_addReport_47 : decode cX7_addReport 47 = .ok (.isub, 1) := by decide +kernel
theorem dX7_addReport_48 : decode cX7_addReport 48 = .ok (.ireturn, 1) := by decide +kernel
def f_X7_addReport (S : Sh) (R : Rw)  (I : Iw) (a0 : Nat) (x1 : Int32) (x2 : Int32) : Option (Iw × Int32) := gp (sok S a0 7 16) ((if (I a0 14) < (6 : Int32) then rl (R a0 12) (fun b3 => gp (aok S 20 b3 (I a0 14)) (lt (up2 I b3 (I a0 14).toNatClampNeg x1) (fun I5 => rl (R a0 13) (fun b6 => gp (aok S 20 b6 (I5 a0 14)) (lt (up2 I5 b6 (I5 a0 14).toNatClampNeg x2) (fun I8 => lt (up2 I8 a0 14 ((I8 a0 14) + (1 : Int32))) (fun I9 => some (I9, (I9 a0 14) - (1 : Int32))))))))) else some (I, (-2 : Int32))))
set_option maxHeartbeats 4000000 in
theorem b_X7_addReport {E : Ev} {p : Program} {l : Launch} {e : Env} {s : State} {m : MethodId} {args : Array Value} {below : List Frame} {meth : Method} {c : Code} (C : Cx E RX7 cX7_addReport 3 p s m c) (hr : meth.sig.returnType = (some .int)) (hk : meth.locks = false) {S : Sh} {R : Rw} {r : Iw × Int32}  : ∀ (I : Iw) (a0 : Nat) (x1 : Int32) (x2 : Int32), f_X7_addReport S R   I a0 x1 x2 = some r → Wk E 3 p l e ({ frames := 0, cells := 0, slots := 0, locals := 0 } : Room) s m args below meth c 0 0 (MQ below (Qw E S R r.1 (some (.int r.2))) args s 0 0 (fun q => E.1 ≤ q)) 0 [(0, .ref (E.1 + a0)), (1, .int x1), (2, .int x2)] [] S R I := by
  intro I a0 x1 x2 h
  rw [f_X7_addReport] at h
  refine k_aloadn (pc := 0) C dX7_addReport_0 (i := 0) rfl 0 rfl ?_
  obtain ⟨hs10, h⟩ := gp_e h
  have hs1 := sok_e hs10
  refine k_getI (pc := 1) C lkF_RX7_59_7 hs1 ir_7_14 dX7_addReport_1 ?_
  refine k_bipush (pc := 4) C (v := (6 : Int32)) dX7_addReport_4 (by decide) ?_
  refine k_icmp_lt (pc := 6) C dX7_addReport_6 (tgt := 12) (by decide) (fun hc2 => ?_) (fun hc2 => ?_)
  · rw [if_pos hc2] at h
    refine k_aloadn (pc := 12) C dX7_addReport_12 (i := 0) rfl 0 rfl ?_
    obtain ⟨b3, hb3, h⟩ := rl_e h
    refine k_getR (pc := 13) C lkF_RX7_41_7 hs1 ir_7_12 hb3 dX7_addReport_13 ?_
    refine k_aloadn (pc := 16) C dX7_addReport_16 (i := 0) rfl 0 rfl ?_
    refine k_getI (pc := 17) C lkF_RX7_59_7 hs1 ir_7_14 dX7_addReport_17 ?_
    refine k_iloadn (pc := 20) C dX7_addReport_20 (i := 1) rfl 1 rfl ?_
    obtain ⟨ha4, h⟩ := gp_e h
    obtain ⟨I5, eI5, h⟩ := lt_e h
    refine k_iast (pc := 21) C ha4 dX7_addReport_21 ?_
    rw [← eI5]
    refine k_aloadn (pc := 22) C dX7_addReport_22 (i := 0) rfl 0 rfl ?_
    obtain ⟨b6, hb6, h⟩ := rl_e h
    refine k_getR (pc := 23) C lkF_RX7_44_7 hs1 ir_7_13 hb6 dX7_addReport_23 ?_
    refine k_aloadn (pc := 26) C dX7_addReport_26 (i := 0) rfl 0 rfl ?_
    refine k_getI (pc := 27) C lkF_RX7_59_7 hs1 ir_7_14 dX7_addReport_27 ?_
    refine k_iloadn (pc := 30) C dX7_addReport_30 (i := 2) rfl 2 rfl ?_
    obtain ⟨ha7, h⟩ := gp_e h
    obtain ⟨I8, eI8, h⟩ := lt_e h
    refine k_iast (pc := 31) C ha7 dX7_addReport_31 ?_
    rw [← eI8]
    refine k_aloadn (pc := 32) C dX7_addReport_32 (i := 0) rfl 0 rfl ?_
    refine k_dup (pc := 33) C dX7_addReport_33 rfl ?_
    refine k_getI (pc := 34) C lkF_RX7_59_7 hs1 ir_7_14 dX7_addReport_34 ?_
    refine k_iconst (pc := 37) C (v := (1 : Int32)) dX7_addReport_37 (by decide) ?_
    refine k_iadd (pc := 38) C dX7_addReport_38 ?_
    obtain ⟨I9, eI9, h⟩ := lt_e h
    refine k_putI (pc := 39) C lkP_RX7_59_7 hs1 ir_7_14 dX7_addReport_39 ?_
    rw [← eI9]
    refine k_aloadn (pc := 42) C dX7_addReport_42 (i := 0) rfl 0 rfl ?_
    refine k_getI (pc := 43) C lkF_RX7_59_7 hs1 ir_7_14 dX7_addReport_43 ?_
    refine k_iconst (pc := 46) C (v := (1 : Int32)) dX7_addReport_46 (by decide) ?_
    refine k_isub (pc := 47) C dX7_addReport_47 ?_
    cases h
    exact k_iret (pc := 48) C hr hk dX7_addReport_48
  · rw [if_neg hc2] at h
    refine k_bipush (pc := 9) C (v := (-2 : Int32)) dX7_addReport_9 (by decide) ?_
    cases h
    exact k_iret (pc := 11) C hr hk dX7_addReport_11
theorem c_X7_addReport {E : Ev} {l : Launch} {S : Sh} {R : Rw} {I : Iw} {a0 : Nat} {x1 : Int32} {x2 : Int32} {r : Iw × Int32} (h : f_X7_addReport S R I a0 x1 x2 = some r) : Mt E l yX7_addReport cX7_addReport 3 (some .int) 0 0 [.ref (E.1 + a0), .int x1, .int x2] S R I S R r.1 (some (.int r.2)) 0 0 := mt_of (by decide) (Nat.le_of_ble_eq_true rfl) (fun p e s m args below meth c C hr hk hn => b_X7_addReport C hr hk _ _ _ _ h)
theorem lkV_RX7_62 : LkV RX7 62 RX7 yX7_has cX7_has 2 (some .boolean) 1 := ⟨(t2_in 72 (by decide +kernel) rfl), (t2_in 65 (by decide +kernel) rfl), (t2_in 66 (by decide +kernel) rfl), (t2_in 67 (by decide +kernel) rfl), (t1_in 2 (by decide +kernel) rfl), by decide, by decide +kernel⟩
theorem dX7_becomeKind_0 : decode cX7_becomeKind 0 = .ok (.aload_n 0, 1) := by decide +kernel
theorem dX7_becomeKind_1 : decode cX7_becomeKind 1 = .ok (.iload_n 1, 1) := by decide +kernel
theorem dX7_becomeKind_2 : decode cX7_becomeKind 2 = .ok (.invokevirtual 62, 3) := by decide +kernel
theorem dX7_becomeKind_5 : decode cX7_becomeKind 5 = .ok (.ifCond .eq 14, 3) := by decide +kernel
theorem dX7_becomeKind_8 : decode cX7_becomeKind 8 = .ok (.aload_n 0, 1) := by decide +kernel
theorem dX7_becomeKind_9 : decode cX7_becomeKind 9 = .ok (.getfield 9, 3) := by decide +kernel
theorem dX7_becomeKind_12 : decode cX7_becomeKind 12 = .ok (.iload_n 1, 1) := by decide +kernel
theorem dX7_becomeKind_13 : decode cX7_becomeKind 13 = .ok (.iload_n 2, 1) := by decide +kernel
theorem dX7_becomeKind_14 : decode cX7_becomeKind 14 = .ok (.iastore, 1) := by decide +kernel
theorem dX7_becomeKind_15 : decode cX7_becomeKind 15 = .ok (.aload_n 0, 1) := by decide +kernel
theorem dX7_becomeKind_16 : decode cX7_becomeKind 16 = .ok (.invokevirtual 56, 3) := by decide +kernel
theorem dX7_becomeKind_19 : decode cX7_becomeKind 19 = .ok (.return_, 1) := by decide +kernel
def f_X7_becomeKind (S : Sh) (R : Rw)  (I : Iw) (a0 : Nat) (x1 : Int32) (x2 : Int32) : Option (Iw) := gp (sok S a0 7 16) (bd (f_X7_has S R I a0 x1) (fun r2 => (if r2 = 0 then some I else rl (R a0 0) (fun b4 => gp (aok S 20 b4 x1) (lt (up2 I b4 x1.toNatClampNeg x2) (fun I6 => bd (f_X7_renewMates S R I6 a0) (fun r7 => some r7)))))))
set_option maxHeartbeats 4000000 in
theorem b_X7_becomeKind {E : Ev} {p : Program} {l : Launch} {e : Env} {s : State} {m : MethodId} {args : Array Value} {below : List Frame} {meth : Method} {c : Code} (C : Cx E RX7 cX7_becomeKind 3 p s m c) (hr : meth.sig.returnType = none) (hk : meth.locks = false) {S : Sh} {R : Rw} {r : Iw}  : ∀ (I : Iw) (a0 : Nat) (x1 : Int32) (x2 : Int32), f_X7_becomeKind S R   I a0 x1 x2 = some r → Wk E 3 p l e ({ frames := 5, cells := 0, slots := 0, locals := 111 } : Room) s m args below meth c 0 0 (MQ below (Qw E S R r none) args s 0 0 (fun q => E.1 ≤ q)) 0 [(0, .ref (E.1 + a0)), (1, .int x1), (2, .int x2)] [] S R I := by
  intro I a0 x1 x2 h
  rw [f_X7_becomeKind] at h
  refine k_aloadn (pc := 0) C dX7_becomeKind_0 (i := 0) rfl 0 rfl ?_
  refine k_iloadn (pc := 1) C dX7_becomeKind_1 (i := 1) rfl 1 rfl ?_
  obtain ⟨hs10, h⟩ := gp_e h
  have hs1 := sok_e hs10
  obtain ⟨r2, hr2, h⟩ := bd_e h
  refine k_V (pc := 2) (st := []) C (c_X7_has hr2) lkV_RX7_62 hs1 rfl rfl rfl (Nat.le_of_ble_eq_true rfl) (Nat.le_of_ble_eq_true rfl) (Nat.le_of_ble_eq_true rfl) (Nat.le_of_ble_eq_true rfl) (Nat.le_of_ble_eq_true rfl) dX7_becomeKind_2 ?_
  refine k_nf (cells2 := 0) (slots2 := 0) (st2 := [.int r2]) rfl rfl rfl ?_
  refine k_if_eq (pc := 5) C dX7_becomeKind_5 (tgt := 19) (by decide) (fun hc3 => ?_) (fun hc3 => ?_)
  · rw [if_pos hc3] at h
    cases h
    exact k_vret (pc := 19) C hr hk dX7_becomeKind_19
  · rw [if_neg hc3] at h
    refine k_aloadn (pc := 8) C dX7_becomeKind_8 (i := 0) rfl 0 rfl ?_
    obtain ⟨b4, hb4, h⟩ := rl_e h
    refine k_getR (pc := 9) C lkF_RX7_9_7 hs1 ir_7_0 hb4 dX7_becomeKind_9 ?_
    refine k_iloadn (pc := 12) C dX7_becomeKind_12 (i := 1) rfl 1 rfl ?_
    refine k_iloadn (pc := 13) C dX7_becomeKind_13 (i := 2) rfl 2 rfl ?_
    obtain ⟨ha5, h⟩ := gp_e h
    obtain ⟨I6, eI6, h⟩ := lt_e h
    refine k_iast (pc := 14) C ha5 dX7_becomeKind_14 ?_
    rw [← eI6]
    refine k_aloadn (pc := 15) C dX7_becomeKind_15 (i := 0) rfl 0 rfl ?_
    obtain ⟨r7, hr7, h⟩ := bd_e h
    refine k_V (pc := 16) (st := []) C (c_X7_renewMates hr7) lkV_RX7_56 hs1 rfl rfl rfl (Nat.le_of_ble_eq_true rfl) (Nat.le_of_ble_eq_true rfl) (Nat.le_of_ble_eq_true rfl) (Nat.le_of_ble_eq_true rfl) (Nat.le_of_ble_eq_true rfl) dX7_becomeKind_16 ?_
    refine k_nf (cells2 := 0) (slots2 := 0) (st2 := []) rfl rfl rfl ?_
    cases h
    exact k_vret (pc := 19) C hr hk dX7_becomeKind_19
theorem c_X7_becomeKind {E : Ev} {l : Launch} {S : Sh} {R : Rw} {I : Iw} {a0 : Nat} {x1 : Int32} {x2 : Int32} {r : Iw} (h : f_X7_becomeKind S R I a0 x1 x2 = some r) : Mt E l yX7_becomeKind cX7_becomeKind 3 none 5 111 [.ref (E.1 + a0), .int x1, .int x2] S R I S R r none 0 0 := mt_of (by decide) (Nat.le_of_ble_eq_true rfl) (fun p e s m args below meth c C hr hk hn => b_X7_becomeKind C hr hk _ _ _ _ h)
theorem dX7_becomeGap_0 : decode cX7_becomeGap 0 = .ok (.aload_n 0, 1) := by decide +kernel
theorem dX7_becomeGap_1 : decode cX7_becomeGap 1 = .ok (.iload_n 1, 1) := by decide +kernel
theorem dX7_becomeGap_2 : decode cX7_becomeGap 2 = .ok (.putfield 30, 3) := by decide +kernel
theorem dX7_becomeGap_5 : decode cX7_becomeGap 5 = .ok (.aload_n 0, 1) := by decide +kernel
theorem dX7_becomeGap_6 : decode cX7_becomeGap 6 = .ok (.invokevirtual 56, 3) := by decide +kernel
theorem dX7_becomeGap_9 : decode cX7_becomeGap 9 = .ok (.return_, 1) := by decide +kernel
def f_X7_becomeGap (S : Sh) (R : Rw)  (I : Iw) (a0 : Nat) (x1 : Int32) : Option (Iw) := gp (sok S a0 7 16) (lt (up2 I a0 9 x1) (fun I2 => bd (f_X7_renewMates S R I2 a0) (fun r3 => some r3)))
set_option maxHeartbeats 4000000 in
theorem b_X7_becomeGap {E : Ev} {p : Program} {l : Launch} {e : Env} {s : State} {m : MethodId} {args : Array Value} {below : List Frame} {meth : Method} {c : Code} (C : Cx E RX7 cX7_becomeGap 2 p s m c) (hr : meth.sig.returnType = none) (hk : meth.locks = false) {S : Sh} {R : Rw} {r : Iw}  : ∀ (I : Iw) (a0 : Nat) (x1 : Int32), f_X7_becomeGap S R   I a0 x1 = some r → Wk E 2 p l e ({ frames := 5, cells := 0, slots := 0, locals := 111 } : Room) s m args below meth c 0 0 (MQ below (Qw E S R r none) args s 0 0 (fun q => E.1 ≤ q)) 0 [(0, .ref (E.1 + a0)), (1, .int x1)] [] S R I := by
  intro I a0 x1 h
  rw [f_X7_becomeGap] at h
  refine k_aloadn (pc := 0) C dX7_becomeGap_0 (i := 0) rfl 0 rfl ?_
  refine k_iloadn (pc := 1) C dX7_becomeGap_1 (i := 1) rfl 1 rfl ?_
  obtain ⟨hs10, h⟩ := gp_e h
  have hs1 := sok_e hs10
  obtain ⟨I2, eI2, h⟩ := lt_e h
  refine k_putI (pc := 2) C lkP_RX7_30_7 hs1 ir_7_9 dX7_becomeGap_2 ?_
  rw [← eI2]
  refine k_aloadn (pc := 5) C dX7_becomeGap_5 (i := 0) rfl 0 rfl ?_
  obtain ⟨r3, hr3, h⟩ := bd_e h
  refine k_V (pc := 6) (st := []) C (c_X7_renewMates hr3) lkV_RX7_56 hs1 rfl rfl rfl (Nat.le_of_ble_eq_true rfl) (Nat.le_of_ble_eq_true rfl) (Nat.le_of_ble_eq_true rfl) (Nat.le_of_ble_eq_true rfl) (Nat.le_of_ble_eq_true rfl) dX7_becomeGap_6 ?_
  refine k_nf (cells2 := 0) (slots2 := 0) (st2 := []) rfl rfl rfl ?_
  cases h
  exact k_vret (pc := 9) C hr hk dX7_becomeGap_9
theorem c_X7_becomeGap {E : Ev} {l : Launch} {S : Sh} {R : Rw} {I : Iw} {a0 : Nat} {x1 : Int32} {r : Iw} (h : f_X7_becomeGap S R I a0 x1 = some r) : Mt E l yX7_becomeGap cX7_becomeGap 2 none 5 111 [.ref (E.1 + a0), .int x1] S R I S R r none 0 0 := mt_of (by decide) (Nat.le_of_ble_eq_true rfl) (fun p e s m args below meth c C hr hk hn => b_X7_becomeGap C hr hk _ _ _ h)
theorem lkF_RX7_82_7 : LkF RX7 82 7 8 := ⟨RX7, TX7, 16, "UnlikeNeighbours$Shed", fc7, by decide, (t1_in 89 (by decide +kernel) rfl), Or.inl rfl⟩
theorem lkF_RX7_27_7 : LkF RX7 27 7 7 := ⟨RX7, TX7, 16, "UnlikeNeighbours$Shed", fc7, by decide, (t1_in 87 (by decide +kernel) rfl), Or.inl rfl⟩
theorem dX7_last_0 : decode cX7_last 0 = .ok (.aload_n 0, 1) := by decide +kernel
theorem dX7_last_1 : decode cX7_last 1 = .ok (.getfield 82, 3) := by decide +kernel
theorem dX7_last_4 : decode cX7_last 4 = .ok (.ifCond .le 17, 3) := by decide +kernel
theorem dX7_last_7 : decode cX7_last 7 = .ok (.aload_n 0, 1) := by decide +kernel
theorem dX7_last_8 : decode cX7_last 8 = .ok (.getfield 27, 3) := by decide +kernel
theorem dX7_last_11 : decode cX7_last 11 = .ok (.aload_n 0, 1) := by decide +kernel
theorem dX7_last_12 : decode cX7_last 12 = .ok (.getfield 82, 3) := by decide +kernel
theorem dX7_last_15 : decode cX7_last 15 = .ok (.iconst 1, 1) := by decide +kernel
theorem dX7_last_16 : decode cX7_last 16 = .ok (.isub, 1) := by decide +kernel
theorem dX7_last_17 : decode cX7_last 17 = .ok (.iaload, 1) := by decide +kernel
theorem dX7_last_18 : decode cX7_last 18 = .ok (.goto 4, 3) := by decide +kernel
theorem dX7_last_21 : decode cX7_last 21 = .ok (.iconst (-1), 1) := by decide +kernel
theorem dX7_last_22 : decode cX7_last 22 = .ok (.ireturn, 1) := by decide +kernel
def f_X7_last (S : Sh) (R : Rw) (I : Iw)  (a0 : Nat) : Option (Int32) := gp (sok S a0 7 16) ((if (I a0 8) ≤ 0 then some (-1 : Int32) else rl (R a0 7) (fun b3 => gp (aok S 20 b3 ((I a0 8) - (1 : Int32))) (some (I b3 ((I a0 8) - (1 : Int32)).toNatClampNeg)))))
set_option maxHeartbeats 4000000 in
theorem b_X7_last {E : Ev} {p : Program} {l : Launch} {e : Env} {s : State} {m : MethodId} {args : Array Value} {below : List Frame} {meth : Method} {c : Code} (C : Cx E RX7 cX7_last 1 p s m c) (hr : meth.sig.returnType = (some .int)) (hk : meth.locks = false) {S : Sh} {R : Rw} {I : Iw} {r : Int32}  : ∀ (a0 : Nat), f_X7_last S R I   a0 = some r → Wk E 1 p l e ({ frames := 0, cells := 0, slots := 0, locals := 0 } : Room) s m args below meth c 0 0 (MQ below (Qw E S R I (some (.int r))) args s 0 0 (fun q => E.1 ≤ q)) 0 [(0, .ref (E.1 + a0))] [] S R I := by
  intro a0 h
  rw [f_X7_last] at h
  refine k_aloadn (pc := 0) C dX7_last_0 (i := 0) rfl 0 rfl ?_
  obtain ⟨hs10, h⟩ := gp_e h
  have hs1 := sok_e hs10
  refine k_getI (pc := 1) C lkF_RX7_82_7 hs1 ir_7_8 dX7_last_1 ?_
  refine k_if_le (pc := 4) C dX7_last_4 (tgt := 21) (by decide) (fun hc2 => ?_) (fun hc2 => ?_)
  · rw [if_pos hc2] at h
    refine k_iconst (pc := 21) C (v := (-1 : Int32)) dX7_last_21 (by decide) ?_
    cases h
    exact k_iret (pc := 22) C hr hk dX7_last_22
  · rw [if_neg hc2] at h
    refine k_aloadn (pc := 7) C dX7_last_7 (i := 0) rfl 0 rfl ?_
    obtain ⟨b3, hb3, h⟩ := rl_e h
    refine k_getR (pc := 8) C lkF_RX7_27_7 hs1 ir_7_7 hb3 dX7_last_8 ?_
    refine k_aloadn (pc := 11) C dX7_last_11 (i := 0) rfl 0 rfl ?_
    refine k_getI (pc := 12) C lkF_RX7_82_7 hs1 ir_7_8 dX7_last_12 ?_
    refine k_iconst (pc := 15) C (v := (1 : Int32)) dX7_last_15 (by decide) ?_
    refine k_isub (pc := 16) C dX7_last_16 ?_
    obtain ⟨ha4, h⟩ := gp_e h
    refine k_iald (pc := 17) C ha4 dX7_last_17 ?_
    refine k_goto (pc := 18) C dX7_last_18 (tgt := 22) (by decide) ?_
    cases h
    exact k_iret (pc := 22) C hr hk dX7_last_22
theorem c_X7_last {E : Ev} {l : Launch} {S : Sh} {R : Rw} {I : Iw} {a0 : Nat} {r : Int32} (h : f_X7_last S R I a0 = some r) : Mt E l yX7_last cX7_last 1 (some .int) 0 0 [.ref (E.1 + a0)] S R I S R I (some (.int r)) 0 0 := mt_of (by decide) (Nat.le_of_ble_eq_true rfl) (fun p e s m args below meth c C hr hk hn => b_X7_last C hr hk _ h)
theorem dX11_holds_0 : decode cX11_holds 0 = .ok (.iload_n 1, 1) := by decide +kernel
theorem dX11_holds_1 : decode cX11_holds 1 = .ok (.ifCond .lt 22, 3) := by decide +kernel
theorem dX11_holds_4 : decode cX11_holds 4 = .ok (.iload_n 1, 1) := by decide +kernel
theorem dX11_holds_5 : decode cX11_holds 5 = .ok (.bipush 9, 2) := by decide +kernel
theorem dX11_holds_7 : decode cX11_holds 7 = .ok (.if_icmp .gt 16, 3) := by decide +kernel
theorem dX11_holds_10 : decode cX11_holds 10 = .ok (.iload_n 0, 1) := by decide +kernel
theorem dX11_holds_11 : decode cX11_holds 11 = .ok (.iload_n 1, 1) := by decide +kernel
theorem dX11_holds_12 : decode cX11_holds 12 = .ok (.ishr, 1) := by decide +kernel
theorem dX11_holds_13 : decode cX11_holds 13 = .ok (.iconst 1, 1) := by decide +kernel
theorem dX11_holds_14 : decode cX11_holds 14 = .ok (.iand, 1) := by decide +kernel
theorem dX11_holds_15 : decode cX11_holds 15 = .ok (.iconst 1, 1) := by decide +kernel
theorem dX11_holds_16 : decode cX11_holds 16 = .ok (.if_icmp .ne 7, 3) := by decide +kernel
theorem dX11_holds_19 : decode cX11_holds 19 = .ok (.iconst 1, 1) := by decide +kernel
theorem dX11_holds_20 : decode cX11_holds 20 = .ok (.goto 4, 3) := by decide +kernel
theorem dX11_holds_23 : decode cX11_holds 23 = .ok (.iconst 0, 1) := by decide +kernel
theorem dX11_holds_24 : decode cX11_holds 24 = .ok (.ireturn, 1) := by decide +kernel
def f_X11_holds (S : Sh) (R : Rw) (I : Iw)  (x0 : Int32) (x1 : Int32) : Option (Int32) := (if x1 < 0 then some (0 : Int32) else (if (9 : Int32) < x1 then some (0 : Int32) else (if ((x0 >>> (x1 &&& 31)) &&& (1 : Int32)) = (1 : Int32) then some (1 : Int32) else some (0 : Int32))))
set_option maxHeartbeats 4000000 in
theorem b_X11_holds {E : Ev} {p : Program} {l : Launch} {e : Env} {s : State} {m : MethodId} {args : Array Value} {below : List Frame} {meth : Method} {c : Code} (C : Cx E RX11 cX11_holds 2 p s m c) (hr : meth.sig.returnType = (some .boolean)) (hk : meth.locks = false) {S : Sh} {R : Rw} {I : Iw} {r : Int32}  : ∀ (x0 : Int32) (x1 : Int32), f_X11_holds S R I   x0 x1 = some r → Wk E 2 p l e ({ frames := 0, cells := 0, slots := 0, locals := 0 } : Room) s m args below meth c 0 0 (MQ below (Qw E S R I (some (.int r))) args s 0 0 (fun q => E.1 ≤ q)) 0 [(0, .int x0), (1, .int x1)] [] S R I := by
  intro x0 x1 h
  rw [f_X11_holds] at h
  refine k_iloadn (pc := 0) C dX11_holds_0 (i := 1) rfl 1 rfl ?_
  refine k_if_lt (pc := 1) C dX11_holds_1 (tgt := 23) (by decide) (fun hc1 => ?_) (fun hc1 => ?_)
  · rw [if_pos hc1] at h
    refine k_iconst (pc := 23) C (v := (0 : Int32)) dX11_holds_23 (by decide) ?_
    cases h
    exact k_zret (pc := 24) C hr hk (Or.inl rfl) dX11_holds_24
  · rw [if_neg hc1] at h
    refine k_iloadn (pc := 4) C dX11_holds_4 (i := 1) rfl 1 rfl ?_
    refine k_bipush (pc := 5) C (v := (9 : Int32)) dX11_holds_5 (by decide) ?_
    refine k_icmp_gt (pc := 7) C dX11_holds_7 (tgt := 23) (by decide) (fun hc2 => ?_) (fun hc2 => ?_)
    · rw [if_pos hc2] at h
      refine k_iconst (pc := 23) C (v := (0 : Int32)) dX11_holds_23 (by decide) ?_
      cases h
      exact k_zret (pc := 24) C hr hk (Or.inl rfl) dX11_holds_24
    · rw [if_neg hc2] at h
      refine k_iloadn (pc := 10) C dX11_holds_10 (i := 0) rfl 0 rfl ?_
      refine k_iloadn (pc := 11) C dX11_holds_11 (i := 1) rfl 1 rfl ?_
      refine k_ishr (pc := 12) C dX11_holds_12 ?_
      refine k_iconst (pc := 13) C (v := (1 : Int32)) dX11_holds_13 (by decide) ?_
      refine k_iand (pc := 14) C dX11_holds_14 ?_
      refine k_iconst (pc := 15) C (v := (1 : Int32)) dX11_holds_15 (by decide) ?_
      refine k_icmp_ne (pc := 16) C dX11_holds_16 (tgt := 23) (by decide) (fun hc3 => ?_) (fun hc3 => ?_)
      · rw [if_neg hc3] at h
        refine k_iconst (pc := 23) C (v := (0 : Int32)) dX11_holds_23 (by decide) ?_
        cases h
        exact k_zret (pc := 24) C hr hk (Or.inl rfl) dX11_holds_24
      · rw [if_pos hc3] at h
        refine k_iconst (pc := 19) C (v := (1 : Int32)) dX11_holds_19 (by decide) ?_
        refine k_goto (pc := 20) C dX11_holds_20 (tgt := 24) (by decide) ?_
        cases h
        exact k_zret (pc := 24) C hr hk (Or.inr rfl) dX11_holds_24
theorem c_X11_holds {E : Ev} {l : Launch} {S : Sh} {R : Rw} {I : Iw} {x0 : Int32} {x1 : Int32} {r : Int32} (h : f_X11_holds S R I x0 x1 = some r) : Mt E l yX11_holds cX11_holds 2 (some .boolean) 0 0 [.int x0, .int x1] S R I S R I (some (.int r)) 0 0 := mt_of (by decide) (Nat.le_of_ble_eq_true rfl) (fun p e s m args below meth c C hr hk hn => b_X11_holds C hr hk _ _ h)
theorem lkSN_RX7_85 : LkSN RX7 85 yX11_holds "UnlikeNeighbours" cX11_holds 2 (some .boolean) 2 := ⟨l2_in 112 (by decide +kernel), (t2_in 113 (by decide +kernel) rfl), (t2_in 114 (by decide +kernel) rfl), (t1_in 1 (by decide +kernel) rfl), by decide, by decide +kernel⟩
theorem dX7_topsOf_0 : decode cX7_topsOf 0 = .ok (.iconst 0, 1) := by decide +kernel
theorem dX7_topsOf_1 : decode cX7_topsOf 1 = .ok (.istore_n 2, 1) := by decide +kernel
theorem dX7_topsOf_2 : decode cX7_topsOf 2 = .ok (.iconst 0, 1) := by decide +kernel
theorem dX7_topsOf_3 : decode cX7_topsOf 3 = .ok (.istore_n 3, 1) := by decide +kernel
theorem dX7_topsOf_4 : decode cX7_topsOf 4 = .ok (.aload_n 0, 1) := by decide +kernel
theorem dX7_topsOf_5 : decode cX7_topsOf 5 = .ok (.getfield 50, 3) := by decide +kernel
theorem dX7_topsOf_8 : decode cX7_topsOf 8 = .ok (.iconst 1, 1) := by decide +kernel
theorem dX7_topsOf_9 : decode cX7_topsOf 9 = .ok (.isub, 1) := by decide +kernel
theorem dX7_topsOf_10 : decode cX7_topsOf 10 = .ok (.istore 4, 2) := by decide +kernel
theorem dX7_topsOf_12 : decode cX7_topsOf 12 = .ok (.iload 4, 2) := by decide +kernel
theorem dX7_topsOf_14 : decode cX7_topsOf 14 = .ok (.ifCond .lt 51, 3) := by decide +kernel
theorem dX7_topsOf_17 : decode cX7_topsOf 17 = .ok (.iload_n 1, 1) := by decide +kernel
theorem dX7_topsOf_18 : decode cX7_topsOf 18 = .ok (.iload 4, 2) := by decide +kernel
theorem dX7_topsOf_20 : decode cX7_topsOf 20 = .ok (.invokestatic 85, 3) := by decide +kernel
theorem dX7_topsOf_23 : decode cX7_topsOf 23 = .ok (.ifCond .eq 36, 3) := by decide +kernel
theorem dX7_topsOf_26 : decode cX7_topsOf 26 = .ok (.iload_n 3, 1) := by decide +kernel
theorem dX7_topsOf_27 : decode cX7_topsOf 27 = .ok (.aload_n 0, 1) := by decide +kernel
theorem dX7_topsOf_28 : decode cX7_topsOf 28 = .ok (.getfield 15, 3) := by decide +kernel
theorem dX7_topsOf_31 : decode cX7_topsOf 31 = .ok (.iload 4, 2) := by decide +kernel
theorem dX7_topsOf_33 : decode cX7_topsOf 33 = .ok (.iaload, 1) := by decide +kernel
theorem dX7_topsOf_34 : decode cX7_topsOf 34 = .ok (.invokestatic 85, 3) := by decide +kernel
theorem dX7_topsOf_37 : decode cX7_topsOf 37 = .ok (.ifCond .ne 22, 3) := by decide +kernel
theorem dX7_topsOf_40 : decode cX7_topsOf 40 = .ok (.iload_n 2, 1) := by decide +kernel
theorem dX7_topsOf_41 : decode cX7_topsOf 41 = .ok (.iconst 1, 1) := by decide +kernel
theorem dX7_topsOf_42 : decode cX7_topsOf 42 = .ok (.iload 4, 2) := by decide +kernel
theorem dX7_topsOf_44 : decode cX7_topsOf 44 = .ok (.ishl, 1) := by decide +kernel
theorem dX7_topsOf_45 : decode cX7_topsOf 45 = .ok (.ior, 1) := by decide +kernel
theorem dX7_topsOf_46 : decode cX7_topsOf 46 = .ok (.istore_n 2, 1) := by decide +kernel
theorem dX7_topsOf_47 : decode cX7_topsOf 47 = .ok (.iload_n 3, 1) := by decide +kernel
theorem dX7_topsOf_48 : decode cX7_topsOf 48 = .ok (.iconst 1, 1) := by decide +kernel
theorem dX7_topsOf_49 : decode cX7_topsOf 49 = .ok (.aload_n 0, 1) := by decide +kernel
theorem dX7_topsOf_50 : decode cX7_topsOf 50 = .ok (.getfield 15, 3) := by decide +kernel
theorem dX7_topsOf_53 : decode cX7_topsOf 53 = .ok (.iload 4, 2) := by decide +kernel
theorem dX7_topsOf_55 : decode cX7_topsOf 55 = .ok (.iaload, 1) := by decide +kernel
theorem dX7_topsOf_56 : decode cX7_topsOf 56 = .ok (.ishl, 1) := by decide +kernel
theorem dX7_topsOf_57 : decode cX7_topsOf 57 = .ok (.ior, 1) := by decide +kernel
theorem dX7_topsOf_58 : decode cX7_topsOf 58 = .ok (.istore_n 3, 1) := by decide +kernel
theorem dX7_topsOf_59 : decode cX7_topsOf 59 = .ok (.iinc 4 (-1), 3) := by decide +kernel
theorem dX7_topsOf_62 : decode cX7_topsOf 62 = .ok (.goto (-50), 3) := by decide +kernel
theorem dX7_topsOf_65 : decode cX7_topsOf 65 = .ok (.iload_n 2, 1) := by decide +kernel
theorem dX7_topsOf_66 : decode cX7_topsOf 66 = .ok (.ireturn, 1) := by decide +kernel
def f_X7_topsOf_59 (S : Sh) (R : Rw) (I : Iw) (ko12 : Nat → Int32 → Int32 → Int32 → Int32 → Option (Int32)) (a0 : Nat) (x1 : Int32) (x2 : Int32) (x3 : Int32) (x4 : Int32) : Option (Int32) := ko12 a0 x1 x2 x3 (x4 + (-1 : Int32))
set_option maxHeartbeats 4000000 in
theorem b_X7_topsOf_59 {E : Ev} {p : Program} {l : Launch} {e : Env} {s : State} {m : MethodId} {args : Array Value} {below : List Frame} {meth : Method} {c : Code} (C : Cx E RX7 cX7_topsOf 5 p s m c) (hr : meth.sig.returnType = (some .int)) (hk : meth.locks = false) {S : Sh} {R : Rw} {I : Iw} {r : Int32}  {ko12 : Nat → Int32 → Int32 → Int32 → Int32 → Option (Int32)} (hko12 : ∀ (a0 : Nat) (x1 : Int32) (x2 : Int32) (x3 : Int32) (x4 : Int32), ko12 a0 x1 x2 x3 x4 = some r → Wk E 5 p l e ({ frames := 1, cells := 0, slots := 0, locals := 21 } : Room) s m args below meth c 0 0 (MQ below (Qw E S R I (some (.int r))) args s 0 0 (fun q => E.1 ≤ q)) 12 [(0, .ref (E.1 + a0)), (1, .int x1), (2, .int x2), (3, .int x3), (4, .int x4)] [] S R I) : ∀ (a0 : Nat) (x1 : Int32) (x2 : Int32) (x3 : Int32) (x4 : Int32), f_X7_topsOf_59 S R I ko12  a0 x1 x2 x3 x4 = some r → Wk E 5 p l e ({ frames := 1, cells := 0, slots := 0, locals := 21 } : Room) s m args below meth c 0 0 (MQ below (Qw E S R I (some (.int r))) args s 0 0 (fun q => E.1 ≤ q)) 59 [(0, .ref (E.1 + a0)), (1, .int x1), (2, .int x2), (3, .int x3), (4, .int x4)] [] S R I := by
  intro a0 x1 x2 x3 x4 h
  rw [f_X7_topsOf_59] at h
  refine k_iinc (pc := 59) C dX7_topsOf_59 4 rfl (v := x4 + (-1 : Int32)) (by rfl) (by decide) (L2 := [(0, .ref (E.1 + a0)), (1, .int x1), (2, .int x2), (3, .int x3), (4, .int (x4 + (-1 : Int32)))]) rfl ?_
  refine k_goto (pc := 62) C dX7_topsOf_62 (tgt := 12) (by decide) ?_
  exact hko12 _ _ _ _ _ h
def f_X7_topsOf_12 (S : Sh) (R : Rw) (I : Iw)  : Nat → Nat → Int32 → Int32 → Int32 → Int32 → Option (Int32)
  | 0, _, _, _, _, _ => none
  | n + 1, a0, x1, x2, x3, x4 => (if x4 < 0 then some x2 else bd (f_X11_holds S R I x1 x4) (fun r3 => (if r3 = 0 then f_X7_topsOf_59 S R I (f_X7_topsOf_12 S R I  n) a0 x1 x2 x3 x4 else gp (sok S a0 7 16) (rl (R a0 1) (fun b6 => gp (aok S 20 b6 x4) (bd (f_X11_holds S R I x3 (I b6 x4.toNatClampNeg)) (fun r8 => (if r8 = 0 then rl (R a0 1) (fun b10 => gp (aok S 20 b10 x4) (f_X7_topsOf_59 S R I (f_X7_topsOf_12 S R I  n) a0 x1 (x2 ||| ((1 : Int32) <<< (x4 &&& 31))) (x3 ||| ((1 : Int32) <<< ((I b10 x4.toNatClampNeg) &&& 31))) x4)) else f_X7_topsOf_59 S R I (f_X7_topsOf_12 S R I  n) a0 x1 x2 x3 x4))))))))
set_option maxHeartbeats 4000000 in
theorem b_X7_topsOf_12 {E : Ev} {p : Program} {l : Launch} {e : Env} {s : State} {m : MethodId} {args : Array Value} {below : List Frame} {meth : Method} {c : Code} (C : Cx E RX7 cX7_topsOf 5 p s m c) (hr : meth.sig.returnType = (some .int)) (hk : meth.locks = false) {S : Sh} {R : Rw} {I : Iw} {r : Int32}  : ∀ (n : Nat) (a0 : Nat) (x1 : Int32) (x2 : Int32) (x3 : Int32) (x4 : Int32), f_X7_topsOf_12 S R I  n a0 x1 x2 x3 x4 = some r → Wk E 5 p l e ({ frames := 1, cells := 0, slots := 0, locals := 21 } : Room) s m args below meth c 0 0 (MQ below (Qw E S R I (some (.int r))) args s 0 0 (fun q => E.1 ≤ q)) 12 [(0, .ref (E.1 + a0)), (1, .int x1), (2, .int x2), (3, .int x3), (4, .int x4)] [] S R I := by
  intro n
  induction n with
  | zero =>
    intro a0 x1 x2 x3 x4 h
    rw [f_X7_topsOf_12] at h
    cases h
  | succ n ih =>
    intro a0 x1 x2 x3 x4 h
    rw [f_X7_topsOf_12] at h
    refine k_iload (pc := 12) C dX7_topsOf_12 4 rfl ?_
    refine k_if_lt (pc := 14) C dX7_topsOf_14 (tgt := 65) (by decide) (fun hc2 => ?_) (fun hc2 => ?_)
    · rw [if_pos hc2] at h
      refine k_iloadn (pc := 65) C dX7_topsOf_65 (i := 2) rfl 2 rfl ?_
      cases h
      exact k_iret (pc := 66) C hr hk dX7_topsOf_66
    · rw [if_neg hc2] at h
      refine k_iloadn (pc := 17) C dX7_topsOf_17 (i := 1) rfl 1 rfl ?_
      refine k_iload (pc := 18) C dX7_topsOf_18 4 rfl ?_
      obtain ⟨r3, hr3, h⟩ := bd_e h
      refine k_SN (pc := 20) (st := []) C (c_X11_holds hr3) lkSN_RX7_85 rfl rfl (Nat.le_of_ble_eq_true rfl) (Nat.le_of_ble_eq_true rfl) (Nat.le_of_ble_eq_true rfl) (Nat.le_of_ble_eq_true rfl) (Nat.le_of_ble_eq_true rfl) dX7_topsOf_20 ?_
      refine k_nf (cells2 := 0) (slots2 := 0) (st2 := [.int r3]) rfl rfl rfl ?_
      refine k_if_eq (pc := 23) C dX7_topsOf_23 (tgt := 59) (by decide) (fun hc4 => ?_) (fun hc4 => ?_)
      · rw [if_pos hc4] at h
        exact b_X7_topsOf_59 C hr hk ih _ _ _ _ _ h
      · rw [if_neg hc4] at h
        refine k_iloadn (pc := 26) C dX7_topsOf_26 (i := 3) rfl 3 rfl ?_
        refine k_aloadn (pc := 27) C dX7_topsOf_27 (i := 0) rfl 0 rfl ?_
        obtain ⟨hs50, h⟩ := gp_e h
        have hs5 := sok_e hs50
        obtain ⟨b6, hb6, h⟩ := rl_e h
        refine k_getR (pc := 28) C lkF_RX7_15_7 hs5 ir_7_1 hb6 dX7_topsOf_28 ?_
        refine k_iload (pc := 31) C dX7_topsOf_31 4 rfl ?_
        obtain ⟨ha7, h⟩ := gp_e h
        refine k_iald (pc := 33) C ha7 dX7_topsOf_33 ?_
        obtain ⟨r8, hr8, h⟩ := bd_e h
        refine k_SN (pc := 34) (st := []) C (c_X11_holds hr8) lkSN_RX7_85 rfl rfl (Nat.le_of_ble_eq_true rfl) (Nat.le_of_ble_eq_true rfl) (Nat.le_of_ble_eq_true rfl) (Nat.le_of_ble_eq_true rfl) (Nat.le_of_ble_eq_true rfl) dX7_topsOf_34 ?_
        refine k_nf (cells2 := 0) (slots2 := 0) (st2 := [.int r8]) rfl rfl rfl ?_
        refine k_if_ne (pc := 37) C dX7_topsOf_37 (tgt := 59) (by decide) (fun hc9 => ?_) (fun hc9 => ?_)
        · rw [if_neg hc9] at h
          exact b_X7_topsOf_59 C hr hk ih _ _ _ _ _ h
        · rw [if_pos hc9] at h
          refine k_iloadn (pc := 40) C dX7_topsOf_40 (i := 2) rfl 2 rfl ?_
          refine k_iconst (pc := 41) C (v := (1 : Int32)) dX7_topsOf_41 (by decide) ?_
          refine k_iload (pc := 42) C dX7_topsOf_42 4 rfl ?_
          refine k_ishl (pc := 44) C dX7_topsOf_44 ?_
          refine k_ior (pc := 45) C dX7_topsOf_45 ?_
          refine k_istoren (pc := 46) C dX7_topsOf_46 (i := 2) rfl (by decide) (L2 := [(0, .ref (E.1 + a0)), (1, .int x1), (2, .int (x2 ||| ((1 : Int32) <<< (x4 &&& 31)))), (3, .int x3), (4, .int x4)]) rfl ?_
          refine k_iloadn (pc := 47) C dX7_topsOf_47 (i := 3) rfl 3 rfl ?_
          refine k_iconst (pc := 48) C (v := (1 : Int32)) dX7_topsOf_48 (by decide) ?_
          refine k_aloadn (pc := 49) C dX7_topsOf_49 (i := 0) rfl 0 rfl ?_
          obtain ⟨b10, hb10, h⟩ := rl_e h
          refine k_getR (pc := 50) C lkF_RX7_15_7 hs5 ir_7_1 hb10 dX7_topsOf_50 ?_
          refine k_iload (pc := 53) C dX7_topsOf_53 4 rfl ?_
          obtain ⟨ha11, h⟩ := gp_e h
          refine k_iald (pc := 55) C ha11 dX7_topsOf_55 ?_
          refine k_ishl (pc := 56) C dX7_topsOf_56 ?_
          refine k_ior (pc := 57) C dX7_topsOf_57 ?_
          refine k_istoren (pc := 58) C dX7_topsOf_58 (i := 3) rfl (by decide) (L2 := [(0, .ref (E.1 + a0)), (1, .int x1), (2, .int (x2 ||| ((1 : Int32) <<< (x4 &&& 31)))), (3, .int (x3 ||| ((1 : Int32) <<< ((I b10 x4.toNatClampNeg) &&& 31)))), (4, .int x4)]) rfl ?_
          exact b_X7_topsOf_59 C hr hk ih _ _ _ _ _ h
def f_X7_topsOf (S : Sh) (R : Rw) (I : Iw)  (a0 : Nat) (x1 : Int32) : Option (Int32) := gp (sok S a0 7 16) (f_X7_topsOf_12 S R I  512 a0 x1 (0 : Int32) (0 : Int32) ((I a0 5) - (1 : Int32)))
set_option maxHeartbeats 4000000 in
theorem b_X7_topsOf {E : Ev} {p : Program} {l : Launch} {e : Env} {s : State} {m : MethodId} {args : Array Value} {below : List Frame} {meth : Method} {c : Code} (C : Cx E RX7 cX7_topsOf 5 p s m c) (hr : meth.sig.returnType = (some .int)) (hk : meth.locks = false) {S : Sh} {R : Rw} {I : Iw} {r : Int32}  : ∀ (a0 : Nat) (x1 : Int32), f_X7_topsOf S R I   a0 x1 = some r → Wk E 5 p l e ({ frames := 1, cells := 0, slots := 0, locals := 21 } : Room) s m args below meth c 0 0 (MQ below (Qw E S R I (some (.int r))) args s 0 0 (fun q => E.1 ≤ q)) 0 [(0, .ref (E.1 + a0)), (1, .int x1)] [] S R I := by
  intro a0 x1 h
  rw [f_X7_topsOf] at h
  refine k_iconst (pc := 0) C (v := (0 : Int32)) dX7_topsOf_0 (by decide) ?_
  refine k_istoren (pc := 1) C dX7_topsOf_1 (i := 2) rfl (by decide) (L2 := [(0, .ref (E.1 + a0)), (1, .int x1), (2, .int (0 : Int32))]) rfl ?_
  refine k_iconst (pc := 2) C (v := (0 : Int32)) dX7_topsOf_2 (by decide) ?_
  refine k_istoren (pc := 3) C dX7_topsOf_3 (i := 3) rfl (by decide) (L2 := [(0, .ref (E.1 + a0)), (1, .int x1), (2, .int (0 : Int32)), (3, .int (0 : Int32))]) rfl ?_
  refine k_aloadn (pc := 4) C dX7_topsOf_4 (i := 0) rfl 0 rfl ?_
  obtain ⟨hs10, h⟩ := gp_e h
  have hs1 := sok_e hs10
  refine k_getI (pc := 5) C lkF_RX7_50_7 hs1 ir_7_5 dX7_topsOf_5 ?_
  refine k_iconst (pc := 8) C (v := (1 : Int32)) dX7_topsOf_8 (by decide) ?_
  refine k_isub (pc := 9) C dX7_topsOf_9 ?_
  refine k_istore (pc := 10) C dX7_topsOf_10 (by decide) (L2 := [(0, .ref (E.1 + a0)), (1, .int x1), (2, .int (0 : Int32)), (3, .int (0 : Int32)), (4, .int ((I a0 5) - (1 : Int32)))]) rfl ?_
  exact b_X7_topsOf_12 C hr hk  _ _ _ _ _ _ h
theorem c_X7_topsOf {E : Ev} {l : Launch} {S : Sh} {R : Rw} {I : Iw} {a0 : Nat} {x1 : Int32} {r : Int32} (h : f_X7_topsOf S R I a0 x1 = some r) : Mt E l yX7_topsOf cX7_topsOf 5 (some .int) 1 21 [.ref (E.1 + a0), .int x1] S R I S R I (some (.int r)) 0 0 := mt_of (by decide) (Nat.le_of_ble_eq_true rfl) (fun p e s m args below meth c C hr hk hn => b_X7_topsOf C hr hk _ _ h)
