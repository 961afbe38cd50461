/-! X2_waysBehind, X11_isOrIsUnder, X5_valueOf, X5_compared, X5_isSo, X5_changeFor -/
theorem dX2_waysBehind_0 : decode cX2_waysBehind 0 = .ok (.aload_n 0, 1) := by decide +kernel
theorem dX2_waysBehind_1 : decode cX2_waysBehind 1 = .ok (.getfield 15, 3) := by decide +kernel
theorem dX2_waysBehind_4 : decode cX2_waysBehind 4 = .ok (.iload_n 1, 1) := by decide +kernel
theorem dX2_waysBehind_5 : decode cX2_waysBehind 5 = .ok (.iload_n 2, 1) := by decide +kernel
theorem dX2_waysBehind_6 : decode cX2_waysBehind 6 = .ok (.invokestatic 74, 3) := by decide +kernel
theorem dX2_waysBehind_9 : decode cX2_waysBehind 9 = .ok (.iaload, 1) := by decide +kernel
theorem dX2_waysBehind_10 : decode cX2_waysBehind 10 = .ok (.ireturn, 1) := by decide +kernel
def f_X2_waysBehind (S : Sh) (R : Rw) (I : Iw)  (a0 : Nat) (x1 : Int32) (x2 : Int32) : Option (Int32) := gp (sok S a0 2 11) (rl (R a0 3) (fun b2 => bd (f_X2_stateOf S R I x1 x2) (fun r3 => gp (aok S 20 b2 r3) (some (I b2 r3.toNatClampNeg)))))
set_option maxHeartbeats 4000000 in
theorem b_X2_waysBehind {E : Ev} {p : Program} {l : Launch} {e : Env} {s : State} {m : MethodId} {args : Array Value} {below : List Frame} {meth : Method} {c : Code} (C : Cx E RX2 cX2_waysBehind 3 p s m c) (hr : meth.sig.returnType = (some .int)) (hk : meth.locks = false) {S : Sh} {R : Rw} {I : Iw} {r : Int32}  : ∀ (a0 : Nat) (x1 : Int32) (x2 : Int32), f_X2_waysBehind S R I   a0 x1 x2 = some r → Wk E 3 p l e ({ frames := 2, cells := 0, slots := 0, locals := 44 } : Room) s m args below meth c 0 0 (MQ below (Qw E S R I (some (.int r))) args s 0 0 (fun q => E.1 ≤ q)) 0 [(0, .ref (E.1 + a0)), (1, .int x1), (2, .int x2)] [] S R I := by
  intro a0 x1 x2 h
  rw [f_X2_waysBehind] at h
  refine k_aloadn (pc := 0) C dX2_waysBehind_0 (i := 0) rfl 0 rfl ?_
  obtain ⟨hs10, h⟩ := gp_e h
  have hs1 := sok_e hs10
  obtain ⟨b2, hb2, h⟩ := rl_e h
  refine k_getR (pc := 1) C lkF_RX2_15_2 hs1 ir_2_3 hb2 dX2_waysBehind_1 ?_
  refine k_iloadn (pc := 4) C dX2_waysBehind_4 (i := 1) rfl 1 rfl ?_
  refine k_iloadn (pc := 5) C dX2_waysBehind_5 (i := 2) rfl 2 rfl ?_
  obtain ⟨r3, hr3, h⟩ := bd_e h
  refine k_S (pc := 6) (st := [.ref (E.1 + b2)]) C (c_X2_stateOf hr3) lkS_RX2_74 rfl rfl (Nat.le_of_ble_eq_true rfl) (Nat.le_of_ble_eq_true rfl) (Nat.le_of_ble_eq_true rfl) (Nat.le_of_ble_eq_true rfl) (Nat.le_of_ble_eq_true rfl) dX2_waysBehind_6 ?_
  refine k_nf (cells2 := 0) (slots2 := 0) (st2 := [.int r3, .ref (E.1 + b2)]) rfl rfl rfl ?_
  obtain ⟨ha4, h⟩ := gp_e h
  refine k_iald (pc := 9) C ha4 dX2_waysBehind_9 ?_
  have h := Option.some.inj h
  subst h
  exact k_iret (pc := 10) C hr hk dX2_waysBehind_10
theorem c_X2_waysBehind {E : Ev} {l : Launch} {S : Sh} {R : Rw} {I : Iw} {a0 : Nat} {x1 : Int32} {x2 : Int32} {r : Int32} (h : f_X2_waysBehind S R I a0 x1 x2 = some r) : Mt E l yX2_waysBehind cX2_waysBehind 3 (some .int) 2 44 [.ref (E.1 + a0), .int x1, .int x2] S R I S R I (some (.int r)) 0 0 := mt_of (by decide) (Nat.le_of_ble_eq_true rfl) (fun p e s m args below meth c C hr hk hn => b_X2_waysBehind C hr hk _ _ _ h)
theorem lkS_RX11_55 : LkS RX11 55 yX11_isBetween cX11_isBetween 3 (some .boolean) 3 := ⟨(t2_in 34 (by decide +kernel) rfl), (t2_in 35 (by decide +kernel) rfl), (t2_in 36 (by decide +kernel) rfl), (t1_in 1 (by decide +kernel) rfl), by decide, by decide +kernel⟩
theorem dX11_isOrIsUnder_0 : decode cX11_isOrIsUnder 0 = .ok (.iload_n 0, 1) := by decide +kernel
theorem dX11_isOrIsUnder_1 : decode cX11_isOrIsUnder 1 = .ok (.istore_n 2, 1) := by decide +kernel
theorem dX11_isOrIsUnder_2 : decode cX11_isOrIsUnder 2 = .ok (.iconst 0, 1) := by decide +kernel
theorem dX11_isOrIsUnder_3 : decode cX11_isOrIsUnder 3 = .ok (.istore_n 3, 1) := by decide +kernel
theorem dX11_isOrIsUnder_4 : decode cX11_isOrIsUnder 4 = .ok (.iload_n 3, 1) := by decide +kernel
theorem dX11_isOrIsUnder_5 : decode cX11_isOrIsUnder 5 = .ok (.getstatic 305, 3) := by decide +kernel
theorem dX11_isOrIsUnder_8 : decode cX11_isOrIsUnder 8 = .ok (.arraylength, 1) := by decide +kernel
theorem dX11_isOrIsUnder_9 : decode cX11_isOrIsUnder 9 = .ok (.if_icmp .ge 31, 3) := by decide +kernel
theorem dX11_isOrIsUnder_12 : decode cX11_isOrIsUnder 12 = .ok (.iload_n 2, 1) := by decide +kernel
theorem dX11_isOrIsUnder_13 : decode cX11_isOrIsUnder 13 = .ok (.iconst 0, 1) := by decide +kernel
theorem dX11_isOrIsUnder_14 : decode cX11_isOrIsUnder 14 = .ok (.iconst 5, 1) := by decide +kernel
theorem dX11_isOrIsUnder_15 : decode cX11_isOrIsUnder 15 = .ok (.invokestatic 55, 3) := by decide +kernel
theorem dX11_isOrIsUnder_18 : decode cX11_isOrIsUnder 18 = .ok (.ifCond .eq 22, 3) := by decide +kernel
theorem dX11_isOrIsUnder_21 : decode cX11_isOrIsUnder 21 = .ok (.iload_n 2, 1) := by decide +kernel
theorem dX11_isOrIsUnder_22 : decode cX11_isOrIsUnder 22 = .ok (.iload_n 1, 1) := by decide +kernel
theorem dX11_isOrIsUnder_23 : decode cX11_isOrIsUnder 23 = .ok (.if_icmp .ne 5, 3) := by decide +kernel
theorem dX11_isOrIsUnder_26 : decode cX11_isOrIsUnder 26 = .ok (.iconst 1, 1) := by decide +kernel
theorem dX11_isOrIsUnder_27 : decode cX11_isOrIsUnder 27 = .ok (.ireturn, 1) := by decide +kernel
theorem dX11_isOrIsUnder_28 : decode cX11_isOrIsUnder 28 = .ok (.getstatic 305, 3) := by decide +kernel
theorem dX11_isOrIsUnder_31 : decode cX11_isOrIsUnder 31 = .ok (.iload_n 2, 1) := by decide +kernel
theorem dX11_isOrIsUnder_32 : decode cX11_isOrIsUnder 32 = .ok (.iaload, 1) := by decide +kernel
theorem dX11_isOrIsUnder_33 : decode cX11_isOrIsUnder 33 = .ok (.istore_n 2, 1) := by decide +kernel
theorem dX11_isOrIsUnder_34 : decode cX11_isOrIsUnder 34 = .ok (.iinc 3 1, 3) := by decide +kernel
theorem dX11_isOrIsUnder_37 : decode cX11_isOrIsUnder 37 = .ok (.goto (-33), 3) := by decide +kernel
theorem dX11_isOrIsUnder_40 : decode cX11_isOrIsUnder 40 = .ok (.iconst 0, 1) := by decide +kernel
theorem dX11_isOrIsUnder_41 : decode cX11_isOrIsUnder 41 = .ok (.ireturn, 1) := by decide +kernel
def f_X11_isOrIsUnder_4 (S : Sh) (R : Rw) (I : Iw)  : Nat → Int32 → Int32 → Int32 → Option (Int32)
  | 0, _, _, _ => none
  | n + 1, x1, x2, x3 => (if (6 : Int32) ≤ x3 then some (0 : Int32) else bd (f_X11_isBetween S R I x2 (0 : Int32) (5 : Int32)) (fun r2 => (if r2 = 0 then some (0 : Int32) else (if x2 = x1 then some (1 : Int32) else gp (kok x2) (f_X11_isOrIsUnder_4 S R I  n x1 (kaF x2.toNatClampNeg) (x3 + (1 : Int32)))))))
set_option maxHeartbeats 4000000 in
theorem b_X11_isOrIsUnder_4 {E : Ev} {p : Program} {l : Launch} {e : Env} {s : State} {m : MethodId} {args : Array Value} {below : List Frame} {meth : Method} {c : Code} (C : Cx E RX11 cX11_isOrIsUnder 4 p s m c) (hr : meth.sig.returnType = (some .boolean)) (hk : meth.locks = false) {S : Sh} {R : Rw} {I : Iw} {r : Int32}  : ∀ (n : Nat) (x1 : Int32) (x2 : Int32) (x3 : Int32), f_X11_isOrIsUnder_4 S R I  n x1 x2 x3 = some r → Wk E 4 p l e ({ frames := 1, cells := 0, slots := 0, locals := 22 } : Room) s m args below meth c 0 0 (MQ below (Qw E S R I (some (.int r))) args s 0 0 (fun q => E.1 ≤ q)) 4 [(1, .int x1), (2, .int x2), (3, .int x3)] [] S R I := by
  intro n
  induction n with
  | zero =>
    intro x1 x2 x3 h
    rw [f_X11_isOrIsUnder_4] at h
    cases h
  | succ n ih =>
    intro x1 x2 x3 h
    rw [f_X11_isOrIsUnder_4] at h
    refine k_iloadn (pc := 4) C dX11_isOrIsUnder_4 (i := 3) rfl 2 rfl ?_
    refine k_gets (pc := 5) C (t2_in 80 (by decide +kernel) rfl) dX11_isOrIsUnder_5 ?_
    refine k_kalen (pc := 8) C dX11_isOrIsUnder_8 ?_
    refine k_icmp_ge (pc := 9) C dX11_isOrIsUnder_9 (tgt := 40) (by decide) (fun hc1 => ?_) (fun hc1 => ?_)
    · rw [if_pos hc1] at h
      refine k_iconst (pc := 40) C (v := (0 : Int32)) dX11_isOrIsUnder_40 (by decide) ?_
      have h := Option.some.inj h
      subst h
      exact k_zret (pc := 41) C hr hk (Or.inl rfl) dX11_isOrIsUnder_41
    · rw [if_neg hc1] at h
      refine k_iloadn (pc := 12) C dX11_isOrIsUnder_12 (i := 2) rfl 1 rfl ?_
      refine k_iconst (pc := 13) C (v := (0 : Int32)) dX11_isOrIsUnder_13 (by decide) ?_
      refine k_iconst (pc := 14) C (v := (5 : Int32)) dX11_isOrIsUnder_14 (by decide) ?_
      obtain ⟨r2, hr2, h⟩ := bd_e h
      refine k_S (pc := 15) (st := []) C (c_X11_isBetween hr2) lkS_RX11_55 rfl rfl (Nat.le_of_ble_eq_true rfl) (Nat.le_of_ble_eq_true rfl) (Nat.le_of_ble_eq_true rfl) (Nat.le_of_ble_eq_true rfl) (Nat.le_of_ble_eq_true rfl) dX11_isOrIsUnder_15 ?_
      refine k_nf (cells2 := 0) (slots2 := 0) (st2 := [.int r2]) rfl rfl rfl ?_
      refine k_if_eq (pc := 18) C dX11_isOrIsUnder_18 (tgt := 40) (by decide) (fun hc3 => ?_) (fun hc3 => ?_)
      · rw [if_pos hc3] at h
        refine k_iconst (pc := 40) C (v := (0 : Int32)) dX11_isOrIsUnder_40 (by decide) ?_
        have h := Option.some.inj h
        subst h
        exact k_zret (pc := 41) C hr hk (Or.inl rfl) dX11_isOrIsUnder_41
      · rw [if_neg hc3] at h
        refine k_iloadn (pc := 21) C dX11_isOrIsUnder_21 (i := 2) rfl 1 rfl ?_
        refine k_iloadn (pc := 22) C dX11_isOrIsUnder_22 (i := 1) rfl 0 rfl ?_
        refine k_icmp_ne (pc := 23) C dX11_isOrIsUnder_23 (tgt := 28) (by decide) (fun hc4 => ?_) (fun hc4 => ?_)
        · rw [if_neg hc4] at h
          refine k_gets (pc := 28) C (t2_in 80 (by decide +kernel) rfl) dX11_isOrIsUnder_28 ?_
          refine k_iloadn (pc := 31) C dX11_isOrIsUnder_31 (i := 2) rfl 1 rfl ?_
          obtain ⟨ha5, h⟩ := gp_e h
          refine k_kald (pc := 32) C ha5 dX11_isOrIsUnder_32 ?_
          refine k_istoren (pc := 33) C dX11_isOrIsUnder_33 (i := 2) rfl (by decide) (L2 := [(1, .int x1), (2, .int (kaF x2.toNatClampNeg)), (3, .int x3)]) rfl ?_
          refine k_iinc (pc := 34) C dX11_isOrIsUnder_34 2 rfl (v := x3 + (1 : Int32)) (by rfl) (by decide) (L2 := [(1, .int x1), (2, .int (kaF x2.toNatClampNeg)), (3, .int (x3 + (1 : Int32)))]) rfl ?_
          refine k_goto (pc := 37) C dX11_isOrIsUnder_37 (tgt := 4) (by decide) ?_
          exact ih _ _ _ h
        · rw [if_pos hc4] at h
          refine k_iconst (pc := 26) C (v := (1 : Int32)) dX11_isOrIsUnder_26 (by decide) ?_
          have h := Option.some.inj h
          subst h
          exact k_zret (pc := 27) C hr hk (Or.inr rfl) dX11_isOrIsUnder_27
def f_X11_isOrIsUnder (S : Sh) (R : Rw) (I : Iw)  (x0 : Int32) (x1 : Int32) : Option (Int32) := f_X11_isOrIsUnder_4 S R I  512 x1 x0 (0 : Int32)
set_option maxHeartbeats 4000000 in
theorem b_X11_isOrIsUnder {E : Ev} {p : Program} {l : Launch} {e : Env} {s : State} {m : MethodId} {args : Array Value} {below : List Frame} {meth : Method} {c : Code} (C : Cx E RX11 cX11_isOrIsUnder 4 p s m c) (hr : meth.sig.returnType = (some .boolean)) (hk : meth.locks = false) {S : Sh} {R : Rw} {I : Iw} {r : Int32}  : ∀ (x0 : Int32) (x1 : Int32), f_X11_isOrIsUnder S R I   x0 x1 = some r → Wk E 4 p l e ({ frames := 1, cells := 0, slots := 0, locals := 22 } : Room) s m args below meth c 0 0 (MQ below (Qw E S R I (some (.int r))) args s 0 0 (fun q => E.1 ≤ q)) 0 [(0, .int x0), (1, .int x1)] [] S R I := by
  intro x0 x1 h
  rw [f_X11_isOrIsUnder] at h
  refine k_iloadn (pc := 0) C dX11_isOrIsUnder_0 (i := 0) rfl 0 rfl ?_
  refine k_istoren (pc := 1) C dX11_isOrIsUnder_1 (i := 2) rfl (by decide) (L2 := [(0, .int x0), (1, .int x1), (2, .int x0)]) rfl ?_
  refine k_iconst (pc := 2) C (v := (0 : Int32)) dX11_isOrIsUnder_2 (by decide) ?_
  refine k_istoren (pc := 3) C dX11_isOrIsUnder_3 (i := 3) rfl (by decide) (L2 := [(0, .int x0), (1, .int x1), (2, .int x0), (3, .int (0 : Int32))]) rfl ?_
  refine k_loc (L2 := [(1, .int x1), (2, .int x0), (3, .int (0 : Int32))]) [1, 2, 3] rfl ?_
  exact b_X11_isOrIsUnder_4 C hr hk  _ _ _ _ h
theorem c_X11_isOrIsUnder {E : Ev} {l : Launch} {S : Sh} {R : Rw} {I : Iw} {x0 : Int32} {x1 : Int32} {r : Int32} (h : f_X11_isOrIsUnder S R I x0 x1 = some r) : Mt E l yX11_isOrIsUnder cX11_isOrIsUnder 4 (some .boolean) 1 22 [.int x0, .int x1] S R I S R I (some (.int r)) 0 0 := mt_of (by decide) (Nat.le_of_ble_eq_true rfl) (fun p e s m args below meth c C hr hk hn => b_X11_isOrIsUnder C hr hk _ _ h)
theorem lkF_RX5_55_7 : LkF RX5 55 7 9 := ⟨RX7, TX7, 16, "UnlikeNeighbours$Shed", fc7, by decide, (t1_in 93 (by decide +kernel) rfl), Or.inl rfl⟩
theorem lkF_RX5_58_7 : LkF RX5 58 7 10 := ⟨RX7, TX7, 16, "UnlikeNeighbours$Shed", fc7, by decide, (t1_in 95 (by decide +kernel) rfl), Or.inl rfl⟩
theorem lkF_RX5_61_7 : LkF RX5 61 7 2 := ⟨RX7, TX7, 16, "UnlikeNeighbours$Shed", fc7, by decide, (t1_in 76 (by decide +kernel) rfl), Or.inl rfl⟩
theorem lkF_RX5_64_7 : LkF RX5 64 7 3 := ⟨RX7, TX7, 16, "UnlikeNeighbours$Shed", fc7, by decide, (t1_in 79 (by decide +kernel) rfl), Or.inl rfl⟩
theorem dX5_valueOf_0 : decode cX5_valueOf 0 = .ok (.iload_n 0, 1) := by decide +kernel
theorem dX5_valueOf_1 : decode cX5_valueOf 1 = .ok (.tableswitch 61 10013 10017 #[35, 40, 45, 52, 59], 35) := by decide +kernel
theorem dX5_valueOf_36 : decode cX5_valueOf 36 = .ok (.aload_n 1, 1) := by decide +kernel
theorem dX5_valueOf_37 : decode cX5_valueOf 37 = .ok (.getfield 55, 3) := by decide +kernel
theorem dX5_valueOf_40 : decode cX5_valueOf 40 = .ok (.ireturn, 1) := by decide +kernel
theorem dX5_valueOf_41 : decode cX5_valueOf 41 = .ok (.aload_n 1, 1) := by decide +kernel
theorem dX5_valueOf_42 : decode cX5_valueOf 42 = .ok (.getfield 58, 3) := by decide +kernel
theorem dX5_valueOf_45 : decode cX5_valueOf 45 = .ok (.ireturn, 1) := by decide +kernel
theorem dX5_valueOf_46 : decode cX5_valueOf 46 = .ok (.aload_n 1, 1) := by decide +kernel
theorem dX5_valueOf_47 : decode cX5_valueOf 47 = .ok (.getfield 61, 3) := by decide +kernel
theorem dX5_valueOf_50 : decode cX5_valueOf 50 = .ok (.iload_n 2, 1) := by decide +kernel
theorem dX5_valueOf_51 : decode cX5_valueOf 51 = .ok (.iaload, 1) := by decide +kernel
theorem dX5_valueOf_52 : decode cX5_valueOf 52 = .ok (.ireturn, 1) := by decide +kernel
theorem dX5_valueOf_53 : decode cX5_valueOf 53 = .ok (.aload_n 1, 1) := by decide +kernel
theorem dX5_valueOf_54 : decode cX5_valueOf 54 = .ok (.getfield 64, 3) := by decide +kernel
theorem dX5_valueOf_57 : decode cX5_valueOf 57 = .ok (.iload_n 2, 1) := by decide +kernel
theorem dX5_valueOf_58 : decode cX5_valueOf 58 = .ok (.iaload, 1) := by decide +kernel
theorem dX5_valueOf_59 : decode cX5_valueOf 59 = .ok (.ireturn, 1) := by decide +kernel
theorem dX5_valueOf_60 : decode cX5_valueOf 60 = .ok (.iload_n 2, 1) := by decide +kernel
theorem dX5_valueOf_61 : decode cX5_valueOf 61 = .ok (.ireturn, 1) := by decide +kernel
theorem dX5_valueOf_62 : decode cX5_valueOf 62 = .ok (.iload_n 0, 1) := by decide +kernel
theorem dX5_valueOf_63 : decode cX5_valueOf 63 = .ok (.ireturn, 1) := by decide +kernel
def f_X5_valueOf (S : Sh) (R : Rw) (I : Iw)  (x0 : Int32) (a1 : Nat) (x2 : Int32) : Option (Int32) := (if x0 = (10013 : Int32) then gp (sok S a1 7 16) (some (I a1 9)) else (if x0 = (10014 : Int32) then gp (sok S a1 7 16) (some (I a1 10)) else (if x0 = (10015 : Int32) then gp (sok S a1 7 16) (rl (R a1 2) (fun b4 => gp (aok S 20 b4 x2) (some (I b4 x2.toNatClampNeg)))) else (if x0 = (10016 : Int32) then gp (sok S a1 7 16) (rl (R a1 3) (fun b7 => gp (aok S 20 b7 x2) (some (I b7 x2.toNatClampNeg)))) else (if x0 = (10017 : Int32) then some x2 else some x0)))))
set_option maxHeartbeats 4000000 in
theorem b_X5_valueOf {E : Ev} {p : Program} {l : Launch} {e : Env} {s : State} {m : MethodId} {args : Array Value} {below : List Frame} {meth : Method} {c : Code} (C : Cx E RX5 cX5_valueOf 3 p s m c) (hr : meth.sig.returnType = (some .int)) (hk : meth.locks = false) {S : Sh} {R : Rw} {I : Iw} {r : Int32}  : ∀ (x0 : Int32) (a1 : Nat) (x2 : Int32), f_X5_valueOf S R I   x0 a1 x2 = some r → Wk E 3 p l e ({ frames := 0, cells := 0, slots := 0, locals := 0 } : Room) s m args below meth c 0 0 (MQ below (Qw E S R I (some (.int r))) args s 0 0 (fun q => E.1 ≤ q)) 0 [(0, .int x0), (1, .ref (E.1 + a1)), (2, .int x2)] [] S R I := by
  intro x0 a1 x2 h
  rw [f_X5_valueOf] at h
  refine k_iloadn (pc := 0) C dX5_valueOf_0 (i := 0) rfl 0 rfl ?_
  by_cases hc9 : x0 = (10013 : Int32)
  · rw [if_pos hc9] at h
    refine k_tabIn (pc := 1) C dX5_valueOf_1 (by rw [hc9]; decide) (by rw [hc9]; decide) (off := 35) (by rw [hc9]; rfl) (tgt := 36) (by decide) ?_
    refine k_aloadn (pc := 36) C dX5_valueOf_36 (i := 1) rfl 1 rfl ?_
    obtain ⟨hs10, h⟩ := gp_e h
    have hs1 := sok_e hs10
    refine k_getI (pc := 37) C lkF_RX5_55_7 hs1 ir_7_9 dX5_valueOf_37 ?_
    have h := Option.some.inj h
    subst h
    exact k_iret (pc := 40) C hr hk dX5_valueOf_40
  · rw [if_neg hc9] at h
    by_cases hc10 : x0 = (10014 : Int32)
    · rw [if_pos hc10] at h
      refine k_tabIn (pc := 1) C dX5_valueOf_1 (by rw [hc10]; decide) (by rw [hc10]; decide) (off := 40) (by rw [hc10]; rfl) (tgt := 41) (by decide) ?_
      refine k_aloadn (pc := 41) C dX5_valueOf_41 (i := 1) rfl 1 rfl ?_
      obtain ⟨hs20, h⟩ := gp_e h
      have hs2 := sok_e hs20
      refine k_getI (pc := 42) C lkF_RX5_58_7 hs2 ir_7_10 dX5_valueOf_42 ?_
      have h := Option.some.inj h
      subst h
      exact k_iret (pc := 45) C hr hk dX5_valueOf_45
    · rw [if_neg hc10] at h
      by_cases hc11 : x0 = (10015 : Int32)
      · rw [if_pos hc11] at h
        refine k_tabIn (pc := 1) C dX5_valueOf_1 (by rw [hc11]; decide) (by rw [hc11]; decide) (off := 45) (by rw [hc11]; rfl) (tgt := 46) (by decide) ?_
        refine k_aloadn (pc := 46) C dX5_valueOf_46 (i := 1) rfl 1 rfl ?_
        obtain ⟨hs30, h⟩ := gp_e h
        have hs3 := sok_e hs30
        obtain ⟨b4, hb4, h⟩ := rl_e h
        refine k_getR (pc := 47) C lkF_RX5_61_7 hs3 ir_7_2 hb4 dX5_valueOf_47 ?_
        refine k_iloadn (pc := 50) C dX5_valueOf_50 (i := 2) rfl 2 rfl ?_
        obtain ⟨ha5, h⟩ := gp_e h
        refine k_iald (pc := 51) C ha5 dX5_valueOf_51 ?_
        have h := Option.some.inj h
        subst h
        exact k_iret (pc := 52) C hr hk dX5_valueOf_52
      · rw [if_neg hc11] at h
        by_cases hc12 : x0 = (10016 : Int32)
        · rw [if_pos hc12] at h
          refine k_tabIn (pc := 1) C dX5_valueOf_1 (by rw [hc12]; decide) (by rw [hc12]; decide) (off := 52) (by rw [hc12]; rfl) (tgt := 53) (by decide) ?_
          refine k_aloadn (pc := 53) C dX5_valueOf_53 (i := 1) rfl 1 rfl ?_
          obtain ⟨hs60, h⟩ := gp_e h
          have hs6 := sok_e hs60
          obtain ⟨b7, hb7, h⟩ := rl_e h
          refine k_getR (pc := 54) C lkF_RX5_64_7 hs6 ir_7_3 hb7 dX5_valueOf_54 ?_
          refine k_iloadn (pc := 57) C dX5_valueOf_57 (i := 2) rfl 2 rfl ?_
          obtain ⟨ha8, h⟩ := gp_e h
          refine k_iald (pc := 58) C ha8 dX5_valueOf_58 ?_
          have h := Option.some.inj h
          subst h
          exact k_iret (pc := 59) C hr hk dX5_valueOf_59
        · rw [if_neg hc12] at h
          by_cases hc13 : x0 = (10017 : Int32)
          · rw [if_pos hc13] at h
            refine k_tabIn (pc := 1) C dX5_valueOf_1 (by rw [hc13]; decide) (by rw [hc13]; decide) (off := 59) (by rw [hc13]; rfl) (tgt := 60) (by decide) ?_
            refine k_iloadn (pc := 60) C dX5_valueOf_60 (i := 2) rfl 2 rfl ?_
            have h := Option.some.inj h
            subst h
            exact k_iret (pc := 61) C hr hk dX5_valueOf_61
          · rw [if_neg hc13] at h
            refine k_tabOut (pc := 1) C dX5_valueOf_1 (tab_out x0 10013 10017 (fun z h1 h2 hz => by
              have hz2 : z = 10013 ∨ z = 10014 ∨ z = 10015 ∨ z = 10016 ∨ z = 10017 := by omega
              rcases hz2 with rfl | rfl | rfl | rfl | rfl
              · exact hc9 (Int32.toInt_inj.mp (hz.trans (by decide)))
              · exact hc10 (Int32.toInt_inj.mp (hz.trans (by decide)))
              · exact hc11 (Int32.toInt_inj.mp (hz.trans (by decide)))
              · exact hc12 (Int32.toInt_inj.mp (hz.trans (by decide)))
              · exact hc13 (Int32.toInt_inj.mp (hz.trans (by decide)))
              ) ) (tgt := 62) (by decide) ?_
            refine k_iloadn (pc := 62) C dX5_valueOf_62 (i := 0) rfl 0 rfl ?_
            have h := Option.some.inj h
            subst h
            exact k_iret (pc := 63) C hr hk dX5_valueOf_63
theorem c_X5_valueOf {E : Ev} {l : Launch} {S : Sh} {R : Rw} {I : Iw} {x0 : Int32} {a1 : Nat} {x2 : Int32} {r : Int32} (h : f_X5_valueOf S R I x0 a1 x2 = some r) : Mt E l yX5_valueOf cX5_valueOf 3 (some .int) 0 0 [.int x0, .ref (E.1 + a1), .int x2] S R I S R I (some (.int r)) 0 0 := mt_of (by decide) (Nat.le_of_ble_eq_true rfl) (fun p e s m args below meth c C hr hk hn => b_X5_valueOf C hr hk _ _ _ h)
theorem lkF_RX5_24_5 : LkF RX5 24 5 6 := ⟨RX5, TX5, 8, "UnlikeNeighbours$Rules", fc5, by decide, (t1_in 49 (by decide +kernel) rfl), Or.inl rfl⟩
theorem lkS_RX5_52 : LkS RX5 52 yX5_valueOf cX5_valueOf 3 (some .int) 3 := ⟨(t2_in 90 (by decide +kernel) rfl), (t2_in 91 (by decide +kernel) rfl), (t2_in 92 (by decide +kernel) rfl), (t1_in 3 (by decide +kernel) rfl), by decide, by decide +kernel⟩
theorem lkF_RX5_27_5 : LkF RX5 27 5 7 := ⟨RX5, TX5, 8, "UnlikeNeighbours$Rules", fc5, by decide, (t1_in 50 (by decide +kernel) rfl), Or.inl rfl⟩
theorem lkF_RX5_21_5 : LkF RX5 21 5 5 := ⟨RX5, TX5, 8, "UnlikeNeighbours$Rules", fc5, by decide, (t1_in 48 (by decide +kernel) rfl), Or.inl rfl⟩
theorem dX5_compared_0 : decode cX5_compared 0 = .ok (.aload_n 0, 1) := by decide +kernel
theorem dX5_compared_1 : decode cX5_compared 1 = .ok (.getfield 24, 3) := by decide +kernel
theorem dX5_compared_4 : decode cX5_compared 4 = .ok (.iload_n 1, 1) := by decide +kernel
theorem dX5_compared_5 : decode cX5_compared 5 = .ok (.iaload, 1) := by decide +kernel
theorem dX5_compared_6 : decode cX5_compared 6 = .ok (.aload_n 2, 1) := by decide +kernel
theorem dX5_compared_7 : decode cX5_compared 7 = .ok (.iload_n 3, 1) := by decide +kernel
theorem dX5_compared_8 : decode cX5_compared 8 = .ok (.invokestatic 52, 3) := by decide +kernel
theorem dX5_compared_11 : decode cX5_compared 11 = .ok (.istore 4, 2) := by decide +kernel
theorem dX5_compared_13 : decode cX5_compared 13 = .ok (.aload_n 0, 1) := by decide +kernel
theorem dX5_compared_14 : decode cX5_compared 14 = .ok (.getfield 27, 3) := by decide +kernel
theorem dX5_compared_17 : decode cX5_compared 17 = .ok (.iload_n 1, 1) := by decide +kernel
theorem dX5_compared_18 : decode cX5_compared 18 = .ok (.iaload, 1) := by decide +kernel
theorem dX5_compared_19 : decode cX5_compared 19 = .ok (.aload_n 2, 1) := by decide +kernel
theorem dX5_compared_20 : decode cX5_compared 20 = .ok (.iload_n 3, 1) := by decide +kernel
theorem dX5_compared_21 : decode cX5_compared 21 = .ok (.invokestatic 52, 3) := by decide +kernel
theorem dX5_compared_24 : decode cX5_compared 24 = .ok (.istore 5, 2) := by decide +kernel
theorem dX5_compared_26 : decode cX5_compared 26 = .ok (.aload_n 0, 1) := by decide +kernel
theorem dX5_compared_27 : decode cX5_compared 27 = .ok (.getfield 21, 3) := by decide +kernel
theorem dX5_compared_30 : decode cX5_compared 30 = .ok (.iload_n 1, 1) := by decide +kernel
theorem dX5_compared_31 : decode cX5_compared 31 = .ok (.iaload, 1) := by decide +kernel
theorem dX5_compared_32 : decode cX5_compared 32 = .ok (.lookupswitch 54 #[(20060, 28), (20062, 41)], 28) := by decide +kernel
theorem dX5_compared_60 : decode cX5_compared 60 = .ok (.iload 4, 2) := by decide +kernel
theorem dX5_compared_62 : decode cX5_compared 62 = .ok (.iload 5, 2) := by decide +kernel
theorem dX5_compared_64 : decode cX5_compared 64 = .ok (.if_icmp .ge 7, 3) := by decide +kernel
theorem dX5_compared_67 : decode cX5_compared 67 = .ok (.iconst 1, 1) := by decide +kernel
theorem dX5_compared_68 : decode cX5_compared 68 = .ok (.goto 4, 3) := by decide +kernel
theorem dX5_compared_71 : decode cX5_compared 71 = .ok (.iconst 0, 1) := by decide +kernel
theorem dX5_compared_72 : decode cX5_compared 72 = .ok (.ireturn, 1) := by decide +kernel
theorem dX5_compared_73 : decode cX5_compared 73 = .ok (.iload 4, 2) := by decide +kernel
theorem dX5_compared_75 : decode cX5_compared 75 = .ok (.iload 5, 2) := by decide +kernel
theorem dX5_compared_77 : decode cX5_compared 77 = .ok (.if_icmp .le 7, 3) := by decide +kernel
theorem dX5_compared_80 : decode cX5_compared 80 = .ok (.iconst 1, 1) := by decide +kernel
theorem dX5_compared_81 : decode cX5_compared 81 = .ok (.goto 4, 3) := by decide +kernel
theorem dX5_compared_84 : decode cX5_compared 84 = .ok (.iconst 0, 1) := by decide +kernel
theorem dX5_compared_85 : decode cX5_compared 85 = .ok (.ireturn, 1) := by decide +kernel
theorem dX5_compared_86 : decode cX5_compared 86 = .ok (.iload 4, 2) := by decide +kernel
theorem dX5_compared_88 : decode cX5_compared 88 = .ok (.iload 5, 2) := by decide +kernel
theorem dX5_compared_90 : decode cX5_compared 90 = .ok (.if_icmp .ne 7, 3) := by decide +kernel
theorem dX5_compared_93 : decode cX5_compared 93 = .ok (.iconst 1, 1) := by decide +kernel
theorem dX5_compared_94 : decode cX5_compared 94 = .ok (.goto 4, 3) := by decide +kernel
theorem dX5_compared_97 : decode cX5_compared 97 = .ok (.iconst 0, 1) := by decide +kernel
theorem dX5_compared_98 : decode cX5_compared 98 = .ok (.ireturn, 1) := by decide +kernel
def f_X5_compared (S : Sh) (R : Rw) (I : Iw)  (a0 : Nat) (x1 : Int32) (a2 : Nat) (x3 : Int32) : Option (Int32) := gp (sok S a0 5 8) (rl (R a0 6) (fun b2 => gp (aok S 20 b2 x1) (bd (f_X5_valueOf S R I (I b2 x1.toNatClampNeg) a2 x3) (fun r4 => rl (R a0 7) (fun b5 => gp (aok S 20 b5 x1) (bd (f_X5_valueOf S R I (I b5 x1.toNatClampNeg) a2 x3) (fun r7 => rl (R a0 5) (fun b8 => gp (aok S 20 b8 x1) ((if (I b8 x1.toNatClampNeg) = (20060 : Int32) then (if r7 ≤ r4 then some (0 : Int32) else some (1 : Int32)) else (if (I b8 x1.toNatClampNeg) = (20062 : Int32) then (if r4 ≤ r7 then some (0 : Int32) else some (1 : Int32)) else (if r4 = r7 then some (1 : Int32) else some (0 : Int32)))))))))))))
set_option maxHeartbeats 4000000 in
theorem b_X5_compared {E : Ev} {p : Program} {l : Launch} {e : Env} {s : State} {m : MethodId} {args : Array Value} {below : List Frame} {meth : Method} {c : Code} (C : Cx E RX5 cX5_compared 6 p s m c) (hr : meth.sig.returnType = (some .int)) (hk : meth.locks = false) {S : Sh} {R : Rw} {I : Iw} {r : Int32}  : ∀ (a0 : Nat) (x1 : Int32) (a2 : Nat) (x3 : Int32), f_X5_compared S R I   a0 x1 a2 x3 = some r → Wk E 6 p l e ({ frames := 1, cells := 0, slots := 0, locals := 22 } : Room) s m args below meth c 0 0 (MQ below (Qw E S R I (some (.int r))) args s 0 0 (fun q => E.1 ≤ q)) 0 [(0, .ref (E.1 + a0)), (1, .int x1), (2, .ref (E.1 + a2)), (3, .int x3)] [] S R I := by
  intro a0 x1 a2 x3 h
  rw [f_X5_compared] at h
  refine k_aloadn (pc := 0) C dX5_compared_0 (i := 0) rfl 0 rfl ?_
  obtain ⟨hs10, h⟩ := gp_e h
  have hs1 := sok_e hs10
  obtain ⟨b2, hb2, h⟩ := rl_e h
  refine k_getR (pc := 1) C lkF_RX5_24_5 hs1 ir_5_6 hb2 dX5_compared_1 ?_
  refine k_iloadn (pc := 4) C dX5_compared_4 (i := 1) rfl 1 rfl ?_
  obtain ⟨ha3, h⟩ := gp_e h
  refine k_iald (pc := 5) C ha3 dX5_compared_5 ?_
  refine k_aloadn (pc := 6) C dX5_compared_6 (i := 2) rfl 2 rfl ?_
  refine k_iloadn (pc := 7) C dX5_compared_7 (i := 3) rfl 3 rfl ?_
  obtain ⟨r4, hr4, h⟩ := bd_e h
  refine k_S (pc := 8) (st := []) C (c_X5_valueOf hr4) lkS_RX5_52 rfl rfl (Nat.le_of_ble_eq_true rfl) (Nat.le_of_ble_eq_true rfl) (Nat.le_of_ble_eq_true rfl) (Nat.le_of_ble_eq_true rfl) (Nat.le_of_ble_eq_true rfl) dX5_compared_8 ?_
  refine k_nf (cells2 := 0) (slots2 := 0) (st2 := [.int r4]) rfl rfl rfl ?_
  refine k_istore (pc := 11) C dX5_compared_11 (by decide) (L2 := [(0, .ref (E.1 + a0)), (1, .int x1), (2, .ref (E.1 + a2)), (3, .int x3), (4, .int r4)]) rfl ?_
  refine k_aloadn (pc := 13) C dX5_compared_13 (i := 0) rfl 0 rfl ?_
  obtain ⟨b5, hb5, h⟩ := rl_e h
  refine k_getR (pc := 14) C lkF_RX5_27_5 hs1 ir_5_7 hb5 dX5_compared_14 ?_
  refine k_iloadn (pc := 17) C dX5_compared_17 (i := 1) rfl 1 rfl ?_
  obtain ⟨ha6, h⟩ := gp_e h
  refine k_iald (pc := 18) C ha6 dX5_compared_18 ?_
  refine k_aloadn (pc := 19) C dX5_compared_19 (i := 2) rfl 2 rfl ?_
  refine k_iloadn (pc := 20) C dX5_compared_20 (i := 3) rfl 3 rfl ?_
  obtain ⟨r7, hr7, h⟩ := bd_e h
  refine k_S (pc := 21) (st := []) C (c_X5_valueOf hr7) lkS_RX5_52 rfl rfl (Nat.le_of_ble_eq_true rfl) (Nat.le_of_ble_eq_true rfl) (Nat.le_of_ble_eq_true rfl) (Nat.le_of_ble_eq_true rfl) (Nat.le_of_ble_eq_true rfl) dX5_compared_21 ?_
  refine k_nf (cells2 := 0) (slots2 := 0) (st2 := [.int r7]) rfl rfl rfl ?_
  refine k_istore (pc := 24) C dX5_compared_24 (by decide) (L2 := [(0, .ref (E.1 + a0)), (1, .int x1), (2, .ref (E.1 + a2)), (3, .int x3), (4, .int r4), (5, .int r7)]) rfl ?_
  refine k_aloadn (pc := 26) C dX5_compared_26 (i := 0) rfl 0 rfl ?_
  obtain ⟨b8, hb8, h⟩ := rl_e h
  refine k_getR (pc := 27) C lkF_RX5_21_5 hs1 ir_5_5 hb8 dX5_compared_27 ?_
  refine k_iloadn (pc := 30) C dX5_compared_30 (i := 1) rfl 1 rfl ?_
  obtain ⟨ha9, h⟩ := gp_e h
  refine k_iald (pc := 31) C ha9 dX5_compared_31 ?_
  by_cases hc13 : (I b8 x1.toNatClampNeg) = (20060 : Int32)
  · rw [if_pos hc13] at h
    refine k_look (pc := 32) C dX5_compared_32 (by decide) (off := 28) (by rw [hc13]; rfl) (tgt := 60) (by decide) ?_
    refine k_iload (pc := 60) C dX5_compared_60 4 rfl ?_
    refine k_iload (pc := 62) C dX5_compared_62 5 rfl ?_
    refine k_icmp_ge (pc := 64) C dX5_compared_64 (tgt := 71) (by decide) (fun hc10 => ?_) (fun hc10 => ?_)
    · rw [if_pos hc10] at h
      refine k_iconst (pc := 71) C (v := (0 : Int32)) dX5_compared_71 (by decide) ?_
      have h := Option.some.inj h
      subst h
      exact k_iret (pc := 72) C hr hk dX5_compared_72
    · rw [if_neg hc10] at h
      refine k_iconst (pc := 67) C (v := (1 : Int32)) dX5_compared_67 (by decide) ?_
      refine k_goto (pc := 68) C dX5_compared_68 (tgt := 72) (by decide) ?_
      have h := Option.some.inj h
      subst h
      exact k_iret (pc := 72) C hr hk dX5_compared_72
  · rw [if_neg hc13] at h
    by_cases hc14 : (I b8 x1.toNatClampNeg) = (20062 : Int32)
    · rw [if_pos hc14] at h
      refine k_look (pc := 32) C dX5_compared_32 (by decide) (off := 41) (by rw [hc14]; rfl) (tgt := 73) (by decide) ?_
      refine k_iload (pc := 73) C dX5_compared_73 4 rfl ?_
      refine k_iload (pc := 75) C dX5_compared_75 5 rfl ?_
      refine k_icmp_le (pc := 77) C dX5_compared_77 (tgt := 84) (by decide) (fun hc11 => ?_) (fun hc11 => ?_)
      · rw [if_pos hc11] at h
        refine k_iconst (pc := 84) C (v := (0 : Int32)) dX5_compared_84 (by decide) ?_
        have h := Option.some.inj h
        subst h
        exact k_iret (pc := 85) C hr hk dX5_compared_85
      · rw [if_neg hc11] at h
        refine k_iconst (pc := 80) C (v := (1 : Int32)) dX5_compared_80 (by decide) ?_
        refine k_goto (pc := 81) C dX5_compared_81 (tgt := 85) (by decide) ?_
        have h := Option.some.inj h
        subst h
        exact k_iret (pc := 85) C hr hk dX5_compared_85
    · rw [if_neg hc14] at h
      refine k_look (pc := 32) C dX5_compared_32 (by decide) (off := 54) (look_cons (look_ne hc13 (by decide)) (look_cons (look_ne hc14 (by decide)) rfl)) (tgt := 86) (by decide) ?_
      refine k_iload (pc := 86) C dX5_compared_86 4 rfl ?_
      refine k_iload (pc := 88) C dX5_compared_88 5 rfl ?_
      refine k_icmp_ne (pc := 90) C dX5_compared_90 (tgt := 97) (by decide) (fun hc12 => ?_) (fun hc12 => ?_)
      · rw [if_neg hc12] at h
        refine k_iconst (pc := 97) C (v := (0 : Int32)) dX5_compared_97 (by decide) ?_
        have h := Option.some.inj h
        subst h
        exact k_iret (pc := 98) C hr hk dX5_compared_98
      · rw [if_pos hc12] at h
        refine k_iconst (pc := 93) C (v := (1 : Int32)) dX5_compared_93 (by decide) ?_
        refine k_goto (pc := 94) C dX5_compared_94 (tgt := 98) (by decide) ?_
        have h := Option.some.inj h
        subst h
        exact k_iret (pc := 98) C hr hk dX5_compared_98
theorem c_X5_compared {E : Ev} {l : Launch} {S : Sh} {R : Rw} {I : Iw} {a0 : Nat} {x1 : Int32} {a2 : Nat} {x3 : Int32} {r : Int32} (h : f_X5_compared S R I a0 x1 a2 x3 = some r) : Mt E l yX5_compared cX5_compared 6 (some .int) 1 22 [.ref (E.1 + a0), .int x1, .ref (E.1 + a2), .int x3] S R I S R I (some (.int r)) 0 0 := mt_of (by decide) (Nat.le_of_ble_eq_true rfl) (fun p e s m args below meth c C hr hk hn => b_X5_compared C hr hk _ _ _ _ h)
theorem lkF_RX5_18_5 : LkF RX5 18 5 3 := ⟨RX5, TX5, 8, "UnlikeNeighbours$Rules", fc5, by decide, (t1_in 46 (by decide +kernel) rfl), Or.inl rfl⟩
theorem lkV_RX5_48 : LkV RX5 48 RX5 yX5_compared cX5_compared 6 (some .int) 3 := ⟨(t2_in 86 (by decide +kernel) rfl), (t2_in 88 (by decide +kernel) rfl), (t0_in 4 (by decide +kernel) rfl), (t2_in 89 (by decide +kernel) rfl), (t1_in 3 (by decide +kernel) rfl), by decide, by decide +kernel⟩
theorem dX5_isSo_0 : decode cX5_isSo 0 = .ok (.iconst 1, 1) := by decide +kernel
theorem dX5_isSo_1 : decode cX5_isSo 1 = .ok (.istore 4, 2) := by decide +kernel
theorem dX5_isSo_3 : decode cX5_isSo 3 = .ok (.iload_n 1, 1) := by decide +kernel
theorem dX5_isSo_4 : decode cX5_isSo 4 = .ok (.ifCond .ne 7, 3) := by decide +kernel
theorem dX5_isSo_7 : decode cX5_isSo 7 = .ok (.iconst 0, 1) := by decide +kernel
theorem dX5_isSo_8 : decode cX5_isSo 8 = .ok (.goto 11, 3) := by decide +kernel
theorem dX5_isSo_11 : decode cX5_isSo 11 = .ok (.aload_n 0, 1) := by decide +kernel
theorem dX5_isSo_12 : decode cX5_isSo 12 = .ok (.getfield 18, 3) := by decide +kernel
theorem dX5_isSo_15 : decode cX5_isSo 15 = .ok (.iload_n 1, 1) := by decide +kernel
theorem dX5_isSo_16 : decode cX5_isSo 16 = .ok (.iconst 1, 1) := by decide +kernel
theorem dX5_isSo_17 : decode cX5_isSo 17 = .ok (.isub, 1) := by decide +kernel
theorem dX5_isSo_18 : decode cX5_isSo 18 = .ok (.iaload, 1) := by decide +kernel
theorem dX5_isSo_19 : decode cX5_isSo 19 = .ok (.istore 5, 2) := by decide +kernel
theorem dX5_isSo_21 : decode cX5_isSo 21 = .ok (.iload 5, 2) := by decide +kernel
theorem dX5_isSo_23 : decode cX5_isSo 23 = .ok (.aload_n 0, 1) := by decide +kernel
theorem dX5_isSo_24 : decode cX5_isSo 24 = .ok (.getfield 18, 3) := by decide +kernel
theorem dX5_isSo_27 : decode cX5_isSo 27 = .ok (.iload_n 1, 1) := by decide +kernel
theorem dX5_isSo_28 : decode cX5_isSo 28 = .ok (.iaload, 1) := by decide +kernel
theorem dX5_isSo_29 : decode cX5_isSo 29 = .ok (.if_icmp .ge 94, 3) := by decide +kernel
theorem dX5_isSo_32 : decode cX5_isSo 32 = .ok (.aload_n 0, 1) := by decide +kernel
theorem dX5_isSo_33 : decode cX5_isSo 33 = .ok (.getfield 21, 3) := by decide +kernel
theorem dX5_isSo_36 : decode cX5_isSo 36 = .ok (.iload 5, 2) := by decide +kernel
theorem dX5_isSo_38 : decode cX5_isSo 38 = .ok (.iaload, 1) := by decide +kernel
theorem dX5_isSo_39 : decode cX5_isSo 39 = .ok (.tableswitch 63 10007 10009 #[49, 34, 25], 25) := by decide +kernel
theorem dX5_isSo_64 : decode cX5_isSo 64 = .ok (.iload 4, 2) := by decide +kernel
theorem dX5_isSo_66 : decode cX5_isSo 66 = .ok (.iconst 1, 1) := by decide +kernel
theorem dX5_isSo_67 : decode cX5_isSo 67 = .ok (.ixor, 1) := by decide +kernel
theorem dX5_isSo_68 : decode cX5_isSo 68 = .ok (.istore 4, 2) := by decide +kernel
theorem dX5_isSo_70 : decode cX5_isSo 70 = .ok (.goto 47, 3) := by decide +kernel
theorem dX5_isSo_73 : decode cX5_isSo 73 = .ok (.iload 4, 2) := by decide +kernel
theorem dX5_isSo_75 : decode cX5_isSo 75 = .ok (.iconst 1, 1) := by decide +kernel
theorem dX5_isSo_76 : decode cX5_isSo 76 = .ok (.ishr, 1) := by decide +kernel
theorem dX5_isSo_77 : decode cX5_isSo 77 = .ok (.iload 4, 2) := by decide +kernel
theorem dX5_isSo_79 : decode cX5_isSo 79 = .ok (.bipush (-2), 2) := by decide +kernel
theorem dX5_isSo_81 : decode cX5_isSo 81 = .ok (.ior, 1) := by decide +kernel
theorem dX5_isSo_82 : decode cX5_isSo 82 = .ok (.iand, 1) := by decide +kernel
theorem dX5_isSo_83 : decode cX5_isSo 83 = .ok (.istore 4, 2) := by decide +kernel
theorem dX5_isSo_85 : decode cX5_isSo 85 = .ok (.goto 32, 3) := by decide +kernel
theorem dX5_isSo_88 : decode cX5_isSo 88 = .ok (.iload 4, 2) := by decide +kernel
theorem dX5_isSo_90 : decode cX5_isSo 90 = .ok (.iconst 1, 1) := by decide +kernel
theorem dX5_isSo_91 : decode cX5_isSo 91 = .ok (.ishr, 1) := by decide +kernel
theorem dX5_isSo_92 : decode cX5_isSo 92 = .ok (.iload 4, 2) := by decide +kernel
theorem dX5_isSo_94 : decode cX5_isSo 94 = .ok (.iconst 1, 1) := by decide +kernel
theorem dX5_isSo_95 : decode cX5_isSo 95 = .ok (.iand, 1) := by decide +kernel
theorem dX5_isSo_96 : decode cX5_isSo 96 = .ok (.ior, 1) := by decide +kernel
theorem dX5_isSo_97 : decode cX5_isSo 97 = .ok (.istore 4, 2) := by decide +kernel
theorem dX5_isSo_99 : decode cX5_isSo 99 = .ok (.goto 18, 3) := by decide +kernel
theorem dX5_isSo_102 : decode cX5_isSo 102 = .ok (.iload 4, 2) := by decide +kernel
theorem dX5_isSo_104 : decode cX5_isSo 104 = .ok (.iconst 1, 1) := by decide +kernel
theorem dX5_isSo_105 : decode cX5_isSo 105 = .ok (.ishl, 1) := by decide +kernel
theorem dX5_isSo_106 : decode cX5_isSo 106 = .ok (.aload_n 0, 1) := by decide +kernel
theorem dX5_isSo_107 : decode cX5_isSo 107 = .ok (.iload 5, 2) := by decide +kernel
theorem dX5_isSo_109 : decode cX5_isSo 109 = .ok (.aload_n 2, 1) := by decide +kernel
theorem dX5_isSo_110 : decode cX5_isSo 110 = .ok (.iload_n 3, 1) := by decide +kernel
theorem dX5_isSo_111 : decode cX5_isSo 111 = .ok (.invokevirtual 48, 3) := by decide +kernel
theorem dX5_isSo_114 : decode cX5_isSo 114 = .ok (.ior, 1) := by decide +kernel
theorem dX5_isSo_115 : decode cX5_isSo 115 = .ok (.istore 4, 2) := by decide +kernel
theorem dX5_isSo_117 : decode cX5_isSo 117 = .ok (.iinc 5 1, 3) := by decide +kernel
theorem dX5_isSo_120 : decode cX5_isSo 120 = .ok (.goto (-99), 3) := by decide +kernel
theorem dX5_isSo_123 : decode cX5_isSo 123 = .ok (.iload 4, 2) := by decide +kernel
theorem dX5_isSo_125 : decode cX5_isSo 125 = .ok (.iconst 1, 1) := by decide +kernel
theorem dX5_isSo_126 : decode cX5_isSo 126 = .ok (.iand, 1) := by decide +kernel
theorem dX5_isSo_127 : decode cX5_isSo 127 = .ok (.iconst 1, 1) := by decide +kernel
theorem dX5_isSo_128 : decode cX5_isSo 128 = .ok (.if_icmp .ne 7, 3) := by decide +kernel
theorem dX5_isSo_131 : decode cX5_isSo 131 = .ok (.iconst 1, 1) := by decide +kernel
theorem dX5_isSo_132 : decode cX5_isSo 132 = .ok (.goto 4, 3) := by decide +kernel
theorem dX5_isSo_135 : decode cX5_isSo 135 = .ok (.iconst 0, 1) := by decide +kernel
theorem dX5_isSo_136 : decode cX5_isSo 136 = .ok (.ireturn, 1) := by decide +kernel
def f_X5_isSo_117 (S : Sh) (R : Rw) (I : Iw) (ko21 : Nat → Int32 → Nat → Int32 → Int32 → Int32 → Option (Int32)) (a0 : Nat) (x1 : Int32) (a2 : Nat) (x3 : Int32) (x4 : Int32) (x5 : Int32) : Option (Int32) := ko21 a0 x1 a2 x3 x4 (x5 + (1 : Int32))
set_option maxHeartbeats 4000000 in
theorem b_X5_isSo_117 {E : Ev} {p : Program} {l : Launch} {e : Env} {s : State} {m : MethodId} {args : Array Value} {below : List Frame} {meth : Method} {c : Code} (C : Cx E RX5 cX5_isSo 6 p s m c) (hr : meth.sig.returnType = (some .boolean)) (hk : meth.locks = false) {S : Sh} {R : Rw} {I : Iw} {r : Int32}  {ko21 : Nat → Int32 → Nat → Int32 → Int32 → Int32 → Option (Int32)} (hko21 : ∀ (a0 : Nat) (x1 : Int32) (a2 : Nat) (x3 : Int32) (x4 : Int32) (x5 : Int32), ko21 a0 x1 a2 x3 x4 x5 = some r → Wk E 6 p l e ({ frames := 2, cells := 0, slots := 0, locals := 47 } : Room) s m args below meth c 0 0 (MQ below (Qw E S R I (some (.int r))) args s 0 0 (fun q => E.1 ≤ q)) 21 [(0, .ref (E.1 + a0)), (1, .int x1), (2, .ref (E.1 + a2)), (3, .int x3), (4, .int x4), (5, .int x5)] [] S R I) : ∀ (a0 : Nat) (x1 : Int32) (a2 : Nat) (x3 : Int32) (x4 : Int32) (x5 : Int32), f_X5_isSo_117 S R I ko21  a0 x1 a2 x3 x4 x5 = some r → Wk E 6 p l e ({ frames := 2, cells := 0, slots := 0, locals := 47 } : Room) s m args below meth c 0 0 (MQ below (Qw E S R I (some (.int r))) args s 0 0 (fun q => E.1 ≤ q)) 117 [(0, .ref (E.1 + a0)), (1, .int x1), (2, .ref (E.1 + a2)), (3, .int x3), (4, .int x4), (5, .int x5)] [] S R I := by
  intro a0 x1 a2 x3 x4 x5 h
  rw [f_X5_isSo_117] at h
  refine k_iinc (pc := 117) C dX5_isSo_117 5 rfl (v := x5 + (1 : Int32)) (by rfl) (by decide) (L2 := [(0, .ref (E.1 + a0)), (1, .int x1), (2, .ref (E.1 + a2)), (3, .int x3), (4, .int x4), (5, .int (x5 + (1 : Int32)))]) rfl ?_
  refine k_goto (pc := 120) C dX5_isSo_120 (tgt := 21) (by decide) ?_
  exact hko21 _ _ _ _ _ _ h
def f_X5_isSo_21 (S : Sh) (R : Rw) (I : Iw)  : Nat → Nat → Int32 → Nat → Int32 → Int32 → Int32 → Option (Int32)
  | 0, _, _, _, _, _, _ => none
  | n + 1, a0, x1, a2, x3, x4, x5 => gp (sok S a0 5 8) (rl (R a0 3) (fun b6 => gp (aok S 20 b6 x1) ((if (I b6 x1.toNatClampNeg) ≤ x5 then (if (x4 &&& (1 : Int32)) = (1 : Int32) then some (1 : Int32) else some (0 : Int32)) else rl (R a0 5) (fun b10 => gp (aok S 20 b10 x5) ((if (I b10 x5.toNatClampNeg) = (10007 : Int32) then f_X5_isSo_117 S R I (f_X5_isSo_21 S R I  n) a0 x1 a2 x3 ((x4 >>> ((1 : Int32) &&& 31)) ||| (x4 &&& (1 : Int32))) x5 else (if (I b10 x5.toNatClampNeg) = (10008 : Int32) then f_X5_isSo_117 S R I (f_X5_isSo_21 S R I  n) a0 x1 a2 x3 ((x4 >>> ((1 : Int32) &&& 31)) &&& (x4 ||| (-2 : Int32))) x5 else (if (I b10 x5.toNatClampNeg) = (10009 : Int32) then f_X5_isSo_117 S R I (f_X5_isSo_21 S R I  n) a0 x1 a2 x3 (x4 ^^^ (1 : Int32)) x5 else bd (f_X5_compared S R I a0 x5 a2 x3) (fun r12 => f_X5_isSo_117 S R I (f_X5_isSo_21 S R I  n) a0 x1 a2 x3 ((x4 <<< ((1 : Int32) &&& 31)) ||| r12) x5))))))))))
set_option maxHeartbeats 4000000 in
theorem b_X5_isSo_21 {E : Ev} {p : Program} {l : Launch} {e : Env} {s : State} {m : MethodId} {args : Array Value} {below : List Frame} {meth : Method} {c : Code} (C : Cx E RX5 cX5_isSo 6 p s m c) (hr : meth.sig.returnType = (some .boolean)) (hk : meth.locks = false) {S : Sh} {R : Rw} {I : Iw} {r : Int32}  : ∀ (n : Nat) (a0 : Nat) (x1 : Int32) (a2 : Nat) (x3 : Int32) (x4 : Int32) (x5 : Int32), f_X5_isSo_21 S R I  n a0 x1 a2 x3 x4 x5 = some r → Wk E 6 p l e ({ frames := 2, cells := 0, slots := 0, locals := 47 } : Room) s m args below meth c 0 0 (MQ below (Qw E S R I (some (.int r))) args s 0 0 (fun q => E.1 ≤ q)) 21 [(0, .ref (E.1 + a0)), (1, .int x1), (2, .ref (E.1 + a2)), (3, .int x3), (4, .int x4), (5, .int x5)] [] S R I := by
  intro n
  induction n with
  | zero =>
    intro a0 x1 a2 x3 x4 x5 h
    rw [f_X5_isSo_21] at h
    cases h
  | succ n ih =>
    intro a0 x1 a2 x3 x4 x5 h
    rw [f_X5_isSo_21] at h
    refine k_iload (pc := 21) C dX5_isSo_21 5 rfl ?_
    refine k_aloadn (pc := 23) C dX5_isSo_23 (i := 0) rfl 0 rfl ?_
    obtain ⟨hs50, h⟩ := gp_e h
    have hs5 := sok_e hs50
    obtain ⟨b6, hb6, h⟩ := rl_e h
    refine k_getR (pc := 24) C lkF_RX5_18_5 hs5 ir_5_3 hb6 dX5_isSo_24 ?_
    refine k_iloadn (pc := 27) C dX5_isSo_27 (i := 1) rfl 1 rfl ?_
    obtain ⟨ha7, h⟩ := gp_e h
    refine k_iald (pc := 28) C ha7 dX5_isSo_28 ?_
    refine k_icmp_ge (pc := 29) C dX5_isSo_29 (tgt := 123) (by decide) (fun hc8 => ?_) (fun hc8 => ?_)
    · rw [if_pos hc8] at h
      refine k_iload (pc := 123) C dX5_isSo_123 4 rfl ?_
      refine k_iconst (pc := 125) C (v := (1 : Int32)) dX5_isSo_125 (by decide) ?_
      refine k_iand (pc := 126) C dX5_isSo_126 ?_
      refine k_iconst (pc := 127) C (v := (1 : Int32)) dX5_isSo_127 (by decide) ?_
      refine k_icmp_ne (pc := 128) C dX5_isSo_128 (tgt := 135) (by decide) (fun hc9 => ?_) (fun hc9 => ?_)
      · rw [if_neg hc9] at h
        refine k_iconst (pc := 135) C (v := (0 : Int32)) dX5_isSo_135 (by decide) ?_
        have h := Option.some.inj h
        subst h
        exact k_zret (pc := 136) C hr hk (Or.inl rfl) dX5_isSo_136
      · rw [if_pos hc9] at h
        refine k_iconst (pc := 131) C (v := (1 : Int32)) dX5_isSo_131 (by decide) ?_
        refine k_goto (pc := 132) C dX5_isSo_132 (tgt := 136) (by decide) ?_
        have h := Option.some.inj h
        subst h
        exact k_zret (pc := 136) C hr hk (Or.inr rfl) dX5_isSo_136
    · rw [if_neg hc8] at h
      refine k_aloadn (pc := 32) C dX5_isSo_32 (i := 0) rfl 0 rfl ?_
      obtain ⟨b10, hb10, h⟩ := rl_e h
      refine k_getR (pc := 33) C lkF_RX5_21_5 hs5 ir_5_5 hb10 dX5_isSo_33 ?_
      refine k_iload (pc := 36) C dX5_isSo_36 5 rfl ?_
      obtain ⟨ha11, h⟩ := gp_e h
      refine k_iald (pc := 38) C ha11 dX5_isSo_38 ?_
      by_cases hc13 : (I b10 x5.toNatClampNeg) = (10007 : Int32)
      · rw [if_pos hc13] at h
        refine k_tabIn (pc := 39) C dX5_isSo_39 (by rw [hc13]; decide) (by rw [hc13]; decide) (off := 49) (by rw [hc13]; rfl) (tgt := 88) (by decide) ?_
        refine k_iload (pc := 88) C dX5_isSo_88 4 rfl ?_
        refine k_iconst (pc := 90) C (v := (1 : Int32)) dX5_isSo_90 (by decide) ?_
        refine k_ishr (pc := 91) C dX5_isSo_91 ?_
        refine k_iload (pc := 92) C dX5_isSo_92 4 rfl ?_
        refine k_iconst (pc := 94) C (v := (1 : Int32)) dX5_isSo_94 (by decide) ?_
        refine k_iand (pc := 95) C dX5_isSo_95 ?_
        refine k_ior (pc := 96) C dX5_isSo_96 ?_
        refine k_istore (pc := 97) C dX5_isSo_97 (by decide) (L2 := [(0, .ref (E.1 + a0)), (1, .int x1), (2, .ref (E.1 + a2)), (3, .int x3), (4, .int ((x4 >>> ((1 : Int32) &&& 31)) ||| (x4 &&& (1 : Int32)))), (5, .int x5)]) rfl ?_
        refine k_goto (pc := 99) C dX5_isSo_99 (tgt := 117) (by decide) ?_
        exact b_X5_isSo_117 C hr hk ih _ _ _ _ _ _ h
      · rw [if_neg hc13] at h
        by_cases hc14 : (I b10 x5.toNatClampNeg) = (10008 : Int32)
        · rw [if_pos hc14] at h
          refine k_tabIn (pc := 39) C dX5_isSo_39 (by rw [hc14]; decide) (by rw [hc14]; decide) (off := 34) (by rw [hc14]; rfl) (tgt := 73) (by decide) ?_
          refine k_iload (pc := 73) C dX5_isSo_73 4 rfl ?_
          refine k_iconst (pc := 75) C (v := (1 : Int32)) dX5_isSo_75 (by decide) ?_
          refine k_ishr (pc := 76) C dX5_isSo_76 ?_
          refine k_iload (pc := 77) C dX5_isSo_77 4 rfl ?_
          refine k_bipush (pc := 79) C (v := (-2 : Int32)) dX5_isSo_79 (by decide) ?_
          refine k_ior (pc := 81) C dX5_isSo_81 ?_
          refine k_iand (pc := 82) C dX5_isSo_82 ?_
          refine k_istore (pc := 83) C dX5_isSo_83 (by decide) (L2 := [(0, .ref (E.1 + a0)), (1, .int x1), (2, .ref (E.1 + a2)), (3, .int x3), (4, .int ((x4 >>> ((1 : Int32) &&& 31)) &&& (x4 ||| (-2 : Int32)))), (5, .int x5)]) rfl ?_
          refine k_goto (pc := 85) C dX5_isSo_85 (tgt := 117) (by decide) ?_
          exact b_X5_isSo_117 C hr hk ih _ _ _ _ _ _ h
        · rw [if_neg hc14] at h
          by_cases hc15 : (I b10 x5.toNatClampNeg) = (10009 : Int32)
          · rw [if_pos hc15] at h
            refine k_tabIn (pc := 39) C dX5_isSo_39 (by rw [hc15]; decide) (by rw [hc15]; decide) (off := 25) (by rw [hc15]; rfl) (tgt := 64) (by decide) ?_
            refine k_iload (pc := 64) C dX5_isSo_64 4 rfl ?_
            refine k_iconst (pc := 66) C (v := (1 : Int32)) dX5_isSo_66 (by decide) ?_
            refine k_ixor (pc := 67) C dX5_isSo_67 ?_
            refine k_istore (pc := 68) C dX5_isSo_68 (by decide) (L2 := [(0, .ref (E.1 + a0)), (1, .int x1), (2, .ref (E.1 + a2)), (3, .int x3), (4, .int (x4 ^^^ (1 : Int32))), (5, .int x5)]) rfl ?_
            refine k_goto (pc := 70) C dX5_isSo_70 (tgt := 117) (by decide) ?_
            exact b_X5_isSo_117 C hr hk ih _ _ _ _ _ _ h
          · rw [if_neg hc15] at h
            refine k_tabOut (pc := 39) C dX5_isSo_39 (tab_out (I b10 x5.toNatClampNeg) 10007 10009 (fun z h1 h2 hz => by
              have hz2 : z = 10007 ∨ z = 10008 ∨ z = 10009 := by omega
              rcases hz2 with rfl | rfl | rfl
              · exact hc13 (Int32.toInt_inj.mp (hz.trans (by decide)))
              · exact hc14 (Int32.toInt_inj.mp (hz.trans (by decide)))
              · exact hc15 (Int32.toInt_inj.mp (hz.trans (by decide)))
              ) ) (tgt := 102) (by decide) ?_
            refine k_iload (pc := 102) C dX5_isSo_102 4 rfl ?_
            refine k_iconst (pc := 104) C (v := (1 : Int32)) dX5_isSo_104 (by decide) ?_
            refine k_ishl (pc := 105) C dX5_isSo_105 ?_
            refine k_aloadn (pc := 106) C dX5_isSo_106 (i := 0) rfl 0 rfl ?_
            refine k_iload (pc := 107) C dX5_isSo_107 5 rfl ?_
            refine k_aloadn (pc := 109) C dX5_isSo_109 (i := 2) rfl 2 rfl ?_
            refine k_iloadn (pc := 110) C dX5_isSo_110 (i := 3) rfl 3 rfl ?_
            obtain ⟨r12, hr12, h⟩ := bd_e h
            refine k_V (pc := 111) (st := [.int (x4 <<< ((1 : Int32) &&& 31))]) C (c_X5_compared hr12) lkV_RX5_48 hs5 rfl rfl rfl (Nat.le_of_ble_eq_true rfl) (Nat.le_of_ble_eq_true rfl) (Nat.le_of_ble_eq_true rfl) (Nat.le_of_ble_eq_true rfl) (Nat.le_of_ble_eq_true rfl) dX5_isSo_111 ?_
            refine k_nf (cells2 := 0) (slots2 := 0) (st2 := [.int r12, .int (x4 <<< ((1 : Int32) &&& 31))]) rfl rfl rfl ?_
            refine k_ior (pc := 114) C dX5_isSo_114 ?_
            refine k_istore (pc := 115) C dX5_isSo_115 (by decide) (L2 := [(0, .ref (E.1 + a0)), (1, .int x1), (2, .ref (E.1 + a2)), (3, .int x3), (4, .int ((x4 <<< ((1 : Int32) &&& 31)) ||| r12)), (5, .int x5)]) rfl ?_
            exact b_X5_isSo_117 C hr hk ih _ _ _ _ _ _ h
def f_X5_isSo_19 (S : Sh) (R : Rw) (I : Iw)  (a0 : Nat) (x1 : Int32) (a2 : Nat) (x3 : Int32) (x4 : Int32) (s0 : Int32) : Option (Int32) := f_X5_isSo_21 S R I  512 a0 x1 a2 x3 x4 s0
set_option maxHeartbeats 4000000 in
theorem b_X5_isSo_19 {E : Ev} {p : Program} {l : Launch} {e : Env} {s : State} {m : MethodId} {args : Array Value} {below : List Frame} {meth : Method} {c : Code} (C : Cx E RX5 cX5_isSo 6 p s m c) (hr : meth.sig.returnType = (some .boolean)) (hk : meth.locks = false) {S : Sh} {R : Rw} {I : Iw} {r : Int32}  : ∀ (a0 : Nat) (x1 : Int32) (a2 : Nat) (x3 : Int32) (x4 : Int32) (s0 : Int32), f_X5_isSo_19 S R I   a0 x1 a2 x3 x4 s0 = some r → Wk E 6 p l e ({ frames := 2, cells := 0, slots := 0, locals := 47 } : Room) s m args below meth c 0 0 (MQ below (Qw E S R I (some (.int r))) args s 0 0 (fun q => E.1 ≤ q)) 19 [(0, .ref (E.1 + a0)), (1, .int x1), (2, .ref (E.1 + a2)), (3, .int x3), (4, .int x4)] [.int s0] S R I := by
  intro a0 x1 a2 x3 x4 s0 h
  rw [f_X5_isSo_19] at h
  refine k_istore (pc := 19) C dX5_isSo_19 (by decide) (L2 := [(0, .ref (E.1 + a0)), (1, .int x1), (2, .ref (E.1 + a2)), (3, .int x3), (4, .int x4), (5, .int s0)]) rfl ?_
  exact b_X5_isSo_21 C hr hk  _ _ _ _ _ _ _ h
def f_X5_isSo (S : Sh) (R : Rw) (I : Iw)  (a0 : Nat) (x1 : Int32) (a2 : Nat) (x3 : Int32) : Option (Int32) := (if x1 = 0 then f_X5_isSo_19 S R I  a0 x1 a2 x3 (1 : Int32) (0 : Int32) else gp (sok S a0 5 8) (rl (R a0 3) (fun b3 => gp (aok S 20 b3 (x1 - (1 : Int32))) (f_X5_isSo_19 S R I  a0 x1 a2 x3 (1 : Int32) (I b3 (x1 - (1 : Int32)).toNatClampNeg)))))
set_option maxHeartbeats 4000000 in
theorem b_X5_isSo {E : Ev} {p : Program} {l : Launch} {e : Env} {s : State} {m : MethodId} {args : Array Value} {below : List Frame} {meth : Method} {c : Code} (C : Cx E RX5 cX5_isSo 6 p s m c) (hr : meth.sig.returnType = (some .boolean)) (hk : meth.locks = false) {S : Sh} {R : Rw} {I : Iw} {r : Int32}  : ∀ (a0 : Nat) (x1 : Int32) (a2 : Nat) (x3 : Int32), f_X5_isSo S R I   a0 x1 a2 x3 = some r → Wk E 6 p l e ({ frames := 2, cells := 0, slots := 0, locals := 47 } : Room) s m args below meth c 0 0 (MQ below (Qw E S R I (some (.int r))) args s 0 0 (fun q => E.1 ≤ q)) 0 [(0, .ref (E.1 + a0)), (1, .int x1), (2, .ref (E.1 + a2)), (3, .int x3)] [] S R I := by
  intro a0 x1 a2 x3 h
  rw [f_X5_isSo] at h
  refine k_iconst (pc := 0) C (v := (1 : Int32)) dX5_isSo_0 (by decide) ?_
  refine k_istore (pc := 1) C dX5_isSo_1 (by decide) (L2 := [(0, .ref (E.1 + a0)), (1, .int x1), (2, .ref (E.1 + a2)), (3, .int x3), (4, .int (1 : Int32))]) rfl ?_
  refine k_iloadn (pc := 3) C dX5_isSo_3 (i := 1) rfl 1 rfl ?_
  refine k_if_ne (pc := 4) C dX5_isSo_4 (tgt := 11) (by decide) (fun hc1 => ?_) (fun hc1 => ?_)
  · rw [if_neg hc1] at h
    refine k_aloadn (pc := 11) C dX5_isSo_11 (i := 0) rfl 0 rfl ?_
    obtain ⟨hs20, h⟩ := gp_e h
    have hs2 := sok_e hs20
    obtain ⟨b3, hb3, h⟩ := rl_e h
    refine k_getR (pc := 12) C lkF_RX5_18_5 hs2 ir_5_3 hb3 dX5_isSo_12 ?_
    refine k_iloadn (pc := 15) C dX5_isSo_15 (i := 1) rfl 1 rfl ?_
    refine k_iconst (pc := 16) C (v := (1 : Int32)) dX5_isSo_16 (by decide) ?_
    refine k_isub (pc := 17) C dX5_isSo_17 ?_
    obtain ⟨ha4, h⟩ := gp_e h
    refine k_iald (pc := 18) C ha4 dX5_isSo_18 ?_
    exact b_X5_isSo_19 C hr hk  _ _ _ _ _ _ h
  · rw [if_pos hc1] at h
    refine k_iconst (pc := 7) C (v := (0 : Int32)) dX5_isSo_7 (by decide) ?_
    refine k_goto (pc := 8) C dX5_isSo_8 (tgt := 19) (by decide) ?_
    exact b_X5_isSo_19 C hr hk  _ _ _ _ _ _ h
theorem c_X5_isSo {E : Ev} {l : Launch} {S : Sh} {R : Rw} {I : Iw} {a0 : Nat} {x1 : Int32} {a2 : Nat} {x3 : Int32} {r : Int32} (h : f_X5_isSo S R I a0 x1 a2 x3 = some r) : Mt E l yX5_isSo cX5_isSo 6 (some .boolean) 2 47 [.ref (E.1 + a0), .int x1, .ref (E.1 + a2), .int x3] S R I S R I (some (.int r)) 0 0 := mt_of (by decide) (Nat.le_of_ble_eq_true rfl) (fun p e s m args below meth c C hr hk hn => b_X5_isSo C hr hk _ _ _ _ h)
theorem lkF_RX5_30_5 : LkF RX5 30 5 0 := ⟨RX5, TX5, 8, "UnlikeNeighbours$Rules", fc5, by decide, (t1_in 41 (by decide +kernel) rfl), Or.inl rfl⟩
theorem lkF_RX5_37_7 : LkF RX5 37 7 0 := ⟨RX7, TX7, 16, "UnlikeNeighbours$Shed", fc7, by decide, (t1_in 71 (by decide +kernel) rfl), Or.inl rfl⟩
theorem lkF_RX5_9_5 : LkF RX5 9 5 1 := ⟨RX5, TX5, 8, "UnlikeNeighbours$Rules", fc5, by decide, (t1_in 44 (by decide +kernel) rfl), Or.inl rfl⟩
theorem lkSN_RX5_40 : LkSN RX5 40 yX11_isOrIsUnder "UnlikeNeighbours" cX11_isOrIsUnder 4 (some .boolean) 2 := ⟨l2_in 77 (by decide +kernel), (t2_in 78 (by decide +kernel) rfl), (t2_in 79 (by decide +kernel) rfl), (t1_in 1 (by decide +kernel) rfl), by decide, by decide +kernel⟩
theorem lkV_RX5_44 : LkV RX5 44 RX5 yX5_isSo cX5_isSo 6 (some .boolean) 3 := ⟨(t2_in 82 (by decide +kernel) rfl), (t2_in 84 (by decide +kernel) rfl), (t0_in 3 (by decide +kernel) rfl), (t2_in 85 (by decide +kernel) rfl), (t1_in 3 (by decide +kernel) rfl), by decide, by decide +kernel⟩
theorem lkF_RX5_15_5 : LkF RX5 15 5 2 := ⟨RX5, TX5, 8, "UnlikeNeighbours$Rules", fc5, by decide, (t1_in 45 (by decide +kernel) rfl), Or.inl rfl⟩
theorem dX5_changeFor_0 : decode cX5_changeFor 0 = .ok (.iconst 0, 1) := by decide +kernel
theorem dX5_changeFor_1 : decode cX5_changeFor 1 = .ok (.istore_n 3, 1) := by decide +kernel
theorem dX5_changeFor_2 : decode cX5_changeFor 2 = .ok (.iload_n 3, 1) := by decide +kernel
theorem dX5_changeFor_3 : decode cX5_changeFor 3 = .ok (.aload_n 0, 1) := by decide +kernel
theorem dX5_changeFor_4 : decode cX5_changeFor 4 = .ok (.getfield 30, 3) := by decide +kernel
theorem dX5_changeFor_7 : decode cX5_changeFor 7 = .ok (.if_icmp .ge 44, 3) := by decide +kernel
theorem dX5_changeFor_10 : decode cX5_changeFor 10 = .ok (.aload_n 1, 1) := by decide +kernel
theorem dX5_changeFor_11 : decode cX5_changeFor 11 = .ok (.getfield 37, 3) := by decide +kernel
theorem dX5_changeFor_14 : decode cX5_changeFor 14 = .ok (.iload_n 2, 1) := by decide +kernel
theorem dX5_changeFor_15 : decode cX5_changeFor 15 = .ok (.iaload, 1) := by decide +kernel
theorem dX5_changeFor_16 : decode cX5_changeFor 16 = .ok (.aload_n 0, 1) := by decide +kernel
theorem dX5_changeFor_17 : decode cX5_changeFor 17 = .ok (.getfield 9, 3) := by decide +kernel
theorem dX5_changeFor_20 : decode cX5_changeFor 20 = .ok (.iload_n 3, 1) := by decide +kernel
theorem dX5_changeFor_21 : decode cX5_changeFor 21 = .ok (.iaload, 1) := by decide +kernel
theorem dX5_changeFor_22 : decode cX5_changeFor 22 = .ok (.invokestatic 40, 3) := by decide +kernel
theorem dX5_changeFor_25 : decode cX5_changeFor 25 = .ok (.ifCond .eq 20, 3) := by decide +kernel
theorem dX5_changeFor_28 : decode cX5_changeFor 28 = .ok (.aload_n 0, 1) := by decide +kernel
theorem dX5_changeFor_29 : decode cX5_changeFor 29 = .ok (.iload_n 3, 1) := by decide +kernel
theorem dX5_changeFor_30 : decode cX5_changeFor 30 = .ok (.aload_n 1, 1) := by decide +kernel
theorem dX5_changeFor_31 : decode cX5_changeFor 31 = .ok (.iload_n 2, 1) := by decide +kernel
theorem dX5_changeFor_32 : decode cX5_changeFor 32 = .ok (.invokevirtual 44, 3) := by decide +kernel
theorem dX5_changeFor_35 : decode cX5_changeFor 35 = .ok (.ifCond .eq 10, 3) := by decide +kernel
theorem dX5_changeFor_38 : decode cX5_changeFor 38 = .ok (.aload_n 0, 1) := by decide +kernel
theorem dX5_changeFor_39 : decode cX5_changeFor 39 = .ok (.getfield 15, 3) := by decide +kernel
theorem dX5_changeFor_42 : decode cX5_changeFor 42 = .ok (.iload_n 3, 1) := by decide +kernel
theorem dX5_changeFor_43 : decode cX5_changeFor 43 = .ok (.iaload, 1) := by decide +kernel
theorem dX5_changeFor_44 : decode cX5_changeFor 44 = .ok (.ireturn, 1) := by decide +kernel
theorem dX5_changeFor_45 : decode cX5_changeFor 45 = .ok (.iinc 3 1, 3) := by decide +kernel
theorem dX5_changeFor_48 : decode cX5_changeFor 48 = .ok (.goto (-46), 3) := by decide +kernel
theorem dX5_changeFor_51 : decode cX5_changeFor 51 = .ok (.iconst 0, 1) := by decide +kernel
theorem dX5_changeFor_52 : decode cX5_changeFor 52 = .ok (.ireturn, 1) := by decide +kernel
def f_X5_changeFor_45 (S : Sh) (R : Rw) (I : Iw) (ko2 : Nat → Nat → Int32 → Int32 → Option (Int32)) (a0 : Nat) (a1 : Nat) (x2 : Int32) (x3 : Int32) : Option (Int32) := ko2 a0 a1 x2 (x3 + (1 : Int32))
set_option maxHeartbeats 4000000 in
theorem b_X5_changeFor_45 {E : Ev} {p : Program} {l : Launch} {e : Env} {s : State} {m : MethodId} {args : Array Value} {below : List Frame} {meth : Method} {c : Code} (C : Cx E RX5 cX5_changeFor 4 p s m c) (hr : meth.sig.returnType = (some .int)) (hk : meth.locks = false) {S : Sh} {R : Rw} {I : Iw} {r : Int32}  {ko2 : Nat → Nat → Int32 → Int32 → Option (Int32)} (hko2 : ∀ (a0 : Nat) (a1 : Nat) (x2 : Int32) (x3 : Int32), ko2 a0 a1 x2 x3 = some r → Wk E 4 p l e ({ frames := 3, cells := 0, slots := 0, locals := 72 } : Room) s m args below meth c 0 0 (MQ below (Qw E S R I (some (.int r))) args s 0 0 (fun q => E.1 ≤ q)) 2 [(0, .ref (E.1 + a0)), (1, .ref (E.1 + a1)), (2, .int x2), (3, .int x3)] [] S R I) : ∀ (a0 : Nat) (a1 : Nat) (x2 : Int32) (x3 : Int32), f_X5_changeFor_45 S R I ko2  a0 a1 x2 x3 = some r → Wk E 4 p l e ({ frames := 3, cells := 0, slots := 0, locals := 72 } : Room) s m args below meth c 0 0 (MQ below (Qw E S R I (some (.int r))) args s 0 0 (fun q => E.1 ≤ q)) 45 [(0, .ref (E.1 + a0)), (1, .ref (E.1 + a1)), (2, .int x2), (3, .int x3)] [] S R I := by
  intro a0 a1 x2 x3 h
  rw [f_X5_changeFor_45] at h
  refine k_iinc (pc := 45) C dX5_changeFor_45 3 rfl (v := x3 + (1 : Int32)) (by rfl) (by decide) (L2 := [(0, .ref (E.1 + a0)), (1, .ref (E.1 + a1)), (2, .int x2), (3, .int (x3 + (1 : Int32)))]) rfl ?_
  refine k_goto (pc := 48) C dX5_changeFor_48 (tgt := 2) (by decide) ?_
  exact hko2 _ _ _ _ h
def f_X5_changeFor_2 (S : Sh) (R : Rw) (I : Iw)  : Nat → Nat → Nat → Int32 → Int32 → Option (Int32)
  | 0, _, _, _, _ => none
  | n + 1, a0, a1, x2, x3 => gp (sok S a0 5 8) ((if (I a0 0) ≤ x3 then some (0 : Int32) else gp (sok S a1 7 16) (rl (R a1 0) (fun b4 => gp (aok S 20 b4 x2) (rl (R a0 1) (fun b6 => gp (aok S 20 b6 x3) (bd (f_X11_isOrIsUnder S R I (I b4 x2.toNatClampNeg) (I b6 x3.toNatClampNeg)) (fun r8 => (if r8 = 0 then f_X5_changeFor_45 S R I (f_X5_changeFor_2 S R I  n) a0 a1 x2 x3 else bd (f_X5_isSo S R I a0 x3 a1 x2) (fun r10 => (if r10 = 0 then f_X5_changeFor_45 S R I (f_X5_changeFor_2 S R I  n) a0 a1 x2 x3 else rl (R a0 2) (fun b12 => gp (aok S 20 b12 x3) (some (I b12 x3.toNatClampNeg))))))))))))))
set_option maxHeartbeats 4000000 in
theorem b_X5_changeFor_2 {E : Ev} {p : Program} {l : Launch} {e : Env} {s : State} {m : MethodId} {args : Array Value} {below : List Frame} {meth : Method} {c : Code} (C : Cx E RX5 cX5_changeFor 4 p s m c) (hr : meth.sig.returnType = (some .int)) (hk : meth.locks = false) {S : Sh} {R : Rw} {I : Iw} {r : Int32}  : ∀ (n : Nat) (a0 : Nat) (a1 : Nat) (x2 : Int32) (x3 : Int32), f_X5_changeFor_2 S R I  n a0 a1 x2 x3 = some r → Wk E 4 p l e ({ frames := 3, cells := 0, slots := 0, locals := 72 } : Room) s m args below meth c 0 0 (MQ below (Qw E S R I (some (.int r))) args s 0 0 (fun q => E.1 ≤ q)) 2 [(0, .ref (E.1 + a0)), (1, .ref (E.1 + a1)), (2, .int x2), (3, .int x3)] [] S R I := by
  intro n
  induction n with
  | zero =>
    intro a0 a1 x2 x3 h
    rw [f_X5_changeFor_2] at h
    cases h
  | succ n ih =>
    intro a0 a1 x2 x3 h
    rw [f_X5_changeFor_2] at h
    refine k_iloadn (pc := 2) C dX5_changeFor_2 (i := 3) rfl 3 rfl ?_
    refine k_aloadn (pc := 3) C dX5_changeFor_3 (i := 0) rfl 0 rfl ?_
    obtain ⟨hs10, h⟩ := gp_e h
    have hs1 := sok_e hs10
    refine k_getI (pc := 4) C lkF_RX5_30_5 hs1 ir_5_0 dX5_changeFor_4 ?_
    refine k_icmp_ge (pc := 7) C dX5_changeFor_7 (tgt := 51) (by decide) (fun hc2 => ?_) (fun hc2 => ?_)
    · rw [if_pos hc2] at h
      refine k_iconst (pc := 51) C (v := (0 : Int32)) dX5_changeFor_51 (by decide) ?_
      have h := Option.some.inj h
      subst h
      exact k_iret (pc := 52) C hr hk dX5_changeFor_52
    · rw [if_neg hc2] at h
      refine k_aloadn (pc := 10) C dX5_changeFor_10 (i := 1) rfl 1 rfl ?_
      obtain ⟨hs30, h⟩ := gp_e h
      have hs3 := sok_e hs30
      obtain ⟨b4, hb4, h⟩ := rl_e h
      refine k_getR (pc := 11) C lkF_RX5_37_7 hs3 ir_7_0 hb4 dX5_changeFor_11 ?_
      refine k_iloadn (pc := 14) C dX5_changeFor_14 (i := 2) rfl 2 rfl ?_
      obtain ⟨ha5, h⟩ := gp_e h
      refine k_iald (pc := 15) C ha5 dX5_changeFor_15 ?_
      refine k_aloadn (pc := 16) C dX5_changeFor_16 (i := 0) rfl 0 rfl ?_
      obtain ⟨b6, hb6, h⟩ := rl_e h
      refine k_getR (pc := 17) C lkF_RX5_9_5 hs1 ir_5_1 hb6 dX5_changeFor_17 ?_
      refine k_iloadn (pc := 20) C dX5_changeFor_20 (i := 3) rfl 3 rfl ?_
      obtain ⟨ha7, h⟩ := gp_e h
      refine k_iald (pc := 21) C ha7 dX5_changeFor_21 ?_
      obtain ⟨r8, hr8, h⟩ := bd_e h
      refine k_SN (pc := 22) (st := []) C (c_X11_isOrIsUnder hr8) lkSN_RX5_40 rfl rfl (Nat.le_of_ble_eq_true rfl) (Nat.le_of_ble_eq_true rfl) (Nat.le_of_ble_eq_true rfl) (Nat.le_of_ble_eq_true rfl) (Nat.le_of_ble_eq_true rfl) dX5_changeFor_22 ?_
      refine k_nf (cells2 := 0) (slots2 := 0) (st2 := [.int r8]) rfl rfl rfl ?_
      refine k_if_eq (pc := 25) C dX5_changeFor_25 (tgt := 45) (by decide) (fun hc9 => ?_) (fun hc9 => ?_)
      · rw [if_pos hc9] at h
        exact b_X5_changeFor_45 C hr hk ih _ _ _ _ h
      · rw [if_neg hc9] at h
        refine k_aloadn (pc := 28) C dX5_changeFor_28 (i := 0) rfl 0 rfl ?_
        refine k_iloadn (pc := 29) C dX5_changeFor_29 (i := 3) rfl 3 rfl ?_
        refine k_aloadn (pc := 30) C dX5_changeFor_30 (i := 1) rfl 1 rfl ?_
        refine k_iloadn (pc := 31) C dX5_changeFor_31 (i := 2) rfl 2 rfl ?_
        obtain ⟨r10, hr10, h⟩ := bd_e h
        refine k_V (pc := 32) (st := []) C (c_X5_isSo hr10) lkV_RX5_44 hs1 rfl rfl rfl (Nat.le_of_ble_eq_true rfl) (Nat.le_of_ble_eq_true rfl) (Nat.le_of_ble_eq_true rfl) (Nat.le_of_ble_eq_true rfl) (Nat.le_of_ble_eq_true rfl) dX5_changeFor_32 ?_
        refine k_nf (cells2 := 0) (slots2 := 0) (st2 := [.int r10]) rfl rfl rfl ?_
        refine k_if_eq (pc := 35) C dX5_changeFor_35 (tgt := 45) (by decide) (fun hc11 => ?_) (fun hc11 => ?_)
        · rw [if_pos hc11] at h
          exact b_X5_changeFor_45 C hr hk ih _ _ _ _ h
        · rw [if_neg hc11] at h
          refine k_aloadn (pc := 38) C dX5_changeFor_38 (i := 0) rfl 0 rfl ?_
          obtain ⟨b12, hb12, h⟩ := rl_e h
          refine k_getR (pc := 39) C lkF_RX5_15_5 hs1 ir_5_2 hb12 dX5_changeFor_39 ?_
          refine k_iloadn (pc := 42) C dX5_changeFor_42 (i := 3) rfl 3 rfl ?_
          obtain ⟨ha13, h⟩ := gp_e h
          refine k_iald (pc := 43) C ha13 dX5_changeFor_43 ?_
          have h := Option.some.inj h
          subst h
          exact k_iret (pc := 44) C hr hk dX5_changeFor_44
def f_X5_changeFor (S : Sh) (R : Rw) (I : Iw)  (a0 : Nat) (a1 : Nat) (x2 : Int32) : Option (Int32) := f_X5_changeFor_2 S R I  512 a0 a1 x2 (0 : Int32)
set_option maxHeartbeats 4000000 in
theorem b_X5_changeFor {E : Ev} {p : Program} {l : Launch} {e : Env} {s : State} {m : MethodId} {args : Array Value} {below : List Frame} {meth : Method} {c : Code} (C : Cx E RX5 cX5_changeFor 4 p s m c) (hr : meth.sig.returnType = (some .int)) (hk : meth.locks = false) {S : Sh} {R : Rw} {I : Iw} {r : Int32}  : ∀ (a0 : Nat) (a1 : Nat) (x2 : Int32), f_X5_changeFor S R I   a0 a1 x2 = some r → Wk E 4 p l e ({ frames := 3, cells := 0, slots := 0, locals := 72 } : Room) s m args below meth c 0 0 (MQ below (Qw E S R I (some (.int r))) args s 0 0 (fun q => E.1 ≤ q)) 0 [(0, .ref (E.1 + a0)), (1, .ref (E.1 + a1)), (2, .int x2)] [] S R I := by
  intro a0 a1 x2 h
  rw [f_X5_changeFor] at h
  refine k_iconst (pc := 0) C (v := (0 : Int32)) dX5_changeFor_0 (by decide) ?_
  refine k_istoren (pc := 1) C dX5_changeFor_1 (i := 3) rfl (by decide) (L2 := [(0, .ref (E.1 + a0)), (1, .ref (E.1 + a1)), (2, .int x2), (3, .int (0 : Int32))]) rfl ?_
  exact b_X5_changeFor_2 C hr hk  _ _ _ _ _ h
theorem c_X5_changeFor {E : Ev} {l : Launch} {S : Sh} {R : Rw} {I : Iw} {a0 : Nat} {a1 : Nat} {x2 : Int32} {r : Int32} (h : f_X5_changeFor S R I a0 a1 x2 = some r) : Mt E l yX5_changeFor cX5_changeFor 4 (some .int) 3 72 [.ref (E.1 + a0), .ref (E.1 + a1), .int x2] S R I S R I (some (.int r)) 0 0 := mt_of (by decide) (Nat.le_of_ble_eq_true rfl) (fun p e s m args below meth c C hr hk hn => b_X5_changeFor C hr hk _ _ _ h)
