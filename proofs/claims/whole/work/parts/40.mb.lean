/-! X12_may, X12_tops, X12_out, X12_home, X12_wentFor, X12_go, X12_come, X12_line, X12_paid, X12_inMany, X12_waysOn -/
theorem dX12_may_0 : decode cX12_may 0 = .ok (.iconst 0, 1) := by decide +kernel
theorem dX12_may_1 : decode cX12_may 1 = .ok (.istore_n 1, 1) := by decide +kernel
theorem dX12_may_2 : decode cX12_may 2 = .ok (.iconst 0, 1) := by decide +kernel
theorem dX12_may_3 : decode cX12_may 3 = .ok (.istore_n 2, 1) := by decide +kernel
theorem dX12_may_4 : decode cX12_may 4 = .ok (.iload_n 2, 1) := by decide +kernel
theorem dX12_may_5 : decode cX12_may 5 = .ok (.aload_n 0, 1) := by decide +kernel
theorem dX12_may_6 : decode cX12_may 6 = .ok (.getfield 9, 3) := by decide +kernel
theorem dX12_may_9 : decode cX12_may 9 = .ok (.iconst 3, 1) := by decide +kernel
theorem dX12_may_10 : decode cX12_may 10 = .ok (.iaload, 1) := by decide +kernel
theorem dX12_may_11 : decode cX12_may 11 = .ok (.if_icmp .ge 27, 3) := by decide +kernel
theorem dX12_may_14 : decode cX12_may 14 = .ok (.iload_n 1, 1) := by decide +kernel
theorem dX12_may_15 : decode cX12_may 15 = .ok (.aload_n 0, 1) := by decide +kernel
theorem dX12_may_16 : decode cX12_may 16 = .ok (.iload_n 2, 1) := by decide +kernel
theorem dX12_may_17 : decode cX12_may 17 = .ok (.invokevirtual 257, 3) := by decide +kernel
theorem dX12_may_20 : decode cX12_may 20 = .ok (.ifCond .eq 9, 3) := by decide +kernel
theorem dX12_may_23 : decode cX12_may 23 = .ok (.iconst 1, 1) := by decide +kernel
theorem dX12_may_24 : decode cX12_may 24 = .ok (.iload_n 2, 1) := by decide +kernel
theorem dX12_may_25 : decode cX12_may 25 = .ok (.ishl, 1) := by decide +kernel
theorem dX12_may_26 : decode cX12_may 26 = .ok (.goto 4, 3) := by decide +kernel
theorem dX12_may_29 : decode cX12_may 29 = .ok (.iconst 0, 1) := by decide +kernel
theorem dX12_may_30 : decode cX12_may 30 = .ok (.ior, 1) := by decide +kernel
theorem dX12_may_31 : decode cX12_may 31 = .ok (.istore_n 1, 1) := by decide +kernel
theorem dX12_may_32 : decode cX12_may 32 = .ok (.iinc 2 1, 3) := by decide +kernel
theorem dX12_may_35 : decode cX12_may 35 = .ok (.goto (-31), 3) := by decide +kernel
theorem dX12_may_38 : decode cX12_may 38 = .ok (.iload_n 1, 1) := by decide +kernel
theorem dX12_may_39 : decode cX12_may 39 = .ok (.ireturn, 1) := by decide +kernel
def f_X12_may_30 (S : Sh) (R : Rw) (I : Iw) (ko4 : Nat → Int32 → Int32 → Option (Int32)) (a0 : Nat) (x2 : Int32) (s0 : Int32) (s1 : Int32) : Option (Int32) := ko4 a0 (s1 ||| s0) (x2 + (1 : Int32))
set_option maxHeartbeats 4000000 in
theorem b_X12_may_30 {E : Ev} {p : Program} {l : Launch} {e : Env} {s : State} {m : MethodId} {args : Array Value} {below : List Frame} {meth : Method} {c : Code} (C : Cx E RX12 cX12_may 3 p s m c) (hr : meth.sig.returnType = (some .int)) (hk : meth.locks = false) {S : Sh} {R : Rw} {I : Iw} {r : Int32}  {ko4 : Nat → Int32 → Int32 → Option (Int32)} (hko4 : ∀ (a0 : Nat) (x1 : Int32) (x2 : Int32), ko4 a0 x1 x2 = some r → Wk E 3 p l e ({ frames := 5, cells := 0, slots := 0, locals := 111 } : Room) s m args below meth c 0 0 (MQ below (Qw E S R I (some (.int r))) args s 0 0 (fun q => E.1 ≤ q)) 4 [(0, .ref (E.1 + a0)), (1, .int x1), (2, .int x2)] [] S R I) : ∀ (a0 : Nat) (x2 : Int32) (s0 : Int32) (s1 : Int32), f_X12_may_30 S R I ko4  a0 x2 s0 s1 = some r → Wk E 3 p l e ({ frames := 5, cells := 0, slots := 0, locals := 111 } : Room) s m args below meth c 0 0 (MQ below (Qw E S R I (some (.int r))) args s 0 0 (fun q => E.1 ≤ q)) 30 [(0, .ref (E.1 + a0)), (2, .int x2)] [.int s0, .int s1] S R I := by
  intro a0 x2 s0 s1 h
  rw [f_X12_may_30] at h
  refine k_ior (pc := 30) C dX12_may_30 ?_
  refine k_istoren (pc := 31) C dX12_may_31 (i := 1) rfl (by decide) (L2 := [(0, .ref (E.1 + a0)), (1, .int (s1 ||| s0)), (2, .int x2)]) rfl ?_
  refine k_iinc (pc := 32) C dX12_may_32 2 rfl (v := x2 + (1 : Int32)) (by rfl) (by decide) (L2 := [(0, .ref (E.1 + a0)), (1, .int (s1 ||| s0)), (2, .int (x2 + (1 : Int32)))]) rfl ?_
  refine k_goto (pc := 35) C dX12_may_35 (tgt := 4) (by decide) ?_
  exact hko4 _ _ _ h
def f_X12_may_4 (S : Sh) (R : Rw) (I : Iw)  : Nat → Nat → Int32 → Int32 → Option (Int32)
  | 0, _, _, _ => none
  | n + 1, a0, x1, x2 => gp (sok S a0 12 34) (rl (R a0 0) (fun b2 => gp (aok S 20 b2 (3 : Int32)) ((if (I b2 (3 : Int32).toNatClampNeg) ≤ x2 then some x1 else bd (f_X12_mayGo S R I a0 x2) (fun r5 => (if r5 = 0 then f_X12_may_30 S R I (f_X12_may_4 S R I  n) a0 x2 (0 : Int32) x1 else f_X12_may_30 S R I (f_X12_may_4 S R I  n) a0 x2 ((1 : Int32) <<< (x2 &&& 31)) x1))))))
set_option maxHeartbeats 4000000 in
theorem b_X12_may_4 {E : Ev} {p : Program} {l : Launch} {e : Env} {s : State} {m : MethodId} {args : Array Value} {below : List Frame} {meth : Method} {c : Code} (C : Cx E RX12 cX12_may 3 p s m c) (hr : meth.sig.returnType = (some .int)) (hk : meth.locks = false) {S : Sh} {R : Rw} {I : Iw} {r : Int32}  : ∀ (n : Nat) (a0 : Nat) (x1 : Int32) (x2 : Int32), f_X12_may_4 S R I  n a0 x1 x2 = some r → Wk E 3 p l e ({ frames := 5, cells := 0, slots := 0, locals := 111 } : Room) s m args below meth c 0 0 (MQ below (Qw E S R I (some (.int r))) args s 0 0 (fun q => E.1 ≤ q)) 4 [(0, .ref (E.1 + a0)), (1, .int x1), (2, .int x2)] [] S R I := by
  intro n
  induction n with
  | zero =>
    intro a0 x1 x2 h
    rw [f_X12_may_4] at h
    cases h
  | succ n ih =>
    intro a0 x1 x2 h
    rw [f_X12_may_4] at h
    refine k_iloadn (pc := 4) C dX12_may_4 (i := 2) rfl 2 rfl ?_
    refine k_aloadn (pc := 5) C dX12_may_5 (i := 0) rfl 0 rfl ?_
    obtain ⟨hs10, h⟩ := gp_e h
    have hs1 := sok_e hs10
    obtain ⟨b2, hb2, h⟩ := rl_e h
    refine k_getR (pc := 6) C lkF_RX12_9_12 hs1 ir_12_0 hb2 dX12_may_6 ?_
    refine k_iconst (pc := 9) C (v := (3 : Int32)) dX12_may_9 (by decide) ?_
    obtain ⟨ha3, h⟩ := gp_e h
    refine k_iald (pc := 10) C ha3 dX12_may_10 ?_
    refine k_icmp_ge (pc := 11) C dX12_may_11 (tgt := 38) (by decide) (fun hc4 => ?_) (fun hc4 => ?_)
    · rw [if_pos hc4] at h
      refine k_iloadn (pc := 38) C dX12_may_38 (i := 1) rfl 1 rfl ?_
      have h := Option.some.inj h
      subst h
      exact k_iret (pc := 39) C hr hk dX12_may_39
    · rw [if_neg hc4] at h
      refine k_iloadn (pc := 14) C dX12_may_14 (i := 1) rfl 1 rfl ?_
      refine k_aloadn (pc := 15) C dX12_may_15 (i := 0) rfl 0 rfl ?_
      refine k_iloadn (pc := 16) C dX12_may_16 (i := 2) rfl 2 rfl ?_
      obtain ⟨r5, hr5, h⟩ := bd_e h
      refine k_V (pc := 17) (st := [.int x1]) C (c_X12_mayGo hr5) lkV_RX12_257 hs1 rfl rfl rfl (Nat.le_of_ble_eq_true rfl) (Nat.le_of_ble_eq_true rfl) (Nat.le_of_ble_eq_true rfl) (Nat.le_of_ble_eq_true rfl) (Nat.le_of_ble_eq_true rfl) dX12_may_17 ?_
      refine k_nf (cells2 := 0) (slots2 := 0) (st2 := [.int r5, .int x1]) rfl rfl rfl ?_
      refine k_if_eq (pc := 20) C dX12_may_20 (tgt := 29) (by decide) (fun hc6 => ?_) (fun hc6 => ?_)
      · rw [if_pos hc6] at h
        refine k_iconst (pc := 29) C (v := (0 : Int32)) dX12_may_29 (by decide) ?_
        refine k_loc (L2 := [(0, .ref (E.1 + a0)), (2, .int x2)]) [0, 2] rfl ?_
        exact b_X12_may_30 C hr hk ih _ _ _ _ h
      · rw [if_neg hc6] at h
        refine k_iconst (pc := 23) C (v := (1 : Int32)) dX12_may_23 (by decide) ?_
        refine k_iloadn (pc := 24) C dX12_may_24 (i := 2) rfl 2 rfl ?_
        refine k_ishl (pc := 25) C dX12_may_25 ?_
        refine k_goto (pc := 26) C dX12_may_26 (tgt := 30) (by decide) ?_
        refine k_loc (L2 := [(0, .ref (E.1 + a0)), (2, .int x2)]) [0, 2] rfl ?_
        exact b_X12_may_30 C hr hk ih _ _ _ _ h
def f_X12_may (S : Sh) (R : Rw) (I : Iw)  (a0 : Nat) : Option (Int32) := f_X12_may_4 S R I  512 a0 (0 : Int32) (0 : Int32)
set_option maxHeartbeats 4000000 in
theorem b_X12_may {E : Ev} {p : Program} {l : Launch} {e : Env} {s : State} {m : MethodId} {args : Array Value} {below : List Frame} {meth : Method} {c : Code} (C : Cx E RX12 cX12_may 3 p s m c) (hr : meth.sig.returnType = (some .int)) (hk : meth.locks = false) {S : Sh} {R : Rw} {I : Iw} {r : Int32}  : ∀ (a0 : Nat), f_X12_may S R I   a0 = some r → Wk E 3 p l e ({ frames := 5, cells := 0, slots := 0, locals := 111 } : Room) s m args below meth c 0 0 (MQ below (Qw E S R I (some (.int r))) args s 0 0 (fun q => E.1 ≤ q)) 0 [(0, .ref (E.1 + a0))] [] S R I := by
  intro a0 h
  rw [f_X12_may] at h
  refine k_iconst (pc := 0) C (v := (0 : Int32)) dX12_may_0 (by decide) ?_
  refine k_istoren (pc := 1) C dX12_may_1 (i := 1) rfl (by decide) (L2 := [(0, .ref (E.1 + a0)), (1, .int (0 : Int32))]) rfl ?_
  refine k_iconst (pc := 2) C (v := (0 : Int32)) dX12_may_2 (by decide) ?_
  refine k_istoren (pc := 3) C dX12_may_3 (i := 2) rfl (by decide) (L2 := [(0, .ref (E.1 + a0)), (1, .int (0 : Int32)), (2, .int (0 : Int32))]) rfl ?_
  exact b_X12_may_4 C hr hk  _ _ _ _ h
theorem c_X12_may {E : Ev} {l : Launch} {S : Sh} {R : Rw} {I : Iw} {a0 : Nat} {r : Int32} (h : f_X12_may S R I a0 = some r) : Mt E l yX12_may cX12_may 3 (some .int) 5 111 [.ref (E.1 + a0)] S R I S R I (some (.int r)) 0 0 := mt_of (by decide) (Nat.le_of_ble_eq_true rfl) (fun p e s m args below meth c C hr hk hn => b_X12_may C hr hk _ h)
theorem dX12_tops_0 : decode cX12_tops 0 = .ok (.iconst 0, 1) := by decide +kernel
theorem dX12_tops_1 : decode cX12_tops 1 = .ok (.istore_n 1, 1) := by decide +kernel
theorem dX12_tops_2 : decode cX12_tops 2 = .ok (.iconst 0, 1) := by decide +kernel
theorem dX12_tops_3 : decode cX12_tops 3 = .ok (.istore_n 2, 1) := by decide +kernel
theorem dX12_tops_4 : decode cX12_tops 4 = .ok (.iload_n 2, 1) := by decide +kernel
theorem dX12_tops_5 : decode cX12_tops 5 = .ok (.aload_n 0, 1) := by decide +kernel
theorem dX12_tops_6 : decode cX12_tops 6 = .ok (.getfield 9, 3) := by decide +kernel
theorem dX12_tops_9 : decode cX12_tops 9 = .ok (.iconst 3, 1) := by decide +kernel
theorem dX12_tops_10 : decode cX12_tops 10 = .ok (.iaload, 1) := by decide +kernel
theorem dX12_tops_11 : decode cX12_tops 11 = .ok (.if_icmp .ge 27, 3) := by decide +kernel
theorem dX12_tops_14 : decode cX12_tops 14 = .ok (.iload_n 1, 1) := by decide +kernel
theorem dX12_tops_15 : decode cX12_tops 15 = .ok (.aload_n 0, 1) := by decide +kernel
theorem dX12_tops_16 : decode cX12_tops 16 = .ok (.iload_n 2, 1) := by decide +kernel
theorem dX12_tops_17 : decode cX12_tops 17 = .ok (.invokevirtual 245, 3) := by decide +kernel
theorem dX12_tops_20 : decode cX12_tops 20 = .ok (.ifCond .eq 9, 3) := by decide +kernel
theorem dX12_tops_23 : decode cX12_tops 23 = .ok (.iconst 1, 1) := by decide +kernel
theorem dX12_tops_24 : decode cX12_tops 24 = .ok (.iload_n 2, 1) := by decide +kernel
theorem dX12_tops_25 : decode cX12_tops 25 = .ok (.ishl, 1) := by decide +kernel
theorem dX12_tops_26 : decode cX12_tops 26 = .ok (.goto 4, 3) := by decide +kernel
theorem dX12_tops_29 : decode cX12_tops 29 = .ok (.iconst 0, 1) := by decide +kernel
theorem dX12_tops_30 : decode cX12_tops 30 = .ok (.ior, 1) := by decide +kernel
theorem dX12_tops_31 : decode cX12_tops 31 = .ok (.istore_n 1, 1) := by decide +kernel
theorem dX12_tops_32 : decode cX12_tops 32 = .ok (.iinc 2 1, 3) := by decide +kernel
theorem dX12_tops_35 : decode cX12_tops 35 = .ok (.goto (-31), 3) := by decide +kernel
theorem dX12_tops_38 : decode cX12_tops 38 = .ok (.iload_n 1, 1) := by decide +kernel
theorem dX12_tops_39 : decode cX12_tops 39 = .ok (.ireturn, 1) := by decide +kernel
def f_X12_tops_30 (S : Sh) (R : Rw) (I : Iw) (ko4 : Nat → Int32 → Int32 → Option (Int32)) (a0 : Nat) (x2 : Int32) (s0 : Int32) (s1 : Int32) : Option (Int32) := ko4 a0 (s1 ||| s0) (x2 + (1 : Int32))
set_option maxHeartbeats 4000000 in
theorem b_X12_tops_30 {E : Ev} {p : Program} {l : Launch} {e : Env} {s : State} {m : MethodId} {args : Array Value} {below : List Frame} {meth : Method} {c : Code} (C : Cx E RX12 cX12_tops 3 p s m c) (hr : meth.sig.returnType = (some .int)) (hk : meth.locks = false) {S : Sh} {R : Rw} {I : Iw} {r : Int32}  {ko4 : Nat → Int32 → Int32 → Option (Int32)} (hko4 : ∀ (a0 : Nat) (x1 : Int32) (x2 : Int32), ko4 a0 x1 x2 = some r → Wk E 3 p l e ({ frames := 4, cells := 0, slots := 0, locals := 87 } : Room) s m args below meth c 0 0 (MQ below (Qw E S R I (some (.int r))) args s 0 0 (fun q => E.1 ≤ q)) 4 [(0, .ref (E.1 + a0)), (1, .int x1), (2, .int x2)] [] S R I) : ∀ (a0 : Nat) (x2 : Int32) (s0 : Int32) (s1 : Int32), f_X12_tops_30 S R I ko4  a0 x2 s0 s1 = some r → Wk E 3 p l e ({ frames := 4, cells := 0, slots := 0, locals := 87 } : Room) s m args below meth c 0 0 (MQ below (Qw E S R I (some (.int r))) args s 0 0 (fun q => E.1 ≤ q)) 30 [(0, .ref (E.1 + a0)), (2, .int x2)] [.int s0, .int s1] S R I := by
  intro a0 x2 s0 s1 h
  rw [f_X12_tops_30] at h
  refine k_ior (pc := 30) C dX12_tops_30 ?_
  refine k_istoren (pc := 31) C dX12_tops_31 (i := 1) rfl (by decide) (L2 := [(0, .ref (E.1 + a0)), (1, .int (s1 ||| s0)), (2, .int x2)]) rfl ?_
  refine k_iinc (pc := 32) C dX12_tops_32 2 rfl (v := x2 + (1 : Int32)) (by rfl) (by decide) (L2 := [(0, .ref (E.1 + a0)), (1, .int (s1 ||| s0)), (2, .int (x2 + (1 : Int32)))]) rfl ?_
  refine k_goto (pc := 35) C dX12_tops_35 (tgt := 4) (by decide) ?_
  exact hko4 _ _ _ h
def f_X12_tops_4 (S : Sh) (R : Rw) (I : Iw)  : Nat → Nat → Int32 → Int32 → Option (Int32)
  | 0, _, _, _ => none
  | n + 1, a0, x1, x2 => gp (sok S a0 12 34) (rl (R a0 0) (fun b2 => gp (aok S 20 b2 (3 : Int32)) ((if (I b2 (3 : Int32).toNatClampNeg) ≤ x2 then some x1 else bd (f_X12_isTop S R I a0 x2) (fun r5 => (if r5 = 0 then f_X12_tops_30 S R I (f_X12_tops_4 S R I  n) a0 x2 (0 : Int32) x1 else f_X12_tops_30 S R I (f_X12_tops_4 S R I  n) a0 x2 ((1 : Int32) <<< (x2 &&& 31)) x1))))))
set_option maxHeartbeats 4000000 in
theorem b_X12_tops_4 {E : Ev} {p : Program} {l : Launch} {e : Env} {s : State} {m : MethodId} {args : Array Value} {below : List Frame} {meth : Method} {c : Code} (C : Cx E RX12 cX12_tops 3 p s m c) (hr : meth.sig.returnType = (some .int)) (hk : meth.locks = false) {S : Sh} {R : Rw} {I : Iw} {r : Int32}  : ∀ (n : Nat) (a0 : Nat) (x1 : Int32) (x2 : Int32), f_X12_tops_4 S R I  n a0 x1 x2 = some r → Wk E 3 p l e ({ frames := 4, cells := 0, slots := 0, locals := 87 } : Room) s m args below meth c 0 0 (MQ below (Qw E S R I (some (.int r))) args s 0 0 (fun q => E.1 ≤ q)) 4 [(0, .ref (E.1 + a0)), (1, .int x1), (2, .int x2)] [] S R I := by
  intro n
  induction n with
  | zero =>
    intro a0 x1 x2 h
    rw [f_X12_tops_4] at h
    cases h
  | succ n ih =>
    intro a0 x1 x2 h
    rw [f_X12_tops_4] at h
    refine k_iloadn (pc := 4) C dX12_tops_4 (i := 2) rfl 2 rfl ?_
    refine k_aloadn (pc := 5) C dX12_tops_5 (i := 0) rfl 0 rfl ?_
    obtain ⟨hs10, h⟩ := gp_e h
    have hs1 := sok_e hs10
    obtain ⟨b2, hb2, h⟩ := rl_e h
    refine k_getR (pc := 6) C lkF_RX12_9_12 hs1 ir_12_0 hb2 dX12_tops_6 ?_
    refine k_iconst (pc := 9) C (v := (3 : Int32)) dX12_tops_9 (by decide) ?_
    obtain ⟨ha3, h⟩ := gp_e h
    refine k_iald (pc := 10) C ha3 dX12_tops_10 ?_
    refine k_icmp_ge (pc := 11) C dX12_tops_11 (tgt := 38) (by decide) (fun hc4 => ?_) (fun hc4 => ?_)
    · rw [if_pos hc4] at h
      refine k_iloadn (pc := 38) C dX12_tops_38 (i := 1) rfl 1 rfl ?_
      have h := Option.some.inj h
      subst h
      exact k_iret (pc := 39) C hr hk dX12_tops_39
    · rw [if_neg hc4] at h
      refine k_iloadn (pc := 14) C dX12_tops_14 (i := 1) rfl 1 rfl ?_
      refine k_aloadn (pc := 15) C dX12_tops_15 (i := 0) rfl 0 rfl ?_
      refine k_iloadn (pc := 16) C dX12_tops_16 (i := 2) rfl 2 rfl ?_
      obtain ⟨r5, hr5, h⟩ := bd_e h
      refine k_V (pc := 17) (st := [.int x1]) C (c_X12_isTop hr5) lkV_RX12_245 hs1 rfl rfl rfl (Nat.le_of_ble_eq_true rfl) (Nat.le_of_ble_eq_true rfl) (Nat.le_of_ble_eq_true rfl) (Nat.le_of_ble_eq_true rfl) (Nat.le_of_ble_eq_true rfl) dX12_tops_17 ?_
      refine k_nf (cells2 := 0) (slots2 := 0) (st2 := [.int r5, .int x1]) rfl rfl rfl ?_
      refine k_if_eq (pc := 20) C dX12_tops_20 (tgt := 29) (by decide) (fun hc6 => ?_) (fun hc6 => ?_)
      · rw [if_pos hc6] at h
        refine k_iconst (pc := 29) C (v := (0 : Int32)) dX12_tops_29 (by decide) ?_
        refine k_loc (L2 := [(0, .ref (E.1 + a0)), (2, .int x2)]) [0, 2] rfl ?_
        exact b_X12_tops_30 C hr hk ih _ _ _ _ h
      · rw [if_neg hc6] at h
        refine k_iconst (pc := 23) C (v := (1 : Int32)) dX12_tops_23 (by decide) ?_
        refine k_iloadn (pc := 24) C dX12_tops_24 (i := 2) rfl 2 rfl ?_
        refine k_ishl (pc := 25) C dX12_tops_25 ?_
        refine k_goto (pc := 26) C dX12_tops_26 (tgt := 30) (by decide) ?_
        refine k_loc (L2 := [(0, .ref (E.1 + a0)), (2, .int x2)]) [0, 2] rfl ?_
        exact b_X12_tops_30 C hr hk ih _ _ _ _ h
def f_X12_tops (S : Sh) (R : Rw) (I : Iw)  (a0 : Nat) : Option (Int32) := f_X12_tops_4 S R I  512 a0 (0 : Int32) (0 : Int32)
set_option maxHeartbeats 4000000 in
theorem b_X12_tops {E : Ev} {p : Program} {l : Launch} {e : Env} {s : State} {m : MethodId} {args : Array Value} {below : List Frame} {meth : Method} {c : Code} (C : Cx E RX12 cX12_tops 3 p s m c) (hr : meth.sig.returnType = (some .int)) (hk : meth.locks = false) {S : Sh} {R : Rw} {I : Iw} {r : Int32}  : ∀ (a0 : Nat), f_X12_tops S R I   a0 = some r → Wk E 3 p l e ({ frames := 4, cells := 0, slots := 0, locals := 87 } : Room) s m args below meth c 0 0 (MQ below (Qw E S R I (some (.int r))) args s 0 0 (fun q => E.1 ≤ q)) 0 [(0, .ref (E.1 + a0))] [] S R I := by
  intro a0 h
  rw [f_X12_tops] at h
  refine k_iconst (pc := 0) C (v := (0 : Int32)) dX12_tops_0 (by decide) ?_
  refine k_istoren (pc := 1) C dX12_tops_1 (i := 1) rfl (by decide) (L2 := [(0, .ref (E.1 + a0)), (1, .int (0 : Int32))]) rfl ?_
  refine k_iconst (pc := 2) C (v := (0 : Int32)) dX12_tops_2 (by decide) ?_
  refine k_istoren (pc := 3) C dX12_tops_3 (i := 2) rfl (by decide) (L2 := [(0, .ref (E.1 + a0)), (1, .int (0 : Int32)), (2, .int (0 : Int32))]) rfl ?_
  exact b_X12_tops_4 C hr hk  _ _ _ _ h
theorem c_X12_tops {E : Ev} {l : Launch} {S : Sh} {R : Rw} {I : Iw} {a0 : Nat} {r : Int32} (h : f_X12_tops S R I a0 = some r) : Mt E l yX12_tops cX12_tops 3 (some .int) 4 87 [.ref (E.1 + a0)] S R I S R I (some (.int r)) 0 0 := mt_of (by decide) (Nat.le_of_ble_eq_true rfl) (fun p e s m args below meth c C hr hk hn => b_X12_tops C hr hk _ h)
theorem dX12_out_0 : decode cX12_out 0 = .ok (.aload_n 0, 1) := by decide +kernel
theorem dX12_out_1 : decode cX12_out 1 = .ok (.getfield 9, 3) := by decide +kernel
theorem dX12_out_4 : decode cX12_out 4 = .ok (.iload_n 1, 1) := by decide +kernel
theorem dX12_out_5 : decode cX12_out 5 = .ok (.iconst 4, 1) := by decide +kernel
theorem dX12_out_6 : decode cX12_out 6 = .ok (.invokestatic 218, 3) := by decide +kernel
theorem dX12_out_9 : decode cX12_out 9 = .ok (.aload_n 0, 1) := by decide +kernel
theorem dX12_out_10 : decode cX12_out 10 = .ok (.getfield 9, 3) := by decide +kernel
theorem dX12_out_13 : decode cX12_out 13 = .ok (.iconst 5, 1) := by decide +kernel
theorem dX12_out_14 : decode cX12_out 14 = .ok (.iaload, 1) := by decide +kernel
theorem dX12_out_15 : decode cX12_out 15 = .ok (.iastore, 1) := by decide +kernel
theorem dX12_out_16 : decode cX12_out 16 = .ok (.aload_n 0, 1) := by decide +kernel
theorem dX12_out_17 : decode cX12_out 17 = .ok (.getfield 9, 3) := by decide +kernel
theorem dX12_out_20 : decode cX12_out 20 = .ok (.bipush 7, 2) := by decide +kernel
theorem dX12_out_22 : decode cX12_out 22 = .ok (.aload_n 0, 1) := by decide +kernel
theorem dX12_out_23 : decode cX12_out 23 = .ok (.getfield 9, 3) := by decide +kernel
theorem dX12_out_26 : decode cX12_out 26 = .ok (.iconst 5, 1) := by decide +kernel
theorem dX12_out_27 : decode cX12_out 27 = .ok (.iaload, 1) := by decide +kernel
theorem dX12_out_28 : decode cX12_out 28 = .ok (.iadd, 1) := by decide +kernel
theorem dX12_out_29 : decode cX12_out 29 = .ok (.iload_n 1, 1) := by decide +kernel
theorem dX12_out_30 : decode cX12_out 30 = .ok (.iastore, 1) := by decide +kernel
theorem dX12_out_31 : decode cX12_out 31 = .ok (.aload_n 0, 1) := by decide +kernel
theorem dX12_out_32 : decode cX12_out 32 = .ok (.getfield 9, 3) := by decide +kernel
theorem dX12_out_35 : decode cX12_out 35 = .ok (.iconst 5, 1) := by decide +kernel
theorem dX12_out_36 : decode cX12_out 36 = .ok (.dup2, 1) := by decide +kernel
theorem dX12_out_37 : decode cX12_out 37 = .ok (.iaload, 1) := by decide +kernel
theorem dX12_out_38 : decode cX12_out 38 = .ok (.iconst 1, 1) := by decide +kernel
theorem dX12_out_39 : decode cX12_out 39 = .ok (.iadd, 1) := by decide +kernel
theorem dX12_out_40 : decode cX12_out 40 = .ok (.iastore, 1) := by decide +kernel
theorem dX12_out_41 : decode cX12_out 41 = .ok (.return_, 1) := by decide +kernel
def f_X12_out (S : Sh) (R : Rw)  (I : Iw) (a0 : Nat) (x1 : Int32) : Option (Iw) := gp (sok S a0 12 34) (rl (R a0 0) (fun b2 => bd (f_X12_goodAt S R I x1 (4 : Int32)) (fun r3 => rl (R a0 0) (fun b4 => gp (aok S 20 b4 (5 : Int32)) (gp (aok S 20 b2 r3) (lt (up2 I b2 r3.toNatClampNeg (I b4 (5 : Int32).toNatClampNeg)) (fun I7 => rl (R a0 0) (fun b8 => rl (R a0 0) (fun b9 => gp (aok S 20 b9 (5 : Int32)) (gp (aok S 20 b8 ((7 : Int32) + (I7 b9 (5 : Int32).toNatClampNeg))) (lt (up2 I7 b8 ((7 : Int32) + (I7 b9 (5 : Int32).toNatClampNeg)).toNatClampNeg x1) (fun I12 => rl (R a0 0) (fun b13 => gp (aok S 20 b13 (5 : Int32)) (gp (aok S 20 b13 (5 : Int32)) (lt (up2 I12 b13 (5 : Int32).toNatClampNeg ((I12 b13 (5 : Int32).toNatClampNeg) + (1 : Int32))) (fun I16 => some I16))))))))))))))))
set_option maxHeartbeats 4000000 in
theorem b_X12_out {E : Ev} {p : Program} {l : Launch} {e : Env} {s : State} {m : MethodId} {args : Array Value} {below : List Frame} {meth : Method} {c : Code} (C : Cx E RX12 cX12_out 2 p s m c) (hr : meth.sig.returnType = none) (hk : meth.locks = false) {S : Sh} {R : Rw} {r : Iw}  : ∀ (I : Iw) (a0 : Nat) (x1 : Int32), f_X12_out S R   I a0 x1 = some r → Wk E 2 p l e ({ frames := 1, cells := 0, slots := 0, locals := 21 } : Room) s m args below meth c 0 0 (MQ below (Qw E S R r none) args s 0 0 (fun q => E.1 ≤ q)) 0 [(0, .ref (E.1 + a0)), (1, .int x1)] [] S R I := by
  intro I a0 x1 h
  rw [f_X12_out] at h
  refine k_aloadn (pc := 0) C dX12_out_0 (i := 0) rfl 0 rfl ?_
  obtain ⟨hs10, h⟩ := gp_e h
  have hs1 := sok_e hs10
  obtain ⟨b2, hb2, h⟩ := rl_e h
  refine k_getR (pc := 1) C lkF_RX12_9_12 hs1 ir_12_0 hb2 dX12_out_1 ?_
  refine k_iloadn (pc := 4) C dX12_out_4 (i := 1) rfl 1 rfl ?_
  refine k_iconst (pc := 5) C (v := (4 : Int32)) dX12_out_5 (by decide) ?_
  obtain ⟨r3, hr3, h⟩ := bd_e h
  refine k_S (pc := 6) (st := [.ref (E.1 + b2)]) C (c_X12_goodAt hr3) lkS_RX12_218 rfl rfl (Nat.le_of_ble_eq_true rfl) (Nat.le_of_ble_eq_true rfl) (Nat.le_of_ble_eq_true rfl) (Nat.le_of_ble_eq_true rfl) (Nat.le_of_ble_eq_true rfl) dX12_out_6 ?_
  refine k_nf (cells2 := 0) (slots2 := 0) (st2 := [.int r3, .ref (E.1 + b2)]) rfl rfl rfl ?_
  refine k_aloadn (pc := 9) C dX12_out_9 (i := 0) rfl 0 rfl ?_
  obtain ⟨b4, hb4, h⟩ := rl_e h
  refine k_getR (pc := 10) C lkF_RX12_9_12 hs1 ir_12_0 hb4 dX12_out_10 ?_
  refine k_iconst (pc := 13) C (v := (5 : Int32)) dX12_out_13 (by decide) ?_
  obtain ⟨ha5, h⟩ := gp_e h
  refine k_iald (pc := 14) C ha5 dX12_out_14 ?_
  obtain ⟨ha6, h⟩ := gp_e h
  obtain ⟨I7, eI7, h⟩ := lt_e h
  refine k_iast (pc := 15) C ha6 dX12_out_15 ?_
  rw [← eI7]
  refine k_aloadn (pc := 16) C dX12_out_16 (i := 0) rfl 0 rfl ?_
  obtain ⟨b8, hb8, h⟩ := rl_e h
  refine k_getR (pc := 17) C lkF_RX12_9_12 hs1 ir_12_0 hb8 dX12_out_17 ?_
  refine k_bipush (pc := 20) C (v := (7 : Int32)) dX12_out_20 (by decide) ?_
  refine k_aloadn (pc := 22) C dX12_out_22 (i := 0) rfl 0 rfl ?_
  obtain ⟨b9, hb9, h⟩ := rl_e h
  refine k_getR (pc := 23) C lkF_RX12_9_12 hs1 ir_12_0 hb9 dX12_out_23 ?_
  refine k_iconst (pc := 26) C (v := (5 : Int32)) dX12_out_26 (by decide) ?_
  obtain ⟨ha10, h⟩ := gp_e h
  refine k_iald (pc := 27) C ha10 dX12_out_27 ?_
  refine k_iadd (pc := 28) C dX12_out_28 ?_
  refine k_iloadn (pc := 29) C dX12_out_29 (i := 1) rfl 1 rfl ?_
  obtain ⟨ha11, h⟩ := gp_e h
  obtain ⟨I12, eI12, h⟩ := lt_e h
  refine k_iast (pc := 30) C ha11 dX12_out_30 ?_
  rw [← eI12]
  refine k_aloadn (pc := 31) C dX12_out_31 (i := 0) rfl 0 rfl ?_
  obtain ⟨b13, hb13, h⟩ := rl_e h
  refine k_getR (pc := 32) C lkF_RX12_9_12 hs1 ir_12_0 hb13 dX12_out_32 ?_
  refine k_iconst (pc := 35) C (v := (5 : Int32)) dX12_out_35 (by decide) ?_
  refine k_dup2 (pc := 36) C dX12_out_36 rfl rfl ?_
  obtain ⟨ha14, h⟩ := gp_e h
  refine k_iald (pc := 37) C ha14 dX12_out_37 ?_
  refine k_iconst (pc := 38) C (v := (1 : Int32)) dX12_out_38 (by decide) ?_
  refine k_iadd (pc := 39) C dX12_out_39 ?_
  obtain ⟨ha15, h⟩ := gp_e h
  obtain ⟨I16, eI16, h⟩ := lt_e h
  refine k_iast (pc := 40) C ha15 dX12_out_40 ?_
  rw [← eI16]
  have h := Option.some.inj h
  subst h
  exact k_vret (pc := 41) C hr hk dX12_out_41
theorem c_X12_out {E : Ev} {l : Launch} {S : Sh} {R : Rw} {I : Iw} {a0 : Nat} {x1 : Int32} {r : Iw} (h : f_X12_out S R I a0 x1 = some r) : Mt E l yX12_out cX12_out 2 none 1 21 [.ref (E.1 + a0), .int x1] S R I S R r none 0 0 := mt_of (by decide) (Nat.le_of_ble_eq_true rfl) (fun p e s m args below meth c C hr hk hn => b_X12_out C hr hk _ _ _ h)
theorem dX12_home_0 : decode cX12_home 0 = .ok (.aload_n 0, 1) := by decide +kernel
theorem dX12_home_1 : decode cX12_home 1 = .ok (.getfield 9, 3) := by decide +kernel
theorem dX12_home_4 : decode cX12_home 4 = .ok (.iconst 5, 1) := by decide +kernel
theorem dX12_home_5 : decode cX12_home 5 = .ok (.dup2, 1) := by decide +kernel
theorem dX12_home_6 : decode cX12_home 6 = .ok (.iaload, 1) := by decide +kernel
theorem dX12_home_7 : decode cX12_home 7 = .ok (.iconst 1, 1) := by decide +kernel
theorem dX12_home_8 : decode cX12_home 8 = .ok (.isub, 1) := by decide +kernel
theorem dX12_home_9 : decode cX12_home 9 = .ok (.iastore, 1) := by decide +kernel
theorem dX12_home_10 : decode cX12_home 10 = .ok (.aload_n 0, 1) := by decide +kernel
theorem dX12_home_11 : decode cX12_home 11 = .ok (.bipush 7, 2) := by decide +kernel
theorem dX12_home_13 : decode cX12_home 13 = .ok (.aload_n 0, 1) := by decide +kernel
theorem dX12_home_14 : decode cX12_home 14 = .ok (.getfield 9, 3) := by decide +kernel
theorem dX12_home_17 : decode cX12_home 17 = .ok (.iconst 5, 1) := by decide +kernel
theorem dX12_home_18 : decode cX12_home 18 = .ok (.iaload, 1) := by decide +kernel
theorem dX12_home_19 : decode cX12_home 19 = .ok (.iadd, 1) := by decide +kernel
theorem dX12_home_20 : decode cX12_home 20 = .ok (.iconst 0, 1) := by decide +kernel
theorem dX12_home_21 : decode cX12_home 21 = .ok (.invokevirtual 260, 3) := by decide +kernel
theorem dX12_home_24 : decode cX12_home 24 = .ok (.istore_n 1, 1) := by decide +kernel
theorem dX12_home_25 : decode cX12_home 25 = .ok (.aload_n 0, 1) := by decide +kernel
theorem dX12_home_26 : decode cX12_home 26 = .ok (.getfield 9, 3) := by decide +kernel
theorem dX12_home_29 : decode cX12_home 29 = .ok (.iload_n 1, 1) := by decide +kernel
theorem dX12_home_30 : decode cX12_home 30 = .ok (.iconst 4, 1) := by decide +kernel
theorem dX12_home_31 : decode cX12_home 31 = .ok (.invokestatic 218, 3) := by decide +kernel
theorem dX12_home_34 : decode cX12_home 34 = .ok (.bipush (-9), 2) := by decide +kernel
theorem dX12_home_36 : decode cX12_home 36 = .ok (.iastore, 1) := by decide +kernel
theorem dX12_home_37 : decode cX12_home 37 = .ok (.iload_n 1, 1) := by decide +kernel
theorem dX12_home_38 : decode cX12_home 38 = .ok (.ireturn, 1) := by decide +kernel
def f_X12_home (S : Sh) (R : Rw)  (I : Iw) (a0 : Nat) : Option (Iw × Int32) := gp (sok S a0 12 34) (rl (R a0 0) (fun b2 => gp (aok S 20 b2 (5 : Int32)) (gp (aok S 20 b2 (5 : Int32)) (lt (up2 I b2 (5 : Int32).toNatClampNeg ((I b2 (5 : Int32).toNatClampNeg) - (1 : Int32))) (fun I5 => rl (R a0 0) (fun b6 => gp (aok S 20 b6 (5 : Int32)) (bd (f_X12_comes S R I5 a0 ((7 : Int32) + (I5 b6 (5 : Int32).toNatClampNeg)) (0 : Int32)) (fun r8 => rl (R a0 0) (fun b9 => bd (f_X12_goodAt S R r8.1 r8.2 (4 : Int32)) (fun r10 => gp (aok S 20 b9 r10) (lt (up2 r8.1 b9 r10.toNatClampNeg (-9 : Int32)) (fun I12 => some (I12, r8.2)))))))))))))
set_option maxHeartbeats 4000000 in
theorem b_X12_home {E : Ev} {p : Program} {l : Launch} {e : Env} {s : State} {m : MethodId} {args : Array Value} {below : List Frame} {meth : Method} {c : Code} (C : Cx E RX12 cX12_home 2 p s m c) (hr : meth.sig.returnType = (some .int)) (hk : meth.locks = false) {S : Sh} {R : Rw} {r : Iw × Int32}  : ∀ (I : Iw) (a0 : Nat), f_X12_home S R   I a0 = some r → Wk E 2 p l e ({ frames := 1, cells := 0, slots := 0, locals := 23 } : Room) s m args below meth c 0 0 (MQ below (Qw E S R r.1 (some (.int r.2))) args s 0 0 (fun q => E.1 ≤ q)) 0 [(0, .ref (E.1 + a0))] [] S R I := by
  intro I a0 h
  rw [f_X12_home] at h
  refine k_aloadn (pc := 0) C dX12_home_0 (i := 0) rfl 0 rfl ?_
  obtain ⟨hs10, h⟩ := gp_e h
  have hs1 := sok_e hs10
  obtain ⟨b2, hb2, h⟩ := rl_e h
  refine k_getR (pc := 1) C lkF_RX12_9_12 hs1 ir_12_0 hb2 dX12_home_1 ?_
  refine k_iconst (pc := 4) C (v := (5 : Int32)) dX12_home_4 (by decide) ?_
  refine k_dup2 (pc := 5) C dX12_home_5 rfl rfl ?_
  obtain ⟨ha3, h⟩ := gp_e h
  refine k_iald (pc := 6) C ha3 dX12_home_6 ?_
  refine k_iconst (pc := 7) C (v := (1 : Int32)) dX12_home_7 (by decide) ?_
  refine k_isub (pc := 8) C dX12_home_8 ?_
  obtain ⟨ha4, h⟩ := gp_e h
  obtain ⟨I5, eI5, h⟩ := lt_e h
  refine k_iast (pc := 9) C ha4 dX12_home_9 ?_
  rw [← eI5]
  refine k_aloadn (pc := 10) C dX12_home_10 (i := 0) rfl 0 rfl ?_
  refine k_bipush (pc := 11) C (v := (7 : Int32)) dX12_home_11 (by decide) ?_
  refine k_aloadn (pc := 13) C dX12_home_13 (i := 0) rfl 0 rfl ?_
  obtain ⟨b6, hb6, h⟩ := rl_e h
  refine k_getR (pc := 14) C lkF_RX12_9_12 hs1 ir_12_0 hb6 dX12_home_14 ?_
  refine k_iconst (pc := 17) C (v := (5 : Int32)) dX12_home_17 (by decide) ?_
  obtain ⟨ha7, h⟩ := gp_e h
  refine k_iald (pc := 18) C ha7 dX12_home_18 ?_
  refine k_iadd (pc := 19) C dX12_home_19 ?_
  refine k_iconst (pc := 20) C (v := (0 : Int32)) dX12_home_20 (by decide) ?_
  obtain ⟨r8, hr8, h⟩ := bd_e h
  refine k_V (pc := 21) (st := []) C (c_X12_comes hr8) lkV_RX12_260 hs1 rfl rfl rfl (Nat.le_of_ble_eq_true rfl) (Nat.le_of_ble_eq_true rfl) (Nat.le_of_ble_eq_true rfl) (Nat.le_of_ble_eq_true rfl) (Nat.le_of_ble_eq_true rfl) dX12_home_21 ?_
  refine k_nf (cells2 := 0) (slots2 := 0) (st2 := [.int r8.2]) rfl rfl rfl ?_
  refine k_istoren (pc := 24) C dX12_home_24 (i := 1) rfl (by decide) (L2 := [(0, .ref (E.1 + a0)), (1, .int r8.2)]) rfl ?_
  refine k_aloadn (pc := 25) C dX12_home_25 (i := 0) rfl 0 rfl ?_
  obtain ⟨b9, hb9, h⟩ := rl_e h
  refine k_getR (pc := 26) C lkF_RX12_9_12 hs1 ir_12_0 hb9 dX12_home_26 ?_
  refine k_iloadn (pc := 29) C dX12_home_29 (i := 1) rfl 1 rfl ?_
  refine k_iconst (pc := 30) C (v := (4 : Int32)) dX12_home_30 (by decide) ?_
  obtain ⟨r10, hr10, h⟩ := bd_e h
  refine k_S (pc := 31) (st := [.ref (E.1 + b9)]) C (c_X12_goodAt hr10) lkS_RX12_218 rfl rfl (Nat.le_of_ble_eq_true rfl) (Nat.le_of_ble_eq_true rfl) (Nat.le_of_ble_eq_true rfl) (Nat.le_of_ble_eq_true rfl) (Nat.le_of_ble_eq_true rfl) dX12_home_31 ?_
  refine k_nf (cells2 := 0) (slots2 := 0) (st2 := [.int r10, .ref (E.1 + b9)]) rfl rfl rfl ?_
  refine k_bipush (pc := 34) C (v := (-9 : Int32)) dX12_home_34 (by decide) ?_
  obtain ⟨ha11, h⟩ := gp_e h
  obtain ⟨I12, eI12, h⟩ := lt_e h
  refine k_iast (pc := 36) C ha11 dX12_home_36 ?_
  rw [← eI12]
  refine k_iloadn (pc := 37) C dX12_home_37 (i := 1) rfl 1 rfl ?_
  have h := Option.some.inj h
  subst h
  exact k_iret (pc := 38) C hr hk dX12_home_38
theorem c_X12_home {E : Ev} {l : Launch} {S : Sh} {R : Rw} {I : Iw} {a0 : Nat} {r : Iw × Int32} (h : f_X12_home S R I a0 = some r) : Mt E l yX12_home cX12_home 2 (some .int) 1 23 [.ref (E.1 + a0)] S R I S R r.1 (some (.int r.2)) 0 0 := mt_of (by decide) (Nat.le_of_ble_eq_true rfl) (fun p e s m args below meth c C hr hk hn => b_X12_home C hr hk _ _ h)
theorem lkV_RX12_263 : LkV RX12 263 RX12 yX12_out cX12_out 2 none 1 := ⟨(t6_in 130 (by decide +kernel) rfl), (t6_in 132 (by decide +kernel) rfl), (t0_in 54 (by decide +kernel) rfl), (t6_in 133 (by decide +kernel) rfl), (t1_in 7 (by decide +kernel) rfl), by decide, by decide +kernel⟩
theorem dX12_wentFor_0 : decode cX12_wentFor 0 = .ok (.aload_n 0, 1) := by decide +kernel
theorem dX12_wentFor_1 : decode cX12_wentFor 1 = .ok (.iload_n 1, 1) := by decide +kernel
theorem dX12_wentFor_2 : decode cX12_wentFor 2 = .ok (.invokevirtual 254, 3) := by decide +kernel
theorem dX12_wentFor_5 : decode cX12_wentFor 5 = .ok (.istore_n 2, 1) := by decide +kernel
theorem dX12_wentFor_6 : decode cX12_wentFor 6 = .ok (.aload_n 0, 1) := by decide +kernel
theorem dX12_wentFor_7 : decode cX12_wentFor 7 = .ok (.iload_n 1, 1) := by decide +kernel
theorem dX12_wentFor_8 : decode cX12_wentFor 8 = .ok (.invokevirtual 263, 3) := by decide +kernel
theorem dX12_wentFor_11 : decode cX12_wentFor 11 = .ok (.iload_n 2, 1) := by decide +kernel
theorem dX12_wentFor_12 : decode cX12_wentFor 12 = .ok (.ireturn, 1) := by decide +kernel
def f_X12_wentFor (S : Sh) (R : Rw)  (I : Iw) (a0 : Nat) (x1 : Int32) : Option (Iw × Int32) := gp (sok S a0 12 34) (bd (f_X12_fee S R I a0 x1) (fun r2 => bd (f_X12_out S R r2.1 a0 x1) (fun r3 => some (r3, r2.2))))
set_option maxHeartbeats 4000000 in
theorem b_X12_wentFor {E : Ev} {p : Program} {l : Launch} {e : Env} {s : State} {m : MethodId} {args : Array Value} {below : List Frame} {meth : Method} {c : Code} (C : Cx E RX12 cX12_wentFor 3 p s m c) (hr : meth.sig.returnType = (some .int)) (hk : meth.locks = false) {S : Sh} {R : Rw} {r : Iw × Int32}  : ∀ (I : Iw) (a0 : Nat) (x1 : Int32), f_X12_wentFor S R   I a0 x1 = some r → Wk E 3 p l e ({ frames := 6, cells := 0, slots := 0, locals := 138 } : Room) s m args below meth c 0 0 (MQ below (Qw E S R r.1 (some (.int r.2))) args s 0 0 (fun q => E.1 ≤ q)) 0 [(0, .ref (E.1 + a0)), (1, .int x1)] [] S R I := by
  intro I a0 x1 h
  rw [f_X12_wentFor] at h
  refine k_aloadn (pc := 0) C dX12_wentFor_0 (i := 0) rfl 0 rfl ?_
  refine k_iloadn (pc := 1) C dX12_wentFor_1 (i := 1) rfl 1 rfl ?_
  obtain ⟨hs10, h⟩ := gp_e h
  have hs1 := sok_e hs10
  obtain ⟨r2, hr2, h⟩ := bd_e h
  refine k_V (pc := 2) (st := []) C (c_X12_fee hr2) lkV_RX12_254 hs1 rfl rfl rfl (Nat.le_of_ble_eq_true rfl) (Nat.le_of_ble_eq_true rfl) (Nat.le_of_ble_eq_true rfl) (Nat.le_of_ble_eq_true rfl) (Nat.le_of_ble_eq_true rfl) dX12_wentFor_2 ?_
  refine k_nf (cells2 := 0) (slots2 := 0) (st2 := [.int r2.2]) rfl rfl rfl ?_
  refine k_istoren (pc := 5) C dX12_wentFor_5 (i := 2) rfl (by decide) (L2 := [(0, .ref (E.1 + a0)), (1, .int x1), (2, .int r2.2)]) rfl ?_
  refine k_aloadn (pc := 6) C dX12_wentFor_6 (i := 0) rfl 0 rfl ?_
  refine k_iloadn (pc := 7) C dX12_wentFor_7 (i := 1) rfl 1 rfl ?_
  obtain ⟨r3, hr3, h⟩ := bd_e h
  refine k_V (pc := 8) (st := []) C (c_X12_out hr3) lkV_RX12_263 hs1 rfl rfl rfl (Nat.le_of_ble_eq_true rfl) (Nat.le_of_ble_eq_true rfl) (Nat.le_of_ble_eq_true rfl) (Nat.le_of_ble_eq_true rfl) (Nat.le_of_ble_eq_true rfl) dX12_wentFor_8 ?_
  refine k_nf (cells2 := 0) (slots2 := 0) (st2 := []) rfl rfl rfl ?_
  refine k_iloadn (pc := 11) C dX12_wentFor_11 (i := 2) rfl 2 rfl ?_
  have h := Option.some.inj h
  subst h
  exact k_iret (pc := 12) C hr hk dX12_wentFor_12
theorem c_X12_wentFor {E : Ev} {l : Launch} {S : Sh} {R : Rw} {I : Iw} {a0 : Nat} {x1 : Int32} {r : Iw × Int32} (h : f_X12_wentFor S R I a0 x1 = some r) : Mt E l yX12_wentFor cX12_wentFor 3 (some .int) 6 138 [.ref (E.1 + a0), .int x1] S R I S R r.1 (some (.int r.2)) 0 0 := mt_of (by decide) (Nat.le_of_ble_eq_true rfl) (fun p e s m args below meth c C hr hk hn => b_X12_wentFor C hr hk _ _ _ h)
theorem lkV_RX12_266 : LkV RX12 266 RX12 yX12_wentFor cX12_wentFor 3 (some .int) 1 := ⟨(t6_in 126 (by decide +kernel) rfl), (t6_in 128 (by decide +kernel) rfl), (t0_in 53 (by decide +kernel) rfl), (t6_in 129 (by decide +kernel) rfl), (t1_in 7 (by decide +kernel) rfl), by decide, by decide +kernel⟩
theorem dX12_go_0 : decode cX12_go 0 = .ok (.aload_n 0, 1) := by decide +kernel
theorem dX12_go_1 : decode cX12_go 1 = .ok (.iload_n 1, 1) := by decide +kernel
theorem dX12_go_2 : decode cX12_go 2 = .ok (.iconst 3, 1) := by decide +kernel
theorem dX12_go_3 : decode cX12_go 3 = .ok (.invokevirtual 251, 3) := by decide +kernel
theorem dX12_go_6 : decode cX12_go 6 = .ok (.ifCond .ne 7, 3) := by decide +kernel
theorem dX12_go_9 : decode cX12_go 9 = .ok (.iconst (-1), 1) := by decide +kernel
theorem dX12_go_10 : decode cX12_go 10 = .ok (.goto 21, 3) := by decide +kernel
theorem dX12_go_13 : decode cX12_go 13 = .ok (.aload_n 0, 1) := by decide +kernel
theorem dX12_go_14 : decode cX12_go 14 = .ok (.iload_n 1, 1) := by decide +kernel
theorem dX12_go_15 : decode cX12_go 15 = .ok (.invokevirtual 257, 3) := by decide +kernel
theorem dX12_go_18 : decode cX12_go 18 = .ok (.ifCond .eq 11, 3) := by decide +kernel
theorem dX12_go_21 : decode cX12_go 21 = .ok (.aload_n 0, 1) := by decide +kernel
theorem dX12_go_22 : decode cX12_go 22 = .ok (.iload_n 1, 1) := by decide +kernel
theorem dX12_go_23 : decode cX12_go 23 = .ok (.invokevirtual 266, 3) := by decide +kernel
theorem dX12_go_26 : decode cX12_go 26 = .ok (.goto 5, 3) := by decide +kernel
theorem dX12_go_29 : decode cX12_go 29 = .ok (.bipush (-4), 2) := by decide +kernel
theorem dX12_go_31 : decode cX12_go 31 = .ok (.ireturn, 1) := by decide +kernel
def f_X12_go (S : Sh) (R : Rw)  (I : Iw) (a0 : Nat) (x1 : Int32) : Option (Iw × Int32) := gp (sok S a0 12 34) (bd (f_X12_is S R I a0 x1 (3 : Int32)) (fun r2 => (if r2 = 0 then some (I, (-1 : Int32)) else bd (f_X12_mayGo S R I a0 x1) (fun r4 => (if r4 = 0 then some (I, (-4 : Int32)) else bd (f_X12_wentFor S R I a0 x1) (fun r6 => some (r6.1, r6.2)))))))
set_option maxHeartbeats 4000000 in
theorem b_X12_go {E : Ev} {p : Program} {l : Launch} {e : Env} {s : State} {m : MethodId} {args : Array Value} {below : List Frame} {meth : Method} {c : Code} (C : Cx E RX12 cX12_go 2 p s m c) (hr : meth.sig.returnType = (some .int)) (hk : meth.locks = false) {S : Sh} {R : Rw} {r : Iw × Int32}  : ∀ (I : Iw) (a0 : Nat) (x1 : Int32), f_X12_go S R   I a0 x1 = some r → Wk E 2 p l e ({ frames := 7, cells := 0, slots := 0, locals := 160 } : Room) s m args below meth c 0 0 (MQ below (Qw E S R r.1 (some (.int r.2))) args s 0 0 (fun q => E.1 ≤ q)) 0 [(0, .ref (E.1 + a0)), (1, .int x1)] [] S R I := by
  intro I a0 x1 h
  rw [f_X12_go] at h
  refine k_aloadn (pc := 0) C dX12_go_0 (i := 0) rfl 0 rfl ?_
  refine k_iloadn (pc := 1) C dX12_go_1 (i := 1) rfl 1 rfl ?_
  refine k_iconst (pc := 2) C (v := (3 : Int32)) dX12_go_2 (by decide) ?_
  obtain ⟨hs10, h⟩ := gp_e h
  have hs1 := sok_e hs10
  obtain ⟨r2, hr2, h⟩ := bd_e h
  refine k_V (pc := 3) (st := []) C (c_X12_is hr2) lkV_RX12_251 hs1 rfl rfl rfl (Nat.le_of_ble_eq_true rfl) (Nat.le_of_ble_eq_true rfl) (Nat.le_of_ble_eq_true rfl) (Nat.le_of_ble_eq_true rfl) (Nat.le_of_ble_eq_true rfl) dX12_go_3 ?_
  refine k_nf (cells2 := 0) (slots2 := 0) (st2 := [.int r2]) rfl rfl rfl ?_
  refine k_if_ne (pc := 6) C dX12_go_6 (tgt := 13) (by decide) (fun hc3 => ?_) (fun hc3 => ?_)
  · rw [if_neg hc3] at h
    refine k_aloadn (pc := 13) C dX12_go_13 (i := 0) rfl 0 rfl ?_
    refine k_iloadn (pc := 14) C dX12_go_14 (i := 1) rfl 1 rfl ?_
    obtain ⟨r4, hr4, h⟩ := bd_e h
    refine k_V (pc := 15) (st := []) C (c_X12_mayGo hr4) lkV_RX12_257 hs1 rfl rfl rfl (Nat.le_of_ble_eq_true rfl) (Nat.le_of_ble_eq_true rfl) (Nat.le_of_ble_eq_true rfl) (Nat.le_of_ble_eq_true rfl) (Nat.le_of_ble_eq_true rfl) dX12_go_15 ?_
    refine k_nf (cells2 := 0) (slots2 := 0) (st2 := [.int r4]) rfl rfl rfl ?_
    refine k_if_eq (pc := 18) C dX12_go_18 (tgt := 29) (by decide) (fun hc5 => ?_) (fun hc5 => ?_)
    · rw [if_pos hc5] at h
      refine k_bipush (pc := 29) C (v := (-4 : Int32)) dX12_go_29 (by decide) ?_
      have h := Option.some.inj h
      subst h
      exact k_iret (pc := 31) C hr hk dX12_go_31
    · rw [if_neg hc5] at h
      refine k_aloadn (pc := 21) C dX12_go_21 (i := 0) rfl 0 rfl ?_
      refine k_iloadn (pc := 22) C dX12_go_22 (i := 1) rfl 1 rfl ?_
      obtain ⟨r6, hr6, h⟩ := bd_e h
      refine k_V (pc := 23) (st := []) C (c_X12_wentFor hr6) lkV_RX12_266 hs1 rfl rfl rfl (Nat.le_of_ble_eq_true rfl) (Nat.le_of_ble_eq_true rfl) (Nat.le_of_ble_eq_true rfl) (Nat.le_of_ble_eq_true rfl) (Nat.le_of_ble_eq_true rfl) dX12_go_23 ?_
      refine k_nf (cells2 := 0) (slots2 := 0) (st2 := [.int r6.2]) rfl rfl rfl ?_
      refine k_goto (pc := 26) C dX12_go_26 (tgt := 31) (by decide) ?_
      have h := Option.some.inj h
      subst h
      exact k_iret (pc := 31) C hr hk dX12_go_31
  · rw [if_pos hc3] at h
    refine k_iconst (pc := 9) C (v := (-1 : Int32)) dX12_go_9 (by decide) ?_
    refine k_goto (pc := 10) C dX12_go_10 (tgt := 31) (by decide) ?_
    have h := Option.some.inj h
    subst h
    exact k_iret (pc := 31) C hr hk dX12_go_31
theorem c_X12_go {E : Ev} {l : Launch} {S : Sh} {R : Rw} {I : Iw} {a0 : Nat} {x1 : Int32} {r : Iw × Int32} (h : f_X12_go S R I a0 x1 = some r) : Mt E l yX12_go cX12_go 2 (some .int) 7 160 [.ref (E.1 + a0), .int x1] S R I S R r.1 (some (.int r.2)) 0 0 := mt_of (by decide) (Nat.le_of_ble_eq_true rfl) (fun p e s m args below meth c C hr hk hn => b_X12_go C hr hk _ _ _ h)
theorem lkV_RX12_269 : LkV RX12 269 RX12 yX12_home cX12_home 2 (some .int) 0 := ⟨(t6_in 138 (by decide +kernel) rfl), (t6_in 140 (by decide +kernel) rfl), (t0_in 55 (by decide +kernel) rfl), (t6_in 141 (by decide +kernel) rfl), (t1_in 7 (by decide +kernel) rfl), by decide, by decide +kernel⟩
theorem dX12_come_0 : decode cX12_come 0 = .ok (.aload_n 0, 1) := by decide +kernel
theorem dX12_come_1 : decode cX12_come 1 = .ok (.getfield 9, 3) := by decide +kernel
theorem dX12_come_4 : decode cX12_come 4 = .ok (.iconst 5, 1) := by decide +kernel
theorem dX12_come_5 : decode cX12_come 5 = .ok (.iaload, 1) := by decide +kernel
theorem dX12_come_6 : decode cX12_come 6 = .ok (.ifCond .ne 8, 3) := by decide +kernel
theorem dX12_come_9 : decode cX12_come 9 = .ok (.bipush (-3), 2) := by decide +kernel
theorem dX12_come_11 : decode cX12_come 11 = .ok (.goto 7, 3) := by decide +kernel
theorem dX12_come_14 : decode cX12_come 14 = .ok (.aload_n 0, 1) := by decide +kernel
theorem dX12_come_15 : decode cX12_come 15 = .ok (.invokevirtual 269, 3) := by decide +kernel
theorem dX12_come_18 : decode cX12_come 18 = .ok (.ireturn, 1) := by decide +kernel
def f_X12_come (S : Sh) (R : Rw)  (I : Iw) (a0 : Nat) : Option (Iw × Int32) := gp (sok S a0 12 34) (rl (R a0 0) (fun b2 => gp (aok S 20 b2 (5 : Int32)) ((if (I b2 (5 : Int32).toNatClampNeg) = 0 then some (I, (-3 : Int32)) else bd (f_X12_home S R I a0) (fun r5 => some (r5.1, r5.2))))))
set_option maxHeartbeats 4000000 in
theorem b_X12_come {E : Ev} {p : Program} {l : Launch} {e : Env} {s : State} {m : MethodId} {args : Array Value} {below : List Frame} {meth : Method} {c : Code} (C : Cx E RX12 cX12_come 1 p s m c) (hr : meth.sig.returnType = (some .int)) (hk : meth.locks = false) {S : Sh} {R : Rw} {r : Iw × Int32}  : ∀ (I : Iw) (a0 : Nat), f_X12_come S R   I a0 = some r → Wk E 1 p l e ({ frames := 2, cells := 0, slots := 0, locals := 44 } : Room) s m args below meth c 0 0 (MQ below (Qw E S R r.1 (some (.int r.2))) args s 0 0 (fun q => E.1 ≤ q)) 0 [(0, .ref (E.1 + a0))] [] S R I := by
  intro I a0 h
  rw [f_X12_come] at h
  refine k_aloadn (pc := 0) C dX12_come_0 (i := 0) rfl 0 rfl ?_
  obtain ⟨hs10, h⟩ := gp_e h
  have hs1 := sok_e hs10
  obtain ⟨b2, hb2, h⟩ := rl_e h
  refine k_getR (pc := 1) C lkF_RX12_9_12 hs1 ir_12_0 hb2 dX12_come_1 ?_
  refine k_iconst (pc := 4) C (v := (5 : Int32)) dX12_come_4 (by decide) ?_
  obtain ⟨ha3, h⟩ := gp_e h
  refine k_iald (pc := 5) C ha3 dX12_come_5 ?_
  refine k_if_ne (pc := 6) C dX12_come_6 (tgt := 14) (by decide) (fun hc4 => ?_) (fun hc4 => ?_)
  · rw [if_neg hc4] at h
    refine k_aloadn (pc := 14) C dX12_come_14 (i := 0) rfl 0 rfl ?_
    obtain ⟨r5, hr5, h⟩ := bd_e h
    refine k_V (pc := 15) (st := []) C (c_X12_home hr5) lkV_RX12_269 hs1 rfl rfl rfl (Nat.le_of_ble_eq_true rfl) (Nat.le_of_ble_eq_true rfl) (Nat.le_of_ble_eq_true rfl) (Nat.le_of_ble_eq_true rfl) (Nat.le_of_ble_eq_true rfl) dX12_come_15 ?_
    refine k_nf (cells2 := 0) (slots2 := 0) (st2 := [.int r5.2]) rfl rfl rfl ?_
    have h := Option.some.inj h
    subst h
    exact k_iret (pc := 18) C hr hk dX12_come_18
  · rw [if_pos hc4] at h
    refine k_bipush (pc := 9) C (v := (-3 : Int32)) dX12_come_9 (by decide) ?_
    refine k_goto (pc := 11) C dX12_come_11 (tgt := 18) (by decide) ?_
    have h := Option.some.inj h
    subst h
    exact k_iret (pc := 18) C hr hk dX12_come_18
theorem c_X12_come {E : Ev} {l : Launch} {S : Sh} {R : Rw} {I : Iw} {a0 : Nat} {r : Iw × Int32} (h : f_X12_come S R I a0 = some r) : Mt E l yX12_come cX12_come 1 (some .int) 2 44 [.ref (E.1 + a0)] S R I S R r.1 (some (.int r.2)) 0 0 := mt_of (by decide) (Nat.le_of_ble_eq_true rfl) (fun p e s m args below meth c C hr hk hn => b_X12_come C hr hk _ _ h)
theorem dX12_line_0 : decode cX12_line 0 = .ok (.aload_n 0, 1) := by decide +kernel
theorem dX12_line_1 : decode cX12_line 1 = .ok (.iload_n 1, 1) := by decide +kernel
theorem dX12_line_2 : decode cX12_line 2 = .ok (.iconst 5, 1) := by decide +kernel
theorem dX12_line_3 : decode cX12_line 3 = .ok (.invokevirtual 251, 3) := by decide +kernel
theorem dX12_line_6 : decode cX12_line 6 = .ok (.ifCond .eq 15, 3) := by decide +kernel
theorem dX12_line_9 : decode cX12_line 9 = .ok (.aload_n 0, 1) := by decide +kernel
theorem dX12_line_10 : decode cX12_line 10 = .ok (.getfield 9, 3) := by decide +kernel
theorem dX12_line_13 : decode cX12_line 13 = .ok (.bipush 7, 2) := by decide +kernel
theorem dX12_line_15 : decode cX12_line 15 = .ok (.iload_n 1, 1) := by decide +kernel
theorem dX12_line_16 : decode cX12_line 16 = .ok (.iadd, 1) := by decide +kernel
theorem dX12_line_17 : decode cX12_line 17 = .ok (.iaload, 1) := by decide +kernel
theorem dX12_line_18 : decode cX12_line 18 = .ok (.goto 5, 3) := by decide +kernel
theorem dX12_line_21 : decode cX12_line 21 = .ok (.bipush (-3), 2) := by decide +kernel
theorem dX12_line_23 : decode cX12_line 23 = .ok (.ireturn, 1) := by decide +kernel
def f_X12_line (S : Sh) (R : Rw) (I : Iw)  (a0 : Nat) (x1 : Int32) : Option (Int32) := gp (sok S a0 12 34) (bd (f_X12_is S R I a0 x1 (5 : Int32)) (fun r2 => (if r2 = 0 then some (-3 : Int32) else rl (R a0 0) (fun b4 => gp (aok S 20 b4 ((7 : Int32) + x1)) (some (I b4 ((7 : Int32) + x1).toNatClampNeg))))))
set_option maxHeartbeats 4000000 in
theorem b_X12_line {E : Ev} {p : Program} {l : Launch} {e : Env} {s : State} {m : MethodId} {args : Array Value} {below : List Frame} {meth : Method} {c : Code} (C : Cx E RX12 cX12_line 2 p s m c) (hr : meth.sig.returnType = (some .int)) (hk : meth.locks = false) {S : Sh} {R : Rw} {I : Iw} {r : Int32}  : ∀ (a0 : Nat) (x1 : Int32), f_X12_line S R I   a0 x1 = some r → Wk E 2 p l e ({ frames := 2, cells := 0, slots := 0, locals := 44 } : Room) s m args below meth c 0 0 (MQ below (Qw E S R I (some (.int r))) args s 0 0 (fun q => E.1 ≤ q)) 0 [(0, .ref (E.1 + a0)), (1, .int x1)] [] S R I := by
  intro a0 x1 h
  rw [f_X12_line] at h
  refine k_aloadn (pc := 0) C dX12_line_0 (i := 0) rfl 0 rfl ?_
  refine k_iloadn (pc := 1) C dX12_line_1 (i := 1) rfl 1 rfl ?_
  refine k_iconst (pc := 2) C (v := (5 : Int32)) dX12_line_2 (by decide) ?_
  obtain ⟨hs10, h⟩ := gp_e h
  have hs1 := sok_e hs10
  obtain ⟨r2, hr2, h⟩ := bd_e h
  refine k_V (pc := 3) (st := []) C (c_X12_is hr2) lkV_RX12_251 hs1 rfl rfl rfl (Nat.le_of_ble_eq_true rfl) (Nat.le_of_ble_eq_true rfl) (Nat.le_of_ble_eq_true rfl) (Nat.le_of_ble_eq_true rfl) (Nat.le_of_ble_eq_true rfl) dX12_line_3 ?_
  refine k_nf (cells2 := 0) (slots2 := 0) (st2 := [.int r2]) rfl rfl rfl ?_
  refine k_if_eq (pc := 6) C dX12_line_6 (tgt := 21) (by decide) (fun hc3 => ?_) (fun hc3 => ?_)
  · rw [if_pos hc3] at h
    refine k_bipush (pc := 21) C (v := (-3 : Int32)) dX12_line_21 (by decide) ?_
    have h := Option.some.inj h
    subst h
    exact k_iret (pc := 23) C hr hk dX12_line_23
  · rw [if_neg hc3] at h
    refine k_aloadn (pc := 9) C dX12_line_9 (i := 0) rfl 0 rfl ?_
    obtain ⟨b4, hb4, h⟩ := rl_e h
    refine k_getR (pc := 10) C lkF_RX12_9_12 hs1 ir_12_0 hb4 dX12_line_10 ?_
    refine k_bipush (pc := 13) C (v := (7 : Int32)) dX12_line_13 (by decide) ?_
    refine k_iloadn (pc := 15) C dX12_line_15 (i := 1) rfl 1 rfl ?_
    refine k_iadd (pc := 16) C dX12_line_16 ?_
    obtain ⟨ha5, h⟩ := gp_e h
    refine k_iald (pc := 17) C ha5 dX12_line_17 ?_
    refine k_goto (pc := 18) C dX12_line_18 (tgt := 23) (by decide) ?_
    have h := Option.some.inj h
    subst h
    exact k_iret (pc := 23) C hr hk dX12_line_23
theorem c_X12_line {E : Ev} {l : Launch} {S : Sh} {R : Rw} {I : Iw} {a0 : Nat} {x1 : Int32} {r : Int32} (h : f_X12_line S R I a0 x1 = some r) : Mt E l yX12_line cX12_line 2 (some .int) 2 44 [.ref (E.1 + a0), .int x1] S R I S R I (some (.int r)) 0 0 := mt_of (by decide) (Nat.le_of_ble_eq_true rfl) (fun p e s m args below meth c C hr hk hn => b_X12_line C hr hk _ _ h)
theorem dX12_paid_0 : decode cX12_paid 0 = .ok (.iconst 0, 1) := by decide +kernel
theorem dX12_paid_1 : decode cX12_paid 1 = .ok (.istore_n 1, 1) := by decide +kernel
theorem dX12_paid_2 : decode cX12_paid 2 = .ok (.iconst 0, 1) := by decide +kernel
theorem dX12_paid_3 : decode cX12_paid 3 = .ok (.istore_n 2, 1) := by decide +kernel
theorem dX12_paid_4 : decode cX12_paid 4 = .ok (.iload_n 2, 1) := by decide +kernel
theorem dX12_paid_5 : decode cX12_paid 5 = .ok (.aload_n 0, 1) := by decide +kernel
theorem dX12_paid_6 : decode cX12_paid 6 = .ok (.getfield 9, 3) := by decide +kernel
theorem dX12_paid_9 : decode cX12_paid 9 = .ok (.iconst 5, 1) := by decide +kernel
theorem dX12_paid_10 : decode cX12_paid 10 = .ok (.iaload, 1) := by decide +kernel
theorem dX12_paid_11 : decode cX12_paid 11 = .ok (.if_icmp .ge 29, 3) := by decide +kernel
theorem dX12_paid_14 : decode cX12_paid 14 = .ok (.iload_n 1, 1) := by decide +kernel
theorem dX12_paid_15 : decode cX12_paid 15 = .ok (.iload_n 2, 1) := by decide +kernel
theorem dX12_paid_16 : decode cX12_paid 16 = .ok (.iconst 1, 1) := by decide +kernel
theorem dX12_paid_17 : decode cX12_paid 17 = .ok (.iadd, 1) := by decide +kernel
theorem dX12_paid_18 : decode cX12_paid 18 = .ok (.aload_n 0, 1) := by decide +kernel
theorem dX12_paid_19 : decode cX12_paid 19 = .ok (.aload_n 0, 1) := by decide +kernel
theorem dX12_paid_20 : decode cX12_paid 20 = .ok (.getfield 9, 3) := by decide +kernel
theorem dX12_paid_23 : decode cX12_paid 23 = .ok (.bipush 7, 2) := by decide +kernel
theorem dX12_paid_25 : decode cX12_paid 25 = .ok (.iload_n 2, 1) := by decide +kernel
theorem dX12_paid_26 : decode cX12_paid 26 = .ok (.iadd, 1) := by decide +kernel
theorem dX12_paid_27 : decode cX12_paid 27 = .ok (.iaload, 1) := by decide +kernel
theorem dX12_paid_28 : decode cX12_paid 28 = .ok (.invokevirtual 254, 3) := by decide +kernel
theorem dX12_paid_31 : decode cX12_paid 31 = .ok (.imul, 1) := by decide +kernel
theorem dX12_paid_32 : decode cX12_paid 32 = .ok (.iadd, 1) := by decide +kernel
theorem dX12_paid_33 : decode cX12_paid 33 = .ok (.istore_n 1, 1) := by decide +kernel
theorem dX12_paid_34 : decode cX12_paid 34 = .ok (.iinc 2 1, 3) := by decide +kernel
theorem dX12_paid_37 : decode cX12_paid 37 = .ok (.goto (-33), 3) := by decide +kernel
theorem dX12_paid_40 : decode cX12_paid 40 = .ok (.iload_n 1, 1) := by decide +kernel
theorem dX12_paid_41 : decode cX12_paid 41 = .ok (.ireturn, 1) := by decide +kernel
def f_X12_paid_4 (S : Sh) (R : Rw)  : Nat → Iw → Nat → Int32 → Int32 → Option (Iw × Int32)
  | 0, _, _, _, _ => none
  | n + 1, I, a0, x1, x2 => gp (sok S a0 12 34) (rl (R a0 0) (fun b2 => gp (aok S 20 b2 (5 : Int32)) ((if (I b2 (5 : Int32).toNatClampNeg) ≤ x2 then some (I, x1) else rl (R a0 0) (fun b5 => gp (aok S 20 b5 ((7 : Int32) + x2)) (bd (f_X12_fee S R I a0 (I b5 ((7 : Int32) + x2).toNatClampNeg)) (fun r7 => f_X12_paid_4 S R  n r7.1 a0 (x1 + ((x2 + (1 : Int32)) * r7.2)) (x2 + (1 : Int32)))))))))
set_option maxHeartbeats 4000000 in
theorem b_X12_paid_4 {E : Ev} {p : Program} {l : Launch} {e : Env} {s : State} {m : MethodId} {args : Array Value} {below : List Frame} {meth : Method} {c : Code} (C : Cx E RX12 cX12_paid 3 p s m c) (hr : meth.sig.returnType = (some .int)) (hk : meth.locks = false) {S : Sh} {R : Rw} {r : Iw × Int32}  : ∀ (n : Nat) (I : Iw) (a0 : Nat) (x1 : Int32) (x2 : Int32), f_X12_paid_4 S R  n I a0 x1 x2 = some r → Wk E 3 p l e ({ frames := 6, cells := 0, slots := 0, locals := 138 } : Room) s m args below meth c 0 0 (MQ below (Qw E S R r.1 (some (.int r.2))) args s 0 0 (fun q => E.1 ≤ q)) 4 [(0, .ref (E.1 + a0)), (1, .int x1), (2, .int x2)] [] S R I := by
  intro n
  induction n with
  | zero =>
    intro I a0 x1 x2 h
    rw [f_X12_paid_4] at h
    cases h
  | succ n ih =>
    intro I a0 x1 x2 h
    rw [f_X12_paid_4] at h
    refine k_iloadn (pc := 4) C dX12_paid_4 (i := 2) rfl 2 rfl ?_
    refine k_aloadn (pc := 5) C dX12_paid_5 (i := 0) rfl 0 rfl ?_
    obtain ⟨hs10, h⟩ := gp_e h
    have hs1 := sok_e hs10
    obtain ⟨b2, hb2, h⟩ := rl_e h
    refine k_getR (pc := 6) C lkF_RX12_9_12 hs1 ir_12_0 hb2 dX12_paid_6 ?_
    refine k_iconst (pc := 9) C (v := (5 : Int32)) dX12_paid_9 (by decide) ?_
    obtain ⟨ha3, h⟩ := gp_e h
    refine k_iald (pc := 10) C ha3 dX12_paid_10 ?_
    refine k_icmp_ge (pc := 11) C dX12_paid_11 (tgt := 40) (by decide) (fun hc4 => ?_) (fun hc4 => ?_)
    · rw [if_pos hc4] at h
      refine k_iloadn (pc := 40) C dX12_paid_40 (i := 1) rfl 1 rfl ?_
      have h := Option.some.inj h
      subst h
      exact k_iret (pc := 41) C hr hk dX12_paid_41
    · rw [if_neg hc4] at h
      refine k_iloadn (pc := 14) C dX12_paid_14 (i := 1) rfl 1 rfl ?_
      refine k_iloadn (pc := 15) C dX12_paid_15 (i := 2) rfl 2 rfl ?_
      refine k_iconst (pc := 16) C (v := (1 : Int32)) dX12_paid_16 (by decide) ?_
      refine k_iadd (pc := 17) C dX12_paid_17 ?_
      refine k_aloadn (pc := 18) C dX12_paid_18 (i := 0) rfl 0 rfl ?_
      refine k_aloadn (pc := 19) C dX12_paid_19 (i := 0) rfl 0 rfl ?_
      obtain ⟨b5, hb5, h⟩ := rl_e h
      refine k_getR (pc := 20) C lkF_RX12_9_12 hs1 ir_12_0 hb5 dX12_paid_20 ?_
      refine k_bipush (pc := 23) C (v := (7 : Int32)) dX12_paid_23 (by decide) ?_
      refine k_iloadn (pc := 25) C dX12_paid_25 (i := 2) rfl 2 rfl ?_
      refine k_iadd (pc := 26) C dX12_paid_26 ?_
      obtain ⟨ha6, h⟩ := gp_e h
      refine k_iald (pc := 27) C ha6 dX12_paid_27 ?_
      obtain ⟨r7, hr7, h⟩ := bd_e h
      refine k_V (pc := 28) (st := [.int (x2 + (1 : Int32)), .int x1]) C (c_X12_fee hr7) lkV_RX12_254 hs1 rfl rfl rfl (Nat.le_of_ble_eq_true rfl) (Nat.le_of_ble_eq_true rfl) (Nat.le_of_ble_eq_true rfl) (Nat.le_of_ble_eq_true rfl) (Nat.le_of_ble_eq_true rfl) dX12_paid_28 ?_
      refine k_nf (cells2 := 0) (slots2 := 0) (st2 := [.int r7.2, .int (x2 + (1 : Int32)), .int x1]) rfl rfl rfl ?_
      refine k_imul (pc := 31) C dX12_paid_31 ?_
      refine k_iadd (pc := 32) C dX12_paid_32 ?_
      refine k_istoren (pc := 33) C dX12_paid_33 (i := 1) rfl (by decide) (L2 := [(0, .ref (E.1 + a0)), (1, .int (x1 + ((x2 + (1 : Int32)) * r7.2))), (2, .int x2)]) rfl ?_
      refine k_iinc (pc := 34) C dX12_paid_34 2 rfl (v := x2 + (1 : Int32)) (by rfl) (by decide) (L2 := [(0, .ref (E.1 + a0)), (1, .int (x1 + ((x2 + (1 : Int32)) * r7.2))), (2, .int (x2 + (1 : Int32)))]) rfl ?_
      refine k_goto (pc := 37) C dX12_paid_37 (tgt := 4) (by decide) ?_
      exact ih _ _ _ _ h
def f_X12_paid (S : Sh) (R : Rw)  (I : Iw) (a0 : Nat) : Option (Iw × Int32) := f_X12_paid_4 S R  512 I a0 (0 : Int32) (0 : Int32)
set_option maxHeartbeats 4000000 in
theorem b_X12_paid {E : Ev} {p : Program} {l : Launch} {e : Env} {s : State} {m : MethodId} {args : Array Value} {below : List Frame} {meth : Method} {c : Code} (C : Cx E RX12 cX12_paid 3 p s m c) (hr : meth.sig.returnType = (some .int)) (hk : meth.locks = false) {S : Sh} {R : Rw} {r : Iw × Int32}  : ∀ (I : Iw) (a0 : Nat), f_X12_paid S R   I a0 = some r → Wk E 3 p l e ({ frames := 6, cells := 0, slots := 0, locals := 138 } : Room) s m args below meth c 0 0 (MQ below (Qw E S R r.1 (some (.int r.2))) args s 0 0 (fun q => E.1 ≤ q)) 0 [(0, .ref (E.1 + a0))] [] S R I := by
  intro I a0 h
  rw [f_X12_paid] at h
  refine k_iconst (pc := 0) C (v := (0 : Int32)) dX12_paid_0 (by decide) ?_
  refine k_istoren (pc := 1) C dX12_paid_1 (i := 1) rfl (by decide) (L2 := [(0, .ref (E.1 + a0)), (1, .int (0 : Int32))]) rfl ?_
  refine k_iconst (pc := 2) C (v := (0 : Int32)) dX12_paid_2 (by decide) ?_
  refine k_istoren (pc := 3) C dX12_paid_3 (i := 2) rfl (by decide) (L2 := [(0, .ref (E.1 + a0)), (1, .int (0 : Int32)), (2, .int (0 : Int32))]) rfl ?_
  exact b_X12_paid_4 C hr hk  _ _ _ _ _ h
theorem c_X12_paid {E : Ev} {l : Launch} {S : Sh} {R : Rw} {I : Iw} {a0 : Nat} {r : Iw × Int32} (h : f_X12_paid S R I a0 = some r) : Mt E l yX12_paid cX12_paid 3 (some .int) 6 138 [.ref (E.1 + a0)] S R I S R r.1 (some (.int r.2)) 0 0 := mt_of (by decide) (Nat.le_of_ble_eq_true rfl) (fun p e s m args below meth c C hr hk hn => b_X12_paid C hr hk _ _ h)
theorem dX12_inMany_0 : decode cX12_inMany 0 = .ok (.aload_n 0, 1) := by decide +kernel
theorem dX12_inMany_1 : decode cX12_inMany 1 = .ok (.getfield 9, 3) := by decide +kernel
theorem dX12_inMany_4 : decode cX12_inMany 4 = .ok (.iconst 3, 1) := by decide +kernel
theorem dX12_inMany_5 : decode cX12_inMany 5 = .ok (.iaload, 1) := by decide +kernel
theorem dX12_inMany_6 : decode cX12_inMany 6 = .ok (.aload_n 0, 1) := by decide +kernel
theorem dX12_inMany_7 : decode cX12_inMany 7 = .ok (.getfield 9, 3) := by decide +kernel
theorem dX12_inMany_10 : decode cX12_inMany 10 = .ok (.iconst 5, 1) := by decide +kernel
theorem dX12_inMany_11 : decode cX12_inMany 11 = .ok (.iaload, 1) := by decide +kernel
theorem dX12_inMany_12 : decode cX12_inMany 12 = .ok (.isub, 1) := by decide +kernel
theorem dX12_inMany_13 : decode cX12_inMany 13 = .ok (.ireturn, 1) := by decide +kernel
def f_X12_inMany (S : Sh) (R : Rw) (I : Iw)  (a0 : Nat) : Option (Int32) := gp (sok S a0 12 34) (rl (R a0 0) (fun b2 => gp (aok S 20 b2 (3 : Int32)) (rl (R a0 0) (fun b4 => gp (aok S 20 b4 (5 : Int32)) (some ((I b2 (3 : Int32).toNatClampNeg) - (I b4 (5 : Int32).toNatClampNeg)))))))
set_option maxHeartbeats 4000000 in
theorem b_X12_inMany {E : Ev} {p : Program} {l : Launch} {e : Env} {s : State} {m : MethodId} {args : Array Value} {below : List Frame} {meth : Method} {c : Code} (C : Cx E RX12 cX12_inMany 1 p s m c) (hr : meth.sig.returnType = (some .int)) (hk : meth.locks = false) {S : Sh} {R : Rw} {I : Iw} {r : Int32}  : ∀ (a0 : Nat), f_X12_inMany S R I   a0 = some r → Wk E 1 p l e ({ frames := 0, cells := 0, slots := 0, locals := 0 } : Room) s m args below meth c 0 0 (MQ below (Qw E S R I (some (.int r))) args s 0 0 (fun q => E.1 ≤ q)) 0 [(0, .ref (E.1 + a0))] [] S R I := by
  intro a0 h
  rw [f_X12_inMany] at h
  refine k_aloadn (pc := 0) C dX12_inMany_0 (i := 0) rfl 0 rfl ?_
  obtain ⟨hs10, h⟩ := gp_e h
  have hs1 := sok_e hs10
  obtain ⟨b2, hb2, h⟩ := rl_e h
  refine k_getR (pc := 1) C lkF_RX12_9_12 hs1 ir_12_0 hb2 dX12_inMany_1 ?_
  refine k_iconst (pc := 4) C (v := (3 : Int32)) dX12_inMany_4 (by decide) ?_
  obtain ⟨ha3, h⟩ := gp_e h
  refine k_iald (pc := 5) C ha3 dX12_inMany_5 ?_
  refine k_aloadn (pc := 6) C dX12_inMany_6 (i := 0) rfl 0 rfl ?_
  obtain ⟨b4, hb4, h⟩ := rl_e h
  refine k_getR (pc := 7) C lkF_RX12_9_12 hs1 ir_12_0 hb4 dX12_inMany_7 ?_
  refine k_iconst (pc := 10) C (v := (5 : Int32)) dX12_inMany_10 (by decide) ?_
  obtain ⟨ha5, h⟩ := gp_e h
  refine k_iald (pc := 11) C ha5 dX12_inMany_11 ?_
  refine k_isub (pc := 12) C dX12_inMany_12 ?_
  have h := Option.some.inj h
  subst h
  exact k_iret (pc := 13) C hr hk dX12_inMany_13
theorem c_X12_inMany {E : Ev} {l : Launch} {S : Sh} {R : Rw} {I : Iw} {a0 : Nat} {r : Int32} (h : f_X12_inMany S R I a0 = some r) : Mt E l yX12_inMany cX12_inMany 1 (some .int) 0 0 [.ref (E.1 + a0)] S R I S R I (some (.int r)) 0 0 := mt_of (by decide) (Nat.le_of_ble_eq_true rfl) (fun p e s m args below meth c C hr hk hn => b_X12_inMany C hr hk _ h)
theorem lkV_RX12_272 : LkV RX12 272 RX12 yX12_inMany cX12_inMany 1 (some .int) 0 := ⟨(t6_in 158 (by decide +kernel) rfl), (t6_in 160 (by decide +kernel) rfl), (t0_in 57 (by decide +kernel) rfl), (t6_in 161 (by decide +kernel) rfl), (t1_in 7 (by decide +kernel) rfl), by decide, by decide +kernel⟩
theorem lkV_RX12_275 : LkV RX12 275 RX12 yX12_waysOn cX12_waysOn 3 (some .int) 0 := ⟨(t6_in 154 (by decide +kernel) rfl), (t6_in 156 (by decide +kernel) rfl), (t0_in 56 (by decide +kernel) rfl), (t6_in 157 (by decide +kernel) rfl), (t1_in 7 (by decide +kernel) rfl), by decide, by decide +kernel⟩
theorem dX12_waysOn_0 : decode cX12_waysOn 0 = .ok (.aload_n 0, 1) := by decide +kernel
theorem dX12_waysOn_1 : decode cX12_waysOn 1 = .ok (.invokevirtual 272, 3) := by decide +kernel
theorem dX12_waysOn_4 : decode cX12_waysOn 4 = .ok (.ifCond .ne 5, 3) := by decide +kernel
theorem dX12_waysOn_7 : decode cX12_waysOn 7 = .ok (.iconst 1, 1) := by decide +kernel
theorem dX12_waysOn_8 : decode cX12_waysOn 8 = .ok (.ireturn, 1) := by decide +kernel
theorem dX12_waysOn_9 : decode cX12_waysOn 9 = .ok (.iconst 0, 1) := by decide +kernel
theorem dX12_waysOn_10 : decode cX12_waysOn 10 = .ok (.istore_n 1, 1) := by decide +kernel
theorem dX12_waysOn_11 : decode cX12_waysOn 11 = .ok (.iconst 0, 1) := by decide +kernel
theorem dX12_waysOn_12 : decode cX12_waysOn 12 = .ok (.istore_n 2, 1) := by decide +kernel
theorem dX12_waysOn_13 : decode cX12_waysOn 13 = .ok (.iload_n 2, 1) := by decide +kernel
theorem dX12_waysOn_14 : decode cX12_waysOn 14 = .ok (.aload_n 0, 1) := by decide +kernel
theorem dX12_waysOn_15 : decode cX12_waysOn 15 = .ok (.getfield 9, 3) := by decide +kernel
theorem dX12_waysOn_18 : decode cX12_waysOn 18 = .ok (.iconst 3, 1) := by decide +kernel
theorem dX12_waysOn_19 : decode cX12_waysOn 19 = .ok (.iaload, 1) := by decide +kernel
theorem dX12_waysOn_20 : decode cX12_waysOn 20 = .ok (.if_icmp .ge 34, 3) := by decide +kernel
theorem dX12_waysOn_23 : decode cX12_waysOn 23 = .ok (.aload_n 0, 1) := by decide +kernel
theorem dX12_waysOn_24 : decode cX12_waysOn 24 = .ok (.iload_n 2, 1) := by decide +kernel
theorem dX12_waysOn_25 : decode cX12_waysOn 25 = .ok (.invokevirtual 257, 3) := by decide +kernel
theorem dX12_waysOn_28 : decode cX12_waysOn 28 = .ok (.ifCond .eq 20, 3) := by decide +kernel
theorem dX12_waysOn_31 : decode cX12_waysOn 31 = .ok (.aload_n 0, 1) := by decide +kernel
theorem dX12_waysOn_32 : decode cX12_waysOn 32 = .ok (.iload_n 2, 1) := by decide +kernel
theorem dX12_waysOn_33 : decode cX12_waysOn 33 = .ok (.invokevirtual 263, 3) := by decide +kernel
theorem dX12_waysOn_36 : decode cX12_waysOn 36 = .ok (.iload_n 1, 1) := by decide +kernel
theorem dX12_waysOn_37 : decode cX12_waysOn 37 = .ok (.aload_n 0, 1) := by decide +kernel
theorem dX12_waysOn_38 : decode cX12_waysOn 38 = .ok (.invokevirtual 275, 3) := by decide +kernel
theorem dX12_waysOn_41 : decode cX12_waysOn 41 = .ok (.iadd, 1) := by decide +kernel
theorem dX12_waysOn_42 : decode cX12_waysOn 42 = .ok (.istore_n 1, 1) := by decide +kernel
theorem dX12_waysOn_43 : decode cX12_waysOn 43 = .ok (.aload_n 0, 1) := by decide +kernel
theorem dX12_waysOn_44 : decode cX12_waysOn 44 = .ok (.invokevirtual 269, 3) := by decide +kernel
theorem dX12_waysOn_47 : decode cX12_waysOn 47 = .ok (.pop, 1) := by decide +kernel
theorem dX12_waysOn_48 : decode cX12_waysOn 48 = .ok (.iinc 2 1, 3) := by decide +kernel
theorem dX12_waysOn_51 : decode cX12_waysOn 51 = .ok (.goto (-38), 3) := by decide +kernel
theorem dX12_waysOn_54 : decode cX12_waysOn 54 = .ok (.iload_n 1, 1) := by decide +kernel
theorem dX12_waysOn_55 : decode cX12_waysOn 55 = .ok (.ireturn, 1) := by decide +kernel
def f_X12_waysOn_48 (g : Sh → Rw → Iw → Nat → Option (Iw × Int32)) (S : Sh) (R : Rw) (ko13 : Iw → Nat → Int32 → Int32 → Option (Iw × Int32)) (I : Iw) (a0 : Nat) (x1 : Int32) (x2 : Int32) : Option (Iw × Int32) := ko13 I a0 x1 (x2 + (1 : Int32))
set_option maxHeartbeats 4000000 in
theorem b_X12_waysOn_48 {E : Ev} {p : Program} {l : Launch} {e : Env} {s : State} {m : MethodId} {args : Array Value} {below : List Frame} {meth : Method} {c : Code} {dF dL : Nat} (C : Cx E RX12 cX12_waysOn 3 p s m c) (hr : meth.sig.returnType = (some .int)) (hk : meth.locks = false) {S : Sh} {R : Rw} {r : Iw × Int32} {g : Sh → Rw → Iw → Nat → Option (Iw × Int32)} (hg : ∀ (S : Sh) (R : Rw) (I : Iw) (a0 : Nat) (r : Iw × Int32), g S R I a0 = some r → Mt E l yX12_waysOn cX12_waysOn 3 (some .int) dF dL [.ref (E.1 + a0)] S R I S R r.1 (some (.int r.2)) 0 0) {ko13 : Iw → Nat → Int32 → Int32 → Option (Iw × Int32)} (hko13 : ∀ (I : Iw) (a0 : Nat) (x1 : Int32) (x2 : Int32), ko13 I a0 x1 x2 = some r → Wk E 3 p l e ({ frames := dF + 5, cells := 0, slots := 0, locals := dL + 111 } : Room) s m args below meth c 0 0 (MQ below (Qw E S R r.1 (some (.int r.2))) args s 0 0 (fun q => E.1 ≤ q)) 13 [(0, .ref (E.1 + a0)), (1, .int x1), (2, .int x2)] [] S R I) : ∀ (I : Iw) (a0 : Nat) (x1 : Int32) (x2 : Int32), f_X12_waysOn_48 g S R ko13  I a0 x1 x2 = some r → Wk E 3 p l e ({ frames := dF + 5, cells := 0, slots := 0, locals := dL + 111 } : Room) s m args below meth c 0 0 (MQ below (Qw E S R r.1 (some (.int r.2))) args s 0 0 (fun q => E.1 ≤ q)) 48 [(0, .ref (E.1 + a0)), (1, .int x1), (2, .int x2)] [] S R I := by
  intro I a0 x1 x2 h
  rw [f_X12_waysOn_48] at h
  refine k_iinc (pc := 48) C dX12_waysOn_48 2 rfl (v := x2 + (1 : Int32)) (by rfl) (by decide) (L2 := [(0, .ref (E.1 + a0)), (1, .int x1), (2, .int (x2 + (1 : Int32)))]) rfl ?_
  refine k_goto (pc := 51) C dX12_waysOn_51 (tgt := 13) (by decide) ?_
  exact hko13 _ _ _ _ h
def f_X12_waysOn_13 (g : Sh → Rw → Iw → Nat → Option (Iw × Int32)) (S : Sh) (R : Rw)  : Nat → Iw → Nat → Int32 → Int32 → Option (Iw × Int32)
  | 0, _, _, _, _ => none
  | n + 1, I, a0, x1, x2 => gp (sok S a0 12 34) (rl (R a0 0) (fun b5 => gp (aok S 20 b5 (3 : Int32)) ((if (I b5 (3 : Int32).toNatClampNeg) ≤ x2 then some (I, x1) else bd (f_X12_mayGo S R I a0 x2) (fun r8 => (if r8 = 0 then f_X12_waysOn_48 g S R (f_X12_waysOn_13 g S R  n) I a0 x1 x2 else bd (f_X12_out S R I a0 x2) (fun r10 => bd (g S R r10 a0) (fun r11 => bd (f_X12_home S R r11.1 a0) (fun r12 => f_X12_waysOn_48 g S R (f_X12_waysOn_13 g S R  n) r12.1 a0 (x1 + r11.2) x2)))))))))
set_option maxHeartbeats 4000000 in
theorem b_X12_waysOn_13 {E : Ev} {p : Program} {l : Launch} {e : Env} {s : State} {m : MethodId} {args : Array Value} {below : List Frame} {meth : Method} {c : Code} {dF dL : Nat} (C : Cx E RX12 cX12_waysOn 3 p s m c) (hr : meth.sig.returnType = (some .int)) (hk : meth.locks = false) {S : Sh} {R : Rw} {r : Iw × Int32} {g : Sh → Rw → Iw → Nat → Option (Iw × Int32)} (hg : ∀ (S : Sh) (R : Rw) (I : Iw) (a0 : Nat) (r : Iw × Int32), g S R I a0 = some r → Mt E l yX12_waysOn cX12_waysOn 3 (some .int) dF dL [.ref (E.1 + a0)] S R I S R r.1 (some (.int r.2)) 0 0) : ∀ (n : Nat) (I : Iw) (a0 : Nat) (x1 : Int32) (x2 : Int32), f_X12_waysOn_13 g S R  n I a0 x1 x2 = some r → Wk E 3 p l e ({ frames := dF + 5, cells := 0, slots := 0, locals := dL + 111 } : Room) s m args below meth c 0 0 (MQ below (Qw E S R r.1 (some (.int r.2))) args s 0 0 (fun q => E.1 ≤ q)) 13 [(0, .ref (E.1 + a0)), (1, .int x1), (2, .int x2)] [] S R I := by
  intro n
  induction n with
  | zero =>
    intro I a0 x1 x2 h
    rw [f_X12_waysOn_13] at h
    cases h
  | succ n ih =>
    intro I a0 x1 x2 h
    rw [f_X12_waysOn_13] at h
    refine k_iloadn (pc := 13) C dX12_waysOn_13 (i := 2) rfl 2 rfl ?_
    refine k_aloadn (pc := 14) C dX12_waysOn_14 (i := 0) rfl 0 rfl ?_
    obtain ⟨hs40, h⟩ := gp_e h
    have hs4 := sok_e hs40
    obtain ⟨b5, hb5, h⟩ := rl_e h
    refine k_getR (pc := 15) C lkF_RX12_9_12 hs4 ir_12_0 hb5 dX12_waysOn_15 ?_
    refine k_iconst (pc := 18) C (v := (3 : Int32)) dX12_waysOn_18 (by decide) ?_
    obtain ⟨ha6, h⟩ := gp_e h
    refine k_iald (pc := 19) C ha6 dX12_waysOn_19 ?_
    refine k_icmp_ge (pc := 20) C dX12_waysOn_20 (tgt := 54) (by decide) (fun hc7 => ?_) (fun hc7 => ?_)
    · rw [if_pos hc7] at h
      refine k_iloadn (pc := 54) C dX12_waysOn_54 (i := 1) rfl 1 rfl ?_
      have h := Option.some.inj h
      subst h
      exact k_iret (pc := 55) C hr hk dX12_waysOn_55
    · rw [if_neg hc7] at h
      refine k_aloadn (pc := 23) C dX12_waysOn_23 (i := 0) rfl 0 rfl ?_
      refine k_iloadn (pc := 24) C dX12_waysOn_24 (i := 2) rfl 2 rfl ?_
      obtain ⟨r8, hr8, h⟩ := bd_e h
      refine k_V (pc := 25) (st := []) C (c_X12_mayGo hr8) lkV_RX12_257 hs4 rfl rfl rfl (Nat.le_of_ble_eq_true rfl) (by show 4 + 1 ≤ dF + 5; omega) (by show 8 + (2 + 11) + 90 ≤ dL + 111; omega) (Nat.le_of_ble_eq_true rfl) (Nat.le_of_ble_eq_true rfl) dX12_waysOn_25 ?_
      refine k_nf (cells2 := 0) (slots2 := 0) (st2 := [.int r8]) rfl rfl rfl ?_
      refine k_if_eq (pc := 28) C dX12_waysOn_28 (tgt := 48) (by decide) (fun hc9 => ?_) (fun hc9 => ?_)
      · rw [if_pos hc9] at h
        exact b_X12_waysOn_48 C hr hk hg ih _ _ _ _ h
      · rw [if_neg hc9] at h
        refine k_aloadn (pc := 31) C dX12_waysOn_31 (i := 0) rfl 0 rfl ?_
        refine k_iloadn (pc := 32) C dX12_waysOn_32 (i := 2) rfl 2 rfl ?_
        obtain ⟨r10, hr10, h⟩ := bd_e h
        refine k_V (pc := 33) (st := []) C (c_X12_out hr10) lkV_RX12_263 hs4 rfl rfl rfl (Nat.le_of_ble_eq_true rfl) (by show 1 + 1 ≤ dF + 5; omega) (by show 8 + (2 + 11) + 21 ≤ dL + 111; omega) (Nat.le_of_ble_eq_true rfl) (Nat.le_of_ble_eq_true rfl) dX12_waysOn_33 ?_
        refine k_nf (cells2 := 0) (slots2 := 0) (st2 := []) rfl rfl rfl ?_
        refine k_iloadn (pc := 36) C dX12_waysOn_36 (i := 1) rfl 1 rfl ?_
        refine k_aloadn (pc := 37) C dX12_waysOn_37 (i := 0) rfl 0 rfl ?_
        obtain ⟨r11, hr11, h⟩ := bd_e h
        refine k_V (pc := 38) (st := [.int x1]) C (hg _ _ _ _ _ hr11) lkV_RX12_275 hs4 rfl rfl rfl (Nat.le_of_ble_eq_true rfl) (by show dF + 1 ≤ dF + 5; omega) (by show 8 + (3 + 11) + dL ≤ dL + 111; omega) (Nat.le_of_ble_eq_true rfl) (Nat.le_of_ble_eq_true rfl) dX12_waysOn_38 ?_
        refine k_nf (cells2 := 0) (slots2 := 0) (st2 := [.int r11.2, .int x1]) rfl rfl rfl ?_
        refine k_iadd (pc := 41) C dX12_waysOn_41 ?_
        refine k_istoren (pc := 42) C dX12_waysOn_42 (i := 1) rfl (by decide) (L2 := [(0, .ref (E.1 + a0)), (1, .int (x1 + r11.2)), (2, .int x2)]) rfl ?_
        refine k_aloadn (pc := 43) C dX12_waysOn_43 (i := 0) rfl 0 rfl ?_
        obtain ⟨r12, hr12, h⟩ := bd_e h
        refine k_V (pc := 44) (st := []) C (c_X12_home hr12) lkV_RX12_269 hs4 rfl rfl rfl (Nat.le_of_ble_eq_true rfl) (by show 1 + 1 ≤ dF + 5; omega) (by show 8 + (2 + 11) + 23 ≤ dL + 111; omega) (Nat.le_of_ble_eq_true rfl) (Nat.le_of_ble_eq_true rfl) dX12_waysOn_44 ?_
        refine k_nf (cells2 := 0) (slots2 := 0) (st2 := [.int r12.2]) rfl rfl rfl ?_
        refine k_pop (pc := 47) C dX12_waysOn_47 rfl ?_
        exact b_X12_waysOn_48 C hr hk hg ih _ _ _ _ h
def f_X12_waysOn_b (g : Sh → Rw → Iw → Nat → Option (Iw × Int32)) (S : Sh) (R : Rw)  (I : Iw) (a0 : Nat) : Option (Iw × Int32) := gp (sok S a0 12 34) (bd (f_X12_inMany S R I a0) (fun r2 => (if r2 = 0 then some (I, (1 : Int32)) else f_X12_waysOn_13 g S R  512 I a0 (0 : Int32) (0 : Int32))))
set_option maxHeartbeats 4000000 in
theorem b_X12_waysOn_b {E : Ev} {p : Program} {l : Launch} {e : Env} {s : State} {m : MethodId} {args : Array Value} {below : List Frame} {meth : Method} {c : Code} {dF dL : Nat} (C : Cx E RX12 cX12_waysOn 3 p s m c) (hr : meth.sig.returnType = (some .int)) (hk : meth.locks = false) {S : Sh} {R : Rw} {r : Iw × Int32} {g : Sh → Rw → Iw → Nat → Option (Iw × Int32)} (hg : ∀ (S : Sh) (R : Rw) (I : Iw) (a0 : Nat) (r : Iw × Int32), g S R I a0 = some r → Mt E l yX12_waysOn cX12_waysOn 3 (some .int) dF dL [.ref (E.1 + a0)] S R I S R r.1 (some (.int r.2)) 0 0) : ∀ (I : Iw) (a0 : Nat), f_X12_waysOn_b g S R   I a0 = some r → Wk E 3 p l e ({ frames := dF + 5, cells := 0, slots := 0, locals := dL + 111 } : Room) s m args below meth c 0 0 (MQ below (Qw E S R r.1 (some (.int r.2))) args s 0 0 (fun q => E.1 ≤ q)) 0 [(0, .ref (E.1 + a0))] [] S R I := by
  intro I a0 h
  rw [f_X12_waysOn_b] at h
  refine k_aloadn (pc := 0) C dX12_waysOn_0 (i := 0) rfl 0 rfl ?_
  obtain ⟨hs10, h⟩ := gp_e h
  have hs1 := sok_e hs10
  obtain ⟨r2, hr2, h⟩ := bd_e h
  refine k_V (pc := 1) (st := []) C (c_X12_inMany hr2) lkV_RX12_272 hs1 rfl rfl rfl (Nat.le_of_ble_eq_true rfl) (by show 0 + 1 ≤ dF + 5; omega) (by show 8 + (1 + 11) + 0 ≤ dL + 111; omega) (Nat.le_of_ble_eq_true rfl) (Nat.le_of_ble_eq_true rfl) dX12_waysOn_1 ?_
  refine k_nf (cells2 := 0) (slots2 := 0) (st2 := [.int r2]) rfl rfl rfl ?_
  refine k_if_ne (pc := 4) C dX12_waysOn_4 (tgt := 9) (by decide) (fun hc3 => ?_) (fun hc3 => ?_)
  · rw [if_neg hc3] at h
    refine k_iconst (pc := 9) C (v := (0 : Int32)) dX12_waysOn_9 (by decide) ?_
    refine k_istoren (pc := 10) C dX12_waysOn_10 (i := 1) rfl (by decide) (L2 := [(0, .ref (E.1 + a0)), (1, .int (0 : Int32))]) rfl ?_
    refine k_iconst (pc := 11) C (v := (0 : Int32)) dX12_waysOn_11 (by decide) ?_
    refine k_istoren (pc := 12) C dX12_waysOn_12 (i := 2) rfl (by decide) (L2 := [(0, .ref (E.1 + a0)), (1, .int (0 : Int32)), (2, .int (0 : Int32))]) rfl ?_
    exact b_X12_waysOn_13 C hr hk hg  _ _ _ _ _ h
  · rw [if_pos hc3] at h
    refine k_iconst (pc := 7) C (v := (1 : Int32)) dX12_waysOn_7 (by decide) ?_
    have h := Option.some.inj h
    subst h
    exact k_iret (pc := 8) C hr hk dX12_waysOn_8
def f_X12_waysOn : Nat → Sh → Rw → Iw → Nat → Option (Iw × Int32)
  | 0, _, _, _, _ => none
  | n + 1, S, R, I, a0 => f_X12_waysOn_b (f_X12_waysOn n) S R I a0
theorem c_X12_waysOn_g {E : Ev} {l : Launch} : ∀ (n : Nat) (S : Sh) (R : Rw) (I : Iw) (a0 : Nat) (r : Iw × Int32), f_X12_waysOn n S R I a0 = some r → Mt E l yX12_waysOn cX12_waysOn 3 (some .int) (5 * n) (111 * n) [.ref (E.1 + a0)] S R I S R r.1 (some (.int r.2)) 0 0 := by
  intro n
  induction n with
  | zero =>
    intro S R I a0 r h
    rw [f_X12_waysOn] at h
    cases h
  | succ n ih =>
    intro S R I a0 r h
    rw [f_X12_waysOn] at h
    exact mt_of (by decide) (Nat.le_of_ble_eq_true rfl) (fun p e s m args below meth c C hr hk hn => b_X12_waysOn_b (dF := 5 * n) (dL := 111 * n) C hr hk ih _ _ h)
theorem c_X12_waysOn {E : Ev} {l : Launch} (n : Nat) {S : Sh} {R : Rw} {I : Iw} {a0 : Nat} {r : Iw × Int32} (h : f_X12_waysOn n S R I a0 = some r) : Mt E l yX12_waysOn cX12_waysOn 3 (some .int) (5 * n) (111 * n) [.ref (E.1 + a0)] S R I S R r.1 (some (.int r.2)) 0 0 := c_X12_waysOn_g n S R I a0 r h
