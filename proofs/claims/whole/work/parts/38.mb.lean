/-! X12_isIn, X12_isTop, X12_isNear, X12_standsFor, X12_cameBeside, X12_mayGo -/
theorem dX12_isIn_0 : decode cX12_isIn 0 = .ok (.aload_n 0, 1) := by decide +kernel
theorem dX12_isIn_1 : decode cX12_isIn 1 = .ok (.iload_n 1, 1) := by decide +kernel
theorem dX12_isIn_2 : decode cX12_isIn 2 = .ok (.iconst 4, 1) := by decide +kernel
theorem dX12_isIn_3 : decode cX12_isIn 3 = .ok (.invokevirtual 209, 3) := by decide +kernel
theorem dX12_isIn_6 : decode cX12_isIn 6 = .ok (.bipush (-9), 2) := by decide +kernel
theorem dX12_isIn_8 : decode cX12_isIn 8 = .ok (.if_icmp .ne 7, 3) := by decide +kernel
theorem dX12_isIn_11 : decode cX12_isIn 11 = .ok (.iconst 1, 1) := by decide +kernel
theorem dX12_isIn_12 : decode cX12_isIn 12 = .ok (.goto 4, 3) := by decide +kernel
theorem dX12_isIn_15 : decode cX12_isIn 15 = .ok (.iconst 0, 1) := by decide +kernel
theorem dX12_isIn_16 : decode cX12_isIn 16 = .ok (.ireturn, 1) := by decide +kernel
def f_X12_isIn (S : Sh) (R : Rw) (I : Iw)  (a0 : Nat) (x1 : Int32) : Option (Int32) := gp (sok S a0 12 34) (bd (f_X12_goodIs S R I a0 x1 (4 : Int32)) (fun r2 => (if r2 = (-9 : Int32) then some (1 : Int32) else some (0 : Int32))))
set_option maxHeartbeats 4000000 in
theorem b_X12_isIn {E : Ev} {p : Program} {l : Launch} {e : Env} {s : State} {m : MethodId} {args : Array Value} {below : List Frame} {meth : Method} {c : Code} (C : Cx E RX12 cX12_isIn 2 p s m c) (hr : meth.sig.returnType = (some .boolean)) (hk : meth.locks = false) {S : Sh} {R : Rw} {I : Iw} {r : Int32}  : ∀ (a0 : Nat) (x1 : Int32), f_X12_isIn S R I   a0 x1 = some r → Wk E 2 p l e ({ frames := 2, cells := 0, slots := 0, locals := 43 } : Room) s m args below meth c 0 0 (MQ below (Qw E S R I (some (.int r))) args s 0 0 (fun q => E.1 ≤ q)) 0 [(0, .ref (E.1 + a0)), (1, .int x1)] [] S R I := by
  intro a0 x1 h
  rw [f_X12_isIn] at h
  refine k_aloadn (pc := 0) C dX12_isIn_0 (i := 0) rfl 0 rfl ?_
  refine k_iloadn (pc := 1) C dX12_isIn_1 (i := 1) rfl 1 rfl ?_
  refine k_iconst (pc := 2) C (v := (4 : Int32)) dX12_isIn_2 (by decide) ?_
  obtain ⟨hs10, h⟩ := gp_e h
  have hs1 := sok_e hs10
  obtain ⟨r2, hr2, h⟩ := bd_e h
  refine k_V (pc := 3) (st := []) C (c_X12_goodIs hr2) lkV_RX12_209 hs1 rfl rfl rfl (Nat.le_of_ble_eq_true rfl) (Nat.le_of_ble_eq_true rfl) (Nat.le_of_ble_eq_true rfl) (Nat.le_of_ble_eq_true rfl) (Nat.le_of_ble_eq_true rfl) dX12_isIn_3 ?_
  refine k_nf (cells2 := 0) (slots2 := 0) (st2 := [.int r2]) rfl rfl rfl ?_
  refine k_bipush (pc := 6) C (v := (-9 : Int32)) dX12_isIn_6 (by decide) ?_
  refine k_icmp_ne (pc := 8) C dX12_isIn_8 (tgt := 15) (by decide) (fun hc3 => ?_) (fun hc3 => ?_)
  · rw [if_neg hc3] at h
    refine k_iconst (pc := 15) C (v := (0 : Int32)) dX12_isIn_15 (by decide) ?_
    have h := Option.some.inj h
    subst h
    exact k_zret (pc := 16) C hr hk (Or.inl rfl) dX12_isIn_16
  · rw [if_pos hc3] at h
    refine k_iconst (pc := 11) C (v := (1 : Int32)) dX12_isIn_11 (by decide) ?_
    refine k_goto (pc := 12) C dX12_isIn_12 (tgt := 16) (by decide) ?_
    have h := Option.some.inj h
    subst h
    exact k_zret (pc := 16) C hr hk (Or.inr rfl) dX12_isIn_16
theorem c_X12_isIn {E : Ev} {l : Launch} {S : Sh} {R : Rw} {I : Iw} {a0 : Nat} {x1 : Int32} {r : Int32} (h : f_X12_isIn S R I a0 x1 = some r) : Mt E l yX12_isIn cX12_isIn 2 (some .boolean) 2 43 [.ref (E.1 + a0), .int x1] S R I S R I (some (.int r)) 0 0 := mt_of (by decide) (Nat.le_of_ble_eq_true rfl) (fun p e s m args below meth c C hr hk hn => b_X12_isIn C hr hk _ _ h)
theorem lkV_RX12_233 : LkV RX12 233 RX12 yX12_isIn cX12_isIn 2 (some .boolean) 1 := ⟨(t6_in 73 (by decide +kernel) rfl), (t6_in 75 (by decide +kernel) rfl), (t0_in 48 (by decide +kernel) rfl), (t6_in 76 (by decide +kernel) rfl), (t1_in 7 (by decide +kernel) rfl), by decide, by decide +kernel⟩
theorem dX12_isTop_0 : decode cX12_isTop 0 = .ok (.aload_n 0, 1) := by decide +kernel
theorem dX12_isTop_1 : decode cX12_isTop 1 = .ok (.iload_n 1, 1) := by decide +kernel
theorem dX12_isTop_2 : decode cX12_isTop 2 = .ok (.invokevirtual 233, 3) := by decide +kernel
theorem dX12_isTop_5 : decode cX12_isTop 5 = .ok (.istore_n 2, 1) := by decide +kernel
theorem dX12_isTop_6 : decode cX12_isTop 6 = .ok (.iload_n 1, 1) := by decide +kernel
theorem dX12_isTop_7 : decode cX12_isTop 7 = .ok (.iconst 1, 1) := by decide +kernel
theorem dX12_isTop_8 : decode cX12_isTop 8 = .ok (.iadd, 1) := by decide +kernel
theorem dX12_isTop_9 : decode cX12_isTop 9 = .ok (.istore_n 3, 1) := by decide +kernel
theorem dX12_isTop_10 : decode cX12_isTop 10 = .ok (.iload_n 3, 1) := by decide +kernel
theorem dX12_isTop_11 : decode cX12_isTop 11 = .ok (.aload_n 0, 1) := by decide +kernel
theorem dX12_isTop_12 : decode cX12_isTop 12 = .ok (.getfield 9, 3) := by decide +kernel
theorem dX12_isTop_15 : decode cX12_isTop 15 = .ok (.iconst 3, 1) := by decide +kernel
theorem dX12_isTop_16 : decode cX12_isTop 16 = .ok (.iaload, 1) := by decide +kernel
theorem dX12_isTop_17 : decode cX12_isTop 17 = .ok (.if_icmp .ge 42, 3) := by decide +kernel
theorem dX12_isTop_20 : decode cX12_isTop 20 = .ok (.iload_n 2, 1) := by decide +kernel
theorem dX12_isTop_21 : decode cX12_isTop 21 = .ok (.ifCond .eq 30, 3) := by decide +kernel
theorem dX12_isTop_24 : decode cX12_isTop 24 = .ok (.aload_n 0, 1) := by decide +kernel
theorem dX12_isTop_25 : decode cX12_isTop 25 = .ok (.iload_n 3, 1) := by decide +kernel
theorem dX12_isTop_26 : decode cX12_isTop 26 = .ok (.invokevirtual 233, 3) := by decide +kernel
theorem dX12_isTop_29 : decode cX12_isTop 29 = .ok (.ifCond .eq 18, 3) := by decide +kernel
theorem dX12_isTop_32 : decode cX12_isTop 32 = .ok (.aload_n 0, 1) := by decide +kernel
theorem dX12_isTop_33 : decode cX12_isTop 33 = .ok (.iload_n 3, 1) := by decide +kernel
theorem dX12_isTop_34 : decode cX12_isTop 34 = .ok (.iconst 1, 1) := by decide +kernel
theorem dX12_isTop_35 : decode cX12_isTop 35 = .ok (.invokevirtual 209, 3) := by decide +kernel
theorem dX12_isTop_38 : decode cX12_isTop 38 = .ok (.aload_n 0, 1) := by decide +kernel
theorem dX12_isTop_39 : decode cX12_isTop 39 = .ok (.iload_n 1, 1) := by decide +kernel
theorem dX12_isTop_40 : decode cX12_isTop 40 = .ok (.iconst 1, 1) := by decide +kernel
theorem dX12_isTop_41 : decode cX12_isTop 41 = .ok (.invokevirtual 209, 3) := by decide +kernel
theorem dX12_isTop_44 : decode cX12_isTop 44 = .ok (.if_icmp .eq 7, 3) := by decide +kernel
theorem dX12_isTop_47 : decode cX12_isTop 47 = .ok (.iconst 1, 1) := by decide +kernel
theorem dX12_isTop_48 : decode cX12_isTop 48 = .ok (.goto 4, 3) := by decide +kernel
theorem dX12_isTop_51 : decode cX12_isTop 51 = .ok (.iconst 0, 1) := by decide +kernel
theorem dX12_isTop_52 : decode cX12_isTop 52 = .ok (.istore_n 2, 1) := by decide +kernel
theorem dX12_isTop_53 : decode cX12_isTop 53 = .ok (.iinc 3 1, 3) := by decide +kernel
theorem dX12_isTop_56 : decode cX12_isTop 56 = .ok (.goto (-46), 3) := by decide +kernel
theorem dX12_isTop_59 : decode cX12_isTop 59 = .ok (.iload_n 2, 1) := by decide +kernel
theorem dX12_isTop_60 : decode cX12_isTop 60 = .ok (.ireturn, 1) := by decide +kernel
def f_X12_isTop_52 (S : Sh) (R : Rw) (I : Iw) (ko10 : Nat → Int32 → Int32 → Int32 → Option (Int32)) (a0 : Nat) (x1 : Int32) (x3 : Int32) (s0 : Int32) : Option (Int32) := ko10 a0 x1 s0 (x3 + (1 : Int32))
set_option maxHeartbeats 4000000 in
theorem b_X12_isTop_52 {E : Ev} {p : Program} {l : Launch} {e : Env} {s : State} {m : MethodId} {args : Array Value} {below : List Frame} {meth : Method} {c : Code} (C : Cx E RX12 cX12_isTop 4 p s m c) (hr : meth.sig.returnType = (some .boolean)) (hk : meth.locks = false) {S : Sh} {R : Rw} {I : Iw} {r : Int32}  {ko10 : Nat → Int32 → Int32 → Int32 → Option (Int32)} (hko10 : ∀ (a0 : Nat) (x1 : Int32) (x2 : Int32) (x3 : Int32), ko10 a0 x1 x2 x3 = some r → Wk E 4 p l e ({ frames := 3, cells := 0, slots := 0, locals := 64 } : Room) s m args below meth c 0 0 (MQ below (Qw E S R I (some (.int r))) args s 0 0 (fun q => E.1 ≤ q)) 10 [(0, .ref (E.1 + a0)), (1, .int x1), (2, .int x2), (3, .int x3)] [] S R I) : ∀ (a0 : Nat) (x1 : Int32) (x3 : Int32) (s0 : Int32), f_X12_isTop_52 S R I ko10  a0 x1 x3 s0 = some r → Wk E 4 p l e ({ frames := 3, cells := 0, slots := 0, locals := 64 } : Room) s m args below meth c 0 0 (MQ below (Qw E S R I (some (.int r))) args s 0 0 (fun q => E.1 ≤ q)) 52 [(0, .ref (E.1 + a0)), (1, .int x1), (3, .int x3)] [.int s0] S R I := by
  intro a0 x1 x3 s0 h
  rw [f_X12_isTop_52] at h
  refine k_istoren (pc := 52) C dX12_isTop_52 (i := 2) rfl (by decide) (L2 := [(0, .ref (E.1 + a0)), (1, .int x1), (2, .int s0), (3, .int x3)]) rfl ?_
  refine k_iinc (pc := 53) C dX12_isTop_53 3 rfl (v := x3 + (1 : Int32)) (by rfl) (by decide) (L2 := [(0, .ref (E.1 + a0)), (1, .int x1), (2, .int s0), (3, .int (x3 + (1 : Int32)))]) rfl ?_
  refine k_goto (pc := 56) C dX12_isTop_56 (tgt := 10) (by decide) ?_
  exact hko10 _ _ _ _ h
def f_X12_isTop_51 (S : Sh) (R : Rw) (I : Iw) (ko10 : Nat → Int32 → Int32 → Int32 → Option (Int32)) (a0 : Nat) (x1 : Int32) (x3 : Int32) : Option (Int32) := f_X12_isTop_52 S R I ko10 a0 x1 x3 (0 : Int32)
set_option maxHeartbeats 4000000 in
theorem b_X12_isTop_51 {E : Ev} {p : Program} {l : Launch} {e : Env} {s : State} {m : MethodId} {args : Array Value} {below : List Frame} {meth : Method} {c : Code} (C : Cx E RX12 cX12_isTop 4 p s m c) (hr : meth.sig.returnType = (some .boolean)) (hk : meth.locks = false) {S : Sh} {R : Rw} {I : Iw} {r : Int32}  {ko10 : Nat → Int32 → Int32 → Int32 → Option (Int32)} (hko10 : ∀ (a0 : Nat) (x1 : Int32) (x2 : Int32) (x3 : Int32), ko10 a0 x1 x2 x3 = some r → Wk E 4 p l e ({ frames := 3, cells := 0, slots := 0, locals := 64 } : Room) s m args below meth c 0 0 (MQ below (Qw E S R I (some (.int r))) args s 0 0 (fun q => E.1 ≤ q)) 10 [(0, .ref (E.1 + a0)), (1, .int x1), (2, .int x2), (3, .int x3)] [] S R I) : ∀ (a0 : Nat) (x1 : Int32) (x3 : Int32), f_X12_isTop_51 S R I ko10  a0 x1 x3 = some r → Wk E 4 p l e ({ frames := 3, cells := 0, slots := 0, locals := 64 } : Room) s m args below meth c 0 0 (MQ below (Qw E S R I (some (.int r))) args s 0 0 (fun q => E.1 ≤ q)) 51 [(0, .ref (E.1 + a0)), (1, .int x1), (3, .int x3)] [] S R I := by
  intro a0 x1 x3 h
  rw [f_X12_isTop_51] at h
  refine k_iconst (pc := 51) C (v := (0 : Int32)) dX12_isTop_51 (by decide) ?_
  exact b_X12_isTop_52 C hr hk hko10 _ _ _ _ h
def f_X12_isTop_47 (S : Sh) (R : Rw) (I : Iw) (ko10 : Nat → Int32 → Int32 → Int32 → Option (Int32)) (a0 : Nat) (x1 : Int32) (x3 : Int32) : Option (Int32) := f_X12_isTop_52 S R I ko10 a0 x1 x3 (1 : Int32)
set_option maxHeartbeats 4000000 in
theorem b_X12_isTop_47 {E : Ev} {p : Program} {l : Launch} {e : Env} {s : State} {m : MethodId} {args : Array Value} {below : List Frame} {meth : Method} {c : Code} (C : Cx E RX12 cX12_isTop 4 p s m c) (hr : meth.sig.returnType = (some .boolean)) (hk : meth.locks = false) {S : Sh} {R : Rw} {I : Iw} {r : Int32}  {ko10 : Nat → Int32 → Int32 → Int32 → Option (Int32)} (hko10 : ∀ (a0 : Nat) (x1 : Int32) (x2 : Int32) (x3 : Int32), ko10 a0 x1 x2 x3 = some r → Wk E 4 p l e ({ frames := 3, cells := 0, slots := 0, locals := 64 } : Room) s m args below meth c 0 0 (MQ below (Qw E S R I (some (.int r))) args s 0 0 (fun q => E.1 ≤ q)) 10 [(0, .ref (E.1 + a0)), (1, .int x1), (2, .int x2), (3, .int x3)] [] S R I) : ∀ (a0 : Nat) (x1 : Int32) (x3 : Int32), f_X12_isTop_47 S R I ko10  a0 x1 x3 = some r → Wk E 4 p l e ({ frames := 3, cells := 0, slots := 0, locals := 64 } : Room) s m args below meth c 0 0 (MQ below (Qw E S R I (some (.int r))) args s 0 0 (fun q => E.1 ≤ q)) 47 [(0, .ref (E.1 + a0)), (1, .int x1), (3, .int x3)] [] S R I := by
  intro a0 x1 x3 h
  rw [f_X12_isTop_47] at h
  refine k_iconst (pc := 47) C (v := (1 : Int32)) dX12_isTop_47 (by decide) ?_
  refine k_goto (pc := 48) C dX12_isTop_48 (tgt := 52) (by decide) ?_
  exact b_X12_isTop_52 C hr hk hko10 _ _ _ _ h
def f_X12_isTop_10 (S : Sh) (R : Rw) (I : Iw)  : Nat → Nat → Int32 → Int32 → Int32 → Option (Int32)
  | 0, _, _, _, _ => none
  | n + 1, a0, x1, x2, x3 => gp (sok S a0 12 34) (rl (R a0 0) (fun b4 => gp (aok S 20 b4 (3 : Int32)) ((if (I b4 (3 : Int32).toNatClampNeg) ≤ x3 then gp (zok x2) (some x2) else (if x2 = 0 then f_X12_isTop_51 S R I (f_X12_isTop_10 S R I  n) a0 x1 x3 else bd (f_X12_isIn S R I a0 x3) (fun r9 => (if r9 = 0 then f_X12_isTop_47 S R I (f_X12_isTop_10 S R I  n) a0 x1 x3 else bd (f_X12_goodIs S R I a0 x3 (1 : Int32)) (fun r11 => bd (f_X12_goodIs S R I a0 x1 (1 : Int32)) (fun r12 => (if r11 = r12 then f_X12_isTop_51 S R I (f_X12_isTop_10 S R I  n) a0 x1 x3 else f_X12_isTop_47 S R I (f_X12_isTop_10 S R I  n) a0 x1 x3))))))))))
set_option maxHeartbeats 4000000 in
theorem b_X12_isTop_10 {E : Ev} {p : Program} {l : Launch} {e : Env} {s : State} {m : MethodId} {args : Array Value} {below : List Frame} {meth : Method} {c : Code} (C : Cx E RX12 cX12_isTop 4 p s m c) (hr : meth.sig.returnType = (some .boolean)) (hk : meth.locks = false) {S : Sh} {R : Rw} {I : Iw} {r : Int32}  : ∀ (n : Nat) (a0 : Nat) (x1 : Int32) (x2 : Int32) (x3 : Int32), f_X12_isTop_10 S R I  n a0 x1 x2 x3 = some r → Wk E 4 p l e ({ frames := 3, cells := 0, slots := 0, locals := 64 } : Room) s m args below meth c 0 0 (MQ below (Qw E S R I (some (.int r))) args s 0 0 (fun q => E.1 ≤ q)) 10 [(0, .ref (E.1 + a0)), (1, .int x1), (2, .int x2), (3, .int x3)] [] S R I := by
  intro n
  induction n with
  | zero =>
    intro a0 x1 x2 x3 h
    rw [f_X12_isTop_10] at h
    cases h
  | succ n ih =>
    intro a0 x1 x2 x3 h
    rw [f_X12_isTop_10] at h
    refine k_iloadn (pc := 10) C dX12_isTop_10 (i := 3) rfl 3 rfl ?_
    refine k_aloadn (pc := 11) C dX12_isTop_11 (i := 0) rfl 0 rfl ?_
    obtain ⟨hs30, h⟩ := gp_e h
    have hs3 := sok_e hs30
    obtain ⟨b4, hb4, h⟩ := rl_e h
    refine k_getR (pc := 12) C lkF_RX12_9_12 hs3 ir_12_0 hb4 dX12_isTop_12 ?_
    refine k_iconst (pc := 15) C (v := (3 : Int32)) dX12_isTop_15 (by decide) ?_
    obtain ⟨ha5, h⟩ := gp_e h
    refine k_iald (pc := 16) C ha5 dX12_isTop_16 ?_
    refine k_icmp_ge (pc := 17) C dX12_isTop_17 (tgt := 59) (by decide) (fun hc6 => ?_) (fun hc6 => ?_)
    · rw [if_pos hc6] at h
      refine k_iloadn (pc := 59) C dX12_isTop_59 (i := 2) rfl 2 rfl ?_
      obtain ⟨hz7, h⟩ := gp_e h
      have h := Option.some.inj h
      subst h
      exact k_zret (pc := 60) C hr hk (of_decide_eq_true hz7) dX12_isTop_60
    · rw [if_neg hc6] at h
      refine k_iloadn (pc := 20) C dX12_isTop_20 (i := 2) rfl 2 rfl ?_
      refine k_if_eq (pc := 21) C dX12_isTop_21 (tgt := 51) (by decide) (fun hc8 => ?_) (fun hc8 => ?_)
      · rw [if_pos hc8] at h
        refine k_loc (L2 := [(0, .ref (E.1 + a0)), (1, .int x1), (3, .int x3)]) [0, 1, 3] rfl ?_
        exact b_X12_isTop_51 C hr hk ih _ _ _ h
      · rw [if_neg hc8] at h
        refine k_aloadn (pc := 24) C dX12_isTop_24 (i := 0) rfl 0 rfl ?_
        refine k_iloadn (pc := 25) C dX12_isTop_25 (i := 3) rfl 3 rfl ?_
        obtain ⟨r9, hr9, h⟩ := bd_e h
        refine k_V (pc := 26) (st := []) C (c_X12_isIn hr9) lkV_RX12_233 hs3 rfl rfl rfl (Nat.le_of_ble_eq_true rfl) (Nat.le_of_ble_eq_true rfl) (Nat.le_of_ble_eq_true rfl) (Nat.le_of_ble_eq_true rfl) (Nat.le_of_ble_eq_true rfl) dX12_isTop_26 ?_
        refine k_nf (cells2 := 0) (slots2 := 0) (st2 := [.int r9]) rfl rfl rfl ?_
        refine k_if_eq (pc := 29) C dX12_isTop_29 (tgt := 47) (by decide) (fun hc10 => ?_) (fun hc10 => ?_)
        · rw [if_pos hc10] at h
          refine k_loc (L2 := [(0, .ref (E.1 + a0)), (1, .int x1), (3, .int x3)]) [0, 1, 3] rfl ?_
          exact b_X12_isTop_47 C hr hk ih _ _ _ h
        · rw [if_neg hc10] at h
          refine k_aloadn (pc := 32) C dX12_isTop_32 (i := 0) rfl 0 rfl ?_
          refine k_iloadn (pc := 33) C dX12_isTop_33 (i := 3) rfl 3 rfl ?_
          refine k_iconst (pc := 34) C (v := (1 : Int32)) dX12_isTop_34 (by decide) ?_
          obtain ⟨r11, hr11, h⟩ := bd_e h
          refine k_V (pc := 35) (st := []) C (c_X12_goodIs hr11) lkV_RX12_209 hs3 rfl rfl rfl (Nat.le_of_ble_eq_true rfl) (Nat.le_of_ble_eq_true rfl) (Nat.le_of_ble_eq_true rfl) (Nat.le_of_ble_eq_true rfl) (Nat.le_of_ble_eq_true rfl) dX12_isTop_35 ?_
          refine k_nf (cells2 := 0) (slots2 := 0) (st2 := [.int r11]) rfl rfl rfl ?_
          refine k_aloadn (pc := 38) C dX12_isTop_38 (i := 0) rfl 0 rfl ?_
          refine k_iloadn (pc := 39) C dX12_isTop_39 (i := 1) rfl 1 rfl ?_
          refine k_iconst (pc := 40) C (v := (1 : Int32)) dX12_isTop_40 (by decide) ?_
          obtain ⟨r12, hr12, h⟩ := bd_e h
          refine k_V (pc := 41) (st := [.int r11]) C (c_X12_goodIs hr12) lkV_RX12_209 hs3 rfl rfl rfl (Nat.le_of_ble_eq_true rfl) (Nat.le_of_ble_eq_true rfl) (Nat.le_of_ble_eq_true rfl) (Nat.le_of_ble_eq_true rfl) (Nat.le_of_ble_eq_true rfl) dX12_isTop_41 ?_
          refine k_nf (cells2 := 0) (slots2 := 0) (st2 := [.int r12, .int r11]) rfl rfl rfl ?_
          refine k_icmp_eq (pc := 44) C dX12_isTop_44 (tgt := 51) (by decide) (fun hc13 => ?_) (fun hc13 => ?_)
          · rw [if_pos hc13] at h
            refine k_loc (L2 := [(0, .ref (E.1 + a0)), (1, .int x1), (3, .int x3)]) [0, 1, 3] rfl ?_
            exact b_X12_isTop_51 C hr hk ih _ _ _ h
          · rw [if_neg hc13] at h
            refine k_loc (L2 := [(0, .ref (E.1 + a0)), (1, .int x1), (3, .int x3)]) [0, 1, 3] rfl ?_
            exact b_X12_isTop_47 C hr hk ih _ _ _ h
def f_X12_isTop (S : Sh) (R : Rw) (I : Iw)  (a0 : Nat) (x1 : Int32) : Option (Int32) := gp (sok S a0 12 34) (bd (f_X12_isIn S R I a0 x1) (fun r2 => f_X12_isTop_10 S R I  512 a0 x1 r2 (x1 + (1 : Int32))))
set_option maxHeartbeats 4000000 in
theorem b_X12_isTop {E : Ev} {p : Program} {l : Launch} {e : Env} {s : State} {m : MethodId} {args : Array Value} {below : List Frame} {meth : Method} {c : Code} (C : Cx E RX12 cX12_isTop 4 p s m c) (hr : meth.sig.returnType = (some .boolean)) (hk : meth.locks = false) {S : Sh} {R : Rw} {I : Iw} {r : Int32}  : ∀ (a0 : Nat) (x1 : Int32), f_X12_isTop S R I   a0 x1 = some r → Wk E 4 p l e ({ frames := 3, cells := 0, slots := 0, locals := 64 } : Room) s m args below meth c 0 0 (MQ below (Qw E S R I (some (.int r))) args s 0 0 (fun q => E.1 ≤ q)) 0 [(0, .ref (E.1 + a0)), (1, .int x1)] [] S R I := by
  intro a0 x1 h
  rw [f_X12_isTop] at h
  refine k_aloadn (pc := 0) C dX12_isTop_0 (i := 0) rfl 0 rfl ?_
  refine k_iloadn (pc := 1) C dX12_isTop_1 (i := 1) rfl 1 rfl ?_
  obtain ⟨hs10, h⟩ := gp_e h
  have hs1 := sok_e hs10
  obtain ⟨r2, hr2, h⟩ := bd_e h
  refine k_V (pc := 2) (st := []) C (c_X12_isIn hr2) lkV_RX12_233 hs1 rfl rfl rfl (Nat.le_of_ble_eq_true rfl) (Nat.le_of_ble_eq_true rfl) (Nat.le_of_ble_eq_true rfl) (Nat.le_of_ble_eq_true rfl) (Nat.le_of_ble_eq_true rfl) dX12_isTop_2 ?_
  refine k_nf (cells2 := 0) (slots2 := 0) (st2 := [.int r2]) rfl rfl rfl ?_
  refine k_istoren (pc := 5) C dX12_isTop_5 (i := 2) rfl (by decide) (L2 := [(0, .ref (E.1 + a0)), (1, .int x1), (2, .int r2)]) rfl ?_
  refine k_iloadn (pc := 6) C dX12_isTop_6 (i := 1) rfl 1 rfl ?_
  refine k_iconst (pc := 7) C (v := (1 : Int32)) dX12_isTop_7 (by decide) ?_
  refine k_iadd (pc := 8) C dX12_isTop_8 ?_
  refine k_istoren (pc := 9) C dX12_isTop_9 (i := 3) rfl (by decide) (L2 := [(0, .ref (E.1 + a0)), (1, .int x1), (2, .int r2), (3, .int (x1 + (1 : Int32)))]) rfl ?_
  exact b_X12_isTop_10 C hr hk  _ _ _ _ _ h
theorem c_X12_isTop {E : Ev} {l : Launch} {S : Sh} {R : Rw} {I : Iw} {a0 : Nat} {x1 : Int32} {r : Int32} (h : f_X12_isTop S R I a0 x1 = some r) : Mt E l yX12_isTop cX12_isTop 4 (some .boolean) 3 64 [.ref (E.1 + a0), .int x1] S R I S R I (some (.int r)) 0 0 := mt_of (by decide) (Nat.le_of_ble_eq_true rfl) (fun p e s m args below meth c C hr hk hn => b_X12_isTop C hr hk _ _ h)
theorem dX12_isNear_0 : decode cX12_isNear 0 = .ok (.iload_n 1, 1) := by decide +kernel
theorem dX12_isNear_1 : decode cX12_isNear 1 = .ok (.iload_n 2, 1) := by decide +kernel
theorem dX12_isNear_2 : decode cX12_isNear 2 = .ok (.isub, 1) := by decide +kernel
theorem dX12_isNear_3 : decode cX12_isNear 3 = .ok (.invokestatic 236, 3) := by decide +kernel
theorem dX12_isNear_6 : decode cX12_isNear 6 = .ok (.aload_n 0, 1) := by decide +kernel
theorem dX12_isNear_7 : decode cX12_isNear 7 = .ok (.getfield 9, 3) := by decide +kernel
theorem dX12_isNear_10 : decode cX12_isNear 10 = .ok (.iconst 0, 1) := by decide +kernel
theorem dX12_isNear_11 : decode cX12_isNear 11 = .ok (.iaload, 1) := by decide +kernel
theorem dX12_isNear_12 : decode cX12_isNear 12 = .ok (.if_icmp .gt 7, 3) := by decide +kernel
theorem dX12_isNear_15 : decode cX12_isNear 15 = .ok (.iconst 1, 1) := by decide +kernel
theorem dX12_isNear_16 : decode cX12_isNear 16 = .ok (.goto 4, 3) := by decide +kernel
theorem dX12_isNear_19 : decode cX12_isNear 19 = .ok (.iconst 0, 1) := by decide +kernel
theorem dX12_isNear_20 : decode cX12_isNear 20 = .ok (.ireturn, 1) := by decide +kernel
def f_X12_isNear (S : Sh) (R : Rw) (I : Iw)  (a0 : Nat) (x1 : Int32) (x2 : Int32) : Option (Int32) := gp (sok S a0 12 34) (rl (R a0 0) (fun b2 => gp (aok S 20 b2 (0 : Int32)) ((if (I b2 (0 : Int32).toNatClampNeg) < (jabs (x1 - x2)) then some (0 : Int32) else some (1 : Int32)))))
set_option maxHeartbeats 4000000 in
theorem b_X12_isNear {E : Ev} {p : Program} {l : Launch} {e : Env} {s : State} {m : MethodId} {args : Array Value} {below : List Frame} {meth : Method} {c : Code} (C : Cx E RX12 cX12_isNear 3 p s m c) (hr : meth.sig.returnType = (some .boolean)) (hk : meth.locks = false) {S : Sh} {R : Rw} {I : Iw} {r : Int32}  : ∀ (a0 : Nat) (x1 : Int32) (x2 : Int32), f_X12_isNear S R I   a0 x1 x2 = some r → Wk E 3 p l e ({ frames := 1, cells := 0, slots := 0, locals := 21 } : Room) s m args below meth c 0 0 (MQ below (Qw E S R I (some (.int r))) args s 0 0 (fun q => E.1 ≤ q)) 0 [(0, .ref (E.1 + a0)), (1, .int x1), (2, .int x2)] [] S R I := by
  intro a0 x1 x2 h
  rw [f_X12_isNear] at h
  refine k_iloadn (pc := 0) C dX12_isNear_0 (i := 1) rfl 1 rfl ?_
  refine k_iloadn (pc := 1) C dX12_isNear_1 (i := 2) rfl 2 rfl ?_
  refine k_isub (pc := 2) C dX12_isNear_2 ?_
  refine k_mabs (pc := 3) (st := []) C (t6_in 85 (by decide +kernel) rfl) (Nat.le_of_ble_eq_true rfl) (Nat.le_of_ble_eq_true rfl) (Nat.le_of_ble_eq_true rfl) (Nat.le_of_ble_eq_true rfl) (Nat.le_of_ble_eq_true rfl) dX12_isNear_3 ?_
  refine k_aloadn (pc := 6) C dX12_isNear_6 (i := 0) rfl 0 rfl ?_
  obtain ⟨hs10, h⟩ := gp_e h
  have hs1 := sok_e hs10
  obtain ⟨b2, hb2, h⟩ := rl_e h
  refine k_getR (pc := 7) C lkF_RX12_9_12 hs1 ir_12_0 hb2 dX12_isNear_7 ?_
  refine k_iconst (pc := 10) C (v := (0 : Int32)) dX12_isNear_10 (by decide) ?_
  obtain ⟨ha3, h⟩ := gp_e h
  refine k_iald (pc := 11) C ha3 dX12_isNear_11 ?_
  refine k_icmp_gt (pc := 12) C dX12_isNear_12 (tgt := 19) (by decide) (fun hc4 => ?_) (fun hc4 => ?_)
  · rw [if_pos hc4] at h
    refine k_iconst (pc := 19) C (v := (0 : Int32)) dX12_isNear_19 (by decide) ?_
    have h := Option.some.inj h
    subst h
    exact k_zret (pc := 20) C hr hk (Or.inl rfl) dX12_isNear_20
  · rw [if_neg hc4] at h
    refine k_iconst (pc := 15) C (v := (1 : Int32)) dX12_isNear_15 (by decide) ?_
    refine k_goto (pc := 16) C dX12_isNear_16 (tgt := 20) (by decide) ?_
    have h := Option.some.inj h
    subst h
    exact k_zret (pc := 20) C hr hk (Or.inr rfl) dX12_isNear_20
theorem c_X12_isNear {E : Ev} {l : Launch} {S : Sh} {R : Rw} {I : Iw} {a0 : Nat} {x1 : Int32} {x2 : Int32} {r : Int32} (h : f_X12_isNear S R I a0 x1 x2 = some r) : Mt E l yX12_isNear cX12_isNear 3 (some .boolean) 1 21 [.ref (E.1 + a0), .int x1, .int x2] S R I S R I (some (.int r)) 0 0 := mt_of (by decide) (Nat.le_of_ble_eq_true rfl) (fun p e s m args below meth c C hr hk hn => b_X12_isNear C hr hk _ _ _ h)
theorem lkV_RX12_239 : LkV RX12 239 RX12 yX12_isNear cX12_isNear 3 (some .boolean) 2 := ⟨(t6_in 81 (by decide +kernel) rfl), (t6_in 83 (by decide +kernel) rfl), (t0_in 50 (by decide +kernel) rfl), (t6_in 84 (by decide +kernel) rfl), (t1_in 7 (by decide +kernel) rfl), by decide, by decide +kernel⟩
theorem dX12_standsFor_0 : decode cX12_standsFor 0 = .ok (.iconst 0, 1) := by decide +kernel
theorem dX12_standsFor_1 : decode cX12_standsFor 1 = .ok (.istore_n 3, 1) := by decide +kernel
theorem dX12_standsFor_2 : decode cX12_standsFor 2 = .ok (.iconst 0, 1) := by decide +kernel
theorem dX12_standsFor_3 : decode cX12_standsFor 3 = .ok (.istore 4, 2) := by decide +kernel
theorem dX12_standsFor_5 : decode cX12_standsFor 5 = .ok (.iload 4, 2) := by decide +kernel
theorem dX12_standsFor_7 : decode cX12_standsFor 7 = .ok (.aload_n 0, 1) := by decide +kernel
theorem dX12_standsFor_8 : decode cX12_standsFor 8 = .ok (.getfield 9, 3) := by decide +kernel
theorem dX12_standsFor_11 : decode cX12_standsFor 11 = .ok (.iconst 3, 1) := by decide +kernel
theorem dX12_standsFor_12 : decode cX12_standsFor 12 = .ok (.iaload, 1) := by decide +kernel
theorem dX12_standsFor_13 : decode cX12_standsFor 13 = .ok (.if_icmp .ge 57, 3) := by decide +kernel
theorem dX12_standsFor_16 : decode cX12_standsFor 16 = .ok (.iload_n 3, 1) := by decide +kernel
theorem dX12_standsFor_17 : decode cX12_standsFor 17 = .ok (.ifCond .ne 41, 3) := by decide +kernel
theorem dX12_standsFor_20 : decode cX12_standsFor 20 = .ok (.iload 4, 2) := by decide +kernel
theorem dX12_standsFor_22 : decode cX12_standsFor 22 = .ok (.iload_n 1, 1) := by decide +kernel
theorem dX12_standsFor_23 : decode cX12_standsFor 23 = .ok (.if_icmp .eq 39, 3) := by decide +kernel
theorem dX12_standsFor_26 : decode cX12_standsFor 26 = .ok (.iload 4, 2) := by decide +kernel
theorem dX12_standsFor_28 : decode cX12_standsFor 28 = .ok (.iload_n 2, 1) := by decide +kernel
theorem dX12_standsFor_29 : decode cX12_standsFor 29 = .ok (.if_icmp .eq 33, 3) := by decide +kernel
theorem dX12_standsFor_32 : decode cX12_standsFor 32 = .ok (.aload_n 0, 1) := by decide +kernel
theorem dX12_standsFor_33 : decode cX12_standsFor 33 = .ok (.iload 4, 2) := by decide +kernel
theorem dX12_standsFor_35 : decode cX12_standsFor 35 = .ok (.iconst 2, 1) := by decide +kernel
theorem dX12_standsFor_36 : decode cX12_standsFor 36 = .ok (.invokevirtual 209, 3) := by decide +kernel
theorem dX12_standsFor_39 : decode cX12_standsFor 39 = .ok (.aload_n 0, 1) := by decide +kernel
theorem dX12_standsFor_40 : decode cX12_standsFor 40 = .ok (.iload_n 1, 1) := by decide +kernel
theorem dX12_standsFor_41 : decode cX12_standsFor 41 = .ok (.iconst 2, 1) := by decide +kernel
theorem dX12_standsFor_42 : decode cX12_standsFor 42 = .ok (.invokevirtual 209, 3) := by decide +kernel
theorem dX12_standsFor_45 : decode cX12_standsFor 45 = .ok (.if_icmp .ne 17, 3) := by decide +kernel
theorem dX12_standsFor_48 : decode cX12_standsFor 48 = .ok (.aload_n 0, 1) := by decide +kernel
theorem dX12_standsFor_49 : decode cX12_standsFor 49 = .ok (.iload 4, 2) := by decide +kernel
theorem dX12_standsFor_51 : decode cX12_standsFor 51 = .ok (.iload_n 2, 1) := by decide +kernel
theorem dX12_standsFor_52 : decode cX12_standsFor 52 = .ok (.invokevirtual 239, 3) := by decide +kernel
theorem dX12_standsFor_55 : decode cX12_standsFor 55 = .ok (.ifCond .eq 7, 3) := by decide +kernel
theorem dX12_standsFor_58 : decode cX12_standsFor 58 = .ok (.iconst 1, 1) := by decide +kernel
theorem dX12_standsFor_59 : decode cX12_standsFor 59 = .ok (.goto 4, 3) := by decide +kernel
theorem dX12_standsFor_62 : decode cX12_standsFor 62 = .ok (.iconst 0, 1) := by decide +kernel
theorem dX12_standsFor_63 : decode cX12_standsFor 63 = .ok (.istore_n 3, 1) := by decide +kernel
theorem dX12_standsFor_64 : decode cX12_standsFor 64 = .ok (.iinc 4 1, 3) := by decide +kernel
theorem dX12_standsFor_67 : decode cX12_standsFor 67 = .ok (.goto (-62), 3) := by decide +kernel
theorem dX12_standsFor_70 : decode cX12_standsFor 70 = .ok (.iload_n 3, 1) := by decide +kernel
theorem dX12_standsFor_71 : decode cX12_standsFor 71 = .ok (.ifCond .eq 17, 3) := by decide +kernel
theorem dX12_standsFor_74 : decode cX12_standsFor 74 = .ok (.aload_n 0, 1) := by decide +kernel
theorem dX12_standsFor_75 : decode cX12_standsFor 75 = .ok (.iload_n 1, 1) := by decide +kernel
theorem dX12_standsFor_76 : decode cX12_standsFor 76 = .ok (.iconst 0, 1) := by decide +kernel
theorem dX12_standsFor_77 : decode cX12_standsFor 77 = .ok (.invokevirtual 209, 3) := by decide +kernel
theorem dX12_standsFor_80 : decode cX12_standsFor 80 = .ok (.iconst 1, 1) := by decide +kernel
theorem dX12_standsFor_81 : decode cX12_standsFor 81 = .ok (.if_icmp .ne 7, 3) := by decide +kernel
theorem dX12_standsFor_84 : decode cX12_standsFor 84 = .ok (.iconst 1, 1) := by decide +kernel
theorem dX12_standsFor_85 : decode cX12_standsFor 85 = .ok (.goto 4, 3) := by decide +kernel
theorem dX12_standsFor_88 : decode cX12_standsFor 88 = .ok (.iconst 0, 1) := by decide +kernel
theorem dX12_standsFor_89 : decode cX12_standsFor 89 = .ok (.ireturn, 1) := by decide +kernel
def f_X12_standsFor_63 (S : Sh) (R : Rw) (I : Iw) (ko5 : Nat → Int32 → Int32 → Int32 → Int32 → Option (Int32)) (a0 : Nat) (x1 : Int32) (x2 : Int32) (x4 : Int32) (s0 : Int32) : Option (Int32) := ko5 a0 x1 x2 s0 (x4 + (1 : Int32))
set_option maxHeartbeats 4000000 in
theorem b_X12_standsFor_63 {E : Ev} {p : Program} {l : Launch} {e : Env} {s : State} {m : MethodId} {args : Array Value} {below : List Frame} {meth : Method} {c : Code} (C : Cx E RX12 cX12_standsFor 5 p s m c) (hr : meth.sig.returnType = (some .boolean)) (hk : meth.locks = false) {S : Sh} {R : Rw} {I : Iw} {r : Int32}  {ko5 : Nat → Int32 → Int32 → Int32 → Int32 → Option (Int32)} (hko5 : ∀ (a0 : Nat) (x1 : Int32) (x2 : Int32) (x3 : Int32) (x4 : Int32), ko5 a0 x1 x2 x3 x4 = some r → Wk E 5 p l e ({ frames := 2, cells := 0, slots := 0, locals := 43 } : Room) s m args below meth c 0 0 (MQ below (Qw E S R I (some (.int r))) args s 0 0 (fun q => E.1 ≤ q)) 5 [(0, .ref (E.1 + a0)), (1, .int x1), (2, .int x2), (3, .int x3), (4, .int x4)] [] S R I) : ∀ (a0 : Nat) (x1 : Int32) (x2 : Int32) (x4 : Int32) (s0 : Int32), f_X12_standsFor_63 S R I ko5  a0 x1 x2 x4 s0 = some r → Wk E 5 p l e ({ frames := 2, cells := 0, slots := 0, locals := 43 } : Room) s m args below meth c 0 0 (MQ below (Qw E S R I (some (.int r))) args s 0 0 (fun q => E.1 ≤ q)) 63 [(0, .ref (E.1 + a0)), (1, .int x1), (2, .int x2), (4, .int x4)] [.int s0] S R I := by
  intro a0 x1 x2 x4 s0 h
  rw [f_X12_standsFor_63] at h
  refine k_istoren (pc := 63) C dX12_standsFor_63 (i := 3) rfl (by decide) (L2 := [(0, .ref (E.1 + a0)), (1, .int x1), (2, .int x2), (3, .int s0), (4, .int x4)]) rfl ?_
  refine k_iinc (pc := 64) C dX12_standsFor_64 4 rfl (v := x4 + (1 : Int32)) (by rfl) (by decide) (L2 := [(0, .ref (E.1 + a0)), (1, .int x1), (2, .int x2), (3, .int s0), (4, .int (x4 + (1 : Int32)))]) rfl ?_
  refine k_goto (pc := 67) C dX12_standsFor_67 (tgt := 5) (by decide) ?_
  exact hko5 _ _ _ _ _ h
def f_X12_standsFor_58 (S : Sh) (R : Rw) (I : Iw) (ko5 : Nat → Int32 → Int32 → Int32 → Int32 → Option (Int32)) (a0 : Nat) (x1 : Int32) (x2 : Int32) (x4 : Int32) : Option (Int32) := f_X12_standsFor_63 S R I ko5 a0 x1 x2 x4 (1 : Int32)
set_option maxHeartbeats 4000000 in
theorem b_X12_standsFor_58 {E : Ev} {p : Program} {l : Launch} {e : Env} {s : State} {m : MethodId} {args : Array Value} {below : List Frame} {meth : Method} {c : Code} (C : Cx E RX12 cX12_standsFor 5 p s m c) (hr : meth.sig.returnType = (some .boolean)) (hk : meth.locks = false) {S : Sh} {R : Rw} {I : Iw} {r : Int32}  {ko5 : Nat → Int32 → Int32 → Int32 → Int32 → Option (Int32)} (hko5 : ∀ (a0 : Nat) (x1 : Int32) (x2 : Int32) (x3 : Int32) (x4 : Int32), ko5 a0 x1 x2 x3 x4 = some r → Wk E 5 p l e ({ frames := 2, cells := 0, slots := 0, locals := 43 } : Room) s m args below meth c 0 0 (MQ below (Qw E S R I (some (.int r))) args s 0 0 (fun q => E.1 ≤ q)) 5 [(0, .ref (E.1 + a0)), (1, .int x1), (2, .int x2), (3, .int x3), (4, .int x4)] [] S R I) : ∀ (a0 : Nat) (x1 : Int32) (x2 : Int32) (x4 : Int32), f_X12_standsFor_58 S R I ko5  a0 x1 x2 x4 = some r → Wk E 5 p l e ({ frames := 2, cells := 0, slots := 0, locals := 43 } : Room) s m args below meth c 0 0 (MQ below (Qw E S R I (some (.int r))) args s 0 0 (fun q => E.1 ≤ q)) 58 [(0, .ref (E.1 + a0)), (1, .int x1), (2, .int x2), (4, .int x4)] [] S R I := by
  intro a0 x1 x2 x4 h
  rw [f_X12_standsFor_58] at h
  refine k_iconst (pc := 58) C (v := (1 : Int32)) dX12_standsFor_58 (by decide) ?_
  refine k_goto (pc := 59) C dX12_standsFor_59 (tgt := 63) (by decide) ?_
  exact b_X12_standsFor_63 C hr hk hko5 _ _ _ _ _ h
def f_X12_standsFor_62 (S : Sh) (R : Rw) (I : Iw) (ko5 : Nat → Int32 → Int32 → Int32 → Int32 → Option (Int32)) (a0 : Nat) (x1 : Int32) (x2 : Int32) (x4 : Int32) : Option (Int32) := f_X12_standsFor_63 S R I ko5 a0 x1 x2 x4 (0 : Int32)
set_option maxHeartbeats 4000000 in
theorem b_X12_standsFor_62 {E : Ev} {p : Program} {l : Launch} {e : Env} {s : State} {m : MethodId} {args : Array Value} {below : List Frame} {meth : Method} {c : Code} (C : Cx E RX12 cX12_standsFor 5 p s m c) (hr : meth.sig.returnType = (some .boolean)) (hk : meth.locks = false) {S : Sh} {R : Rw} {I : Iw} {r : Int32}  {ko5 : Nat → Int32 → Int32 → Int32 → Int32 → Option (Int32)} (hko5 : ∀ (a0 : Nat) (x1 : Int32) (x2 : Int32) (x3 : Int32) (x4 : Int32), ko5 a0 x1 x2 x3 x4 = some r → Wk E 5 p l e ({ frames := 2, cells := 0, slots := 0, locals := 43 } : Room) s m args below meth c 0 0 (MQ below (Qw E S R I (some (.int r))) args s 0 0 (fun q => E.1 ≤ q)) 5 [(0, .ref (E.1 + a0)), (1, .int x1), (2, .int x2), (3, .int x3), (4, .int x4)] [] S R I) : ∀ (a0 : Nat) (x1 : Int32) (x2 : Int32) (x4 : Int32), f_X12_standsFor_62 S R I ko5  a0 x1 x2 x4 = some r → Wk E 5 p l e ({ frames := 2, cells := 0, slots := 0, locals := 43 } : Room) s m args below meth c 0 0 (MQ below (Qw E S R I (some (.int r))) args s 0 0 (fun q => E.1 ≤ q)) 62 [(0, .ref (E.1 + a0)), (1, .int x1), (2, .int x2), (4, .int x4)] [] S R I := by
  intro a0 x1 x2 x4 h
  rw [f_X12_standsFor_62] at h
  refine k_iconst (pc := 62) C (v := (0 : Int32)) dX12_standsFor_62 (by decide) ?_
  exact b_X12_standsFor_63 C hr hk hko5 _ _ _ _ _ h
def f_X12_standsFor_5 (S : Sh) (R : Rw) (I : Iw)  : Nat → Nat → Int32 → Int32 → Int32 → Int32 → Option (Int32)
  | 0, _, _, _, _, _ => none
  | n + 1, a0, x1, x2, x3, x4 => gp (sok S a0 12 34) (rl (R a0 0) (fun b2 => gp (aok S 20 b2 (3 : Int32)) ((if (I b2 (3 : Int32).toNatClampNeg) ≤ x4 then (if x3 = 0 then some (0 : Int32) else bd (f_X12_goodIs S R I a0 x1 (0 : Int32)) (fun r6 => (if r6 = (1 : Int32) then some (1 : Int32) else some (0 : Int32)))) else (if x3 = 0 then (if x4 = x1 then f_X12_standsFor_62 S R I (f_X12_standsFor_5 S R I  n) a0 x1 x2 x4 else (if x4 = x2 then f_X12_standsFor_62 S R I (f_X12_standsFor_5 S R I  n) a0 x1 x2 x4 else bd (f_X12_goodIs S R I a0 x4 (2 : Int32)) (fun r11 => bd (f_X12_goodIs S R I a0 x1 (2 : Int32)) (fun r12 => (if r11 = r12 then bd (f_X12_isNear S R I a0 x4 x2) (fun r14 => (if r14 = 0 then f_X12_standsFor_62 S R I (f_X12_standsFor_5 S R I  n) a0 x1 x2 x4 else f_X12_standsFor_58 S R I (f_X12_standsFor_5 S R I  n) a0 x1 x2 x4)) else f_X12_standsFor_62 S R I (f_X12_standsFor_5 S R I  n) a0 x1 x2 x4))))) else f_X12_standsFor_58 S R I (f_X12_standsFor_5 S R I  n) a0 x1 x2 x4)))))
set_option maxHeartbeats 4000000 in
theorem b_X12_standsFor_5 {E : Ev} {p : Program} {l : Launch} {e : Env} {s : State} {m : MethodId} {args : Array Value} {below : List Frame} {meth : Method} {c : Code} (C : Cx E RX12 cX12_standsFor 5 p s m c) (hr : meth.sig.returnType = (some .boolean)) (hk : meth.locks = false) {S : Sh} {R : Rw} {I : Iw} {r : Int32}  : ∀ (n : Nat) (a0 : Nat) (x1 : Int32) (x2 : Int32) (x3 : Int32) (x4 : Int32), f_X12_standsFor_5 S R I  n a0 x1 x2 x3 x4 = some r → Wk E 5 p l e ({ frames := 2, cells := 0, slots := 0, locals := 43 } : Room) s m args below meth c 0 0 (MQ below (Qw E S R I (some (.int r))) args s 0 0 (fun q => E.1 ≤ q)) 5 [(0, .ref (E.1 + a0)), (1, .int x1), (2, .int x2), (3, .int x3), (4, .int x4)] [] S R I := by
  intro n
  induction n with
  | zero =>
    intro a0 x1 x2 x3 x4 h
    rw [f_X12_standsFor_5] at h
    cases h
  | succ n ih =>
    intro a0 x1 x2 x3 x4 h
    rw [f_X12_standsFor_5] at h
    refine k_iload (pc := 5) C dX12_standsFor_5 4 rfl ?_
    refine k_aloadn (pc := 7) C dX12_standsFor_7 (i := 0) rfl 0 rfl ?_
    obtain ⟨hs10, h⟩ := gp_e h
    have hs1 := sok_e hs10
    obtain ⟨b2, hb2, h⟩ := rl_e h
    refine k_getR (pc := 8) C lkF_RX12_9_12 hs1 ir_12_0 hb2 dX12_standsFor_8 ?_
    refine k_iconst (pc := 11) C (v := (3 : Int32)) dX12_standsFor_11 (by decide) ?_
    obtain ⟨ha3, h⟩ := gp_e h
    refine k_iald (pc := 12) C ha3 dX12_standsFor_12 ?_
    refine k_icmp_ge (pc := 13) C dX12_standsFor_13 (tgt := 70) (by decide) (fun hc4 => ?_) (fun hc4 => ?_)
    · rw [if_pos hc4] at h
      refine k_iloadn (pc := 70) C dX12_standsFor_70 (i := 3) rfl 3 rfl ?_
      refine k_if_eq (pc := 71) C dX12_standsFor_71 (tgt := 88) (by decide) (fun hc5 => ?_) (fun hc5 => ?_)
      · rw [if_pos hc5] at h
        refine k_iconst (pc := 88) C (v := (0 : Int32)) dX12_standsFor_88 (by decide) ?_
        have h := Option.some.inj h
        subst h
        exact k_zret (pc := 89) C hr hk (Or.inl rfl) dX12_standsFor_89
      · rw [if_neg hc5] at h
        refine k_aloadn (pc := 74) C dX12_standsFor_74 (i := 0) rfl 0 rfl ?_
        refine k_iloadn (pc := 75) C dX12_standsFor_75 (i := 1) rfl 1 rfl ?_
        refine k_iconst (pc := 76) C (v := (0 : Int32)) dX12_standsFor_76 (by decide) ?_
        obtain ⟨r6, hr6, h⟩ := bd_e h
        refine k_V (pc := 77) (st := []) C (c_X12_goodIs hr6) lkV_RX12_209 hs1 rfl rfl rfl (Nat.le_of_ble_eq_true rfl) (Nat.le_of_ble_eq_true rfl) (Nat.le_of_ble_eq_true rfl) (Nat.le_of_ble_eq_true rfl) (Nat.le_of_ble_eq_true rfl) dX12_standsFor_77 ?_
        refine k_nf (cells2 := 0) (slots2 := 0) (st2 := [.int r6]) rfl rfl rfl ?_
        refine k_iconst (pc := 80) C (v := (1 : Int32)) dX12_standsFor_80 (by decide) ?_
        refine k_icmp_ne (pc := 81) C dX12_standsFor_81 (tgt := 88) (by decide) (fun hc7 => ?_) (fun hc7 => ?_)
        · rw [if_neg hc7] at h
          refine k_iconst (pc := 88) C (v := (0 : Int32)) dX12_standsFor_88 (by decide) ?_
          have h := Option.some.inj h
          subst h
          exact k_zret (pc := 89) C hr hk (Or.inl rfl) dX12_standsFor_89
        · rw [if_pos hc7] at h
          refine k_iconst (pc := 84) C (v := (1 : Int32)) dX12_standsFor_84 (by decide) ?_
          refine k_goto (pc := 85) C dX12_standsFor_85 (tgt := 89) (by decide) ?_
          have h := Option.some.inj h
          subst h
          exact k_zret (pc := 89) C hr hk (Or.inr rfl) dX12_standsFor_89
    · rw [if_neg hc4] at h
      refine k_iloadn (pc := 16) C dX12_standsFor_16 (i := 3) rfl 3 rfl ?_
      refine k_if_ne (pc := 17) C dX12_standsFor_17 (tgt := 58) (by decide) (fun hc8 => ?_) (fun hc8 => ?_)
      · rw [if_neg hc8] at h
        refine k_loc (L2 := [(0, .ref (E.1 + a0)), (1, .int x1), (2, .int x2), (4, .int x4)]) [0, 1, 2, 4] rfl ?_
        exact b_X12_standsFor_58 C hr hk ih _ _ _ _ h
      · rw [if_pos hc8] at h
        refine k_iload (pc := 20) C dX12_standsFor_20 4 rfl ?_
        refine k_iloadn (pc := 22) C dX12_standsFor_22 (i := 1) rfl 1 rfl ?_
        refine k_icmp_eq (pc := 23) C dX12_standsFor_23 (tgt := 62) (by decide) (fun hc9 => ?_) (fun hc9 => ?_)
        · rw [if_pos hc9] at h
          refine k_loc (L2 := [(0, .ref (E.1 + a0)), (1, .int x1), (2, .int x2), (4, .int x4)]) [0, 1, 2, 4] rfl ?_
          exact b_X12_standsFor_62 C hr hk ih _ _ _ _ h
        · rw [if_neg hc9] at h
          refine k_iload (pc := 26) C dX12_standsFor_26 4 rfl ?_
          refine k_iloadn (pc := 28) C dX12_standsFor_28 (i := 2) rfl 2 rfl ?_
          refine k_icmp_eq (pc := 29) C dX12_standsFor_29 (tgt := 62) (by decide) (fun hc10 => ?_) (fun hc10 => ?_)
          · rw [if_pos hc10] at h
            refine k_loc (L2 := [(0, .ref (E.1 + a0)), (1, .int x1), (2, .int x2), (4, .int x4)]) [0, 1, 2, 4] rfl ?_
            exact b_X12_standsFor_62 C hr hk ih _ _ _ _ h
          · rw [if_neg hc10] at h
            refine k_aloadn (pc := 32) C dX12_standsFor_32 (i := 0) rfl 0 rfl ?_
            refine k_iload (pc := 33) C dX12_standsFor_33 4 rfl ?_
            refine k_iconst (pc := 35) C (v := (2 : Int32)) dX12_standsFor_35 (by decide) ?_
            obtain ⟨r11, hr11, h⟩ := bd_e h
            refine k_V (pc := 36) (st := []) C (c_X12_goodIs hr11) lkV_RX12_209 hs1 rfl rfl rfl (Nat.le_of_ble_eq_true rfl) (Nat.le_of_ble_eq_true rfl) (Nat.le_of_ble_eq_true rfl) (Nat.le_of_ble_eq_true rfl) (Nat.le_of_ble_eq_true rfl) dX12_standsFor_36 ?_
            refine k_nf (cells2 := 0) (slots2 := 0) (st2 := [.int r11]) rfl rfl rfl ?_
            refine k_aloadn (pc := 39) C dX12_standsFor_39 (i := 0) rfl 0 rfl ?_
            refine k_iloadn (pc := 40) C dX12_standsFor_40 (i := 1) rfl 1 rfl ?_
            refine k_iconst (pc := 41) C (v := (2 : Int32)) dX12_standsFor_41 (by decide) ?_
            obtain ⟨r12, hr12, h⟩ := bd_e h
            refine k_V (pc := 42) (st := [.int r11]) C (c_X12_goodIs hr12) lkV_RX12_209 hs1 rfl rfl rfl (Nat.le_of_ble_eq_true rfl) (Nat.le_of_ble_eq_true rfl) (Nat.le_of_ble_eq_true rfl) (Nat.le_of_ble_eq_true rfl) (Nat.le_of_ble_eq_true rfl) dX12_standsFor_42 ?_
            refine k_nf (cells2 := 0) (slots2 := 0) (st2 := [.int r12, .int r11]) rfl rfl rfl ?_
            refine k_icmp_ne (pc := 45) C dX12_standsFor_45 (tgt := 62) (by decide) (fun hc13 => ?_) (fun hc13 => ?_)
            · rw [if_neg hc13] at h
              refine k_loc (L2 := [(0, .ref (E.1 + a0)), (1, .int x1), (2, .int x2), (4, .int x4)]) [0, 1, 2, 4] rfl ?_
              exact b_X12_standsFor_62 C hr hk ih _ _ _ _ h
            · rw [if_pos hc13] at h
              refine k_aloadn (pc := 48) C dX12_standsFor_48 (i := 0) rfl 0 rfl ?_
              refine k_iload (pc := 49) C dX12_standsFor_49 4 rfl ?_
              refine k_iloadn (pc := 51) C dX12_standsFor_51 (i := 2) rfl 2 rfl ?_
              obtain ⟨r14, hr14, h⟩ := bd_e h
              refine k_V (pc := 52) (st := []) C (c_X12_isNear hr14) lkV_RX12_239 hs1 rfl rfl rfl (Nat.le_of_ble_eq_true rfl) (Nat.le_of_ble_eq_true rfl) (Nat.le_of_ble_eq_true rfl) (Nat.le_of_ble_eq_true rfl) (Nat.le_of_ble_eq_true rfl) dX12_standsFor_52 ?_
              refine k_nf (cells2 := 0) (slots2 := 0) (st2 := [.int r14]) rfl rfl rfl ?_
              refine k_if_eq (pc := 55) C dX12_standsFor_55 (tgt := 62) (by decide) (fun hc15 => ?_) (fun hc15 => ?_)
              · rw [if_pos hc15] at h
                refine k_loc (L2 := [(0, .ref (E.1 + a0)), (1, .int x1), (2, .int x2), (4, .int x4)]) [0, 1, 2, 4] rfl ?_
                exact b_X12_standsFor_62 C hr hk ih _ _ _ _ h
              · rw [if_neg hc15] at h
                refine k_loc (L2 := [(0, .ref (E.1 + a0)), (1, .int x1), (2, .int x2), (4, .int x4)]) [0, 1, 2, 4] rfl ?_
                exact b_X12_standsFor_58 C hr hk ih _ _ _ _ h
def f_X12_standsFor (S : Sh) (R : Rw) (I : Iw)  (a0 : Nat) (x1 : Int32) (x2 : Int32) : Option (Int32) := f_X12_standsFor_5 S R I  512 a0 x1 x2 (0 : Int32) (0 : Int32)
set_option maxHeartbeats 4000000 in
theorem b_X12_standsFor {E : Ev} {p : Program} {l : Launch} {e : Env} {s : State} {m : MethodId} {args : Array Value} {below : List Frame} {meth : Method} {c : Code} (C : Cx E RX12 cX12_standsFor 5 p s m c) (hr : meth.sig.returnType = (some .boolean)) (hk : meth.locks = false) {S : Sh} {R : Rw} {I : Iw} {r : Int32}  : ∀ (a0 : Nat) (x1 : Int32) (x2 : Int32), f_X12_standsFor S R I   a0 x1 x2 = some r → Wk E 5 p l e ({ frames := 2, cells := 0, slots := 0, locals := 43 } : Room) s m args below meth c 0 0 (MQ below (Qw E S R I (some (.int r))) args s 0 0 (fun q => E.1 ≤ q)) 0 [(0, .ref (E.1 + a0)), (1, .int x1), (2, .int x2)] [] S R I := by
  intro a0 x1 x2 h
  rw [f_X12_standsFor] at h
  refine k_iconst (pc := 0) C (v := (0 : Int32)) dX12_standsFor_0 (by decide) ?_
  refine k_istoren (pc := 1) C dX12_standsFor_1 (i := 3) rfl (by decide) (L2 := [(0, .ref (E.1 + a0)), (1, .int x1), (2, .int x2), (3, .int (0 : Int32))]) rfl ?_
  refine k_iconst (pc := 2) C (v := (0 : Int32)) dX12_standsFor_2 (by decide) ?_
  refine k_istore (pc := 3) C dX12_standsFor_3 (by decide) (L2 := [(0, .ref (E.1 + a0)), (1, .int x1), (2, .int x2), (3, .int (0 : Int32)), (4, .int (0 : Int32))]) rfl ?_
  exact b_X12_standsFor_5 C hr hk  _ _ _ _ _ _ h
theorem c_X12_standsFor {E : Ev} {l : Launch} {S : Sh} {R : Rw} {I : Iw} {a0 : Nat} {x1 : Int32} {x2 : Int32} {r : Int32} (h : f_X12_standsFor S R I a0 x1 x2 = some r) : Mt E l yX12_standsFor cX12_standsFor 5 (some .boolean) 2 43 [.ref (E.1 + a0), .int x1, .int x2] S R I S R I (some (.int r)) 0 0 := mt_of (by decide) (Nat.le_of_ble_eq_true rfl) (fun p e s m args below meth c C hr hk hn => b_X12_standsFor C hr hk _ _ _ h)
theorem lkV_RX12_242 : LkV RX12 242 RX12 yX12_standsFor cX12_standsFor 5 (some .boolean) 2 := ⟨(t6_in 86 (by decide +kernel) rfl), (t6_in 88 (by decide +kernel) rfl), (t0_in 51 (by decide +kernel) rfl), (t6_in 89 (by decide +kernel) rfl), (t1_in 7 (by decide +kernel) rfl), by decide, by decide +kernel⟩
theorem dX12_cameBeside_0 : decode cX12_cameBeside 0 = .ok (.aload_n 0, 1) := by decide +kernel
theorem dX12_cameBeside_1 : decode cX12_cameBeside 1 = .ok (.iload_n 1, 1) := by decide +kernel
theorem dX12_cameBeside_2 : decode cX12_cameBeside 2 = .ok (.iconst 0, 1) := by decide +kernel
theorem dX12_cameBeside_3 : decode cX12_cameBeside 3 = .ok (.invokevirtual 209, 3) := by decide +kernel
theorem dX12_cameBeside_6 : decode cX12_cameBeside 6 = .ok (.iconst 3, 1) := by decide +kernel
theorem dX12_cameBeside_7 : decode cX12_cameBeside 7 = .ok (.if_icmp .eq 13, 3) := by decide +kernel
theorem dX12_cameBeside_10 : decode cX12_cameBeside 10 = .ok (.aload_n 0, 1) := by decide +kernel
theorem dX12_cameBeside_11 : decode cX12_cameBeside 11 = .ok (.iload_n 2, 1) := by decide +kernel
theorem dX12_cameBeside_12 : decode cX12_cameBeside 12 = .ok (.iconst 0, 1) := by decide +kernel
theorem dX12_cameBeside_13 : decode cX12_cameBeside 13 = .ok (.invokevirtual 209, 3) := by decide +kernel
theorem dX12_cameBeside_16 : decode cX12_cameBeside 16 = .ok (.iconst 3, 1) := by decide +kernel
theorem dX12_cameBeside_17 : decode cX12_cameBeside 17 = .ok (.if_icmp .ne 7, 3) := by decide +kernel
theorem dX12_cameBeside_20 : decode cX12_cameBeside 20 = .ok (.iconst 1, 1) := by decide +kernel
theorem dX12_cameBeside_21 : decode cX12_cameBeside 21 = .ok (.goto 4, 3) := by decide +kernel
theorem dX12_cameBeside_24 : decode cX12_cameBeside 24 = .ok (.iconst 0, 1) := by decide +kernel
theorem dX12_cameBeside_25 : decode cX12_cameBeside 25 = .ok (.istore_n 3, 1) := by decide +kernel
theorem dX12_cameBeside_26 : decode cX12_cameBeside 26 = .ok (.iload_n 3, 1) := by decide +kernel
theorem dX12_cameBeside_27 : decode cX12_cameBeside 27 = .ok (.ifCond .ne 34, 3) := by decide +kernel
theorem dX12_cameBeside_30 : decode cX12_cameBeside 30 = .ok (.aload_n 0, 1) := by decide +kernel
theorem dX12_cameBeside_31 : decode cX12_cameBeside 31 = .ok (.iload_n 1, 1) := by decide +kernel
theorem dX12_cameBeside_32 : decode cX12_cameBeside 32 = .ok (.iload_n 2, 1) := by decide +kernel
theorem dX12_cameBeside_33 : decode cX12_cameBeside 33 = .ok (.invokevirtual 239, 3) := by decide +kernel
theorem dX12_cameBeside_36 : decode cX12_cameBeside 36 = .ok (.ifCond .ne 21, 3) := by decide +kernel
theorem dX12_cameBeside_39 : decode cX12_cameBeside 39 = .ok (.aload_n 0, 1) := by decide +kernel
theorem dX12_cameBeside_40 : decode cX12_cameBeside 40 = .ok (.iload_n 1, 1) := by decide +kernel
theorem dX12_cameBeside_41 : decode cX12_cameBeside 41 = .ok (.iload_n 2, 1) := by decide +kernel
theorem dX12_cameBeside_42 : decode cX12_cameBeside 42 = .ok (.invokevirtual 242, 3) := by decide +kernel
theorem dX12_cameBeside_45 : decode cX12_cameBeside 45 = .ok (.ifCond .ne 12, 3) := by decide +kernel
theorem dX12_cameBeside_48 : decode cX12_cameBeside 48 = .ok (.aload_n 0, 1) := by decide +kernel
theorem dX12_cameBeside_49 : decode cX12_cameBeside 49 = .ok (.iload_n 2, 1) := by decide +kernel
theorem dX12_cameBeside_50 : decode cX12_cameBeside 50 = .ok (.iload_n 1, 1) := by decide +kernel
theorem dX12_cameBeside_51 : decode cX12_cameBeside 51 = .ok (.invokevirtual 242, 3) := by decide +kernel
theorem dX12_cameBeside_54 : decode cX12_cameBeside 54 = .ok (.ifCond .eq 7, 3) := by decide +kernel
theorem dX12_cameBeside_57 : decode cX12_cameBeside 57 = .ok (.iconst 1, 1) := by decide +kernel
theorem dX12_cameBeside_58 : decode cX12_cameBeside 58 = .ok (.goto 4, 3) := by decide +kernel
theorem dX12_cameBeside_61 : decode cX12_cameBeside 61 = .ok (.iconst 0, 1) := by decide +kernel
theorem dX12_cameBeside_62 : decode cX12_cameBeside 62 = .ok (.ireturn, 1) := by decide +kernel
def f_X12_cameBeside_57 (S : Sh) (R : Rw) (I : Iw)   : Option (Int32) := some (1 : Int32)
set_option maxHeartbeats 4000000 in
theorem b_X12_cameBeside_57 {E : Ev} {p : Program} {l : Launch} {e : Env} {s : State} {m : MethodId} {args : Array Value} {below : List Frame} {meth : Method} {c : Code} (C : Cx E RX12 cX12_cameBeside 4 p s m c) (hr : meth.sig.returnType = (some .boolean)) (hk : meth.locks = false) {S : Sh} {R : Rw} {I : Iw} {r : Int32}  : f_X12_cameBeside_57 S R I    = some r → Wk E 4 p l e ({ frames := 3, cells := 0, slots := 0, locals := 67 } : Room) s m args below meth c 0 0 (MQ below (Qw E S R I (some (.int r))) args s 0 0 (fun q => E.1 ≤ q)) 57 [] [] S R I := by
  intro  h
  rw [f_X12_cameBeside_57] at h
  refine k_iconst (pc := 57) C (v := (1 : Int32)) dX12_cameBeside_57 (by decide) ?_
  refine k_goto (pc := 58) C dX12_cameBeside_58 (tgt := 62) (by decide) ?_
  have h := Option.some.inj h
  subst h
  exact k_zret (pc := 62) C hr hk (Or.inr rfl) dX12_cameBeside_62
def f_X12_cameBeside_25 (S : Sh) (R : Rw) (I : Iw)  (a0 : Nat) (x1 : Int32) (x2 : Int32) (s0 : Int32) : Option (Int32) := (if s0 = 0 then gp (sok S a0 12 34) (bd (f_X12_isNear S R I a0 x1 x2) (fun r6 => (if r6 = 0 then bd (f_X12_standsFor S R I a0 x1 x2) (fun r8 => (if r8 = 0 then bd (f_X12_standsFor S R I a0 x2 x1) (fun r10 => (if r10 = 0 then some (0 : Int32) else f_X12_cameBeside_57 S R I  )) else f_X12_cameBeside_57 S R I  )) else f_X12_cameBeside_57 S R I  ))) else some (0 : Int32))
set_option maxHeartbeats 4000000 in
theorem b_X12_cameBeside_25 {E : Ev} {p : Program} {l : Launch} {e : Env} {s : State} {m : MethodId} {args : Array Value} {below : List Frame} {meth : Method} {c : Code} (C : Cx E RX12 cX12_cameBeside 4 p s m c) (hr : meth.sig.returnType = (some .boolean)) (hk : meth.locks = false) {S : Sh} {R : Rw} {I : Iw} {r : Int32}  : ∀ (a0 : Nat) (x1 : Int32) (x2 : Int32) (s0 : Int32), f_X12_cameBeside_25 S R I   a0 x1 x2 s0 = some r → Wk E 4 p l e ({ frames := 3, cells := 0, slots := 0, locals := 67 } : Room) s m args below meth c 0 0 (MQ below (Qw E S R I (some (.int r))) args s 0 0 (fun q => E.1 ≤ q)) 25 [(0, .ref (E.1 + a0)), (1, .int x1), (2, .int x2)] [.int s0] S R I := by
  intro a0 x1 x2 s0 h
  rw [f_X12_cameBeside_25] at h
  refine k_istoren (pc := 25) C dX12_cameBeside_25 (i := 3) rfl (by decide) (L2 := [(0, .ref (E.1 + a0)), (1, .int x1), (2, .int x2), (3, .int s0)]) rfl ?_
  refine k_iloadn (pc := 26) C dX12_cameBeside_26 (i := 3) rfl 3 rfl ?_
  refine k_if_ne (pc := 27) C dX12_cameBeside_27 (tgt := 61) (by decide) (fun hc4 => ?_) (fun hc4 => ?_)
  · rw [if_neg hc4] at h
    refine k_iconst (pc := 61) C (v := (0 : Int32)) dX12_cameBeside_61 (by decide) ?_
    have h := Option.some.inj h
    subst h
    exact k_zret (pc := 62) C hr hk (Or.inl rfl) dX12_cameBeside_62
  · rw [if_pos hc4] at h
    refine k_aloadn (pc := 30) C dX12_cameBeside_30 (i := 0) rfl 0 rfl ?_
    refine k_iloadn (pc := 31) C dX12_cameBeside_31 (i := 1) rfl 1 rfl ?_
    refine k_iloadn (pc := 32) C dX12_cameBeside_32 (i := 2) rfl 2 rfl ?_
    obtain ⟨hs50, h⟩ := gp_e h
    have hs5 := sok_e hs50
    obtain ⟨r6, hr6, h⟩ := bd_e h
    refine k_V (pc := 33) (st := []) C (c_X12_isNear hr6) lkV_RX12_239 hs5 rfl rfl rfl (Nat.le_of_ble_eq_true rfl) (Nat.le_of_ble_eq_true rfl) (Nat.le_of_ble_eq_true rfl) (Nat.le_of_ble_eq_true rfl) (Nat.le_of_ble_eq_true rfl) dX12_cameBeside_33 ?_
    refine k_nf (cells2 := 0) (slots2 := 0) (st2 := [.int r6]) rfl rfl rfl ?_
    refine k_if_ne (pc := 36) C dX12_cameBeside_36 (tgt := 57) (by decide) (fun hc7 => ?_) (fun hc7 => ?_)
    · rw [if_neg hc7] at h
      refine k_loc (L2 := []) [] rfl ?_
      exact b_X12_cameBeside_57 C hr hk   h
    · rw [if_pos hc7] at h
      refine k_aloadn (pc := 39) C dX12_cameBeside_39 (i := 0) rfl 0 rfl ?_
      refine k_iloadn (pc := 40) C dX12_cameBeside_40 (i := 1) rfl 1 rfl ?_
      refine k_iloadn (pc := 41) C dX12_cameBeside_41 (i := 2) rfl 2 rfl ?_
      obtain ⟨r8, hr8, h⟩ := bd_e h
      refine k_V (pc := 42) (st := []) C (c_X12_standsFor hr8) lkV_RX12_242 hs5 rfl rfl rfl (Nat.le_of_ble_eq_true rfl) (Nat.le_of_ble_eq_true rfl) (Nat.le_of_ble_eq_true rfl) (Nat.le_of_ble_eq_true rfl) (Nat.le_of_ble_eq_true rfl) dX12_cameBeside_42 ?_
      refine k_nf (cells2 := 0) (slots2 := 0) (st2 := [.int r8]) rfl rfl rfl ?_
      refine k_if_ne (pc := 45) C dX12_cameBeside_45 (tgt := 57) (by decide) (fun hc9 => ?_) (fun hc9 => ?_)
      · rw [if_neg hc9] at h
        refine k_loc (L2 := []) [] rfl ?_
        exact b_X12_cameBeside_57 C hr hk   h
      · rw [if_pos hc9] at h
        refine k_aloadn (pc := 48) C dX12_cameBeside_48 (i := 0) rfl 0 rfl ?_
        refine k_iloadn (pc := 49) C dX12_cameBeside_49 (i := 2) rfl 2 rfl ?_
        refine k_iloadn (pc := 50) C dX12_cameBeside_50 (i := 1) rfl 1 rfl ?_
        obtain ⟨r10, hr10, h⟩ := bd_e h
        refine k_V (pc := 51) (st := []) C (c_X12_standsFor hr10) lkV_RX12_242 hs5 rfl rfl rfl (Nat.le_of_ble_eq_true rfl) (Nat.le_of_ble_eq_true rfl) (Nat.le_of_ble_eq_true rfl) (Nat.le_of_ble_eq_true rfl) (Nat.le_of_ble_eq_true rfl) dX12_cameBeside_51 ?_
        refine k_nf (cells2 := 0) (slots2 := 0) (st2 := [.int r10]) rfl rfl rfl ?_
        refine k_if_eq (pc := 54) C dX12_cameBeside_54 (tgt := 61) (by decide) (fun hc11 => ?_) (fun hc11 => ?_)
        · rw [if_pos hc11] at h
          refine k_iconst (pc := 61) C (v := (0 : Int32)) dX12_cameBeside_61 (by decide) ?_
          have h := Option.some.inj h
          subst h
          exact k_zret (pc := 62) C hr hk (Or.inl rfl) dX12_cameBeside_62
        · rw [if_neg hc11] at h
          refine k_loc (L2 := []) [] rfl ?_
          exact b_X12_cameBeside_57 C hr hk   h
def f_X12_cameBeside_20 (S : Sh) (R : Rw) (I : Iw)  (a0 : Nat) (x1 : Int32) (x2 : Int32) : Option (Int32) := f_X12_cameBeside_25 S R I  a0 x1 x2 (1 : Int32)
set_option maxHeartbeats 4000000 in
theorem b_X12_cameBeside_20 {E : Ev} {p : Program} {l : Launch} {e : Env} {s : State} {m : MethodId} {args : Array Value} {below : List Frame} {meth : Method} {c : Code} (C : Cx E RX12 cX12_cameBeside 4 p s m c) (hr : meth.sig.returnType = (some .boolean)) (hk : meth.locks = false) {S : Sh} {R : Rw} {I : Iw} {r : Int32}  : ∀ (a0 : Nat) (x1 : Int32) (x2 : Int32), f_X12_cameBeside_20 S R I   a0 x1 x2 = some r → Wk E 4 p l e ({ frames := 3, cells := 0, slots := 0, locals := 67 } : Room) s m args below meth c 0 0 (MQ below (Qw E S R I (some (.int r))) args s 0 0 (fun q => E.1 ≤ q)) 20 [(0, .ref (E.1 + a0)), (1, .int x1), (2, .int x2)] [] S R I := by
  intro a0 x1 x2 h
  rw [f_X12_cameBeside_20] at h
  refine k_iconst (pc := 20) C (v := (1 : Int32)) dX12_cameBeside_20 (by decide) ?_
  refine k_goto (pc := 21) C dX12_cameBeside_21 (tgt := 25) (by decide) ?_
  exact b_X12_cameBeside_25 C hr hk  _ _ _ _ h
def f_X12_cameBeside (S : Sh) (R : Rw) (I : Iw)  (a0 : Nat) (x1 : Int32) (x2 : Int32) : Option (Int32) := gp (sok S a0 12 34) (bd (f_X12_goodIs S R I a0 x1 (0 : Int32)) (fun r2 => (if r2 = (3 : Int32) then f_X12_cameBeside_20 S R I  a0 x1 x2 else bd (f_X12_goodIs S R I a0 x2 (0 : Int32)) (fun r12 => (if r12 = (3 : Int32) then f_X12_cameBeside_20 S R I  a0 x1 x2 else f_X12_cameBeside_25 S R I  a0 x1 x2 (0 : Int32))))))
set_option maxHeartbeats 4000000 in
theorem b_X12_cameBeside {E : Ev} {p : Program} {l : Launch} {e : Env} {s : State} {m : MethodId} {args : Array Value} {below : List Frame} {meth : Method} {c : Code} (C : Cx E RX12 cX12_cameBeside 4 p s m c) (hr : meth.sig.returnType = (some .boolean)) (hk : meth.locks = false) {S : Sh} {R : Rw} {I : Iw} {r : Int32}  : ∀ (a0 : Nat) (x1 : Int32) (x2 : Int32), f_X12_cameBeside S R I   a0 x1 x2 = some r → Wk E 4 p l e ({ frames := 3, cells := 0, slots := 0, locals := 67 } : Room) s m args below meth c 0 0 (MQ below (Qw E S R I (some (.int r))) args s 0 0 (fun q => E.1 ≤ q)) 0 [(0, .ref (E.1 + a0)), (1, .int x1), (2, .int x2)] [] S R I := by
  intro a0 x1 x2 h
  rw [f_X12_cameBeside] at h
  refine k_aloadn (pc := 0) C dX12_cameBeside_0 (i := 0) rfl 0 rfl ?_
  refine k_iloadn (pc := 1) C dX12_cameBeside_1 (i := 1) rfl 1 rfl ?_
  refine k_iconst (pc := 2) C (v := (0 : Int32)) dX12_cameBeside_2 (by decide) ?_
  obtain ⟨hs10, h⟩ := gp_e h
  have hs1 := sok_e hs10
  obtain ⟨r2, hr2, h⟩ := bd_e h
  refine k_V (pc := 3) (st := []) C (c_X12_goodIs hr2) lkV_RX12_209 hs1 rfl rfl rfl (Nat.le_of_ble_eq_true rfl) (Nat.le_of_ble_eq_true rfl) (Nat.le_of_ble_eq_true rfl) (Nat.le_of_ble_eq_true rfl) (Nat.le_of_ble_eq_true rfl) dX12_cameBeside_3 ?_
  refine k_nf (cells2 := 0) (slots2 := 0) (st2 := [.int r2]) rfl rfl rfl ?_
  refine k_iconst (pc := 6) C (v := (3 : Int32)) dX12_cameBeside_6 (by decide) ?_
  refine k_icmp_eq (pc := 7) C dX12_cameBeside_7 (tgt := 20) (by decide) (fun hc3 => ?_) (fun hc3 => ?_)
  · rw [if_pos hc3] at h
    exact b_X12_cameBeside_20 C hr hk  _ _ _ h
  · rw [if_neg hc3] at h
    refine k_aloadn (pc := 10) C dX12_cameBeside_10 (i := 0) rfl 0 rfl ?_
    refine k_iloadn (pc := 11) C dX12_cameBeside_11 (i := 2) rfl 2 rfl ?_
    refine k_iconst (pc := 12) C (v := (0 : Int32)) dX12_cameBeside_12 (by decide) ?_
    obtain ⟨r12, hr12, h⟩ := bd_e h
    refine k_V (pc := 13) (st := []) C (c_X12_goodIs hr12) lkV_RX12_209 hs1 rfl rfl rfl (Nat.le_of_ble_eq_true rfl) (Nat.le_of_ble_eq_true rfl) (Nat.le_of_ble_eq_true rfl) (Nat.le_of_ble_eq_true rfl) (Nat.le_of_ble_eq_true rfl) dX12_cameBeside_13 ?_
    refine k_nf (cells2 := 0) (slots2 := 0) (st2 := [.int r12]) rfl rfl rfl ?_
    refine k_iconst (pc := 16) C (v := (3 : Int32)) dX12_cameBeside_16 (by decide) ?_
    refine k_icmp_ne (pc := 17) C dX12_cameBeside_17 (tgt := 24) (by decide) (fun hc13 => ?_) (fun hc13 => ?_)
    · rw [if_neg hc13] at h
      refine k_iconst (pc := 24) C (v := (0 : Int32)) dX12_cameBeside_24 (by decide) ?_
      exact b_X12_cameBeside_25 C hr hk  _ _ _ _ h
    · rw [if_pos hc13] at h
      exact b_X12_cameBeside_20 C hr hk  _ _ _ h
theorem c_X12_cameBeside {E : Ev} {l : Launch} {S : Sh} {R : Rw} {I : Iw} {a0 : Nat} {x1 : Int32} {x2 : Int32} {r : Int32} (h : f_X12_cameBeside S R I a0 x1 x2 = some r) : Mt E l yX12_cameBeside cX12_cameBeside 4 (some .boolean) 3 67 [.ref (E.1 + a0), .int x1, .int x2] S R I S R I (some (.int r)) 0 0 := mt_of (by decide) (Nat.le_of_ble_eq_true rfl) (fun p e s m args below meth c C hr hk hn => b_X12_cameBeside C hr hk _ _ _ h)
theorem lkV_RX12_245 : LkV RX12 245 RX12 yX12_isTop cX12_isTop 4 (some .boolean) 1 := ⟨(t6_in 69 (by decide +kernel) rfl), (t6_in 71 (by decide +kernel) rfl), (t0_in 47 (by decide +kernel) rfl), (t6_in 72 (by decide +kernel) rfl), (t1_in 7 (by decide +kernel) rfl), by decide, by decide +kernel⟩
theorem lkV_RX12_248 : LkV RX12 248 RX12 yX12_cameBeside cX12_cameBeside 4 (some .boolean) 2 := ⟨(t6_in 77 (by decide +kernel) rfl), (t6_in 79 (by decide +kernel) rfl), (t0_in 49 (by decide +kernel) rfl), (t6_in 80 (by decide +kernel) rfl), (t1_in 7 (by decide +kernel) rfl), by decide, by decide +kernel⟩
theorem dX12_mayGo_0 : decode cX12_mayGo 0 = .ok (.aload_n 0, 1) := by decide +kernel
theorem dX12_mayGo_1 : decode cX12_mayGo 1 = .ok (.iload_n 1, 1) := by decide +kernel
theorem dX12_mayGo_2 : decode cX12_mayGo 2 = .ok (.invokevirtual 245, 3) := by decide +kernel
theorem dX12_mayGo_5 : decode cX12_mayGo 5 = .ok (.ifCond .eq 40, 3) := by decide +kernel
theorem dX12_mayGo_8 : decode cX12_mayGo 8 = .ok (.aload_n 0, 1) := by decide +kernel
theorem dX12_mayGo_9 : decode cX12_mayGo 9 = .ok (.getfield 9, 3) := by decide +kernel
theorem dX12_mayGo_12 : decode cX12_mayGo 12 = .ok (.iconst 5, 1) := by decide +kernel
theorem dX12_mayGo_13 : decode cX12_mayGo 13 = .ok (.iaload, 1) := by decide +kernel
theorem dX12_mayGo_14 : decode cX12_mayGo 14 = .ok (.ifCond .eq 27, 3) := by decide +kernel
theorem dX12_mayGo_17 : decode cX12_mayGo 17 = .ok (.aload_n 0, 1) := by decide +kernel
theorem dX12_mayGo_18 : decode cX12_mayGo 18 = .ok (.aload_n 0, 1) := by decide +kernel
theorem dX12_mayGo_19 : decode cX12_mayGo 19 = .ok (.getfield 9, 3) := by decide +kernel
theorem dX12_mayGo_22 : decode cX12_mayGo 22 = .ok (.bipush 7, 2) := by decide +kernel
theorem dX12_mayGo_24 : decode cX12_mayGo 24 = .ok (.aload_n 0, 1) := by decide +kernel
theorem dX12_mayGo_25 : decode cX12_mayGo 25 = .ok (.getfield 9, 3) := by decide +kernel
theorem dX12_mayGo_28 : decode cX12_mayGo 28 = .ok (.iconst 5, 1) := by decide +kernel
theorem dX12_mayGo_29 : decode cX12_mayGo 29 = .ok (.iaload, 1) := by decide +kernel
theorem dX12_mayGo_30 : decode cX12_mayGo 30 = .ok (.iadd, 1) := by decide +kernel
theorem dX12_mayGo_31 : decode cX12_mayGo 31 = .ok (.iconst 1, 1) := by decide +kernel
theorem dX12_mayGo_32 : decode cX12_mayGo 32 = .ok (.isub, 1) := by decide +kernel
theorem dX12_mayGo_33 : decode cX12_mayGo 33 = .ok (.iaload, 1) := by decide +kernel
theorem dX12_mayGo_34 : decode cX12_mayGo 34 = .ok (.iload_n 1, 1) := by decide +kernel
theorem dX12_mayGo_35 : decode cX12_mayGo 35 = .ok (.invokevirtual 248, 3) := by decide +kernel
theorem dX12_mayGo_38 : decode cX12_mayGo 38 = .ok (.ifCond .ne 7, 3) := by decide +kernel
theorem dX12_mayGo_41 : decode cX12_mayGo 41 = .ok (.iconst 1, 1) := by decide +kernel
theorem dX12_mayGo_42 : decode cX12_mayGo 42 = .ok (.goto 4, 3) := by decide +kernel
theorem dX12_mayGo_45 : decode cX12_mayGo 45 = .ok (.iconst 0, 1) := by decide +kernel
theorem dX12_mayGo_46 : decode cX12_mayGo 46 = .ok (.ireturn, 1) := by decide +kernel
def f_X12_mayGo_41 (S : Sh) (R : Rw) (I : Iw)   : Option (Int32) := some (1 : Int32)
set_option maxHeartbeats 4000000 in
theorem b_X12_mayGo_41 {E : Ev} {p : Program} {l : Launch} {e : Env} {s : State} {m : MethodId} {args : Array Value} {below : List Frame} {meth : Method} {c : Code} (C : Cx E RX12 cX12_mayGo 2 p s m c) (hr : meth.sig.returnType = (some .boolean)) (hk : meth.locks = false) {S : Sh} {R : Rw} {I : Iw} {r : Int32}  : f_X12_mayGo_41 S R I    = some r → Wk E 2 p l e ({ frames := 4, cells := 0, slots := 0, locals := 90 } : Room) s m args below meth c 0 0 (MQ below (Qw E S R I (some (.int r))) args s 0 0 (fun q => E.1 ≤ q)) 41 [] [] S R I := by
  intro  h
  rw [f_X12_mayGo_41] at h
  refine k_iconst (pc := 41) C (v := (1 : Int32)) dX12_mayGo_41 (by decide) ?_
  refine k_goto (pc := 42) C dX12_mayGo_42 (tgt := 46) (by decide) ?_
  have h := Option.some.inj h
  subst h
  exact k_zret (pc := 46) C hr hk (Or.inr rfl) dX12_mayGo_46
def f_X12_mayGo (S : Sh) (R : Rw) (I : Iw)  (a0 : Nat) (x1 : Int32) : Option (Int32) := gp (sok S a0 12 34) (bd (f_X12_isTop S R I a0 x1) (fun r2 => (if r2 = 0 then some (0 : Int32) else rl (R a0 0) (fun b4 => gp (aok S 20 b4 (5 : Int32)) ((if (I b4 (5 : Int32).toNatClampNeg) = 0 then f_X12_mayGo_41 S R I   else rl (R a0 0) (fun b7 => rl (R a0 0) (fun b8 => gp (aok S 20 b8 (5 : Int32)) (gp (aok S 20 b7 (((7 : Int32) + (I b8 (5 : Int32).toNatClampNeg)) - (1 : Int32))) (bd (f_X12_cameBeside S R I a0 (I b7 (((7 : Int32) + (I b8 (5 : Int32).toNatClampNeg)) - (1 : Int32)).toNatClampNeg) x1) (fun r11 => (if r11 = 0 then f_X12_mayGo_41 S R I   else some (0 : Int32)))))))))))))
set_option maxHeartbeats 4000000 in
theorem b_X12_mayGo {E : Ev} {p : Program} {l : Launch} {e : Env} {s : State} {m : MethodId} {args : Array Value} {below : List Frame} {meth : Method} {c : Code} (C : Cx E RX12 cX12_mayGo 2 p s m c) (hr : meth.sig.returnType = (some .boolean)) (hk : meth.locks = false) {S : Sh} {R : Rw} {I : Iw} {r : Int32}  : ∀ (a0 : Nat) (x1 : Int32), f_X12_mayGo S R I   a0 x1 = some r → Wk E 2 p l e ({ frames := 4, cells := 0, slots := 0, locals := 90 } : Room) s m args below meth c 0 0 (MQ below (Qw E S R I (some (.int r))) args s 0 0 (fun q => E.1 ≤ q)) 0 [(0, .ref (E.1 + a0)), (1, .int x1)] [] S R I := by
  intro a0 x1 h
  rw [f_X12_mayGo] at h
  refine k_aloadn (pc := 0) C dX12_mayGo_0 (i := 0) rfl 0 rfl ?_
  refine k_iloadn (pc := 1) C dX12_mayGo_1 (i := 1) rfl 1 rfl ?_
  obtain ⟨hs10, h⟩ := gp_e h
  have hs1 := sok_e hs10
  obtain ⟨r2, hr2, h⟩ := bd_e h
  refine k_V (pc := 2) (st := []) C (c_X12_isTop hr2) lkV_RX12_245 hs1 rfl rfl rfl (Nat.le_of_ble_eq_true rfl) (Nat.le_of_ble_eq_true rfl) (Nat.le_of_ble_eq_true rfl) (Nat.le_of_ble_eq_true rfl) (Nat.le_of_ble_eq_true rfl) dX12_mayGo_2 ?_
  refine k_nf (cells2 := 0) (slots2 := 0) (st2 := [.int r2]) rfl rfl rfl ?_
  refine k_if_eq (pc := 5) C dX12_mayGo_5 (tgt := 45) (by decide) (fun hc3 => ?_) (fun hc3 => ?_)
  · rw [if_pos hc3] at h
    refine k_iconst (pc := 45) C (v := (0 : Int32)) dX12_mayGo_45 (by decide) ?_
    have h := Option.some.inj h
    subst h
    exact k_zret (pc := 46) C hr hk (Or.inl rfl) dX12_mayGo_46
  · rw [if_neg hc3] at h
    refine k_aloadn (pc := 8) C dX12_mayGo_8 (i := 0) rfl 0 rfl ?_
    obtain ⟨b4, hb4, h⟩ := rl_e h
    refine k_getR (pc := 9) C lkF_RX12_9_12 hs1 ir_12_0 hb4 dX12_mayGo_9 ?_
    refine k_iconst (pc := 12) C (v := (5 : Int32)) dX12_mayGo_12 (by decide) ?_
    obtain ⟨ha5, h⟩ := gp_e h
    refine k_iald (pc := 13) C ha5 dX12_mayGo_13 ?_
    refine k_if_eq (pc := 14) C dX12_mayGo_14 (tgt := 41) (by decide) (fun hc6 => ?_) (fun hc6 => ?_)
    · rw [if_pos hc6] at h
      refine k_loc (L2 := []) [] rfl ?_
      exact b_X12_mayGo_41 C hr hk   h
    · rw [if_neg hc6] at h
      refine k_aloadn (pc := 17) C dX12_mayGo_17 (i := 0) rfl 0 rfl ?_
      refine k_aloadn (pc := 18) C dX12_mayGo_18 (i := 0) rfl 0 rfl ?_
      obtain ⟨b7, hb7, h⟩ := rl_e h
      refine k_getR (pc := 19) C lkF_RX12_9_12 hs1 ir_12_0 hb7 dX12_mayGo_19 ?_
      refine k_bipush (pc := 22) C (v := (7 : Int32)) dX12_mayGo_22 (by decide) ?_
      refine k_aloadn (pc := 24) C dX12_mayGo_24 (i := 0) rfl 0 rfl ?_
      obtain ⟨b8, hb8, h⟩ := rl_e h
      refine k_getR (pc := 25) C lkF_RX12_9_12 hs1 ir_12_0 hb8 dX12_mayGo_25 ?_
      refine k_iconst (pc := 28) C (v := (5 : Int32)) dX12_mayGo_28 (by decide) ?_
      obtain ⟨ha9, h⟩ := gp_e h
      refine k_iald (pc := 29) C ha9 dX12_mayGo_29 ?_
      refine k_iadd (pc := 30) C dX12_mayGo_30 ?_
      refine k_iconst (pc := 31) C (v := (1 : Int32)) dX12_mayGo_31 (by decide) ?_
      refine k_isub (pc := 32) C dX12_mayGo_32 ?_
      obtain ⟨ha10, h⟩ := gp_e h
      refine k_iald (pc := 33) C ha10 dX12_mayGo_33 ?_
      refine k_iloadn (pc := 34) C dX12_mayGo_34 (i := 1) rfl 1 rfl ?_
      obtain ⟨r11, hr11, h⟩ := bd_e h
      refine k_V (pc := 35) (st := []) C (c_X12_cameBeside hr11) lkV_RX12_248 hs1 rfl rfl rfl (Nat.le_of_ble_eq_true rfl) (Nat.le_of_ble_eq_true rfl) (Nat.le_of_ble_eq_true rfl) (Nat.le_of_ble_eq_true rfl) (Nat.le_of_ble_eq_true rfl) dX12_mayGo_35 ?_
      refine k_nf (cells2 := 0) (slots2 := 0) (st2 := [.int r11]) rfl rfl rfl ?_
      refine k_if_ne (pc := 38) C dX12_mayGo_38 (tgt := 45) (by decide) (fun hc12 => ?_) (fun hc12 => ?_)
      · rw [if_neg hc12] at h
        refine k_iconst (pc := 45) C (v := (0 : Int32)) dX12_mayGo_45 (by decide) ?_
        have h := Option.some.inj h
        subst h
        exact k_zret (pc := 46) C hr hk (Or.inl rfl) dX12_mayGo_46
      · rw [if_pos hc12] at h
        refine k_loc (L2 := []) [] rfl ?_
        exact b_X12_mayGo_41 C hr hk   h
theorem c_X12_mayGo {E : Ev} {l : Launch} {S : Sh} {R : Rw} {I : Iw} {a0 : Nat} {x1 : Int32} {r : Int32} (h : f_X12_mayGo S R I a0 x1 = some r) : Mt E l yX12_mayGo cX12_mayGo 2 (some .boolean) 4 90 [.ref (E.1 + a0), .int x1] S R I S R I (some (.int r)) 0 0 := mt_of (by decide) (Nat.le_of_ble_eq_true rfl) (fun p e s m args below meth c C hr hk hn => b_X12_mayGo C hr hk _ _ h)
