/-! X12_ways, X12_way, X12_longest, X12_far, X12_cheapest, X12_cheap, X12_never, X12_best, X12_goat, X12_gapFor -/
theorem dX12_ways_0 : decode cX12_ways 0 = .ok (.aload_n 0, 1) := by decide +kernel
theorem dX12_ways_1 : decode cX12_ways 1 = .ok (.invokevirtual 275, 3) := by decide +kernel
theorem dX12_ways_4 : decode cX12_ways 4 = .ok (.ireturn, 1) := by decide +kernel
def f_X12_ways (S : Sh) (R : Rw)  (I : Iw) (a0 : Nat) : Option (Iw × Int32) := gp (sok S a0 12 34) (bd (f_X12_waysOn 12 S R I a0) (fun r2 => some (r2.1, r2.2)))
set_option maxHeartbeats 4000000 in
theorem b_X12_ways {E : Ev} {p : Program} {l : Launch} {e : Env} {s : State} {m : MethodId} {args : Array Value} {below : List Frame} {meth : Method} {c : Code} (C : Cx E RX12 cX12_ways 1 p s m c) (hr : meth.sig.returnType = (some .int)) (hk : meth.locks = false) {S : Sh} {R : Rw} {r : Iw × Int32}  : ∀ (I : Iw) (a0 : Nat), f_X12_ways S R   I a0 = some r → Wk E 1 p l e ({ frames := 61, cells := 0, slots := 0, locals := 1354 } : Room) s m args below meth c 0 0 (MQ below (Qw E S R r.1 (some (.int r.2))) args s 0 0 (fun q => E.1 ≤ q)) 0 [(0, .ref (E.1 + a0))] [] S R I := by
  intro I a0 h
  rw [f_X12_ways] at h
  refine k_aloadn (pc := 0) C dX12_ways_0 (i := 0) rfl 0 rfl ?_
  obtain ⟨hs10, h⟩ := gp_e h
  have hs1 := sok_e hs10
  obtain ⟨r2, hr2, h⟩ := bd_e h
  refine k_V (pc := 1) (st := []) C (c_X12_waysOn 12 hr2) lkV_RX12_275 hs1 rfl rfl rfl (Nat.le_of_ble_eq_true rfl) (Nat.le_of_ble_eq_true rfl) (Nat.le_of_ble_eq_true rfl) (Nat.le_of_ble_eq_true rfl) (Nat.le_of_ble_eq_true rfl) dX12_ways_1 ?_
  refine k_nf (cells2 := 0) (slots2 := 0) (st2 := [.int r2.2]) rfl rfl rfl ?_
  have h := Option.some.inj h
  subst h
  exact k_iret (pc := 4) C hr hk dX12_ways_4
theorem c_X12_ways {E : Ev} {l : Launch} {S : Sh} {R : Rw} {I : Iw} {a0 : Nat} {r : Iw × Int32} (h : f_X12_ways S R I a0 = some r) : Mt E l yX12_ways cX12_ways 1 (some .int) 61 1354 [.ref (E.1 + a0)] S R I S R r.1 (some (.int r.2)) 0 0 := mt_of (by decide) (Nat.le_of_ble_eq_true rfl) (fun p e s m args below meth c C hr hk hn => b_X12_ways C hr hk _ _ h)
theorem lkV_RX12_301 : LkV RX12 301 RX12 yX12_orderTold cX12_orderTold 3 (some .int) 2 := ⟨(t6_in 166 (by decide +kernel) rfl), (t6_in 168 (by decide +kernel) rfl), (t0_in 58 (by decide +kernel) rfl), (t6_in 169 (by decide +kernel) rfl), (t1_in 7 (by decide +kernel) rfl), by decide, by decide +kernel⟩
theorem dX12_way_0 : decode cX12_way 0 = .ok (.aload_n 0, 1) := by decide +kernel
theorem dX12_way_1 : decode cX12_way 1 = .ok (.iconst 0, 1) := by decide +kernel
theorem dX12_way_2 : decode cX12_way 2 = .ok (.iload_n 1, 1) := by decide +kernel
theorem dX12_way_3 : decode cX12_way 3 = .ok (.invokevirtual 301, 3) := by decide +kernel
theorem dX12_way_6 : decode cX12_way 6 = .ok (.ireturn, 1) := by decide +kernel
def f_X12_way (S : Sh) (R : Rw)  (I : Iw) (a0 : Nat) (x1 : Int32) : Option (Iw × Int32) := gp (sok S a0 12 34) (bd (f_X12_orderTold S R I a0 (0 : Int32) x1) (fun r2 => some (r2.1, r2.2)))
set_option maxHeartbeats 4000000 in
theorem b_X12_way {E : Ev} {p : Program} {l : Launch} {e : Env} {s : State} {m : MethodId} {args : Array Value} {below : List Frame} {meth : Method} {c : Code} (C : Cx E RX12 cX12_way 2 p s m c) (hr : meth.sig.returnType = (some .int)) (hk : meth.locks = false) {S : Sh} {R : Rw} {r : Iw × Int32}  : ∀ (I : Iw) (a0 : Nat) (x1 : Int32), f_X12_way S R   I a0 x1 = some r → Wk E 2 p l e ({ frames := 76, cells := 0, slots := 0, locals := 1755 } : Room) s m args below meth c 0 0 (MQ below (Qw E S R r.1 (some (.int r.2))) args s 0 0 (fun q => E.1 ≤ q)) 0 [(0, .ref (E.1 + a0)), (1, .int x1)] [] S R I := by
  intro I a0 x1 h
  rw [f_X12_way] at h
  refine k_aloadn (pc := 0) C dX12_way_0 (i := 0) rfl 0 rfl ?_
  refine k_iconst (pc := 1) C (v := (0 : Int32)) dX12_way_1 (by decide) ?_
  refine k_iloadn (pc := 2) C dX12_way_2 (i := 1) rfl 1 rfl ?_
  obtain ⟨hs10, h⟩ := gp_e h
  have hs1 := sok_e hs10
  obtain ⟨r2, hr2, h⟩ := bd_e h
  refine k_V (pc := 3) (st := []) C (c_X12_orderTold hr2) lkV_RX12_301 hs1 rfl rfl rfl (Nat.le_of_ble_eq_true rfl) (Nat.le_of_ble_eq_true rfl) (Nat.le_of_ble_eq_true rfl) (Nat.le_of_ble_eq_true rfl) (Nat.le_of_ble_eq_true rfl) dX12_way_3 ?_
  refine k_nf (cells2 := 0) (slots2 := 0) (st2 := [.int r2.2]) rfl rfl rfl ?_
  have h := Option.some.inj h
  subst h
  exact k_iret (pc := 6) C hr hk dX12_way_6
theorem c_X12_way {E : Ev} {l : Launch} {S : Sh} {R : Rw} {I : Iw} {a0 : Nat} {x1 : Int32} {r : Iw × Int32} (h : f_X12_way S R I a0 x1 = some r) : Mt E l yX12_way cX12_way 2 (some .int) 76 1755 [.ref (E.1 + a0), .int x1] S R I S R r.1 (some (.int r.2)) 0 0 := mt_of (by decide) (Nat.le_of_ble_eq_true rfl) (fun p e s m args below meth c C hr hk hn => b_X12_way C hr hk _ _ _ h)
theorem dX12_longest_0 : decode cX12_longest 0 = .ok (.aload_n 0, 1) := by decide +kernel
theorem dX12_longest_1 : decode cX12_longest 1 = .ok (.invokevirtual 278, 3) := by decide +kernel
theorem dX12_longest_4 : decode cX12_longest 4 = .ok (.ireturn, 1) := by decide +kernel
def f_X12_longest (S : Sh) (R : Rw)  (I : Iw) (a0 : Nat) : Option (Iw × Int32) := gp (sok S a0 12 34) (bd (f_X12_longestOn 12 S R I a0) (fun r2 => some (r2.1, r2.2)))
set_option maxHeartbeats 4000000 in
theorem b_X12_longest {E : Ev} {p : Program} {l : Launch} {e : Env} {s : State} {m : MethodId} {args : Array Value} {below : List Frame} {meth : Method} {c : Code} (C : Cx E RX12 cX12_longest 1 p s m c) (hr : meth.sig.returnType = (some .int)) (hk : meth.locks = false) {S : Sh} {R : Rw} {r : Iw × Int32}  : ∀ (I : Iw) (a0 : Nat), f_X12_longest S R   I a0 = some r → Wk E 1 p l e ({ frames := 61, cells := 0, slots := 0, locals := 1354 } : Room) s m args below meth c 0 0 (MQ below (Qw E S R r.1 (some (.int r.2))) args s 0 0 (fun q => E.1 ≤ q)) 0 [(0, .ref (E.1 + a0))] [] S R I := by
  intro I a0 h
  rw [f_X12_longest] at h
  refine k_aloadn (pc := 0) C dX12_longest_0 (i := 0) rfl 0 rfl ?_
  obtain ⟨hs10, h⟩ := gp_e h
  have hs1 := sok_e hs10
  obtain ⟨r2, hr2, h⟩ := bd_e h
  refine k_V (pc := 1) (st := []) C (c_X12_longestOn 12 hr2) lkV_RX12_278 hs1 rfl rfl rfl (Nat.le_of_ble_eq_true rfl) (Nat.le_of_ble_eq_true rfl) (Nat.le_of_ble_eq_true rfl) (Nat.le_of_ble_eq_true rfl) (Nat.le_of_ble_eq_true rfl) dX12_longest_1 ?_
  refine k_nf (cells2 := 0) (slots2 := 0) (st2 := [.int r2.2]) rfl rfl rfl ?_
  have h := Option.some.inj h
  subst h
  exact k_iret (pc := 4) C hr hk dX12_longest_4
theorem c_X12_longest {E : Ev} {l : Launch} {S : Sh} {R : Rw} {I : Iw} {a0 : Nat} {r : Iw × Int32} (h : f_X12_longest S R I a0 = some r) : Mt E l yX12_longest cX12_longest 1 (some .int) 61 1354 [.ref (E.1 + a0)] S R I S R r.1 (some (.int r.2)) 0 0 := mt_of (by decide) (Nat.le_of_ble_eq_true rfl) (fun p e s m args below meth c C hr hk hn => b_X12_longest C hr hk _ _ h)
theorem dX12_far_0 : decode cX12_far 0 = .ok (.aload_n 0, 1) := by decide +kernel
theorem dX12_far_1 : decode cX12_far 1 = .ok (.iconst 1, 1) := by decide +kernel
theorem dX12_far_2 : decode cX12_far 2 = .ok (.iload_n 1, 1) := by decide +kernel
theorem dX12_far_3 : decode cX12_far 3 = .ok (.invokevirtual 301, 3) := by decide +kernel
theorem dX12_far_6 : decode cX12_far 6 = .ok (.ireturn, 1) := by decide +kernel
def f_X12_far (S : Sh) (R : Rw)  (I : Iw) (a0 : Nat) (x1 : Int32) : Option (Iw × Int32) := gp (sok S a0 12 34) (bd (f_X12_orderTold S R I a0 (1 : Int32) x1) (fun r2 => some (r2.1, r2.2)))
set_option maxHeartbeats 4000000 in
theorem b_X12_far {E : Ev} {p : Program} {l : Launch} {e : Env} {s : State} {m : MethodId} {args : Array Value} {below : List Frame} {meth : Method} {c : Code} (C : Cx E RX12 cX12_far 2 p s m c) (hr : meth.sig.returnType = (some .int)) (hk : meth.locks = false) {S : Sh} {R : Rw} {r : Iw × Int32}  : ∀ (I : Iw) (a0 : Nat) (x1 : Int32), f_X12_far S R   I a0 x1 = some r → Wk E 2 p l e ({ frames := 76, cells := 0, slots := 0, locals := 1755 } : Room) s m args below meth c 0 0 (MQ below (Qw E S R r.1 (some (.int r.2))) args s 0 0 (fun q => E.1 ≤ q)) 0 [(0, .ref (E.1 + a0)), (1, .int x1)] [] S R I := by
  intro I a0 x1 h
  rw [f_X12_far] at h
  refine k_aloadn (pc := 0) C dX12_far_0 (i := 0) rfl 0 rfl ?_
  refine k_iconst (pc := 1) C (v := (1 : Int32)) dX12_far_1 (by decide) ?_
  refine k_iloadn (pc := 2) C dX12_far_2 (i := 1) rfl 1 rfl ?_
  obtain ⟨hs10, h⟩ := gp_e h
  have hs1 := sok_e hs10
  obtain ⟨r2, hr2, h⟩ := bd_e h
  refine k_V (pc := 3) (st := []) C (c_X12_orderTold hr2) lkV_RX12_301 hs1 rfl rfl rfl (Nat.le_of_ble_eq_true rfl) (Nat.le_of_ble_eq_true rfl) (Nat.le_of_ble_eq_true rfl) (Nat.le_of_ble_eq_true rfl) (Nat.le_of_ble_eq_true rfl) dX12_far_3 ?_
  refine k_nf (cells2 := 0) (slots2 := 0) (st2 := [.int r2.2]) rfl rfl rfl ?_
  have h := Option.some.inj h
  subst h
  exact k_iret (pc := 6) C hr hk dX12_far_6
theorem c_X12_far {E : Ev} {l : Launch} {S : Sh} {R : Rw} {I : Iw} {a0 : Nat} {x1 : Int32} {r : Iw × Int32} (h : f_X12_far S R I a0 x1 = some r) : Mt E l yX12_far cX12_far 2 (some .int) 76 1755 [.ref (E.1 + a0), .int x1] S R I S R r.1 (some (.int r.2)) 0 0 := mt_of (by decide) (Nat.le_of_ble_eq_true rfl) (fun p e s m args below meth c C hr hk hn => b_X12_far C hr hk _ _ _ h)
theorem dX12_cheapest_0 : decode cX12_cheapest 0 = .ok (.aload_n 0, 1) := by decide +kernel
theorem dX12_cheapest_1 : decode cX12_cheapest 1 = .ok (.iconst 1, 1) := by decide +kernel
theorem dX12_cheapest_2 : decode cX12_cheapest 2 = .ok (.invokevirtual 281, 3) := by decide +kernel
theorem dX12_cheapest_5 : decode cX12_cheapest 5 = .ok (.istore_n 1, 1) := by decide +kernel
theorem dX12_cheapest_6 : decode cX12_cheapest 6 = .ok (.iload_n 1, 1) := by decide +kernel
theorem dX12_cheapest_7 : decode cX12_cheapest 7 = .ok (.ifCond .ge 8, 3) := by decide +kernel
theorem dX12_cheapest_10 : decode cX12_cheapest 10 = .ok (.bipush (-3), 2) := by decide +kernel
theorem dX12_cheapest_12 : decode cX12_cheapest 12 = .ok (.goto 4, 3) := by decide +kernel
theorem dX12_cheapest_15 : decode cX12_cheapest 15 = .ok (.iload_n 1, 1) := by decide +kernel
theorem dX12_cheapest_16 : decode cX12_cheapest 16 = .ok (.ireturn, 1) := by decide +kernel
def f_X12_cheapest (S : Sh) (R : Rw)  (I : Iw) (a0 : Nat) : Option (Iw × Int32) := gp (sok S a0 12 34) (bd (f_X12_costOn 12 S R I a0 (1 : Int32)) (fun r2 => (if 0 ≤ r2.2 then some (r2.1, r2.2) else some (r2.1, (-3 : Int32)))))
set_option maxHeartbeats 4000000 in
theorem b_X12_cheapest {E : Ev} {p : Program} {l : Launch} {e : Env} {s : State} {m : MethodId} {args : Array Value} {below : List Frame} {meth : Method} {c : Code} (C : Cx E RX12 cX12_cheapest 2 p s m c) (hr : meth.sig.returnType = (some .int)) (hk : meth.locks = false) {S : Sh} {R : Rw} {r : Iw × Int32}  : ∀ (I : Iw) (a0 : Nat), f_X12_cheapest S R   I a0 = some r → Wk E 2 p l e ({ frames := 73, cells := 0, slots := 0, locals := 1681 } : Room) s m args below meth c 0 0 (MQ below (Qw E S R r.1 (some (.int r.2))) args s 0 0 (fun q => E.1 ≤ q)) 0 [(0, .ref (E.1 + a0))] [] S R I := by
  intro I a0 h
  rw [f_X12_cheapest] at h
  refine k_aloadn (pc := 0) C dX12_cheapest_0 (i := 0) rfl 0 rfl ?_
  refine k_iconst (pc := 1) C (v := (1 : Int32)) dX12_cheapest_1 (by decide) ?_
  obtain ⟨hs10, h⟩ := gp_e h
  have hs1 := sok_e hs10
  obtain ⟨r2, hr2, h⟩ := bd_e h
  refine k_V (pc := 2) (st := []) C (c_X12_costOn 12 hr2) lkV_RX12_281 hs1 rfl rfl rfl (Nat.le_of_ble_eq_true rfl) (Nat.le_of_ble_eq_true rfl) (Nat.le_of_ble_eq_true rfl) (Nat.le_of_ble_eq_true rfl) (Nat.le_of_ble_eq_true rfl) dX12_cheapest_2 ?_
  refine k_nf (cells2 := 0) (slots2 := 0) (st2 := [.int r2.2]) rfl rfl rfl ?_
  refine k_istoren (pc := 5) C dX12_cheapest_5 (i := 1) rfl (by decide) (L2 := [(0, .ref (E.1 + a0)), (1, .int r2.2)]) rfl ?_
  refine k_iloadn (pc := 6) C dX12_cheapest_6 (i := 1) rfl 1 rfl ?_
  refine k_if_ge (pc := 7) C dX12_cheapest_7 (tgt := 15) (by decide) (fun hc3 => ?_) (fun hc3 => ?_)
  · rw [if_pos hc3] at h
    refine k_iloadn (pc := 15) C dX12_cheapest_15 (i := 1) rfl 1 rfl ?_
    have h := Option.some.inj h
    subst h
    exact k_iret (pc := 16) C hr hk dX12_cheapest_16
  · rw [if_neg hc3] at h
    refine k_bipush (pc := 10) C (v := (-3 : Int32)) dX12_cheapest_10 (by decide) ?_
    refine k_goto (pc := 12) C dX12_cheapest_12 (tgt := 16) (by decide) ?_
    have h := Option.some.inj h
    subst h
    exact k_iret (pc := 16) C hr hk dX12_cheapest_16
theorem c_X12_cheapest {E : Ev} {l : Launch} {S : Sh} {R : Rw} {I : Iw} {a0 : Nat} {r : Iw × Int32} (h : f_X12_cheapest S R I a0 = some r) : Mt E l yX12_cheapest cX12_cheapest 2 (some .int) 73 1681 [.ref (E.1 + a0)] S R I S R r.1 (some (.int r.2)) 0 0 := mt_of (by decide) (Nat.le_of_ble_eq_true rfl) (fun p e s m args below meth c C hr hk hn => b_X12_cheapest C hr hk _ _ h)
theorem dX12_cheap_0 : decode cX12_cheap 0 = .ok (.aload_n 0, 1) := by decide +kernel
theorem dX12_cheap_1 : decode cX12_cheap 1 = .ok (.iconst 2, 1) := by decide +kernel
theorem dX12_cheap_2 : decode cX12_cheap 2 = .ok (.iload_n 1, 1) := by decide +kernel
theorem dX12_cheap_3 : decode cX12_cheap 3 = .ok (.invokevirtual 301, 3) := by decide +kernel
theorem dX12_cheap_6 : decode cX12_cheap 6 = .ok (.ireturn, 1) := by decide +kernel
def f_X12_cheap (S : Sh) (R : Rw)  (I : Iw) (a0 : Nat) (x1 : Int32) : Option (Iw × Int32) := gp (sok S a0 12 34) (bd (f_X12_orderTold S R I a0 (2 : Int32) x1) (fun r2 => some (r2.1, r2.2)))
set_option maxHeartbeats 4000000 in
theorem b_X12_cheap {E : Ev} {p : Program} {l : Launch} {e : Env} {s : State} {m : MethodId} {args : Array Value} {below : List Frame} {meth : Method} {c : Code} (C : Cx E RX12 cX12_cheap 2 p s m c) (hr : meth.sig.returnType = (some .int)) (hk : meth.locks = false) {S : Sh} {R : Rw} {r : Iw × Int32}  : ∀ (I : Iw) (a0 : Nat) (x1 : Int32), f_X12_cheap S R   I a0 x1 = some r → Wk E 2 p l e ({ frames := 76, cells := 0, slots := 0, locals := 1755 } : Room) s m args below meth c 0 0 (MQ below (Qw E S R r.1 (some (.int r.2))) args s 0 0 (fun q => E.1 ≤ q)) 0 [(0, .ref (E.1 + a0)), (1, .int x1)] [] S R I := by
  intro I a0 x1 h
  rw [f_X12_cheap] at h
  refine k_aloadn (pc := 0) C dX12_cheap_0 (i := 0) rfl 0 rfl ?_
  refine k_iconst (pc := 1) C (v := (2 : Int32)) dX12_cheap_1 (by decide) ?_
  refine k_iloadn (pc := 2) C dX12_cheap_2 (i := 1) rfl 1 rfl ?_
  obtain ⟨hs10, h⟩ := gp_e h
  have hs1 := sok_e hs10
  obtain ⟨r2, hr2, h⟩ := bd_e h
  refine k_V (pc := 3) (st := []) C (c_X12_orderTold hr2) lkV_RX12_301 hs1 rfl rfl rfl (Nat.le_of_ble_eq_true rfl) (Nat.le_of_ble_eq_true rfl) (Nat.le_of_ble_eq_true rfl) (Nat.le_of_ble_eq_true rfl) (Nat.le_of_ble_eq_true rfl) dX12_cheap_3 ?_
  refine k_nf (cells2 := 0) (slots2 := 0) (st2 := [.int r2.2]) rfl rfl rfl ?_
  have h := Option.some.inj h
  subst h
  exact k_iret (pc := 6) C hr hk dX12_cheap_6
theorem c_X12_cheap {E : Ev} {l : Launch} {S : Sh} {R : Rw} {I : Iw} {a0 : Nat} {x1 : Int32} {r : Iw × Int32} (h : f_X12_cheap S R I a0 x1 = some r) : Mt E l yX12_cheap cX12_cheap 2 (some .int) 76 1755 [.ref (E.1 + a0), .int x1] S R I S R r.1 (some (.int r.2)) 0 0 := mt_of (by decide) (Nat.le_of_ble_eq_true rfl) (fun p e s m args below meth c C hr hk hn => b_X12_cheap C hr hk _ _ _ h)
theorem dX12_never_0 : decode cX12_never 0 = .ok (.iconst 0, 1) := by decide +kernel
theorem dX12_never_1 : decode cX12_never 1 = .ok (.istore_n 1, 1) := by decide +kernel
theorem dX12_never_2 : decode cX12_never 2 = .ok (.iconst 0, 1) := by decide +kernel
theorem dX12_never_3 : decode cX12_never 3 = .ok (.istore_n 2, 1) := by decide +kernel
theorem dX12_never_4 : decode cX12_never 4 = .ok (.iload_n 2, 1) := by decide +kernel
theorem dX12_never_5 : decode cX12_never 5 = .ok (.aload_n 0, 1) := by decide +kernel
theorem dX12_never_6 : decode cX12_never 6 = .ok (.getfield 9, 3) := by decide +kernel
theorem dX12_never_9 : decode cX12_never 9 = .ok (.iconst 3, 1) := by decide +kernel
theorem dX12_never_10 : decode cX12_never 10 = .ok (.iaload, 1) := by decide +kernel
theorem dX12_never_11 : decode cX12_never 11 = .ok (.if_icmp .ge 27, 3) := by decide +kernel
theorem dX12_never_14 : decode cX12_never 14 = .ok (.iload_n 1, 1) := by decide +kernel
theorem dX12_never_15 : decode cX12_never 15 = .ok (.aload_n 0, 1) := by decide +kernel
theorem dX12_never_16 : decode cX12_never 16 = .ok (.iload_n 2, 1) := by decide +kernel
theorem dX12_never_17 : decode cX12_never 17 = .ok (.invokevirtual 233, 3) := by decide +kernel
theorem dX12_never_20 : decode cX12_never 20 = .ok (.ifCond .eq 9, 3) := by decide +kernel
theorem dX12_never_23 : decode cX12_never 23 = .ok (.iconst 1, 1) := by decide +kernel
theorem dX12_never_24 : decode cX12_never 24 = .ok (.iload_n 2, 1) := by decide +kernel
theorem dX12_never_25 : decode cX12_never 25 = .ok (.ishl, 1) := by decide +kernel
theorem dX12_never_26 : decode cX12_never 26 = .ok (.goto 4, 3) := by decide +kernel
theorem dX12_never_29 : decode cX12_never 29 = .ok (.iconst 0, 1) := by decide +kernel
theorem dX12_never_30 : decode cX12_never 30 = .ok (.ior, 1) := by decide +kernel
theorem dX12_never_31 : decode cX12_never 31 = .ok (.istore_n 1, 1) := by decide +kernel
theorem dX12_never_32 : decode cX12_never 32 = .ok (.iinc 2 1, 3) := by decide +kernel
theorem dX12_never_35 : decode cX12_never 35 = .ok (.goto (-31), 3) := by decide +kernel
theorem dX12_never_38 : decode cX12_never 38 = .ok (.iload_n 1, 1) := by decide +kernel
theorem dX12_never_39 : decode cX12_never 39 = .ok (.aload_n 0, 1) := by decide +kernel
theorem dX12_never_40 : decode cX12_never 40 = .ok (.invokevirtual 284, 3) := by decide +kernel
theorem dX12_never_43 : decode cX12_never 43 = .ok (.iconst (-1), 1) := by decide +kernel
theorem dX12_never_44 : decode cX12_never 44 = .ok (.ixor, 1) := by decide +kernel
theorem dX12_never_45 : decode cX12_never 45 = .ok (.iand, 1) := by decide +kernel
theorem dX12_never_46 : decode cX12_never 46 = .ok (.ireturn, 1) := by decide +kernel
def f_X12_never_30 (S : Sh) (R : Rw) (ko4 : Iw → Nat → Int32 → Int32 → Option (Iw × Int32)) (I : Iw) (a0 : Nat) (x2 : Int32) (s0 : Int32) (s1 : Int32) : Option (Iw × Int32) := ko4 I a0 (s1 ||| s0) (x2 + (1 : Int32))
set_option maxHeartbeats 4000000 in
theorem b_X12_never_30 {E : Ev} {p : Program} {l : Launch} {e : Env} {s : State} {m : MethodId} {args : Array Value} {below : List Frame} {meth : Method} {c : Code} (C : Cx E RX12 cX12_never 3 p s m c) (hr : meth.sig.returnType = (some .int)) (hk : meth.locks = false) {S : Sh} {R : Rw} {r : Iw × Int32}  {ko4 : Iw → Nat → Int32 → Int32 → Option (Iw × Int32)} (hko4 : ∀ (I : Iw) (a0 : Nat) (x1 : Int32) (x2 : Int32), ko4 I a0 x1 x2 = some r → Wk E 3 p l e ({ frames := 61, cells := 0, slots := 0, locals := 1354 } : Room) s m args below meth c 0 0 (MQ below (Qw E S R r.1 (some (.int r.2))) args s 0 0 (fun q => E.1 ≤ q)) 4 [(0, .ref (E.1 + a0)), (1, .int x1), (2, .int x2)] [] S R I) : ∀ (I : Iw) (a0 : Nat) (x2 : Int32) (s0 : Int32) (s1 : Int32), f_X12_never_30 S R ko4  I a0 x2 s0 s1 = some r → Wk E 3 p l e ({ frames := 61, cells := 0, slots := 0, locals := 1354 } : Room) s m args below meth c 0 0 (MQ below (Qw E S R r.1 (some (.int r.2))) args s 0 0 (fun q => E.1 ≤ q)) 30 [(0, .ref (E.1 + a0)), (2, .int x2)] [.int s0, .int s1] S R I := by
  intro I a0 x2 s0 s1 h
  rw [f_X12_never_30] at h
  refine k_ior (pc := 30) C dX12_never_30 ?_
  refine k_istoren (pc := 31) C dX12_never_31 (i := 1) rfl (by decide) (L2 := [(0, .ref (E.1 + a0)), (1, .int (s1 ||| s0)), (2, .int x2)]) rfl ?_
  refine k_iinc (pc := 32) C dX12_never_32 2 rfl (v := x2 + (1 : Int32)) (by rfl) (by decide) (L2 := [(0, .ref (E.1 + a0)), (1, .int (s1 ||| s0)), (2, .int (x2 + (1 : Int32)))]) rfl ?_
  refine k_goto (pc := 35) C dX12_never_35 (tgt := 4) (by decide) ?_
  exact hko4 _ _ _ _ h
def f_X12_never_4 (S : Sh) (R : Rw)  : Nat → Iw → Nat → Int32 → Int32 → Option (Iw × Int32)
  | 0, _, _, _, _ => none
  | n + 1, I, a0, x1, x2 => gp (sok S a0 12 34) (rl (R a0 0) (fun b2 => gp (aok S 20 b2 (3 : Int32)) ((if (I b2 (3 : Int32).toNatClampNeg) ≤ x2 then bd (f_X12_goneOn 12 S R I a0) (fun r5 => some (r5.1, x1 &&& (r5.2 ^^^ (-1 : Int32)))) else bd (f_X12_isIn S R I a0 x2) (fun r6 => (if r6 = 0 then f_X12_never_30 S R (f_X12_never_4 S R  n) I a0 x2 (0 : Int32) x1 else f_X12_never_30 S R (f_X12_never_4 S R  n) I a0 x2 ((1 : Int32) <<< (x2 &&& 31)) x1))))))
set_option maxHeartbeats 4000000 in
theorem b_X12_never_4 {E : Ev} {p : Program} {l : Launch} {e : Env} {s : State} {m : MethodId} {args : Array Value} {below : List Frame} {meth : Method} {c : Code} (C : Cx E RX12 cX12_never 3 p s m c) (hr : meth.sig.returnType = (some .int)) (hk : meth.locks = false) {S : Sh} {R : Rw} {r : Iw × Int32}  : ∀ (n : Nat) (I : Iw) (a0 : Nat) (x1 : Int32) (x2 : Int32), f_X12_never_4 S R  n I a0 x1 x2 = some r → Wk E 3 p l e ({ frames := 61, cells := 0, slots := 0, locals := 1354 } : Room) s m args below meth c 0 0 (MQ below (Qw E S R r.1 (some (.int r.2))) args s 0 0 (fun q => E.1 ≤ q)) 4 [(0, .ref (E.1 + a0)), (1, .int x1), (2, .int x2)] [] S R I := by
  intro n
  induction n with
  | zero =>
    intro I a0 x1 x2 h
    rw [f_X12_never_4] at h
    cases h
  | succ n ih =>
    intro I a0 x1 x2 h
    rw [f_X12_never_4] at h
    refine k_iloadn (pc := 4) C dX12_never_4 (i := 2) rfl 2 rfl ?_
    refine k_aloadn (pc := 5) C dX12_never_5 (i := 0) rfl 0 rfl ?_
    obtain ⟨hs10, h⟩ := gp_e h
    have hs1 := sok_e hs10
    obtain ⟨b2, hb2, h⟩ := rl_e h
    refine k_getR (pc := 6) C lkF_RX12_9_12 hs1 ir_12_0 hb2 dX12_never_6 ?_
    refine k_iconst (pc := 9) C (v := (3 : Int32)) dX12_never_9 (by decide) ?_
    obtain ⟨ha3, h⟩ := gp_e h
    refine k_iald (pc := 10) C ha3 dX12_never_10 ?_
    refine k_icmp_ge (pc := 11) C dX12_never_11 (tgt := 38) (by decide) (fun hc4 => ?_) (fun hc4 => ?_)
    · rw [if_pos hc4] at h
      refine k_iloadn (pc := 38) C dX12_never_38 (i := 1) rfl 1 rfl ?_
      refine k_aloadn (pc := 39) C dX12_never_39 (i := 0) rfl 0 rfl ?_
      obtain ⟨r5, hr5, h⟩ := bd_e h
      refine k_V (pc := 40) (st := [.int x1]) C (c_X12_goneOn 12 hr5) lkV_RX12_284 hs1 rfl rfl rfl (Nat.le_of_ble_eq_true rfl) (Nat.le_of_ble_eq_true rfl) (Nat.le_of_ble_eq_true rfl) (Nat.le_of_ble_eq_true rfl) (Nat.le_of_ble_eq_true rfl) dX12_never_40 ?_
      refine k_nf (cells2 := 0) (slots2 := 0) (st2 := [.int r5.2, .int x1]) rfl rfl rfl ?_
      refine k_iconst (pc := 43) C (v := (-1 : Int32)) dX12_never_43 (by decide) ?_
      refine k_ixor (pc := 44) C dX12_never_44 ?_
      refine k_iand (pc := 45) C dX12_never_45 ?_
      have h := Option.some.inj h
      subst h
      exact k_iret (pc := 46) C hr hk dX12_never_46
    · rw [if_neg hc4] at h
      refine k_iloadn (pc := 14) C dX12_never_14 (i := 1) rfl 1 rfl ?_
      refine k_aloadn (pc := 15) C dX12_never_15 (i := 0) rfl 0 rfl ?_
      refine k_iloadn (pc := 16) C dX12_never_16 (i := 2) rfl 2 rfl ?_
      obtain ⟨r6, hr6, h⟩ := bd_e h
      refine k_V (pc := 17) (st := [.int x1]) C (c_X12_isIn hr6) lkV_RX12_233 hs1 rfl rfl rfl (Nat.le_of_ble_eq_true rfl) (Nat.le_of_ble_eq_true rfl) (Nat.le_of_ble_eq_true rfl) (Nat.le_of_ble_eq_true rfl) (Nat.le_of_ble_eq_true rfl) dX12_never_17 ?_
      refine k_nf (cells2 := 0) (slots2 := 0) (st2 := [.int r6, .int x1]) rfl rfl rfl ?_
      refine k_if_eq (pc := 20) C dX12_never_20 (tgt := 29) (by decide) (fun hc7 => ?_) (fun hc7 => ?_)
      · rw [if_pos hc7] at h
        refine k_iconst (pc := 29) C (v := (0 : Int32)) dX12_never_29 (by decide) ?_
        refine k_loc (L2 := [(0, .ref (E.1 + a0)), (2, .int x2)]) [0, 2] rfl ?_
        exact b_X12_never_30 C hr hk ih _ _ _ _ _ h
      · rw [if_neg hc7] at h
        refine k_iconst (pc := 23) C (v := (1 : Int32)) dX12_never_23 (by decide) ?_
        refine k_iloadn (pc := 24) C dX12_never_24 (i := 2) rfl 2 rfl ?_
        refine k_ishl (pc := 25) C dX12_never_25 ?_
        refine k_goto (pc := 26) C dX12_never_26 (tgt := 30) (by decide) ?_
        refine k_loc (L2 := [(0, .ref (E.1 + a0)), (2, .int x2)]) [0, 2] rfl ?_
        exact b_X12_never_30 C hr hk ih _ _ _ _ _ h
def f_X12_never (S : Sh) (R : Rw)  (I : Iw) (a0 : Nat) : Option (Iw × Int32) := f_X12_never_4 S R  512 I a0 (0 : Int32) (0 : Int32)
set_option maxHeartbeats 4000000 in
theorem b_X12_never {E : Ev} {p : Program} {l : Launch} {e : Env} {s : State} {m : MethodId} {args : Array Value} {below : List Frame} {meth : Method} {c : Code} (C : Cx E RX12 cX12_never 3 p s m c) (hr : meth.sig.returnType = (some .int)) (hk : meth.locks = false) {S : Sh} {R : Rw} {r : Iw × Int32}  : ∀ (I : Iw) (a0 : Nat), f_X12_never S R   I a0 = some r → Wk E 3 p l e ({ frames := 61, cells := 0, slots := 0, locals := 1354 } : Room) s m args below meth c 0 0 (MQ below (Qw E S R r.1 (some (.int r.2))) args s 0 0 (fun q => E.1 ≤ q)) 0 [(0, .ref (E.1 + a0))] [] S R I := by
  intro I a0 h
  rw [f_X12_never] at h
  refine k_iconst (pc := 0) C (v := (0 : Int32)) dX12_never_0 (by decide) ?_
  refine k_istoren (pc := 1) C dX12_never_1 (i := 1) rfl (by decide) (L2 := [(0, .ref (E.1 + a0)), (1, .int (0 : Int32))]) rfl ?_
  refine k_iconst (pc := 2) C (v := (0 : Int32)) dX12_never_2 (by decide) ?_
  refine k_istoren (pc := 3) C dX12_never_3 (i := 2) rfl (by decide) (L2 := [(0, .ref (E.1 + a0)), (1, .int (0 : Int32)), (2, .int (0 : Int32))]) rfl ?_
  exact b_X12_never_4 C hr hk  _ _ _ _ _ h
theorem c_X12_never {E : Ev} {l : Launch} {S : Sh} {R : Rw} {I : Iw} {a0 : Nat} {r : Iw × Int32} (h : f_X12_never S R I a0 = some r) : Mt E l yX12_never cX12_never 3 (some .int) 61 1354 [.ref (E.1 + a0)] S R I S R r.1 (some (.int r.2)) 0 0 := mt_of (by decide) (Nat.le_of_ble_eq_true rfl) (fun p e s m args below meth c C hr hk hn => b_X12_never C hr hk _ _ h)
theorem dX12_best_0 : decode cX12_best 0 = .ok (.bipush (-3), 2) := by decide +kernel
theorem dX12_best_2 : decode cX12_best 2 = .ok (.istore_n 1, 1) := by decide +kernel
theorem dX12_best_3 : decode cX12_best 3 = .ok (.iconst (-1), 1) := by decide +kernel
theorem dX12_best_4 : decode cX12_best 4 = .ok (.istore_n 2, 1) := by decide +kernel
theorem dX12_best_5 : decode cX12_best 5 = .ok (.iconst 0, 1) := by decide +kernel
theorem dX12_best_6 : decode cX12_best 6 = .ok (.istore_n 3, 1) := by decide +kernel
theorem dX12_best_7 : decode cX12_best 7 = .ok (.iload_n 3, 1) := by decide +kernel
theorem dX12_best_8 : decode cX12_best 8 = .ok (.aload_n 0, 1) := by decide +kernel
theorem dX12_best_9 : decode cX12_best 9 = .ok (.getfield 9, 3) := by decide +kernel
theorem dX12_best_12 : decode cX12_best 12 = .ok (.iconst 3, 1) := by decide +kernel
theorem dX12_best_13 : decode cX12_best 13 = .ok (.iaload, 1) := by decide +kernel
theorem dX12_best_14 : decode cX12_best 14 = .ok (.if_icmp .ge 52, 3) := by decide +kernel
theorem dX12_best_17 : decode cX12_best 17 = .ok (.aload_n 0, 1) := by decide +kernel
theorem dX12_best_18 : decode cX12_best 18 = .ok (.iload_n 3, 1) := by decide +kernel
theorem dX12_best_19 : decode cX12_best 19 = .ok (.invokevirtual 257, 3) := by decide +kernel
theorem dX12_best_22 : decode cX12_best 22 = .ok (.ifCond .eq 38, 3) := by decide +kernel
theorem dX12_best_25 : decode cX12_best 25 = .ok (.aload_n 0, 1) := by decide +kernel
theorem dX12_best_26 : decode cX12_best 26 = .ok (.iload_n 3, 1) := by decide +kernel
theorem dX12_best_27 : decode cX12_best 27 = .ok (.invokevirtual 263, 3) := by decide +kernel
theorem dX12_best_30 : decode cX12_best 30 = .ok (.aload_n 0, 1) := by decide +kernel
theorem dX12_best_31 : decode cX12_best 31 = .ok (.invokevirtual 275, 3) := by decide +kernel
theorem dX12_best_34 : decode cX12_best 34 = .ok (.istore 4, 2) := by decide +kernel
theorem dX12_best_36 : decode cX12_best 36 = .ok (.aload_n 0, 1) := by decide +kernel
theorem dX12_best_37 : decode cX12_best 37 = .ok (.invokevirtual 269, 3) := by decide +kernel
theorem dX12_best_40 : decode cX12_best 40 = .ok (.pop, 1) := by decide +kernel
theorem dX12_best_41 : decode cX12_best 41 = .ok (.iload 4, 2) := by decide +kernel
theorem dX12_best_43 : decode cX12_best 43 = .ok (.iload_n 2, 1) := by decide +kernel
theorem dX12_best_44 : decode cX12_best 44 = .ok (.if_icmp .le 7, 3) := by decide +kernel
theorem dX12_best_47 : decode cX12_best 47 = .ok (.iload_n 3, 1) := by decide +kernel
theorem dX12_best_48 : decode cX12_best 48 = .ok (.goto 4, 3) := by decide +kernel
theorem dX12_best_51 : decode cX12_best 51 = .ok (.iload_n 1, 1) := by decide +kernel
theorem dX12_best_52 : decode cX12_best 52 = .ok (.istore_n 1, 1) := by decide +kernel
theorem dX12_best_53 : decode cX12_best 53 = .ok (.iload_n 2, 1) := by decide +kernel
theorem dX12_best_54 : decode cX12_best 54 = .ok (.iload 4, 2) := by decide +kernel
theorem dX12_best_56 : decode cX12_best 56 = .ok (.invokestatic 186, 3) := by decide +kernel
theorem dX12_best_59 : decode cX12_best 59 = .ok (.istore_n 2, 1) := by decide +kernel
theorem dX12_best_60 : decode cX12_best 60 = .ok (.iinc 3 1, 3) := by decide +kernel
theorem dX12_best_63 : decode cX12_best 63 = .ok (.goto (-56), 3) := by decide +kernel
theorem dX12_best_66 : decode cX12_best 66 = .ok (.iload_n 1, 1) := by decide +kernel
theorem dX12_best_67 : decode cX12_best 67 = .ok (.ireturn, 1) := by decide +kernel
def f_X12_best_60 (S : Sh) (R : Rw) (ko7 : Iw → Nat → Int32 → Int32 → Int32 → Option (Iw × Int32)) (I : Iw) (a0 : Nat) (x1 : Int32) (x2 : Int32) (x3 : Int32) : Option (Iw × Int32) := ko7 I a0 x1 x2 (x3 + (1 : Int32))
set_option maxHeartbeats 4000000 in
theorem b_X12_best_60 {E : Ev} {p : Program} {l : Launch} {e : Env} {s : State} {m : MethodId} {args : Array Value} {below : List Frame} {meth : Method} {c : Code} (C : Cx E RX12 cX12_best 5 p s m c) (hr : meth.sig.returnType = (some .int)) (hk : meth.locks = false) {S : Sh} {R : Rw} {r : Iw × Int32}  {ko7 : Iw → Nat → Int32 → Int32 → Int32 → Option (Iw × Int32)} (hko7 : ∀ (I : Iw) (a0 : Nat) (x1 : Int32) (x2 : Int32) (x3 : Int32), ko7 I a0 x1 x2 x3 = some r → Wk E 5 p l e ({ frames := 61, cells := 0, slots := 0, locals := 1354 } : Room) s m args below meth c 0 0 (MQ below (Qw E S R r.1 (some (.int r.2))) args s 0 0 (fun q => E.1 ≤ q)) 7 [(0, .ref (E.1 + a0)), (1, .int x1), (2, .int x2), (3, .int x3)] [] S R I) : ∀ (I : Iw) (a0 : Nat) (x1 : Int32) (x2 : Int32) (x3 : Int32), f_X12_best_60 S R ko7  I a0 x1 x2 x3 = some r → Wk E 5 p l e ({ frames := 61, cells := 0, slots := 0, locals := 1354 } : Room) s m args below meth c 0 0 (MQ below (Qw E S R r.1 (some (.int r.2))) args s 0 0 (fun q => E.1 ≤ q)) 60 [(0, .ref (E.1 + a0)), (1, .int x1), (2, .int x2), (3, .int x3)] [] S R I := by
  intro I a0 x1 x2 x3 h
  rw [f_X12_best_60] at h
  refine k_iinc (pc := 60) C dX12_best_60 3 rfl (v := x3 + (1 : Int32)) (by rfl) (by decide) (L2 := [(0, .ref (E.1 + a0)), (1, .int x1), (2, .int x2), (3, .int (x3 + (1 : Int32)))]) rfl ?_
  refine k_goto (pc := 63) C dX12_best_63 (tgt := 7) (by decide) ?_
  exact hko7 _ _ _ _ _ h
def f_X12_best_52 (S : Sh) (R : Rw) (ko7 : Iw → Nat → Int32 → Int32 → Int32 → Option (Iw × Int32)) (I : Iw) (a0 : Nat) (x2 : Int32) (x3 : Int32) (x4 : Int32) (s0 : Int32) : Option (Iw × Int32) := f_X12_best_60 S R ko7 I a0 s0 (jmax x2 x4) x3
set_option maxHeartbeats 4000000 in
theorem b_X12_best_52 {E : Ev} {p : Program} {l : Launch} {e : Env} {s : State} {m : MethodId} {args : Array Value} {below : List Frame} {meth : Method} {c : Code} (C : Cx E RX12 cX12_best 5 p s m c) (hr : meth.sig.returnType = (some .int)) (hk : meth.locks = false) {S : Sh} {R : Rw} {r : Iw × Int32}  {ko7 : Iw → Nat → Int32 → Int32 → Int32 → Option (Iw × Int32)} (hko7 : ∀ (I : Iw) (a0 : Nat) (x1 : Int32) (x2 : Int32) (x3 : Int32), ko7 I a0 x1 x2 x3 = some r → Wk E 5 p l e ({ frames := 61, cells := 0, slots := 0, locals := 1354 } : Room) s m args below meth c 0 0 (MQ below (Qw E S R r.1 (some (.int r.2))) args s 0 0 (fun q => E.1 ≤ q)) 7 [(0, .ref (E.1 + a0)), (1, .int x1), (2, .int x2), (3, .int x3)] [] S R I) : ∀ (I : Iw) (a0 : Nat) (x2 : Int32) (x3 : Int32) (x4 : Int32) (s0 : Int32), f_X12_best_52 S R ko7  I a0 x2 x3 x4 s0 = some r → Wk E 5 p l e ({ frames := 61, cells := 0, slots := 0, locals := 1354 } : Room) s m args below meth c 0 0 (MQ below (Qw E S R r.1 (some (.int r.2))) args s 0 0 (fun q => E.1 ≤ q)) 52 [(0, .ref (E.1 + a0)), (2, .int x2), (3, .int x3), (4, .int x4)] [.int s0] S R I := by
  intro I a0 x2 x3 x4 s0 h
  rw [f_X12_best_52] at h
  refine k_istoren (pc := 52) C dX12_best_52 (i := 1) rfl (by decide) (L2 := [(0, .ref (E.1 + a0)), (1, .int s0), (2, .int x2), (3, .int x3), (4, .int x4)]) rfl ?_
  refine k_iloadn (pc := 53) C dX12_best_53 (i := 2) rfl 2 rfl ?_
  refine k_iload (pc := 54) C dX12_best_54 4 rfl ?_
  refine k_mmax (pc := 56) (st := []) C (t6_in 11 (by decide +kernel) rfl) (Nat.le_of_ble_eq_true rfl) (Nat.le_of_ble_eq_true rfl) (Nat.le_of_ble_eq_true rfl) (Nat.le_of_ble_eq_true rfl) (Nat.le_of_ble_eq_true rfl) dX12_best_56 ?_
  refine k_istoren (pc := 59) C dX12_best_59 (i := 2) rfl (by decide) (L2 := [(0, .ref (E.1 + a0)), (1, .int s0), (2, .int (jmax x2 x4)), (3, .int x3), (4, .int x4)]) rfl ?_
  refine k_loc (L2 := [(0, .ref (E.1 + a0)), (1, .int s0), (2, .int (jmax x2 x4)), (3, .int x3)]) [0, 1, 2, 3] rfl ?_
  exact b_X12_best_60 C hr hk hko7 _ _ _ _ _ h
def f_X12_best_7 (S : Sh) (R : Rw)  : Nat → Iw → Nat → Int32 → Int32 → Int32 → Option (Iw × Int32)
  | 0, _, _, _, _, _ => none
  | n + 1, I, a0, x1, x2, x3 => gp (sok S a0 12 34) (rl (R a0 0) (fun b2 => gp (aok S 20 b2 (3 : Int32)) ((if (I b2 (3 : Int32).toNatClampNeg) ≤ x3 then some (I, x1) else bd (f_X12_mayGo S R I a0 x3) (fun r5 => (if r5 = 0 then f_X12_best_60 S R (f_X12_best_7 S R  n) I a0 x1 x2 x3 else bd (f_X12_out S R I a0 x3) (fun r7 => bd (f_X12_waysOn 12 S R r7 a0) (fun r8 => bd (f_X12_home S R r8.1 a0) (fun r9 => (if r8.2 ≤ x2 then f_X12_best_52 S R (f_X12_best_7 S R  n) r9.1 a0 x2 x3 r8.2 x1 else f_X12_best_52 S R (f_X12_best_7 S R  n) r9.1 a0 x2 x3 r8.2 x3))))))))))
set_option maxHeartbeats 4000000 in
theorem b_X12_best_7 {E : Ev} {p : Program} {l : Launch} {e : Env} {s : State} {m : MethodId} {args : Array Value} {below : List Frame} {meth : Method} {c : Code} (C : Cx E RX12 cX12_best 5 p s m c) (hr : meth.sig.returnType = (some .int)) (hk : meth.locks = false) {S : Sh} {R : Rw} {r : Iw × Int32}  : ∀ (n : Nat) (I : Iw) (a0 : Nat) (x1 : Int32) (x2 : Int32) (x3 : Int32), f_X12_best_7 S R  n I a0 x1 x2 x3 = some r → Wk E 5 p l e ({ frames := 61, cells := 0, slots := 0, locals := 1354 } : Room) s m args below meth c 0 0 (MQ below (Qw E S R r.1 (some (.int r.2))) args s 0 0 (fun q => E.1 ≤ q)) 7 [(0, .ref (E.1 + a0)), (1, .int x1), (2, .int x2), (3, .int x3)] [] S R I := by
  intro n
  induction n with
  | zero =>
    intro I a0 x1 x2 x3 h
    rw [f_X12_best_7] at h
    cases h
  | succ n ih =>
    intro I a0 x1 x2 x3 h
    rw [f_X12_best_7] at h
    refine k_iloadn (pc := 7) C dX12_best_7 (i := 3) rfl 3 rfl ?_
    refine k_aloadn (pc := 8) C dX12_best_8 (i := 0) rfl 0 rfl ?_
    obtain ⟨hs10, h⟩ := gp_e h
    have hs1 := sok_e hs10
    obtain ⟨b2, hb2, h⟩ := rl_e h
    refine k_getR (pc := 9) C lkF_RX12_9_12 hs1 ir_12_0 hb2 dX12_best_9 ?_
    refine k_iconst (pc := 12) C (v := (3 : Int32)) dX12_best_12 (by decide) ?_
    obtain ⟨ha3, h⟩ := gp_e h
    refine k_iald (pc := 13) C ha3 dX12_best_13 ?_
    refine k_icmp_ge (pc := 14) C dX12_best_14 (tgt := 66) (by decide) (fun hc4 => ?_) (fun hc4 => ?_)
    · rw [if_pos hc4] at h
      refine k_iloadn (pc := 66) C dX12_best_66 (i := 1) rfl 1 rfl ?_
      have h := Option.some.inj h
      subst h
      exact k_iret (pc := 67) C hr hk dX12_best_67
    · rw [if_neg hc4] at h
      refine k_aloadn (pc := 17) C dX12_best_17 (i := 0) rfl 0 rfl ?_
      refine k_iloadn (pc := 18) C dX12_best_18 (i := 3) rfl 3 rfl ?_
      obtain ⟨r5, hr5, h⟩ := bd_e h
      refine k_V (pc := 19) (st := []) C (c_X12_mayGo hr5) lkV_RX12_257 hs1 rfl rfl rfl (Nat.le_of_ble_eq_true rfl) (Nat.le_of_ble_eq_true rfl) (Nat.le_of_ble_eq_true rfl) (Nat.le_of_ble_eq_true rfl) (Nat.le_of_ble_eq_true rfl) dX12_best_19 ?_
      refine k_nf (cells2 := 0) (slots2 := 0) (st2 := [.int r5]) rfl rfl rfl ?_
      refine k_if_eq (pc := 22) C dX12_best_22 (tgt := 60) (by decide) (fun hc6 => ?_) (fun hc6 => ?_)
      · rw [if_pos hc6] at h
        exact b_X12_best_60 C hr hk ih _ _ _ _ _ h
      · rw [if_neg hc6] at h
        refine k_aloadn (pc := 25) C dX12_best_25 (i := 0) rfl 0 rfl ?_
        refine k_iloadn (pc := 26) C dX12_best_26 (i := 3) rfl 3 rfl ?_
        obtain ⟨r7, hr7, h⟩ := bd_e h
        refine k_V (pc := 27) (st := []) C (c_X12_out hr7) lkV_RX12_263 hs1 rfl rfl rfl (Nat.le_of_ble_eq_true rfl) (Nat.le_of_ble_eq_true rfl) (Nat.le_of_ble_eq_true rfl) (Nat.le_of_ble_eq_true rfl) (Nat.le_of_ble_eq_true rfl) dX12_best_27 ?_
        refine k_nf (cells2 := 0) (slots2 := 0) (st2 := []) rfl rfl rfl ?_
        refine k_aloadn (pc := 30) C dX12_best_30 (i := 0) rfl 0 rfl ?_
        obtain ⟨r8, hr8, h⟩ := bd_e h
        refine k_V (pc := 31) (st := []) C (c_X12_waysOn 12 hr8) lkV_RX12_275 hs1 rfl rfl rfl (Nat.le_of_ble_eq_true rfl) (Nat.le_of_ble_eq_true rfl) (Nat.le_of_ble_eq_true rfl) (Nat.le_of_ble_eq_true rfl) (Nat.le_of_ble_eq_true rfl) dX12_best_31 ?_
        refine k_nf (cells2 := 0) (slots2 := 0) (st2 := [.int r8.2]) rfl rfl rfl ?_
        refine k_istore (pc := 34) C dX12_best_34 (by decide) (L2 := [(0, .ref (E.1 + a0)), (1, .int x1), (2, .int x2), (3, .int x3), (4, .int r8.2)]) rfl ?_
        refine k_aloadn (pc := 36) C dX12_best_36 (i := 0) rfl 0 rfl ?_
        obtain ⟨r9, hr9, h⟩ := bd_e h
        refine k_V (pc := 37) (st := []) C (c_X12_home hr9) lkV_RX12_269 hs1 rfl rfl rfl (Nat.le_of_ble_eq_true rfl) (Nat.le_of_ble_eq_true rfl) (Nat.le_of_ble_eq_true rfl) (Nat.le_of_ble_eq_true rfl) (Nat.le_of_ble_eq_true rfl) dX12_best_37 ?_
        refine k_nf (cells2 := 0) (slots2 := 0) (st2 := [.int r9.2]) rfl rfl rfl ?_
        refine k_pop (pc := 40) C dX12_best_40 rfl ?_
        refine k_iload (pc := 41) C dX12_best_41 4 rfl ?_
        refine k_iloadn (pc := 43) C dX12_best_43 (i := 2) rfl 2 rfl ?_
        refine k_icmp_le (pc := 44) C dX12_best_44 (tgt := 51) (by decide) (fun hc10 => ?_) (fun hc10 => ?_)
        · rw [if_pos hc10] at h
          refine k_iloadn (pc := 51) C dX12_best_51 (i := 1) rfl 1 rfl ?_
          refine k_loc (L2 := [(0, .ref (E.1 + a0)), (2, .int x2), (3, .int x3), (4, .int r8.2)]) [0, 2, 3, 4] rfl ?_
          exact b_X12_best_52 C hr hk ih _ _ _ _ _ _ h
        · rw [if_neg hc10] at h
          refine k_iloadn (pc := 47) C dX12_best_47 (i := 3) rfl 3 rfl ?_
          refine k_goto (pc := 48) C dX12_best_48 (tgt := 52) (by decide) ?_
          refine k_loc (L2 := [(0, .ref (E.1 + a0)), (2, .int x2), (3, .int x3), (4, .int r8.2)]) [0, 2, 3, 4] rfl ?_
          exact b_X12_best_52 C hr hk ih _ _ _ _ _ _ h
def f_X12_best (S : Sh) (R : Rw)  (I : Iw) (a0 : Nat) : Option (Iw × Int32) := f_X12_best_7 S R  512 I a0 (-3 : Int32) (-1 : Int32) (0 : Int32)
set_option maxHeartbeats 4000000 in
theorem b_X12_best {E : Ev} {p : Program} {l : Launch} {e : Env} {s : State} {m : MethodId} {args : Array Value} {below : List Frame} {meth : Method} {c : Code} (C : Cx E RX12 cX12_best 5 p s m c) (hr : meth.sig.returnType = (some .int)) (hk : meth.locks = false) {S : Sh} {R : Rw} {r : Iw × Int32}  : ∀ (I : Iw) (a0 : Nat), f_X12_best S R   I a0 = some r → Wk E 5 p l e ({ frames := 61, cells := 0, slots := 0, locals := 1354 } : Room) s m args below meth c 0 0 (MQ below (Qw E S R r.1 (some (.int r.2))) args s 0 0 (fun q => E.1 ≤ q)) 0 [(0, .ref (E.1 + a0))] [] S R I := by
  intro I a0 h
  rw [f_X12_best] at h
  refine k_bipush (pc := 0) C (v := (-3 : Int32)) dX12_best_0 (by decide) ?_
  refine k_istoren (pc := 2) C dX12_best_2 (i := 1) rfl (by decide) (L2 := [(0, .ref (E.1 + a0)), (1, .int (-3 : Int32))]) rfl ?_
  refine k_iconst (pc := 3) C (v := (-1 : Int32)) dX12_best_3 (by decide) ?_
  refine k_istoren (pc := 4) C dX12_best_4 (i := 2) rfl (by decide) (L2 := [(0, .ref (E.1 + a0)), (1, .int (-3 : Int32)), (2, .int (-1 : Int32))]) rfl ?_
  refine k_iconst (pc := 5) C (v := (0 : Int32)) dX12_best_5 (by decide) ?_
  refine k_istoren (pc := 6) C dX12_best_6 (i := 3) rfl (by decide) (L2 := [(0, .ref (E.1 + a0)), (1, .int (-3 : Int32)), (2, .int (-1 : Int32)), (3, .int (0 : Int32))]) rfl ?_
  exact b_X12_best_7 C hr hk  _ _ _ _ _ _ h
theorem c_X12_best {E : Ev} {l : Launch} {S : Sh} {R : Rw} {I : Iw} {a0 : Nat} {r : Iw × Int32} (h : f_X12_best S R I a0 = some r) : Mt E l yX12_best cX12_best 5 (some .int) 61 1354 [.ref (E.1 + a0)] S R I S R r.1 (some (.int r.2)) 0 0 := mt_of (by decide) (Nat.le_of_ble_eq_true rfl) (fun p e s m args below meth c C hr hk hn => b_X12_best C hr hk _ _ h)
theorem dX12_goat_0 : decode cX12_goat 0 = .ok (.bipush (-3), 2) := by decide +kernel
theorem dX12_goat_2 : decode cX12_goat 2 = .ok (.istore_n 1, 1) := by decide +kernel
theorem dX12_goat_3 : decode cX12_goat 3 = .ok (.aload_n 0, 1) := by decide +kernel
theorem dX12_goat_4 : decode cX12_goat 4 = .ok (.invokevirtual 275, 3) := by decide +kernel
theorem dX12_goat_7 : decode cX12_goat 7 = .ok (.istore_n 2, 1) := by decide +kernel
theorem dX12_goat_8 : decode cX12_goat 8 = .ok (.iconst 0, 1) := by decide +kernel
theorem dX12_goat_9 : decode cX12_goat 9 = .ok (.istore_n 3, 1) := by decide +kernel
theorem dX12_goat_10 : decode cX12_goat 10 = .ok (.iload_n 3, 1) := by decide +kernel
theorem dX12_goat_11 : decode cX12_goat 11 = .ok (.aload_n 0, 1) := by decide +kernel
theorem dX12_goat_12 : decode cX12_goat 12 = .ok (.getfield 9, 3) := by decide +kernel
theorem dX12_goat_15 : decode cX12_goat 15 = .ok (.iconst 3, 1) := by decide +kernel
theorem dX12_goat_16 : decode cX12_goat 16 = .ok (.iaload, 1) := by decide +kernel
theorem dX12_goat_17 : decode cX12_goat 17 = .ok (.if_icmp .ge 66, 3) := by decide +kernel
theorem dX12_goat_20 : decode cX12_goat 20 = .ok (.aload_n 0, 1) := by decide +kernel
theorem dX12_goat_21 : decode cX12_goat 21 = .ok (.iload_n 3, 1) := by decide +kernel
theorem dX12_goat_22 : decode cX12_goat 22 = .ok (.invokevirtual 233, 3) := by decide +kernel
theorem dX12_goat_25 : decode cX12_goat 25 = .ok (.ifCond .eq 52, 3) := by decide +kernel
theorem dX12_goat_28 : decode cX12_goat 28 = .ok (.aload_n 0, 1) := by decide +kernel
theorem dX12_goat_29 : decode cX12_goat 29 = .ok (.iload_n 3, 1) := by decide +kernel
theorem dX12_goat_30 : decode cX12_goat 30 = .ok (.iconst 0, 1) := by decide +kernel
theorem dX12_goat_31 : decode cX12_goat 31 = .ok (.invokestatic 218, 3) := by decide +kernel
theorem dX12_goat_34 : decode cX12_goat 34 = .ok (.iconst 3, 1) := by decide +kernel
theorem dX12_goat_35 : decode cX12_goat 35 = .ok (.invokevirtual 260, 3) := by decide +kernel
theorem dX12_goat_38 : decode cX12_goat 38 = .ok (.istore 4, 2) := by decide +kernel
theorem dX12_goat_40 : decode cX12_goat 40 = .ok (.aload_n 0, 1) := by decide +kernel
theorem dX12_goat_41 : decode cX12_goat 41 = .ok (.invokevirtual 275, 3) := by decide +kernel
theorem dX12_goat_44 : decode cX12_goat 44 = .ok (.istore 5, 2) := by decide +kernel
theorem dX12_goat_46 : decode cX12_goat 46 = .ok (.aload_n 0, 1) := by decide +kernel
theorem dX12_goat_47 : decode cX12_goat 47 = .ok (.getfield 9, 3) := by decide +kernel
theorem dX12_goat_50 : decode cX12_goat 50 = .ok (.iload_n 3, 1) := by decide +kernel
theorem dX12_goat_51 : decode cX12_goat 51 = .ok (.iconst 0, 1) := by decide +kernel
theorem dX12_goat_52 : decode cX12_goat 52 = .ok (.invokestatic 218, 3) := by decide +kernel
theorem dX12_goat_55 : decode cX12_goat 55 = .ok (.iload 4, 2) := by decide +kernel
theorem dX12_goat_57 : decode cX12_goat 57 = .ok (.iastore, 1) := by decide +kernel
theorem dX12_goat_58 : decode cX12_goat 58 = .ok (.iload 5, 2) := by decide +kernel
theorem dX12_goat_60 : decode cX12_goat 60 = .ok (.iload_n 2, 1) := by decide +kernel
theorem dX12_goat_61 : decode cX12_goat 61 = .ok (.if_icmp .le 7, 3) := by decide +kernel
theorem dX12_goat_64 : decode cX12_goat 64 = .ok (.iload_n 3, 1) := by decide +kernel
theorem dX12_goat_65 : decode cX12_goat 65 = .ok (.goto 4, 3) := by decide +kernel
theorem dX12_goat_68 : decode cX12_goat 68 = .ok (.iload_n 1, 1) := by decide +kernel
theorem dX12_goat_69 : decode cX12_goat 69 = .ok (.istore_n 1, 1) := by decide +kernel
theorem dX12_goat_70 : decode cX12_goat 70 = .ok (.iload_n 2, 1) := by decide +kernel
theorem dX12_goat_71 : decode cX12_goat 71 = .ok (.iload 5, 2) := by decide +kernel
theorem dX12_goat_73 : decode cX12_goat 73 = .ok (.invokestatic 186, 3) := by decide +kernel
theorem dX12_goat_76 : decode cX12_goat 76 = .ok (.istore_n 2, 1) := by decide +kernel
theorem dX12_goat_77 : decode cX12_goat 77 = .ok (.iinc 3 1, 3) := by decide +kernel
theorem dX12_goat_80 : decode cX12_goat 80 = .ok (.goto (-70), 3) := by decide +kernel
theorem dX12_goat_83 : decode cX12_goat 83 = .ok (.iload_n 1, 1) := by decide +kernel
theorem dX12_goat_84 : decode cX12_goat 84 = .ok (.ireturn, 1) := by decide +kernel
def f_X12_goat_77 (S : Sh) (R : Rw) (ko10 : Iw → Nat → Int32 → Int32 → Int32 → Option (Iw × Int32)) (I : Iw) (a0 : Nat) (x1 : Int32) (x2 : Int32) (x3 : Int32) : Option (Iw × Int32) := ko10 I a0 x1 x2 (x3 + (1 : Int32))
set_option maxHeartbeats 4000000 in
theorem b_X12_goat_77 {E : Ev} {p : Program} {l : Launch} {e : Env} {s : State} {m : MethodId} {args : Array Value} {below : List Frame} {meth : Method} {c : Code} (C : Cx E RX12 cX12_goat 6 p s m c) (hr : meth.sig.returnType = (some .int)) (hk : meth.locks = false) {S : Sh} {R : Rw} {r : Iw × Int32}  {ko10 : Iw → Nat → Int32 → Int32 → Int32 → Option (Iw × Int32)} (hko10 : ∀ (I : Iw) (a0 : Nat) (x1 : Int32) (x2 : Int32) (x3 : Int32), ko10 I a0 x1 x2 x3 = some r → Wk E 6 p l e ({ frames := 61, cells := 0, slots := 0, locals := 1354 } : Room) s m args below meth c 0 0 (MQ below (Qw E S R r.1 (some (.int r.2))) args s 0 0 (fun q => E.1 ≤ q)) 10 [(0, .ref (E.1 + a0)), (1, .int x1), (2, .int x2), (3, .int x3)] [] S R I) : ∀ (I : Iw) (a0 : Nat) (x1 : Int32) (x2 : Int32) (x3 : Int32), f_X12_goat_77 S R ko10  I a0 x1 x2 x3 = some r → Wk E 6 p l e ({ frames := 61, cells := 0, slots := 0, locals := 1354 } : Room) s m args below meth c 0 0 (MQ below (Qw E S R r.1 (some (.int r.2))) args s 0 0 (fun q => E.1 ≤ q)) 77 [(0, .ref (E.1 + a0)), (1, .int x1), (2, .int x2), (3, .int x3)] [] S R I := by
  intro I a0 x1 x2 x3 h
  rw [f_X12_goat_77] at h
  refine k_iinc (pc := 77) C dX12_goat_77 3 rfl (v := x3 + (1 : Int32)) (by rfl) (by decide) (L2 := [(0, .ref (E.1 + a0)), (1, .int x1), (2, .int x2), (3, .int (x3 + (1 : Int32)))]) rfl ?_
  refine k_goto (pc := 80) C dX12_goat_80 (tgt := 10) (by decide) ?_
  exact hko10 _ _ _ _ _ h
def f_X12_goat_69 (S : Sh) (R : Rw) (ko10 : Iw → Nat → Int32 → Int32 → Int32 → Option (Iw × Int32)) (I : Iw) (a0 : Nat) (x2 : Int32) (x3 : Int32) (x5 : Int32) (s0 : Int32) : Option (Iw × Int32) := f_X12_goat_77 S R ko10 I a0 s0 (jmax x2 x5) x3
set_option maxHeartbeats 4000000 in
theorem b_X12_goat_69 {E : Ev} {p : Program} {l : Launch} {e : Env} {s : State} {m : MethodId} {args : Array Value} {below : List Frame} {meth : Method} {c : Code} (C : Cx E RX12 cX12_goat 6 p s m c) (hr : meth.sig.returnType = (some .int)) (hk : meth.locks = false) {S : Sh} {R : Rw} {r : Iw × Int32}  {ko10 : Iw → Nat → Int32 → Int32 → Int32 → Option (Iw × Int32)} (hko10 : ∀ (I : Iw) (a0 : Nat) (x1 : Int32) (x2 : Int32) (x3 : Int32), ko10 I a0 x1 x2 x3 = some r → Wk E 6 p l e ({ frames := 61, cells := 0, slots := 0, locals := 1354 } : Room) s m args below meth c 0 0 (MQ below (Qw E S R r.1 (some (.int r.2))) args s 0 0 (fun q => E.1 ≤ q)) 10 [(0, .ref (E.1 + a0)), (1, .int x1), (2, .int x2), (3, .int x3)] [] S R I) : ∀ (I : Iw) (a0 : Nat) (x2 : Int32) (x3 : Int32) (x5 : Int32) (s0 : Int32), f_X12_goat_69 S R ko10  I a0 x2 x3 x5 s0 = some r → Wk E 6 p l e ({ frames := 61, cells := 0, slots := 0, locals := 1354 } : Room) s m args below meth c 0 0 (MQ below (Qw E S R r.1 (some (.int r.2))) args s 0 0 (fun q => E.1 ≤ q)) 69 [(0, .ref (E.1 + a0)), (2, .int x2), (3, .int x3), (5, .int x5)] [.int s0] S R I := by
  intro I a0 x2 x3 x5 s0 h
  rw [f_X12_goat_69] at h
  refine k_istoren (pc := 69) C dX12_goat_69 (i := 1) rfl (by decide) (L2 := [(0, .ref (E.1 + a0)), (1, .int s0), (2, .int x2), (3, .int x3), (5, .int x5)]) rfl ?_
  refine k_iloadn (pc := 70) C dX12_goat_70 (i := 2) rfl 2 rfl ?_
  refine k_iload (pc := 71) C dX12_goat_71 4 rfl ?_
  refine k_mmax (pc := 73) (st := []) C (t6_in 11 (by decide +kernel) rfl) (Nat.le_of_ble_eq_true rfl) (Nat.le_of_ble_eq_true rfl) (Nat.le_of_ble_eq_true rfl) (Nat.le_of_ble_eq_true rfl) (Nat.le_of_ble_eq_true rfl) dX12_goat_73 ?_
  refine k_istoren (pc := 76) C dX12_goat_76 (i := 2) rfl (by decide) (L2 := [(0, .ref (E.1 + a0)), (1, .int s0), (2, .int (jmax x2 x5)), (3, .int x3), (5, .int x5)]) rfl ?_
  refine k_loc (L2 := [(0, .ref (E.1 + a0)), (1, .int s0), (2, .int (jmax x2 x5)), (3, .int x3)]) [0, 1, 2, 3] rfl ?_
  exact b_X12_goat_77 C hr hk hko10 _ _ _ _ _ h
def f_X12_goat_10 (S : Sh) (R : Rw)  : Nat → Iw → Nat → Int32 → Int32 → Int32 → Option (Iw × Int32)
  | 0, _, _, _, _, _ => none
  | n + 1, I, a0, x1, x2, x3 => gp (sok S a0 12 34) (rl (R a0 0) (fun b4 => gp (aok S 20 b4 (3 : Int32)) ((if (I b4 (3 : Int32).toNatClampNeg) ≤ x3 then some (I, x1) else bd (f_X12_isIn S R I a0 x3) (fun r7 => (if r7 = 0 then f_X12_goat_77 S R (f_X12_goat_10 S R  n) I a0 x1 x2 x3 else bd (f_X12_goodAt S R I x3 (0 : Int32)) (fun r9 => bd (f_X12_comes S R I a0 r9 (3 : Int32)) (fun r10 => bd (f_X12_waysOn 12 S R r10.1 a0) (fun r11 => rl (R a0 0) (fun b12 => bd (f_X12_goodAt S R r11.1 x3 (0 : Int32)) (fun r13 => gp (aok S 20 b12 r13) (lt (up2 r11.1 b12 r13.toNatClampNeg r10.2) (fun I15 => (if r11.2 ≤ x2 then f_X12_goat_69 S R (f_X12_goat_10 S R  n) I15 a0 x2 x3 r11.2 x1 else f_X12_goat_69 S R (f_X12_goat_10 S R  n) I15 a0 x2 x3 r11.2 x3))))))))))))))
set_option maxHeartbeats 4000000 in
theorem b_X12_goat_10 {E : Ev} {p : Program} {l : Launch} {e : Env} {s : State} {m : MethodId} {args : Array Value} {below : List Frame} {meth : Method} {c : Code} (C : Cx E RX12 cX12_goat 6 p s m c) (hr : meth.sig.returnType = (some .int)) (hk : meth.locks = false) {S : Sh} {R : Rw} {r : Iw × Int32}  : ∀ (n : Nat) (I : Iw) (a0 : Nat) (x1 : Int32) (x2 : Int32) (x3 : Int32), f_X12_goat_10 S R  n I a0 x1 x2 x3 = some r → Wk E 6 p l e ({ frames := 61, cells := 0, slots := 0, locals := 1354 } : Room) s m args below meth c 0 0 (MQ below (Qw E S R r.1 (some (.int r.2))) args s 0 0 (fun q => E.1 ≤ q)) 10 [(0, .ref (E.1 + a0)), (1, .int x1), (2, .int x2), (3, .int x3)] [] S R I := by
  intro n
  induction n with
  | zero =>
    intro I a0 x1 x2 x3 h
    rw [f_X12_goat_10] at h
    cases h
  | succ n ih =>
    intro I a0 x1 x2 x3 h
    rw [f_X12_goat_10] at h
    refine k_iloadn (pc := 10) C dX12_goat_10 (i := 3) rfl 3 rfl ?_
    refine k_aloadn (pc := 11) C dX12_goat_11 (i := 0) rfl 0 rfl ?_
    obtain ⟨hs30, h⟩ := gp_e h
    have hs3 := sok_e hs30
    obtain ⟨b4, hb4, h⟩ := rl_e h
    refine k_getR (pc := 12) C lkF_RX12_9_12 hs3 ir_12_0 hb4 dX12_goat_12 ?_
    refine k_iconst (pc := 15) C (v := (3 : Int32)) dX12_goat_15 (by decide) ?_
    obtain ⟨ha5, h⟩ := gp_e h
    refine k_iald (pc := 16) C ha5 dX12_goat_16 ?_
    refine k_icmp_ge (pc := 17) C dX12_goat_17 (tgt := 83) (by decide) (fun hc6 => ?_) (fun hc6 => ?_)
    · rw [if_pos hc6] at h
      refine k_iloadn (pc := 83) C dX12_goat_83 (i := 1) rfl 1 rfl ?_
      have h := Option.some.inj h
      subst h
      exact k_iret (pc := 84) C hr hk dX12_goat_84
    · rw [if_neg hc6] at h
      refine k_aloadn (pc := 20) C dX12_goat_20 (i := 0) rfl 0 rfl ?_
      refine k_iloadn (pc := 21) C dX12_goat_21 (i := 3) rfl 3 rfl ?_
      obtain ⟨r7, hr7, h⟩ := bd_e h
      refine k_V (pc := 22) (st := []) C (c_X12_isIn hr7) lkV_RX12_233 hs3 rfl rfl rfl (Nat.le_of_ble_eq_true rfl) (Nat.le_of_ble_eq_true rfl) (Nat.le_of_ble_eq_true rfl) (Nat.le_of_ble_eq_true rfl) (Nat.le_of_ble_eq_true rfl) dX12_goat_22 ?_
      refine k_nf (cells2 := 0) (slots2 := 0) (st2 := [.int r7]) rfl rfl rfl ?_
      refine k_if_eq (pc := 25) C dX12_goat_25 (tgt := 77) (by decide) (fun hc8 => ?_) (fun hc8 => ?_)
      · rw [if_pos hc8] at h
        exact b_X12_goat_77 C hr hk ih _ _ _ _ _ h
      · rw [if_neg hc8] at h
        refine k_aloadn (pc := 28) C dX12_goat_28 (i := 0) rfl 0 rfl ?_
        refine k_iloadn (pc := 29) C dX12_goat_29 (i := 3) rfl 3 rfl ?_
        refine k_iconst (pc := 30) C (v := (0 : Int32)) dX12_goat_30 (by decide) ?_
        obtain ⟨r9, hr9, h⟩ := bd_e h
        refine k_S (pc := 31) (st := [.ref (E.1 + a0)]) C (c_X12_goodAt hr9) lkS_RX12_218 rfl rfl (Nat.le_of_ble_eq_true rfl) (Nat.le_of_ble_eq_true rfl) (Nat.le_of_ble_eq_true rfl) (Nat.le_of_ble_eq_true rfl) (Nat.le_of_ble_eq_true rfl) dX12_goat_31 ?_
        refine k_nf (cells2 := 0) (slots2 := 0) (st2 := [.int r9, .ref (E.1 + a0)]) rfl rfl rfl ?_
        refine k_iconst (pc := 34) C (v := (3 : Int32)) dX12_goat_34 (by decide) ?_
        obtain ⟨r10, hr10, h⟩ := bd_e h
        refine k_V (pc := 35) (st := []) C (c_X12_comes hr10) lkV_RX12_260 hs3 rfl rfl rfl (Nat.le_of_ble_eq_true rfl) (Nat.le_of_ble_eq_true rfl) (Nat.le_of_ble_eq_true rfl) (Nat.le_of_ble_eq_true rfl) (Nat.le_of_ble_eq_true rfl) dX12_goat_35 ?_
        refine k_nf (cells2 := 0) (slots2 := 0) (st2 := [.int r10.2]) rfl rfl rfl ?_
        refine k_istore (pc := 38) C dX12_goat_38 (by decide) (L2 := [(0, .ref (E.1 + a0)), (1, .int x1), (2, .int x2), (3, .int x3), (4, .int r10.2)]) rfl ?_
        refine k_aloadn (pc := 40) C dX12_goat_40 (i := 0) rfl 0 rfl ?_
        obtain ⟨r11, hr11, h⟩ := bd_e h
        refine k_V (pc := 41) (st := []) C (c_X12_waysOn 12 hr11) lkV_RX12_275 hs3 rfl rfl rfl (Nat.le_of_ble_eq_true rfl) (Nat.le_of_ble_eq_true rfl) (Nat.le_of_ble_eq_true rfl) (Nat.le_of_ble_eq_true rfl) (Nat.le_of_ble_eq_true rfl) dX12_goat_41 ?_
        refine k_nf (cells2 := 0) (slots2 := 0) (st2 := [.int r11.2]) rfl rfl rfl ?_
        refine k_istore (pc := 44) C dX12_goat_44 (by decide) (L2 := [(0, .ref (E.1 + a0)), (1, .int x1), (2, .int x2), (3, .int x3), (4, .int r10.2), (5, .int r11.2)]) rfl ?_
        refine k_aloadn (pc := 46) C dX12_goat_46 (i := 0) rfl 0 rfl ?_
        obtain ⟨b12, hb12, h⟩ := rl_e h
        refine k_getR (pc := 47) C lkF_RX12_9_12 hs3 ir_12_0 hb12 dX12_goat_47 ?_
        refine k_iloadn (pc := 50) C dX12_goat_50 (i := 3) rfl 3 rfl ?_
        refine k_iconst (pc := 51) C (v := (0 : Int32)) dX12_goat_51 (by decide) ?_
        obtain ⟨r13, hr13, h⟩ := bd_e h
        refine k_S (pc := 52) (st := [.ref (E.1 + b12)]) C (c_X12_goodAt hr13) lkS_RX12_218 rfl rfl (Nat.le_of_ble_eq_true rfl) (Nat.le_of_ble_eq_true rfl) (Nat.le_of_ble_eq_true rfl) (Nat.le_of_ble_eq_true rfl) (Nat.le_of_ble_eq_true rfl) dX12_goat_52 ?_
        refine k_nf (cells2 := 0) (slots2 := 0) (st2 := [.int r13, .ref (E.1 + b12)]) rfl rfl rfl ?_
        refine k_iload (pc := 55) C dX12_goat_55 4 rfl ?_
        obtain ⟨ha14, h⟩ := gp_e h
        obtain ⟨I15, eI15, h⟩ := lt_e h
        refine k_iast (pc := 57) C ha14 dX12_goat_57 ?_
        rw [← eI15]
        refine k_iload (pc := 58) C dX12_goat_58 5 rfl ?_
        refine k_iloadn (pc := 60) C dX12_goat_60 (i := 2) rfl 2 rfl ?_
        refine k_icmp_le (pc := 61) C dX12_goat_61 (tgt := 68) (by decide) (fun hc16 => ?_) (fun hc16 => ?_)
        · rw [if_pos hc16] at h
          refine k_iloadn (pc := 68) C dX12_goat_68 (i := 1) rfl 1 rfl ?_
          refine k_loc (L2 := [(0, .ref (E.1 + a0)), (2, .int x2), (3, .int x3), (5, .int r11.2)]) [0, 2, 3, 5] rfl ?_
          exact b_X12_goat_69 C hr hk ih _ _ _ _ _ _ h
        · rw [if_neg hc16] at h
          refine k_iloadn (pc := 64) C dX12_goat_64 (i := 3) rfl 3 rfl ?_
          refine k_goto (pc := 65) C dX12_goat_65 (tgt := 69) (by decide) ?_
          refine k_loc (L2 := [(0, .ref (E.1 + a0)), (2, .int x2), (3, .int x3), (5, .int r11.2)]) [0, 2, 3, 5] rfl ?_
          exact b_X12_goat_69 C hr hk ih _ _ _ _ _ _ h
def f_X12_goat (S : Sh) (R : Rw)  (I : Iw) (a0 : Nat) : Option (Iw × Int32) := gp (sok S a0 12 34) (bd (f_X12_waysOn 12 S R I a0) (fun r2 => f_X12_goat_10 S R  512 r2.1 a0 (-3 : Int32) r2.2 (0 : Int32)))
set_option maxHeartbeats 4000000 in
theorem b_X12_goat {E : Ev} {p : Program} {l : Launch} {e : Env} {s : State} {m : MethodId} {args : Array Value} {below : List Frame} {meth : Method} {c : Code} (C : Cx E RX12 cX12_goat 6 p s m c) (hr : meth.sig.returnType = (some .int)) (hk : meth.locks = false) {S : Sh} {R : Rw} {r : Iw × Int32}  : ∀ (I : Iw) (a0 : Nat), f_X12_goat S R   I a0 = some r → Wk E 6 p l e ({ frames := 61, cells := 0, slots := 0, locals := 1354 } : Room) s m args below meth c 0 0 (MQ below (Qw E S R r.1 (some (.int r.2))) args s 0 0 (fun q => E.1 ≤ q)) 0 [(0, .ref (E.1 + a0))] [] S R I := by
  intro I a0 h
  rw [f_X12_goat] at h
  refine k_bipush (pc := 0) C (v := (-3 : Int32)) dX12_goat_0 (by decide) ?_
  refine k_istoren (pc := 2) C dX12_goat_2 (i := 1) rfl (by decide) (L2 := [(0, .ref (E.1 + a0)), (1, .int (-3 : Int32))]) rfl ?_
  refine k_aloadn (pc := 3) C dX12_goat_3 (i := 0) rfl 0 rfl ?_
  obtain ⟨hs10, h⟩ := gp_e h
  have hs1 := sok_e hs10
  obtain ⟨r2, hr2, h⟩ := bd_e h
  refine k_V (pc := 4) (st := []) C (c_X12_waysOn 12 hr2) lkV_RX12_275 hs1 rfl rfl rfl (Nat.le_of_ble_eq_true rfl) (Nat.le_of_ble_eq_true rfl) (Nat.le_of_ble_eq_true rfl) (Nat.le_of_ble_eq_true rfl) (Nat.le_of_ble_eq_true rfl) dX12_goat_4 ?_
  refine k_nf (cells2 := 0) (slots2 := 0) (st2 := [.int r2.2]) rfl rfl rfl ?_
  refine k_istoren (pc := 7) C dX12_goat_7 (i := 2) rfl (by decide) (L2 := [(0, .ref (E.1 + a0)), (1, .int (-3 : Int32)), (2, .int r2.2)]) rfl ?_
  refine k_iconst (pc := 8) C (v := (0 : Int32)) dX12_goat_8 (by decide) ?_
  refine k_istoren (pc := 9) C dX12_goat_9 (i := 3) rfl (by decide) (L2 := [(0, .ref (E.1 + a0)), (1, .int (-3 : Int32)), (2, .int r2.2), (3, .int (0 : Int32))]) rfl ?_
  exact b_X12_goat_10 C hr hk  _ _ _ _ _ _ h
theorem c_X12_goat {E : Ev} {l : Launch} {S : Sh} {R : Rw} {I : Iw} {a0 : Nat} {r : Iw × Int32} (h : f_X12_goat S R I a0 = some r) : Mt E l yX12_goat cX12_goat 6 (some .int) 61 1354 [.ref (E.1 + a0)] S R I S R r.1 (some (.int r.2)) 0 0 := mt_of (by decide) (Nat.le_of_ble_eq_true rfl) (fun p e s m args below meth c C hr hk hn => b_X12_goat C hr hk _ _ h)
theorem dX12_gapFor_0 : decode cX12_gapFor 0 = .ok (.aload_n 0, 1) := by decide +kernel
theorem dX12_gapFor_1 : decode cX12_gapFor 1 = .ok (.getfield 9, 3) := by decide +kernel
theorem dX12_gapFor_4 : decode cX12_gapFor 4 = .ok (.iconst 0, 1) := by decide +kernel
theorem dX12_gapFor_5 : decode cX12_gapFor 5 = .ok (.iaload, 1) := by decide +kernel
theorem dX12_gapFor_6 : decode cX12_gapFor 6 = .ok (.istore_n 1, 1) := by decide +kernel
theorem dX12_gapFor_7 : decode cX12_gapFor 7 = .ok (.iconst 4, 1) := by decide +kernel
theorem dX12_gapFor_8 : decode cX12_gapFor 8 = .ok (.istore_n 2, 1) := by decide +kernel
theorem dX12_gapFor_9 : decode cX12_gapFor 9 = .ok (.iconst 0, 1) := by decide +kernel
theorem dX12_gapFor_10 : decode cX12_gapFor 10 = .ok (.istore_n 3, 1) := by decide +kernel
theorem dX12_gapFor_11 : decode cX12_gapFor 11 = .ok (.iload_n 2, 1) := by decide +kernel
theorem dX12_gapFor_12 : decode cX12_gapFor 12 = .ok (.iconst 1, 1) := by decide +kernel
theorem dX12_gapFor_13 : decode cX12_gapFor 13 = .ok (.if_icmp .le 25, 3) := by decide +kernel
theorem dX12_gapFor_16 : decode cX12_gapFor 16 = .ok (.iload_n 3, 1) := by decide +kernel
theorem dX12_gapFor_17 : decode cX12_gapFor 17 = .ok (.ifCond .ne 21, 3) := by decide +kernel
theorem dX12_gapFor_20 : decode cX12_gapFor 20 = .ok (.iinc 2 (-1), 3) := by decide +kernel
theorem dX12_gapFor_23 : decode cX12_gapFor 23 = .ok (.aload_n 0, 1) := by decide +kernel
theorem dX12_gapFor_24 : decode cX12_gapFor 24 = .ok (.getfield 9, 3) := by decide +kernel
theorem dX12_gapFor_27 : decode cX12_gapFor 27 = .ok (.iconst 0, 1) := by decide +kernel
theorem dX12_gapFor_28 : decode cX12_gapFor 28 = .ok (.iload_n 2, 1) := by decide +kernel
theorem dX12_gapFor_29 : decode cX12_gapFor 29 = .ok (.iastore, 1) := by decide +kernel
theorem dX12_gapFor_30 : decode cX12_gapFor 30 = .ok (.aload_n 0, 1) := by decide +kernel
theorem dX12_gapFor_31 : decode cX12_gapFor 31 = .ok (.invokevirtual 275, 3) := by decide +kernel
theorem dX12_gapFor_34 : decode cX12_gapFor 34 = .ok (.istore_n 3, 1) := by decide +kernel
theorem dX12_gapFor_35 : decode cX12_gapFor 35 = .ok (.goto (-24), 3) := by decide +kernel
theorem dX12_gapFor_38 : decode cX12_gapFor 38 = .ok (.aload_n 0, 1) := by decide +kernel
theorem dX12_gapFor_39 : decode cX12_gapFor 39 = .ok (.getfield 9, 3) := by decide +kernel
theorem dX12_gapFor_42 : decode cX12_gapFor 42 = .ok (.iconst 0, 1) := by decide +kernel
theorem dX12_gapFor_43 : decode cX12_gapFor 43 = .ok (.iload_n 1, 1) := by decide +kernel
theorem dX12_gapFor_44 : decode cX12_gapFor 44 = .ok (.iastore, 1) := by decide +kernel
theorem dX12_gapFor_45 : decode cX12_gapFor 45 = .ok (.iload_n 3, 1) := by decide +kernel
theorem dX12_gapFor_46 : decode cX12_gapFor 46 = .ok (.ifCond .le 7, 3) := by decide +kernel
theorem dX12_gapFor_49 : decode cX12_gapFor 49 = .ok (.iload_n 2, 1) := by decide +kernel
theorem dX12_gapFor_50 : decode cX12_gapFor 50 = .ok (.goto 5, 3) := by decide +kernel
theorem dX12_gapFor_53 : decode cX12_gapFor 53 = .ok (.bipush (-3), 2) := by decide +kernel
theorem dX12_gapFor_55 : decode cX12_gapFor 55 = .ok (.ireturn, 1) := by decide +kernel
def f_X12_gapFor_38 (S : Sh) (R : Rw)  (I : Iw) (a0 : Nat) (x1 : Int32) (x2 : Int32) (x3 : Int32) : Option (Iw × Int32) := gp (sok S a0 12 34) (rl (R a0 0) (fun b6 => gp (aok S 20 b6 (0 : Int32)) (lt (up2 I b6 (0 : Int32).toNatClampNeg x1) (fun I8 => (if x3 ≤ 0 then some (I8, (-3 : Int32)) else some (I8, x2))))))
set_option maxHeartbeats 4000000 in
theorem b_X12_gapFor_38 {E : Ev} {p : Program} {l : Launch} {e : Env} {s : State} {m : MethodId} {args : Array Value} {below : List Frame} {meth : Method} {c : Code} (C : Cx E RX12 cX12_gapFor 4 p s m c) (hr : meth.sig.returnType = (some .int)) (hk : meth.locks = false) {S : Sh} {R : Rw} {r : Iw × Int32}  : ∀ (I : Iw) (a0 : Nat) (x1 : Int32) (x2 : Int32) (x3 : Int32), f_X12_gapFor_38 S R   I a0 x1 x2 x3 = some r → Wk E 4 p l e ({ frames := 61, cells := 0, slots := 0, locals := 1354 } : Room) s m args below meth c 0 0 (MQ below (Qw E S R r.1 (some (.int r.2))) args s 0 0 (fun q => E.1 ≤ q)) 38 [(0, .ref (E.1 + a0)), (1, .int x1), (2, .int x2), (3, .int x3)] [] S R I := by
  intro I a0 x1 x2 x3 h
  rw [f_X12_gapFor_38] at h
  refine k_aloadn (pc := 38) C dX12_gapFor_38 (i := 0) rfl 0 rfl ?_
  obtain ⟨hs50, h⟩ := gp_e h
  have hs5 := sok_e hs50
  obtain ⟨b6, hb6, h⟩ := rl_e h
  refine k_getR (pc := 39) C lkF_RX12_9_12 hs5 ir_12_0 hb6 dX12_gapFor_39 ?_
  refine k_iconst (pc := 42) C (v := (0 : Int32)) dX12_gapFor_42 (by decide) ?_
  refine k_iloadn (pc := 43) C dX12_gapFor_43 (i := 1) rfl 1 rfl ?_
  obtain ⟨ha7, h⟩ := gp_e h
  obtain ⟨I8, eI8, h⟩ := lt_e h
  refine k_iast (pc := 44) C ha7 dX12_gapFor_44 ?_
  rw [← eI8]
  refine k_iloadn (pc := 45) C dX12_gapFor_45 (i := 3) rfl 3 rfl ?_
  refine k_if_le (pc := 46) C dX12_gapFor_46 (tgt := 53) (by decide) (fun hc9 => ?_) (fun hc9 => ?_)
  · rw [if_pos hc9] at h
    refine k_bipush (pc := 53) C (v := (-3 : Int32)) dX12_gapFor_53 (by decide) ?_
    have h := Option.some.inj h
    subst h
    exact k_iret (pc := 55) C hr hk dX12_gapFor_55
  · rw [if_neg hc9] at h
    refine k_iloadn (pc := 49) C dX12_gapFor_49 (i := 2) rfl 2 rfl ?_
    refine k_goto (pc := 50) C dX12_gapFor_50 (tgt := 55) (by decide) ?_
    have h := Option.some.inj h
    subst h
    exact k_iret (pc := 55) C hr hk dX12_gapFor_55
def f_X12_gapFor_11 (S : Sh) (R : Rw)  : Nat → Iw → Nat → Int32 → Int32 → Int32 → Option (Iw × Int32)
  | 0, _, _, _, _, _ => none
  | n + 1, I, a0, x1, x2, x3 => (if x2 ≤ (1 : Int32) then f_X12_gapFor_38 S R  I a0 x1 x2 x3 else (if x3 = 0 then gp (sok S a0 12 34) (rl (R a0 0) (fun b12 => gp (aok S 20 b12 (0 : Int32)) (lt (up2 I b12 (0 : Int32).toNatClampNeg (x2 + (-1 : Int32))) (fun I14 => bd (f_X12_waysOn 12 S R I14 a0) (fun r15 => f_X12_gapFor_11 S R  n r15.1 a0 x1 (x2 + (-1 : Int32)) r15.2))))) else f_X12_gapFor_38 S R  I a0 x1 x2 x3))
set_option maxHeartbeats 4000000 in
theorem b_X12_gapFor_11 {E : Ev} {p : Program} {l : Launch} {e : Env} {s : State} {m : MethodId} {args : Array Value} {below : List Frame} {meth : Method} {c : Code} (C : Cx E RX12 cX12_gapFor 4 p s m c) (hr : meth.sig.returnType = (some .int)) (hk : meth.locks = false) {S : Sh} {R : Rw} {r : Iw × Int32}  : ∀ (n : Nat) (I : Iw) (a0 : Nat) (x1 : Int32) (x2 : Int32) (x3 : Int32), f_X12_gapFor_11 S R  n I a0 x1 x2 x3 = some r → Wk E 4 p l e ({ frames := 61, cells := 0, slots := 0, locals := 1354 } : Room) s m args below meth c 0 0 (MQ below (Qw E S R r.1 (some (.int r.2))) args s 0 0 (fun q => E.1 ≤ q)) 11 [(0, .ref (E.1 + a0)), (1, .int x1), (2, .int x2), (3, .int x3)] [] S R I := by
  intro n
  induction n with
  | zero =>
    intro I a0 x1 x2 x3 h
    rw [f_X12_gapFor_11] at h
    cases h
  | succ n ih =>
    intro I a0 x1 x2 x3 h
    rw [f_X12_gapFor_11] at h
    refine k_iloadn (pc := 11) C dX12_gapFor_11 (i := 2) rfl 2 rfl ?_
    refine k_iconst (pc := 12) C (v := (1 : Int32)) dX12_gapFor_12 (by decide) ?_
    refine k_icmp_le (pc := 13) C dX12_gapFor_13 (tgt := 38) (by decide) (fun hc4 => ?_) (fun hc4 => ?_)
    · rw [if_pos hc4] at h
      exact b_X12_gapFor_38 C hr hk  _ _ _ _ _ h
    · rw [if_neg hc4] at h
      refine k_iloadn (pc := 16) C dX12_gapFor_16 (i := 3) rfl 3 rfl ?_
      refine k_if_ne (pc := 17) C dX12_gapFor_17 (tgt := 38) (by decide) (fun hc10 => ?_) (fun hc10 => ?_)
      · rw [if_neg hc10] at h
        exact b_X12_gapFor_38 C hr hk  _ _ _ _ _ h
      · rw [if_pos hc10] at h
        refine k_iinc (pc := 20) C dX12_gapFor_20 2 rfl (v := x2 + (-1 : Int32)) (by rfl) (by decide) (L2 := [(0, .ref (E.1 + a0)), (1, .int x1), (2, .int (x2 + (-1 : Int32))), (3, .int x3)]) rfl ?_
        refine k_aloadn (pc := 23) C dX12_gapFor_23 (i := 0) rfl 0 rfl ?_
        obtain ⟨hs110, h⟩ := gp_e h
        have hs11 := sok_e hs110
        obtain ⟨b12, hb12, h⟩ := rl_e h
        refine k_getR (pc := 24) C lkF_RX12_9_12 hs11 ir_12_0 hb12 dX12_gapFor_24 ?_
        refine k_iconst (pc := 27) C (v := (0 : Int32)) dX12_gapFor_27 (by decide) ?_
        refine k_iloadn (pc := 28) C dX12_gapFor_28 (i := 2) rfl 2 rfl ?_
        obtain ⟨ha13, h⟩ := gp_e h
        obtain ⟨I14, eI14, h⟩ := lt_e h
        refine k_iast (pc := 29) C ha13 dX12_gapFor_29 ?_
        rw [← eI14]
        refine k_aloadn (pc := 30) C dX12_gapFor_30 (i := 0) rfl 0 rfl ?_
        obtain ⟨r15, hr15, h⟩ := bd_e h
        refine k_V (pc := 31) (st := []) C (c_X12_waysOn 12 hr15) lkV_RX12_275 hs11 rfl rfl rfl (Nat.le_of_ble_eq_true rfl) (Nat.le_of_ble_eq_true rfl) (Nat.le_of_ble_eq_true rfl) (Nat.le_of_ble_eq_true rfl) (Nat.le_of_ble_eq_true rfl) dX12_gapFor_31 ?_
        refine k_nf (cells2 := 0) (slots2 := 0) (st2 := [.int r15.2]) rfl rfl rfl ?_
        refine k_istoren (pc := 34) C dX12_gapFor_34 (i := 3) rfl (by decide) (L2 := [(0, .ref (E.1 + a0)), (1, .int x1), (2, .int (x2 + (-1 : Int32))), (3, .int r15.2)]) rfl ?_
        refine k_goto (pc := 35) C dX12_gapFor_35 (tgt := 11) (by decide) ?_
        exact ih _ _ _ _ _ h
def f_X12_gapFor (S : Sh) (R : Rw)  (I : Iw) (a0 : Nat) : Option (Iw × Int32) := gp (sok S a0 12 34) (rl (R a0 0) (fun b2 => gp (aok S 20 b2 (0 : Int32)) (f_X12_gapFor_11 S R  512 I a0 (I b2 (0 : Int32).toNatClampNeg) (4 : Int32) (0 : Int32))))
set_option maxHeartbeats 4000000 in
theorem b_X12_gapFor {E : Ev} {p : Program} {l : Launch} {e : Env} {s : State} {m : MethodId} {args : Array Value} {below : List Frame} {meth : Method} {c : Code} (C : Cx E RX12 cX12_gapFor 4 p s m c) (hr : meth.sig.returnType = (some .int)) (hk : meth.locks = false) {S : Sh} {R : Rw} {r : Iw × Int32}  : ∀ (I : Iw) (a0 : Nat), f_X12_gapFor S R   I a0 = some r → Wk E 4 p l e ({ frames := 61, cells := 0, slots := 0, locals := 1354 } : Room) s m args below meth c 0 0 (MQ below (Qw E S R r.1 (some (.int r.2))) args s 0 0 (fun q => E.1 ≤ q)) 0 [(0, .ref (E.1 + a0))] [] S R I := by
  intro I a0 h
  rw [f_X12_gapFor] at h
  refine k_aloadn (pc := 0) C dX12_gapFor_0 (i := 0) rfl 0 rfl ?_
  obtain ⟨hs10, h⟩ := gp_e h
  have hs1 := sok_e hs10
  obtain ⟨b2, hb2, h⟩ := rl_e h
  refine k_getR (pc := 1) C lkF_RX12_9_12 hs1 ir_12_0 hb2 dX12_gapFor_1 ?_
  refine k_iconst (pc := 4) C (v := (0 : Int32)) dX12_gapFor_4 (by decide) ?_
  obtain ⟨ha3, h⟩ := gp_e h
  refine k_iald (pc := 5) C ha3 dX12_gapFor_5 ?_
  refine k_istoren (pc := 6) C dX12_gapFor_6 (i := 1) rfl (by decide) (L2 := [(0, .ref (E.1 + a0)), (1, .int (I b2 (0 : Int32).toNatClampNeg))]) rfl ?_
  refine k_iconst (pc := 7) C (v := (4 : Int32)) dX12_gapFor_7 (by decide) ?_
  refine k_istoren (pc := 8) C dX12_gapFor_8 (i := 2) rfl (by decide) (L2 := [(0, .ref (E.1 + a0)), (1, .int (I b2 (0 : Int32).toNatClampNeg)), (2, .int (4 : Int32))]) rfl ?_
  refine k_iconst (pc := 9) C (v := (0 : Int32)) dX12_gapFor_9 (by decide) ?_
  refine k_istoren (pc := 10) C dX12_gapFor_10 (i := 3) rfl (by decide) (L2 := [(0, .ref (E.1 + a0)), (1, .int (I b2 (0 : Int32).toNatClampNeg)), (2, .int (4 : Int32)), (3, .int (0 : Int32))]) rfl ?_
  exact b_X12_gapFor_11 C hr hk  _ _ _ _ _ _ h
theorem c_X12_gapFor {E : Ev} {l : Launch} {S : Sh} {R : Rw} {I : Iw} {a0 : Nat} {r : Iw × Int32} (h : f_X12_gapFor S R I a0 = some r) : Mt E l yX12_gapFor cX12_gapFor 4 (some .int) 61 1354 [.ref (E.1 + a0)] S R I S R r.1 (some (.int r.2)) 0 0 := mt_of (by decide) (Nat.le_of_ble_eq_true rfl) (fun p e s m args below meth c C hr hk hn => b_X12_gapFor C hr hk _ _ h)
