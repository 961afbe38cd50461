/-! X12_is, X12_comes, X12_back, X12_feed, X12_isLetter, X12_isDigit, X12_byteAt, X12_next, X12_isWord -/
theorem lkS_RX12_98 : LkS RX12 98 yX12_in cX12_in 3 (some .boolean) 3 := ⟨(t5_in 188 (by decide +kernel) rfl), (t5_in 189 (by decide +kernel) rfl), (t5_in 190 (by decide +kernel) rfl), (t1_in 7 (by decide +kernel) rfl), by decide, by decide +kernel⟩
theorem dX12_is_0 : decode cX12_is 0 = .ok (.iload_n 1, 1) := by decide +kernel
theorem dX12_is_1 : decode cX12_is 1 = .ok (.iconst 0, 1) := by decide +kernel
theorem dX12_is_2 : decode cX12_is 2 = .ok (.aload_n 0, 1) := by decide +kernel
theorem dX12_is_3 : decode cX12_is 3 = .ok (.getfield 9, 3) := by decide +kernel
theorem dX12_is_6 : decode cX12_is 6 = .ok (.iload_n 2, 1) := by decide +kernel
theorem dX12_is_7 : decode cX12_is 7 = .ok (.iaload, 1) := by decide +kernel
theorem dX12_is_8 : decode cX12_is 8 = .ok (.iconst 1, 1) := by decide +kernel
theorem dX12_is_9 : decode cX12_is 9 = .ok (.isub, 1) := by decide +kernel
theorem dX12_is_10 : decode cX12_is 10 = .ok (.invokestatic 98, 3) := by decide +kernel
theorem dX12_is_13 : decode cX12_is 13 = .ok (.ireturn, 1) := by decide +kernel
def f_X12_is (S : Sh) (R : Rw) (I : Iw)  (a0 : Nat) (x1 : Int32) (x2 : Int32) : Option (Int32) := gp (sok S a0 12 34) (rl (R a0 0) (fun b2 => gp (aok S 20 b2 x2) (bd (f_X12_in S R I x1 (0 : Int32) ((I b2 x2.toNatClampNeg) - (1 : Int32))) (fun r4 => gp (zok r4) (some r4)))))
set_option maxHeartbeats 4000000 in
theorem b_X12_is {E : Ev} {p : Program} {l : Launch} {e : Env} {s : State} {m : MethodId} {args : Array Value} {below : List Frame} {meth : Method} {c : Code} (C : Cx E RX12 cX12_is 3 p s m c) (hr : meth.sig.returnType = (some .boolean)) (hk : meth.locks = false) {S : Sh} {R : Rw} {I : Iw} {r : Int32}  : ∀ (a0 : Nat) (x1 : Int32) (x2 : Int32), f_X12_is S R I   a0 x1 x2 = some r → Wk E 3 p l e ({ frames := 1, cells := 0, slots := 0, locals := 22 } : Room) s m args below meth c 0 0 (MQ below (Qw E S R I (some (.int r))) args s 0 0 (fun q => E.1 ≤ q)) 0 [(0, .ref (E.1 + a0)), (1, .int x1), (2, .int x2)] [] S R I := by
  intro a0 x1 x2 h
  rw [f_X12_is] at h
  refine k_iloadn (pc := 0) C dX12_is_0 (i := 1) rfl 1 rfl ?_
  refine k_iconst (pc := 1) C (v := (0 : Int32)) dX12_is_1 (by decide) ?_
  refine k_aloadn (pc := 2) C dX12_is_2 (i := 0) rfl 0 rfl ?_
  obtain ⟨hs10, h⟩ := gp_e h
  have hs1 := sok_e hs10
  obtain ⟨b2, hb2, h⟩ := rl_e h
  refine k_getR (pc := 3) C lkF_RX12_9_12 hs1 ir_12_0 hb2 dX12_is_3 ?_
  refine k_iloadn (pc := 6) C dX12_is_6 (i := 2) rfl 2 rfl ?_
  obtain ⟨ha3, h⟩ := gp_e h
  refine k_iald (pc := 7) C ha3 dX12_is_7 ?_
  refine k_iconst (pc := 8) C (v := (1 : Int32)) dX12_is_8 (by decide) ?_
  refine k_isub (pc := 9) C dX12_is_9 ?_
  obtain ⟨r4, hr4, h⟩ := bd_e h
  refine k_S (pc := 10) (st := []) C (c_X12_in hr4) lkS_RX12_98 rfl rfl (Nat.le_of_ble_eq_true rfl) (Nat.le_of_ble_eq_true rfl) (Nat.le_of_ble_eq_true rfl) (Nat.le_of_ble_eq_true rfl) (Nat.le_of_ble_eq_true rfl) dX12_is_10 ?_
  refine k_nf (cells2 := 0) (slots2 := 0) (st2 := [.int r4]) rfl rfl rfl ?_
  obtain ⟨hz5, h⟩ := gp_e h
  have h := Option.some.inj h
  subst h
  exact k_zret (pc := 13) C hr hk (of_decide_eq_true hz5) dX12_is_13
theorem c_X12_is {E : Ev} {l : Launch} {S : Sh} {R : Rw} {I : Iw} {a0 : Nat} {x1 : Int32} {x2 : Int32} {r : Int32} (h : f_X12_is S R I a0 x1 x2 = some r) : Mt E l yX12_is cX12_is 3 (some .boolean) 1 22 [.ref (E.1 + a0), .int x1, .int x2] S R I S R I (some (.int r)) 0 0 := mt_of (by decide) (Nat.le_of_ble_eq_true rfl) (fun p e s m args below meth c C hr hk hn => b_X12_is C hr hk _ _ _ h)
theorem dX12_comes_0 : decode cX12_comes 0 = .ok (.aload_n 0, 1) := by decide +kernel
theorem dX12_comes_1 : decode cX12_comes 1 = .ok (.getfield 9, 3) := by decide +kernel
theorem dX12_comes_4 : decode cX12_comes 4 = .ok (.iload_n 1, 1) := by decide +kernel
theorem dX12_comes_5 : decode cX12_comes 5 = .ok (.iaload, 1) := by decide +kernel
theorem dX12_comes_6 : decode cX12_comes 6 = .ok (.istore_n 3, 1) := by decide +kernel
theorem dX12_comes_7 : decode cX12_comes 7 = .ok (.aload_n 0, 1) := by decide +kernel
theorem dX12_comes_8 : decode cX12_comes 8 = .ok (.getfield 9, 3) := by decide +kernel
theorem dX12_comes_11 : decode cX12_comes 11 = .ok (.iload_n 1, 1) := by decide +kernel
theorem dX12_comes_12 : decode cX12_comes 12 = .ok (.iload_n 2, 1) := by decide +kernel
theorem dX12_comes_13 : decode cX12_comes 13 = .ok (.iastore, 1) := by decide +kernel
theorem dX12_comes_14 : decode cX12_comes 14 = .ok (.iload_n 3, 1) := by decide +kernel
theorem dX12_comes_15 : decode cX12_comes 15 = .ok (.ireturn, 1) := by decide +kernel
def f_X12_comes (S : Sh) (R : Rw)  (I : Iw) (a0 : Nat) (x1 : Int32) (x2 : Int32) : Option (Iw × Int32) := gp (sok S a0 12 34) (rl (R a0 0) (fun b2 => gp (aok S 20 b2 x1) (rl (R a0 0) (fun b4 => gp (aok S 20 b4 x1) (lt (up2 I b4 x1.toNatClampNeg x2) (fun I6 => some (I6, I b2 x1.toNatClampNeg)))))))
set_option maxHeartbeats 4000000 in
theorem b_X12_comes {E : Ev} {p : Program} {l : Launch} {e : Env} {s : State} {m : MethodId} {args : Array Value} {below : List Frame} {meth : Method} {c : Code} (C : Cx E RX12 cX12_comes 4 p s m c) (hr : meth.sig.returnType = (some .int)) (hk : meth.locks = false) {S : Sh} {R : Rw} {r : Iw × Int32}  : ∀ (I : Iw) (a0 : Nat) (x1 : Int32) (x2 : Int32), f_X12_comes S R   I a0 x1 x2 = some r → Wk E 4 p l e ({ frames := 0, cells := 0, slots := 0, locals := 0 } : Room) s m args below meth c 0 0 (MQ below (Qw E S R r.1 (some (.int r.2))) args s 0 0 (fun q => E.1 ≤ q)) 0 [(0, .ref (E.1 + a0)), (1, .int x1), (2, .int x2)] [] S R I := by
  intro I a0 x1 x2 h
  rw [f_X12_comes] at h
  refine k_aloadn (pc := 0) C dX12_comes_0 (i := 0) rfl 0 rfl ?_
  obtain ⟨hs10, h⟩ := gp_e h
  have hs1 := sok_e hs10
  obtain ⟨b2, hb2, h⟩ := rl_e h
  refine k_getR (pc := 1) C lkF_RX12_9_12 hs1 ir_12_0 hb2 dX12_comes_1 ?_
  refine k_iloadn (pc := 4) C dX12_comes_4 (i := 1) rfl 1 rfl ?_
  obtain ⟨ha3, h⟩ := gp_e h
  refine k_iald (pc := 5) C ha3 dX12_comes_5 ?_
  refine k_istoren (pc := 6) C dX12_comes_6 (i := 3) rfl (by decide) (L2 := [(0, .ref (E.1 + a0)), (1, .int x1), (2, .int x2), (3, .int (I b2 x1.toNatClampNeg))]) rfl ?_
  refine k_aloadn (pc := 7) C dX12_comes_7 (i := 0) rfl 0 rfl ?_
  obtain ⟨b4, hb4, h⟩ := rl_e h
  refine k_getR (pc := 8) C lkF_RX12_9_12 hs1 ir_12_0 hb4 dX12_comes_8 ?_
  refine k_iloadn (pc := 11) C dX12_comes_11 (i := 1) rfl 1 rfl ?_
  refine k_iloadn (pc := 12) C dX12_comes_12 (i := 2) rfl 2 rfl ?_
  obtain ⟨ha5, h⟩ := gp_e h
  obtain ⟨I6, eI6, h⟩ := lt_e h
  refine k_iast (pc := 13) C ha5 dX12_comes_13 ?_
  rw [← eI6]
  refine k_iloadn (pc := 14) C dX12_comes_14 (i := 3) rfl 3 rfl ?_
  have h := Option.some.inj h
  subst h
  exact k_iret (pc := 15) C hr hk dX12_comes_15
theorem c_X12_comes {E : Ev} {l : Launch} {S : Sh} {R : Rw} {I : Iw} {a0 : Nat} {x1 : Int32} {x2 : Int32} {r : Iw × Int32} (h : f_X12_comes S R I a0 x1 x2 = some r) : Mt E l yX12_comes cX12_comes 4 (some .int) 0 0 [.ref (E.1 + a0), .int x1, .int x2] S R I S R r.1 (some (.int r.2)) 0 0 := mt_of (by decide) (Nat.le_of_ble_eq_true rfl) (fun p e s m args below meth c C hr hk hn => b_X12_comes C hr hk _ _ _ _ h)
theorem lkF_RX12_16_12 : LkF RX12 16 12 2 := ⟨RX12, TX12, 34, "UnlikeNeighboursModel", fc12, by decide, (t5_in 83 (by decide +kernel) rfl), Or.inl rfl⟩
theorem lkS_RX12_102 : LkS RX12 102 yX12_copy cX12_copy 3 none 2 := ⟨(t7_in 40 (by decide +kernel) rfl), (t7_in 41 (by decide +kernel) rfl), (t7_in 42 (by decide +kernel) rfl), (t1_in 7 (by decide +kernel) rfl), by decide, by decide +kernel⟩
theorem dX12_back_0 : decode cX12_back 0 = .ok (.aload_n 0, 1) := by decide +kernel
theorem dX12_back_1 : decode cX12_back 1 = .ok (.getfield 16, 3) := by decide +kernel
theorem dX12_back_4 : decode cX12_back 4 = .ok (.aload_n 0, 1) := by decide +kernel
theorem dX12_back_5 : decode cX12_back 5 = .ok (.getfield 9, 3) := by decide +kernel
theorem dX12_back_8 : decode cX12_back 8 = .ok (.invokestatic 102, 3) := by decide +kernel
theorem dX12_back_11 : decode cX12_back 11 = .ok (.iload_n 1, 1) := by decide +kernel
theorem dX12_back_12 : decode cX12_back 12 = .ok (.ireturn, 1) := by decide +kernel
def f_X12_back (S : Sh) (R : Rw)  (I : Iw) (a0 : Nat) (x1 : Int32) : Option (Iw × Int32) := gp (sok S a0 12 34) (rl (R a0 2) (fun b2 => rl (R a0 0) (fun b3 => bd (f_X12_copy S R I b2 b3) (fun r4 => some (r4, x1)))))
set_option maxHeartbeats 4000000 in
theorem b_X12_back {E : Ev} {p : Program} {l : Launch} {e : Env} {s : State} {m : MethodId} {args : Array Value} {below : List Frame} {meth : Method} {c : Code} (C : Cx E RX12 cX12_back 2 p s m c) (hr : meth.sig.returnType = (some .int)) (hk : meth.locks = false) {S : Sh} {R : Rw} {r : Iw × Int32}  : ∀ (I : Iw) (a0 : Nat) (x1 : Int32), f_X12_back S R   I a0 x1 = some r → Wk E 2 p l e ({ frames := 1, cells := 0, slots := 0, locals := 22 } : Room) s m args below meth c 0 0 (MQ below (Qw E S R r.1 (some (.int r.2))) args s 0 0 (fun q => E.1 ≤ q)) 0 [(0, .ref (E.1 + a0)), (1, .int x1)] [] S R I := by
  intro I a0 x1 h
  rw [f_X12_back] at h
  refine k_aloadn (pc := 0) C dX12_back_0 (i := 0) rfl 0 rfl ?_
  obtain ⟨hs10, h⟩ := gp_e h
  have hs1 := sok_e hs10
  obtain ⟨b2, hb2, h⟩ := rl_e h
  refine k_getR (pc := 1) C lkF_RX12_16_12 hs1 ir_12_2 hb2 dX12_back_1 ?_
  refine k_aloadn (pc := 4) C dX12_back_4 (i := 0) rfl 0 rfl ?_
  obtain ⟨b3, hb3, h⟩ := rl_e h
  refine k_getR (pc := 5) C lkF_RX12_9_12 hs1 ir_12_0 hb3 dX12_back_5 ?_
  obtain ⟨r4, hr4, h⟩ := bd_e h
  refine k_S (pc := 8) (st := []) C (c_X12_copy hr4) lkS_RX12_102 rfl rfl (Nat.le_of_ble_eq_true rfl) (Nat.le_of_ble_eq_true rfl) (Nat.le_of_ble_eq_true rfl) (Nat.le_of_ble_eq_true rfl) (Nat.le_of_ble_eq_true rfl) dX12_back_8 ?_
  refine k_nf (cells2 := 0) (slots2 := 0) (st2 := []) rfl rfl rfl ?_
  refine k_iloadn (pc := 11) C dX12_back_11 (i := 1) rfl 1 rfl ?_
  have h := Option.some.inj h
  subst h
  exact k_iret (pc := 12) C hr hk dX12_back_12
theorem c_X12_back {E : Ev} {l : Launch} {S : Sh} {R : Rw} {I : Iw} {a0 : Nat} {x1 : Int32} {r : Iw × Int32} (h : f_X12_back S R I a0 x1 = some r) : Mt E l yX12_back cX12_back 2 (some .int) 1 22 [.ref (E.1 + a0), .int x1] S R I S R r.1 (some (.int r.2)) 0 0 := mt_of (by decide) (Nat.le_of_ble_eq_true rfl) (fun p e s m args below meth c C hr hk hn => b_X12_back C hr hk _ _ _ h)
theorem lkF_RX12_106_12 : LkF RX12 106 12 5 := ⟨RX12, TX12, 34, "UnlikeNeighboursModel", fc12, by decide, (t5_in 86 (by decide +kernel) rfl), Or.inl rfl⟩
theorem lkF_RX12_19_12 : LkF RX12 19 12 4 := ⟨RX12, TX12, 34, "UnlikeNeighboursModel", fc12, by decide, (t5_in 85 (by decide +kernel) rfl), Or.inl rfl⟩
theorem lkP_RX12_106_12 : LkP RX12 106 12 5 .int := ⟨RX12, TX12, 34, "UnlikeNeighboursModel", fc12, by decide, (t5_in 86 (by decide +kernel) rfl), Or.inl rfl, rfl, by decide +kernel⟩
theorem dX12_feed_0 : decode cX12_feed 0 = .ok (.iload_n 3, 1) := by decide +kernel
theorem dX12_feed_1 : decode cX12_feed 1 = .ok (.iconst 1, 1) := by decide +kernel
theorem dX12_feed_2 : decode cX12_feed 2 = .ok (.bipush 8, 2) := by decide +kernel
theorem dX12_feed_4 : decode cX12_feed 4 = .ok (.invokestatic 98, 3) := by decide +kernel
theorem dX12_feed_7 : decode cX12_feed 7 = .ok (.ifCond .ne 5, 3) := by decide +kernel
theorem dX12_feed_10 : decode cX12_feed 10 = .ok (.iconst (-1), 1) := by decide +kernel
theorem dX12_feed_11 : decode cX12_feed 11 = .ok (.ireturn, 1) := by decide +kernel
theorem dX12_feed_12 : decode cX12_feed 12 = .ok (.aload_n 0, 1) := by decide +kernel
theorem dX12_feed_13 : decode cX12_feed 13 = .ok (.getfield 106, 3) := by decide +kernel
theorem dX12_feed_16 : decode cX12_feed 16 = .ok (.iload_n 3, 1) := by decide +kernel
theorem dX12_feed_17 : decode cX12_feed 17 = .ok (.iadd, 1) := by decide +kernel
theorem dX12_feed_18 : decode cX12_feed 18 = .ok (.sipush 200, 3) := by decide +kernel
theorem dX12_feed_21 : decode cX12_feed 21 = .ok (.if_icmp .le 6, 3) := by decide +kernel
theorem dX12_feed_24 : decode cX12_feed 24 = .ok (.bipush (-2), 2) := by decide +kernel
theorem dX12_feed_26 : decode cX12_feed 26 = .ok (.ireturn, 1) := by decide +kernel
theorem dX12_feed_27 : decode cX12_feed 27 = .ok (.iconst 0, 1) := by decide +kernel
theorem dX12_feed_28 : decode cX12_feed 28 = .ok (.istore 4, 2) := by decide +kernel
theorem dX12_feed_30 : decode cX12_feed 30 = .ok (.iload 4, 2) := by decide +kernel
theorem dX12_feed_32 : decode cX12_feed 32 = .ok (.iload_n 3, 1) := by decide +kernel
theorem dX12_feed_33 : decode cX12_feed 33 = .ok (.if_icmp .ge 40, 3) := by decide +kernel
theorem dX12_feed_36 : decode cX12_feed 36 = .ok (.aload_n 0, 1) := by decide +kernel
theorem dX12_feed_37 : decode cX12_feed 37 = .ok (.getfield 19, 3) := by decide +kernel
theorem dX12_feed_40 : decode cX12_feed 40 = .ok (.aload_n 0, 1) := by decide +kernel
theorem dX12_feed_41 : decode cX12_feed 41 = .ok (.getfield 106, 3) := by decide +kernel
theorem dX12_feed_44 : decode cX12_feed 44 = .ok (.lload_n 1, 1) := by decide +kernel
theorem dX12_feed_45 : decode cX12_feed 45 = .ok (.bipush 8, 2) := by decide +kernel
theorem dX12_feed_47 : decode cX12_feed 47 = .ok (.iload 4, 2) := by decide +kernel
theorem dX12_feed_49 : decode cX12_feed 49 = .ok (.imul, 1) := by decide +kernel
theorem dX12_feed_50 : decode cX12_feed 50 = .ok (.lshr, 1) := by decide +kernel
theorem dX12_feed_51 : decode cX12_feed 51 = .ok (.ldc2_w 110, 3) := by decide +kernel
theorem dX12_feed_54 : decode cX12_feed 54 = .ok (.land, 1) := by decide +kernel
theorem dX12_feed_55 : decode cX12_feed 55 = .ok (.l2i, 1) := by decide +kernel
theorem dX12_feed_56 : decode cX12_feed 56 = .ok (.iastore, 1) := by decide +kernel
theorem dX12_feed_57 : decode cX12_feed 57 = .ok (.aload_n 0, 1) := by decide +kernel
theorem dX12_feed_58 : decode cX12_feed 58 = .ok (.dup, 1) := by decide +kernel
theorem dX12_feed_59 : decode cX12_feed 59 = .ok (.getfield 106, 3) := by decide +kernel
theorem dX12_feed_62 : decode cX12_feed 62 = .ok (.iconst 1, 1) := by decide +kernel
theorem dX12_feed_63 : decode cX12_feed 63 = .ok (.iadd, 1) := by decide +kernel
theorem dX12_feed_64 : decode cX12_feed 64 = .ok (.putfield 106, 3) := by decide +kernel
theorem dX12_feed_67 : decode cX12_feed 67 = .ok (.iinc 4 1, 3) := by decide +kernel
theorem dX12_feed_70 : decode cX12_feed 70 = .ok (.goto (-40), 3) := by decide +kernel
theorem dX12_feed_73 : decode cX12_feed 73 = .ok (.aload_n 0, 1) := by decide +kernel
theorem dX12_feed_74 : decode cX12_feed 74 = .ok (.getfield 106, 3) := by decide +kernel
theorem dX12_feed_77 : decode cX12_feed 77 = .ok (.ireturn, 1) := by decide +kernel
def f_X12_feed_30 (S : Sh) (R : Rw)  : Nat → Iw → Nat → Int64 → Int32 → Int32 → Option (Iw × Int32)
  | 0, _, _, _, _, _ => none
  | n + 1, I, a0, x1, x3, x4 => (if x3 ≤ x4 then gp (sok S a0 12 34) (some (I, I a0 5)) else gp (sok S a0 12 34) (rl (R a0 4) (fun b8 => gp (aok S 20 b8 (I a0 5)) (lt (up2 I b8 (I a0 5).toNatClampNeg (((x1 >>> (((8 : Int32) * x4).toInt64 &&& 63)) &&& (255 : Int64)).toInt32)) (fun I10 => lt (up2 I10 a0 5 ((I10 a0 5) + (1 : Int32))) (fun I11 => f_X12_feed_30 S R  n I11 a0 x1 x3 (x4 + (1 : Int32))))))))
set_option maxHeartbeats 4000000 in
theorem b_X12_feed_30 {E : Ev} {p : Program} {l : Launch} {e : Env} {s : State} {m : MethodId} {args : Array Value} {below : List Frame} {meth : Method} {c : Code} (C : Cx E RX12 cX12_feed 5 p s m c) (hr : meth.sig.returnType = (some .int)) (hk : meth.locks = false) {S : Sh} {R : Rw} {r : Iw × Int32}  : ∀ (n : Nat) (I : Iw) (a0 : Nat) (x1 : Int64) (x3 : Int32) (x4 : Int32), f_X12_feed_30 S R  n I a0 x1 x3 x4 = some r → Wk E 5 p l e ({ frames := 1, cells := 0, slots := 0, locals := 22 } : Room) s m args below meth c 0 0 (MQ below (Qw E S R r.1 (some (.int r.2))) args s 0 0 (fun q => E.1 ≤ q)) 30 [(0, .ref (E.1 + a0)), (1, .long x1), (3, .int x3), (4, .int x4)] [] S R I := by
  intro n
  induction n with
  | zero =>
    intro I a0 x1 x3 x4 h
    rw [f_X12_feed_30] at h
    cases h
  | succ n ih =>
    intro I a0 x1 x3 x4 h
    rw [f_X12_feed_30] at h
    refine k_iload (pc := 30) C dX12_feed_30 3 rfl ?_
    refine k_iloadn (pc := 32) C dX12_feed_32 (i := 3) rfl 2 rfl ?_
    refine k_icmp_ge (pc := 33) C dX12_feed_33 (tgt := 73) (by decide) (fun hc5 => ?_) (fun hc5 => ?_)
    · rw [if_pos hc5] at h
      refine k_aloadn (pc := 73) C dX12_feed_73 (i := 0) rfl 0 rfl ?_
      obtain ⟨hs60, h⟩ := gp_e h
      have hs6 := sok_e hs60
      refine k_getI (pc := 74) C lkF_RX12_106_12 hs6 ir_12_5 dX12_feed_74 ?_
      have h := Option.some.inj h
      subst h
      exact k_iret (pc := 77) C hr hk dX12_feed_77
    · rw [if_neg hc5] at h
      refine k_aloadn (pc := 36) C dX12_feed_36 (i := 0) rfl 0 rfl ?_
      obtain ⟨hs70, h⟩ := gp_e h
      have hs7 := sok_e hs70
      obtain ⟨b8, hb8, h⟩ := rl_e h
      refine k_getR (pc := 37) C lkF_RX12_19_12 hs7 ir_12_4 hb8 dX12_feed_37 ?_
      refine k_aloadn (pc := 40) C dX12_feed_40 (i := 0) rfl 0 rfl ?_
      refine k_getI (pc := 41) C lkF_RX12_106_12 hs7 ir_12_5 dX12_feed_41 ?_
      refine k_lloadn (pc := 44) C dX12_feed_44 (i := 1) rfl 1 rfl ?_
      refine k_bipush (pc := 45) C (v := (8 : Int32)) dX12_feed_45 (by decide) ?_
      refine k_iload (pc := 47) C dX12_feed_47 3 rfl ?_
      refine k_imul (pc := 49) C dX12_feed_49 ?_
      refine k_lshr (pc := 50) C dX12_feed_50 ?_
      refine k_ldc2 (pc := 51) C (v := (255 : Int64)) dX12_feed_51 (t5_in 191 (by decide +kernel) rfl) ?_
      refine k_land (pc := 54) C dX12_feed_54 ?_
      refine k_l2i (pc := 55) C dX12_feed_55 ?_
      obtain ⟨ha9, h⟩ := gp_e h
      obtain ⟨I10, eI10, h⟩ := lt_e h
      refine k_iast (pc := 56) C ha9 dX12_feed_56 ?_
      rw [← eI10]
      refine k_aloadn (pc := 57) C dX12_feed_57 (i := 0) rfl 0 rfl ?_
      refine k_dup (pc := 58) C dX12_feed_58 rfl ?_
      refine k_getI (pc := 59) C lkF_RX12_106_12 hs7 ir_12_5 dX12_feed_59 ?_
      refine k_iconst (pc := 62) C (v := (1 : Int32)) dX12_feed_62 (by decide) ?_
      refine k_iadd (pc := 63) C dX12_feed_63 ?_
      obtain ⟨I11, eI11, h⟩ := lt_e h
      refine k_putI (pc := 64) C lkP_RX12_106_12 hs7 ir_12_5 dX12_feed_64 ?_
      rw [← eI11]
      refine k_iinc (pc := 67) C dX12_feed_67 3 rfl (v := x4 + (1 : Int32)) (by rfl) (by decide) (L2 := [(0, .ref (E.1 + a0)), (1, .long x1), (3, .int x3), (4, .int (x4 + (1 : Int32)))]) rfl ?_
      refine k_goto (pc := 70) C dX12_feed_70 (tgt := 30) (by decide) ?_
      exact ih _ _ _ _ _ h
def f_X12_feed (S : Sh) (R : Rw)  (I : Iw) (a0 : Nat) (x1 : Int64) (x3 : Int32) : Option (Iw × Int32) := bd (f_X12_in S R I x3 (1 : Int32) (8 : Int32)) (fun r1 => (if r1 = 0 then some (I, (-1 : Int32)) else gp (sok S a0 12 34) ((if ((I a0 5) + x3) ≤ (200 : Int32) then f_X12_feed_30 S R  512 I a0 x1 x3 (0 : Int32) else some (I, (-2 : Int32))))))
set_option maxHeartbeats 4000000 in
theorem b_X12_feed {E : Ev} {p : Program} {l : Launch} {e : Env} {s : State} {m : MethodId} {args : Array Value} {below : List Frame} {meth : Method} {c : Code} (C : Cx E RX12 cX12_feed 5 p s m c) (hr : meth.sig.returnType = (some .int)) (hk : meth.locks = false) {S : Sh} {R : Rw} {r : Iw × Int32}  : ∀ (I : Iw) (a0 : Nat) (x1 : Int64) (x3 : Int32), f_X12_feed S R   I a0 x1 x3 = some r → Wk E 5 p l e ({ frames := 1, cells := 0, slots := 0, locals := 22 } : Room) s m args below meth c 0 0 (MQ below (Qw E S R r.1 (some (.int r.2))) args s 0 0 (fun q => E.1 ≤ q)) 0 [(0, .ref (E.1 + a0)), (1, .long x1), (3, .int x3)] [] S R I := by
  intro I a0 x1 x3 h
  rw [f_X12_feed] at h
  refine k_iloadn (pc := 0) C dX12_feed_0 (i := 3) rfl 2 rfl ?_
  refine k_iconst (pc := 1) C (v := (1 : Int32)) dX12_feed_1 (by decide) ?_
  refine k_bipush (pc := 2) C (v := (8 : Int32)) dX12_feed_2 (by decide) ?_
  obtain ⟨r1, hr1, h⟩ := bd_e h
  refine k_S (pc := 4) (st := []) C (c_X12_in hr1) lkS_RX12_98 rfl rfl (Nat.le_of_ble_eq_true rfl) (Nat.le_of_ble_eq_true rfl) (Nat.le_of_ble_eq_true rfl) (Nat.le_of_ble_eq_true rfl) (Nat.le_of_ble_eq_true rfl) dX12_feed_4 ?_
  refine k_nf (cells2 := 0) (slots2 := 0) (st2 := [.int r1]) rfl rfl rfl ?_
  refine k_if_ne (pc := 7) C dX12_feed_7 (tgt := 12) (by decide) (fun hc2 => ?_) (fun hc2 => ?_)
  · rw [if_neg hc2] at h
    refine k_aloadn (pc := 12) C dX12_feed_12 (i := 0) rfl 0 rfl ?_
    obtain ⟨hs30, h⟩ := gp_e h
    have hs3 := sok_e hs30
    refine k_getI (pc := 13) C lkF_RX12_106_12 hs3 ir_12_5 dX12_feed_13 ?_
    refine k_iloadn (pc := 16) C dX12_feed_16 (i := 3) rfl 2 rfl ?_
    refine k_iadd (pc := 17) C dX12_feed_17 ?_
    refine k_sipush (pc := 18) C (v := (200 : Int32)) dX12_feed_18 (by decide) ?_
    refine k_icmp_le (pc := 21) C dX12_feed_21 (tgt := 27) (by decide) (fun hc4 => ?_) (fun hc4 => ?_)
    · rw [if_pos hc4] at h
      refine k_iconst (pc := 27) C (v := (0 : Int32)) dX12_feed_27 (by decide) ?_
      refine k_istore (pc := 28) C dX12_feed_28 (by decide) (L2 := [(0, .ref (E.1 + a0)), (1, .long x1), (3, .int x3), (4, .int (0 : Int32))]) rfl ?_
      exact b_X12_feed_30 C hr hk  _ _ _ _ _ _ h
    · rw [if_neg hc4] at h
      refine k_bipush (pc := 24) C (v := (-2 : Int32)) dX12_feed_24 (by decide) ?_
      have h := Option.some.inj h
      subst h
      exact k_iret (pc := 26) C hr hk dX12_feed_26
  · rw [if_pos hc2] at h
    refine k_iconst (pc := 10) C (v := (-1 : Int32)) dX12_feed_10 (by decide) ?_
    have h := Option.some.inj h
    subst h
    exact k_iret (pc := 11) C hr hk dX12_feed_11
theorem c_X12_feed {E : Ev} {l : Launch} {S : Sh} {R : Rw} {I : Iw} {a0 : Nat} {x1 : Int64} {x3 : Int32} {r : Iw × Int32} (h : f_X12_feed S R I a0 x1 x3 = some r) : Mt E l yX12_feed cX12_feed 5 (some .int) 1 22 [.ref (E.1 + a0), .long x1, .int x3] S R I S R r.1 (some (.int r.2)) 0 0 := mt_of (by decide) (Nat.le_of_ble_eq_true rfl) (fun p e s m args below meth c C hr hk hn => b_X12_feed C hr hk _ _ _ _ h)
theorem dX12_isLetter_0 : decode cX12_isLetter 0 = .ok (.iload_n 0, 1) := by decide +kernel
theorem dX12_isLetter_1 : decode cX12_isLetter 1 = .ok (.bipush 97, 2) := by decide +kernel
theorem dX12_isLetter_3 : decode cX12_isLetter 3 = .ok (.bipush 122, 2) := by decide +kernel
theorem dX12_isLetter_5 : decode cX12_isLetter 5 = .ok (.invokestatic 98, 3) := by decide +kernel
theorem dX12_isLetter_8 : decode cX12_isLetter 8 = .ok (.ireturn, 1) := by decide +kernel
def f_X12_isLetter (S : Sh) (R : Rw) (I : Iw)  (x0 : Int32) : Option (Int32) := bd (f_X12_in S R I x0 (97 : Int32) (122 : Int32)) (fun r1 => gp (zok r1) (some r1))
set_option maxHeartbeats 4000000 in
theorem b_X12_isLetter {E : Ev} {p : Program} {l : Launch} {e : Env} {s : State} {m : MethodId} {args : Array Value} {below : List Frame} {meth : Method} {c : Code} (C : Cx E RX12 cX12_isLetter 1 p s m c) (hr : meth.sig.returnType = (some .boolean)) (hk : meth.locks = false) {S : Sh} {R : Rw} {I : Iw} {r : Int32}  : ∀ (x0 : Int32), f_X12_isLetter S R I   x0 = some r → Wk E 1 p l e ({ frames := 1, cells := 0, slots := 0, locals := 22 } : Room) s m args below meth c 0 0 (MQ below (Qw E S R I (some (.int r))) args s 0 0 (fun q => E.1 ≤ q)) 0 [(0, .int x0)] [] S R I := by
  intro x0 h
  rw [f_X12_isLetter] at h
  refine k_iloadn (pc := 0) C dX12_isLetter_0 (i := 0) rfl 0 rfl ?_
  refine k_bipush (pc := 1) C (v := (97 : Int32)) dX12_isLetter_1 (by decide) ?_
  refine k_bipush (pc := 3) C (v := (122 : Int32)) dX12_isLetter_3 (by decide) ?_
  obtain ⟨r1, hr1, h⟩ := bd_e h
  refine k_S (pc := 5) (st := []) C (c_X12_in hr1) lkS_RX12_98 rfl rfl (Nat.le_of_ble_eq_true rfl) (Nat.le_of_ble_eq_true rfl) (Nat.le_of_ble_eq_true rfl) (Nat.le_of_ble_eq_true rfl) (Nat.le_of_ble_eq_true rfl) dX12_isLetter_5 ?_
  refine k_nf (cells2 := 0) (slots2 := 0) (st2 := [.int r1]) rfl rfl rfl ?_
  obtain ⟨hz2, h⟩ := gp_e h
  have h := Option.some.inj h
  subst h
  exact k_zret (pc := 8) C hr hk (of_decide_eq_true hz2) dX12_isLetter_8
theorem c_X12_isLetter {E : Ev} {l : Launch} {S : Sh} {R : Rw} {I : Iw} {x0 : Int32} {r : Int32} (h : f_X12_isLetter S R I x0 = some r) : Mt E l yX12_isLetter cX12_isLetter 1 (some .boolean) 1 22 [.int x0] S R I S R I (some (.int r)) 0 0 := mt_of (by decide) (Nat.le_of_ble_eq_true rfl) (fun p e s m args below meth c C hr hk hn => b_X12_isLetter C hr hk _ h)
theorem dX12_isDigit_0 : decode cX12_isDigit 0 = .ok (.iload_n 0, 1) := by decide +kernel
theorem dX12_isDigit_1 : decode cX12_isDigit 1 = .ok (.bipush 48, 2) := by decide +kernel
theorem dX12_isDigit_3 : decode cX12_isDigit 3 = .ok (.bipush 57, 2) := by decide +kernel
theorem dX12_isDigit_5 : decode cX12_isDigit 5 = .ok (.invokestatic 98, 3) := by decide +kernel
theorem dX12_isDigit_8 : decode cX12_isDigit 8 = .ok (.ireturn, 1) := by decide +kernel
def f_X12_isDigit (S : Sh) (R : Rw) (I : Iw)  (x0 : Int32) : Option (Int32) := bd (f_X12_in S R I x0 (48 : Int32) (57 : Int32)) (fun r1 => gp (zok r1) (some r1))
set_option maxHeartbeats 4000000 in
theorem b_X12_isDigit {E : Ev} {p : Program} {l : Launch} {e : Env} {s : State} {m : MethodId} {args : Array Value} {below : List Frame} {meth : Method} {c : Code} (C : Cx E RX12 cX12_isDigit 1 p s m c) (hr : meth.sig.returnType = (some .boolean)) (hk : meth.locks = false) {S : Sh} {R : Rw} {I : Iw} {r : Int32}  : ∀ (x0 : Int32), f_X12_isDigit S R I   x0 = some r → Wk E 1 p l e ({ frames := 1, cells := 0, slots := 0, locals := 22 } : Room) s m args below meth c 0 0 (MQ below (Qw E S R I (some (.int r))) args s 0 0 (fun q => E.1 ≤ q)) 0 [(0, .int x0)] [] S R I := by
  intro x0 h
  rw [f_X12_isDigit] at h
  refine k_iloadn (pc := 0) C dX12_isDigit_0 (i := 0) rfl 0 rfl ?_
  refine k_bipush (pc := 1) C (v := (48 : Int32)) dX12_isDigit_1 (by decide) ?_
  refine k_bipush (pc := 3) C (v := (57 : Int32)) dX12_isDigit_3 (by decide) ?_
  obtain ⟨r1, hr1, h⟩ := bd_e h
  refine k_S (pc := 5) (st := []) C (c_X12_in hr1) lkS_RX12_98 rfl rfl (Nat.le_of_ble_eq_true rfl) (Nat.le_of_ble_eq_true rfl) (Nat.le_of_ble_eq_true rfl) (Nat.le_of_ble_eq_true rfl) (Nat.le_of_ble_eq_true rfl) dX12_isDigit_5 ?_
  refine k_nf (cells2 := 0) (slots2 := 0) (st2 := [.int r1]) rfl rfl rfl ?_
  obtain ⟨hz2, h⟩ := gp_e h
  have h := Option.some.inj h
  subst h
  exact k_zret (pc := 8) C hr hk (of_decide_eq_true hz2) dX12_isDigit_8
theorem c_X12_isDigit {E : Ev} {l : Launch} {S : Sh} {R : Rw} {I : Iw} {x0 : Int32} {r : Int32} (h : f_X12_isDigit S R I x0 = some r) : Mt E l yX12_isDigit cX12_isDigit 1 (some .boolean) 1 22 [.int x0] S R I S R I (some (.int r)) 0 0 := mt_of (by decide) (Nat.le_of_ble_eq_true rfl) (fun p e s m args below meth c C hr hk hn => b_X12_isDigit C hr hk _ h)
theorem dX12_byteAt_0 : decode cX12_byteAt 0 = .ok (.iload_n 1, 1) := by decide +kernel
theorem dX12_byteAt_1 : decode cX12_byteAt 1 = .ok (.aload_n 0, 1) := by decide +kernel
theorem dX12_byteAt_2 : decode cX12_byteAt 2 = .ok (.getfield 106, 3) := by decide +kernel
theorem dX12_byteAt_5 : decode cX12_byteAt 5 = .ok (.if_icmp .ge 12, 3) := by decide +kernel
theorem dX12_byteAt_8 : decode cX12_byteAt 8 = .ok (.aload_n 0, 1) := by decide +kernel
theorem dX12_byteAt_9 : decode cX12_byteAt 9 = .ok (.getfield 19, 3) := by decide +kernel
theorem dX12_byteAt_12 : decode cX12_byteAt 12 = .ok (.iload_n 1, 1) := by decide +kernel
theorem dX12_byteAt_13 : decode cX12_byteAt 13 = .ok (.iaload, 1) := by decide +kernel
theorem dX12_byteAt_14 : decode cX12_byteAt 14 = .ok (.goto 4, 3) := by decide +kernel
theorem dX12_byteAt_17 : decode cX12_byteAt 17 = .ok (.iconst (-1), 1) := by decide +kernel
theorem dX12_byteAt_18 : decode cX12_byteAt 18 = .ok (.ireturn, 1) := by decide +kernel
def f_X12_byteAt (S : Sh) (R : Rw) (I : Iw)  (a0 : Nat) (x1 : Int32) : Option (Int32) := gp (sok S a0 12 34) ((if (I a0 5) ≤ x1 then some (-1 : Int32) else rl (R a0 4) (fun b3 => gp (aok S 20 b3 x1) (some (I b3 x1.toNatClampNeg)))))
set_option maxHeartbeats 4000000 in
theorem b_X12_byteAt {E : Ev} {p : Program} {l : Launch} {e : Env} {s : State} {m : MethodId} {args : Array Value} {below : List Frame} {meth : Method} {c : Code} (C : Cx E RX12 cX12_byteAt 2 p s m c) (hr : meth.sig.returnType = (some .int)) (hk : meth.locks = false) {S : Sh} {R : Rw} {I : Iw} {r : Int32}  : ∀ (a0 : Nat) (x1 : Int32), f_X12_byteAt S R I   a0 x1 = some r → Wk E 2 p l e ({ frames := 0, cells := 0, slots := 0, locals := 0 } : Room) s m args below meth c 0 0 (MQ below (Qw E S R I (some (.int r))) args s 0 0 (fun q => E.1 ≤ q)) 0 [(0, .ref (E.1 + a0)), (1, .int x1)] [] S R I := by
  intro a0 x1 h
  rw [f_X12_byteAt] at h
  refine k_iloadn (pc := 0) C dX12_byteAt_0 (i := 1) rfl 1 rfl ?_
  refine k_aloadn (pc := 1) C dX12_byteAt_1 (i := 0) rfl 0 rfl ?_
  obtain ⟨hs10, h⟩ := gp_e h
  have hs1 := sok_e hs10
  refine k_getI (pc := 2) C lkF_RX12_106_12 hs1 ir_12_5 dX12_byteAt_2 ?_
  refine k_icmp_ge (pc := 5) C dX12_byteAt_5 (tgt := 17) (by decide) (fun hc2 => ?_) (fun hc2 => ?_)
  · rw [if_pos hc2] at h
    refine k_iconst (pc := 17) C (v := (-1 : Int32)) dX12_byteAt_17 (by decide) ?_
    have h := Option.some.inj h
    subst h
    exact k_iret (pc := 18) C hr hk dX12_byteAt_18
  · rw [if_neg hc2] at h
    refine k_aloadn (pc := 8) C dX12_byteAt_8 (i := 0) rfl 0 rfl ?_
    obtain ⟨b3, hb3, h⟩ := rl_e h
    refine k_getR (pc := 9) C lkF_RX12_19_12 hs1 ir_12_4 hb3 dX12_byteAt_9 ?_
    refine k_iloadn (pc := 12) C dX12_byteAt_12 (i := 1) rfl 1 rfl ?_
    obtain ⟨ha4, h⟩ := gp_e h
    refine k_iald (pc := 13) C ha4 dX12_byteAt_13 ?_
    refine k_goto (pc := 14) C dX12_byteAt_14 (tgt := 18) (by decide) ?_
    have h := Option.some.inj h
    subst h
    exact k_iret (pc := 18) C hr hk dX12_byteAt_18
theorem c_X12_byteAt {E : Ev} {l : Launch} {S : Sh} {R : Rw} {I : Iw} {a0 : Nat} {x1 : Int32} {r : Int32} (h : f_X12_byteAt S R I a0 x1 = some r) : Mt E l yX12_byteAt cX12_byteAt 2 (some .int) 0 0 [.ref (E.1 + a0), .int x1] S R I S R I (some (.int r)) 0 0 := mt_of (by decide) (Nat.le_of_ble_eq_true rfl) (fun p e s m args below meth c C hr hk hn => b_X12_byteAt C hr hk _ _ h)
theorem lkF_RX12_112_12 : LkF RX12 112 12 7 := ⟨RX12, TX12, 34, "UnlikeNeighboursModel", fc12, by decide, (t5_in 88 (by decide +kernel) rfl), Or.inl rfl⟩
theorem lkP_RX12_115_12 : LkP RX12 115 12 6 .int := ⟨RX12, TX12, 34, "UnlikeNeighboursModel", fc12, by decide, (t5_in 87 (by decide +kernel) rfl), Or.inl rfl, rfl, by decide +kernel⟩
theorem lkF_RX12_115_12 : LkF RX12 115 12 6 := ⟨RX12, TX12, 34, "UnlikeNeighboursModel", fc12, by decide, (t5_in 87 (by decide +kernel) rfl), Or.inl rfl⟩
theorem lkV_RX12_118 : LkV RX12 118 RX12 yX12_byteAt cX12_byteAt 2 (some .int) 1 := ⟨(t5_in 200 (by decide +kernel) rfl), (t5_in 202 (by decide +kernel) rfl), (t0_in 29 (by decide +kernel) rfl), (t5_in 203 (by decide +kernel) rfl), (t1_in 7 (by decide +kernel) rfl), by decide, by decide +kernel⟩
theorem lkP_RX12_112_12 : LkP RX12 112 12 7 .int := ⟨RX12, TX12, 34, "UnlikeNeighboursModel", fc12, by decide, (t5_in 88 (by decide +kernel) rfl), Or.inl rfl, rfl, by decide +kernel⟩
theorem lkS_RX12_125 : LkS RX12 125 yX12_isLetter cX12_isLetter 1 (some .boolean) 1 := ⟨(t5_in 204 (by decide +kernel) rfl), (t5_in 205 (by decide +kernel) rfl), (t5_in 206 (by decide +kernel) rfl), (t1_in 7 (by decide +kernel) rfl), by decide, by decide +kernel⟩
theorem lkS_RX12_129 : LkS RX12 129 yX12_isDigit cX12_isDigit 1 (some .boolean) 1 := ⟨(t5_in 207 (by decide +kernel) rfl), (t5_in 208 (by decide +kernel) rfl), (t5_in 209 (by decide +kernel) rfl), (t1_in 7 (by decide +kernel) rfl), by decide, by decide +kernel⟩
theorem lkP_RX12_122_12 : LkP RX12 122 12 8 .int := ⟨RX12, TX12, 34, "UnlikeNeighboursModel", fc12, by decide, (t5_in 89 (by decide +kernel) rfl), Or.inl rfl, rfl, by decide +kernel⟩
theorem dX12_next_0 : decode cX12_next 0 = .ok (.aload_n 0, 1) := by decide +kernel
theorem dX12_next_1 : decode cX12_next 1 = .ok (.aload_n 0, 1) := by decide +kernel
theorem dX12_next_2 : decode cX12_next 2 = .ok (.getfield 112, 3) := by decide +kernel
theorem dX12_next_5 : decode cX12_next 5 = .ok (.putfield 115, 3) := by decide +kernel
theorem dX12_next_8 : decode cX12_next 8 = .ok (.aload_n 0, 1) := by decide +kernel
theorem dX12_next_9 : decode cX12_next 9 = .ok (.aload_n 0, 1) := by decide +kernel
theorem dX12_next_10 : decode cX12_next 10 = .ok (.getfield 115, 3) := by decide +kernel
theorem dX12_next_13 : decode cX12_next 13 = .ok (.invokevirtual 118, 3) := by decide +kernel
theorem dX12_next_16 : decode cX12_next 16 = .ok (.bipush 32, 2) := by decide +kernel
theorem dX12_next_18 : decode cX12_next 18 = .ok (.if_icmp .ne 16, 3) := by decide +kernel
theorem dX12_next_21 : decode cX12_next 21 = .ok (.aload_n 0, 1) := by decide +kernel
theorem dX12_next_22 : decode cX12_next 22 = .ok (.dup, 1) := by decide +kernel
theorem dX12_next_23 : decode cX12_next 23 = .ok (.getfield 115, 3) := by decide +kernel
theorem dX12_next_26 : decode cX12_next 26 = .ok (.iconst 1, 1) := by decide +kernel
theorem dX12_next_27 : decode cX12_next 27 = .ok (.iadd, 1) := by decide +kernel
theorem dX12_next_28 : decode cX12_next 28 = .ok (.putfield 115, 3) := by decide +kernel
theorem dX12_next_31 : decode cX12_next 31 = .ok (.goto (-23), 3) := by decide +kernel
theorem dX12_next_34 : decode cX12_next 34 = .ok (.aload_n 0, 1) := by decide +kernel
theorem dX12_next_35 : decode cX12_next 35 = .ok (.aload_n 0, 1) := by decide +kernel
theorem dX12_next_36 : decode cX12_next 36 = .ok (.getfield 115, 3) := by decide +kernel
theorem dX12_next_39 : decode cX12_next 39 = .ok (.invokevirtual 118, 3) := by decide +kernel
theorem dX12_next_42 : decode cX12_next 42 = .ok (.istore_n 1, 1) := by decide +kernel
theorem dX12_next_43 : decode cX12_next 43 = .ok (.aload_n 0, 1) := by decide +kernel
theorem dX12_next_44 : decode cX12_next 44 = .ok (.aload_n 0, 1) := by decide +kernel
theorem dX12_next_45 : decode cX12_next 45 = .ok (.getfield 115, 3) := by decide +kernel
theorem dX12_next_48 : decode cX12_next 48 = .ok (.putfield 112, 3) := by decide +kernel
theorem dX12_next_51 : decode cX12_next 51 = .ok (.iload_n 1, 1) := by decide +kernel
theorem dX12_next_52 : decode cX12_next 52 = .ok (.ifCond .ge 11, 3) := by decide +kernel
theorem dX12_next_55 : decode cX12_next 55 = .ok (.aload_n 0, 1) := by decide +kernel
theorem dX12_next_56 : decode cX12_next 56 = .ok (.iconst 0, 1) := by decide +kernel
theorem dX12_next_57 : decode cX12_next 57 = .ok (.putfield 122, 3) := by decide +kernel
theorem dX12_next_60 : decode cX12_next 60 = .ok (.goto 96, 3) := by decide +kernel
theorem dX12_next_63 : decode cX12_next 63 = .ok (.iload_n 1, 1) := by decide +kernel
theorem dX12_next_64 : decode cX12_next 64 = .ok (.invokestatic 125, 3) := by decide +kernel
theorem dX12_next_67 : decode cX12_next 67 = .ok (.ifCond .eq 35, 3) := by decide +kernel
theorem dX12_next_70 : decode cX12_next 70 = .ok (.aload_n 0, 1) := by decide +kernel
theorem dX12_next_71 : decode cX12_next 71 = .ok (.iconst 1, 1) := by decide +kernel
theorem dX12_next_72 : decode cX12_next 72 = .ok (.putfield 122, 3) := by decide +kernel
theorem dX12_next_75 : decode cX12_next 75 = .ok (.aload_n 0, 1) := by decide +kernel
theorem dX12_next_76 : decode cX12_next 76 = .ok (.aload_n 0, 1) := by decide +kernel
theorem dX12_next_77 : decode cX12_next 77 = .ok (.getfield 112, 3) := by decide +kernel
theorem dX12_next_80 : decode cX12_next 80 = .ok (.invokevirtual 118, 3) := by decide +kernel
theorem dX12_next_83 : decode cX12_next 83 = .ok (.invokestatic 125, 3) := by decide +kernel
theorem dX12_next_86 : decode cX12_next 86 = .ok (.ifCond .eq 70, 3) := by decide +kernel
theorem dX12_next_89 : decode cX12_next 89 = .ok (.aload_n 0, 1) := by decide +kernel
theorem dX12_next_90 : decode cX12_next 90 = .ok (.dup, 1) := by decide +kernel
theorem dX12_next_91 : decode cX12_next 91 = .ok (.getfield 112, 3) := by decide +kernel
theorem dX12_next_94 : decode cX12_next 94 = .ok (.iconst 1, 1) := by decide +kernel
theorem dX12_next_95 : decode cX12_next 95 = .ok (.iadd, 1) := by decide +kernel
theorem dX12_next_96 : decode cX12_next 96 = .ok (.putfield 112, 3) := by decide +kernel
theorem dX12_next_99 : decode cX12_next 99 = .ok (.goto (-24), 3) := by decide +kernel
theorem dX12_next_102 : decode cX12_next 102 = .ok (.iload_n 1, 1) := by decide +kernel
theorem dX12_next_103 : decode cX12_next 103 = .ok (.invokestatic 129, 3) := by decide +kernel
theorem dX12_next_106 : decode cX12_next 106 = .ok (.ifCond .eq 35, 3) := by decide +kernel
theorem dX12_next_109 : decode cX12_next 109 = .ok (.aload_n 0, 1) := by decide +kernel
theorem dX12_next_110 : decode cX12_next 110 = .ok (.iconst 2, 1) := by decide +kernel
theorem dX12_next_111 : decode cX12_next 111 = .ok (.putfield 122, 3) := by decide +kernel
theorem dX12_next_114 : decode cX12_next 114 = .ok (.aload_n 0, 1) := by decide +kernel
theorem dX12_next_115 : decode cX12_next 115 = .ok (.aload_n 0, 1) := by decide +kernel
theorem dX12_next_116 : decode cX12_next 116 = .ok (.getfield 112, 3) := by decide +kernel
theorem dX12_next_119 : decode cX12_next 119 = .ok (.invokevirtual 118, 3) := by decide +kernel
theorem dX12_next_122 : decode cX12_next 122 = .ok (.invokestatic 129, 3) := by decide +kernel
theorem dX12_next_125 : decode cX12_next 125 = .ok (.ifCond .eq 31, 3) := by decide +kernel
theorem dX12_next_128 : decode cX12_next 128 = .ok (.aload_n 0, 1) := by decide +kernel
theorem dX12_next_129 : decode cX12_next 129 = .ok (.dup, 1) := by decide +kernel
theorem dX12_next_130 : decode cX12_next 130 = .ok (.getfield 112, 3) := by decide +kernel
theorem dX12_next_133 : decode cX12_next 133 = .ok (.iconst 1, 1) := by decide +kernel
theorem dX12_next_134 : decode cX12_next 134 = .ok (.iadd, 1) := by decide +kernel
theorem dX12_next_135 : decode cX12_next 135 = .ok (.putfield 112, 3) := by decide +kernel
theorem dX12_next_138 : decode cX12_next 138 = .ok (.goto (-24), 3) := by decide +kernel
theorem dX12_next_141 : decode cX12_next 141 = .ok (.aload_n 0, 1) := by decide +kernel
theorem dX12_next_142 : decode cX12_next 142 = .ok (.iconst 3, 1) := by decide +kernel
theorem dX12_next_143 : decode cX12_next 143 = .ok (.putfield 122, 3) := by decide +kernel
theorem dX12_next_146 : decode cX12_next 146 = .ok (.aload_n 0, 1) := by decide +kernel
theorem dX12_next_147 : decode cX12_next 147 = .ok (.dup, 1) := by decide +kernel
theorem dX12_next_148 : decode cX12_next 148 = .ok (.getfield 112, 3) := by decide +kernel
theorem dX12_next_151 : decode cX12_next 151 = .ok (.iconst 1, 1) := by decide +kernel
theorem dX12_next_152 : decode cX12_next 152 = .ok (.iadd, 1) := by decide +kernel
theorem dX12_next_153 : decode cX12_next 153 = .ok (.putfield 112, 3) := by decide +kernel
theorem dX12_next_156 : decode cX12_next 156 = .ok (.return_, 1) := by decide +kernel
def f_X12_next_114 (S : Sh) (R : Rw)  : Nat → Iw → Nat → Option (Iw)
  | 0, _, _ => none
  | n + 1, I, a0 => gp (sok S a0 12 34) (bd (f_X12_byteAt S R I a0 (I a0 7)) (fun r17 => bd (f_X12_isDigit S R I r17) (fun r18 => (if r18 = 0 then some I else lt (up2 I a0 7 ((I a0 7) + (1 : Int32))) (fun I20 => f_X12_next_114 S R  n I20 a0)))))
set_option maxHeartbeats 4000000 in
theorem b_X12_next_114 {E : Ev} {p : Program} {l : Launch} {e : Env} {s : State} {m : MethodId} {args : Array Value} {below : List Frame} {meth : Method} {c : Code} (C : Cx E RX12 cX12_next 2 p s m c) (hr : meth.sig.returnType = none) (hk : meth.locks = false) {S : Sh} {R : Rw} {r : Iw}  : ∀ (n : Nat) (I : Iw) (a0 : Nat), f_X12_next_114 S R  n I a0 = some r → Wk E 2 p l e ({ frames := 2, cells := 0, slots := 0, locals := 42 } : Room) s m args below meth c 0 0 (MQ below (Qw E S R r none) args s 0 0 (fun q => E.1 ≤ q)) 114 [(0, .ref (E.1 + a0))] [] S R I := by
  intro n
  induction n with
  | zero =>
    intro I a0 h
    rw [f_X12_next_114] at h
    cases h
  | succ n ih =>
    intro I a0 h
    rw [f_X12_next_114] at h
    refine k_aloadn (pc := 114) C dX12_next_114 (i := 0) rfl 0 rfl ?_
    refine k_aloadn (pc := 115) C dX12_next_115 (i := 0) rfl 0 rfl ?_
    obtain ⟨hs160, h⟩ := gp_e h
    have hs16 := sok_e hs160
    refine k_getI (pc := 116) C lkF_RX12_112_12 hs16 ir_12_7 dX12_next_116 ?_
    obtain ⟨r17, hr17, h⟩ := bd_e h
    refine k_V (pc := 119) (st := []) C (c_X12_byteAt hr17) lkV_RX12_118 hs16 rfl rfl rfl (Nat.le_of_ble_eq_true rfl) (Nat.le_of_ble_eq_true rfl) (Nat.le_of_ble_eq_true rfl) (Nat.le_of_ble_eq_true rfl) (Nat.le_of_ble_eq_true rfl) dX12_next_119 ?_
    refine k_nf (cells2 := 0) (slots2 := 0) (st2 := [.int r17]) rfl rfl rfl ?_
    obtain ⟨r18, hr18, h⟩ := bd_e h
    refine k_S (pc := 122) (st := []) C (c_X12_isDigit hr18) lkS_RX12_129 rfl rfl (Nat.le_of_ble_eq_true rfl) (Nat.le_of_ble_eq_true rfl) (Nat.le_of_ble_eq_true rfl) (Nat.le_of_ble_eq_true rfl) (Nat.le_of_ble_eq_true rfl) dX12_next_122 ?_
    refine k_nf (cells2 := 0) (slots2 := 0) (st2 := [.int r18]) rfl rfl rfl ?_
    refine k_if_eq (pc := 125) C dX12_next_125 (tgt := 156) (by decide) (fun hc19 => ?_) (fun hc19 => ?_)
    · rw [if_pos hc19] at h
      have h := Option.some.inj h
      subst h
      exact k_vret (pc := 156) C hr hk dX12_next_156
    · rw [if_neg hc19] at h
      refine k_aloadn (pc := 128) C dX12_next_128 (i := 0) rfl 0 rfl ?_
      refine k_dup (pc := 129) C dX12_next_129 rfl ?_
      refine k_getI (pc := 130) C lkF_RX12_112_12 hs16 ir_12_7 dX12_next_130 ?_
      refine k_iconst (pc := 133) C (v := (1 : Int32)) dX12_next_133 (by decide) ?_
      refine k_iadd (pc := 134) C dX12_next_134 ?_
      obtain ⟨I20, eI20, h⟩ := lt_e h
      refine k_putI (pc := 135) C lkP_RX12_112_12 hs16 ir_12_7 dX12_next_135 ?_
      rw [← eI20]
      refine k_goto (pc := 138) C dX12_next_138 (tgt := 114) (by decide) ?_
      exact ih _ _ h
def f_X12_next_75 (S : Sh) (R : Rw)  : Nat → Iw → Nat → Option (Iw)
  | 0, _, _ => none
  | n + 1, I, a0 => gp (sok S a0 12 34) (bd (f_X12_byteAt S R I a0 (I a0 7)) (fun r23 => bd (f_X12_isLetter S R I r23) (fun r24 => (if r24 = 0 then some I else lt (up2 I a0 7 ((I a0 7) + (1 : Int32))) (fun I26 => f_X12_next_75 S R  n I26 a0)))))
set_option maxHeartbeats 4000000 in
theorem b_X12_next_75 {E : Ev} {p : Program} {l : Launch} {e : Env} {s : State} {m : MethodId} {args : Array Value} {below : List Frame} {meth : Method} {c : Code} (C : Cx E RX12 cX12_next 2 p s m c) (hr : meth.sig.returnType = none) (hk : meth.locks = false) {S : Sh} {R : Rw} {r : Iw}  : ∀ (n : Nat) (I : Iw) (a0 : Nat), f_X12_next_75 S R  n I a0 = some r → Wk E 2 p l e ({ frames := 2, cells := 0, slots := 0, locals := 42 } : Room) s m args below meth c 0 0 (MQ below (Qw E S R r none) args s 0 0 (fun q => E.1 ≤ q)) 75 [(0, .ref (E.1 + a0))] [] S R I := by
  intro n
  induction n with
  | zero =>
    intro I a0 h
    rw [f_X12_next_75] at h
    cases h
  | succ n ih =>
    intro I a0 h
    rw [f_X12_next_75] at h
    refine k_aloadn (pc := 75) C dX12_next_75 (i := 0) rfl 0 rfl ?_
    refine k_aloadn (pc := 76) C dX12_next_76 (i := 0) rfl 0 rfl ?_
    obtain ⟨hs220, h⟩ := gp_e h
    have hs22 := sok_e hs220
    refine k_getI (pc := 77) C lkF_RX12_112_12 hs22 ir_12_7 dX12_next_77 ?_
    obtain ⟨r23, hr23, h⟩ := bd_e h
    refine k_V (pc := 80) (st := []) C (c_X12_byteAt hr23) lkV_RX12_118 hs22 rfl rfl rfl (Nat.le_of_ble_eq_true rfl) (Nat.le_of_ble_eq_true rfl) (Nat.le_of_ble_eq_true rfl) (Nat.le_of_ble_eq_true rfl) (Nat.le_of_ble_eq_true rfl) dX12_next_80 ?_
    refine k_nf (cells2 := 0) (slots2 := 0) (st2 := [.int r23]) rfl rfl rfl ?_
    obtain ⟨r24, hr24, h⟩ := bd_e h
    refine k_S (pc := 83) (st := []) C (c_X12_isLetter hr24) lkS_RX12_125 rfl rfl (Nat.le_of_ble_eq_true rfl) (Nat.le_of_ble_eq_true rfl) (Nat.le_of_ble_eq_true rfl) (Nat.le_of_ble_eq_true rfl) (Nat.le_of_ble_eq_true rfl) dX12_next_83 ?_
    refine k_nf (cells2 := 0) (slots2 := 0) (st2 := [.int r24]) rfl rfl rfl ?_
    refine k_if_eq (pc := 86) C dX12_next_86 (tgt := 156) (by decide) (fun hc25 => ?_) (fun hc25 => ?_)
    · rw [if_pos hc25] at h
      have h := Option.some.inj h
      subst h
      exact k_vret (pc := 156) C hr hk dX12_next_156
    · rw [if_neg hc25] at h
      refine k_aloadn (pc := 89) C dX12_next_89 (i := 0) rfl 0 rfl ?_
      refine k_dup (pc := 90) C dX12_next_90 rfl ?_
      refine k_getI (pc := 91) C lkF_RX12_112_12 hs22 ir_12_7 dX12_next_91 ?_
      refine k_iconst (pc := 94) C (v := (1 : Int32)) dX12_next_94 (by decide) ?_
      refine k_iadd (pc := 95) C dX12_next_95 ?_
      obtain ⟨I26, eI26, h⟩ := lt_e h
      refine k_putI (pc := 96) C lkP_RX12_112_12 hs22 ir_12_7 dX12_next_96 ?_
      rw [← eI26]
      refine k_goto (pc := 99) C dX12_next_99 (tgt := 75) (by decide) ?_
      exact ih _ _ h
def f_X12_next_8 (S : Sh) (R : Rw)  : Nat → Iw → Nat → Option (Iw)
  | 0, _, _ => none
  | n + 1, I, a0 => gp (sok S a0 12 34) (bd (f_X12_byteAt S R I a0 (I a0 6)) (fun r4 => (if r4 = (32 : Int32) then lt (up2 I a0 6 ((I a0 6) + (1 : Int32))) (fun I28 => f_X12_next_8 S R  n I28 a0) else bd (f_X12_byteAt S R I a0 (I a0 6)) (fun r6 => lt (up2 I a0 7 (I a0 6)) (fun I7 => (if 0 ≤ r6 then bd (f_X12_isLetter S R I7 r6) (fun r9 => (if r9 = 0 then bd (f_X12_isDigit S R I7 r6) (fun r11 => (if r11 = 0 then lt (up2 I7 a0 8 (3 : Int32)) (fun I13 => lt (up2 I13 a0 7 ((I13 a0 7) + (1 : Int32))) (fun I14 => some I14)) else lt (up2 I7 a0 8 (2 : Int32)) (fun I15 => f_X12_next_114 S R  512 I15 a0))) else lt (up2 I7 a0 8 (1 : Int32)) (fun I21 => f_X12_next_75 S R  512 I21 a0))) else lt (up2 I7 a0 8 (0 : Int32)) (fun I27 => some I27)))))))
set_option maxHeartbeats 4000000 in
theorem b_X12_next_8 {E : Ev} {p : Program} {l : Launch} {e : Env} {s : State} {m : MethodId} {args : Array Value} {below : List Frame} {meth : Method} {c : Code} (C : Cx E RX12 cX12_next 2 p s m c) (hr : meth.sig.returnType = none) (hk : meth.locks = false) {S : Sh} {R : Rw} {r : Iw}  : ∀ (n : Nat) (I : Iw) (a0 : Nat), f_X12_next_8 S R  n I a0 = some r → Wk E 2 p l e ({ frames := 2, cells := 0, slots := 0, locals := 42 } : Room) s m args below meth c 0 0 (MQ below (Qw E S R r none) args s 0 0 (fun q => E.1 ≤ q)) 8 [(0, .ref (E.1 + a0))] [] S R I := by
  intro n
  induction n with
  | zero =>
    intro I a0 h
    rw [f_X12_next_8] at h
    cases h
  | succ n ih =>
    intro I a0 h
    rw [f_X12_next_8] at h
    refine k_aloadn (pc := 8) C dX12_next_8 (i := 0) rfl 0 rfl ?_
    refine k_aloadn (pc := 9) C dX12_next_9 (i := 0) rfl 0 rfl ?_
    obtain ⟨hs30, h⟩ := gp_e h
    have hs3 := sok_e hs30
    refine k_getI (pc := 10) C lkF_RX12_115_12 hs3 ir_12_6 dX12_next_10 ?_
    obtain ⟨r4, hr4, h⟩ := bd_e h
    refine k_V (pc := 13) (st := []) C (c_X12_byteAt hr4) lkV_RX12_118 hs3 rfl rfl rfl (Nat.le_of_ble_eq_true rfl) (Nat.le_of_ble_eq_true rfl) (Nat.le_of_ble_eq_true rfl) (Nat.le_of_ble_eq_true rfl) (Nat.le_of_ble_eq_true rfl) dX12_next_13 ?_
    refine k_nf (cells2 := 0) (slots2 := 0) (st2 := [.int r4]) rfl rfl rfl ?_
    refine k_bipush (pc := 16) C (v := (32 : Int32)) dX12_next_16 (by decide) ?_
    refine k_icmp_ne (pc := 18) C dX12_next_18 (tgt := 34) (by decide) (fun hc5 => ?_) (fun hc5 => ?_)
    · rw [if_neg hc5] at h
      refine k_aloadn (pc := 34) C dX12_next_34 (i := 0) rfl 0 rfl ?_
      refine k_aloadn (pc := 35) C dX12_next_35 (i := 0) rfl 0 rfl ?_
      refine k_getI (pc := 36) C lkF_RX12_115_12 hs3 ir_12_6 dX12_next_36 ?_
      obtain ⟨r6, hr6, h⟩ := bd_e h
      refine k_V (pc := 39) (st := []) C (c_X12_byteAt hr6) lkV_RX12_118 hs3 rfl rfl rfl (Nat.le_of_ble_eq_true rfl) (Nat.le_of_ble_eq_true rfl) (Nat.le_of_ble_eq_true rfl) (Nat.le_of_ble_eq_true rfl) (Nat.le_of_ble_eq_true rfl) dX12_next_39 ?_
      refine k_nf (cells2 := 0) (slots2 := 0) (st2 := [.int r6]) rfl rfl rfl ?_
      refine k_istoren (pc := 42) C dX12_next_42 (i := 1) rfl (by decide) (L2 := [(0, .ref (E.1 + a0)), (1, .int r6)]) rfl ?_
      refine k_aloadn (pc := 43) C dX12_next_43 (i := 0) rfl 0 rfl ?_
      refine k_aloadn (pc := 44) C dX12_next_44 (i := 0) rfl 0 rfl ?_
      refine k_getI (pc := 45) C lkF_RX12_115_12 hs3 ir_12_6 dX12_next_45 ?_
      obtain ⟨I7, eI7, h⟩ := lt_e h
      refine k_putI (pc := 48) C lkP_RX12_112_12 hs3 ir_12_7 dX12_next_48 ?_
      rw [← eI7]
      refine k_iloadn (pc := 51) C dX12_next_51 (i := 1) rfl 1 rfl ?_
      refine k_if_ge (pc := 52) C dX12_next_52 (tgt := 63) (by decide) (fun hc8 => ?_) (fun hc8 => ?_)
      · rw [if_pos hc8] at h
        refine k_iloadn (pc := 63) C dX12_next_63 (i := 1) rfl 1 rfl ?_
        obtain ⟨r9, hr9, h⟩ := bd_e h
        refine k_S (pc := 64) (st := []) C (c_X12_isLetter hr9) lkS_RX12_125 rfl rfl (Nat.le_of_ble_eq_true rfl) (Nat.le_of_ble_eq_true rfl) (Nat.le_of_ble_eq_true rfl) (Nat.le_of_ble_eq_true rfl) (Nat.le_of_ble_eq_true rfl) dX12_next_64 ?_
        refine k_nf (cells2 := 0) (slots2 := 0) (st2 := [.int r9]) rfl rfl rfl ?_
        refine k_if_eq (pc := 67) C dX12_next_67 (tgt := 102) (by decide) (fun hc10 => ?_) (fun hc10 => ?_)
        · rw [if_pos hc10] at h
          refine k_iloadn (pc := 102) C dX12_next_102 (i := 1) rfl 1 rfl ?_
          obtain ⟨r11, hr11, h⟩ := bd_e h
          refine k_S (pc := 103) (st := []) C (c_X12_isDigit hr11) lkS_RX12_129 rfl rfl (Nat.le_of_ble_eq_true rfl) (Nat.le_of_ble_eq_true rfl) (Nat.le_of_ble_eq_true rfl) (Nat.le_of_ble_eq_true rfl) (Nat.le_of_ble_eq_true rfl) dX12_next_103 ?_
          refine k_nf (cells2 := 0) (slots2 := 0) (st2 := [.int r11]) rfl rfl rfl ?_
          refine k_if_eq (pc := 106) C dX12_next_106 (tgt := 141) (by decide) (fun hc12 => ?_) (fun hc12 => ?_)
          · rw [if_pos hc12] at h
            refine k_aloadn (pc := 141) C dX12_next_141 (i := 0) rfl 0 rfl ?_
            refine k_iconst (pc := 142) C (v := (3 : Int32)) dX12_next_142 (by decide) ?_
            obtain ⟨I13, eI13, h⟩ := lt_e h
            refine k_putI (pc := 143) C lkP_RX12_122_12 hs3 ir_12_8 dX12_next_143 ?_
            rw [← eI13]
            refine k_aloadn (pc := 146) C dX12_next_146 (i := 0) rfl 0 rfl ?_
            refine k_dup (pc := 147) C dX12_next_147 rfl ?_
            refine k_getI (pc := 148) C lkF_RX12_112_12 hs3 ir_12_7 dX12_next_148 ?_
            refine k_iconst (pc := 151) C (v := (1 : Int32)) dX12_next_151 (by decide) ?_
            refine k_iadd (pc := 152) C dX12_next_152 ?_
            obtain ⟨I14, eI14, h⟩ := lt_e h
            refine k_putI (pc := 153) C lkP_RX12_112_12 hs3 ir_12_7 dX12_next_153 ?_
            rw [← eI14]
            have h := Option.some.inj h
            subst h
            exact k_vret (pc := 156) C hr hk dX12_next_156
          · rw [if_neg hc12] at h
            refine k_aloadn (pc := 109) C dX12_next_109 (i := 0) rfl 0 rfl ?_
            refine k_iconst (pc := 110) C (v := (2 : Int32)) dX12_next_110 (by decide) ?_
            obtain ⟨I15, eI15, h⟩ := lt_e h
            refine k_putI (pc := 111) C lkP_RX12_122_12 hs3 ir_12_8 dX12_next_111 ?_
            rw [← eI15]
            refine k_loc (L2 := [(0, .ref (E.1 + a0))]) [0] rfl ?_
            exact b_X12_next_114 C hr hk  _ _ _ h
        · rw [if_neg hc10] at h
          refine k_aloadn (pc := 70) C dX12_next_70 (i := 0) rfl 0 rfl ?_
          refine k_iconst (pc := 71) C (v := (1 : Int32)) dX12_next_71 (by decide) ?_
          obtain ⟨I21, eI21, h⟩ := lt_e h
          refine k_putI (pc := 72) C lkP_RX12_122_12 hs3 ir_12_8 dX12_next_72 ?_
          rw [← eI21]
          refine k_loc (L2 := [(0, .ref (E.1 + a0))]) [0] rfl ?_
          exact b_X12_next_75 C hr hk  _ _ _ h
      · rw [if_neg hc8] at h
        refine k_aloadn (pc := 55) C dX12_next_55 (i := 0) rfl 0 rfl ?_
        refine k_iconst (pc := 56) C (v := (0 : Int32)) dX12_next_56 (by decide) ?_
        obtain ⟨I27, eI27, h⟩ := lt_e h
        refine k_putI (pc := 57) C lkP_RX12_122_12 hs3 ir_12_8 dX12_next_57 ?_
        rw [← eI27]
        refine k_goto (pc := 60) C dX12_next_60 (tgt := 156) (by decide) ?_
        have h := Option.some.inj h
        subst h
        exact k_vret (pc := 156) C hr hk dX12_next_156
    · rw [if_pos hc5] at h
      refine k_aloadn (pc := 21) C dX12_next_21 (i := 0) rfl 0 rfl ?_
      refine k_dup (pc := 22) C dX12_next_22 rfl ?_
      refine k_getI (pc := 23) C lkF_RX12_115_12 hs3 ir_12_6 dX12_next_23 ?_
      refine k_iconst (pc := 26) C (v := (1 : Int32)) dX12_next_26 (by decide) ?_
      refine k_iadd (pc := 27) C dX12_next_27 ?_
      obtain ⟨I28, eI28, h⟩ := lt_e h
      refine k_putI (pc := 28) C lkP_RX12_115_12 hs3 ir_12_6 dX12_next_28 ?_
      rw [← eI28]
      refine k_goto (pc := 31) C dX12_next_31 (tgt := 8) (by decide) ?_
      exact ih _ _ h
def f_X12_next (S : Sh) (R : Rw)  (I : Iw) (a0 : Nat) : Option (Iw) := gp (sok S a0 12 34) (lt (up2 I a0 6 (I a0 7)) (fun I2 => f_X12_next_8 S R  512 I2 a0))
set_option maxHeartbeats 4000000 in
theorem b_X12_next {E : Ev} {p : Program} {l : Launch} {e : Env} {s : State} {m : MethodId} {args : Array Value} {below : List Frame} {meth : Method} {c : Code} (C : Cx E RX12 cX12_next 2 p s m c) (hr : meth.sig.returnType = none) (hk : meth.locks = false) {S : Sh} {R : Rw} {r : Iw}  : ∀ (I : Iw) (a0 : Nat), f_X12_next S R   I a0 = some r → Wk E 2 p l e ({ frames := 2, cells := 0, slots := 0, locals := 42 } : Room) s m args below meth c 0 0 (MQ below (Qw E S R r none) args s 0 0 (fun q => E.1 ≤ q)) 0 [(0, .ref (E.1 + a0))] [] S R I := by
  intro I a0 h
  rw [f_X12_next] at h
  refine k_aloadn (pc := 0) C dX12_next_0 (i := 0) rfl 0 rfl ?_
  refine k_aloadn (pc := 1) C dX12_next_1 (i := 0) rfl 0 rfl ?_
  obtain ⟨hs10, h⟩ := gp_e h
  have hs1 := sok_e hs10
  refine k_getI (pc := 2) C lkF_RX12_112_12 hs1 ir_12_7 dX12_next_2 ?_
  obtain ⟨I2, eI2, h⟩ := lt_e h
  refine k_putI (pc := 5) C lkP_RX12_115_12 hs1 ir_12_6 dX12_next_5 ?_
  rw [← eI2]
  exact b_X12_next_8 C hr hk  _ _ _ h
theorem c_X12_next {E : Ev} {l : Launch} {S : Sh} {R : Rw} {I : Iw} {a0 : Nat} {r : Iw} (h : f_X12_next S R I a0 = some r) : Mt E l yX12_next cX12_next 2 none 2 42 [.ref (E.1 + a0)] S R I S R r none 0 0 := mt_of (by decide) (Nat.le_of_ble_eq_true rfl) (fun p e s m args below meth c C hr hk hn => b_X12_next C hr hk _ _ h)
theorem lkF_RX12_122_12 : LkF RX12 122 12 8 := ⟨RX12, TX12, 34, "UnlikeNeighboursModel", fc12, by decide, (t5_in 89 (by decide +kernel) rfl), Or.inl rfl⟩
theorem lkSL_RX12 : Cond.methodLink RX12 132 yJ0_length_8abf5 ∈ TB := (t5_in 218 (by decide +kernel) rfl)
theorem lkSC_RX12 : Cond.methodLink RX12 136 yJ0_charAt_5068e ∈ TB := (t5_in 219 (by decide +kernel) rfl)
theorem dX12_isWord_0 : decode cX12_isWord 0 = .ok (.aload_n 0, 1) := by decide +kernel
theorem dX12_isWord_1 : decode cX12_isWord 1 = .ok (.getfield 122, 3) := by decide +kernel
theorem dX12_isWord_4 : decode cX12_isWord 4 = .ok (.iconst 1, 1) := by decide +kernel
theorem dX12_isWord_5 : decode cX12_isWord 5 = .ok (.if_icmp .ne 23, 3) := by decide +kernel
theorem dX12_isWord_8 : decode cX12_isWord 8 = .ok (.aload_n 0, 1) := by decide +kernel
theorem dX12_isWord_9 : decode cX12_isWord 9 = .ok (.getfield 112, 3) := by decide +kernel
theorem dX12_isWord_12 : decode cX12_isWord 12 = .ok (.aload_n 0, 1) := by decide +kernel
theorem dX12_isWord_13 : decode cX12_isWord 13 = .ok (.getfield 115, 3) := by decide +kernel
theorem dX12_isWord_16 : decode cX12_isWord 16 = .ok (.isub, 1) := by decide +kernel
theorem dX12_isWord_17 : decode cX12_isWord 17 = .ok (.aload_n 1, 1) := by decide +kernel
theorem dX12_isWord_18 : decode cX12_isWord 18 = .ok (.invokevirtual 132, 3) := by decide +kernel
theorem dX12_isWord_21 : decode cX12_isWord 21 = .ok (.if_icmp .ne 7, 3) := by decide +kernel
theorem dX12_isWord_24 : decode cX12_isWord 24 = .ok (.iconst 1, 1) := by decide +kernel
theorem dX12_isWord_25 : decode cX12_isWord 25 = .ok (.goto 4, 3) := by decide +kernel
theorem dX12_isWord_28 : decode cX12_isWord 28 = .ok (.iconst 0, 1) := by decide +kernel
theorem dX12_isWord_29 : decode cX12_isWord 29 = .ok (.istore_n 2, 1) := by decide +kernel
theorem dX12_isWord_30 : decode cX12_isWord 30 = .ok (.iconst 0, 1) := by decide +kernel
theorem dX12_isWord_31 : decode cX12_isWord 31 = .ok (.istore_n 3, 1) := by decide +kernel
theorem dX12_isWord_32 : decode cX12_isWord 32 = .ok (.iload_n 3, 1) := by decide +kernel
theorem dX12_isWord_33 : decode cX12_isWord 33 = .ok (.aload_n 1, 1) := by decide +kernel
theorem dX12_isWord_34 : decode cX12_isWord 34 = .ok (.invokevirtual 132, 3) := by decide +kernel
theorem dX12_isWord_37 : decode cX12_isWord 37 = .ok (.if_icmp .ge 38, 3) := by decide +kernel
theorem dX12_isWord_40 : decode cX12_isWord 40 = .ok (.iload_n 2, 1) := by decide +kernel
theorem dX12_isWord_41 : decode cX12_isWord 41 = .ok (.ifCond .eq 34, 3) := by decide +kernel
theorem dX12_isWord_44 : decode cX12_isWord 44 = .ok (.aload_n 0, 1) := by decide +kernel
theorem dX12_isWord_45 : decode cX12_isWord 45 = .ok (.getfield 19, 3) := by decide +kernel
theorem dX12_isWord_48 : decode cX12_isWord 48 = .ok (.aload_n 0, 1) := by decide +kernel
theorem dX12_isWord_49 : decode cX12_isWord 49 = .ok (.getfield 115, 3) := by decide +kernel
theorem dX12_isWord_52 : decode cX12_isWord 52 = .ok (.iload_n 3, 1) := by decide +kernel
theorem dX12_isWord_53 : decode cX12_isWord 53 = .ok (.iadd, 1) := by decide +kernel
theorem dX12_isWord_54 : decode cX12_isWord 54 = .ok (.iaload, 1) := by decide +kernel
theorem dX12_isWord_55 : decode cX12_isWord 55 = .ok (.aload_n 1, 1) := by decide +kernel
theorem dX12_isWord_56 : decode cX12_isWord 56 = .ok (.iload_n 3, 1) := by decide +kernel
theorem dX12_isWord_57 : decode cX12_isWord 57 = .ok (.invokevirtual 136, 3) := by decide +kernel
theorem dX12_isWord_60 : decode cX12_isWord 60 = .ok (.if_icmp .ne 7, 3) := by decide +kernel
theorem dX12_isWord_63 : decode cX12_isWord 63 = .ok (.iconst 1, 1) := by decide +kernel
theorem dX12_isWord_64 : decode cX12_isWord 64 = .ok (.goto 4, 3) := by decide +kernel
theorem dX12_isWord_67 : decode cX12_isWord 67 = .ok (.iconst 0, 1) := by decide +kernel
theorem dX12_isWord_68 : decode cX12_isWord 68 = .ok (.istore_n 2, 1) := by decide +kernel
theorem dX12_isWord_69 : decode cX12_isWord 69 = .ok (.iinc 3 1, 3) := by decide +kernel
theorem dX12_isWord_72 : decode cX12_isWord 72 = .ok (.goto (-40), 3) := by decide +kernel
theorem dX12_isWord_75 : decode cX12_isWord 75 = .ok (.iload_n 2, 1) := by decide +kernel
theorem dX12_isWord_76 : decode cX12_isWord 76 = .ok (.ireturn, 1) := by decide +kernel
def f_X12_isWord_68 (S : Sh) (R : Rw) (I : Iw) (ko32 : Nat → Nat → Int32 → Int32 → Option (Int32)) (a0 : Nat) (a1 : Nat) (x3 : Int32) (s0 : Int32) : Option (Int32) := ko32 a0 a1 s0 (x3 + (1 : Int32))
set_option maxHeartbeats 4000000 in
theorem b_X12_isWord_68 {E : Ev} {p : Program} {l : Launch} {e : Env} {s : State} {m : MethodId} {args : Array Value} {below : List Frame} {meth : Method} {c : Code} (C : Cx E RX12 cX12_isWord 4 p s m c) (hr : meth.sig.returnType = (some .boolean)) (hk : meth.locks = false) {S : Sh} {R : Rw} {I : Iw} {r : Int32}  {ko32 : Nat → Nat → Int32 → Int32 → Option (Int32)} (hko32 : ∀ (a0 : Nat) (a1 : Nat) (x2 : Int32) (x3 : Int32), ko32 a0 a1 x2 x3 = some r → Wk E 4 p l e ({ frames := 6, cells := 0, slots := 0, locals := 200 } : Room) s m args below meth c 0 0 (MQ below (Qw E S R I (some (.int r))) args s 0 0 (fun q => E.1 ≤ q)) 32 [(0, .ref (E.1 + a0)), (1, .ref (E.2.1 a1)), (2, .int x2), (3, .int x3)] [] S R I) : ∀ (a0 : Nat) (a1 : Nat) (x3 : Int32) (s0 : Int32), f_X12_isWord_68 S R I ko32  a0 a1 x3 s0 = some r → Wk E 4 p l e ({ frames := 6, cells := 0, slots := 0, locals := 200 } : Room) s m args below meth c 0 0 (MQ below (Qw E S R I (some (.int r))) args s 0 0 (fun q => E.1 ≤ q)) 68 [(0, .ref (E.1 + a0)), (1, .ref (E.2.1 a1)), (3, .int x3)] [.int s0] S R I := by
  intro a0 a1 x3 s0 h
  rw [f_X12_isWord_68] at h
  refine k_istoren (pc := 68) C dX12_isWord_68 (i := 2) rfl (by decide) (L2 := [(0, .ref (E.1 + a0)), (1, .ref (E.2.1 a1)), (2, .int s0), (3, .int x3)]) rfl ?_
  refine k_iinc (pc := 69) C dX12_isWord_69 3 rfl (v := x3 + (1 : Int32)) (by rfl) (by decide) (L2 := [(0, .ref (E.1 + a0)), (1, .ref (E.2.1 a1)), (2, .int s0), (3, .int (x3 + (1 : Int32)))]) rfl ?_
  refine k_goto (pc := 72) C dX12_isWord_72 (tgt := 32) (by decide) ?_
  exact hko32 _ _ _ _ h
def f_X12_isWord_32 (S : Sh) (R : Rw) (I : Iw)  : Nat → Nat → Nat → Int32 → Int32 → Option (Int32)
  | 0, _, _, _, _ => none
  | n + 1, a0, a1, x2, x3 => gp (decide (a1 < txN)) ((if (nI (txL.getD a1 0)) ≤ x3 then gp (zok x2) (some x2) else (if x2 = 0 then gp (zok x2) (some x2) else gp (sok S a0 12 34) (rl (R a0 4) (fun b9 => gp (aok S 20 b9 ((I a0 6) + x3)) (gp (chok a1 x3) ((if (I b9 ((I a0 6) + x3).toNatClampNeg) = (chr a1 x3.toNatClampNeg) then f_X12_isWord_68 S R I (f_X12_isWord_32 S R I  n) a0 a1 x3 (1 : Int32) else f_X12_isWord_68 S R I (f_X12_isWord_32 S R I  n) a0 a1 x3 (0 : Int32)))))))))
set_option maxHeartbeats 4000000 in
theorem b_X12_isWord_32 {E : Ev} {p : Program} {l : Launch} {e : Env} {s : State} {m : MethodId} {args : Array Value} {below : List Frame} {meth : Method} {c : Code} (C : Cx E RX12 cX12_isWord 4 p s m c) (hr : meth.sig.returnType = (some .boolean)) (hk : meth.locks = false) {S : Sh} {R : Rw} {I : Iw} {r : Int32}  : ∀ (n : Nat) (a0 : Nat) (a1 : Nat) (x2 : Int32) (x3 : Int32), f_X12_isWord_32 S R I  n a0 a1 x2 x3 = some r → Wk E 4 p l e ({ frames := 6, cells := 0, slots := 0, locals := 200 } : Room) s m args below meth c 0 0 (MQ below (Qw E S R I (some (.int r))) args s 0 0 (fun q => E.1 ≤ q)) 32 [(0, .ref (E.1 + a0)), (1, .ref (E.2.1 a1)), (2, .int x2), (3, .int x3)] [] S R I := by
  intro n
  induction n with
  | zero =>
    intro a0 a1 x2 x3 h
    rw [f_X12_isWord_32] at h
    cases h
  | succ n ih =>
    intro a0 a1 x2 x3 h
    rw [f_X12_isWord_32] at h
    refine k_iloadn (pc := 32) C dX12_isWord_32 (i := 3) rfl 3 rfl ?_
    refine k_aloadn (pc := 33) C dX12_isWord_33 (i := 1) rfl 1 rfl ?_
    obtain ⟨ha3, h⟩ := gp_e h
    refine k_strlen (pc := 34) C (st := [.int x3]) lkSL_RX12 (of_decide_eq_true ha3) rfl (Nat.le_of_ble_eq_true rfl) (Nat.le_of_ble_eq_true rfl) (Nat.le_of_ble_eq_true rfl) (Nat.le_of_ble_eq_true rfl) (Nat.le_of_ble_eq_true rfl) dX12_isWord_34 ?_
    refine k_nf (cells2 := 0) (slots2 := 0) (st2 := [.int (nI (txL.getD a1 0)), .int x3]) rfl rfl rfl ?_
    refine k_icmp_ge (pc := 37) C dX12_isWord_37 (tgt := 75) (by decide) (fun hc4 => ?_) (fun hc4 => ?_)
    · rw [if_pos hc4] at h
      refine k_iloadn (pc := 75) C dX12_isWord_75 (i := 2) rfl 2 rfl ?_
      obtain ⟨hz5, h⟩ := gp_e h
      have h := Option.some.inj h
      subst h
      exact k_zret (pc := 76) C hr hk (of_decide_eq_true hz5) dX12_isWord_76
    · rw [if_neg hc4] at h
      refine k_iloadn (pc := 40) C dX12_isWord_40 (i := 2) rfl 2 rfl ?_
      refine k_if_eq (pc := 41) C dX12_isWord_41 (tgt := 75) (by decide) (fun hc6 => ?_) (fun hc6 => ?_)
      · rw [if_pos hc6] at h
        refine k_iloadn (pc := 75) C dX12_isWord_75 (i := 2) rfl 2 rfl ?_
        obtain ⟨hz7, h⟩ := gp_e h
        have h := Option.some.inj h
        subst h
        exact k_zret (pc := 76) C hr hk (of_decide_eq_true hz7) dX12_isWord_76
      · rw [if_neg hc6] at h
        refine k_aloadn (pc := 44) C dX12_isWord_44 (i := 0) rfl 0 rfl ?_
        obtain ⟨hs80, h⟩ := gp_e h
        have hs8 := sok_e hs80
        obtain ⟨b9, hb9, h⟩ := rl_e h
        refine k_getR (pc := 45) C lkF_RX12_19_12 hs8 ir_12_4 hb9 dX12_isWord_45 ?_
        refine k_aloadn (pc := 48) C dX12_isWord_48 (i := 0) rfl 0 rfl ?_
        refine k_getI (pc := 49) C lkF_RX12_115_12 hs8 ir_12_6 dX12_isWord_49 ?_
        refine k_iloadn (pc := 52) C dX12_isWord_52 (i := 3) rfl 3 rfl ?_
        refine k_iadd (pc := 53) C dX12_isWord_53 ?_
        obtain ⟨ha10, h⟩ := gp_e h
        refine k_iald (pc := 54) C ha10 dX12_isWord_54 ?_
        refine k_aloadn (pc := 55) C dX12_isWord_55 (i := 1) rfl 1 rfl ?_
        refine k_iloadn (pc := 56) C dX12_isWord_56 (i := 3) rfl 3 rfl ?_
        obtain ⟨ha11, h⟩ := gp_e h
        refine k_charAt (pc := 57) C (st := [.int (I b9 ((I a0 6) + x3).toNatClampNeg)]) lkSC_RX12 ha11 rfl (Nat.le_of_ble_eq_true rfl) (Nat.le_of_ble_eq_true rfl) (Nat.le_of_ble_eq_true rfl) (Nat.le_of_ble_eq_true rfl) (Nat.le_of_ble_eq_true rfl) dX12_isWord_57 ?_
        refine k_nf (cells2 := 0) (slots2 := 0) (st2 := [.int (chr a1 x3.toNatClampNeg), .int (I b9 ((I a0 6) + x3).toNatClampNeg)]) rfl rfl rfl ?_
        refine k_icmp_ne (pc := 60) C dX12_isWord_60 (tgt := 67) (by decide) (fun hc12 => ?_) (fun hc12 => ?_)
        · rw [if_neg hc12] at h
          refine k_iconst (pc := 67) C (v := (0 : Int32)) dX12_isWord_67 (by decide) ?_
          refine k_loc (L2 := [(0, .ref (E.1 + a0)), (1, .ref (E.2.1 a1)), (3, .int x3)]) [0, 1, 3] rfl ?_
          exact b_X12_isWord_68 C hr hk ih _ _ _ _ h
        · rw [if_pos hc12] at h
          refine k_iconst (pc := 63) C (v := (1 : Int32)) dX12_isWord_63 (by decide) ?_
          refine k_goto (pc := 64) C dX12_isWord_64 (tgt := 68) (by decide) ?_
          refine k_loc (L2 := [(0, .ref (E.1 + a0)), (1, .ref (E.2.1 a1)), (3, .int x3)]) [0, 1, 3] rfl ?_
          exact b_X12_isWord_68 C hr hk ih _ _ _ _ h
def f_X12_isWord_29 (S : Sh) (R : Rw) (I : Iw)  (a0 : Nat) (a1 : Nat) (s0 : Int32) : Option (Int32) := f_X12_isWord_32 S R I  512 a0 a1 s0 (0 : Int32)
set_option maxHeartbeats 4000000 in
theorem b_X12_isWord_29 {E : Ev} {p : Program} {l : Launch} {e : Env} {s : State} {m : MethodId} {args : Array Value} {below : List Frame} {meth : Method} {c : Code} (C : Cx E RX12 cX12_isWord 4 p s m c) (hr : meth.sig.returnType = (some .boolean)) (hk : meth.locks = false) {S : Sh} {R : Rw} {I : Iw} {r : Int32}  : ∀ (a0 : Nat) (a1 : Nat) (s0 : Int32), f_X12_isWord_29 S R I   a0 a1 s0 = some r → Wk E 4 p l e ({ frames := 6, cells := 0, slots := 0, locals := 200 } : Room) s m args below meth c 0 0 (MQ below (Qw E S R I (some (.int r))) args s 0 0 (fun q => E.1 ≤ q)) 29 [(0, .ref (E.1 + a0)), (1, .ref (E.2.1 a1))] [.int s0] S R I := by
  intro a0 a1 s0 h
  rw [f_X12_isWord_29] at h
  refine k_istoren (pc := 29) C dX12_isWord_29 (i := 2) rfl (by decide) (L2 := [(0, .ref (E.1 + a0)), (1, .ref (E.2.1 a1)), (2, .int s0)]) rfl ?_
  refine k_iconst (pc := 30) C (v := (0 : Int32)) dX12_isWord_30 (by decide) ?_
  refine k_istoren (pc := 31) C dX12_isWord_31 (i := 3) rfl (by decide) (L2 := [(0, .ref (E.1 + a0)), (1, .ref (E.2.1 a1)), (2, .int s0), (3, .int (0 : Int32))]) rfl ?_
  exact b_X12_isWord_32 C hr hk  _ _ _ _ _ h
def f_X12_isWord_28 (S : Sh) (R : Rw) (I : Iw)  (a0 : Nat) (a1 : Nat) : Option (Int32) := f_X12_isWord_29 S R I  a0 a1 (0 : Int32)
set_option maxHeartbeats 4000000 in
theorem b_X12_isWord_28 {E : Ev} {p : Program} {l : Launch} {e : Env} {s : State} {m : MethodId} {args : Array Value} {below : List Frame} {meth : Method} {c : Code} (C : Cx E RX12 cX12_isWord 4 p s m c) (hr : meth.sig.returnType = (some .boolean)) (hk : meth.locks = false) {S : Sh} {R : Rw} {I : Iw} {r : Int32}  : ∀ (a0 : Nat) (a1 : Nat), f_X12_isWord_28 S R I   a0 a1 = some r → Wk E 4 p l e ({ frames := 6, cells := 0, slots := 0, locals := 200 } : Room) s m args below meth c 0 0 (MQ below (Qw E S R I (some (.int r))) args s 0 0 (fun q => E.1 ≤ q)) 28 [(0, .ref (E.1 + a0)), (1, .ref (E.2.1 a1))] [] S R I := by
  intro a0 a1 h
  rw [f_X12_isWord_28] at h
  refine k_iconst (pc := 28) C (v := (0 : Int32)) dX12_isWord_28 (by decide) ?_
  exact b_X12_isWord_29 C hr hk  _ _ _ h
def f_X12_isWord (S : Sh) (R : Rw) (I : Iw)  (a0 : Nat) (a1 : Nat) : Option (Int32) := gp (sok S a0 12 34) ((if (I a0 8) = (1 : Int32) then gp (decide (a1 < txN)) ((if ((I a0 7) - (I a0 6)) = (nI (txL.getD a1 0)) then f_X12_isWord_29 S R I  a0 a1 (1 : Int32) else f_X12_isWord_28 S R I  a0 a1)) else f_X12_isWord_28 S R I  a0 a1))
set_option maxHeartbeats 4000000 in
theorem b_X12_isWord {E : Ev} {p : Program} {l : Launch} {e : Env} {s : State} {m : MethodId} {args : Array Value} {below : List Frame} {meth : Method} {c : Code} (C : Cx E RX12 cX12_isWord 4 p s m c) (hr : meth.sig.returnType = (some .boolean)) (hk : meth.locks = false) {S : Sh} {R : Rw} {I : Iw} {r : Int32}  : ∀ (a0 : Nat) (a1 : Nat), f_X12_isWord S R I   a0 a1 = some r → Wk E 4 p l e ({ frames := 6, cells := 0, slots := 0, locals := 200 } : Room) s m args below meth c 0 0 (MQ below (Qw E S R I (some (.int r))) args s 0 0 (fun q => E.1 ≤ q)) 0 [(0, .ref (E.1 + a0)), (1, .ref (E.2.1 a1))] [] S R I := by
  intro a0 a1 h
  rw [f_X12_isWord] at h
  refine k_aloadn (pc := 0) C dX12_isWord_0 (i := 0) rfl 0 rfl ?_
  obtain ⟨hs10, h⟩ := gp_e h
  have hs1 := sok_e hs10
  refine k_getI (pc := 1) C lkF_RX12_122_12 hs1 ir_12_8 dX12_isWord_1 ?_
  refine k_iconst (pc := 4) C (v := (1 : Int32)) dX12_isWord_4 (by decide) ?_
  refine k_icmp_ne (pc := 5) C dX12_isWord_5 (tgt := 28) (by decide) (fun hc2 => ?_) (fun hc2 => ?_)
  · rw [if_neg hc2] at h
    exact b_X12_isWord_28 C hr hk  _ _ h
  · rw [if_pos hc2] at h
    refine k_aloadn (pc := 8) C dX12_isWord_8 (i := 0) rfl 0 rfl ?_
    refine k_getI (pc := 9) C lkF_RX12_112_12 hs1 ir_12_7 dX12_isWord_9 ?_
    refine k_aloadn (pc := 12) C dX12_isWord_12 (i := 0) rfl 0 rfl ?_
    refine k_getI (pc := 13) C lkF_RX12_115_12 hs1 ir_12_6 dX12_isWord_13 ?_
    refine k_isub (pc := 16) C dX12_isWord_16 ?_
    refine k_aloadn (pc := 17) C dX12_isWord_17 (i := 1) rfl 1 rfl ?_
    obtain ⟨ha13, h⟩ := gp_e h
    refine k_strlen (pc := 18) C (st := [.int ((I a0 7) - (I a0 6))]) lkSL_RX12 (of_decide_eq_true ha13) rfl (Nat.le_of_ble_eq_true rfl) (Nat.le_of_ble_eq_true rfl) (Nat.le_of_ble_eq_true rfl) (Nat.le_of_ble_eq_true rfl) (Nat.le_of_ble_eq_true rfl) dX12_isWord_18 ?_
    refine k_nf (cells2 := 0) (slots2 := 0) (st2 := [.int (nI (txL.getD a1 0)), .int ((I a0 7) - (I a0 6))]) rfl rfl rfl ?_
    refine k_icmp_ne (pc := 21) C dX12_isWord_21 (tgt := 28) (by decide) (fun hc14 => ?_) (fun hc14 => ?_)
    · rw [if_neg hc14] at h
      exact b_X12_isWord_28 C hr hk  _ _ h
    · rw [if_pos hc14] at h
      refine k_iconst (pc := 24) C (v := (1 : Int32)) dX12_isWord_24 (by decide) ?_
      refine k_goto (pc := 25) C dX12_isWord_25 (tgt := 29) (by decide) ?_
      exact b_X12_isWord_29 C hr hk  _ _ _ h
theorem c_X12_isWord {E : Ev} {l : Launch} {S : Sh} {R : Rw} {I : Iw} {a0 : Nat} {a1 : Nat} {r : Int32} (h : f_X12_isWord S R I a0 a1 = some r) : Mt E l yX12_isWord cX12_isWord 4 (some .boolean) 6 200 [.ref (E.1 + a0), .ref (E.2.1 a1)] S R I S R I (some (.int r)) 0 0 := mt_of (by decide) (Nat.le_of_ble_eq_true rfl) (fun p e s m args below meth c C hr hk hn => b_X12_isWord C hr hk _ _ h)
