/-! X11_isCell, X11_row, X11_alterRow, X11_judge, X11_isSheet, X11_sheet, X11_write -/
theorem dX11_isCell_0 : decode cX11_isCell 0 = .ok (.iload_n 1, 1) := by decide +kernel
theorem dX11_isCell_1 : decode cX11_isCell 1 = .ok (.ifCond .lt 24, 3) := by decide +kernel
theorem dX11_isCell_4 : decode cX11_isCell 4 = .ok (.iload_n 1, 1) := by decide +kernel
theorem dX11_isCell_5 : decode cX11_isCell 5 = .ok (.aload_n 0, 1) := by decide +kernel
theorem dX11_isCell_6 : decode cX11_isCell 6 = .ok (.getfield 209, 3) := by decide +kernel
theorem dX11_isCell_9 : decode cX11_isCell 9 = .ok (.if_icmp .ge 16, 3) := by decide +kernel
theorem dX11_isCell_12 : decode cX11_isCell 12 = .ok (.iload_n 2, 1) := by decide +kernel
theorem dX11_isCell_13 : decode cX11_isCell 13 = .ok (.iconst 0, 1) := by decide +kernel
theorem dX11_isCell_14 : decode cX11_isCell 14 = .ok (.iconst 2, 1) := by decide +kernel
theorem dX11_isCell_15 : decode cX11_isCell 15 = .ok (.invokestatic 55, 3) := by decide +kernel
theorem dX11_isCell_18 : decode cX11_isCell 18 = .ok (.ifCond .eq 7, 3) := by decide +kernel
theorem dX11_isCell_21 : decode cX11_isCell 21 = .ok (.iconst 1, 1) := by decide +kernel
theorem dX11_isCell_22 : decode cX11_isCell 22 = .ok (.goto 4, 3) := by decide +kernel
theorem dX11_isCell_25 : decode cX11_isCell 25 = .ok (.iconst 0, 1) := by decide +kernel
theorem dX11_isCell_26 : decode cX11_isCell 26 = .ok (.ireturn, 1) := by decide +kernel
def f_X11_isCell (S : Sh) (R : Rw) (I : Iw)  (a0 : Nat) (x1 : Int32) (x2 : Int32) : Option (Int32) := (if x1 < 0 then some (0 : Int32) else gp (sok S a0 11 12) ((if (I a0 6) ≤ x1 then some (0 : Int32) else bd (f_X11_isBetween S R I x2 (0 : Int32) (2 : Int32)) (fun r4 => (if r4 = 0 then some (0 : Int32) else some (1 : Int32))))))
set_option maxHeartbeats 4000000 in
theorem b_X11_isCell {E : Ev} {p : Program} {l : Launch} {e : Env} {s : State} {m : MethodId} {args : Array Value} {below : List Frame} {meth : Method} {c : Code} (C : Cx E RX11 cX11_isCell 3 p s m c) (hr : meth.sig.returnType = (some .boolean)) (hk : meth.locks = false) {S : Sh} {R : Rw} {I : Iw} {r : Int32}  : ∀ (a0 : Nat) (x1 : Int32) (x2 : Int32), f_X11_isCell S R I   a0 x1 x2 = some r → Wk E 3 p l e ({ frames := 1, cells := 0, slots := 0, locals := 22 } : Room) s m args below meth c 0 0 (MQ below (Qw E S R I (some (.int r))) args s 0 0 (fun q => E.1 ≤ q)) 0 [(0, .ref (E.1 + a0)), (1, .int x1), (2, .int x2)] [] S R I := by
  intro a0 x1 x2 h
  rw [f_X11_isCell] at h
  refine k_iloadn (pc := 0) C dX11_isCell_0 (i := 1) rfl 1 rfl ?_
  refine k_if_lt (pc := 1) C dX11_isCell_1 (tgt := 25) (by decide) (fun hc1 => ?_) (fun hc1 => ?_)
  · rw [if_pos hc1] at h
    refine k_iconst (pc := 25) C (v := (0 : Int32)) dX11_isCell_25 (by decide) ?_
    have h := Option.some.inj h
    subst h
    exact k_zret (pc := 26) C hr hk (Or.inl rfl) dX11_isCell_26
  · rw [if_neg hc1] at h
    refine k_iloadn (pc := 4) C dX11_isCell_4 (i := 1) rfl 1 rfl ?_
    refine k_aloadn (pc := 5) C dX11_isCell_5 (i := 0) rfl 0 rfl ?_
    obtain ⟨hs20, h⟩ := gp_e h
    have hs2 := sok_e hs20
    refine k_getI (pc := 6) C lkF_RX11_209_11 hs2 ir_11_6 dX11_isCell_6 ?_
    refine k_icmp_ge (pc := 9) C dX11_isCell_9 (tgt := 25) (by decide) (fun hc3 => ?_) (fun hc3 => ?_)
    · rw [if_pos hc3] at h
      refine k_iconst (pc := 25) C (v := (0 : Int32)) dX11_isCell_25 (by decide) ?_
      have h := Option.some.inj h
      subst h
      exact k_zret (pc := 26) C hr hk (Or.inl rfl) dX11_isCell_26
    · rw [if_neg hc3] at h
      refine k_iloadn (pc := 12) C dX11_isCell_12 (i := 2) rfl 2 rfl ?_
      refine k_iconst (pc := 13) C (v := (0 : Int32)) dX11_isCell_13 (by decide) ?_
      refine k_iconst (pc := 14) C (v := (2 : Int32)) dX11_isCell_14 (by decide) ?_
      obtain ⟨r4, hr4, h⟩ := bd_e h
      refine k_S (pc := 15) (st := []) C (c_X11_isBetween hr4) lkS_RX11_55 rfl rfl (Nat.le_of_ble_eq_true rfl) (Nat.le_of_ble_eq_true rfl) (Nat.le_of_ble_eq_true rfl) (Nat.le_of_ble_eq_true rfl) (Nat.le_of_ble_eq_true rfl) dX11_isCell_15 ?_
      refine k_nf (cells2 := 0) (slots2 := 0) (st2 := [.int r4]) rfl rfl rfl ?_
      refine k_if_eq (pc := 18) C dX11_isCell_18 (tgt := 25) (by decide) (fun hc5 => ?_) (fun hc5 => ?_)
      · rw [if_pos hc5] at h
        refine k_iconst (pc := 25) C (v := (0 : Int32)) dX11_isCell_25 (by decide) ?_
        have h := Option.some.inj h
        subst h
        exact k_zret (pc := 26) C hr hk (Or.inl rfl) dX11_isCell_26
      · rw [if_neg hc5] at h
        refine k_iconst (pc := 21) C (v := (1 : Int32)) dX11_isCell_21 (by decide) ?_
        refine k_goto (pc := 22) C dX11_isCell_22 (tgt := 26) (by decide) ?_
        have h := Option.some.inj h
        subst h
        exact k_zret (pc := 26) C hr hk (Or.inr rfl) dX11_isCell_26
theorem c_X11_isCell {E : Ev} {l : Launch} {S : Sh} {R : Rw} {I : Iw} {a0 : Nat} {x1 : Int32} {x2 : Int32} {r : Int32} (h : f_X11_isCell S R I a0 x1 x2 = some r) : Mt E l yX11_isCell cX11_isCell 3 (some .boolean) 1 22 [.ref (E.1 + a0), .int x1, .int x2] S R I S R I (some (.int r)) 0 0 := mt_of (by decide) (Nat.le_of_ble_eq_true rfl) (fun p e s m args below meth c C hr hk hn => b_X11_isCell C hr hk _ _ _ h)
theorem lkV_RX11_212 : LkV RX11 212 RX11 yX11_isCell cX11_isCell 3 (some .boolean) 2 := ⟨(t4_in 16 (by decide +kernel) rfl), (t4_in 18 (by decide +kernel) rfl), (t0_in 25 (by decide +kernel) rfl), (t4_in 19 (by decide +kernel) rfl), (t1_in 1 (by decide +kernel) rfl), by decide, by decide +kernel⟩
theorem dX11_row_0 : decode cX11_row 0 = .ok (.aload_n 0, 1) := by decide +kernel
theorem dX11_row_1 : decode cX11_row 1 = .ok (.iload_n 1, 1) := by decide +kernel
theorem dX11_row_2 : decode cX11_row 2 = .ok (.iload_n 2, 1) := by decide +kernel
theorem dX11_row_3 : decode cX11_row 3 = .ok (.invokevirtual 212, 3) := by decide +kernel
theorem dX11_row_6 : decode cX11_row 6 = .ok (.ifCond .eq 16, 3) := by decide +kernel
theorem dX11_row_9 : decode cX11_row 9 = .ok (.aload_n 0, 1) := by decide +kernel
theorem dX11_row_10 : decode cX11_row 10 = .ok (.getfield 35, 3) := by decide +kernel
theorem dX11_row_13 : decode cX11_row 13 = .ok (.iload_n 1, 1) := by decide +kernel
theorem dX11_row_14 : decode cX11_row 14 = .ok (.iconst 3, 1) := by decide +kernel
theorem dX11_row_15 : decode cX11_row 15 = .ok (.imul, 1) := by decide +kernel
theorem dX11_row_16 : decode cX11_row 16 = .ok (.iload_n 2, 1) := by decide +kernel
theorem dX11_row_17 : decode cX11_row 17 = .ok (.iadd, 1) := by decide +kernel
theorem dX11_row_18 : decode cX11_row 18 = .ok (.iaload, 1) := by decide +kernel
theorem dX11_row_19 : decode cX11_row 19 = .ok (.goto 5, 3) := by decide +kernel
theorem dX11_row_22 : decode cX11_row 22 = .ok (.bipush (-9), 2) := by decide +kernel
theorem dX11_row_24 : decode cX11_row 24 = .ok (.ireturn, 1) := by decide +kernel
def f_X11_row (S : Sh) (R : Rw) (I : Iw)  (a0 : Nat) (x1 : Int32) (x2 : Int32) : Option (Int32) := gp (sok S a0 11 12) (bd (f_X11_isCell S R I a0 x1 x2) (fun r2 => (if r2 = 0 then some (-9 : Int32) else rl (R a0 5) (fun b4 => gp (aok S 20 b4 ((x1 * (3 : Int32)) + x2)) (some (I b4 ((x1 * (3 : Int32)) + x2).toNatClampNeg))))))
set_option maxHeartbeats 4000000 in
theorem b_X11_row {E : Ev} {p : Program} {l : Launch} {e : Env} {s : State} {m : MethodId} {args : Array Value} {below : List Frame} {meth : Method} {c : Code} (C : Cx E RX11 cX11_row 3 p s m c) (hr : meth.sig.returnType = (some .int)) (hk : meth.locks = false) {S : Sh} {R : Rw} {I : Iw} {r : Int32}  : ∀ (a0 : Nat) (x1 : Int32) (x2 : Int32), f_X11_row S R I   a0 x1 x2 = some r → Wk E 3 p l e ({ frames := 2, cells := 0, slots := 0, locals := 44 } : Room) s m args below meth c 0 0 (MQ below (Qw E S R I (some (.int r))) args s 0 0 (fun q => E.1 ≤ q)) 0 [(0, .ref (E.1 + a0)), (1, .int x1), (2, .int x2)] [] S R I := by
  intro a0 x1 x2 h
  rw [f_X11_row] at h
  refine k_aloadn (pc := 0) C dX11_row_0 (i := 0) rfl 0 rfl ?_
  refine k_iloadn (pc := 1) C dX11_row_1 (i := 1) rfl 1 rfl ?_
  refine k_iloadn (pc := 2) C dX11_row_2 (i := 2) rfl 2 rfl ?_
  obtain ⟨hs10, h⟩ := gp_e h
  have hs1 := sok_e hs10
  obtain ⟨r2, hr2, h⟩ := bd_e h
  refine k_V (pc := 3) (st := []) C (c_X11_isCell hr2) lkV_RX11_212 hs1 rfl rfl rfl (Nat.le_of_ble_eq_true rfl) (Nat.le_of_ble_eq_true rfl) (Nat.le_of_ble_eq_true rfl) (Nat.le_of_ble_eq_true rfl) (Nat.le_of_ble_eq_true rfl) dX11_row_3 ?_
  refine k_nf (cells2 := 0) (slots2 := 0) (st2 := [.int r2]) rfl rfl rfl ?_
  refine k_if_eq (pc := 6) C dX11_row_6 (tgt := 22) (by decide) (fun hc3 => ?_) (fun hc3 => ?_)
  · rw [if_pos hc3] at h
    refine k_bipush (pc := 22) C (v := (-9 : Int32)) dX11_row_22 (by decide) ?_
    have h := Option.some.inj h
    subst h
    exact k_iret (pc := 24) C hr hk dX11_row_24
  · rw [if_neg hc3] at h
    refine k_aloadn (pc := 9) C dX11_row_9 (i := 0) rfl 0 rfl ?_
    obtain ⟨b4, hb4, h⟩ := rl_e h
    refine k_getR (pc := 10) C lkF_RX11_35_11 hs1 ir_11_5 hb4 dX11_row_10 ?_
    refine k_iloadn (pc := 13) C dX11_row_13 (i := 1) rfl 1 rfl ?_
    refine k_iconst (pc := 14) C (v := (3 : Int32)) dX11_row_14 (by decide) ?_
    refine k_imul (pc := 15) C dX11_row_15 ?_
    refine k_iloadn (pc := 16) C dX11_row_16 (i := 2) rfl 2 rfl ?_
    refine k_iadd (pc := 17) C dX11_row_17 ?_
    obtain ⟨ha5, h⟩ := gp_e h
    refine k_iald (pc := 18) C ha5 dX11_row_18 ?_
    refine k_goto (pc := 19) C dX11_row_19 (tgt := 24) (by decide) ?_
    have h := Option.some.inj h
    subst h
    exact k_iret (pc := 24) C hr hk dX11_row_24
theorem c_X11_row {E : Ev} {l : Launch} {S : Sh} {R : Rw} {I : Iw} {a0 : Nat} {x1 : Int32} {x2 : Int32} {r : Int32} (h : f_X11_row S R I a0 x1 x2 = some r) : Mt E l yX11_row cX11_row 3 (some .int) 2 44 [.ref (E.1 + a0), .int x1, .int x2] S R I S R I (some (.int r)) 0 0 := mt_of (by decide) (Nat.le_of_ble_eq_true rfl) (fun p e s m args below meth c C hr hk hn => b_X11_row C hr hk _ _ _ h)
theorem dX11_alterRow_0 : decode cX11_alterRow 0 = .ok (.aload_n 0, 1) := by decide +kernel
theorem dX11_alterRow_1 : decode cX11_alterRow 1 = .ok (.iload_n 1, 1) := by decide +kernel
theorem dX11_alterRow_2 : decode cX11_alterRow 2 = .ok (.iload_n 2, 1) := by decide +kernel
theorem dX11_alterRow_3 : decode cX11_alterRow 3 = .ok (.invokevirtual 212, 3) := by decide +kernel
theorem dX11_alterRow_6 : decode cX11_alterRow 6 = .ok (.ifCond .ne 6, 3) := by decide +kernel
theorem dX11_alterRow_9 : decode cX11_alterRow 9 = .ok (.bipush (-9), 2) := by decide +kernel
theorem dX11_alterRow_11 : decode cX11_alterRow 11 = .ok (.ireturn, 1) := by decide +kernel
theorem dX11_alterRow_12 : decode cX11_alterRow 12 = .ok (.aload_n 0, 1) := by decide +kernel
theorem dX11_alterRow_13 : decode cX11_alterRow 13 = .ok (.getfield 35, 3) := by decide +kernel
theorem dX11_alterRow_16 : decode cX11_alterRow 16 = .ok (.iload_n 1, 1) := by decide +kernel
theorem dX11_alterRow_17 : decode cX11_alterRow 17 = .ok (.iconst 3, 1) := by decide +kernel
theorem dX11_alterRow_18 : decode cX11_alterRow 18 = .ok (.imul, 1) := by decide +kernel
theorem dX11_alterRow_19 : decode cX11_alterRow 19 = .ok (.iload_n 2, 1) := by decide +kernel
theorem dX11_alterRow_20 : decode cX11_alterRow 20 = .ok (.iadd, 1) := by decide +kernel
theorem dX11_alterRow_21 : decode cX11_alterRow 21 = .ok (.iaload, 1) := by decide +kernel
theorem dX11_alterRow_22 : decode cX11_alterRow 22 = .ok (.istore 4, 2) := by decide +kernel
theorem dX11_alterRow_24 : decode cX11_alterRow 24 = .ok (.aload_n 0, 1) := by decide +kernel
theorem dX11_alterRow_25 : decode cX11_alterRow 25 = .ok (.getfield 35, 3) := by decide +kernel
theorem dX11_alterRow_28 : decode cX11_alterRow 28 = .ok (.iload_n 1, 1) := by decide +kernel
theorem dX11_alterRow_29 : decode cX11_alterRow 29 = .ok (.iconst 3, 1) := by decide +kernel
theorem dX11_alterRow_30 : decode cX11_alterRow 30 = .ok (.imul, 1) := by decide +kernel
theorem dX11_alterRow_31 : decode cX11_alterRow 31 = .ok (.iload_n 2, 1) := by decide +kernel
theorem dX11_alterRow_32 : decode cX11_alterRow 32 = .ok (.iadd, 1) := by decide +kernel
theorem dX11_alterRow_33 : decode cX11_alterRow 33 = .ok (.iload_n 3, 1) := by decide +kernel
theorem dX11_alterRow_34 : decode cX11_alterRow 34 = .ok (.iastore, 1) := by decide +kernel
theorem dX11_alterRow_35 : decode cX11_alterRow 35 = .ok (.iload 4, 2) := by decide +kernel
theorem dX11_alterRow_37 : decode cX11_alterRow 37 = .ok (.ireturn, 1) := by decide +kernel
def f_X11_alterRow (S : Sh) (R : Rw)  (I : Iw) (a0 : Nat) (x1 : Int32) (x2 : Int32) (x3 : Int32) : Option (Iw × Int32) := gp (sok S a0 11 12) (bd (f_X11_isCell S R I a0 x1 x2) (fun r2 => (if r2 = 0 then some (I, (-9 : Int32)) else rl (R a0 5) (fun b4 => gp (aok S 20 b4 ((x1 * (3 : Int32)) + x2)) (rl (R a0 5) (fun b6 => gp (aok S 20 b6 ((x1 * (3 : Int32)) + x2)) (lt (up2 I b6 ((x1 * (3 : Int32)) + x2).toNatClampNeg x3) (fun I8 => some (I8, I b4 ((x1 * (3 : Int32)) + x2).toNatClampNeg)))))))))
set_option maxHeartbeats 4000000 in
theorem b_X11_alterRow {E : Ev} {p : Program} {l : Launch} {e : Env} {s : State} {m : MethodId} {args : Array Value} {below : List Frame} {meth : Method} {c : Code} (C : Cx E RX11 cX11_alterRow 5 p s m c) (hr : meth.sig.returnType = (some .int)) (hk : meth.locks = false) {S : Sh} {R : Rw} {r : Iw × Int32}  : ∀ (I : Iw) (a0 : Nat) (x1 : Int32) (x2 : Int32) (x3 : Int32), f_X11_alterRow S R   I a0 x1 x2 x3 = some r → Wk E 5 p l e ({ frames := 2, cells := 0, slots := 0, locals := 44 } : Room) s m args below meth c 0 0 (MQ below (Qw E S R r.1 (some (.int r.2))) args s 0 0 (fun q => E.1 ≤ q)) 0 [(0, .ref (E.1 + a0)), (1, .int x1), (2, .int x2), (3, .int x3)] [] S R I := by
  intro I a0 x1 x2 x3 h
  rw [f_X11_alterRow] at h
  refine k_aloadn (pc := 0) C dX11_alterRow_0 (i := 0) rfl 0 rfl ?_
  refine k_iloadn (pc := 1) C dX11_alterRow_1 (i := 1) rfl 1 rfl ?_
  refine k_iloadn (pc := 2) C dX11_alterRow_2 (i := 2) rfl 2 rfl ?_
  obtain ⟨hs10, h⟩ := gp_e h
  have hs1 := sok_e hs10
  obtain ⟨r2, hr2, h⟩ := bd_e h
  refine k_V (pc := 3) (st := []) C (c_X11_isCell hr2) lkV_RX11_212 hs1 rfl rfl rfl (Nat.le_of_ble_eq_true rfl) (Nat.le_of_ble_eq_true rfl) (Nat.le_of_ble_eq_true rfl) (Nat.le_of_ble_eq_true rfl) (Nat.le_of_ble_eq_true rfl) dX11_alterRow_3 ?_
  refine k_nf (cells2 := 0) (slots2 := 0) (st2 := [.int r2]) rfl rfl rfl ?_
  refine k_if_ne (pc := 6) C dX11_alterRow_6 (tgt := 12) (by decide) (fun hc3 => ?_) (fun hc3 => ?_)
  · rw [if_neg hc3] at h
    refine k_aloadn (pc := 12) C dX11_alterRow_12 (i := 0) rfl 0 rfl ?_
    obtain ⟨b4, hb4, h⟩ := rl_e h
    refine k_getR (pc := 13) C lkF_RX11_35_11 hs1 ir_11_5 hb4 dX11_alterRow_13 ?_
    refine k_iloadn (pc := 16) C dX11_alterRow_16 (i := 1) rfl 1 rfl ?_
    refine k_iconst (pc := 17) C (v := (3 : Int32)) dX11_alterRow_17 (by decide) ?_
    refine k_imul (pc := 18) C dX11_alterRow_18 ?_
    refine k_iloadn (pc := 19) C dX11_alterRow_19 (i := 2) rfl 2 rfl ?_
    refine k_iadd (pc := 20) C dX11_alterRow_20 ?_
    obtain ⟨ha5, h⟩ := gp_e h
    refine k_iald (pc := 21) C ha5 dX11_alterRow_21 ?_
    refine k_istore (pc := 22) C dX11_alterRow_22 (by decide) (L2 := [(0, .ref (E.1 + a0)), (1, .int x1), (2, .int x2), (3, .int x3), (4, .int (I b4 ((x1 * (3 : Int32)) + x2).toNatClampNeg))]) rfl ?_
    refine k_aloadn (pc := 24) C dX11_alterRow_24 (i := 0) rfl 0 rfl ?_
    obtain ⟨b6, hb6, h⟩ := rl_e h
    refine k_getR (pc := 25) C lkF_RX11_35_11 hs1 ir_11_5 hb6 dX11_alterRow_25 ?_
    refine k_iloadn (pc := 28) C dX11_alterRow_28 (i := 1) rfl 1 rfl ?_
    refine k_iconst (pc := 29) C (v := (3 : Int32)) dX11_alterRow_29 (by decide) ?_
    refine k_imul (pc := 30) C dX11_alterRow_30 ?_
    refine k_iloadn (pc := 31) C dX11_alterRow_31 (i := 2) rfl 2 rfl ?_
    refine k_iadd (pc := 32) C dX11_alterRow_32 ?_
    refine k_iloadn (pc := 33) C dX11_alterRow_33 (i := 3) rfl 3 rfl ?_
    obtain ⟨ha7, h⟩ := gp_e h
    obtain ⟨I8, eI8, h⟩ := lt_e h
    refine k_iast (pc := 34) C ha7 dX11_alterRow_34 ?_
    rw [← eI8]
    refine k_iload (pc := 35) C dX11_alterRow_35 4 rfl ?_
    have h := Option.some.inj h
    subst h
    exact k_iret (pc := 37) C hr hk dX11_alterRow_37
  · rw [if_pos hc3] at h
    refine k_bipush (pc := 9) C (v := (-9 : Int32)) dX11_alterRow_9 (by decide) ?_
    have h := Option.some.inj h
    subst h
    exact k_iret (pc := 11) C hr hk dX11_alterRow_11
theorem c_X11_alterRow {E : Ev} {l : Launch} {S : Sh} {R : Rw} {I : Iw} {a0 : Nat} {x1 : Int32} {x2 : Int32} {x3 : Int32} {r : Iw × Int32} (h : f_X11_alterRow S R I a0 x1 x2 x3 = some r) : Mt E l yX11_alterRow cX11_alterRow 5 (some .int) 2 44 [.ref (E.1 + a0), .int x1, .int x2, .int x3] S R I S R r.1 (some (.int r.2)) 0 0 := mt_of (by decide) (Nat.le_of_ble_eq_true rfl) (fun p e s m args below meth c C hr hk hn => b_X11_alterRow C hr hk _ _ _ _ _ h)
theorem dX11_judge_0 : decode cX11_judge 0 = .ok (.aload_n 0, 1) := by decide +kernel
theorem dX11_judge_1 : decode cX11_judge 1 = .ok (.getfield 12, 3) := by decide +kernel
theorem dX11_judge_4 : decode cX11_judge 4 = .ok (.getfield 89, 3) := by decide +kernel
theorem dX11_judge_7 : decode cX11_judge 7 = .ok (.istore_n 1, 1) := by decide +kernel
theorem dX11_judge_8 : decode cX11_judge 8 = .ok (.aload_n 0, 1) := by decide +kernel
theorem dX11_judge_9 : decode cX11_judge 9 = .ok (.getfield 12, 3) := by decide +kernel
theorem dX11_judge_12 : decode cX11_judge 12 = .ok (.invokevirtual 93, 3) := by decide +kernel
theorem dX11_judge_15 : decode cX11_judge 15 = .ok (.istore_n 2, 1) := by decide +kernel
theorem dX11_judge_16 : decode cX11_judge 16 = .ok (.iconst 0, 1) := by decide +kernel
theorem dX11_judge_17 : decode cX11_judge 17 = .ok (.istore_n 3, 1) := by decide +kernel
theorem dX11_judge_18 : decode cX11_judge 18 = .ok (.iload_n 3, 1) := by decide +kernel
theorem dX11_judge_19 : decode cX11_judge 19 = .ok (.aload_n 0, 1) := by decide +kernel
theorem dX11_judge_20 : decode cX11_judge 20 = .ok (.getfield 209, 3) := by decide +kernel
theorem dX11_judge_23 : decode cX11_judge 23 = .ok (.if_icmp .ge 105, 3) := by decide +kernel
theorem dX11_judge_26 : decode cX11_judge 26 = .ok (.aload_n 0, 1) := by decide +kernel
theorem dX11_judge_27 : decode cX11_judge 27 = .ok (.getfield 35, 3) := by decide +kernel
theorem dX11_judge_30 : decode cX11_judge 30 = .ok (.iload_n 3, 1) := by decide +kernel
theorem dX11_judge_31 : decode cX11_judge 31 = .ok (.iconst 3, 1) := by decide +kernel
theorem dX11_judge_32 : decode cX11_judge 32 = .ok (.imul, 1) := by decide +kernel
theorem dX11_judge_33 : decode cX11_judge 33 = .ok (.iaload, 1) := by decide +kernel
theorem dX11_judge_34 : decode cX11_judge 34 = .ok (.istore 4, 2) := by decide +kernel
theorem dX11_judge_36 : decode cX11_judge 36 = .ok (.aload_n 0, 1) := by decide +kernel
theorem dX11_judge_37 : decode cX11_judge 37 = .ok (.getfield 12, 3) := by decide +kernel
theorem dX11_judge_40 : decode cX11_judge 40 = .ok (.iload 4, 2) := by decide +kernel
theorem dX11_judge_42 : decode cX11_judge 42 = .ok (.invokevirtual 63, 3) := by decide +kernel
theorem dX11_judge_45 : decode cX11_judge 45 = .ok (.ifCond .eq 20, 3) := by decide +kernel
theorem dX11_judge_48 : decode cX11_judge 48 = .ok (.aload_n 0, 1) := by decide +kernel
theorem dX11_judge_49 : decode cX11_judge 49 = .ok (.getfield 12, 3) := by decide +kernel
theorem dX11_judge_52 : decode cX11_judge 52 = .ok (.iload_n 1, 1) := by decide +kernel
theorem dX11_judge_53 : decode cX11_judge 53 = .ok (.iload_n 2, 1) := by decide +kernel
theorem dX11_judge_54 : decode cX11_judge 54 = .ok (.invokevirtual 97, 3) := by decide +kernel
theorem dX11_judge_57 : decode cX11_judge 57 = .ok (.iload 4, 2) := by decide +kernel
theorem dX11_judge_59 : decode cX11_judge 59 = .ok (.invokestatic 101, 3) := by decide +kernel
theorem dX11_judge_62 : decode cX11_judge 62 = .ok (.ifCond .ne 7, 3) := by decide +kernel
theorem dX11_judge_65 : decode cX11_judge 65 = .ok (.iload_n 3, 1) := by decide +kernel
theorem dX11_judge_66 : decode cX11_judge 66 = .ok (.iconst 1, 1) := by decide +kernel
theorem dX11_judge_67 : decode cX11_judge 67 = .ok (.iadd, 1) := by decide +kernel
theorem dX11_judge_68 : decode cX11_judge 68 = .ok (.ireturn, 1) := by decide +kernel
theorem dX11_judge_69 : decode cX11_judge 69 = .ok (.iload_n 1, 1) := by decide +kernel
theorem dX11_judge_70 : decode cX11_judge 70 = .ok (.iload 4, 2) := by decide +kernel
theorem dX11_judge_72 : decode cX11_judge 72 = .ok (.invokestatic 173, 3) := by decide +kernel
theorem dX11_judge_75 : decode cX11_judge 75 = .ok (.istore_n 1, 1) := by decide +kernel
theorem dX11_judge_76 : decode cX11_judge 76 = .ok (.iload 4, 2) := by decide +kernel
theorem dX11_judge_78 : decode cX11_judge 78 = .ok (.istore_n 2, 1) := by decide +kernel
theorem dX11_judge_79 : decode cX11_judge 79 = .ok (.aload_n 0, 1) := by decide +kernel
theorem dX11_judge_80 : decode cX11_judge 80 = .ok (.getfield 35, 3) := by decide +kernel
theorem dX11_judge_83 : decode cX11_judge 83 = .ok (.iload_n 3, 1) := by decide +kernel
theorem dX11_judge_84 : decode cX11_judge 84 = .ok (.iconst 3, 1) := by decide +kernel
theorem dX11_judge_85 : decode cX11_judge 85 = .ok (.imul, 1) := by decide +kernel
theorem dX11_judge_86 : decode cX11_judge 86 = .ok (.iconst 1, 1) := by decide +kernel
theorem dX11_judge_87 : decode cX11_judge 87 = .ok (.iadd, 1) := by decide +kernel
theorem dX11_judge_88 : decode cX11_judge 88 = .ok (.iaload, 1) := by decide +kernel
theorem dX11_judge_89 : decode cX11_judge 89 = .ok (.iload_n 1, 1) := by decide +kernel
theorem dX11_judge_90 : decode cX11_judge 90 = .ok (.invokestatic 194, 3) := by decide +kernel
theorem dX11_judge_93 : decode cX11_judge 93 = .ok (.if_icmp .ne 25, 3) := by decide +kernel
theorem dX11_judge_96 : decode cX11_judge 96 = .ok (.aload_n 0, 1) := by decide +kernel
theorem dX11_judge_97 : decode cX11_judge 97 = .ok (.getfield 35, 3) := by decide +kernel
theorem dX11_judge_100 : decode cX11_judge 100 = .ok (.iload_n 3, 1) := by decide +kernel
theorem dX11_judge_101 : decode cX11_judge 101 = .ok (.iconst 3, 1) := by decide +kernel
theorem dX11_judge_102 : decode cX11_judge 102 = .ok (.imul, 1) := by decide +kernel
theorem dX11_judge_103 : decode cX11_judge 103 = .ok (.iconst 2, 1) := by decide +kernel
theorem dX11_judge_104 : decode cX11_judge 104 = .ok (.iadd, 1) := by decide +kernel
theorem dX11_judge_105 : decode cX11_judge 105 = .ok (.iaload, 1) := by decide +kernel
theorem dX11_judge_106 : decode cX11_judge 106 = .ok (.aload_n 0, 1) := by decide +kernel
theorem dX11_judge_107 : decode cX11_judge 107 = .ok (.getfield 12, 3) := by decide +kernel
theorem dX11_judge_110 : decode cX11_judge 110 = .ok (.iload 4, 2) := by decide +kernel
theorem dX11_judge_112 : decode cX11_judge 112 = .ok (.invokevirtual 79, 3) := by decide +kernel
theorem dX11_judge_115 : decode cX11_judge 115 = .ok (.if_icmp .eq 7, 3) := by decide +kernel
theorem dX11_judge_118 : decode cX11_judge 118 = .ok (.iload_n 3, 1) := by decide +kernel
theorem dX11_judge_119 : decode cX11_judge 119 = .ok (.iconst 1, 1) := by decide +kernel
theorem dX11_judge_120 : decode cX11_judge 120 = .ok (.iadd, 1) := by decide +kernel
theorem dX11_judge_121 : decode cX11_judge 121 = .ok (.ireturn, 1) := by decide +kernel
theorem dX11_judge_122 : decode cX11_judge 122 = .ok (.iinc 3 1, 3) := by decide +kernel
theorem dX11_judge_125 : decode cX11_judge 125 = .ok (.goto (-107), 3) := by decide +kernel
theorem dX11_judge_128 : decode cX11_judge 128 = .ok (.aload_n 0, 1) := by decide +kernel
theorem dX11_judge_129 : decode cX11_judge 129 = .ok (.getfield 12, 3) := by decide +kernel
theorem dX11_judge_132 : decode cX11_judge 132 = .ok (.iload_n 1, 1) := by decide +kernel
theorem dX11_judge_133 : decode cX11_judge 133 = .ok (.iload_n 2, 1) := by decide +kernel
theorem dX11_judge_134 : decode cX11_judge 134 = .ok (.invokevirtual 97, 3) := by decide +kernel
theorem dX11_judge_137 : decode cX11_judge 137 = .ok (.ifCond .eq 10, 3) := by decide +kernel
theorem dX11_judge_140 : decode cX11_judge 140 = .ok (.aload_n 0, 1) := by decide +kernel
theorem dX11_judge_141 : decode cX11_judge 141 = .ok (.getfield 209, 3) := by decide +kernel
theorem dX11_judge_144 : decode cX11_judge 144 = .ok (.goto 4, 3) := by decide +kernel
theorem dX11_judge_147 : decode cX11_judge 147 = .ok (.iconst 0, 1) := by decide +kernel
theorem dX11_judge_148 : decode cX11_judge 148 = .ok (.ireturn, 1) := by decide +kernel
def f_X11_judge_18 (S : Sh) (R : Rw) (I : Iw)  : Nat → Nat → Int32 → Int32 → Int32 → Option (Int32)
  | 0, _, _, _, _ => none
  | n + 1, a0, x1, x2, x3 => gp (sok S a0 11 12) ((if (I a0 6) ≤ x3 then rl (R a0 0) (fun b9 => gp (sok S b9 7 16) (bd (f_X7_mayGo S R I b9 x1 x2) (fun r11 => (if r11 = 0 then some (0 : Int32) else some (I a0 6))))) else rl (R a0 5) (fun b13 => gp (aok S 20 b13 (x3 * (3 : Int32))) (rl (R a0 0) (fun b15 => gp (sok S b15 7 16) (bd (f_X7_has S R I b15 (I b13 (x3 * (3 : Int32)).toNatClampNeg)) (fun r17 => (if r17 = 0 then some (x3 + (1 : Int32)) else rl (R a0 0) (fun b19 => gp (sok S b19 7 16) (bd (f_X7_mayGo S R I b19 x1 x2) (fun r21 => bd (f_X11_holds S R I r21 (I b13 (x3 * (3 : Int32)).toNatClampNeg)) (fun r22 => (if r22 = 0 then some (x3 + (1 : Int32)) else bd (f_X11_without S R I x1 (I b13 (x3 * (3 : Int32)).toNatClampNeg)) (fun r24 => rl (R a0 5) (fun b25 => gp (aok S 20 b25 ((x3 * (3 : Int32)) + (1 : Int32))) (bd (f_J6_bitCount_0f7a4 S R I r24) (fun r27 => (if (I b25 ((x3 * (3 : Int32)) + (1 : Int32)).toNatClampNeg) = r27 then rl (R a0 5) (fun b29 => gp (aok S 20 b29 ((x3 * (3 : Int32)) + (2 : Int32))) (rl (R a0 0) (fun b31 => gp (sok S b31 7 16) (bd (f_X7_fee S R I b31 (I b13 (x3 * (3 : Int32)).toNatClampNeg)) (fun r33 => (if (I b29 ((x3 * (3 : Int32)) + (2 : Int32)).toNatClampNeg) = r33 then f_X11_judge_18 S R I  n a0 r24 (I b13 (x3 * (3 : Int32)).toNatClampNeg) (x3 + (1 : Int32)) else some (x3 + (1 : Int32)))))))) else some (x3 + (1 : Int32))))))))))))))))))))
set_option maxHeartbeats 4000000 in
theorem b_X11_judge_18 {E : Ev} {p : Program} {l : Launch} {e : Env} {s : State} {m : MethodId} {args : Array Value} {below : List Frame} {meth : Method} {c : Code} (C : Cx E RX11 cX11_judge 5 p s m c) (hr : meth.sig.returnType = (some .int)) (hk : meth.locks = false) {S : Sh} {R : Rw} {I : Iw} {r : Int32}  : ∀ (n : Nat) (a0 : Nat) (x1 : Int32) (x2 : Int32) (x3 : Int32), f_X11_judge_18 S R I  n a0 x1 x2 x3 = some r → Wk E 5 p l e ({ frames := 5, cells := 0, slots := 0, locals := 117 } : Room) s m args below meth c 0 0 (MQ below (Qw E S R I (some (.int r))) args s 0 0 (fun q => E.1 ≤ q)) 18 [(0, .ref (E.1 + a0)), (1, .int x1), (2, .int x2), (3, .int x3)] [] S R I := by
  intro n
  induction n with
  | zero =>
    intro a0 x1 x2 x3 h
    rw [f_X11_judge_18] at h
    cases h
  | succ n ih =>
    intro a0 x1 x2 x3 h
    rw [f_X11_judge_18] at h
    refine k_iloadn (pc := 18) C dX11_judge_18 (i := 3) rfl 3 rfl ?_
    refine k_aloadn (pc := 19) C dX11_judge_19 (i := 0) rfl 0 rfl ?_
    obtain ⟨hs70, h⟩ := gp_e h
    have hs7 := sok_e hs70
    refine k_getI (pc := 20) C lkF_RX11_209_11 hs7 ir_11_6 dX11_judge_20 ?_
    refine k_icmp_ge (pc := 23) C dX11_judge_23 (tgt := 128) (by decide) (fun hc8 => ?_) (fun hc8 => ?_)
    · rw [if_pos hc8] at h
      refine k_aloadn (pc := 128) C dX11_judge_128 (i := 0) rfl 0 rfl ?_
      obtain ⟨b9, hb9, h⟩ := rl_e h
      refine k_getR (pc := 129) C lkF_RX11_12_11 hs7 ir_11_0 hb9 dX11_judge_129 ?_
      refine k_iloadn (pc := 132) C dX11_judge_132 (i := 1) rfl 1 rfl ?_
      refine k_iloadn (pc := 133) C dX11_judge_133 (i := 2) rfl 2 rfl ?_
      obtain ⟨hs100, h⟩ := gp_e h
      have hs10 := sok_e hs100
      obtain ⟨r11, hr11, h⟩ := bd_e h
      refine k_V (pc := 134) (st := []) C (c_X7_mayGo hr11) lkV_RX11_97 hs10 rfl rfl rfl (Nat.le_of_ble_eq_true rfl) (Nat.le_of_ble_eq_true rfl) (Nat.le_of_ble_eq_true rfl) (Nat.le_of_ble_eq_true rfl) (Nat.le_of_ble_eq_true rfl) dX11_judge_134 ?_
      refine k_nf (cells2 := 0) (slots2 := 0) (st2 := [.int r11]) rfl rfl rfl ?_
      refine k_if_eq (pc := 137) C dX11_judge_137 (tgt := 147) (by decide) (fun hc12 => ?_) (fun hc12 => ?_)
      · rw [if_pos hc12] at h
        refine k_iconst (pc := 147) C (v := (0 : Int32)) dX11_judge_147 (by decide) ?_
        have h := Option.some.inj h
        subst h
        exact k_iret (pc := 148) C hr hk dX11_judge_148
      · rw [if_neg hc12] at h
        refine k_aloadn (pc := 140) C dX11_judge_140 (i := 0) rfl 0 rfl ?_
        refine k_getI (pc := 141) C lkF_RX11_209_11 hs7 ir_11_6 dX11_judge_141 ?_
        refine k_goto (pc := 144) C dX11_judge_144 (tgt := 148) (by decide) ?_
        have h := Option.some.inj h
        subst h
        exact k_iret (pc := 148) C hr hk dX11_judge_148
    · rw [if_neg hc8] at h
      refine k_aloadn (pc := 26) C dX11_judge_26 (i := 0) rfl 0 rfl ?_
      obtain ⟨b13, hb13, h⟩ := rl_e h
      refine k_getR (pc := 27) C lkF_RX11_35_11 hs7 ir_11_5 hb13 dX11_judge_27 ?_
      refine k_iloadn (pc := 30) C dX11_judge_30 (i := 3) rfl 3 rfl ?_
      refine k_iconst (pc := 31) C (v := (3 : Int32)) dX11_judge_31 (by decide) ?_
      refine k_imul (pc := 32) C dX11_judge_32 ?_
      obtain ⟨ha14, h⟩ := gp_e h
      refine k_iald (pc := 33) C ha14 dX11_judge_33 ?_
      refine k_istore (pc := 34) C dX11_judge_34 (by decide) (L2 := [(0, .ref (E.1 + a0)), (1, .int x1), (2, .int x2), (3, .int x3), (4, .int (I b13 (x3 * (3 : Int32)).toNatClampNeg))]) rfl ?_
      refine k_aloadn (pc := 36) C dX11_judge_36 (i := 0) rfl 0 rfl ?_
      obtain ⟨b15, hb15, h⟩ := rl_e h
      refine k_getR (pc := 37) C lkF_RX11_12_11 hs7 ir_11_0 hb15 dX11_judge_37 ?_
      refine k_iload (pc := 40) C dX11_judge_40 4 rfl ?_
      obtain ⟨hs160, h⟩ := gp_e h
      have hs16 := sok_e hs160
      obtain ⟨r17, hr17, h⟩ := bd_e h
      refine k_V (pc := 42) (st := []) C (c_X7_has hr17) lkV_RX11_63 hs16 rfl rfl rfl (Nat.le_of_ble_eq_true rfl) (Nat.le_of_ble_eq_true rfl) (Nat.le_of_ble_eq_true rfl) (Nat.le_of_ble_eq_true rfl) (Nat.le_of_ble_eq_true rfl) dX11_judge_42 ?_
      refine k_nf (cells2 := 0) (slots2 := 0) (st2 := [.int r17]) rfl rfl rfl ?_
      refine k_if_eq (pc := 45) C dX11_judge_45 (tgt := 65) (by decide) (fun hc18 => ?_) (fun hc18 => ?_)
      · rw [if_pos hc18] at h
        refine k_iloadn (pc := 65) C dX11_judge_65 (i := 3) rfl 3 rfl ?_
        refine k_iconst (pc := 66) C (v := (1 : Int32)) dX11_judge_66 (by decide) ?_
        refine k_iadd (pc := 67) C dX11_judge_67 ?_
        have h := Option.some.inj h
        subst h
        exact k_iret (pc := 68) C hr hk dX11_judge_68
      · rw [if_neg hc18] at h
        refine k_aloadn (pc := 48) C dX11_judge_48 (i := 0) rfl 0 rfl ?_
        obtain ⟨b19, hb19, h⟩ := rl_e h
        refine k_getR (pc := 49) C lkF_RX11_12_11 hs7 ir_11_0 hb19 dX11_judge_49 ?_
        refine k_iloadn (pc := 52) C dX11_judge_52 (i := 1) rfl 1 rfl ?_
        refine k_iloadn (pc := 53) C dX11_judge_53 (i := 2) rfl 2 rfl ?_
        obtain ⟨hs200, h⟩ := gp_e h
        have hs20 := sok_e hs200
        obtain ⟨r21, hr21, h⟩ := bd_e h
        refine k_V (pc := 54) (st := []) C (c_X7_mayGo hr21) lkV_RX11_97 hs20 rfl rfl rfl (Nat.le_of_ble_eq_true rfl) (Nat.le_of_ble_eq_true rfl) (Nat.le_of_ble_eq_true rfl) (Nat.le_of_ble_eq_true rfl) (Nat.le_of_ble_eq_true rfl) dX11_judge_54 ?_
        refine k_nf (cells2 := 0) (slots2 := 0) (st2 := [.int r21]) rfl rfl rfl ?_
        refine k_iload (pc := 57) C dX11_judge_57 4 rfl ?_
        obtain ⟨r22, hr22, h⟩ := bd_e h
        refine k_S (pc := 59) (st := []) C (c_X11_holds hr22) lkS_RX11_101 rfl rfl (Nat.le_of_ble_eq_true rfl) (Nat.le_of_ble_eq_true rfl) (Nat.le_of_ble_eq_true rfl) (Nat.le_of_ble_eq_true rfl) (Nat.le_of_ble_eq_true rfl) dX11_judge_59 ?_
        refine k_nf (cells2 := 0) (slots2 := 0) (st2 := [.int r22]) rfl rfl rfl ?_
        refine k_if_ne (pc := 62) C dX11_judge_62 (tgt := 69) (by decide) (fun hc23 => ?_) (fun hc23 => ?_)
        · rw [if_neg hc23] at h
          refine k_iloadn (pc := 69) C dX11_judge_69 (i := 1) rfl 1 rfl ?_
          refine k_iload (pc := 70) C dX11_judge_70 4 rfl ?_
          obtain ⟨r24, hr24, h⟩ := bd_e h
          refine k_S (pc := 72) (st := []) C (c_X11_without hr24) lkS_RX11_173 rfl rfl (Nat.le_of_ble_eq_true rfl) (Nat.le_of_ble_eq_true rfl) (Nat.le_of_ble_eq_true rfl) (Nat.le_of_ble_eq_true rfl) (Nat.le_of_ble_eq_true rfl) dX11_judge_72 ?_
          refine k_nf (cells2 := 0) (slots2 := 0) (st2 := [.int r24]) rfl rfl rfl ?_
          refine k_istoren (pc := 75) C dX11_judge_75 (i := 1) rfl (by decide) (L2 := [(0, .ref (E.1 + a0)), (1, .int r24), (2, .int x2), (3, .int x3), (4, .int (I b13 (x3 * (3 : Int32)).toNatClampNeg))]) rfl ?_
          refine k_iload (pc := 76) C dX11_judge_76 4 rfl ?_
          refine k_istoren (pc := 78) C dX11_judge_78 (i := 2) rfl (by decide) (L2 := [(0, .ref (E.1 + a0)), (1, .int r24), (2, .int (I b13 (x3 * (3 : Int32)).toNatClampNeg)), (3, .int x3), (4, .int (I b13 (x3 * (3 : Int32)).toNatClampNeg))]) rfl ?_
          refine k_aloadn (pc := 79) C dX11_judge_79 (i := 0) rfl 0 rfl ?_
          obtain ⟨b25, hb25, h⟩ := rl_e h
          refine k_getR (pc := 80) C lkF_RX11_35_11 hs7 ir_11_5 hb25 dX11_judge_80 ?_
          refine k_iloadn (pc := 83) C dX11_judge_83 (i := 3) rfl 3 rfl ?_
          refine k_iconst (pc := 84) C (v := (3 : Int32)) dX11_judge_84 (by decide) ?_
          refine k_imul (pc := 85) C dX11_judge_85 ?_
          refine k_iconst (pc := 86) C (v := (1 : Int32)) dX11_judge_86 (by decide) ?_
          refine k_iadd (pc := 87) C dX11_judge_87 ?_
          obtain ⟨ha26, h⟩ := gp_e h
          refine k_iald (pc := 88) C ha26 dX11_judge_88 ?_
          refine k_iloadn (pc := 89) C dX11_judge_89 (i := 1) rfl 1 rfl ?_
          obtain ⟨r27, hr27, h⟩ := bd_e h
          refine k_S (pc := 90) (st := [.int (I b25 ((x3 * (3 : Int32)) + (1 : Int32)).toNatClampNeg)]) C (c_J6_bitCount_0f7a4 hr27) lkS_RX11_194 rfl rfl (Nat.le_of_ble_eq_true rfl) (Nat.le_of_ble_eq_true rfl) (Nat.le_of_ble_eq_true rfl) (Nat.le_of_ble_eq_true rfl) (Nat.le_of_ble_eq_true rfl) dX11_judge_90 ?_
          refine k_nf (cells2 := 0) (slots2 := 0) (st2 := [.int r27, .int (I b25 ((x3 * (3 : Int32)) + (1 : Int32)).toNatClampNeg)]) rfl rfl rfl ?_
          refine k_icmp_ne (pc := 93) C dX11_judge_93 (tgt := 118) (by decide) (fun hc28 => ?_) (fun hc28 => ?_)
          · rw [if_neg hc28] at h
            refine k_iloadn (pc := 118) C dX11_judge_118 (i := 3) rfl 3 rfl ?_
            refine k_iconst (pc := 119) C (v := (1 : Int32)) dX11_judge_119 (by decide) ?_
            refine k_iadd (pc := 120) C dX11_judge_120 ?_
            have h := Option.some.inj h
            subst h
            exact k_iret (pc := 121) C hr hk dX11_judge_121
          · rw [if_pos hc28] at h
            refine k_aloadn (pc := 96) C dX11_judge_96 (i := 0) rfl 0 rfl ?_
            obtain ⟨b29, hb29, h⟩ := rl_e h
            refine k_getR (pc := 97) C lkF_RX11_35_11 hs7 ir_11_5 hb29 dX11_judge_97 ?_
            refine k_iloadn (pc := 100) C dX11_judge_100 (i := 3) rfl 3 rfl ?_
            refine k_iconst (pc := 101) C (v := (3 : Int32)) dX11_judge_101 (by decide) ?_
            refine k_imul (pc := 102) C dX11_judge_102 ?_
            refine k_iconst (pc := 103) C (v := (2 : Int32)) dX11_judge_103 (by decide) ?_
            refine k_iadd (pc := 104) C dX11_judge_104 ?_
            obtain ⟨ha30, h⟩ := gp_e h
            refine k_iald (pc := 105) C ha30 dX11_judge_105 ?_
            refine k_aloadn (pc := 106) C dX11_judge_106 (i := 0) rfl 0 rfl ?_
            obtain ⟨b31, hb31, h⟩ := rl_e h
            refine k_getR (pc := 107) C lkF_RX11_12_11 hs7 ir_11_0 hb31 dX11_judge_107 ?_
            refine k_iload (pc := 110) C dX11_judge_110 4 rfl ?_
            obtain ⟨hs320, h⟩ := gp_e h
            have hs32 := sok_e hs320
            obtain ⟨r33, hr33, h⟩ := bd_e h
            refine k_V (pc := 112) (st := [.int (I b29 ((x3 * (3 : Int32)) + (2 : Int32)).toNatClampNeg)]) C (c_X7_fee hr33) lkV_RX11_79 hs32 rfl rfl rfl (Nat.le_of_ble_eq_true rfl) (Nat.le_of_ble_eq_true rfl) (Nat.le_of_ble_eq_true rfl) (Nat.le_of_ble_eq_true rfl) (Nat.le_of_ble_eq_true rfl) dX11_judge_112 ?_
            refine k_nf (cells2 := 0) (slots2 := 0) (st2 := [.int r33, .int (I b29 ((x3 * (3 : Int32)) + (2 : Int32)).toNatClampNeg)]) rfl rfl rfl ?_
            refine k_icmp_eq (pc := 115) C dX11_judge_115 (tgt := 122) (by decide) (fun hc34 => ?_) (fun hc34 => ?_)
            · rw [if_pos hc34] at h
              refine k_iinc (pc := 122) C dX11_judge_122 3 rfl (v := x3 + (1 : Int32)) (by rfl) (by decide) (L2 := [(0, .ref (E.1 + a0)), (1, .int r24), (2, .int (I b13 (x3 * (3 : Int32)).toNatClampNeg)), (3, .int (x3 + (1 : Int32))), (4, .int (I b13 (x3 * (3 : Int32)).toNatClampNeg))]) rfl ?_
              refine k_goto (pc := 125) C dX11_judge_125 (tgt := 18) (by decide) ?_
              refine k_loc (L2 := [(0, .ref (E.1 + a0)), (1, .int r24), (2, .int (I b13 (x3 * (3 : Int32)).toNatClampNeg)), (3, .int (x3 + (1 : Int32)))]) [0, 1, 2, 3] rfl ?_
              exact ih _ _ _ _ h
            · rw [if_neg hc34] at h
              refine k_iloadn (pc := 118) C dX11_judge_118 (i := 3) rfl 3 rfl ?_
              refine k_iconst (pc := 119) C (v := (1 : Int32)) dX11_judge_119 (by decide) ?_
              refine k_iadd (pc := 120) C dX11_judge_120 ?_
              have h := Option.some.inj h
              subst h
              exact k_iret (pc := 121) C hr hk dX11_judge_121
        · rw [if_pos hc23] at h
          refine k_iloadn (pc := 65) C dX11_judge_65 (i := 3) rfl 3 rfl ?_
          refine k_iconst (pc := 66) C (v := (1 : Int32)) dX11_judge_66 (by decide) ?_
          refine k_iadd (pc := 67) C dX11_judge_67 ?_
          have h := Option.some.inj h
          subst h
          exact k_iret (pc := 68) C hr hk dX11_judge_68
def f_X11_judge (S : Sh) (R : Rw) (I : Iw)  (a0 : Nat) : Option (Int32) := gp (sok S a0 11 12) (rl (R a0 0) (fun b2 => gp (sok S b2 7 16) (rl (R a0 0) (fun b4 => gp (sok S b4 7 16) (bd (f_X7_last S R I b4) (fun r6 => f_X11_judge_18 S R I  512 a0 (I b2 6) r6 (0 : Int32)))))))
set_option maxHeartbeats 4000000 in
theorem b_X11_judge {E : Ev} {p : Program} {l : Launch} {e : Env} {s : State} {m : MethodId} {args : Array Value} {below : List Frame} {meth : Method} {c : Code} (C : Cx E RX11 cX11_judge 5 p s m c) (hr : meth.sig.returnType = (some .int)) (hk : meth.locks = false) {S : Sh} {R : Rw} {I : Iw} {r : Int32}  : ∀ (a0 : Nat), f_X11_judge S R I   a0 = some r → Wk E 5 p l e ({ frames := 5, cells := 0, slots := 0, locals := 117 } : Room) s m args below meth c 0 0 (MQ below (Qw E S R I (some (.int r))) args s 0 0 (fun q => E.1 ≤ q)) 0 [(0, .ref (E.1 + a0))] [] S R I := by
  intro a0 h
  rw [f_X11_judge] at h
  refine k_aloadn (pc := 0) C dX11_judge_0 (i := 0) rfl 0 rfl ?_
  obtain ⟨hs10, h⟩ := gp_e h
  have hs1 := sok_e hs10
  obtain ⟨b2, hb2, h⟩ := rl_e h
  refine k_getR (pc := 1) C lkF_RX11_12_11 hs1 ir_11_0 hb2 dX11_judge_1 ?_
  obtain ⟨hs30, h⟩ := gp_e h
  have hs3 := sok_e hs30
  refine k_getI (pc := 4) C lkF_RX11_89_7 hs3 ir_7_6 dX11_judge_4 ?_
  refine k_istoren (pc := 7) C dX11_judge_7 (i := 1) rfl (by decide) (L2 := [(0, .ref (E.1 + a0)), (1, .int (I b2 6))]) rfl ?_
  refine k_aloadn (pc := 8) C dX11_judge_8 (i := 0) rfl 0 rfl ?_
  obtain ⟨b4, hb4, h⟩ := rl_e h
  refine k_getR (pc := 9) C lkF_RX11_12_11 hs1 ir_11_0 hb4 dX11_judge_9 ?_
  obtain ⟨hs50, h⟩ := gp_e h
  have hs5 := sok_e hs50
  obtain ⟨r6, hr6, h⟩ := bd_e h
  refine k_V (pc := 12) (st := []) C (c_X7_last hr6) lkV_RX11_93 hs5 rfl rfl rfl (Nat.le_of_ble_eq_true rfl) (Nat.le_of_ble_eq_true rfl) (Nat.le_of_ble_eq_true rfl) (Nat.le_of_ble_eq_true rfl) (Nat.le_of_ble_eq_true rfl) dX11_judge_12 ?_
  refine k_nf (cells2 := 0) (slots2 := 0) (st2 := [.int r6]) rfl rfl rfl ?_
  refine k_istoren (pc := 15) C dX11_judge_15 (i := 2) rfl (by decide) (L2 := [(0, .ref (E.1 + a0)), (1, .int (I b2 6)), (2, .int r6)]) rfl ?_
  refine k_iconst (pc := 16) C (v := (0 : Int32)) dX11_judge_16 (by decide) ?_
  refine k_istoren (pc := 17) C dX11_judge_17 (i := 3) rfl (by decide) (L2 := [(0, .ref (E.1 + a0)), (1, .int (I b2 6)), (2, .int r6), (3, .int (0 : Int32))]) rfl ?_
  exact b_X11_judge_18 C hr hk  _ _ _ _ _ h
theorem c_X11_judge {E : Ev} {l : Launch} {S : Sh} {R : Rw} {I : Iw} {a0 : Nat} {r : Int32} (h : f_X11_judge S R I a0 = some r) : Mt E l yX11_judge cX11_judge 5 (some .int) 5 117 [.ref (E.1 + a0)] S R I S R I (some (.int r)) 0 0 := mt_of (by decide) (Nat.le_of_ble_eq_true rfl) (fun p e s m args below meth c C hr hk hn => b_X11_judge C hr hk _ h)
theorem dX11_isSheet_0 : decode cX11_isSheet 0 = .ok (.iload_n 0, 1) := by decide +kernel
theorem dX11_isSheet_1 : decode cX11_isSheet 1 = .ok (.iconst 0, 1) := by decide +kernel
theorem dX11_isSheet_2 : decode cX11_isSheet 2 = .ok (.iconst 3, 1) := by decide +kernel
theorem dX11_isSheet_3 : decode cX11_isSheet 3 = .ok (.invokestatic 55, 3) := by decide +kernel
theorem dX11_isSheet_6 : decode cX11_isSheet 6 = .ok (.ireturn, 1) := by decide +kernel
def f_X11_isSheet (S : Sh) (R : Rw) (I : Iw)  (x0 : Int32) : Option (Int32) := bd (f_X11_isBetween S R I x0 (0 : Int32) (3 : Int32)) (fun r1 => gp (zok r1) (some r1))
set_option maxHeartbeats 4000000 in
theorem b_X11_isSheet {E : Ev} {p : Program} {l : Launch} {e : Env} {s : State} {m : MethodId} {args : Array Value} {below : List Frame} {meth : Method} {c : Code} (C : Cx E RX11 cX11_isSheet 1 p s m c) (hr : meth.sig.returnType = (some .boolean)) (hk : meth.locks = false) {S : Sh} {R : Rw} {I : Iw} {r : Int32}  : ∀ (x0 : Int32), f_X11_isSheet S R I   x0 = some r → Wk E 1 p l e ({ frames := 1, cells := 0, slots := 0, locals := 22 } : Room) s m args below meth c 0 0 (MQ below (Qw E S R I (some (.int r))) args s 0 0 (fun q => E.1 ≤ q)) 0 [(0, .int x0)] [] S R I := by
  intro x0 h
  rw [f_X11_isSheet] at h
  refine k_iloadn (pc := 0) C dX11_isSheet_0 (i := 0) rfl 0 rfl ?_
  refine k_iconst (pc := 1) C (v := (0 : Int32)) dX11_isSheet_1 (by decide) ?_
  refine k_iconst (pc := 2) C (v := (3 : Int32)) dX11_isSheet_2 (by decide) ?_
  obtain ⟨r1, hr1, h⟩ := bd_e h
  refine k_S (pc := 3) (st := []) C (c_X11_isBetween hr1) lkS_RX11_55 rfl rfl (Nat.le_of_ble_eq_true rfl) (Nat.le_of_ble_eq_true rfl) (Nat.le_of_ble_eq_true rfl) (Nat.le_of_ble_eq_true rfl) (Nat.le_of_ble_eq_true rfl) dX11_isSheet_3 ?_
  refine k_nf (cells2 := 0) (slots2 := 0) (st2 := [.int r1]) rfl rfl rfl ?_
  obtain ⟨hz2, h⟩ := gp_e h
  have h := Option.some.inj h
  subst h
  exact k_zret (pc := 6) C hr hk (of_decide_eq_true hz2) dX11_isSheet_6
theorem c_X11_isSheet {E : Ev} {l : Launch} {S : Sh} {R : Rw} {I : Iw} {x0 : Int32} {r : Int32} (h : f_X11_isSheet S R I x0 = some r) : Mt E l yX11_isSheet cX11_isSheet 1 (some .boolean) 1 22 [.int x0] S R I S R I (some (.int r)) 0 0 := mt_of (by decide) (Nat.le_of_ble_eq_true rfl) (fun p e s m args below meth c C hr hk hn => b_X11_isSheet C hr hk _ h)
theorem lkS_RX11_215 : LkS RX11 215 yX11_isSheet cX11_isSheet 1 (some .boolean) 1 := ⟨(t4_in 32 (by decide +kernel) rfl), (t4_in 33 (by decide +kernel) rfl), (t4_in 34 (by decide +kernel) rfl), (t1_in 1 (by decide +kernel) rfl), by decide, by decide +kernel⟩
theorem lkV_RX11_218 : LkV RX11 218 RX8 yX8_become cX8_become 4 none 2 := ⟨(t4_in 35 (by decide +kernel) rfl), (t4_in 36 (by decide +kernel) rfl), (t4_in 37 (by decide +kernel) rfl), (t4_in 38 (by decide +kernel) rfl), (t1_in 6 (by decide +kernel) rfl), by decide, by decide +kernel⟩
theorem dX11_sheet_0 : decode cX11_sheet 0 = .ok (.iload_n 1, 1) := by decide +kernel
theorem dX11_sheet_1 : decode cX11_sheet 1 = .ok (.invokestatic 215, 3) := by decide +kernel
theorem dX11_sheet_4 : decode cX11_sheet 4 = .ok (.ifCond .eq 23, 3) := by decide +kernel
theorem dX11_sheet_7 : decode cX11_sheet 7 = .ok (.iload_n 2, 1) := by decide +kernel
theorem dX11_sheet_8 : decode cX11_sheet 8 = .ok (.iconst (-1), 1) := by decide +kernel
theorem dX11_sheet_9 : decode cX11_sheet 9 = .ok (.iconst 4, 1) := by decide +kernel
theorem dX11_sheet_10 : decode cX11_sheet 10 = .ok (.invokestatic 55, 3) := by decide +kernel
theorem dX11_sheet_13 : decode cX11_sheet 13 = .ok (.ifCond .eq 14, 3) := by decide +kernel
theorem dX11_sheet_16 : decode cX11_sheet 16 = .ok (.iload_n 2, 1) := by decide +kernel
theorem dX11_sheet_17 : decode cX11_sheet 17 = .ok (.iconst (-1), 1) := by decide +kernel
theorem dX11_sheet_18 : decode cX11_sheet 18 = .ok (.if_icmp .eq 11, 3) := by decide +kernel
theorem dX11_sheet_21 : decode cX11_sheet 21 = .ok (.iload_n 3, 1) := by decide +kernel
theorem dX11_sheet_22 : decode cX11_sheet 22 = .ok (.bipush 40, 2) := by decide +kernel
theorem dX11_sheet_24 : decode cX11_sheet 24 = .ok (.if_icmp .le 5, 3) := by decide +kernel
theorem dX11_sheet_27 : decode cX11_sheet 27 = .ok (.iconst (-1), 1) := by decide +kernel
theorem dX11_sheet_28 : decode cX11_sheet 28 = .ok (.ireturn, 1) := by decide +kernel
theorem dX11_sheet_29 : decode cX11_sheet 29 = .ok (.iload_n 2, 1) := by decide +kernel
theorem dX11_sheet_30 : decode cX11_sheet 30 = .ok (.iconst (-1), 1) := by decide +kernel
theorem dX11_sheet_31 : decode cX11_sheet 31 = .ok (.if_icmp .eq 10, 3) := by decide +kernel
theorem dX11_sheet_34 : decode cX11_sheet 34 = .ok (.iload_n 3, 1) := by decide +kernel
theorem dX11_sheet_35 : decode cX11_sheet 35 = .ok (.ifCond .ge 6, 3) := by decide +kernel
theorem dX11_sheet_38 : decode cX11_sheet 38 = .ok (.bipush (-14), 2) := by decide +kernel
theorem dX11_sheet_40 : decode cX11_sheet 40 = .ok (.ireturn, 1) := by decide +kernel
theorem dX11_sheet_41 : decode cX11_sheet 41 = .ok (.aload_n 0, 1) := by decide +kernel
theorem dX11_sheet_42 : decode cX11_sheet 42 = .ok (.getfield 41, 3) := by decide +kernel
theorem dX11_sheet_45 : decode cX11_sheet 45 = .ok (.iload_n 1, 1) := by decide +kernel
theorem dX11_sheet_46 : decode cX11_sheet 46 = .ok (.aaload, 1) := by decide +kernel
theorem dX11_sheet_47 : decode cX11_sheet 47 = .ok (.iload_n 2, 1) := by decide +kernel
theorem dX11_sheet_48 : decode cX11_sheet 48 = .ok (.iload_n 2, 1) := by decide +kernel
theorem dX11_sheet_49 : decode cX11_sheet 49 = .ok (.iconst (-1), 1) := by decide +kernel
theorem dX11_sheet_50 : decode cX11_sheet 50 = .ok (.if_icmp .ne 7, 3) := by decide +kernel
theorem dX11_sheet_53 : decode cX11_sheet 53 = .ok (.iconst 0, 1) := by decide +kernel
theorem dX11_sheet_54 : decode cX11_sheet 54 = .ok (.goto 4, 3) := by decide +kernel
theorem dX11_sheet_57 : decode cX11_sheet 57 = .ok (.iload_n 3, 1) := by decide +kernel
theorem dX11_sheet_58 : decode cX11_sheet 58 = .ok (.invokevirtual 218, 3) := by decide +kernel
theorem dX11_sheet_61 : decode cX11_sheet 61 = .ok (.iconst 1, 1) := by decide +kernel
theorem dX11_sheet_62 : decode cX11_sheet 62 = .ok (.ireturn, 1) := by decide +kernel
def f_X11_sheet_58 (S : Sh) (R : Rw)  (I : Iw) (s0 : Int32) (s1 : Int32) (q2 : Nat) : Option (Iw × Int32) := gp (sok S q2 8 3) (bd (f_X8_become S R I q2 s1 s0) (fun r13 => some (r13, (1 : Int32))))
set_option maxHeartbeats 4000000 in
theorem b_X11_sheet_58 {E : Ev} {p : Program} {l : Launch} {e : Env} {s : State} {m : MethodId} {args : Array Value} {below : List Frame} {meth : Method} {c : Code} (C : Cx E RX11 cX11_sheet 4 p s m c) (hr : meth.sig.returnType = (some .int)) (hk : meth.locks = false) {S : Sh} {R : Rw} {r : Iw × Int32}  : ∀ (I : Iw) (s0 : Int32) (s1 : Int32) (q2 : Nat), f_X11_sheet_58 S R   I s0 s1 q2 = some r → Wk E 4 p l e ({ frames := 2, cells := 0, slots := 0, locals := 42 } : Room) s m args below meth c 0 0 (MQ below (Qw E S R r.1 (some (.int r.2))) args s 0 0 (fun q => E.1 ≤ q)) 58 [] [.int s0, .int s1, .ref (E.1 + q2)] S R I := by
  intro I s0 s1 q2 h
  rw [f_X11_sheet_58] at h
  obtain ⟨hs120, h⟩ := gp_e h
  have hs12 := sok_e hs120
  obtain ⟨r13, hr13, h⟩ := bd_e h
  refine k_V (pc := 58) (st := []) C (c_X8_become hr13) lkV_RX11_218 hs12 rfl rfl rfl (Nat.le_of_ble_eq_true rfl) (Nat.le_of_ble_eq_true rfl) (Nat.le_of_ble_eq_true rfl) (Nat.le_of_ble_eq_true rfl) (Nat.le_of_ble_eq_true rfl) dX11_sheet_58 ?_
  refine k_nf (cells2 := 0) (slots2 := 0) (st2 := []) rfl rfl rfl ?_
  refine k_iconst (pc := 61) C (v := (1 : Int32)) dX11_sheet_61 (by decide) ?_
  have h := Option.some.inj h
  subst h
  exact k_iret (pc := 62) C hr hk dX11_sheet_62
def f_X11_sheet_41 (S : Sh) (R : Rw)  (I : Iw) (a0 : Nat) (x1 : Int32) (x2 : Int32) (x3 : Int32) : Option (Iw × Int32) := gp (sok S a0 11 12) (rl (R a0 7) (fun b8 => gp (aok S 23 b8 x1) (rl (R b8 x1.toNatClampNeg) (fun b10 => (if x2 = (-1 : Int32) then f_X11_sheet_58 S R  I (0 : Int32) x2 b10 else f_X11_sheet_58 S R  I x3 x2 b10)))))
set_option maxHeartbeats 4000000 in
theorem b_X11_sheet_41 {E : Ev} {p : Program} {l : Launch} {e : Env} {s : State} {m : MethodId} {args : Array Value} {below : List Frame} {meth : Method} {c : Code} (C : Cx E RX11 cX11_sheet 4 p s m c) (hr : meth.sig.returnType = (some .int)) (hk : meth.locks = false) {S : Sh} {R : Rw} {r : Iw × Int32}  : ∀ (I : Iw) (a0 : Nat) (x1 : Int32) (x2 : Int32) (x3 : Int32), f_X11_sheet_41 S R   I a0 x1 x2 x3 = some r → Wk E 4 p l e ({ frames := 2, cells := 0, slots := 0, locals := 42 } : Room) s m args below meth c 0 0 (MQ below (Qw E S R r.1 (some (.int r.2))) args s 0 0 (fun q => E.1 ≤ q)) 41 [(0, .ref (E.1 + a0)), (1, .int x1), (2, .int x2), (3, .int x3)] [] S R I := by
  intro I a0 x1 x2 x3 h
  rw [f_X11_sheet_41] at h
  refine k_aloadn (pc := 41) C dX11_sheet_41 (i := 0) rfl 0 rfl ?_
  obtain ⟨hs70, h⟩ := gp_e h
  have hs7 := sok_e hs70
  obtain ⟨b8, hb8, h⟩ := rl_e h
  refine k_getR (pc := 42) C lkF_RX11_41_11 hs7 ir_11_7 hb8 dX11_sheet_42 ?_
  refine k_iloadn (pc := 45) C dX11_sheet_45 (i := 1) rfl 1 rfl ?_
  obtain ⟨ha9, h⟩ := gp_e h
  obtain ⟨b10, hb10, h⟩ := rl_e h
  refine k_aald (pc := 46) C (t := 23) (by decide) ha9 dX11_sheet_46 ?_
  rw [hb10]
  refine k_nf (cells2 := 0) (slots2 := 0) (st2 := [.ref (E.1 + b10)]) rfl rfl rfl ?_
  refine k_iloadn (pc := 47) C dX11_sheet_47 (i := 2) rfl 2 rfl ?_
  refine k_iloadn (pc := 48) C dX11_sheet_48 (i := 2) rfl 2 rfl ?_
  refine k_iconst (pc := 49) C (v := (-1 : Int32)) dX11_sheet_49 (by decide) ?_
  refine k_icmp_ne (pc := 50) C dX11_sheet_50 (tgt := 57) (by decide) (fun hc11 => ?_) (fun hc11 => ?_)
  · rw [if_neg hc11] at h
    refine k_iloadn (pc := 57) C dX11_sheet_57 (i := 3) rfl 3 rfl ?_
    refine k_loc (L2 := []) [] rfl ?_
    exact b_X11_sheet_58 C hr hk  _ _ _ _ h
  · rw [if_pos hc11] at h
    refine k_iconst (pc := 53) C (v := (0 : Int32)) dX11_sheet_53 (by decide) ?_
    refine k_goto (pc := 54) C dX11_sheet_54 (tgt := 58) (by decide) ?_
    refine k_loc (L2 := []) [] rfl ?_
    exact b_X11_sheet_58 C hr hk  _ _ _ _ h
def f_X11_sheet_29 (S : Sh) (R : Rw)  (I : Iw) (a0 : Nat) (x1 : Int32) (x2 : Int32) (x3 : Int32) : Option (Iw × Int32) := (if x2 = (-1 : Int32) then f_X11_sheet_41 S R  I a0 x1 x2 x3 else (if 0 ≤ x3 then f_X11_sheet_41 S R  I a0 x1 x2 x3 else some (I, (-14 : Int32))))
set_option maxHeartbeats 4000000 in
theorem b_X11_sheet_29 {E : Ev} {p : Program} {l : Launch} {e : Env} {s : State} {m : MethodId} {args : Array Value} {below : List Frame} {meth : Method} {c : Code} (C : Cx E RX11 cX11_sheet 4 p s m c) (hr : meth.sig.returnType = (some .int)) (hk : meth.locks = false) {S : Sh} {R : Rw} {r : Iw × Int32}  : ∀ (I : Iw) (a0 : Nat) (x1 : Int32) (x2 : Int32) (x3 : Int32), f_X11_sheet_29 S R   I a0 x1 x2 x3 = some r → Wk E 4 p l e ({ frames := 2, cells := 0, slots := 0, locals := 42 } : Room) s m args below meth c 0 0 (MQ below (Qw E S R r.1 (some (.int r.2))) args s 0 0 (fun q => E.1 ≤ q)) 29 [(0, .ref (E.1 + a0)), (1, .int x1), (2, .int x2), (3, .int x3)] [] S R I := by
  intro I a0 x1 x2 x3 h
  rw [f_X11_sheet_29] at h
  refine k_iloadn (pc := 29) C dX11_sheet_29 (i := 2) rfl 2 rfl ?_
  refine k_iconst (pc := 30) C (v := (-1 : Int32)) dX11_sheet_30 (by decide) ?_
  refine k_icmp_eq (pc := 31) C dX11_sheet_31 (tgt := 41) (by decide) (fun hc6 => ?_) (fun hc6 => ?_)
  · rw [if_pos hc6] at h
    exact b_X11_sheet_41 C hr hk  _ _ _ _ _ h
  · rw [if_neg hc6] at h
    refine k_iloadn (pc := 34) C dX11_sheet_34 (i := 3) rfl 3 rfl ?_
    refine k_if_ge (pc := 35) C dX11_sheet_35 (tgt := 41) (by decide) (fun hc14 => ?_) (fun hc14 => ?_)
    · rw [if_pos hc14] at h
      exact b_X11_sheet_41 C hr hk  _ _ _ _ _ h
    · rw [if_neg hc14] at h
      refine k_bipush (pc := 38) C (v := (-14 : Int32)) dX11_sheet_38 (by decide) ?_
      have h := Option.some.inj h
      subst h
      exact k_iret (pc := 40) C hr hk dX11_sheet_40
def f_X11_sheet (S : Sh) (R : Rw)  (I : Iw) (a0 : Nat) (x1 : Int32) (x2 : Int32) (x3 : Int32) : Option (Iw × Int32) := bd (f_X11_isSheet S R I x1) (fun r1 => (if r1 = 0 then some (I, (-1 : Int32)) else bd (f_X11_isBetween S R I x2 (-1 : Int32) (4 : Int32)) (fun r3 => (if r3 = 0 then some (I, (-1 : Int32)) else (if x2 = (-1 : Int32) then f_X11_sheet_29 S R  I a0 x1 x2 x3 else (if x3 ≤ (40 : Int32) then f_X11_sheet_29 S R  I a0 x1 x2 x3 else some (I, (-1 : Int32))))))))
set_option maxHeartbeats 4000000 in
theorem b_X11_sheet {E : Ev} {p : Program} {l : Launch} {e : Env} {s : State} {m : MethodId} {args : Array Value} {below : List Frame} {meth : Method} {c : Code} (C : Cx E RX11 cX11_sheet 4 p s m c) (hr : meth.sig.returnType = (some .int)) (hk : meth.locks = false) {S : Sh} {R : Rw} {r : Iw × Int32}  : ∀ (I : Iw) (a0 : Nat) (x1 : Int32) (x2 : Int32) (x3 : Int32), f_X11_sheet S R   I a0 x1 x2 x3 = some r → Wk E 4 p l e ({ frames := 2, cells := 0, slots := 0, locals := 42 } : Room) s m args below meth c 0 0 (MQ below (Qw E S R r.1 (some (.int r.2))) args s 0 0 (fun q => E.1 ≤ q)) 0 [(0, .ref (E.1 + a0)), (1, .int x1), (2, .int x2), (3, .int x3)] [] S R I := by
  intro I a0 x1 x2 x3 h
  rw [f_X11_sheet] at h
  refine k_iloadn (pc := 0) C dX11_sheet_0 (i := 1) rfl 1 rfl ?_
  obtain ⟨r1, hr1, h⟩ := bd_e h
  refine k_S (pc := 1) (st := []) C (c_X11_isSheet hr1) lkS_RX11_215 rfl rfl (Nat.le_of_ble_eq_true rfl) (Nat.le_of_ble_eq_true rfl) (Nat.le_of_ble_eq_true rfl) (Nat.le_of_ble_eq_true rfl) (Nat.le_of_ble_eq_true rfl) dX11_sheet_1 ?_
  refine k_nf (cells2 := 0) (slots2 := 0) (st2 := [.int r1]) rfl rfl rfl ?_
  refine k_if_eq (pc := 4) C dX11_sheet_4 (tgt := 27) (by decide) (fun hc2 => ?_) (fun hc2 => ?_)
  · rw [if_pos hc2] at h
    refine k_iconst (pc := 27) C (v := (-1 : Int32)) dX11_sheet_27 (by decide) ?_
    have h := Option.some.inj h
    subst h
    exact k_iret (pc := 28) C hr hk dX11_sheet_28
  · rw [if_neg hc2] at h
    refine k_iloadn (pc := 7) C dX11_sheet_7 (i := 2) rfl 2 rfl ?_
    refine k_iconst (pc := 8) C (v := (-1 : Int32)) dX11_sheet_8 (by decide) ?_
    refine k_iconst (pc := 9) C (v := (4 : Int32)) dX11_sheet_9 (by decide) ?_
    obtain ⟨r3, hr3, h⟩ := bd_e h
    refine k_S (pc := 10) (st := []) C (c_X11_isBetween hr3) lkS_RX11_55 rfl rfl (Nat.le_of_ble_eq_true rfl) (Nat.le_of_ble_eq_true rfl) (Nat.le_of_ble_eq_true rfl) (Nat.le_of_ble_eq_true rfl) (Nat.le_of_ble_eq_true rfl) dX11_sheet_10 ?_
    refine k_nf (cells2 := 0) (slots2 := 0) (st2 := [.int r3]) rfl rfl rfl ?_
    refine k_if_eq (pc := 13) C dX11_sheet_13 (tgt := 27) (by decide) (fun hc4 => ?_) (fun hc4 => ?_)
    · rw [if_pos hc4] at h
      refine k_iconst (pc := 27) C (v := (-1 : Int32)) dX11_sheet_27 (by decide) ?_
      have h := Option.some.inj h
      subst h
      exact k_iret (pc := 28) C hr hk dX11_sheet_28
    · rw [if_neg hc4] at h
      refine k_iloadn (pc := 16) C dX11_sheet_16 (i := 2) rfl 2 rfl ?_
      refine k_iconst (pc := 17) C (v := (-1 : Int32)) dX11_sheet_17 (by decide) ?_
      refine k_icmp_eq (pc := 18) C dX11_sheet_18 (tgt := 29) (by decide) (fun hc5 => ?_) (fun hc5 => ?_)
      · rw [if_pos hc5] at h
        exact b_X11_sheet_29 C hr hk  _ _ _ _ _ h
      · rw [if_neg hc5] at h
        refine k_iloadn (pc := 21) C dX11_sheet_21 (i := 3) rfl 3 rfl ?_
        refine k_bipush (pc := 22) C (v := (40 : Int32)) dX11_sheet_22 (by decide) ?_
        refine k_icmp_le (pc := 24) C dX11_sheet_24 (tgt := 29) (by decide) (fun hc15 => ?_) (fun hc15 => ?_)
        · rw [if_pos hc15] at h
          exact b_X11_sheet_29 C hr hk  _ _ _ _ _ h
        · rw [if_neg hc15] at h
          refine k_iconst (pc := 27) C (v := (-1 : Int32)) dX11_sheet_27 (by decide) ?_
          have h := Option.some.inj h
          subst h
          exact k_iret (pc := 28) C hr hk dX11_sheet_28
theorem c_X11_sheet {E : Ev} {l : Launch} {S : Sh} {R : Rw} {I : Iw} {a0 : Nat} {x1 : Int32} {x2 : Int32} {x3 : Int32} {r : Iw × Int32} (h : f_X11_sheet S R I a0 x1 x2 x3 = some r) : Mt E l yX11_sheet cX11_sheet 4 (some .int) 2 42 [.ref (E.1 + a0), .int x1, .int x2, .int x3] S R I S R r.1 (some (.int r.2)) 0 0 := mt_of (by decide) (Nat.le_of_ble_eq_true rfl) (fun p e s m args below meth c C hr hk hn => b_X11_sheet C hr hk _ _ _ _ _ h)
theorem lkF_RX11_221_8 : LkF RX11 221 8 0 := ⟨RX8, TX8, 3, "UnlikeNeighbours$Sheet", fc8, by decide, (t1_in 221 (by decide +kernel) rfl), Or.inl rfl⟩
theorem lkV_RX11_224 : LkV RX11 224 RX8 yX8_has cX8_has 2 (some .boolean) 1 := ⟨(t4_in 43 (by decide +kernel) rfl), (t4_in 44 (by decide +kernel) rfl), (t4_in 45 (by decide +kernel) rfl), (t4_in 46 (by decide +kernel) rfl), (t1_in 6 (by decide +kernel) rfl), by decide, by decide +kernel⟩
theorem lkF_RX11_225_8 : LkF RX11 225 8 2 := ⟨RX8, TX8, 3, "UnlikeNeighbours$Sheet", fc8, by decide, (t1_in 225 (by decide +kernel) rfl), Or.inl rfl⟩
theorem lkV_RX11_228 : LkV RX11 228 RX8 yX8_narrowed cX8_narrowed 2 (some .int) 1 := ⟨(t4_in 47 (by decide +kernel) rfl), (t4_in 48 (by decide +kernel) rfl), (t4_in 49 (by decide +kernel) rfl), (t4_in 50 (by decide +kernel) rfl), (t1_in 6 (by decide +kernel) rfl), by decide, by decide +kernel⟩
theorem dX11_write_0 : decode cX11_write 0 = .ok (.iload_n 1, 1) := by decide +kernel
theorem dX11_write_1 : decode cX11_write 1 = .ok (.invokestatic 215, 3) := by decide +kernel
theorem dX11_write_4 : decode cX11_write 4 = .ok (.ifCond .ne 5, 3) := by decide +kernel
theorem dX11_write_7 : decode cX11_write 7 = .ok (.iconst (-1), 1) := by decide +kernel
theorem dX11_write_8 : decode cX11_write 8 = .ok (.ireturn, 1) := by decide +kernel
theorem dX11_write_9 : decode cX11_write 9 = .ok (.aload_n 0, 1) := by decide +kernel
theorem dX11_write_10 : decode cX11_write 10 = .ok (.getfield 41, 3) := by decide +kernel
theorem dX11_write_13 : decode cX11_write 13 = .ok (.iload_n 1, 1) := by decide +kernel
theorem dX11_write_14 : decode cX11_write 14 = .ok (.aaload, 1) := by decide +kernel
theorem dX11_write_15 : decode cX11_write 15 = .ok (.astore 4, 2) := by decide +kernel
theorem dX11_write_17 : decode cX11_write 17 = .ok (.aload 4, 2) := by decide +kernel
theorem dX11_write_19 : decode cX11_write 19 = .ok (.getfield 221, 3) := by decide +kernel
theorem dX11_write_22 : decode cX11_write 22 = .ok (.iconst (-1), 1) := by decide +kernel
theorem dX11_write_23 : decode cX11_write 23 = .ok (.if_icmp .ne 6, 3) := by decide +kernel
theorem dX11_write_26 : decode cX11_write 26 = .ok (.bipush (-11), 2) := by decide +kernel
theorem dX11_write_28 : decode cX11_write 28 = .ok (.ireturn, 1) := by decide +kernel
theorem dX11_write_29 : decode cX11_write 29 = .ok (.aload 4, 2) := by decide +kernel
theorem dX11_write_31 : decode cX11_write 31 = .ok (.iload_n 2, 1) := by decide +kernel
theorem dX11_write_32 : decode cX11_write 32 = .ok (.invokevirtual 224, 3) := by decide +kernel
theorem dX11_write_35 : decode cX11_write 35 = .ok (.ifCond .ne 6, 3) := by decide +kernel
theorem dX11_write_38 : decode cX11_write 38 = .ok (.bipush (-12), 2) := by decide +kernel
theorem dX11_write_40 : decode cX11_write 40 = .ok (.ireturn, 1) := by decide +kernel
theorem dX11_write_41 : decode cX11_write 41 = .ok (.aload 4, 2) := by decide +kernel
theorem dX11_write_43 : decode cX11_write 43 = .ok (.getfield 225, 3) := by decide +kernel
theorem dX11_write_46 : decode cX11_write 46 = .ok (.iload_n 2, 1) := by decide +kernel
theorem dX11_write_47 : decode cX11_write 47 = .ok (.aload 4, 2) := by decide +kernel
theorem dX11_write_49 : decode cX11_write 49 = .ok (.iload_n 3, 1) := by decide +kernel
theorem dX11_write_50 : decode cX11_write 50 = .ok (.invokevirtual 228, 3) := by decide +kernel
theorem dX11_write_53 : decode cX11_write 53 = .ok (.iastore, 1) := by decide +kernel
theorem dX11_write_54 : decode cX11_write 54 = .ok (.iconst 1, 1) := by decide +kernel
theorem dX11_write_55 : decode cX11_write 55 = .ok (.ireturn, 1) := by decide +kernel
def f_X11_write (S : Sh) (R : Rw)  (I : Iw) (a0 : Nat) (x1 : Int32) (x2 : Int32) (x3 : Int32) : Option (Iw × Int32) := bd (f_X11_isSheet S R I x1) (fun r1 => (if r1 = 0 then some (I, (-1 : Int32)) else gp (sok S a0 11 12) (rl (R a0 7) (fun b4 => gp (aok S 23 b4 x1) (rl (R b4 x1.toNatClampNeg) (fun b6 => gp (sok S b6 8 3) ((if (I b6 0) = (-1 : Int32) then some (I, (-11 : Int32)) else bd (f_X8_has S R I b6 x2) (fun r9 => (if r9 = 0 then some (I, (-12 : Int32)) else rl (R b6 2) (fun b11 => bd (f_X8_narrowed S R I b6 x3) (fun r12 => gp (aok S 20 b11 x2) (lt (up2 I b11 x2.toNatClampNeg r12) (fun I14 => some (I14, (1 : Int32))))))))))))))))
set_option maxHeartbeats 4000000 in
theorem b_X11_write {E : Ev} {p : Program} {l : Launch} {e : Env} {s : State} {m : MethodId} {args : Array Value} {below : List Frame} {meth : Method} {c : Code} (C : Cx E RX11 cX11_write 5 p s m c) (hr : meth.sig.returnType = (some .int)) (hk : meth.locks = false) {S : Sh} {R : Rw} {r : Iw × Int32}  : ∀ (I : Iw) (a0 : Nat) (x1 : Int32) (x2 : Int32) (x3 : Int32), f_X11_write S R   I a0 x1 x2 x3 = some r → Wk E 5 p l e ({ frames := 2, cells := 0, slots := 0, locals := 42 } : Room) s m args below meth c 0 0 (MQ below (Qw E S R r.1 (some (.int r.2))) args s 0 0 (fun q => E.1 ≤ q)) 0 [(0, .ref (E.1 + a0)), (1, .int x1), (2, .int x2), (3, .int x3)] [] S R I := by
  intro I a0 x1 x2 x3 h
  rw [f_X11_write] at h
  refine k_iloadn (pc := 0) C dX11_write_0 (i := 1) rfl 1 rfl ?_
  obtain ⟨r1, hr1, h⟩ := bd_e h
  refine k_S (pc := 1) (st := []) C (c_X11_isSheet hr1) lkS_RX11_215 rfl rfl (Nat.le_of_ble_eq_true rfl) (Nat.le_of_ble_eq_true rfl) (Nat.le_of_ble_eq_true rfl) (Nat.le_of_ble_eq_true rfl) (Nat.le_of_ble_eq_true rfl) dX11_write_1 ?_
  refine k_nf (cells2 := 0) (slots2 := 0) (st2 := [.int r1]) rfl rfl rfl ?_
  refine k_if_ne (pc := 4) C dX11_write_4 (tgt := 9) (by decide) (fun hc2 => ?_) (fun hc2 => ?_)
  · rw [if_neg hc2] at h
    refine k_aloadn (pc := 9) C dX11_write_9 (i := 0) rfl 0 rfl ?_
    obtain ⟨hs30, h⟩ := gp_e h
    have hs3 := sok_e hs30
    obtain ⟨b4, hb4, h⟩ := rl_e h
    refine k_getR (pc := 10) C lkF_RX11_41_11 hs3 ir_11_7 hb4 dX11_write_10 ?_
    refine k_iloadn (pc := 13) C dX11_write_13 (i := 1) rfl 1 rfl ?_
    obtain ⟨ha5, h⟩ := gp_e h
    obtain ⟨b6, hb6, h⟩ := rl_e h
    refine k_aald (pc := 14) C (t := 23) (by decide) ha5 dX11_write_14 ?_
    rw [hb6]
    refine k_nf (cells2 := 0) (slots2 := 0) (st2 := [.ref (E.1 + b6)]) rfl rfl rfl ?_
    refine k_astore (pc := 15) C dX11_write_15 (by decide) (L2 := [(0, .ref (E.1 + a0)), (1, .int x1), (2, .int x2), (3, .int x3), (4, .ref (E.1 + b6))]) rfl ?_
    refine k_aload (pc := 17) C dX11_write_17 4 rfl ?_
    obtain ⟨hs70, h⟩ := gp_e h
    have hs7 := sok_e hs70
    refine k_getI (pc := 19) C lkF_RX11_221_8 hs7 ir_8_0 dX11_write_19 ?_
    refine k_iconst (pc := 22) C (v := (-1 : Int32)) dX11_write_22 (by decide) ?_
    refine k_icmp_ne (pc := 23) C dX11_write_23 (tgt := 29) (by decide) (fun hc8 => ?_) (fun hc8 => ?_)
    · rw [if_neg hc8] at h
      refine k_aload (pc := 29) C dX11_write_29 4 rfl ?_
      refine k_iloadn (pc := 31) C dX11_write_31 (i := 2) rfl 2 rfl ?_
      obtain ⟨r9, hr9, h⟩ := bd_e h
      refine k_V (pc := 32) (st := []) C (c_X8_has hr9) lkV_RX11_224 hs7 rfl rfl rfl (Nat.le_of_ble_eq_true rfl) (Nat.le_of_ble_eq_true rfl) (Nat.le_of_ble_eq_true rfl) (Nat.le_of_ble_eq_true rfl) (Nat.le_of_ble_eq_true rfl) dX11_write_32 ?_
      refine k_nf (cells2 := 0) (slots2 := 0) (st2 := [.int r9]) rfl rfl rfl ?_
      refine k_if_ne (pc := 35) C dX11_write_35 (tgt := 41) (by decide) (fun hc10 => ?_) (fun hc10 => ?_)
      · rw [if_neg hc10] at h
        refine k_aload (pc := 41) C dX11_write_41 4 rfl ?_
        obtain ⟨b11, hb11, h⟩ := rl_e h
        refine k_getR (pc := 43) C lkF_RX11_225_8 hs7 ir_8_2 hb11 dX11_write_43 ?_
        refine k_iloadn (pc := 46) C dX11_write_46 (i := 2) rfl 2 rfl ?_
        refine k_aload (pc := 47) C dX11_write_47 4 rfl ?_
        refine k_iloadn (pc := 49) C dX11_write_49 (i := 3) rfl 3 rfl ?_
        obtain ⟨r12, hr12, h⟩ := bd_e h
        refine k_V (pc := 50) (st := [.int x2, .ref (E.1 + b11)]) C (c_X8_narrowed hr12) lkV_RX11_228 hs7 rfl rfl rfl (Nat.le_of_ble_eq_true rfl) (Nat.le_of_ble_eq_true rfl) (Nat.le_of_ble_eq_true rfl) (Nat.le_of_ble_eq_true rfl) (Nat.le_of_ble_eq_true rfl) dX11_write_50 ?_
        refine k_nf (cells2 := 0) (slots2 := 0) (st2 := [.int r12, .int x2, .ref (E.1 + b11)]) rfl rfl rfl ?_
        obtain ⟨ha13, h⟩ := gp_e h
        obtain ⟨I14, eI14, h⟩ := lt_e h
        refine k_iast (pc := 53) C ha13 dX11_write_53 ?_
        rw [← eI14]
        refine k_iconst (pc := 54) C (v := (1 : Int32)) dX11_write_54 (by decide) ?_
        have h := Option.some.inj h
        subst h
        exact k_iret (pc := 55) C hr hk dX11_write_55
      · rw [if_pos hc10] at h
        refine k_bipush (pc := 38) C (v := (-12 : Int32)) dX11_write_38 (by decide) ?_
        have h := Option.some.inj h
        subst h
        exact k_iret (pc := 40) C hr hk dX11_write_40
    · rw [if_pos hc8] at h
      refine k_bipush (pc := 26) C (v := (-11 : Int32)) dX11_write_26 (by decide) ?_
      have h := Option.some.inj h
      subst h
      exact k_iret (pc := 28) C hr hk dX11_write_28
  · rw [if_pos hc2] at h
    refine k_iconst (pc := 7) C (v := (-1 : Int32)) dX11_write_7 (by decide) ?_
    have h := Option.some.inj h
    subst h
    exact k_iret (pc := 8) C hr hk dX11_write_8
theorem c_X11_write {E : Ev} {l : Launch} {S : Sh} {R : Rw} {I : Iw} {a0 : Nat} {x1 : Int32} {x2 : Int32} {x3 : Int32} {r : Iw × Int32} (h : f_X11_write S R I a0 x1 x2 x3 = some r) : Mt E l yX11_write cX11_write 5 (some .int) 2 42 [.ref (E.1 + a0), .int x1, .int x2, .int x3] S R I S R r.1 (some (.int r.2)) 0 0 := mt_of (by decide) (Nat.le_of_ble_eq_true rfl) (fun p e s m args below meth c C hr hk hn => b_X11_write C hr hk _ _ _ _ _ h)
