/-! X3_readCondition, X5_addRule, X3_readRule, X5_clear, X5_copyFrom -/
theorem lkV_RX3_101 : LkV RX3 101 RX3 yX3_readAll cX3_readAll 4 (some .boolean) 1 := ⟨(t3_in 7 (by decide +kernel) rfl), (t3_in 9 (by decide +kernel) rfl), (t0_in 14 (by decide +kernel) rfl), (t3_in 10 (by decide +kernel) rfl), (t1_in 4 (by decide +kernel) rfl), by decide, by decide +kernel⟩
theorem dX3_readCondition_0 : decode cX3_readCondition 0 = .ok (.aload_n 0, 1) := by decide +kernel
theorem dX3_readCondition_1 : decode cX3_readCondition 1 = .ok (.iload_n 1, 1) := by decide +kernel
theorem dX3_readCondition_2 : decode cX3_readCondition 2 = .ok (.invokevirtual 101, 3) := by decide +kernel
theorem dX3_readCondition_5 : decode cX3_readCondition 5 = .ok (.istore_n 2, 1) := by decide +kernel
theorem dX3_readCondition_6 : decode cX3_readCondition 6 = .ok (.iconst 0, 1) := by decide +kernel
theorem dX3_readCondition_7 : decode cX3_readCondition 7 = .ok (.istore_n 3, 1) := by decide +kernel
theorem dX3_readCondition_8 : decode cX3_readCondition 8 = .ok (.iload_n 3, 1) := by decide +kernel
theorem dX3_readCondition_9 : decode cX3_readCondition 9 = .ok (.sipush 200, 3) := by decide +kernel
theorem dX3_readCondition_12 : decode cX3_readCondition 12 = .ok (.if_icmp .ge 51, 3) := by decide +kernel
theorem dX3_readCondition_15 : decode cX3_readCondition 15 = .ok (.iload_n 2, 1) := by decide +kernel
theorem dX3_readCondition_16 : decode cX3_readCondition 16 = .ok (.ifCond .eq 47, 3) := by decide +kernel
theorem dX3_readCondition_19 : decode cX3_readCondition 19 = .ok (.aload_n 0, 1) := by decide +kernel
theorem dX3_readCondition_20 : decode cX3_readCondition 20 = .ok (.invokevirtual 42, 3) := by decide +kernel
theorem dX3_readCondition_23 : decode cX3_readCondition 23 = .ok (.sipush 10007, 3) := by decide +kernel
theorem dX3_readCondition_26 : decode cX3_readCondition 26 = .ok (.if_icmp .ne 37, 3) := by decide +kernel
theorem dX3_readCondition_29 : decode cX3_readCondition 29 = .ok (.aload_n 0, 1) := by decide +kernel
theorem dX3_readCondition_30 : decode cX3_readCondition 30 = .ok (.dup, 1) := by decide +kernel
theorem dX3_readCondition_31 : decode cX3_readCondition 31 = .ok (.getfield 36, 3) := by decide +kernel
theorem dX3_readCondition_34 : decode cX3_readCondition 34 = .ok (.iconst 1, 1) := by decide +kernel
theorem dX3_readCondition_35 : decode cX3_readCondition 35 = .ok (.iadd, 1) := by decide +kernel
theorem dX3_readCondition_36 : decode cX3_readCondition 36 = .ok (.putfield 36, 3) := by decide +kernel
theorem dX3_readCondition_39 : decode cX3_readCondition 39 = .ok (.aload_n 0, 1) := by decide +kernel
theorem dX3_readCondition_40 : decode cX3_readCondition 40 = .ok (.iload_n 1, 1) := by decide +kernel
theorem dX3_readCondition_41 : decode cX3_readCondition 41 = .ok (.invokevirtual 101, 3) := by decide +kernel
theorem dX3_readCondition_44 : decode cX3_readCondition 44 = .ok (.istore_n 2, 1) := by decide +kernel
theorem dX3_readCondition_45 : decode cX3_readCondition 45 = .ok (.aload_n 0, 1) := by decide +kernel
theorem dX3_readCondition_46 : decode cX3_readCondition 46 = .ok (.getfield 25, 3) := by decide +kernel
theorem dX3_readCondition_49 : decode cX3_readCondition 49 = .ok (.sipush 10007, 3) := by decide +kernel
theorem dX3_readCondition_52 : decode cX3_readCondition 52 = .ok (.iconst 0, 1) := by decide +kernel
theorem dX3_readCondition_53 : decode cX3_readCondition 53 = .ok (.iconst 0, 1) := by decide +kernel
theorem dX3_readCondition_54 : decode cX3_readCondition 54 = .ok (.invokevirtual 104, 3) := by decide +kernel
theorem dX3_readCondition_57 : decode cX3_readCondition 57 = .ok (.iinc 3 1, 3) := by decide +kernel
theorem dX3_readCondition_60 : decode cX3_readCondition 60 = .ok (.goto (-52), 3) := by decide +kernel
theorem dX3_readCondition_63 : decode cX3_readCondition 63 = .ok (.iload_n 2, 1) := by decide +kernel
theorem dX3_readCondition_64 : decode cX3_readCondition 64 = .ok (.ireturn, 1) := by decide +kernel
def f_X3_readCondition_8 (g : Sh → Rw → Iw → Nat → Int32 → Option (Iw × Int32)) (S : Sh) (R : Rw)  : Nat → Iw → Nat → Int32 → Int32 → Int32 → Option (Iw × Int32)
  | 0, _, _, _, _, _ => none
  | n + 1, I, a0, x1, x2, x3 => (if (200 : Int32) ≤ x3 then gp (zok x2) (some (I, x2)) else (if x2 = 0 then gp (zok x2) (some (I, x2)) else gp (sok S a0 3 7) (bd (f_X3_peek S R I a0) (fun r8 => (if r8 = (10007 : Int32) then lt (up2 I a0 5 ((I a0 5) + (1 : Int32))) (fun I11 => bd (f_X3_readAll g S R I11 a0 x1) (fun r12 => rl (R a0 6) (fun b13 => gp (sok S b13 5 8) (bd (f_X5_addStep S R r12.1 b13 (10007 : Int32) (0 : Int32) (0 : Int32)) (fun r15 => f_X3_readCondition_8 g S R  n r15 a0 x1 r12.2 (x3 + (1 : Int32))))))) else gp (zok x2) (some (I, x2)))))))
set_option maxHeartbeats 4000000 in
theorem b_X3_readCondition_8 {E : Ev} {p : Program} {l : Launch} {e : Env} {s : State} {m : MethodId} {args : Array Value} {below : List Frame} {meth : Method} {c : Code} {dF dL : Nat} (C : Cx E RX3 cX3_readCondition 4 p s m c) (hr : meth.sig.returnType = (some .boolean)) (hk : meth.locks = false) {S : Sh} {R : Rw} {r : Iw × Int32} {g : Sh → Rw → Iw → Nat → Int32 → Option (Iw × Int32)} (hg : ∀ (S : Sh) (R : Rw) (I : Iw) (a0 : Nat) (x1 : Int32) (r : Iw × Int32), g S R I a0 x1 = some r → Mt E l yX3_readOne cX3_readOne 4 (some .boolean) dF dL [.ref (E.1 + a0), .int x1] S R I S R r.1 (some (.int r.2)) 0 0) : ∀ (n : Nat) (I : Iw) (a0 : Nat) (x1 : Int32) (x2 : Int32) (x3 : Int32), f_X3_readCondition_8 g S R  n I a0 x1 x2 x3 = some r → Wk E 4 p l e ({ frames := dF + 2, cells := 0, slots := 0, locals := dL + 46 } : Room) s m args below meth c 0 0 (MQ below (Qw E S R r.1 (some (.int r.2))) args s 0 0 (fun q => E.1 ≤ q)) 8 [(0, .ref (E.1 + a0)), (1, .int x1), (2, .int x2), (3, .int x3)] [] S R I := by
  intro n
  induction n with
  | zero =>
    intro I a0 x1 x2 x3 h
    rw [f_X3_readCondition_8] at h
    cases h
  | succ n ih =>
    intro I a0 x1 x2 x3 h
    rw [f_X3_readCondition_8] at h
    refine k_iloadn (pc := 8) C dX3_readCondition_8 (i := 3) rfl 3 rfl ?_
    refine k_sipush (pc := 9) C (v := (200 : Int32)) dX3_readCondition_9 (by decide) ?_
    refine k_icmp_ge (pc := 12) C dX3_readCondition_12 (tgt := 63) (by decide) (fun hc3 => ?_) (fun hc3 => ?_)
    · rw [if_pos hc3] at h
      refine k_iloadn (pc := 63) C dX3_readCondition_63 (i := 2) rfl 2 rfl ?_
      obtain ⟨hz4, h⟩ := gp_e h
      cases h
      exact k_zret (pc := 64) C hr hk (of_decide_eq_true hz4) dX3_readCondition_64
    · rw [if_neg hc3] at h
      refine k_iloadn (pc := 15) C dX3_readCondition_15 (i := 2) rfl 2 rfl ?_
      refine k_if_eq (pc := 16) C dX3_readCondition_16 (tgt := 63) (by decide) (fun hc5 => ?_) (fun hc5 => ?_)
      · rw [if_pos hc5] at h
        refine k_iloadn (pc := 63) C dX3_readCondition_63 (i := 2) rfl 2 rfl ?_
        obtain ⟨hz6, h⟩ := gp_e h
        cases h
        exact k_zret (pc := 64) C hr hk (of_decide_eq_true hz6) dX3_readCondition_64
      · rw [if_neg hc5] at h
        refine k_aloadn (pc := 19) C dX3_readCondition_19 (i := 0) rfl 0 rfl ?_
        obtain ⟨hs70, h⟩ := gp_e h
        have hs7 := sok_e hs70
        obtain ⟨r8, hr8, h⟩ := bd_e h
        refine k_V (pc := 20) (st := []) C (c_X3_peek hr8) lkV_RX3_42 hs7 rfl rfl rfl (Nat.le_of_ble_eq_true rfl) (by show 0 + 1 ≤ dF + 2; omega) (by show 8 + (1 + 11) + 0 ≤ dL + 46; omega) (Nat.le_of_ble_eq_true rfl) (Nat.le_of_ble_eq_true rfl) dX3_readCondition_20 ?_
        refine k_nf (cells2 := 0) (slots2 := 0) (st2 := [.int r8]) rfl rfl rfl ?_
        refine k_sipush (pc := 23) C (v := (10007 : Int32)) dX3_readCondition_23 (by decide) ?_
        refine k_icmp_ne (pc := 26) C dX3_readCondition_26 (tgt := 63) (by decide) (fun hc9 => ?_) (fun hc9 => ?_)
        · rw [if_neg hc9] at h
          refine k_iloadn (pc := 63) C dX3_readCondition_63 (i := 2) rfl 2 rfl ?_
          obtain ⟨hz10, h⟩ := gp_e h
          cases h
          exact k_zret (pc := 64) C hr hk (of_decide_eq_true hz10) dX3_readCondition_64
        · rw [if_pos hc9] at h
          refine k_aloadn (pc := 29) C dX3_readCondition_29 (i := 0) rfl 0 rfl ?_
          refine k_dup (pc := 30) C dX3_readCondition_30 rfl ?_
          refine k_getI (pc := 31) C lkF_RX3_36_3 hs7 ir_3_5 dX3_readCondition_31 ?_
          refine k_iconst (pc := 34) C (v := (1 : Int32)) dX3_readCondition_34 (by decide) ?_
          refine k_iadd (pc := 35) C dX3_readCondition_35 ?_
          obtain ⟨I11, eI11, h⟩ := lt_e h
          refine k_putI (pc := 36) C lkP_RX3_36_3 hs7 ir_3_5 dX3_readCondition_36 ?_
          rw [← eI11]
          refine k_aloadn (pc := 39) C dX3_readCondition_39 (i := 0) rfl 0 rfl ?_
          refine k_iloadn (pc := 40) C dX3_readCondition_40 (i := 1) rfl 1 rfl ?_
          obtain ⟨r12, hr12, h⟩ := bd_e h
          refine k_V (pc := 41) (st := []) C (c_X3_readAll hg hr12) lkV_RX3_101 hs7 rfl rfl rfl (Nat.le_of_ble_eq_true rfl) (by show (dF + 1) + 1 ≤ dF + 2; omega) (by show 8 + (4 + 11) + (dL + 23) ≤ dL + 46; omega) (Nat.le_of_ble_eq_true rfl) (Nat.le_of_ble_eq_true rfl) dX3_readCondition_41 ?_
          refine k_nf (cells2 := 0) (slots2 := 0) (st2 := [.int r12.2]) rfl rfl rfl ?_
          refine k_istoren (pc := 44) C dX3_readCondition_44 (i := 2) rfl (by decide) (L2 := [(0, .ref (E.1 + a0)), (1, .int x1), (2, .int r12.2), (3, .int x3)]) rfl ?_
          refine k_aloadn (pc := 45) C dX3_readCondition_45 (i := 0) rfl 0 rfl ?_
          obtain ⟨b13, hb13, h⟩ := rl_e h
          refine k_getR (pc := 46) C lkF_RX3_25_3 hs7 ir_3_6 hb13 dX3_readCondition_46 ?_
          refine k_sipush (pc := 49) C (v := (10007 : Int32)) dX3_readCondition_49 (by decide) ?_
          refine k_iconst (pc := 52) C (v := (0 : Int32)) dX3_readCondition_52 (by decide) ?_
          refine k_iconst (pc := 53) C (v := (0 : Int32)) dX3_readCondition_53 (by decide) ?_
          obtain ⟨hs140, h⟩ := gp_e h
          have hs14 := sok_e hs140
          obtain ⟨r15, hr15, h⟩ := bd_e h
          refine k_V (pc := 54) (st := []) C (c_X5_addStep hr15) lkV_RX3_104 hs14 rfl rfl rfl (Nat.le_of_ble_eq_true rfl) (by show 0 + 1 ≤ dF + 2; omega) (by show 8 + (4 + 11) + 0 ≤ dL + 46; omega) (Nat.le_of_ble_eq_true rfl) (Nat.le_of_ble_eq_true rfl) dX3_readCondition_54 ?_
          refine k_nf (cells2 := 0) (slots2 := 0) (st2 := []) rfl rfl rfl ?_
          refine k_iinc (pc := 57) C dX3_readCondition_57 3 rfl (v := x3 + (1 : Int32)) (by rfl) (by decide) (L2 := [(0, .ref (E.1 + a0)), (1, .int x1), (2, .int r12.2), (3, .int (x3 + (1 : Int32)))]) rfl ?_
          refine k_goto (pc := 60) C dX3_readCondition_60 (tgt := 8) (by decide) ?_
          exact ih _ _ _ _ _ h
def f_X3_readCondition (g : Sh → Rw → Iw → Nat → Int32 → Option (Iw × Int32)) (S : Sh) (R : Rw)  (I : Iw) (a0 : Nat) (x1 : Int32) : Option (Iw × Int32) := gp (sok S a0 3 7) (bd (f_X3_readAll g S R I a0 x1) (fun r2 => f_X3_readCondition_8 g S R  512 r2.1 a0 x1 r2.2 (0 : Int32)))
set_option maxHeartbeats 4000000 in
theorem b_X3_readCondition {E : Ev} {p : Program} {l : Launch} {e : Env} {s : State} {m : MethodId} {args : Array Value} {below : List Frame} {meth : Method} {c : Code} {dF dL : Nat} (C : Cx E RX3 cX3_readCondition 4 p s m c) (hr : meth.sig.returnType = (some .boolean)) (hk : meth.locks = false) {S : Sh} {R : Rw} {r : Iw × Int32} {g : Sh → Rw → Iw → Nat → Int32 → Option (Iw × Int32)} (hg : ∀ (S : Sh) (R : Rw) (I : Iw) (a0 : Nat) (x1 : Int32) (r : Iw × Int32), g S R I a0 x1 = some r → Mt E l yX3_readOne cX3_readOne 4 (some .boolean) dF dL [.ref (E.1 + a0), .int x1] S R I S R r.1 (some (.int r.2)) 0 0) : ∀ (I : Iw) (a0 : Nat) (x1 : Int32), f_X3_readCondition g S R   I a0 x1 = some r → Wk E 4 p l e ({ frames := dF + 2, cells := 0, slots := 0, locals := dL + 46 } : Room) s m args below meth c 0 0 (MQ below (Qw E S R r.1 (some (.int r.2))) args s 0 0 (fun q => E.1 ≤ q)) 0 [(0, .ref (E.1 + a0)), (1, .int x1)] [] S R I := by
  intro I a0 x1 h
  rw [f_X3_readCondition] at h
  refine k_aloadn (pc := 0) C dX3_readCondition_0 (i := 0) rfl 0 rfl ?_
  refine k_iloadn (pc := 1) C dX3_readCondition_1 (i := 1) rfl 1 rfl ?_
  obtain ⟨hs10, h⟩ := gp_e h
  have hs1 := sok_e hs10
  obtain ⟨r2, hr2, h⟩ := bd_e h
  refine k_V (pc := 2) (st := []) C (c_X3_readAll hg hr2) lkV_RX3_101 hs1 rfl rfl rfl (Nat.le_of_ble_eq_true rfl) (by show (dF + 1) + 1 ≤ dF + 2; omega) (by show 8 + (4 + 11) + (dL + 23) ≤ dL + 46; omega) (Nat.le_of_ble_eq_true rfl) (Nat.le_of_ble_eq_true rfl) dX3_readCondition_2 ?_
  refine k_nf (cells2 := 0) (slots2 := 0) (st2 := [.int r2.2]) rfl rfl rfl ?_
  refine k_istoren (pc := 5) C dX3_readCondition_5 (i := 2) rfl (by decide) (L2 := [(0, .ref (E.1 + a0)), (1, .int x1), (2, .int r2.2)]) rfl ?_
  refine k_iconst (pc := 6) C (v := (0 : Int32)) dX3_readCondition_6 (by decide) ?_
  refine k_istoren (pc := 7) C dX3_readCondition_7 (i := 3) rfl (by decide) (L2 := [(0, .ref (E.1 + a0)), (1, .int x1), (2, .int r2.2), (3, .int (0 : Int32))]) rfl ?_
  exact b_X3_readCondition_8 C hr hk hg  _ _ _ _ _ _ h
theorem c_X3_readCondition {E : Ev} {l : Launch} {dF dL : Nat} {S : Sh} {R : Rw} {I : Iw} {g : Sh → Rw → Iw → Nat → Int32 → Option (Iw × Int32)} (hg : ∀ (S : Sh) (R : Rw) (I : Iw) (a0 : Nat) (x1 : Int32) (r : Iw × Int32), g S R I a0 x1 = some r → Mt E l yX3_readOne cX3_readOne 4 (some .boolean) dF dL [.ref (E.1 + a0), .int x1] S R I S R r.1 (some (.int r.2)) 0 0) {a0 : Nat} {x1 : Int32} {r : Iw × Int32} (h : f_X3_readCondition g S R I a0 x1 = some r) : Mt E l yX3_readCondition cX3_readCondition 4 (some .boolean) (dF + 2) (dL + 46) [.ref (E.1 + a0), .int x1] S R I S R r.1 (some (.int r.2)) 0 0 := mt_of (by decide) (Nat.le_of_ble_eq_true rfl) (fun p e s m args below meth c C hr hk hn => b_X3_readCondition C hr hk hg _ _ _ h)
theorem lkP_RX5_30_5 : LkP RX5 30 5 0 .int := ⟨RX5, TX5, 8, "UnlikeNeighbours$Rules", fc5, by decide, (t1_in 41 (by decide +kernel) rfl), Or.inl rfl, rfl, by decide +kernel⟩
theorem dX5_addRule_0 : decode cX5_addRule 0 = .ok (.aload_n 0, 1) := by decide +kernel
theorem dX5_addRule_1 : decode cX5_addRule 1 = .ok (.getfield 30, 3) := by decide +kernel
theorem dX5_addRule_4 : decode cX5_addRule 4 = .ok (.bipush 8, 2) := by decide +kernel
theorem dX5_addRule_6 : decode cX5_addRule 6 = .ok (.if_icmp .ge 46, 3) := by decide +kernel
theorem dX5_addRule_9 : decode cX5_addRule 9 = .ok (.aload_n 0, 1) := by decide +kernel
theorem dX5_addRule_10 : decode cX5_addRule 10 = .ok (.getfield 9, 3) := by decide +kernel
theorem dX5_addRule_13 : decode cX5_addRule 13 = .ok (.aload_n 0, 1) := by decide +kernel
theorem dX5_addRule_14 : decode cX5_addRule 14 = .ok (.getfield 30, 3) := by decide +kernel
theorem dX5_addRule_17 : decode cX5_addRule 17 = .ok (.iload_n 1, 1) := by decide +kernel
theorem dX5_addRule_18 : decode cX5_addRule 18 = .ok (.iastore, 1) := by decide +kernel
theorem dX5_addRule_19 : decode cX5_addRule 19 = .ok (.aload_n 0, 1) := by decide +kernel
theorem dX5_addRule_20 : decode cX5_addRule 20 = .ok (.getfield 15, 3) := by decide +kernel
theorem dX5_addRule_23 : decode cX5_addRule 23 = .ok (.aload_n 0, 1) := by decide +kernel
theorem dX5_addRule_24 : decode cX5_addRule 24 = .ok (.getfield 30, 3) := by decide +kernel
theorem dX5_addRule_27 : decode cX5_addRule 27 = .ok (.iload_n 2, 1) := by decide +kernel
theorem dX5_addRule_28 : decode cX5_addRule 28 = .ok (.iastore, 1) := by decide +kernel
theorem dX5_addRule_29 : decode cX5_addRule 29 = .ok (.aload_n 0, 1) := by decide +kernel
theorem dX5_addRule_30 : decode cX5_addRule 30 = .ok (.getfield 18, 3) := by decide +kernel
theorem dX5_addRule_33 : decode cX5_addRule 33 = .ok (.aload_n 0, 1) := by decide +kernel
theorem dX5_addRule_34 : decode cX5_addRule 34 = .ok (.getfield 30, 3) := by decide +kernel
theorem dX5_addRule_37 : decode cX5_addRule 37 = .ok (.aload_n 0, 1) := by decide +kernel
theorem dX5_addRule_38 : decode cX5_addRule 38 = .ok (.getfield 34, 3) := by decide +kernel
theorem dX5_addRule_41 : decode cX5_addRule 41 = .ok (.iastore, 1) := by decide +kernel
theorem dX5_addRule_42 : decode cX5_addRule 42 = .ok (.aload_n 0, 1) := by decide +kernel
theorem dX5_addRule_43 : decode cX5_addRule 43 = .ok (.dup, 1) := by decide +kernel
theorem dX5_addRule_44 : decode cX5_addRule 44 = .ok (.getfield 30, 3) := by decide +kernel
theorem dX5_addRule_47 : decode cX5_addRule 47 = .ok (.iconst 1, 1) := by decide +kernel
theorem dX5_addRule_48 : decode cX5_addRule 48 = .ok (.iadd, 1) := by decide +kernel
theorem dX5_addRule_49 : decode cX5_addRule 49 = .ok (.putfield 30, 3) := by decide +kernel
theorem dX5_addRule_52 : decode cX5_addRule 52 = .ok (.return_, 1) := by decide +kernel
def f_X5_addRule (S : Sh) (R : Rw)  (I : Iw) (a0 : Nat) (x1 : Int32) (x2 : Int32) : Option (Iw) := gp (sok S a0 5 8) ((if (8 : Int32) ≤ (I a0 0) then some I else rl (R a0 1) (fun b3 => gp (aok S 20 b3 (I a0 0)) (lt (up2 I b3 (I a0 0).toNatClampNeg x1) (fun I5 => rl (R a0 2) (fun b6 => gp (aok S 20 b6 (I5 a0 0)) (lt (up2 I5 b6 (I5 a0 0).toNatClampNeg x2) (fun I8 => rl (R a0 3) (fun b9 => gp (aok S 20 b9 (I8 a0 0)) (lt (up2 I8 b9 (I8 a0 0).toNatClampNeg (I8 a0 4)) (fun I11 => lt (up2 I11 a0 0 ((I11 a0 0) + (1 : Int32))) (fun I12 => some I12))))))))))))
set_option maxHeartbeats 4000000 in
theorem b_X5_addRule {E : Ev} {p : Program} {l : Launch} {e : Env} {s : State} {m : MethodId} {args : Array Value} {below : List Frame} {meth : Method} {c : Code} (C : Cx E RX5 cX5_addRule 3 p s m c) (hr : meth.sig.returnType = none) (hk : meth.locks = false) {S : Sh} {R : Rw} {r : Iw}  : ∀ (I : Iw) (a0 : Nat) (x1 : Int32) (x2 : Int32), f_X5_addRule S R   I a0 x1 x2 = some r → Wk E 3 p l e ({ frames := 0, cells := 0, slots := 0, locals := 0 } : Room) s m args below meth c 0 0 (MQ below (Qw E S R r none) args s 0 0 (fun q => E.1 ≤ q)) 0 [(0, .ref (E.1 + a0)), (1, .int x1), (2, .int x2)] [] S R I := by
  intro I a0 x1 x2 h
  rw [f_X5_addRule] at h
  refine k_aloadn (pc := 0) C dX5_addRule_0 (i := 0) rfl 0 rfl ?_
  obtain ⟨hs10, h⟩ := gp_e h
  have hs1 := sok_e hs10
  refine k_getI (pc := 1) C lkF_RX5_30_5 hs1 ir_5_0 dX5_addRule_1 ?_
  refine k_bipush (pc := 4) C (v := (8 : Int32)) dX5_addRule_4 (by decide) ?_
  refine k_icmp_ge (pc := 6) C dX5_addRule_6 (tgt := 52) (by decide) (fun hc2 => ?_) (fun hc2 => ?_)
  · rw [if_pos hc2] at h
    cases h
    exact k_vret (pc := 52) C hr hk dX5_addRule_52
  · rw [if_neg hc2] at h
    refine k_aloadn (pc := 9) C dX5_addRule_9 (i := 0) rfl 0 rfl ?_
    obtain ⟨b3, hb3, h⟩ := rl_e h
    refine k_getR (pc := 10) C lkF_RX5_9_5 hs1 ir_5_1 hb3 dX5_addRule_10 ?_
    refine k_aloadn (pc := 13) C dX5_addRule_13 (i := 0) rfl 0 rfl ?_
    refine k_getI (pc := 14) C lkF_RX5_30_5 hs1 ir_5_0 dX5_addRule_14 ?_
    refine k_iloadn (pc := 17) C dX5_addRule_17 (i := 1) rfl 1 rfl ?_
    obtain ⟨ha4, h⟩ := gp_e h
    obtain ⟨I5, eI5, h⟩ := lt_e h
    refine k_iast (pc := 18) C ha4 dX5_addRule_18 ?_
    rw [← eI5]
    refine k_aloadn (pc := 19) C dX5_addRule_19 (i := 0) rfl 0 rfl ?_
    obtain ⟨b6, hb6, h⟩ := rl_e h
    refine k_getR (pc := 20) C lkF_RX5_15_5 hs1 ir_5_2 hb6 dX5_addRule_20 ?_
    refine k_aloadn (pc := 23) C dX5_addRule_23 (i := 0) rfl 0 rfl ?_
    refine k_getI (pc := 24) C lkF_RX5_30_5 hs1 ir_5_0 dX5_addRule_24 ?_
    refine k_iloadn (pc := 27) C dX5_addRule_27 (i := 2) rfl 2 rfl ?_
    obtain ⟨ha7, h⟩ := gp_e h
    obtain ⟨I8, eI8, h⟩ := lt_e h
    refine k_iast (pc := 28) C ha7 dX5_addRule_28 ?_
    rw [← eI8]
    refine k_aloadn (pc := 29) C dX5_addRule_29 (i := 0) rfl 0 rfl ?_
    obtain ⟨b9, hb9, h⟩ := rl_e h
    refine k_getR (pc := 30) C lkF_RX5_18_5 hs1 ir_5_3 hb9 dX5_addRule_30 ?_
    refine k_aloadn (pc := 33) C dX5_addRule_33 (i := 0) rfl 0 rfl ?_
    refine k_getI (pc := 34) C lkF_RX5_30_5 hs1 ir_5_0 dX5_addRule_34 ?_
    refine k_aloadn (pc := 37) C dX5_addRule_37 (i := 0) rfl 0 rfl ?_
    refine k_getI (pc := 38) C lkF_RX5_34_5 hs1 ir_5_4 dX5_addRule_38 ?_
    obtain ⟨ha10, h⟩ := gp_e h
    obtain ⟨I11, eI11, h⟩ := lt_e h
    refine k_iast (pc := 41) C ha10 dX5_addRule_41 ?_
    rw [← eI11]
    refine k_aloadn (pc := 42) C dX5_addRule_42 (i := 0) rfl 0 rfl ?_
    refine k_dup (pc := 43) C dX5_addRule_43 rfl ?_
    refine k_getI (pc := 44) C lkF_RX5_30_5 hs1 ir_5_0 dX5_addRule_44 ?_
    refine k_iconst (pc := 47) C (v := (1 : Int32)) dX5_addRule_47 (by decide) ?_
    refine k_iadd (pc := 48) C dX5_addRule_48 ?_
    obtain ⟨I12, eI12, h⟩ := lt_e h
    refine k_putI (pc := 49) C lkP_RX5_30_5 hs1 ir_5_0 dX5_addRule_49 ?_
    rw [← eI12]
    cases h
    exact k_vret (pc := 52) C hr hk dX5_addRule_52
theorem c_X5_addRule {E : Ev} {l : Launch} {S : Sh} {R : Rw} {I : Iw} {a0 : Nat} {x1 : Int32} {x2 : Int32} {r : Iw} (h : f_X5_addRule S R I a0 x1 x2 = some r) : Mt E l yX5_addRule cX5_addRule 3 none 0 0 [.ref (E.1 + a0), .int x1, .int x2] S R I S R r none 0 0 := mt_of (by decide) (Nat.le_of_ble_eq_true rfl) (fun p e s m args below meth c C hr hk hn => b_X5_addRule C hr hk _ _ _ _ h)
theorem lkF_RX3_57_5 : LkF RX3 57 5 0 := ⟨RX5, TX5, 8, "UnlikeNeighbours$Rules", fc5, by decide, (t1_in 42 (by decide +kernel) rfl), Or.inl rfl⟩
theorem lkSN_RX3_90 : LkSN RX3 90 yX11_isBetween "UnlikeNeighbours" cX11_isBetween 3 (some .boolean) 3 := ⟨l3_in 2 (by decide +kernel), (t2_in 35 (by decide +kernel) rfl), (t2_in 36 (by decide +kernel) rfl), (t1_in 1 (by decide +kernel) rfl), by decide, by decide +kernel⟩
theorem lkV_RX3_98 : LkV RX3 98 RX5 yX5_addRule cX5_addRule 3 none 2 := ⟨(t3_in 26 (by decide +kernel) rfl), (t3_in 27 (by decide +kernel) rfl), (t3_in 28 (by decide +kernel) rfl), (t3_in 29 (by decide +kernel) rfl), (t1_in 3 (by decide +kernel) rfl), by decide, by decide +kernel⟩
theorem lkV_RX3_94 : LkV RX3 94 RX3 yX3_readCondition cX3_readCondition 4 (some .boolean) 1 := ⟨(t3_in 3 (by decide +kernel) rfl), (t3_in 5 (by decide +kernel) rfl), (t0_in 13 (by decide +kernel) rfl), (t3_in 6 (by decide +kernel) rfl), (t1_in 4 (by decide +kernel) rfl), by decide, by decide +kernel⟩
theorem dX3_readRule_0 : decode cX3_readRule 0 = .ok (.aload_n 0, 1) := by decide +kernel
theorem dX3_readRule_1 : decode cX3_readRule 1 = .ok (.invokevirtual 42, 3) := by decide +kernel
theorem dX3_readRule_4 : decode cX3_readRule 4 = .ok (.sipush 10000, 3) := by decide +kernel
theorem dX3_readRule_7 : decode cX3_readRule 7 = .ok (.isub, 1) := by decide +kernel
theorem dX3_readRule_8 : decode cX3_readRule 8 = .ok (.istore_n 1, 1) := by decide +kernel
theorem dX3_readRule_9 : decode cX3_readRule 9 = .ok (.aload_n 0, 1) := by decide +kernel
theorem dX3_readRule_10 : decode cX3_readRule 10 = .ok (.getfield 25, 3) := by decide +kernel
theorem dX3_readRule_13 : decode cX3_readRule 13 = .ok (.getfield 57, 3) := by decide +kernel
theorem dX3_readRule_16 : decode cX3_readRule 16 = .ok (.bipush 8, 2) := by decide +kernel
theorem dX3_readRule_18 : decode cX3_readRule 18 = .ok (.if_icmp .ge 12, 3) := by decide +kernel
theorem dX3_readRule_21 : decode cX3_readRule 21 = .ok (.iload_n 1, 1) := by decide +kernel
theorem dX3_readRule_22 : decode cX3_readRule 22 = .ok (.iconst 0, 1) := by decide +kernel
theorem dX3_readRule_23 : decode cX3_readRule 23 = .ok (.iconst 5, 1) := by decide +kernel
theorem dX3_readRule_24 : decode cX3_readRule 24 = .ok (.invokestatic 90, 3) := by decide +kernel
theorem dX3_readRule_27 : decode cX3_readRule 27 = .ok (.ifCond .ne 5, 3) := by decide +kernel
theorem dX3_readRule_30 : decode cX3_readRule 30 = .ok (.iconst 0, 1) := by decide +kernel
theorem dX3_readRule_31 : decode cX3_readRule 31 = .ok (.ireturn, 1) := by decide +kernel
theorem dX3_readRule_32 : decode cX3_readRule 32 = .ok (.aload_n 0, 1) := by decide +kernel
theorem dX3_readRule_33 : decode cX3_readRule 33 = .ok (.dup, 1) := by decide +kernel
theorem dX3_readRule_34 : decode cX3_readRule 34 = .ok (.getfield 36, 3) := by decide +kernel
theorem dX3_readRule_37 : decode cX3_readRule 37 = .ok (.iconst 1, 1) := by decide +kernel
theorem dX3_readRule_38 : decode cX3_readRule 38 = .ok (.iadd, 1) := by decide +kernel
theorem dX3_readRule_39 : decode cX3_readRule 39 = .ok (.putfield 36, 3) := by decide +kernel
theorem dX3_readRule_42 : decode cX3_readRule 42 = .ok (.aload_n 0, 1) := by decide +kernel
theorem dX3_readRule_43 : decode cX3_readRule 43 = .ok (.invokevirtual 42, 3) := by decide +kernel
theorem dX3_readRule_46 : decode cX3_readRule 46 = .ok (.sipush 10006, 3) := by decide +kernel
theorem dX3_readRule_49 : decode cX3_readRule 49 = .ok (.if_icmp .ne 23, 3) := by decide +kernel
theorem dX3_readRule_52 : decode cX3_readRule 52 = .ok (.aload_n 0, 1) := by decide +kernel
theorem dX3_readRule_53 : decode cX3_readRule 53 = .ok (.dup, 1) := by decide +kernel
theorem dX3_readRule_54 : decode cX3_readRule 54 = .ok (.getfield 36, 3) := by decide +kernel
theorem dX3_readRule_57 : decode cX3_readRule 57 = .ok (.iconst 1, 1) := by decide +kernel
theorem dX3_readRule_58 : decode cX3_readRule 58 = .ok (.iadd, 1) := by decide +kernel
theorem dX3_readRule_59 : decode cX3_readRule 59 = .ok (.putfield 36, 3) := by decide +kernel
theorem dX3_readRule_62 : decode cX3_readRule 62 = .ok (.aload_n 0, 1) := by decide +kernel
theorem dX3_readRule_63 : decode cX3_readRule 63 = .ok (.iconst 0, 1) := by decide +kernel
theorem dX3_readRule_64 : decode cX3_readRule 64 = .ok (.invokevirtual 94, 3) := by decide +kernel
theorem dX3_readRule_67 : decode cX3_readRule 67 = .ok (.ifCond .ne 5, 3) := by decide +kernel
theorem dX3_readRule_70 : decode cX3_readRule 70 = .ok (.iconst 0, 1) := by decide +kernel
theorem dX3_readRule_71 : decode cX3_readRule 71 = .ok (.ireturn, 1) := by decide +kernel
theorem dX3_readRule_72 : decode cX3_readRule 72 = .ok (.aload_n 0, 1) := by decide +kernel
theorem dX3_readRule_73 : decode cX3_readRule 73 = .ok (.invokevirtual 42, 3) := by decide +kernel
theorem dX3_readRule_76 : decode cX3_readRule 76 = .ok (.istore_n 2, 1) := by decide +kernel
theorem dX3_readRule_77 : decode cX3_readRule 77 = .ok (.iload_n 2, 1) := by decide +kernel
theorem dX3_readRule_78 : decode cX3_readRule 78 = .ok (.sipush 10010, 3) := by decide +kernel
theorem dX3_readRule_81 : decode cX3_readRule 81 = .ok (.if_icmp .eq 19, 3) := by decide +kernel
theorem dX3_readRule_84 : decode cX3_readRule 84 = .ok (.iload_n 2, 1) := by decide +kernel
theorem dX3_readRule_85 : decode cX3_readRule 85 = .ok (.sipush 10011, 3) := by decide +kernel
theorem dX3_readRule_88 : decode cX3_readRule 88 = .ok (.if_icmp .eq 12, 3) := by decide +kernel
theorem dX3_readRule_91 : decode cX3_readRule 91 = .ok (.iload_n 2, 1) := by decide +kernel
theorem dX3_readRule_92 : decode cX3_readRule 92 = .ok (.sipush 10012, 3) := by decide +kernel
theorem dX3_readRule_95 : decode cX3_readRule 95 = .ok (.if_icmp .eq 5, 3) := by decide +kernel
theorem dX3_readRule_98 : decode cX3_readRule 98 = .ok (.iconst 0, 1) := by decide +kernel
theorem dX3_readRule_99 : decode cX3_readRule 99 = .ok (.ireturn, 1) := by decide +kernel
theorem dX3_readRule_100 : decode cX3_readRule 100 = .ok (.aload_n 0, 1) := by decide +kernel
theorem dX3_readRule_101 : decode cX3_readRule 101 = .ok (.dup, 1) := by decide +kernel
theorem dX3_readRule_102 : decode cX3_readRule 102 = .ok (.getfield 36, 3) := by decide +kernel
theorem dX3_readRule_105 : decode cX3_readRule 105 = .ok (.iconst 1, 1) := by decide +kernel
theorem dX3_readRule_106 : decode cX3_readRule 106 = .ok (.iadd, 1) := by decide +kernel
theorem dX3_readRule_107 : decode cX3_readRule 107 = .ok (.putfield 36, 3) := by decide +kernel
theorem dX3_readRule_110 : decode cX3_readRule 110 = .ok (.sipush (-999), 3) := by decide +kernel
theorem dX3_readRule_113 : decode cX3_readRule 113 = .ok (.istore_n 3, 1) := by decide +kernel
theorem dX3_readRule_114 : decode cX3_readRule 114 = .ok (.iload_n 2, 1) := by decide +kernel
theorem dX3_readRule_115 : decode cX3_readRule 115 = .ok (.sipush 10012, 3) := by decide +kernel
theorem dX3_readRule_118 : decode cX3_readRule 118 = .ok (.if_icmp .eq 45, 3) := by decide +kernel
theorem dX3_readRule_121 : decode cX3_readRule 121 = .ok (.aload_n 0, 1) := by decide +kernel
theorem dX3_readRule_122 : decode cX3_readRule 122 = .ok (.invokevirtual 42, 3) := by decide +kernel
theorem dX3_readRule_125 : decode cX3_readRule 125 = .ok (.istore 4, 2) := by decide +kernel
theorem dX3_readRule_127 : decode cX3_readRule 127 = .ok (.iload 4, 2) := by decide +kernel
theorem dX3_readRule_129 : decode cX3_readRule 129 = .ok (.sipush 999, 3) := by decide +kernel
theorem dX3_readRule_132 : decode cX3_readRule 132 = .ok (.if_icmp .le 5, 3) := by decide +kernel
theorem dX3_readRule_135 : decode cX3_readRule 135 = .ok (.iconst 0, 1) := by decide +kernel
theorem dX3_readRule_136 : decode cX3_readRule 136 = .ok (.ireturn, 1) := by decide +kernel
theorem dX3_readRule_137 : decode cX3_readRule 137 = .ok (.aload_n 0, 1) := by decide +kernel
theorem dX3_readRule_138 : decode cX3_readRule 138 = .ok (.dup, 1) := by decide +kernel
theorem dX3_readRule_139 : decode cX3_readRule 139 = .ok (.getfield 36, 3) := by decide +kernel
theorem dX3_readRule_142 : decode cX3_readRule 142 = .ok (.iconst 1, 1) := by decide +kernel
theorem dX3_readRule_143 : decode cX3_readRule 143 = .ok (.iadd, 1) := by decide +kernel
theorem dX3_readRule_144 : decode cX3_readRule 144 = .ok (.putfield 36, 3) := by decide +kernel
theorem dX3_readRule_147 : decode cX3_readRule 147 = .ok (.iload_n 2, 1) := by decide +kernel
theorem dX3_readRule_148 : decode cX3_readRule 148 = .ok (.sipush 10010, 3) := by decide +kernel
theorem dX3_readRule_151 : decode cX3_readRule 151 = .ok (.if_icmp .ne 8, 3) := by decide +kernel
theorem dX3_readRule_154 : decode cX3_readRule 154 = .ok (.iload 4, 2) := by decide +kernel
theorem dX3_readRule_156 : decode cX3_readRule 156 = .ok (.goto 6, 3) := by decide +kernel
theorem dX3_readRule_159 : decode cX3_readRule 159 = .ok (.iload 4, 2) := by decide +kernel
theorem dX3_readRule_161 : decode cX3_readRule 161 = .ok (.ineg, 1) := by decide +kernel
theorem dX3_readRule_162 : decode cX3_readRule 162 = .ok (.istore_n 3, 1) := by decide +kernel
theorem dX3_readRule_163 : decode cX3_readRule 163 = .ok (.aload_n 0, 1) := by decide +kernel
theorem dX3_readRule_164 : decode cX3_readRule 164 = .ok (.invokevirtual 42, 3) := by decide +kernel
theorem dX3_readRule_167 : decode cX3_readRule 167 = .ok (.sipush 20059, 3) := by decide +kernel
theorem dX3_readRule_170 : decode cX3_readRule 170 = .ok (.if_icmp .eq 5, 3) := by decide +kernel
theorem dX3_readRule_173 : decode cX3_readRule 173 = .ok (.iconst 0, 1) := by decide +kernel
theorem dX3_readRule_174 : decode cX3_readRule 174 = .ok (.ireturn, 1) := by decide +kernel
theorem dX3_readRule_175 : decode cX3_readRule 175 = .ok (.aload_n 0, 1) := by decide +kernel
theorem dX3_readRule_176 : decode cX3_readRule 176 = .ok (.dup, 1) := by decide +kernel
theorem dX3_readRule_177 : decode cX3_readRule 177 = .ok (.getfield 36, 3) := by decide +kernel
theorem dX3_readRule_180 : decode cX3_readRule 180 = .ok (.iconst 1, 1) := by decide +kernel
theorem dX3_readRule_181 : decode cX3_readRule 181 = .ok (.iadd, 1) := by decide +kernel
theorem dX3_readRule_182 : decode cX3_readRule 182 = .ok (.putfield 36, 3) := by decide +kernel
theorem dX3_readRule_185 : decode cX3_readRule 185 = .ok (.aload_n 0, 1) := by decide +kernel
theorem dX3_readRule_186 : decode cX3_readRule 186 = .ok (.getfield 25, 3) := by decide +kernel
theorem dX3_readRule_189 : decode cX3_readRule 189 = .ok (.iload_n 1, 1) := by decide +kernel
theorem dX3_readRule_190 : decode cX3_readRule 190 = .ok (.iload_n 3, 1) := by decide +kernel
theorem dX3_readRule_191 : decode cX3_readRule 191 = .ok (.invokevirtual 98, 3) := by decide +kernel
theorem dX3_readRule_194 : decode cX3_readRule 194 = .ok (.iconst 1, 1) := by decide +kernel
theorem dX3_readRule_195 : decode cX3_readRule 195 = .ok (.ireturn, 1) := by decide +kernel
def f_X3_readRule_163 (S : Sh) (R : Rw)  (I : Iw) (a0 : Nat) (x1 : Int32) (x3 : Int32) : Option (Iw × Int32) := gp (sok S a0 3 7) (bd (f_X3_peek S R I a0) (fun r18 => (if r18 = (20059 : Int32) then lt (up2 I a0 5 ((I a0 5) + (1 : Int32))) (fun I20 => rl (R a0 6) (fun b21 => gp (sok S b21 5 8) (bd (f_X5_addRule S R I20 b21 x1 x3) (fun r23 => some (r23, (1 : Int32)))))) else some (I, (0 : Int32)))))
set_option maxHeartbeats 4000000 in
theorem b_X3_readRule_163 {E : Ev} {p : Program} {l : Launch} {e : Env} {s : State} {m : MethodId} {args : Array Value} {below : List Frame} {meth : Method} {c : Code} (C : Cx E RX3 cX3_readRule 5 p s m c) (hr : meth.sig.returnType = (some .boolean)) (hk : meth.locks = false) {S : Sh} {R : Rw} {r : Iw × Int32}  : ∀ (I : Iw) (a0 : Nat) (x1 : Int32) (x3 : Int32), f_X3_readRule_163 S R   I a0 x1 x3 = some r → Wk E 5 p l e ({ frames := 27, cells := 0, slots := 0, locals := 621 } : Room) s m args below meth c 0 0 (MQ below (Qw E S R r.1 (some (.int r.2))) args s 0 0 (fun q => E.1 ≤ q)) 163 [(0, .ref (E.1 + a0)), (1, .int x1), (3, .int x3)] [] S R I := by
  intro I a0 x1 x3 h
  rw [f_X3_readRule_163] at h
  refine k_aloadn (pc := 163) C dX3_readRule_163 (i := 0) rfl 0 rfl ?_
  obtain ⟨hs170, h⟩ := gp_e h
  have hs17 := sok_e hs170
  obtain ⟨r18, hr18, h⟩ := bd_e h
  refine k_V (pc := 164) (st := []) C (c_X3_peek hr18) lkV_RX3_42 hs17 rfl rfl rfl (Nat.le_of_ble_eq_true rfl) (Nat.le_of_ble_eq_true rfl) (Nat.le_of_ble_eq_true rfl) (Nat.le_of_ble_eq_true rfl) (Nat.le_of_ble_eq_true rfl) dX3_readRule_164 ?_
  refine k_nf (cells2 := 0) (slots2 := 0) (st2 := [.int r18]) rfl rfl rfl ?_
  refine k_sipush (pc := 167) C (v := (20059 : Int32)) dX3_readRule_167 (by decide) ?_
  refine k_icmp_eq (pc := 170) C dX3_readRule_170 (tgt := 175) (by decide) (fun hc19 => ?_) (fun hc19 => ?_)
  · rw [if_pos hc19] at h
    refine k_aloadn (pc := 175) C dX3_readRule_175 (i := 0) rfl 0 rfl ?_
    refine k_dup (pc := 176) C dX3_readRule_176 rfl ?_
    refine k_getI (pc := 177) C lkF_RX3_36_3 hs17 ir_3_5 dX3_readRule_177 ?_
    refine k_iconst (pc := 180) C (v := (1 : Int32)) dX3_readRule_180 (by decide) ?_
    refine k_iadd (pc := 181) C dX3_readRule_181 ?_
    obtain ⟨I20, eI20, h⟩ := lt_e h
    refine k_putI (pc := 182) C lkP_RX3_36_3 hs17 ir_3_5 dX3_readRule_182 ?_
    rw [← eI20]
    refine k_aloadn (pc := 185) C dX3_readRule_185 (i := 0) rfl 0 rfl ?_
    obtain ⟨b21, hb21, h⟩ := rl_e h
    refine k_getR (pc := 186) C lkF_RX3_25_3 hs17 ir_3_6 hb21 dX3_readRule_186 ?_
    refine k_iloadn (pc := 189) C dX3_readRule_189 (i := 1) rfl 1 rfl ?_
    refine k_iloadn (pc := 190) C dX3_readRule_190 (i := 3) rfl 2 rfl ?_
    obtain ⟨hs220, h⟩ := gp_e h
    have hs22 := sok_e hs220
    obtain ⟨r23, hr23, h⟩ := bd_e h
    refine k_V (pc := 191) (st := []) C (c_X5_addRule hr23) lkV_RX3_98 hs22 rfl rfl rfl (Nat.le_of_ble_eq_true rfl) (Nat.le_of_ble_eq_true rfl) (Nat.le_of_ble_eq_true rfl) (Nat.le_of_ble_eq_true rfl) (Nat.le_of_ble_eq_true rfl) dX3_readRule_191 ?_
    refine k_nf (cells2 := 0) (slots2 := 0) (st2 := []) rfl rfl rfl ?_
    refine k_iconst (pc := 194) C (v := (1 : Int32)) dX3_readRule_194 (by decide) ?_
    cases h
    exact k_zret (pc := 195) C hr hk (Or.inr rfl) dX3_readRule_195
  · rw [if_neg hc19] at h
    refine k_iconst (pc := 173) C (v := (0 : Int32)) dX3_readRule_173 (by decide) ?_
    cases h
    exact k_zret (pc := 174) C hr hk (Or.inl rfl) dX3_readRule_174
def f_X3_readRule_162 (S : Sh) (R : Rw)  (I : Iw) (a0 : Nat) (x1 : Int32) (s0 : Int32) : Option (Iw × Int32) := f_X3_readRule_163 S R  I a0 x1 s0
set_option maxHeartbeats 4000000 in
theorem b_X3_readRule_162 {E : Ev} {p : Program} {l : Launch} {e : Env} {s : State} {m : MethodId} {args : Array Value} {below : List Frame} {meth : Method} {c : Code} (C : Cx E RX3 cX3_readRule 5 p s m c) (hr : meth.sig.returnType = (some .boolean)) (hk : meth.locks = false) {S : Sh} {R : Rw} {r : Iw × Int32}  : ∀ (I : Iw) (a0 : Nat) (x1 : Int32) (s0 : Int32), f_X3_readRule_162 S R   I a0 x1 s0 = some r → Wk E 5 p l e ({ frames := 27, cells := 0, slots := 0, locals := 621 } : Room) s m args below meth c 0 0 (MQ below (Qw E S R r.1 (some (.int r.2))) args s 0 0 (fun q => E.1 ≤ q)) 162 [(0, .ref (E.1 + a0)), (1, .int x1)] [.int s0] S R I := by
  intro I a0 x1 s0 h
  rw [f_X3_readRule_162] at h
  refine k_istoren (pc := 162) C dX3_readRule_162 (i := 3) rfl (by decide) (L2 := [(0, .ref (E.1 + a0)), (1, .int x1), (3, .int s0)]) rfl ?_
  exact b_X3_readRule_163 C hr hk  _ _ _ _ h
def f_X3_readRule_100 (S : Sh) (R : Rw)  (I : Iw) (a0 : Nat) (x1 : Int32) (x2 : Int32) : Option (Iw × Int32) := gp (sok S a0 3 7) (lt (up2 I a0 5 ((I a0 5) + (1 : Int32))) (fun I15 => (if x2 = (10012 : Int32) then f_X3_readRule_163 S R  I15 a0 x1 (-999 : Int32) else bd (f_X3_peek S R I15 a0) (fun r24 => (if r24 ≤ (999 : Int32) then lt (up2 I15 a0 5 ((I15 a0 5) + (1 : Int32))) (fun I26 => (if x2 = (10010 : Int32) then f_X3_readRule_162 S R  I26 a0 x1 r24 else f_X3_readRule_162 S R  I26 a0 x1 (-r24))) else some (I15, (0 : Int32)))))))
set_option maxHeartbeats 4000000 in
theorem b_X3_readRule_100 {E : Ev} {p : Program} {l : Launch} {e : Env} {s : State} {m : MethodId} {args : Array Value} {below : List Frame} {meth : Method} {c : Code} (C : Cx E RX3 cX3_readRule 5 p s m c) (hr : meth.sig.returnType = (some .boolean)) (hk : meth.locks = false) {S : Sh} {R : Rw} {r : Iw × Int32}  : ∀ (I : Iw) (a0 : Nat) (x1 : Int32) (x2 : Int32), f_X3_readRule_100 S R   I a0 x1 x2 = some r → Wk E 5 p l e ({ frames := 27, cells := 0, slots := 0, locals := 621 } : Room) s m args below meth c 0 0 (MQ below (Qw E S R r.1 (some (.int r.2))) args s 0 0 (fun q => E.1 ≤ q)) 100 [(0, .ref (E.1 + a0)), (1, .int x1), (2, .int x2)] [] S R I := by
  intro I a0 x1 x2 h
  rw [f_X3_readRule_100] at h
  refine k_aloadn (pc := 100) C dX3_readRule_100 (i := 0) rfl 0 rfl ?_
  refine k_dup (pc := 101) C dX3_readRule_101 rfl ?_
  obtain ⟨hs140, h⟩ := gp_e h
  have hs14 := sok_e hs140
  refine k_getI (pc := 102) C lkF_RX3_36_3 hs14 ir_3_5 dX3_readRule_102 ?_
  refine k_iconst (pc := 105) C (v := (1 : Int32)) dX3_readRule_105 (by decide) ?_
  refine k_iadd (pc := 106) C dX3_readRule_106 ?_
  obtain ⟨I15, eI15, h⟩ := lt_e h
  refine k_putI (pc := 107) C lkP_RX3_36_3 hs14 ir_3_5 dX3_readRule_107 ?_
  rw [← eI15]
  refine k_sipush (pc := 110) C (v := (-999 : Int32)) dX3_readRule_110 (by decide) ?_
  refine k_istoren (pc := 113) C dX3_readRule_113 (i := 3) rfl (by decide) (L2 := [(0, .ref (E.1 + a0)), (1, .int x1), (2, .int x2), (3, .int (-999 : Int32))]) rfl ?_
  refine k_iloadn (pc := 114) C dX3_readRule_114 (i := 2) rfl 2 rfl ?_
  refine k_sipush (pc := 115) C (v := (10012 : Int32)) dX3_readRule_115 (by decide) ?_
  refine k_icmp_eq (pc := 118) C dX3_readRule_118 (tgt := 163) (by decide) (fun hc16 => ?_) (fun hc16 => ?_)
  · rw [if_pos hc16] at h
    refine k_loc (L2 := [(0, .ref (E.1 + a0)), (1, .int x1), (3, .int (-999 : Int32))]) [0, 1, 3] rfl ?_
    exact b_X3_readRule_163 C hr hk  _ _ _ _ h
  · rw [if_neg hc16] at h
    refine k_aloadn (pc := 121) C dX3_readRule_121 (i := 0) rfl 0 rfl ?_
    obtain ⟨r24, hr24, h⟩ := bd_e h
    refine k_V (pc := 122) (st := []) C (c_X3_peek hr24) lkV_RX3_42 hs14 rfl rfl rfl (Nat.le_of_ble_eq_true rfl) (Nat.le_of_ble_eq_true rfl) (Nat.le_of_ble_eq_true rfl) (Nat.le_of_ble_eq_true rfl) (Nat.le_of_ble_eq_true rfl) dX3_readRule_122 ?_
    refine k_nf (cells2 := 0) (slots2 := 0) (st2 := [.int r24]) rfl rfl rfl ?_
    refine k_istore (pc := 125) C dX3_readRule_125 (by decide) (L2 := [(0, .ref (E.1 + a0)), (1, .int x1), (2, .int x2), (3, .int (-999 : Int32)), (4, .int r24)]) rfl ?_
    refine k_iload (pc := 127) C dX3_readRule_127 4 rfl ?_
    refine k_sipush (pc := 129) C (v := (999 : Int32)) dX3_readRule_129 (by decide) ?_
    refine k_icmp_le (pc := 132) C dX3_readRule_132 (tgt := 137) (by decide) (fun hc25 => ?_) (fun hc25 => ?_)
    · rw [if_pos hc25] at h
      refine k_aloadn (pc := 137) C dX3_readRule_137 (i := 0) rfl 0 rfl ?_
      refine k_dup (pc := 138) C dX3_readRule_138 rfl ?_
      refine k_getI (pc := 139) C lkF_RX3_36_3 hs14 ir_3_5 dX3_readRule_139 ?_
      refine k_iconst (pc := 142) C (v := (1 : Int32)) dX3_readRule_142 (by decide) ?_
      refine k_iadd (pc := 143) C dX3_readRule_143 ?_
      obtain ⟨I26, eI26, h⟩ := lt_e h
      refine k_putI (pc := 144) C lkP_RX3_36_3 hs14 ir_3_5 dX3_readRule_144 ?_
      rw [← eI26]
      refine k_iloadn (pc := 147) C dX3_readRule_147 (i := 2) rfl 2 rfl ?_
      refine k_sipush (pc := 148) C (v := (10010 : Int32)) dX3_readRule_148 (by decide) ?_
      refine k_icmp_ne (pc := 151) C dX3_readRule_151 (tgt := 159) (by decide) (fun hc27 => ?_) (fun hc27 => ?_)
      · rw [if_neg hc27] at h
        refine k_iload (pc := 159) C dX3_readRule_159 4 rfl ?_
        refine k_ineg (pc := 161) C dX3_readRule_161 ?_
        refine k_loc (L2 := [(0, .ref (E.1 + a0)), (1, .int x1)]) [0, 1] rfl ?_
        exact b_X3_readRule_162 C hr hk  _ _ _ _ h
      · rw [if_pos hc27] at h
        refine k_iload (pc := 154) C dX3_readRule_154 4 rfl ?_
        refine k_goto (pc := 156) C dX3_readRule_156 (tgt := 162) (by decide) ?_
        refine k_loc (L2 := [(0, .ref (E.1 + a0)), (1, .int x1)]) [0, 1] rfl ?_
        exact b_X3_readRule_162 C hr hk  _ _ _ _ h
    · rw [if_neg hc25] at h
      refine k_iconst (pc := 135) C (v := (0 : Int32)) dX3_readRule_135 (by decide) ?_
      cases h
      exact k_zret (pc := 136) C hr hk (Or.inl rfl) dX3_readRule_136
def f_X3_readRule_72 (S : Sh) (R : Rw)  (I : Iw) (a0 : Nat) (x1 : Int32) : Option (Iw × Int32) := gp (sok S a0 3 7) (bd (f_X3_peek S R I a0) (fun r12 => (if r12 = (10010 : Int32) then f_X3_readRule_100 S R  I a0 x1 r12 else (if r12 = (10011 : Int32) then f_X3_readRule_100 S R  I a0 x1 r12 else (if r12 = (10012 : Int32) then f_X3_readRule_100 S R  I a0 x1 r12 else some (I, (0 : Int32)))))))
set_option maxHeartbeats 4000000 in
theorem b_X3_readRule_72 {E : Ev} {p : Program} {l : Launch} {e : Env} {s : State} {m : MethodId} {args : Array Value} {below : List Frame} {meth : Method} {c : Code} (C : Cx E RX3 cX3_readRule 5 p s m c) (hr : meth.sig.returnType = (some .boolean)) (hk : meth.locks = false) {S : Sh} {R : Rw} {r : Iw × Int32}  : ∀ (I : Iw) (a0 : Nat) (x1 : Int32), f_X3_readRule_72 S R   I a0 x1 = some r → Wk E 5 p l e ({ frames := 27, cells := 0, slots := 0, locals := 621 } : Room) s m args below meth c 0 0 (MQ below (Qw E S R r.1 (some (.int r.2))) args s 0 0 (fun q => E.1 ≤ q)) 72 [(0, .ref (E.1 + a0)), (1, .int x1)] [] S R I := by
  intro I a0 x1 h
  rw [f_X3_readRule_72] at h
  refine k_aloadn (pc := 72) C dX3_readRule_72 (i := 0) rfl 0 rfl ?_
  obtain ⟨hs110, h⟩ := gp_e h
  have hs11 := sok_e hs110
  obtain ⟨r12, hr12, h⟩ := bd_e h
  refine k_V (pc := 73) (st := []) C (c_X3_peek hr12) lkV_RX3_42 hs11 rfl rfl rfl (Nat.le_of_ble_eq_true rfl) (Nat.le_of_ble_eq_true rfl) (Nat.le_of_ble_eq_true rfl) (Nat.le_of_ble_eq_true rfl) (Nat.le_of_ble_eq_true rfl) dX3_readRule_73 ?_
  refine k_nf (cells2 := 0) (slots2 := 0) (st2 := [.int r12]) rfl rfl rfl ?_
  refine k_istoren (pc := 76) C dX3_readRule_76 (i := 2) rfl (by decide) (L2 := [(0, .ref (E.1 + a0)), (1, .int x1), (2, .int r12)]) rfl ?_
  refine k_iloadn (pc := 77) C dX3_readRule_77 (i := 2) rfl 2 rfl ?_
  refine k_sipush (pc := 78) C (v := (10010 : Int32)) dX3_readRule_78 (by decide) ?_
  refine k_icmp_eq (pc := 81) C dX3_readRule_81 (tgt := 100) (by decide) (fun hc13 => ?_) (fun hc13 => ?_)
  · rw [if_pos hc13] at h
    exact b_X3_readRule_100 C hr hk  _ _ _ _ h
  · rw [if_neg hc13] at h
    refine k_iloadn (pc := 84) C dX3_readRule_84 (i := 2) rfl 2 rfl ?_
    refine k_sipush (pc := 85) C (v := (10011 : Int32)) dX3_readRule_85 (by decide) ?_
    refine k_icmp_eq (pc := 88) C dX3_readRule_88 (tgt := 100) (by decide) (fun hc28 => ?_) (fun hc28 => ?_)
    · rw [if_pos hc28] at h
      exact b_X3_readRule_100 C hr hk  _ _ _ _ h
    · rw [if_neg hc28] at h
      refine k_iloadn (pc := 91) C dX3_readRule_91 (i := 2) rfl 2 rfl ?_
      refine k_sipush (pc := 92) C (v := (10012 : Int32)) dX3_readRule_92 (by decide) ?_
      refine k_icmp_eq (pc := 95) C dX3_readRule_95 (tgt := 100) (by decide) (fun hc29 => ?_) (fun hc29 => ?_)
      · rw [if_pos hc29] at h
        exact b_X3_readRule_100 C hr hk  _ _ _ _ h
      · rw [if_neg hc29] at h
        refine k_iconst (pc := 98) C (v := (0 : Int32)) dX3_readRule_98 (by decide) ?_
        cases h
        exact k_zret (pc := 99) C hr hk (Or.inl rfl) dX3_readRule_99
def f_X3_readRule (S : Sh) (R : Rw)  (I : Iw) (a0 : Nat) : Option (Iw × Int32) := gp (sok S a0 3 7) (bd (f_X3_peek S R I a0) (fun r2 => rl (R a0 6) (fun b3 => gp (sok S b3 5 8) ((if (8 : Int32) ≤ (I b3 0) then some (I, (0 : Int32)) else bd (f_X11_isBetween S R I (r2 - (10000 : Int32)) (0 : Int32) (5 : Int32)) (fun r6 => (if r6 = 0 then some (I, (0 : Int32)) else lt (up2 I a0 5 ((I a0 5) + (1 : Int32))) (fun I8 => bd (f_X3_peek S R I8 a0) (fun r9 => (if r9 = (10006 : Int32) then lt (up2 I8 a0 5 ((I8 a0 5) + (1 : Int32))) (fun I30 => bd (f_X3_readCondition (f_X3_readOne 8) S R I30 a0 (0 : Int32)) (fun r31 => (if r31.2 = 0 then some (r31.1, (0 : Int32)) else f_X3_readRule_72 S R  r31.1 a0 (r2 - (10000 : Int32))))) else f_X3_readRule_72 S R  I8 a0 (r2 - (10000 : Int32))))))))))))
set_option maxHeartbeats 4000000 in
theorem b_X3_readRule {E : Ev} {p : Program} {l : Launch} {e : Env} {s : State} {m : MethodId} {args : Array Value} {below : List Frame} {meth : Method} {c : Code} (C : Cx E RX3 cX3_readRule 5 p s m c) (hr : meth.sig.returnType = (some .boolean)) (hk : meth.locks = false) {S : Sh} {R : Rw} {r : Iw × Int32}  : ∀ (I : Iw) (a0 : Nat), f_X3_readRule S R   I a0 = some r → Wk E 5 p l e ({ frames := 27, cells := 0, slots := 0, locals := 621 } : Room) s m args below meth c 0 0 (MQ below (Qw E S R r.1 (some (.int r.2))) args s 0 0 (fun q => E.1 ≤ q)) 0 [(0, .ref (E.1 + a0))] [] S R I := by
  intro I a0 h
  rw [f_X3_readRule] at h
  refine k_aloadn (pc := 0) C dX3_readRule_0 (i := 0) rfl 0 rfl ?_
  obtain ⟨hs10, h⟩ := gp_e h
  have hs1 := sok_e hs10
  obtain ⟨r2, hr2, h⟩ := bd_e h
  refine k_V (pc := 1) (st := []) C (c_X3_peek hr2) lkV_RX3_42 hs1 rfl rfl rfl (Nat.le_of_ble_eq_true rfl) (Nat.le_of_ble_eq_true rfl) (Nat.le_of_ble_eq_true rfl) (Nat.le_of_ble_eq_true rfl) (Nat.le_of_ble_eq_true rfl) dX3_readRule_1 ?_
  refine k_nf (cells2 := 0) (slots2 := 0) (st2 := [.int r2]) rfl rfl rfl ?_
  refine k_sipush (pc := 4) C (v := (10000 : Int32)) dX3_readRule_4 (by decide) ?_
  refine k_isub (pc := 7) C dX3_readRule_7 ?_
  refine k_istoren (pc := 8) C dX3_readRule_8 (i := 1) rfl (by decide) (L2 := [(0, .ref (E.1 + a0)), (1, .int (r2 - (10000 : Int32)))]) rfl ?_
  refine k_aloadn (pc := 9) C dX3_readRule_9 (i := 0) rfl 0 rfl ?_
  obtain ⟨b3, hb3, h⟩ := rl_e h
  refine k_getR (pc := 10) C lkF_RX3_25_3 hs1 ir_3_6 hb3 dX3_readRule_10 ?_
  obtain ⟨hs40, h⟩ := gp_e h
  have hs4 := sok_e hs40
  refine k_getI (pc := 13) C lkF_RX3_57_5 hs4 ir_5_0 dX3_readRule_13 ?_
  refine k_bipush (pc := 16) C (v := (8 : Int32)) dX3_readRule_16 (by decide) ?_
  refine k_icmp_ge (pc := 18) C dX3_readRule_18 (tgt := 30) (by decide) (fun hc5 => ?_) (fun hc5 => ?_)
  · rw [if_pos hc5] at h
    refine k_iconst (pc := 30) C (v := (0 : Int32)) dX3_readRule_30 (by decide) ?_
    cases h
    exact k_zret (pc := 31) C hr hk (Or.inl rfl) dX3_readRule_31
  · rw [if_neg hc5] at h
    refine k_iloadn (pc := 21) C dX3_readRule_21 (i := 1) rfl 1 rfl ?_
    refine k_iconst (pc := 22) C (v := (0 : Int32)) dX3_readRule_22 (by decide) ?_
    refine k_iconst (pc := 23) C (v := (5 : Int32)) dX3_readRule_23 (by decide) ?_
    obtain ⟨r6, hr6, h⟩ := bd_e h
    refine k_SN (pc := 24) (st := []) C (c_X11_isBetween hr6) lkSN_RX3_90 rfl rfl (Nat.le_of_ble_eq_true rfl) (Nat.le_of_ble_eq_true rfl) (Nat.le_of_ble_eq_true rfl) (Nat.le_of_ble_eq_true rfl) (Nat.le_of_ble_eq_true rfl) dX3_readRule_24 ?_
    refine k_nf (cells2 := 0) (slots2 := 0) (st2 := [.int r6]) rfl rfl rfl ?_
    refine k_if_ne (pc := 27) C dX3_readRule_27 (tgt := 32) (by decide) (fun hc7 => ?_) (fun hc7 => ?_)
    · rw [if_neg hc7] at h
      refine k_aloadn (pc := 32) C dX3_readRule_32 (i := 0) rfl 0 rfl ?_
      refine k_dup (pc := 33) C dX3_readRule_33 rfl ?_
      refine k_getI (pc := 34) C lkF_RX3_36_3 hs1 ir_3_5 dX3_readRule_34 ?_
      refine k_iconst (pc := 37) C (v := (1 : Int32)) dX3_readRule_37 (by decide) ?_
      refine k_iadd (pc := 38) C dX3_readRule_38 ?_
      obtain ⟨I8, eI8, h⟩ := lt_e h
      refine k_putI (pc := 39) C lkP_RX3_36_3 hs1 ir_3_5 dX3_readRule_39 ?_
      rw [← eI8]
      refine k_aloadn (pc := 42) C dX3_readRule_42 (i := 0) rfl 0 rfl ?_
      obtain ⟨r9, hr9, h⟩ := bd_e h
      refine k_V (pc := 43) (st := []) C (c_X3_peek hr9) lkV_RX3_42 hs1 rfl rfl rfl (Nat.le_of_ble_eq_true rfl) (Nat.le_of_ble_eq_true rfl) (Nat.le_of_ble_eq_true rfl) (Nat.le_of_ble_eq_true rfl) (Nat.le_of_ble_eq_true rfl) dX3_readRule_43 ?_
      refine k_nf (cells2 := 0) (slots2 := 0) (st2 := [.int r9]) rfl rfl rfl ?_
      refine k_sipush (pc := 46) C (v := (10006 : Int32)) dX3_readRule_46 (by decide) ?_
      refine k_icmp_ne (pc := 49) C dX3_readRule_49 (tgt := 72) (by decide) (fun hc10 => ?_) (fun hc10 => ?_)
      · rw [if_neg hc10] at h
        exact b_X3_readRule_72 C hr hk  _ _ _ h
      · rw [if_pos hc10] at h
        refine k_aloadn (pc := 52) C dX3_readRule_52 (i := 0) rfl 0 rfl ?_
        refine k_dup (pc := 53) C dX3_readRule_53 rfl ?_
        refine k_getI (pc := 54) C lkF_RX3_36_3 hs1 ir_3_5 dX3_readRule_54 ?_
        refine k_iconst (pc := 57) C (v := (1 : Int32)) dX3_readRule_57 (by decide) ?_
        refine k_iadd (pc := 58) C dX3_readRule_58 ?_
        obtain ⟨I30, eI30, h⟩ := lt_e h
        refine k_putI (pc := 59) C lkP_RX3_36_3 hs1 ir_3_5 dX3_readRule_59 ?_
        rw [← eI30]
        refine k_aloadn (pc := 62) C dX3_readRule_62 (i := 0) rfl 0 rfl ?_
        refine k_iconst (pc := 63) C (v := (0 : Int32)) dX3_readRule_63 (by decide) ?_
        obtain ⟨r31, hr31, h⟩ := bd_e h
        refine k_V (pc := 64) (st := []) C (c_X3_readCondition (c_X3_readOne_g 8) hr31) lkV_RX3_94 hs1 rfl rfl rfl (Nat.le_of_ble_eq_true rfl) (Nat.le_of_ble_eq_true rfl) (Nat.le_of_ble_eq_true rfl) (Nat.le_of_ble_eq_true rfl) (Nat.le_of_ble_eq_true rfl) dX3_readRule_64 ?_
        refine k_nf (cells2 := 0) (slots2 := 0) (st2 := [.int r31.2]) rfl rfl rfl ?_
        refine k_if_ne (pc := 67) C dX3_readRule_67 (tgt := 72) (by decide) (fun hc32 => ?_) (fun hc32 => ?_)
        · rw [if_neg hc32] at h
          exact b_X3_readRule_72 C hr hk  _ _ _ h
        · rw [if_pos hc32] at h
          refine k_iconst (pc := 70) C (v := (0 : Int32)) dX3_readRule_70 (by decide) ?_
          cases h
          exact k_zret (pc := 71) C hr hk (Or.inl rfl) dX3_readRule_71
    · rw [if_pos hc7] at h
      refine k_iconst (pc := 30) C (v := (0 : Int32)) dX3_readRule_30 (by decide) ?_
      cases h
      exact k_zret (pc := 31) C hr hk (Or.inl rfl) dX3_readRule_31
theorem c_X3_readRule {E : Ev} {l : Launch} {S : Sh} {R : Rw} {I : Iw} {a0 : Nat} {r : Iw × Int32} (h : f_X3_readRule S R I a0 = some r) : Mt E l yX3_readRule cX3_readRule 5 (some .boolean) 27 621 [.ref (E.1 + a0)] S R I S R r.1 (some (.int r.2)) 0 0 := mt_of (by decide) (Nat.le_of_ble_eq_true rfl) (fun p e s m args below meth c C hr hk hn => b_X3_readRule C hr hk _ _ h)
theorem dX5_clear_0 : decode cX5_clear 0 = .ok (.aload_n 0, 1) := by decide +kernel
theorem dX5_clear_1 : decode cX5_clear 1 = .ok (.iconst 0, 1) := by decide +kernel
theorem dX5_clear_2 : decode cX5_clear 2 = .ok (.putfield 30, 3) := by decide +kernel
theorem dX5_clear_5 : decode cX5_clear 5 = .ok (.aload_n 0, 1) := by decide +kernel
theorem dX5_clear_6 : decode cX5_clear 6 = .ok (.iconst 0, 1) := by decide +kernel
theorem dX5_clear_7 : decode cX5_clear 7 = .ok (.putfield 34, 3) := by decide +kernel
theorem dX5_clear_10 : decode cX5_clear 10 = .ok (.return_, 1) := by decide +kernel
def f_X5_clear (S : Sh) (R : Rw)  (I : Iw) (a0 : Nat) : Option (Iw) := gp (sok S a0 5 8) (lt (up2 I a0 0 (0 : Int32)) (fun I2 => lt (up2 I2 a0 4 (0 : Int32)) (fun I3 => some I3)))
set_option maxHeartbeats 4000000 in
theorem b_X5_clear {E : Ev} {p : Program} {l : Launch} {e : Env} {s : State} {m : MethodId} {args : Array Value} {below : List Frame} {meth : Method} {c : Code} (C : Cx E RX5 cX5_clear 1 p s m c) (hr : meth.sig.returnType = none) (hk : meth.locks = false) {S : Sh} {R : Rw} {r : Iw}  : ∀ (I : Iw) (a0 : Nat), f_X5_clear S R   I a0 = some r → Wk E 1 p l e ({ frames := 0, cells := 0, slots := 0, locals := 0 } : Room) s m args below meth c 0 0 (MQ below (Qw E S R r none) args s 0 0 (fun q => E.1 ≤ q)) 0 [(0, .ref (E.1 + a0))] [] S R I := by
  intro I a0 h
  rw [f_X5_clear] at h
  refine k_aloadn (pc := 0) C dX5_clear_0 (i := 0) rfl 0 rfl ?_
  refine k_iconst (pc := 1) C (v := (0 : Int32)) dX5_clear_1 (by decide) ?_
  obtain ⟨hs10, h⟩ := gp_e h
  have hs1 := sok_e hs10
  obtain ⟨I2, eI2, h⟩ := lt_e h
  refine k_putI (pc := 2) C lkP_RX5_30_5 hs1 ir_5_0 dX5_clear_2 ?_
  rw [← eI2]
  refine k_aloadn (pc := 5) C dX5_clear_5 (i := 0) rfl 0 rfl ?_
  refine k_iconst (pc := 6) C (v := (0 : Int32)) dX5_clear_6 (by decide) ?_
  obtain ⟨I3, eI3, h⟩ := lt_e h
  refine k_putI (pc := 7) C lkP_RX5_34_5 hs1 ir_5_4 dX5_clear_7 ?_
  rw [← eI3]
  cases h
  exact k_vret (pc := 10) C hr hk dX5_clear_10
theorem c_X5_clear {E : Ev} {l : Launch} {S : Sh} {R : Rw} {I : Iw} {a0 : Nat} {r : Iw} (h : f_X5_clear S R I a0 = some r) : Mt E l yX5_clear cX5_clear 1 none 0 0 [.ref (E.1 + a0)] S R I S R r none 0 0 := mt_of (by decide) (Nat.le_of_ble_eq_true rfl) (fun p e s m args below meth c C hr hk hn => b_X5_clear C hr hk _ _ h)
theorem dX5_copyFrom_0 : decode cX5_copyFrom 0 = .ok (.aload_n 0, 1) := by decide +kernel
theorem dX5_copyFrom_1 : decode cX5_copyFrom 1 = .ok (.aload_n 1, 1) := by decide +kernel
theorem dX5_copyFrom_2 : decode cX5_copyFrom 2 = .ok (.getfield 30, 3) := by decide +kernel
theorem dX5_copyFrom_5 : decode cX5_copyFrom 5 = .ok (.putfield 30, 3) := by decide +kernel
theorem dX5_copyFrom_8 : decode cX5_copyFrom 8 = .ok (.aload_n 0, 1) := by decide +kernel
theorem dX5_copyFrom_9 : decode cX5_copyFrom 9 = .ok (.aload_n 1, 1) := by decide +kernel
theorem dX5_copyFrom_10 : decode cX5_copyFrom 10 = .ok (.getfield 34, 3) := by decide +kernel
theorem dX5_copyFrom_13 : decode cX5_copyFrom 13 = .ok (.putfield 34, 3) := by decide +kernel
theorem dX5_copyFrom_16 : decode cX5_copyFrom 16 = .ok (.aload_n 1, 1) := by decide +kernel
theorem dX5_copyFrom_17 : decode cX5_copyFrom 17 = .ok (.getfield 9, 3) := by decide +kernel
theorem dX5_copyFrom_20 : decode cX5_copyFrom 20 = .ok (.iconst 0, 1) := by decide +kernel
theorem dX5_copyFrom_21 : decode cX5_copyFrom 21 = .ok (.aload_n 0, 1) := by decide +kernel
theorem dX5_copyFrom_22 : decode cX5_copyFrom 22 = .ok (.getfield 9, 3) := by decide +kernel
theorem dX5_copyFrom_25 : decode cX5_copyFrom 25 = .ok (.iconst 0, 1) := by decide +kernel
theorem dX5_copyFrom_26 : decode cX5_copyFrom 26 = .ok (.bipush 8, 2) := by decide +kernel
theorem dX5_copyFrom_28 : decode cX5_copyFrom 28 = .ok (.invokestatic 67, 3) := by decide +kernel
theorem dX5_copyFrom_31 : decode cX5_copyFrom 31 = .ok (.aload_n 1, 1) := by decide +kernel
theorem dX5_copyFrom_32 : decode cX5_copyFrom 32 = .ok (.getfield 15, 3) := by decide +kernel
theorem dX5_copyFrom_35 : decode cX5_copyFrom 35 = .ok (.iconst 0, 1) := by decide +kernel
theorem dX5_copyFrom_36 : decode cX5_copyFrom 36 = .ok (.aload_n 0, 1) := by decide +kernel
theorem dX5_copyFrom_37 : decode cX5_copyFrom 37 = .ok (.getfield 15, 3) := by decide +kernel
theorem dX5_copyFrom_40 : decode cX5_copyFrom 40 = .ok (.iconst 0, 1) := by decide +kernel
theorem dX5_copyFrom_41 : decode cX5_copyFrom 41 = .ok (.bipush 8, 2) := by decide +kernel
theorem dX5_copyFrom_43 : decode cX5_copyFrom 43 = .ok (.invokestatic 67, 3) := by decide +kernel
theorem dX5_copyFrom_46 : decode cX5_copyFrom 46 = .ok (.aload_n 1, 1) := by decide +kernel
theorem dX5_copyFrom_47 : decode cX5_copyFrom 47 = .ok (.getfield 18, 3) := by decide +kernel
theorem dX5_copyFrom_50 : decode cX5_copyFrom 50 = .ok (.iconst 0, 1) := by decide +kernel
theorem dX5_copyFrom_51 : decode cX5_copyFrom 51 = .ok (.aload_n 0, 1) := by decide +kernel
theorem dX5_copyFrom_52 : decode cX5_copyFrom 52 = .ok (.getfield 18, 3) := by decide +kernel
theorem dX5_copyFrom_55 : decode cX5_copyFrom 55 = .ok (.iconst 0, 1) := by decide +kernel
theorem dX5_copyFrom_56 : decode cX5_copyFrom 56 = .ok (.bipush 8, 2) := by decide +kernel
theorem dX5_copyFrom_58 : decode cX5_copyFrom 58 = .ok (.invokestatic 67, 3) := by decide +kernel
theorem dX5_copyFrom_61 : decode cX5_copyFrom 61 = .ok (.aload_n 1, 1) := by decide +kernel
theorem dX5_copyFrom_62 : decode cX5_copyFrom 62 = .ok (.getfield 21, 3) := by decide +kernel
theorem dX5_copyFrom_65 : decode cX5_copyFrom 65 = .ok (.iconst 0, 1) := by decide +kernel
theorem dX5_copyFrom_66 : decode cX5_copyFrom 66 = .ok (.aload_n 0, 1) := by decide +kernel
theorem dX5_copyFrom_67 : decode cX5_copyFrom 67 = .ok (.getfield 21, 3) := by decide +kernel
theorem dX5_copyFrom_70 : decode cX5_copyFrom 70 = .ok (.iconst 0, 1) := by decide +kernel
theorem dX5_copyFrom_71 : decode cX5_copyFrom 71 = .ok (.sipush 128, 3) := by decide +kernel
theorem dX5_copyFrom_74 : decode cX5_copyFrom 74 = .ok (.invokestatic 67, 3) := by decide +kernel
theorem dX5_copyFrom_77 : decode cX5_copyFrom 77 = .ok (.aload_n 1, 1) := by decide +kernel
theorem dX5_copyFrom_78 : decode cX5_copyFrom 78 = .ok (.getfield 24, 3) := by decide +kernel
theorem dX5_copyFrom_81 : decode cX5_copyFrom 81 = .ok (.iconst 0, 1) := by decide +kernel
theorem dX5_copyFrom_82 : decode cX5_copyFrom 82 = .ok (.aload_n 0, 1) := by decide +kernel
theorem dX5_copyFrom_83 : decode cX5_copyFrom 83 = .ok (.getfield 24, 3) := by decide +kernel
theorem dX5_copyFrom_86 : decode cX5_copyFrom 86 = .ok (.iconst 0, 1) := by decide +kernel
theorem dX5_copyFrom_87 : decode cX5_copyFrom 87 = .ok (.sipush 128, 3) := by decide +kernel
theorem dX5_copyFrom_90 : decode cX5_copyFrom 90 = .ok (.invokestatic 67, 3) := by decide +kernel
theorem dX5_copyFrom_93 : decode cX5_copyFrom 93 = .ok (.aload_n 1, 1) := by decide +kernel
theorem dX5_copyFrom_94 : decode cX5_copyFrom 94 = .ok (.getfield 27, 3) := by decide +kernel
theorem dX5_copyFrom_97 : decode cX5_copyFrom 97 = .ok (.iconst 0, 1) := by decide +kernel
theorem dX5_copyFrom_98 : decode cX5_copyFrom 98 = .ok (.aload_n 0, 1) := by decide +kernel
theorem dX5_copyFrom_99 : decode cX5_copyFrom 99 = .ok (.getfield 27, 3) := by decide +kernel
theorem dX5_copyFrom_102 : decode cX5_copyFrom 102 = .ok (.iconst 0, 1) := by decide +kernel
theorem dX5_copyFrom_103 : decode cX5_copyFrom 103 = .ok (.sipush 128, 3) := by decide +kernel
theorem dX5_copyFrom_106 : decode cX5_copyFrom 106 = .ok (.invokestatic 67, 3) := by decide +kernel
theorem dX5_copyFrom_109 : decode cX5_copyFrom 109 = .ok (.return_, 1) := by decide +kernel
def f_X5_copyFrom (S : Sh) (R : Rw)  (I : Iw) (a0 : Nat) (a1 : Nat) : Option (Iw) := gp (sok S a1 5 8) (gp (sok S a0 5 8) (lt (up2 I a0 0 (I a1 0)) (fun I3 => lt (up2 I3 a0 4 (I3 a1 4)) (fun I4 => rl (R a1 1) (fun b5 => rl (R a0 1) (fun b6 => gp (cok S 20 b5 b6 (0 : Int32) (0 : Int32) (8 : Int32)) (lt (cpy I4 b5 (0 : Int32).toNatClampNeg b6 (0 : Int32).toNatClampNeg (8 : Int32).toNatClampNeg) (fun I8 => rl (R a1 2) (fun b9 => rl (R a0 2) (fun b10 => gp (cok S 20 b9 b10 (0 : Int32) (0 : Int32) (8 : Int32)) (lt (cpy I8 b9 (0 : Int32).toNatClampNeg b10 (0 : Int32).toNatClampNeg (8 : Int32).toNatClampNeg) (fun I12 => rl (R a1 3) (fun b13 => rl (R a0 3) (fun b14 => gp (cok S 20 b13 b14 (0 : Int32) (0 : Int32) (8 : Int32)) (lt (cpy I12 b13 (0 : Int32).toNatClampNeg b14 (0 : Int32).toNatClampNeg (8 : Int32).toNatClampNeg) (fun I16 => rl (R a1 5) (fun b17 => rl (R a0 5) (fun b18 => gp (cok S 20 b17 b18 (0 : Int32) (0 : Int32) (128 : Int32)) (lt (cpy I16 b17 (0 : Int32).toNatClampNeg b18 (0 : Int32).toNatClampNeg (128 : Int32).toNatClampNeg) (fun I20 => rl (R a1 6) (fun b21 => rl (R a0 6) (fun b22 => gp (cok S 20 b21 b22 (0 : Int32) (0 : Int32) (128 : Int32)) (lt (cpy I20 b21 (0 : Int32).toNatClampNeg b22 (0 : Int32).toNatClampNeg (128 : Int32).toNatClampNeg) (fun I24 => rl (R a1 7) (fun b25 => rl (R a0 7) (fun b26 => gp (cok S 20 b25 b26 (0 : Int32) (0 : Int32) (128 : Int32)) (lt (cpy I24 b25 (0 : Int32).toNatClampNeg b26 (0 : Int32).toNatClampNeg (128 : Int32).toNatClampNeg) (fun I28 => some I28))))))))))))))))))))))))))))
set_option maxHeartbeats 4000000 in
theorem b_X5_copyFrom {E : Ev} {p : Program} {l : Launch} {e : Env} {s : State} {m : MethodId} {args : Array Value} {below : List Frame} {meth : Method} {c : Code} (C : Cx E RX5 cX5_copyFrom 2 p s m c) (hr : meth.sig.returnType = none) (hk : meth.locks = false) {S : Sh} {R : Rw} {r : Iw}  : ∀ (I : Iw) (a0 : Nat) (a1 : Nat), f_X5_copyFrom S R   I a0 a1 = some r → Wk E 2 p l e ({ frames := 1, cells := 0, slots := 0, locals := 60 } : Room) s m args below meth c 0 0 (MQ below (Qw E S R r none) args s 0 0 (fun q => E.1 ≤ q)) 0 [(0, .ref (E.1 + a0)), (1, .ref (E.1 + a1))] [] S R I := by
  intro I a0 a1 h
  rw [f_X5_copyFrom] at h
  refine k_aloadn (pc := 0) C dX5_copyFrom_0 (i := 0) rfl 0 rfl ?_
  refine k_aloadn (pc := 1) C dX5_copyFrom_1 (i := 1) rfl 1 rfl ?_
  obtain ⟨hs10, h⟩ := gp_e h
  have hs1 := sok_e hs10
  refine k_getI (pc := 2) C lkF_RX5_30_5 hs1 ir_5_0 dX5_copyFrom_2 ?_
  obtain ⟨hs20, h⟩ := gp_e h
  have hs2 := sok_e hs20
  obtain ⟨I3, eI3, h⟩ := lt_e h
  refine k_putI (pc := 5) C lkP_RX5_30_5 hs2 ir_5_0 dX5_copyFrom_5 ?_
  rw [← eI3]
  refine k_aloadn (pc := 8) C dX5_copyFrom_8 (i := 0) rfl 0 rfl ?_
  refine k_aloadn (pc := 9) C dX5_copyFrom_9 (i := 1) rfl 1 rfl ?_
  refine k_getI (pc := 10) C lkF_RX5_34_5 hs1 ir_5_4 dX5_copyFrom_10 ?_
  obtain ⟨I4, eI4, h⟩ := lt_e h
  refine k_putI (pc := 13) C lkP_RX5_34_5 hs2 ir_5_4 dX5_copyFrom_13 ?_
  rw [← eI4]
  refine k_aloadn (pc := 16) C dX5_copyFrom_16 (i := 1) rfl 1 rfl ?_
  obtain ⟨b5, hb5, h⟩ := rl_e h
  refine k_getR (pc := 17) C lkF_RX5_9_5 hs1 ir_5_1 hb5 dX5_copyFrom_17 ?_
  refine k_iconst (pc := 20) C (v := (0 : Int32)) dX5_copyFrom_20 (by decide) ?_
  refine k_aloadn (pc := 21) C dX5_copyFrom_21 (i := 0) rfl 0 rfl ?_
  obtain ⟨b6, hb6, h⟩ := rl_e h
  refine k_getR (pc := 22) C lkF_RX5_9_5 hs2 ir_5_1 hb6 dX5_copyFrom_22 ?_
  refine k_iconst (pc := 25) C (v := (0 : Int32)) dX5_copyFrom_25 (by decide) ?_
  refine k_bipush (pc := 26) C (v := (8 : Int32)) dX5_copyFrom_26 (by decide) ?_
  obtain ⟨ha7, h⟩ := gp_e h
  obtain ⟨I8, eI8, h⟩ := lt_e h
  refine k_copy (pc := 28) C (t3_in 34 (by decide +kernel) rfl) (t3_in 36 (by decide +kernel) rfl) (t3_in 35 (by decide +kernel) rfl) (t1_in 13 (by decide +kernel) rfl) rfl ha7 (Nat.le_of_ble_eq_true rfl) (Nat.le_of_ble_eq_true rfl) (Nat.le_of_ble_eq_true rfl) dX5_copyFrom_28 ?_
  rw [← eI8]
  refine k_aloadn (pc := 31) C dX5_copyFrom_31 (i := 1) rfl 1 rfl ?_
  obtain ⟨b9, hb9, h⟩ := rl_e h
  refine k_getR (pc := 32) C lkF_RX5_15_5 hs1 ir_5_2 hb9 dX5_copyFrom_32 ?_
  refine k_iconst (pc := 35) C (v := (0 : Int32)) dX5_copyFrom_35 (by decide) ?_
  refine k_aloadn (pc := 36) C dX5_copyFrom_36 (i := 0) rfl 0 rfl ?_
  obtain ⟨b10, hb10, h⟩ := rl_e h
  refine k_getR (pc := 37) C lkF_RX5_15_5 hs2 ir_5_2 hb10 dX5_copyFrom_37 ?_
  refine k_iconst (pc := 40) C (v := (0 : Int32)) dX5_copyFrom_40 (by decide) ?_
  refine k_bipush (pc := 41) C (v := (8 : Int32)) dX5_copyFrom_41 (by decide) ?_
  obtain ⟨ha11, h⟩ := gp_e h
  obtain ⟨I12, eI12, h⟩ := lt_e h
  refine k_copy (pc := 43) C (t3_in 34 (by decide +kernel) rfl) (t3_in 36 (by decide +kernel) rfl) (t3_in 35 (by decide +kernel) rfl) (t1_in 13 (by decide +kernel) rfl) rfl ha11 (Nat.le_of_ble_eq_true rfl) (Nat.le_of_ble_eq_true rfl) (Nat.le_of_ble_eq_true rfl) dX5_copyFrom_43 ?_
  rw [← eI12]
  refine k_aloadn (pc := 46) C dX5_copyFrom_46 (i := 1) rfl 1 rfl ?_
  obtain ⟨b13, hb13, h⟩ := rl_e h
  refine k_getR (pc := 47) C lkF_RX5_18_5 hs1 ir_5_3 hb13 dX5_copyFrom_47 ?_
  refine k_iconst (pc := 50) C (v := (0 : Int32)) dX5_copyFrom_50 (by decide) ?_
  refine k_aloadn (pc := 51) C dX5_copyFrom_51 (i := 0) rfl 0 rfl ?_
  obtain ⟨b14, hb14, h⟩ := rl_e h
  refine k_getR (pc := 52) C lkF_RX5_18_5 hs2 ir_5_3 hb14 dX5_copyFrom_52 ?_
  refine k_iconst (pc := 55) C (v := (0 : Int32)) dX5_copyFrom_55 (by decide) ?_
  refine k_bipush (pc := 56) C (v := (8 : Int32)) dX5_copyFrom_56 (by decide) ?_
  obtain ⟨ha15, h⟩ := gp_e h
  obtain ⟨I16, eI16, h⟩ := lt_e h
  refine k_copy (pc := 58) C (t3_in 34 (by decide +kernel) rfl) (t3_in 36 (by decide +kernel) rfl) (t3_in 35 (by decide +kernel) rfl) (t1_in 13 (by decide +kernel) rfl) rfl ha15 (Nat.le_of_ble_eq_true rfl) (Nat.le_of_ble_eq_true rfl) (Nat.le_of_ble_eq_true rfl) dX5_copyFrom_58 ?_
  rw [← eI16]
  refine k_aloadn (pc := 61) C dX5_copyFrom_61 (i := 1) rfl 1 rfl ?_
  obtain ⟨b17, hb17, h⟩ := rl_e h
  refine k_getR (pc := 62) C lkF_RX5_21_5 hs1 ir_5_5 hb17 dX5_copyFrom_62 ?_
  refine k_iconst (pc := 65) C (v := (0 : Int32)) dX5_copyFrom_65 (by decide) ?_
  refine k_aloadn (pc := 66) C dX5_copyFrom_66 (i := 0) rfl 0 rfl ?_
  obtain ⟨b18, hb18, h⟩ := rl_e h
  refine k_getR (pc := 67) C lkF_RX5_21_5 hs2 ir_5_5 hb18 dX5_copyFrom_67 ?_
  refine k_iconst (pc := 70) C (v := (0 : Int32)) dX5_copyFrom_70 (by decide) ?_
  refine k_sipush (pc := 71) C (v := (128 : Int32)) dX5_copyFrom_71 (by decide) ?_
  obtain ⟨ha19, h⟩ := gp_e h
  obtain ⟨I20, eI20, h⟩ := lt_e h
  refine k_copy (pc := 74) C (t3_in 34 (by decide +kernel) rfl) (t3_in 36 (by decide +kernel) rfl) (t3_in 35 (by decide +kernel) rfl) (t1_in 13 (by decide +kernel) rfl) rfl ha19 (Nat.le_of_ble_eq_true rfl) (Nat.le_of_ble_eq_true rfl) (Nat.le_of_ble_eq_true rfl) dX5_copyFrom_74 ?_
  rw [← eI20]
  refine k_aloadn (pc := 77) C dX5_copyFrom_77 (i := 1) rfl 1 rfl ?_
  obtain ⟨b21, hb21, h⟩ := rl_e h
  refine k_getR (pc := 78) C lkF_RX5_24_5 hs1 ir_5_6 hb21 dX5_copyFrom_78 ?_
  refine k_iconst (pc := 81) C (v := (0 : Int32)) dX5_copyFrom_81 (by decide) ?_
  refine k_aloadn (pc := 82) C dX5_copyFrom_82 (i := 0) rfl 0 rfl ?_
  obtain ⟨b22, hb22, h⟩ := rl_e h
  refine k_getR (pc := 83) C lkF_RX5_24_5 hs2 ir_5_6 hb22 dX5_copyFrom_83 ?_
  refine k_iconst (pc := 86) C (v := (0 : Int32)) dX5_copyFrom_86 (by decide) ?_
  refine k_sipush (pc := 87) C (v := (128 : Int32)) dX5_copyFrom_87 (by decide) ?_
  obtain ⟨ha23, h⟩ := gp_e h
  obtain ⟨I24, eI24, h⟩ := lt_e h
  refine k_copy (pc := 90) C (t3_in 34 (by decide +kernel) rfl) (t3_in 36 (by decide +kernel) rfl) (t3_in 35 (by decide +kernel) rfl) (t1_in 13 (by decide +kernel) rfl) rfl ha23 (Nat.le_of_ble_eq_true rfl) (Nat.le_of_ble_eq_true rfl) (Nat.le_of_ble_eq_true rfl) dX5_copyFrom_90 ?_
  rw [← eI24]
  refine k_aloadn (pc := 93) C dX5_copyFrom_93 (i := 1) rfl 1 rfl ?_
  obtain ⟨b25, hb25, h⟩ := rl_e h
  refine k_getR (pc := 94) C lkF_RX5_27_5 hs1 ir_5_7 hb25 dX5_copyFrom_94 ?_
  refine k_iconst (pc := 97) C (v := (0 : Int32)) dX5_copyFrom_97 (by decide) ?_
  refine k_aloadn (pc := 98) C dX5_copyFrom_98 (i := 0) rfl 0 rfl ?_
  obtain ⟨b26, hb26, h⟩ := rl_e h
  refine k_getR (pc := 99) C lkF_RX5_27_5 hs2 ir_5_7 hb26 dX5_copyFrom_99 ?_
  refine k_iconst (pc := 102) C (v := (0 : Int32)) dX5_copyFrom_102 (by decide) ?_
  refine k_sipush (pc := 103) C (v := (128 : Int32)) dX5_copyFrom_103 (by decide) ?_
  obtain ⟨ha27, h⟩ := gp_e h
  obtain ⟨I28, eI28, h⟩ := lt_e h
  refine k_copy (pc := 106) C (t3_in 34 (by decide +kernel) rfl) (t3_in 36 (by decide +kernel) rfl) (t3_in 35 (by decide +kernel) rfl) (t1_in 13 (by decide +kernel) rfl) rfl ha27 (Nat.le_of_ble_eq_true rfl) (Nat.le_of_ble_eq_true rfl) (Nat.le_of_ble_eq_true rfl) dX5_copyFrom_106 ?_
  rw [← eI28]
  cases h
  exact k_vret (pc := 109) C hr hk dX5_copyFrom_109
theorem c_X5_copyFrom {E : Ev} {l : Launch} {S : Sh} {R : Rw} {I : Iw} {a0 : Nat} {a1 : Nat} {r : Iw} (h : f_X5_copyFrom S R I a0 a1 = some r) : Mt E l yX5_copyFrom cX5_copyFrom 2 none 1 60 [.ref (E.1 + a0), .ref (E.1 + a1)] S R I S R r none 0 0 := mt_of (by decide) (Nat.le_of_ble_eq_true rfl) (fun p e s m args below meth c C hr hk hn => b_X5_copyFrom C hr hk _ _ _ h)
