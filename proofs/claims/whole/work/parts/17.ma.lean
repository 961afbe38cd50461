/-! X3_readAll, X3_readCondition, X3_readOne, X5_addRule -/
theorem lkV_RX3_108 : LkV RX3 108 RX3 yX3_readOne cX3_readOne 4 (some .boolean) 1 := ⟨(t3_in 11 (by decide +kernel) rfl), (t3_in 13 (by decide +kernel) rfl), (t0_in 15 (by decide +kernel) rfl), (t3_in 14 (by decide +kernel) rfl), (t1_in 4 (by decide +kernel) rfl), by decide, by decide +kernel⟩
theorem dX3_readAll_0 : decode cX3_readAll 0 = .ok (.aload_n 0, 1) := by decide +kernel
theorem dX3_readAll_1 : decode cX3_readAll 1 = .ok (.iload_n 1, 1) := by decide +kernel
theorem dX3_readAll_2 : decode cX3_readAll 2 = .ok (.invokevirtual 108, 3) := by decide +kernel
theorem dX3_readAll_5 : decode cX3_readAll 5 = .ok (.istore_n 2, 1) := by decide +kernel
theorem dX3_readAll_6 : decode cX3_readAll 6 = .ok (.iconst 0, 1) := by decide +kernel
theorem dX3_readAll_7 : decode cX3_readAll 7 = .ok (.istore_n 3, 1) := by decide +kernel
theorem dX3_readAll_8 : decode cX3_readAll 8 = .ok (.iload_n 3, 1) := by decide +kernel
theorem dX3_readAll_9 : decode cX3_readAll 9 = .ok (.sipush 200, 3) := by decide +kernel
theorem dX3_readAll_12 : decode cX3_readAll 12 = .ok (.if_icmp .ge 51, 3) := by decide +kernel
theorem dX3_readAll_15 : decode cX3_readAll 15 = .ok (.iload_n 2, 1) := by decide +kernel
theorem dX3_readAll_16 : decode cX3_readAll 16 = .ok (.ifCond .eq 47, 3) := by decide +kernel
theorem dX3_readAll_19 : decode cX3_readAll 19 = .ok (.aload_n 0, 1) := by decide +kernel
theorem dX3_readAll_20 : decode cX3_readAll 20 = .ok (.invokevirtual 42, 3) := by decide +kernel
theorem dX3_readAll_23 : decode cX3_readAll 23 = .ok (.sipush 10008, 3) := by decide +kernel
theorem dX3_readAll_26 : decode cX3_readAll 26 = .ok (.if_icmp .ne 37, 3) := by decide +kernel
theorem dX3_readAll_29 : decode cX3_readAll 29 = .ok (.aload_n 0, 1) := by decide +kernel
theorem dX3_readAll_30 : decode cX3_readAll 30 = .ok (.dup, 1) := by decide +kernel
theorem dX3_readAll_31 : decode cX3_readAll 31 = .ok (.getfield 36, 3) := by decide +kernel
theorem dX3_readAll_34 : decode cX3_readAll 34 = .ok (.iconst 1, 1) := by decide +kernel
theorem dX3_readAll_35 : decode cX3_readAll 35 = .ok (.iadd, 1) := by decide +kernel
theorem dX3_readAll_36 : decode cX3_readAll 36 = .ok (.putfield 36, 3) := by decide +kernel
theorem dX3_readAll_39 : decode cX3_readAll 39 = .ok (.aload_n 0, 1) := by decide +kernel
theorem dX3_readAll_40 : decode cX3_readAll 40 = .ok (.iload_n 1, 1) := by decide +kernel
theorem dX3_readAll_41 : decode cX3_readAll 41 = .ok (.invokevirtual 108, 3) := by decide +kernel
theorem dX3_readAll_44 : decode cX3_readAll 44 = .ok (.istore_n 2, 1) := by decide +kernel
theorem dX3_readAll_45 : decode cX3_readAll 45 = .ok (.aload_n 0, 1) := by decide +kernel
theorem dX3_readAll_46 : decode cX3_readAll 46 = .ok (.getfield 25, 3) := by decide +kernel
theorem dX3_readAll_49 : decode cX3_readAll 49 = .ok (.sipush 10008, 3) := by decide +kernel
theorem dX3_readAll_52 : decode cX3_readAll 52 = .ok (.iconst 0, 1) := by decide +kernel
theorem dX3_readAll_53 : decode cX3_readAll 53 = .ok (.iconst 0, 1) := by decide +kernel
theorem dX3_readAll_54 : decode cX3_readAll 54 = .ok (.invokevirtual 104, 3) := by decide +kernel
theorem dX3_readAll_57 : decode cX3_readAll 57 = .ok (.iinc 3 1, 3) := by decide +kernel
theorem dX3_readAll_60 : decode cX3_readAll 60 = .ok (.goto (-52), 3) := by decide +kernel
theorem dX3_readAll_63 : decode cX3_readAll 63 = .ok (.iload_n 2, 1) := by decide +kernel
theorem dX3_readAll_64 : decode cX3_readAll 64 = .ok (.ireturn, 1) := by decide +kernel
def f_X3_readAll_8 (g : Sh → Rw → Iw → Nat → Int32 → Option (Iw × Int32)) (S : Sh) (R : Rw)  : Nat → Iw → Nat → Int32 → Int32 → Int32 → Option (Iw × Int32)
  | 0, _, _, _, _, _ => none
  | n + 1, I, a0, x1, x2, x3 => (if (200 : Int32) ≤ x3 then gp (zok x2) (some (I, x2)) else (if x2 = 0 then gp (zok x2) (some (I, x2)) else gp (sok S a0 3 7) (bd (f_X3_peek S R I a0) (fun r8 => (if r8 = (10008 : Int32) then lt (up2 I a0 5 ((I a0 5) + (1 : Int32))) (fun I11 => bd (g S R I11 a0 x1) (fun r12 => rl (R a0 6) (fun b13 => gp (sok S b13 5 8) (bd (f_X5_addStep S R r12.1 b13 (10008 : Int32) (0 : Int32) (0 : Int32)) (fun r15 => f_X3_readAll_8 g S R  n r15 a0 x1 r12.2 (x3 + (1 : Int32))))))) else gp (zok x2) (some (I, x2)))))))
set_option maxHeartbeats 4000000 in
theorem b_X3_readAll_8 {E : Ev} {p : Program} {l : Launch} {e : Env} {s : State} {m : MethodId} {args : Array Value} {below : List Frame} {meth : Method} {c : Code} {dF dL : Nat} (C : Cx E RX3 cX3_readAll 4 p s m c) (hr : meth.sig.returnType = (some .boolean)) (hk : meth.locks = false) {S : Sh} {R : Rw} {r : Iw × Int32} {g : Sh → Rw → Iw → Nat → Int32 → Option (Iw × Int32)} (hg : ∀ (S : Sh) (R : Rw) (I : Iw) (a0 : Nat) (x1 : Int32) (r : Iw × Int32), g S R I a0 x1 = some r → Mt E l yX3_readOne cX3_readOne 4 (some .boolean) dF dL [.ref (E.1 + a0), .int x1] S R I S R r.1 (some (.int r.2)) 0 0) : ∀ (n : Nat) (I : Iw) (a0 : Nat) (x1 : Int32) (x2 : Int32) (x3 : Int32), f_X3_readAll_8 g S R  n I a0 x1 x2 x3 = some r → Wk E 4 p l e ({ frames := dF + 1, cells := 0, slots := 0, locals := dL + 23 } : Room) s m args below meth c 0 0 (MQ below (Qw E S R r.1 (some (.int r.2))) args s 0 0 (fun q => E.1 ≤ q)) 8 [(0, .ref (E.1 + a0)), (1, .int x1), (2, .int x2), (3, .int x3)] [] S R I := by
  intro n
  induction n with
  | zero =>
    intro I a0 x1 x2 x3 h
    rw [f_X3_readAll_8] at h
    cases h
  | succ n ih =>
    intro I a0 x1 x2 x3 h
    rw [f_X3_readAll_8] at h
    refine k_iloadn (pc := 8) C dX3_readAll_8 (i := 3) rfl 3 rfl ?_
    refine k_sipush (pc := 9) C (v := (200 : Int32)) dX3_readAll_9 (by decide) ?_
    refine k_icmp_ge (pc := 12) C dX3_readAll_12 (tgt := 63) (by decide) (fun hc3 => ?_) (fun hc3 => ?_)
    · rw [if_pos hc3] at h
      refine k_iloadn (pc := 63) C dX3_readAll_63 (i := 2) rfl 2 rfl ?_
      obtain ⟨hz4, h⟩ := gp_e h
      have h := Option.some.inj h
      subst h
      exact k_zret (pc := 64) C hr hk (of_decide_eq_true hz4) dX3_readAll_64
    · rw [if_neg hc3] at h
      refine k_iloadn (pc := 15) C dX3_readAll_15 (i := 2) rfl 2 rfl ?_
      refine k_if_eq (pc := 16) C dX3_readAll_16 (tgt := 63) (by decide) (fun hc5 => ?_) (fun hc5 => ?_)
      · rw [if_pos hc5] at h
        refine k_iloadn (pc := 63) C dX3_readAll_63 (i := 2) rfl 2 rfl ?_
        obtain ⟨hz6, h⟩ := gp_e h
        have h := Option.some.inj h
        subst h
        exact k_zret (pc := 64) C hr hk (of_decide_eq_true hz6) dX3_readAll_64
      · rw [if_neg hc5] at h
        refine k_aloadn (pc := 19) C dX3_readAll_19 (i := 0) rfl 0 rfl ?_
        obtain ⟨hs70, h⟩ := gp_e h
        have hs7 := sok_e hs70
        obtain ⟨r8, hr8, h⟩ := bd_e h
        refine k_V (pc := 20) (st := []) C (c_X3_peek hr8) lkV_RX3_42 hs7 rfl rfl rfl (Nat.le_of_ble_eq_true rfl) (by show 0 + 1 ≤ dF + 1; omega) (by show 8 + (1 + 11) + 0 ≤ dL + 23; omega) (Nat.le_of_ble_eq_true rfl) (Nat.le_of_ble_eq_true rfl) dX3_readAll_20 ?_
        refine k_nf (cells2 := 0) (slots2 := 0) (st2 := [.int r8]) rfl rfl rfl ?_
        refine k_sipush (pc := 23) C (v := (10008 : Int32)) dX3_readAll_23 (by decide) ?_
        refine k_icmp_ne (pc := 26) C dX3_readAll_26 (tgt := 63) (by decide) (fun hc9 => ?_) (fun hc9 => ?_)
        · rw [if_neg hc9] at h
          refine k_iloadn (pc := 63) C dX3_readAll_63 (i := 2) rfl 2 rfl ?_
          obtain ⟨hz10, h⟩ := gp_e h
          have h := Option.some.inj h
          subst h
          exact k_zret (pc := 64) C hr hk (of_decide_eq_true hz10) dX3_readAll_64
        · rw [if_pos hc9] at h
          refine k_aloadn (pc := 29) C dX3_readAll_29 (i := 0) rfl 0 rfl ?_
          refine k_dup (pc := 30) C dX3_readAll_30 rfl ?_
          refine k_getI (pc := 31) C lkF_RX3_36_3 hs7 ir_3_5 dX3_readAll_31 ?_
          refine k_iconst (pc := 34) C (v := (1 : Int32)) dX3_readAll_34 (by decide) ?_
          refine k_iadd (pc := 35) C dX3_readAll_35 ?_
          obtain ⟨I11, eI11, h⟩ := lt_e h
          refine k_putI (pc := 36) C lkP_RX3_36_3 hs7 ir_3_5 dX3_readAll_36 ?_
          rw [← eI11]
          refine k_aloadn (pc := 39) C dX3_readAll_39 (i := 0) rfl 0 rfl ?_
          refine k_iloadn (pc := 40) C dX3_readAll_40 (i := 1) rfl 1 rfl ?_
          obtain ⟨r12, hr12, h⟩ := bd_e h
          refine k_V (pc := 41) (st := []) C (hg _ _ _ _ _ _ hr12) lkV_RX3_108 hs7 rfl rfl rfl (Nat.le_of_ble_eq_true rfl) (by show dF + 1 ≤ dF + 1; omega) (by show 8 + (4 + 11) + dL ≤ dL + 23; omega) (Nat.le_of_ble_eq_true rfl) (Nat.le_of_ble_eq_true rfl) dX3_readAll_41 ?_
          refine k_nf (cells2 := 0) (slots2 := 0) (st2 := [.int r12.2]) rfl rfl rfl ?_
          refine k_istoren (pc := 44) C dX3_readAll_44 (i := 2) rfl (by decide) (L2 := [(0, .ref (E.1 + a0)), (1, .int x1), (2, .int r12.2), (3, .int x3)]) rfl ?_
          refine k_aloadn (pc := 45) C dX3_readAll_45 (i := 0) rfl 0 rfl ?_
          obtain ⟨b13, hb13, h⟩ := rl_e h
          refine k_getR (pc := 46) C lkF_RX3_25_3 hs7 ir_3_6 hb13 dX3_readAll_46 ?_
          refine k_sipush (pc := 49) C (v := (10008 : Int32)) dX3_readAll_49 (by decide) ?_
          refine k_iconst (pc := 52) C (v := (0 : Int32)) dX3_readAll_52 (by decide) ?_
          refine k_iconst (pc := 53) C (v := (0 : Int32)) dX3_readAll_53 (by decide) ?_
          obtain ⟨hs140, h⟩ := gp_e h
          have hs14 := sok_e hs140
          obtain ⟨r15, hr15, h⟩ := bd_e h
          refine k_V (pc := 54) (st := []) C (c_X5_addStep hr15) lkV_RX3_104 hs14 rfl rfl rfl (Nat.le_of_ble_eq_true rfl) (by show 0 + 1 ≤ dF + 1; omega) (by show 8 + (4 + 11) + 0 ≤ dL + 23; omega) (Nat.le_of_ble_eq_true rfl) (Nat.le_of_ble_eq_true rfl) dX3_readAll_54 ?_
          refine k_nf (cells2 := 0) (slots2 := 0) (st2 := []) rfl rfl rfl ?_
          refine k_iinc (pc := 57) C dX3_readAll_57 3 rfl (v := x3 + (1 : Int32)) (by rfl) (by decide) (L2 := [(0, .ref (E.1 + a0)), (1, .int x1), (2, .int r12.2), (3, .int (x3 + (1 : Int32)))]) rfl ?_
          refine k_goto (pc := 60) C dX3_readAll_60 (tgt := 8) (by decide) ?_
          exact ih _ _ _ _ _ h
def f_X3_readAll (g : Sh → Rw → Iw → Nat → Int32 → Option (Iw × Int32)) (S : Sh) (R : Rw)  (I : Iw) (a0 : Nat) (x1 : Int32) : Option (Iw × Int32) := gp (sok S a0 3 7) (bd (g S R I a0 x1) (fun r2 => f_X3_readAll_8 g S R  512 r2.1 a0 x1 r2.2 (0 : Int32)))
set_option maxHeartbeats 4000000 in
theorem b_X3_readAll {E : Ev} {p : Program} {l : Launch} {e : Env} {s : State} {m : MethodId} {args : Array Value} {below : List Frame} {meth : Method} {c : Code} {dF dL : Nat} (C : Cx E RX3 cX3_readAll 4 p s m c) (hr : meth.sig.returnType = (some .boolean)) (hk : meth.locks = false) {S : Sh} {R : Rw} {r : Iw × Int32} {g : Sh → Rw → Iw → Nat → Int32 → Option (Iw × Int32)} (hg : ∀ (S : Sh) (R : Rw) (I : Iw) (a0 : Nat) (x1 : Int32) (r : Iw × Int32), g S R I a0 x1 = some r → Mt E l yX3_readOne cX3_readOne 4 (some .boolean) dF dL [.ref (E.1 + a0), .int x1] S R I S R r.1 (some (.int r.2)) 0 0) : ∀ (I : Iw) (a0 : Nat) (x1 : Int32), f_X3_readAll g S R   I a0 x1 = some r → Wk E 4 p l e ({ frames := dF + 1, cells := 0, slots := 0, locals := dL + 23 } : Room) s m args below meth c 0 0 (MQ below (Qw E S R r.1 (some (.int r.2))) args s 0 0 (fun q => E.1 ≤ q)) 0 [(0, .ref (E.1 + a0)), (1, .int x1)] [] S R I := by
  intro I a0 x1 h
  rw [f_X3_readAll] at h
  refine k_aloadn (pc := 0) C dX3_readAll_0 (i := 0) rfl 0 rfl ?_
  refine k_iloadn (pc := 1) C dX3_readAll_1 (i := 1) rfl 1 rfl ?_
  obtain ⟨hs10, h⟩ := gp_e h
  have hs1 := sok_e hs10
  obtain ⟨r2, hr2, h⟩ := bd_e h
  refine k_V (pc := 2) (st := []) C (hg _ _ _ _ _ _ hr2) lkV_RX3_108 hs1 rfl rfl rfl (Nat.le_of_ble_eq_true rfl) (by show dF + 1 ≤ dF + 1; omega) (by show 8 + (4 + 11) + dL ≤ dL + 23; omega) (Nat.le_of_ble_eq_true rfl) (Nat.le_of_ble_eq_true rfl) dX3_readAll_2 ?_
  refine k_nf (cells2 := 0) (slots2 := 0) (st2 := [.int r2.2]) rfl rfl rfl ?_
  refine k_istoren (pc := 5) C dX3_readAll_5 (i := 2) rfl (by decide) (L2 := [(0, .ref (E.1 + a0)), (1, .int x1), (2, .int r2.2)]) rfl ?_
  refine k_iconst (pc := 6) C (v := (0 : Int32)) dX3_readAll_6 (by decide) ?_
  refine k_istoren (pc := 7) C dX3_readAll_7 (i := 3) rfl (by decide) (L2 := [(0, .ref (E.1 + a0)), (1, .int x1), (2, .int r2.2), (3, .int (0 : Int32))]) rfl ?_
  exact b_X3_readAll_8 C hr hk hg  _ _ _ _ _ _ h
theorem c_X3_readAll {E : Ev} {l : Launch} {dF dL : Nat} {S : Sh} {R : Rw} {I : Iw} {g : Sh → Rw → Iw → Nat → Int32 → Option (Iw × Int32)} (hg : ∀ (S : Sh) (R : Rw) (I : Iw) (a0 : Nat) (x1 : Int32) (r : Iw × Int32), g S R I a0 x1 = some r → Mt E l yX3_readOne cX3_readOne 4 (some .boolean) dF dL [.ref (E.1 + a0), .int x1] S R I S R r.1 (some (.int r.2)) 0 0) {a0 : Nat} {x1 : Int32} {r : Iw × Int32} (h : f_X3_readAll g S R I a0 x1 = some r) : Mt E l yX3_readAll cX3_readAll 4 (some .boolean) (dF + 1) (dL + 23) [.ref (E.1 + a0), .int x1] S R I S R r.1 (some (.int r.2)) 0 0 := mt_of (by decide) (Nat.le_of_ble_eq_true rfl) (fun p e s m args below meth c C hr hk hn => b_X3_readAll C hr hk hg _ _ _ h)
theorem lkV_RX3_101 : LkV RX3 101 RX3 yX3_readAll cX3_readAll 4 (some .boolean) 1 := ⟨(t3_in 7 (by decide +kernel) rfl), (t3_in 9 (by decide +kernel) rfl), (t0_in 14 (by decide +kernel) rfl), (t3_in 10 (by decide +kernel) rfl), (t1_in 4 (by decide +kernel) rfl), by decide, by decide +kernel⟩
theorem dX3_readCondition_0 : decode cX3_readCondition 0 = .ok (.aload_n 0, 1) := by decide +kernel
theorem dX3_readCondition_1 : decode cX3_readCondition 1 = .ok (.iload_n 1, 1) := by decide +kernel
theorem dX3_readCondition_2 : decode cX3_readCondition 2 = .ok (.invokevirtual 101, 3) := by decide +kernel
theorem dX3_readCondition_5 : decode cX3_readCondition 5 = .ok (.istore_n 2, 1) := by decide +kernel
theorem dX3_readCondition_6 : decode cX3_readCondition 6 = .ok (.iconst 0, 1) := by decide +kernel
theorem dX3_readCondition_7 : decode cX3_readCondition 7 = .ok (.istore_n 3, 1) := by decide +kernel
theorem dX3_readCondition_8 : decode cX3_readCondition 8 = .ok (.iload_n 3, 1) := by decide +kernel
theorem dX3_readCondition_9 : decode cX3_readCondition 9 = .ok (.sipush 200, 3) := by decide +kernel
theorem dX3_readCondition_12 : decode cX3_readCondition 12 = .ok (.if_icmp .ge 51, 3) := by decide +kernel
theorem dX3_readCondition_15 : decode cX3_readCondition 15 = .ok (.iload_n 2, 1) := by decide +kernel
theorem dX3_readCondition_16 : decode cX3_readCondition 16 = .ok (.ifCond .eq 47, 3) := by decide +kernel
theorem dX3_readCondition_19 : decode cX3_readCondition 19 = .ok (.aload_n 0, 1) := by decide +kernel
theorem dX3_readCondition_20 : decode cX3_readCondition 20 = .ok (.invokevirtual 42, 3) := by decide +kernel
theorem dX3_readCondition_23 : decode cX3_readCondition 23 = .ok (.sipush 10007, 3) := by decide +kernel
theorem dX3_readCondition_26 : decode cX3_readCondition 26 = .ok (.if_icmp .ne 37, 3) := by decide +kernel
theorem dX3_readCondition_29 : decode cX3_readCondition 29 = .ok (.aload_n 0, 1) := by decide +kernel
theorem dX3_readCondition_30 : decode cX3_readCondition 30 = .ok (.dup, 1) := by decide +kernel
theorem dX3_readCondition_31 : decode cX3_readCondition 31 = .ok (.getfield 36, 3) := by decide +kernel
theorem dX3_readCondition_34 : decode cX3_readCondition 34 = .ok (.iconst 1, 1) := by decide +kernel
theorem dX3_readCondition_35 : decode cX3_readCondition 35 = .ok (.iadd, 1) := by decide +kernel
theorem dX3_readCondition_36 : decode cX3_readCondition 36 = .ok (.putfield 36, 3) := by decide +kernel
theorem dX3_readCondition_39 : decode cX3_readCondition 39 = .ok (.aload_n 0, 1) := by decide +kernel
theorem dX3_readCondition_40 : decode cX3_readCondition 40 = .ok (.iload_n 1, 1) := by decide +kernel
theorem dX3_readCondition_41 : decode cX3_readCondition 41 = .ok (.invokevirtual 101, 3) := by decide +kernel
theorem dX3_readCondition_44 : decode cX3_readCondition 44 = .ok (.istore_n 2, 1) := by decide +kernel
theorem dX3_readCondition_45 : decode cX3_readCondition 45 = .ok (.aload_n 0, 1) := by decide +kernel
theorem dX3_readCondition_46 : decode cX3_readCondition 46 = .ok (.getfield 25, 3) := by decide +kernel
theorem dX3_readCondition_49 : decode cX3_readCondition 49 = .ok (.sipush 10007, 3) := by decide +kernel
theorem dX3_readCondition_52 : decode cX3_readCondition 52 = .ok (.iconst 0, 1) := by decide +kernel
theorem dX3_readCondition_53 : decode cX3_readCondition 53 = .ok (.iconst 0, 1) := by decide +kernel
theorem dX3_readCondition_54 : decode cX3_readCondition 54 = .ok (.invokevirtual 104, 3) := by decide +kernel
theorem dX3_readCondition_57 : decode cX3_readCondition 57 = .ok (.iinc 3 1, 3) := by decide +kernel
theorem dX3_readCondition_60 : decode cX3_readCondition 60 = .ok (.goto (-52), 3) := by decide +kernel
theorem dX3_readCondition_63 : decode cX3_readCondition 63 = .ok (.iload_n 2, 1) := by decide +kernel
theorem dX3_readCondition_64 : decode cX3_readCondition 64 = .ok (.ireturn, 1) := by decide +kernel
def f_X3_readCondition_8 (g : Sh → Rw → Iw → Nat → Int32 → Option (Iw × Int32)) (S : Sh) (R : Rw)  : Nat → Iw → Nat → Int32 → Int32 → Int32 → Option (Iw × Int32)
  | 0, _, _, _, _, _ => none
  | n + 1, I, a0, x1, x2, x3 => (if (200 : Int32) ≤ x3 then gp (zok x2) (some (I, x2)) else (if x2 = 0 then gp (zok x2) (some (I, x2)) else gp (sok S a0 3 7) (bd (f_X3_peek S R I a0) (fun r8 => (if r8 = (10007 : Int32) then lt (up2 I a0 5 ((I a0 5) + (1 : Int32))) (fun I11 => bd (f_X3_readAll g S R I11 a0 x1) (fun r12 => rl (R a0 6) (fun b13 => gp (sok S b13 5 8) (bd (f_X5_addStep S R r12.1 b13 (10007 : Int32) (0 : Int32) (0 : Int32)) (fun r15 => f_X3_readCondition_8 g S R  n r15 a0 x1 r12.2 (x3 + (1 : Int32))))))) else gp (zok x2) (some (I, x2)))))))
set_option maxHeartbeats 4000000 in
theorem b_X3_readCondition_8 {E : Ev} {p : Program} {l : Launch} {e : Env} {s : State} {m : MethodId} {args : Array Value} {below : List Frame} {meth : Method} {c : Code} {dF dL : Nat} (C : Cx E RX3 cX3_readCondition 4 p s m c) (hr : meth.sig.returnType = (some .boolean)) (hk : meth.locks = false) {S : Sh} {R : Rw} {r : Iw × Int32} {g : Sh → Rw → Iw → Nat → Int32 → Option (Iw × Int32)} (hg : ∀ (S : Sh) (R : Rw) (I : Iw) (a0 : Nat) (x1 : Int32) (r : Iw × Int32), g S R I a0 x1 = some r → Mt E l yX3_readOne cX3_readOne 4 (some .boolean) dF dL [.ref (E.1 + a0), .int x1] S R I S R r.1 (some (.int r.2)) 0 0) : ∀ (n : Nat) (I : Iw) (a0 : Nat) (x1 : Int32) (x2 : Int32) (x3 : Int32), f_X3_readCondition_8 g S R  n I a0 x1 x2 x3 = some r → Wk E 4 p l e ({ frames := dF + 2, cells := 0, slots := 0, locals := dL + 46 } : Room) s m args below meth c 0 0 (MQ below (Qw E S R r.1 (some (.int r.2))) args s 0 0 (fun q => E.1 ≤ q)) 8 [(0, .ref (E.1 + a0)), (1, .int x1), (2, .int x2), (3, .int x3)] [] S R I := by
  intro n
  induction n with
  | zero =>
    intro I a0 x1 x2 x3 h
    rw [f_X3_readCondition_8] at h
    cases h
  | succ n ih =>
    intro I a0 x1 x2 x3 h
    rw [f_X3_readCondition_8] at h
    refine k_iloadn (pc := 8) C dX3_readCondition_8 (i := 3) rfl 3 rfl ?_
    refine k_sipush (pc := 9) C (v := (200 : Int32)) dX3_readCondition_9 (by decide) ?_
    refine k_icmp_ge (pc := 12) C dX3_readCondition_12 (tgt := 63) (by decide) (fun hc3 => ?_) (fun hc3 => ?_)
    · rw [if_pos hc3] at h
      refine k_iloadn (pc := 63) C dX3_readCondition_63 (i := 2) rfl 2 rfl ?_
      obtain ⟨hz4, h⟩ := gp_e h
      have h := Option.some.inj h
      subst h
      exact k_zret (pc := 64) C hr hk (of_decide_eq_true hz4) dX3_readCondition_64
    · rw [if_neg hc3] at h
      refine k_iloadn (pc := 15) C dX3_readCondition_15 (i := 2) rfl 2 rfl ?_
      refine k_if_eq (pc := 16) C dX3_readCondition_16 (tgt := 63) (by decide) (fun hc5 => ?_) (fun hc5 => ?_)
      · rw [if_pos hc5] at h
        refine k_iloadn (pc := 63) C dX3_readCondition_63 (i := 2) rfl 2 rfl ?_
        obtain ⟨hz6, h⟩ := gp_e h
        have h := Option.some.inj h
        subst h
        exact k_zret (pc := 64) C hr hk (of_decide_eq_true hz6) dX3_readCondition_64
      · rw [if_neg hc5] at h
        refine k_aloadn (pc := 19) C dX3_readCondition_19 (i := 0) rfl 0 rfl ?_
        obtain ⟨hs70, h⟩ := gp_e h
        have hs7 := sok_e hs70
        obtain ⟨r8, hr8, h⟩ := bd_e h
        refine k_V (pc := 20) (st := []) C (c_X3_peek hr8) lkV_RX3_42 hs7 rfl rfl rfl (Nat.le_of_ble_eq_true rfl) (by show 0 + 1 ≤ dF + 2; omega) (by show 8 + (1 + 11) + 0 ≤ dL + 46; omega) (Nat.le_of_ble_eq_true rfl) (Nat.le_of_ble_eq_true rfl) dX3_readCondition_20 ?_
        refine k_nf (cells2 := 0) (slots2 := 0) (st2 := [.int r8]) rfl rfl rfl ?_
        refine k_sipush (pc := 23) C (v := (10007 : Int32)) dX3_readCondition_23 (by decide) ?_
        refine k_icmp_ne (pc := 26) C dX3_readCondition_26 (tgt := 63) (by decide) (fun hc9 => ?_) (fun hc9 => ?_)
        · rw [if_neg hc9] at h
          refine k_iloadn (pc := 63) C dX3_readCondition_63 (i := 2) rfl 2 rfl ?_
          obtain ⟨hz10, h⟩ := gp_e h
          have h := Option.some.inj h
          subst h
          exact k_zret (pc := 64) C hr hk (of_decide_eq_true hz10) dX3_readCondition_64
        · rw [if_pos hc9] at h
          refine k_aloadn (pc := 29) C dX3_readCondition_29 (i := 0) rfl 0 rfl ?_
          refine k_dup (pc := 30) C dX3_readCondition_30 rfl ?_
          refine k_getI (pc := 31) C lkF_RX3_36_3 hs7 ir_3_5 dX3_readCondition_31 ?_
          refine k_iconst (pc := 34) C (v := (1 : Int32)) dX3_readCondition_34 (by decide) ?_
          refine k_iadd (pc := 35) C dX3_readCondition_35 ?_
          obtain ⟨I11, eI11, h⟩ := lt_e h
          refine k_putI (pc := 36) C lkP_RX3_36_3 hs7 ir_3_5 dX3_readCondition_36 ?_
          rw [← eI11]
          refine k_aloadn (pc := 39) C dX3_readCondition_39 (i := 0) rfl 0 rfl ?_
          refine k_iloadn (pc := 40) C dX3_readCondition_40 (i := 1) rfl 1 rfl ?_
          obtain ⟨r12, hr12, h⟩ := bd_e h
          refine k_V (pc := 41) (st := []) C (c_X3_readAll hg hr12) lkV_RX3_101 hs7 rfl rfl rfl (Nat.le_of_ble_eq_true rfl) (by show (dF + 1) + 1 ≤ dF + 2; omega) (by show 8 + (4 + 11) + (dL + 23) ≤ dL + 46; omega) (Nat.le_of_ble_eq_true rfl) (Nat.le_of_ble_eq_true rfl) dX3_readCondition_41 ?_
          refine k_nf (cells2 := 0) (slots2 := 0) (st2 := [.int r12.2]) rfl rfl rfl ?_
          refine k_istoren (pc := 44) C dX3_readCondition_44 (i := 2) rfl (by decide) (L2 := [(0, .ref (E.1 + a0)), (1, .int x1), (2, .int r12.2), (3, .int x3)]) rfl ?_
          refine k_aloadn (pc := 45) C dX3_readCondition_45 (i := 0) rfl 0 rfl ?_
          obtain ⟨b13, hb13, h⟩ := rl_e h
          refine k_getR (pc := 46) C lkF_RX3_25_3 hs7 ir_3_6 hb13 dX3_readCondition_46 ?_
          refine k_sipush (pc := 49) C (v := (10007 : Int32)) dX3_readCondition_49 (by decide) ?_
          refine k_iconst (pc := 52) C (v := (0 : Int32)) dX3_readCondition_52 (by decide) ?_
          refine k_iconst (pc := 53) C (v := (0 : Int32)) dX3_readCondition_53 (by decide) ?_
          obtain ⟨hs140, h⟩ := gp_e h
          have hs14 := sok_e hs140
          obtain ⟨r15, hr15, h⟩ := bd_e h
          refine k_V (pc := 54) (st := []) C (c_X5_addStep hr15) lkV_RX3_104 hs14 rfl rfl rfl (Nat.le_of_ble_eq_true rfl) (by show 0 + 1 ≤ dF + 2; omega) (by show 8 + (4 + 11) + 0 ≤ dL + 46; omega) (Nat.le_of_ble_eq_true rfl) (Nat.le_of_ble_eq_true rfl) dX3_readCondition_54 ?_
          refine k_nf (cells2 := 0) (slots2 := 0) (st2 := []) rfl rfl rfl ?_
          refine k_iinc (pc := 57) C dX3_readCondition_57 3 rfl (v := x3 + (1 : Int32)) (by rfl) (by decide) (L2 := [(0, .ref (E.1 + a0)), (1, .int x1), (2, .int r12.2), (3, .int (x3 + (1 : Int32)))]) rfl ?_
          refine k_goto (pc := 60) C dX3_readCondition_60 (tgt := 8) (by decide) ?_
          exact ih _ _ _ _ _ h
def f_X3_readCondition (g : Sh → Rw → Iw → Nat → Int32 → Option (Iw × Int32)) (S : Sh) (R : Rw)  (I : Iw) (a0 : Nat) (x1 : Int32) : Option (Iw × Int32) := gp (sok S a0 3 7) (bd (f_X3_readAll g S R I a0 x1) (fun r2 => f_X3_readCondition_8 g S R  512 r2.1 a0 x1 r2.2 (0 : Int32)))
set_option maxHeartbeats 4000000 in
theorem b_X3_readCondition {E : Ev} {p : Program} {l : Launch} {e : Env} {s : State} {m : MethodId} {args : Array Value} {below : List Frame} {meth : Method} {c : Code} {dF dL : Nat} (C : Cx E RX3 cX3_readCondition 4 p s m c) (hr : meth.sig.returnType = (some .boolean)) (hk : meth.locks = false) {S : Sh} {R : Rw} {r : Iw × Int32} {g : Sh → Rw → Iw → Nat → Int32 → Option (Iw × Int32)} (hg : ∀ (S : Sh) (R : Rw) (I : Iw) (a0 : Nat) (x1 : Int32) (r : Iw × Int32), g S R I a0 x1 = some r → Mt E l yX3_readOne cX3_readOne 4 (some .boolean) dF dL [.ref (E.1 + a0), .int x1] S R I S R r.1 (some (.int r.2)) 0 0) : ∀ (I : Iw) (a0 : Nat) (x1 : Int32), f_X3_readCondition g S R   I a0 x1 = some r → Wk E 4 p l e ({ frames := dF + 2, cells := 0, slots := 0, locals := dL + 46 } : Room) s m args below meth c 0 0 (MQ below (Qw E S R r.1 (some (.int r.2))) args s 0 0 (fun q => E.1 ≤ q)) 0 [(0, .ref (E.1 + a0)), (1, .int x1)] [] S R I := by
  intro I a0 x1 h
  rw [f_X3_readCondition] at h
  refine k_aloadn (pc := 0) C dX3_readCondition_0 (i := 0) rfl 0 rfl ?_
  refine k_iloadn (pc := 1) C dX3_readCondition_1 (i := 1) rfl 1 rfl ?_
  obtain ⟨hs10, h⟩ := gp_e h
  have hs1 := sok_e hs10
  obtain ⟨r2, hr2, h⟩ := bd_e h
  refine k_V (pc := 2) (st := []) C (c_X3_readAll hg hr2) lkV_RX3_101 hs1 rfl rfl rfl (Nat.le_of_ble_eq_true rfl) (by show (dF + 1) + 1 ≤ dF + 2; omega) (by show 8 + (4 + 11) + (dL + 23) ≤ dL + 46; omega) (Nat.le_of_ble_eq_true rfl) (Nat.le_of_ble_eq_true rfl) dX3_readCondition_2 ?_
  refine k_nf (cells2 := 0) (slots2 := 0) (st2 := [.int r2.2]) rfl rfl rfl ?_
  refine k_istoren (pc := 5) C dX3_readCondition_5 (i := 2) rfl (by decide) (L2 := [(0, .ref (E.1 + a0)), (1, .int x1), (2, .int r2.2)]) rfl ?_
  refine k_iconst (pc := 6) C (v := (0 : Int32)) dX3_readCondition_6 (by decide) ?_
  refine k_istoren (pc := 7) C dX3_readCondition_7 (i := 3) rfl (by decide) (L2 := [(0, .ref (E.1 + a0)), (1, .int x1), (2, .int r2.2), (3, .int (0 : Int32))]) rfl ?_
  exact b_X3_readCondition_8 C hr hk hg  _ _ _ _ _ _ h
theorem c_X3_readCondition {E : Ev} {l : Launch} {dF dL : Nat} {S : Sh} {R : Rw} {I : Iw} {g : Sh → Rw → Iw → Nat → Int32 → Option (Iw × Int32)} (hg : ∀ (S : Sh) (R : Rw) (I : Iw) (a0 : Nat) (x1 : Int32) (r : Iw × Int32), g S R I a0 x1 = some r → Mt E l yX3_readOne cX3_readOne 4 (some .boolean) dF dL [.ref (E.1 + a0), .int x1] S R I S R r.1 (some (.int r.2)) 0 0) {a0 : Nat} {x1 : Int32} {r : Iw × Int32} (h : f_X3_readCondition g S R I a0 x1 = some r) : Mt E l yX3_readCondition cX3_readCondition 4 (some .boolean) (dF + 2) (dL + 46) [.ref (E.1 + a0), .int x1] S R I S R r.1 (some (.int r.2)) 0 0 := mt_of (by decide) (Nat.le_of_ble_eq_true rfl) (fun p e s m args below meth c C hr hk hn => b_X3_readCondition C hr hk hg _ _ _ h)
theorem lkV_RX3_111 : LkV RX3 111 RX3 yX3_readComparison cX3_readComparison 4 (some .boolean) 0 := ⟨(t3_in 15 (by decide +kernel) rfl), (t3_in 17 (by decide +kernel) rfl), (t0_in 16 (by decide +kernel) rfl), (t3_in 18 (by decide +kernel) rfl), (t1_in 4 (by decide +kernel) rfl), by decide, by decide +kernel⟩
theorem lkV_RX3_94 : LkV RX3 94 RX3 yX3_readCondition cX3_readCondition 4 (some .boolean) 1 := ⟨(t3_in 3 (by decide +kernel) rfl), (t3_in 5 (by decide +kernel) rfl), (t0_in 13 (by decide +kernel) rfl), (t3_in 6 (by decide +kernel) rfl), (t1_in 4 (by decide +kernel) rfl), by decide, by decide +kernel⟩
theorem dX3_readOne_0 : decode cX3_readOne 0 = .ok (.iconst 0, 1) := by decide +kernel
theorem dX3_readOne_1 : decode cX3_readOne 1 = .ok (.istore_n 2, 1) := by decide +kernel
theorem dX3_readOne_2 : decode cX3_readOne 2 = .ok (.iconst 0, 1) := by decide +kernel
theorem dX3_readOne_3 : decode cX3_readOne 3 = .ok (.istore_n 3, 1) := by decide +kernel
theorem dX3_readOne_4 : decode cX3_readOne 4 = .ok (.iload_n 3, 1) := by decide +kernel
theorem dX3_readOne_5 : decode cX3_readOne 5 = .ok (.sipush 200, 3) := by decide +kernel
theorem dX3_readOne_8 : decode cX3_readOne 8 = .ok (.if_icmp .ge 39, 3) := by decide +kernel
theorem dX3_readOne_11 : decode cX3_readOne 11 = .ok (.aload_n 0, 1) := by decide +kernel
theorem dX3_readOne_12 : decode cX3_readOne 12 = .ok (.invokevirtual 42, 3) := by decide +kernel
theorem dX3_readOne_15 : decode cX3_readOne 15 = .ok (.sipush 10009, 3) := by decide +kernel
theorem dX3_readOne_18 : decode cX3_readOne 18 = .ok (.if_icmp .ne 29, 3) := by decide +kernel
theorem dX3_readOne_21 : decode cX3_readOne 21 = .ok (.aload_n 0, 1) := by decide +kernel
theorem dX3_readOne_22 : decode cX3_readOne 22 = .ok (.dup, 1) := by decide +kernel
theorem dX3_readOne_23 : decode cX3_readOne 23 = .ok (.getfield 36, 3) := by decide +kernel
theorem dX3_readOne_26 : decode cX3_readOne 26 = .ok (.iconst 1, 1) := by decide +kernel
theorem dX3_readOne_27 : decode cX3_readOne 27 = .ok (.iadd, 1) := by decide +kernel
theorem dX3_readOne_28 : decode cX3_readOne 28 = .ok (.putfield 36, 3) := by decide +kernel
theorem dX3_readOne_31 : decode cX3_readOne 31 = .ok (.iload_n 2, 1) := by decide +kernel
theorem dX3_readOne_32 : decode cX3_readOne 32 = .ok (.ifCond .ne 7, 3) := by decide +kernel
theorem dX3_readOne_35 : decode cX3_readOne 35 = .ok (.iconst 1, 1) := by decide +kernel
theorem dX3_readOne_36 : decode cX3_readOne 36 = .ok (.goto 4, 3) := by decide +kernel
theorem dX3_readOne_39 : decode cX3_readOne 39 = .ok (.iconst 0, 1) := by decide +kernel
theorem dX3_readOne_40 : decode cX3_readOne 40 = .ok (.istore_n 2, 1) := by decide +kernel
theorem dX3_readOne_41 : decode cX3_readOne 41 = .ok (.iinc 3 1, 3) := by decide +kernel
theorem dX3_readOne_44 : decode cX3_readOne 44 = .ok (.goto (-40), 3) := by decide +kernel
theorem dX3_readOne_47 : decode cX3_readOne 47 = .ok (.aload_n 0, 1) := by decide +kernel
theorem dX3_readOne_48 : decode cX3_readOne 48 = .ok (.invokevirtual 42, 3) := by decide +kernel
theorem dX3_readOne_51 : decode cX3_readOne 51 = .ok (.sipush 20040, 3) := by decide +kernel
theorem dX3_readOne_54 : decode cX3_readOne 54 = .ok (.if_icmp .ne 55, 3) := by decide +kernel
theorem dX3_readOne_57 : decode cX3_readOne 57 = .ok (.iload_n 1, 1) := by decide +kernel
theorem dX3_readOne_58 : decode cX3_readOne 58 = .ok (.iconst 3, 1) := by decide +kernel
theorem dX3_readOne_59 : decode cX3_readOne 59 = .ok (.if_icmp .lt 5, 3) := by decide +kernel
theorem dX3_readOne_62 : decode cX3_readOne 62 = .ok (.iconst 0, 1) := by decide +kernel
theorem dX3_readOne_63 : decode cX3_readOne 63 = .ok (.ireturn, 1) := by decide +kernel
theorem dX3_readOne_64 : decode cX3_readOne 64 = .ok (.aload_n 0, 1) := by decide +kernel
theorem dX3_readOne_65 : decode cX3_readOne 65 = .ok (.dup, 1) := by decide +kernel
theorem dX3_readOne_66 : decode cX3_readOne 66 = .ok (.getfield 36, 3) := by decide +kernel
theorem dX3_readOne_69 : decode cX3_readOne 69 = .ok (.iconst 1, 1) := by decide +kernel
theorem dX3_readOne_70 : decode cX3_readOne 70 = .ok (.iadd, 1) := by decide +kernel
theorem dX3_readOne_71 : decode cX3_readOne 71 = .ok (.putfield 36, 3) := by decide +kernel
theorem dX3_readOne_74 : decode cX3_readOne 74 = .ok (.aload_n 0, 1) := by decide +kernel
theorem dX3_readOne_75 : decode cX3_readOne 75 = .ok (.iload_n 1, 1) := by decide +kernel
theorem dX3_readOne_76 : decode cX3_readOne 76 = .ok (.iconst 1, 1) := by decide +kernel
theorem dX3_readOne_77 : decode cX3_readOne 77 = .ok (.iadd, 1) := by decide +kernel
theorem dX3_readOne_78 : decode cX3_readOne 78 = .ok (.invokevirtual 94, 3) := by decide +kernel
theorem dX3_readOne_81 : decode cX3_readOne 81 = .ok (.ifCond .eq 13, 3) := by decide +kernel
theorem dX3_readOne_84 : decode cX3_readOne 84 = .ok (.aload_n 0, 1) := by decide +kernel
theorem dX3_readOne_85 : decode cX3_readOne 85 = .ok (.invokevirtual 42, 3) := by decide +kernel
theorem dX3_readOne_88 : decode cX3_readOne 88 = .ok (.sipush 20041, 3) := by decide +kernel
theorem dX3_readOne_91 : decode cX3_readOne 91 = .ok (.if_icmp .eq 5, 3) := by decide +kernel
theorem dX3_readOne_94 : decode cX3_readOne 94 = .ok (.iconst 0, 1) := by decide +kernel
theorem dX3_readOne_95 : decode cX3_readOne 95 = .ok (.ireturn, 1) := by decide +kernel
theorem dX3_readOne_96 : decode cX3_readOne 96 = .ok (.aload_n 0, 1) := by decide +kernel
theorem dX3_readOne_97 : decode cX3_readOne 97 = .ok (.dup, 1) := by decide +kernel
theorem dX3_readOne_98 : decode cX3_readOne 98 = .ok (.getfield 36, 3) := by decide +kernel
theorem dX3_readOne_101 : decode cX3_readOne 101 = .ok (.iconst 1, 1) := by decide +kernel
theorem dX3_readOne_102 : decode cX3_readOne 102 = .ok (.iadd, 1) := by decide +kernel
theorem dX3_readOne_103 : decode cX3_readOne 103 = .ok (.putfield 36, 3) := by decide +kernel
theorem dX3_readOne_106 : decode cX3_readOne 106 = .ok (.goto 12, 3) := by decide +kernel
theorem dX3_readOne_109 : decode cX3_readOne 109 = .ok (.aload_n 0, 1) := by decide +kernel
theorem dX3_readOne_110 : decode cX3_readOne 110 = .ok (.invokevirtual 111, 3) := by decide +kernel
theorem dX3_readOne_113 : decode cX3_readOne 113 = .ok (.ifCond .ne 5, 3) := by decide +kernel
theorem dX3_readOne_116 : decode cX3_readOne 116 = .ok (.iconst 0, 1) := by decide +kernel
theorem dX3_readOne_117 : decode cX3_readOne 117 = .ok (.ireturn, 1) := by decide +kernel
theorem dX3_readOne_118 : decode cX3_readOne 118 = .ok (.iload_n 2, 1) := by decide +kernel
theorem dX3_readOne_119 : decode cX3_readOne 119 = .ok (.ifCond .eq 15, 3) := by decide +kernel
theorem dX3_readOne_122 : decode cX3_readOne 122 = .ok (.aload_n 0, 1) := by decide +kernel
theorem dX3_readOne_123 : decode cX3_readOne 123 = .ok (.getfield 25, 3) := by decide +kernel
theorem dX3_readOne_126 : decode cX3_readOne 126 = .ok (.sipush 10009, 3) := by decide +kernel
theorem dX3_readOne_129 : decode cX3_readOne 129 = .ok (.iconst 0, 1) := by decide +kernel
theorem dX3_readOne_130 : decode cX3_readOne 130 = .ok (.iconst 0, 1) := by decide +kernel
theorem dX3_readOne_131 : decode cX3_readOne 131 = .ok (.invokevirtual 104, 3) := by decide +kernel
theorem dX3_readOne_134 : decode cX3_readOne 134 = .ok (.iconst 1, 1) := by decide +kernel
theorem dX3_readOne_135 : decode cX3_readOne 135 = .ok (.ireturn, 1) := by decide +kernel
def f_X3_readOne_118 (g : Sh → Rw → Iw → Nat → Int32 → Option (Iw × Int32)) (S : Sh) (R : Rw)  (I : Iw) (a0 : Nat) (x2 : Int32) : Option (Iw × Int32) := (if x2 = 0 then some (I, (1 : Int32)) else gp (sok S a0 3 7) (rl (R a0 6) (fun b9 => gp (sok S b9 5 8) (bd (f_X5_addStep S R I b9 (10009 : Int32) (0 : Int32) (0 : Int32)) (fun r11 => some (r11, (1 : Int32)))))))
set_option maxHeartbeats 4000000 in
theorem b_X3_readOne_118 {E : Ev} {p : Program} {l : Launch} {e : Env} {s : State} {m : MethodId} {args : Array Value} {below : List Frame} {meth : Method} {c : Code} {dF dL : Nat} (C : Cx E RX3 cX3_readOne 4 p s m c) (hr : meth.sig.returnType = (some .boolean)) (hk : meth.locks = false) {S : Sh} {R : Rw} {r : Iw × Int32} {g : Sh → Rw → Iw → Nat → Int32 → Option (Iw × Int32)} (hg : ∀ (S : Sh) (R : Rw) (I : Iw) (a0 : Nat) (x1 : Int32) (r : Iw × Int32), g S R I a0 x1 = some r → Mt E l yX3_readOne cX3_readOne 4 (some .boolean) dF dL [.ref (E.1 + a0), .int x1] S R I S R r.1 (some (.int r.2)) 0 0) : ∀ (I : Iw) (a0 : Nat) (x2 : Int32), f_X3_readOne_118 g S R   I a0 x2 = some r → Wk E 4 p l e ({ frames := dF + 3, cells := 0, slots := 0, locals := dL + 69 } : Room) s m args below meth c 0 0 (MQ below (Qw E S R r.1 (some (.int r.2))) args s 0 0 (fun q => E.1 ≤ q)) 118 [(0, .ref (E.1 + a0)), (2, .int x2)] [] S R I := by
  intro I a0 x2 h
  rw [f_X3_readOne_118] at h
  refine k_iloadn (pc := 118) C dX3_readOne_118 (i := 2) rfl 1 rfl ?_
  refine k_if_eq (pc := 119) C dX3_readOne_119 (tgt := 134) (by decide) (fun hc7 => ?_) (fun hc7 => ?_)
  · rw [if_pos hc7] at h
    refine k_iconst (pc := 134) C (v := (1 : Int32)) dX3_readOne_134 (by decide) ?_
    have h := Option.some.inj h
    subst h
    exact k_zret (pc := 135) C hr hk (Or.inr rfl) dX3_readOne_135
  · rw [if_neg hc7] at h
    refine k_aloadn (pc := 122) C dX3_readOne_122 (i := 0) rfl 0 rfl ?_
    obtain ⟨hs80, h⟩ := gp_e h
    have hs8 := sok_e hs80
    obtain ⟨b9, hb9, h⟩ := rl_e h
    refine k_getR (pc := 123) C lkF_RX3_25_3 hs8 ir_3_6 hb9 dX3_readOne_123 ?_
    refine k_sipush (pc := 126) C (v := (10009 : Int32)) dX3_readOne_126 (by decide) ?_
    refine k_iconst (pc := 129) C (v := (0 : Int32)) dX3_readOne_129 (by decide) ?_
    refine k_iconst (pc := 130) C (v := (0 : Int32)) dX3_readOne_130 (by decide) ?_
    obtain ⟨hs100, h⟩ := gp_e h
    have hs10 := sok_e hs100
    obtain ⟨r11, hr11, h⟩ := bd_e h
    refine k_V (pc := 131) (st := []) C (c_X5_addStep hr11) lkV_RX3_104 hs10 rfl rfl rfl (Nat.le_of_ble_eq_true rfl) (by show 0 + 1 ≤ dF + 3; omega) (by show 8 + (4 + 11) + 0 ≤ dL + 69; omega) (Nat.le_of_ble_eq_true rfl) (Nat.le_of_ble_eq_true rfl) dX3_readOne_131 ?_
    refine k_nf (cells2 := 0) (slots2 := 0) (st2 := []) rfl rfl rfl ?_
    refine k_iconst (pc := 134) C (v := (1 : Int32)) dX3_readOne_134 (by decide) ?_
    have h := Option.some.inj h
    subst h
    exact k_zret (pc := 135) C hr hk (Or.inr rfl) dX3_readOne_135
def f_X3_readOne_47 (g : Sh → Rw → Iw → Nat → Int32 → Option (Iw × Int32)) (S : Sh) (R : Rw)  (I : Iw) (a0 : Nat) (x1 : Int32) (x2 : Int32) : Option (Iw × Int32) := gp (sok S a0 3 7) (bd (f_X3_peek S R I a0) (fun r3 => (if r3 = (20040 : Int32) then (if x1 < (3 : Int32) then lt (up2 I a0 5 ((I a0 5) + (1 : Int32))) (fun I13 => bd (f_X3_readCondition g S R I13 a0 (x1 + (1 : Int32))) (fun r14 => (if r14.2 = 0 then some (r14.1, (0 : Int32)) else bd (f_X3_peek S R r14.1 a0) (fun r16 => (if r16 = (20041 : Int32) then lt (up2 r14.1 a0 5 ((r14.1 a0 5) + (1 : Int32))) (fun I18 => f_X3_readOne_118 g S R  I18 a0 x2) else some (r14.1, (0 : Int32))))))) else some (I, (0 : Int32))) else bd (f_X3_readComparison S R I a0) (fun r5 => (if r5.2 = 0 then some (r5.1, (0 : Int32)) else f_X3_readOne_118 g S R  r5.1 a0 x2)))))
set_option maxHeartbeats 4000000 in
theorem b_X3_readOne_47 {E : Ev} {p : Program} {l : Launch} {e : Env} {s : State} {m : MethodId} {args : Array Value} {below : List Frame} {meth : Method} {c : Code} {dF dL : Nat} (C : Cx E RX3 cX3_readOne 4 p s m c) (hr : meth.sig.returnType = (some .boolean)) (hk : meth.locks = false) {S : Sh} {R : Rw} {r : Iw × Int32} {g : Sh → Rw → Iw → Nat → Int32 → Option (Iw × Int32)} (hg : ∀ (S : Sh) (R : Rw) (I : Iw) (a0 : Nat) (x1 : Int32) (r : Iw × Int32), g S R I a0 x1 = some r → Mt E l yX3_readOne cX3_readOne 4 (some .boolean) dF dL [.ref (E.1 + a0), .int x1] S R I S R r.1 (some (.int r.2)) 0 0) : ∀ (I : Iw) (a0 : Nat) (x1 : Int32) (x2 : Int32), f_X3_readOne_47 g S R   I a0 x1 x2 = some r → Wk E 4 p l e ({ frames := dF + 3, cells := 0, slots := 0, locals := dL + 69 } : Room) s m args below meth c 0 0 (MQ below (Qw E S R r.1 (some (.int r.2))) args s 0 0 (fun q => E.1 ≤ q)) 47 [(0, .ref (E.1 + a0)), (1, .int x1), (2, .int x2)] [] S R I := by
  intro I a0 x1 x2 h
  rw [f_X3_readOne_47] at h
  refine k_aloadn (pc := 47) C dX3_readOne_47 (i := 0) rfl 0 rfl ?_
  obtain ⟨hs20, h⟩ := gp_e h
  have hs2 := sok_e hs20
  obtain ⟨r3, hr3, h⟩ := bd_e h
  refine k_V (pc := 48) (st := []) C (c_X3_peek hr3) lkV_RX3_42 hs2 rfl rfl rfl (Nat.le_of_ble_eq_true rfl) (by show 0 + 1 ≤ dF + 3; omega) (by show 8 + (1 + 11) + 0 ≤ dL + 69; omega) (Nat.le_of_ble_eq_true rfl) (Nat.le_of_ble_eq_true rfl) dX3_readOne_48 ?_
  refine k_nf (cells2 := 0) (slots2 := 0) (st2 := [.int r3]) rfl rfl rfl ?_
  refine k_sipush (pc := 51) C (v := (20040 : Int32)) dX3_readOne_51 (by decide) ?_
  refine k_icmp_ne (pc := 54) C dX3_readOne_54 (tgt := 109) (by decide) (fun hc4 => ?_) (fun hc4 => ?_)
  · rw [if_neg hc4] at h
    refine k_aloadn (pc := 109) C dX3_readOne_109 (i := 0) rfl 0 rfl ?_
    obtain ⟨r5, hr5, h⟩ := bd_e h
    refine k_V (pc := 110) (st := []) C (c_X3_readComparison hr5) lkV_RX3_111 hs2 rfl rfl rfl (Nat.le_of_ble_eq_true rfl) (by show 1 + 1 ≤ dF + 3; omega) (by show 8 + (4 + 11) + 23 ≤ dL + 69; omega) (Nat.le_of_ble_eq_true rfl) (Nat.le_of_ble_eq_true rfl) dX3_readOne_110 ?_
    refine k_nf (cells2 := 0) (slots2 := 0) (st2 := [.int r5.2]) rfl rfl rfl ?_
    refine k_if_ne (pc := 113) C dX3_readOne_113 (tgt := 118) (by decide) (fun hc6 => ?_) (fun hc6 => ?_)
    · rw [if_neg hc6] at h
      refine k_loc (L2 := [(0, .ref (E.1 + a0)), (2, .int x2)]) [0, 2] rfl ?_
      exact b_X3_readOne_118 C hr hk hg  _ _ _ h
    · rw [if_pos hc6] at h
      refine k_iconst (pc := 116) C (v := (0 : Int32)) dX3_readOne_116 (by decide) ?_
      have h := Option.some.inj h
      subst h
      exact k_zret (pc := 117) C hr hk (Or.inl rfl) dX3_readOne_117
  · rw [if_pos hc4] at h
    refine k_iloadn (pc := 57) C dX3_readOne_57 (i := 1) rfl 1 rfl ?_
    refine k_iconst (pc := 58) C (v := (3 : Int32)) dX3_readOne_58 (by decide) ?_
    refine k_icmp_lt (pc := 59) C dX3_readOne_59 (tgt := 64) (by decide) (fun hc12 => ?_) (fun hc12 => ?_)
    · rw [if_pos hc12] at h
      refine k_aloadn (pc := 64) C dX3_readOne_64 (i := 0) rfl 0 rfl ?_
      refine k_dup (pc := 65) C dX3_readOne_65 rfl ?_
      refine k_getI (pc := 66) C lkF_RX3_36_3 hs2 ir_3_5 dX3_readOne_66 ?_
      refine k_iconst (pc := 69) C (v := (1 : Int32)) dX3_readOne_69 (by decide) ?_
      refine k_iadd (pc := 70) C dX3_readOne_70 ?_
      obtain ⟨I13, eI13, h⟩ := lt_e h
      refine k_putI (pc := 71) C lkP_RX3_36_3 hs2 ir_3_5 dX3_readOne_71 ?_
      rw [← eI13]
      refine k_aloadn (pc := 74) C dX3_readOne_74 (i := 0) rfl 0 rfl ?_
      refine k_iloadn (pc := 75) C dX3_readOne_75 (i := 1) rfl 1 rfl ?_
      refine k_iconst (pc := 76) C (v := (1 : Int32)) dX3_readOne_76 (by decide) ?_
      refine k_iadd (pc := 77) C dX3_readOne_77 ?_
      obtain ⟨r14, hr14, h⟩ := bd_e h
      refine k_V (pc := 78) (st := []) C (c_X3_readCondition hg hr14) lkV_RX3_94 hs2 rfl rfl rfl (Nat.le_of_ble_eq_true rfl) (by show (dF + 2) + 1 ≤ dF + 3; omega) (by show 8 + (4 + 11) + (dL + 46) ≤ dL + 69; omega) (Nat.le_of_ble_eq_true rfl) (Nat.le_of_ble_eq_true rfl) dX3_readOne_78 ?_
      refine k_nf (cells2 := 0) (slots2 := 0) (st2 := [.int r14.2]) rfl rfl rfl ?_
      refine k_if_eq (pc := 81) C dX3_readOne_81 (tgt := 94) (by decide) (fun hc15 => ?_) (fun hc15 => ?_)
      · rw [if_pos hc15] at h
        refine k_iconst (pc := 94) C (v := (0 : Int32)) dX3_readOne_94 (by decide) ?_
        have h := Option.some.inj h
        subst h
        exact k_zret (pc := 95) C hr hk (Or.inl rfl) dX3_readOne_95
      · rw [if_neg hc15] at h
        refine k_aloadn (pc := 84) C dX3_readOne_84 (i := 0) rfl 0 rfl ?_
        obtain ⟨r16, hr16, h⟩ := bd_e h
        refine k_V (pc := 85) (st := []) C (c_X3_peek hr16) lkV_RX3_42 hs2 rfl rfl rfl (Nat.le_of_ble_eq_true rfl) (by show 0 + 1 ≤ dF + 3; omega) (by show 8 + (1 + 11) + 0 ≤ dL + 69; omega) (Nat.le_of_ble_eq_true rfl) (Nat.le_of_ble_eq_true rfl) dX3_readOne_85 ?_
        refine k_nf (cells2 := 0) (slots2 := 0) (st2 := [.int r16]) rfl rfl rfl ?_
        refine k_sipush (pc := 88) C (v := (20041 : Int32)) dX3_readOne_88 (by decide) ?_
        refine k_icmp_eq (pc := 91) C dX3_readOne_91 (tgt := 96) (by decide) (fun hc17 => ?_) (fun hc17 => ?_)
        · rw [if_pos hc17] at h
          refine k_aloadn (pc := 96) C dX3_readOne_96 (i := 0) rfl 0 rfl ?_
          refine k_dup (pc := 97) C dX3_readOne_97 rfl ?_
          refine k_getI (pc := 98) C lkF_RX3_36_3 hs2 ir_3_5 dX3_readOne_98 ?_
          refine k_iconst (pc := 101) C (v := (1 : Int32)) dX3_readOne_101 (by decide) ?_
          refine k_iadd (pc := 102) C dX3_readOne_102 ?_
          obtain ⟨I18, eI18, h⟩ := lt_e h
          refine k_putI (pc := 103) C lkP_RX3_36_3 hs2 ir_3_5 dX3_readOne_103 ?_
          rw [← eI18]
          refine k_goto (pc := 106) C dX3_readOne_106 (tgt := 118) (by decide) ?_
          refine k_loc (L2 := [(0, .ref (E.1 + a0)), (2, .int x2)]) [0, 2] rfl ?_
          exact b_X3_readOne_118 C hr hk hg  _ _ _ h
        · rw [if_neg hc17] at h
          refine k_iconst (pc := 94) C (v := (0 : Int32)) dX3_readOne_94 (by decide) ?_
          have h := Option.some.inj h
          subst h
          exact k_zret (pc := 95) C hr hk (Or.inl rfl) dX3_readOne_95
    · rw [if_neg hc12] at h
      refine k_iconst (pc := 62) C (v := (0 : Int32)) dX3_readOne_62 (by decide) ?_
      have h := Option.some.inj h
      subst h
      exact k_zret (pc := 63) C hr hk (Or.inl rfl) dX3_readOne_63
def f_X3_readOne_40 (g : Sh → Rw → Iw → Nat → Int32 → Option (Iw × Int32)) (S : Sh) (R : Rw) (ko4 : Iw → Nat → Int32 → Int32 → Int32 → Option (Iw × Int32)) (I : Iw) (a0 : Nat) (x1 : Int32) (x3 : Int32) (s0 : Int32) : Option (Iw × Int32) := ko4 I a0 x1 s0 (x3 + (1 : Int32))
set_option maxHeartbeats 4000000 in
theorem b_X3_readOne_40 {E : Ev} {p : Program} {l : Launch} {e : Env} {s : State} {m : MethodId} {args : Array Value} {below : List Frame} {meth : Method} {c : Code} {dF dL : Nat} (C : Cx E RX3 cX3_readOne 4 p s m c) (hr : meth.sig.returnType = (some .boolean)) (hk : meth.locks = false) {S : Sh} {R : Rw} {r : Iw × Int32} {g : Sh → Rw → Iw → Nat → Int32 → Option (Iw × Int32)} (hg : ∀ (S : Sh) (R : Rw) (I : Iw) (a0 : Nat) (x1 : Int32) (r : Iw × Int32), g S R I a0 x1 = some r → Mt E l yX3_readOne cX3_readOne 4 (some .boolean) dF dL [.ref (E.1 + a0), .int x1] S R I S R r.1 (some (.int r.2)) 0 0) {ko4 : Iw → Nat → Int32 → Int32 → Int32 → Option (Iw × Int32)} (hko4 : ∀ (I : Iw) (a0 : Nat) (x1 : Int32) (x2 : Int32) (x3 : Int32), ko4 I a0 x1 x2 x3 = some r → Wk E 4 p l e ({ frames := dF + 3, cells := 0, slots := 0, locals := dL + 69 } : Room) s m args below meth c 0 0 (MQ below (Qw E S R r.1 (some (.int r.2))) args s 0 0 (fun q => E.1 ≤ q)) 4 [(0, .ref (E.1 + a0)), (1, .int x1), (2, .int x2), (3, .int x3)] [] S R I) : ∀ (I : Iw) (a0 : Nat) (x1 : Int32) (x3 : Int32) (s0 : Int32), f_X3_readOne_40 g S R ko4  I a0 x1 x3 s0 = some r → Wk E 4 p l e ({ frames := dF + 3, cells := 0, slots := 0, locals := dL + 69 } : Room) s m args below meth c 0 0 (MQ below (Qw E S R r.1 (some (.int r.2))) args s 0 0 (fun q => E.1 ≤ q)) 40 [(0, .ref (E.1 + a0)), (1, .int x1), (3, .int x3)] [.int s0] S R I := by
  intro I a0 x1 x3 s0 h
  rw [f_X3_readOne_40] at h
  refine k_istoren (pc := 40) C dX3_readOne_40 (i := 2) rfl (by decide) (L2 := [(0, .ref (E.1 + a0)), (1, .int x1), (2, .int s0), (3, .int x3)]) rfl ?_
  refine k_iinc (pc := 41) C dX3_readOne_41 3 rfl (v := x3 + (1 : Int32)) (by rfl) (by decide) (L2 := [(0, .ref (E.1 + a0)), (1, .int x1), (2, .int s0), (3, .int (x3 + (1 : Int32)))]) rfl ?_
  refine k_goto (pc := 44) C dX3_readOne_44 (tgt := 4) (by decide) ?_
  exact hko4 _ _ _ _ _ h
def f_X3_readOne_4 (g : Sh → Rw → Iw → Nat → Int32 → Option (Iw × Int32)) (S : Sh) (R : Rw)  : Nat → Iw → Nat → Int32 → Int32 → Int32 → Option (Iw × Int32)
  | 0, _, _, _, _, _ => none
  | n + 1, I, a0, x1, x2, x3 => (if (200 : Int32) ≤ x3 then f_X3_readOne_47 g S R  I a0 x1 x2 else gp (sok S a0 3 7) (bd (f_X3_peek S R I a0) (fun r20 => (if r20 = (10009 : Int32) then lt (up2 I a0 5 ((I a0 5) + (1 : Int32))) (fun I22 => (if x2 = 0 then f_X3_readOne_40 g S R (f_X3_readOne_4 g S R  n) I22 a0 x1 x3 (1 : Int32) else f_X3_readOne_40 g S R (f_X3_readOne_4 g S R  n) I22 a0 x1 x3 (0 : Int32))) else f_X3_readOne_47 g S R  I a0 x1 x2))))
set_option maxHeartbeats 4000000 in
theorem b_X3_readOne_4 {E : Ev} {p : Program} {l : Launch} {e : Env} {s : State} {m : MethodId} {args : Array Value} {below : List Frame} {meth : Method} {c : Code} {dF dL : Nat} (C : Cx E RX3 cX3_readOne 4 p s m c) (hr : meth.sig.returnType = (some .boolean)) (hk : meth.locks = false) {S : Sh} {R : Rw} {r : Iw × Int32} {g : Sh → Rw → Iw → Nat → Int32 → Option (Iw × Int32)} (hg : ∀ (S : Sh) (R : Rw) (I : Iw) (a0 : Nat) (x1 : Int32) (r : Iw × Int32), g S R I a0 x1 = some r → Mt E l yX3_readOne cX3_readOne 4 (some .boolean) dF dL [.ref (E.1 + a0), .int x1] S R I S R r.1 (some (.int r.2)) 0 0) : ∀ (n : Nat) (I : Iw) (a0 : Nat) (x1 : Int32) (x2 : Int32) (x3 : Int32), f_X3_readOne_4 g S R  n I a0 x1 x2 x3 = some r → Wk E 4 p l e ({ frames := dF + 3, cells := 0, slots := 0, locals := dL + 69 } : Room) s m args below meth c 0 0 (MQ below (Qw E S R r.1 (some (.int r.2))) args s 0 0 (fun q => E.1 ≤ q)) 4 [(0, .ref (E.1 + a0)), (1, .int x1), (2, .int x2), (3, .int x3)] [] S R I := by
  intro n
  induction n with
  | zero =>
    intro I a0 x1 x2 x3 h
    rw [f_X3_readOne_4] at h
    cases h
  | succ n ih =>
    intro I a0 x1 x2 x3 h
    rw [f_X3_readOne_4] at h
    refine k_iloadn (pc := 4) C dX3_readOne_4 (i := 3) rfl 3 rfl ?_
    refine k_sipush (pc := 5) C (v := (200 : Int32)) dX3_readOne_5 (by decide) ?_
    refine k_icmp_ge (pc := 8) C dX3_readOne_8 (tgt := 47) (by decide) (fun hc1 => ?_) (fun hc1 => ?_)
    · rw [if_pos hc1] at h
      refine k_loc (L2 := [(0, .ref (E.1 + a0)), (1, .int x1), (2, .int x2)]) [0, 1, 2] rfl ?_
      exact b_X3_readOne_47 C hr hk hg  _ _ _ _ h
    · rw [if_neg hc1] at h
      refine k_aloadn (pc := 11) C dX3_readOne_11 (i := 0) rfl 0 rfl ?_
      obtain ⟨hs190, h⟩ := gp_e h
      have hs19 := sok_e hs190
      obtain ⟨r20, hr20, h⟩ := bd_e h
      refine k_V (pc := 12) (st := []) C (c_X3_peek hr20) lkV_RX3_42 hs19 rfl rfl rfl (Nat.le_of_ble_eq_true rfl) (by show 0 + 1 ≤ dF + 3; omega) (by show 8 + (1 + 11) + 0 ≤ dL + 69; omega) (Nat.le_of_ble_eq_true rfl) (Nat.le_of_ble_eq_true rfl) dX3_readOne_12 ?_
      refine k_nf (cells2 := 0) (slots2 := 0) (st2 := [.int r20]) rfl rfl rfl ?_
      refine k_sipush (pc := 15) C (v := (10009 : Int32)) dX3_readOne_15 (by decide) ?_
      refine k_icmp_ne (pc := 18) C dX3_readOne_18 (tgt := 47) (by decide) (fun hc21 => ?_) (fun hc21 => ?_)
      · rw [if_neg hc21] at h
        refine k_loc (L2 := [(0, .ref (E.1 + a0)), (1, .int x1), (2, .int x2)]) [0, 1, 2] rfl ?_
        exact b_X3_readOne_47 C hr hk hg  _ _ _ _ h
      · rw [if_pos hc21] at h
        refine k_aloadn (pc := 21) C dX3_readOne_21 (i := 0) rfl 0 rfl ?_
        refine k_dup (pc := 22) C dX3_readOne_22 rfl ?_
        refine k_getI (pc := 23) C lkF_RX3_36_3 hs19 ir_3_5 dX3_readOne_23 ?_
        refine k_iconst (pc := 26) C (v := (1 : Int32)) dX3_readOne_26 (by decide) ?_
        refine k_iadd (pc := 27) C dX3_readOne_27 ?_
        obtain ⟨I22, eI22, h⟩ := lt_e h
        refine k_putI (pc := 28) C lkP_RX3_36_3 hs19 ir_3_5 dX3_readOne_28 ?_
        rw [← eI22]
        refine k_iloadn (pc := 31) C dX3_readOne_31 (i := 2) rfl 2 rfl ?_
        refine k_if_ne (pc := 32) C dX3_readOne_32 (tgt := 39) (by decide) (fun hc23 => ?_) (fun hc23 => ?_)
        · rw [if_neg hc23] at h
          refine k_iconst (pc := 39) C (v := (0 : Int32)) dX3_readOne_39 (by decide) ?_
          refine k_loc (L2 := [(0, .ref (E.1 + a0)), (1, .int x1), (3, .int x3)]) [0, 1, 3] rfl ?_
          exact b_X3_readOne_40 C hr hk hg ih _ _ _ _ _ h
        · rw [if_pos hc23] at h
          refine k_iconst (pc := 35) C (v := (1 : Int32)) dX3_readOne_35 (by decide) ?_
          refine k_goto (pc := 36) C dX3_readOne_36 (tgt := 40) (by decide) ?_
          refine k_loc (L2 := [(0, .ref (E.1 + a0)), (1, .int x1), (3, .int x3)]) [0, 1, 3] rfl ?_
          exact b_X3_readOne_40 C hr hk hg ih _ _ _ _ _ h
def f_X3_readOne_b (g : Sh → Rw → Iw → Nat → Int32 → Option (Iw × Int32)) (S : Sh) (R : Rw)  (I : Iw) (a0 : Nat) (x1 : Int32) : Option (Iw × Int32) := f_X3_readOne_4 g S R  512 I a0 x1 (0 : Int32) (0 : Int32)
set_option maxHeartbeats 4000000 in
theorem b_X3_readOne_b {E : Ev} {p : Program} {l : Launch} {e : Env} {s : State} {m : MethodId} {args : Array Value} {below : List Frame} {meth : Method} {c : Code} {dF dL : Nat} (C : Cx E RX3 cX3_readOne 4 p s m c) (hr : meth.sig.returnType = (some .boolean)) (hk : meth.locks = false) {S : Sh} {R : Rw} {r : Iw × Int32} {g : Sh → Rw → Iw → Nat → Int32 → Option (Iw × Int32)} (hg : ∀ (S : Sh) (R : Rw) (I : Iw) (a0 : Nat) (x1 : Int32) (r : Iw × Int32), g S R I a0 x1 = some r → Mt E l yX3_readOne cX3_readOne 4 (some .boolean) dF dL [.ref (E.1 + a0), .int x1] S R I S R r.1 (some (.int r.2)) 0 0) : ∀ (I : Iw) (a0 : Nat) (x1 : Int32), f_X3_readOne_b g S R   I a0 x1 = some r → Wk E 4 p l e ({ frames := dF + 3, cells := 0, slots := 0, locals := dL + 69 } : Room) s m args below meth c 0 0 (MQ below (Qw E S R r.1 (some (.int r.2))) args s 0 0 (fun q => E.1 ≤ q)) 0 [(0, .ref (E.1 + a0)), (1, .int x1)] [] S R I := by
  intro I a0 x1 h
  rw [f_X3_readOne_b] at h
  refine k_iconst (pc := 0) C (v := (0 : Int32)) dX3_readOne_0 (by decide) ?_
  refine k_istoren (pc := 1) C dX3_readOne_1 (i := 2) rfl (by decide) (L2 := [(0, .ref (E.1 + a0)), (1, .int x1), (2, .int (0 : Int32))]) rfl ?_
  refine k_iconst (pc := 2) C (v := (0 : Int32)) dX3_readOne_2 (by decide) ?_
  refine k_istoren (pc := 3) C dX3_readOne_3 (i := 3) rfl (by decide) (L2 := [(0, .ref (E.1 + a0)), (1, .int x1), (2, .int (0 : Int32)), (3, .int (0 : Int32))]) rfl ?_
  exact b_X3_readOne_4 C hr hk hg  _ _ _ _ _ _ h
def f_X3_readOne : Nat → Sh → Rw → Iw → Nat → Int32 → Option (Iw × Int32)
  | 0, _, _, _, _, _ => none
  | n + 1, S, R, I, a0, x1 => f_X3_readOne_b (f_X3_readOne n) S R I a0 x1
theorem c_X3_readOne_g {E : Ev} {l : Launch} : ∀ (n : Nat) (S : Sh) (R : Rw) (I : Iw) (a0 : Nat) (x1 : Int32) (r : Iw × Int32), f_X3_readOne n S R I a0 x1 = some r → Mt E l yX3_readOne cX3_readOne 4 (some .boolean) (3 * n) (69 * n) [.ref (E.1 + a0), .int x1] S R I S R r.1 (some (.int r.2)) 0 0 := by
  intro n
  induction n with
  | zero =>
    intro S R I a0 x1 r h
    rw [f_X3_readOne] at h
    cases h
  | succ n ih =>
    intro S R I a0 x1 r h
    rw [f_X3_readOne] at h
    exact mt_of (by decide) (Nat.le_of_ble_eq_true rfl) (fun p e s m args below meth c C hr hk hn => b_X3_readOne_b (dF := 3 * n) (dL := 69 * n) C hr hk ih _ _ _ h)
theorem c_X3_readOne {E : Ev} {l : Launch} (n : Nat) {S : Sh} {R : Rw} {I : Iw} {a0 : Nat} {x1 : Int32} {r : Iw × Int32} (h : f_X3_readOne n S R I a0 x1 = some r) : Mt E l yX3_readOne cX3_readOne 4 (some .boolean) (3 * n) (69 * n) [.ref (E.1 + a0), .int x1] S R I S R r.1 (some (.int r.2)) 0 0 := c_X3_readOne_g n S R I a0 x1 r h
theorem lkP_RX5_30_5 : LkP RX5 30 5 0 .int := ⟨RX5, TX5, 8, "UnlikeNeighbours$Rules", fc5, by decide, (t1_in 41 (by decide +kernel) rfl), Or.inl rfl, rfl, by decide +kernel⟩
theorem dX5_addRule_0 : decode cX5_addRule 0 = .ok (.aload_n 0, 1) := by decide +kernel
theorem dX5_addRule_1 : decode cX5_addRule 1 = .ok (.getfield 30, 3) := by decide +kernel
theorem dX5_addRule_4 : decode cX5_addRule 4 = .ok (.bipush 8, 2) := by decide +kernel
theorem dX5_addRule_6 : decode cX5_addRule 6 = .ok (.if_icmp .ge 46, 3) := by decide +kernel
theorem dX5_addRule_9 : decode cX5_addRule 9 = .ok (.aload_n 0, 1) := by decide +kernel
theorem dX5_addRule_10 : decode cX5_addRule 10 = .ok (.getfield 9, 3) := by decide +kernel
theorem dX5_addRule_13 : decode cX5_addRule 13 = .ok (.aload_n 0, 1) := by decide +kernel
theorem dX5_addRule_14 : decode cX5_addRule 14 = .ok (.getfield 30, 3) := by decide +kernel
theorem dX5_addRule_17 : decode cX5_addRule 17 = .ok (.iload_n 1, 1) := by decide +kernel
theorem dX5_addRule_18 : decode cX5_addRule 18 = .ok (.iastore, 1) := by decide +kernel
theorem dX5_addRule_19 : decode cX5_addRule 19 = .ok (.aload_n 0, 1) := by decide +kernel
theorem dX5_addRule_20 : decode cX5_addRule 20 = .ok (.getfield 15, 3) := by decide +kernel
theorem dX5_addRule_23 : decode cX5_addRule 23 = .ok (.aload_n 0, 1) := by decide +kernel
theorem dX5_addRule_24 : decode cX5_addRule 24 = .ok (.getfield 30, 3) := by decide +kernel
theorem dX5_addRule_27 : decode cX5_addRule 27 = .ok (.iload_n 2, 1) := by decide +kernel
theorem dX5_addRule_28 : decode cX5_addRule 28 = .ok (.iastore, 1) := by decide +kernel
theorem dX5_addRule_29 : decode cX5_addRule 29 = .ok (.aload_n 0, 1) := by decide +kernel
theorem dX5_addRule_30 : decode cX5_addRule 30 = .ok (.getfield 18, 3) := by decide +kernel
theorem dX5_addRule_33 : decode cX5_addRule 33 = .ok (.aload_n 0, 1) := by decide +kernel
theorem dX5_addRule_34 : decode cX5_addRule 34 = .ok (.getfield 30, 3) := by decide +kernel
theorem dX5_addRule_37 : decode cX5_addRule 37 = .ok (.aload_n 0, 1) := by decide +kernel
theorem dX5_addRule_38 : decode cX5_addRule 38 = .ok (.getfield 34, 3) := by decide +kernel
theorem dX5_addRule_41 : decode cX5_addRule 41 = .ok (.iastore, 1) := by decide +kernel
theorem dX5_addRule_42 : decode cX5_addRule 42 = .ok (.aload_n 0, 1) := by decide +kernel
theorem dX5_addRule_43 : decode cX5_addRule 43 = .ok (.dup, 1) := by decide +kernel
theorem dX5_addRule_44 : decode cX5_addRule 44 = .ok (.getfield 30, 3) := by decide +kernel
theorem dX5_addRule_47 : decode cX5_addRule 47 = .ok (.iconst 1, 1) := by decide +kernel
theorem dX5_addRule_48 : decode cX5_addRule 48 = .ok (.iadd, 1) := by decide +kernel
theorem dX5_addRule_49 : decode cX5_addRule 49 = .ok (.putfield 30, 3) := by decide +kernel
theorem dX5_addRule_52 : decode cX5_addRule 52 = .ok (.return_, 1) := by decide +kernel
def f_X5_addRule (S : Sh) (R : Rw)  (I : Iw) (a0 : Nat) (x1 : Int32) (x2 : Int32) : Option (Iw) := gp (sok S a0 5 8) ((if (8 : Int32) ≤ (I a0 0) then some I else rl (R a0 1) (fun b3 => gp (aok S 20 b3 (I a0 0)) (lt (up2 I b3 (I a0 0).toNatClampNeg x1) (fun I5 => rl (R a0 2) (fun b6 => gp (aok S 20 b6 (I5 a0 0)) (lt (up2 I5 b6 (I5 a0 0).toNatClampNeg x2) (fun I8 => rl (R a0 3) (fun b9 => gp (aok S 20 b9 (I8 a0 0)) (lt (up2 I8 b9 (I8 a0 0).toNatClampNeg (I8 a0 4)) (fun I11 => lt (up2 I11 a0 0 ((I11 a0 0) + (1 : Int32))) (fun I12 => some I12))))))))))))
set_option maxHeartbeats 4000000 in
theorem b_X5_addRule {E : Ev} {p : Program} {l : Launch} {e : Env} {s : State} {m : MethodId} {args : Array Value} {below : List Frame} {meth : Method} {c : Code} (C : Cx E RX5 cX5_addRule 3 p s m c) (hr : meth.sig.returnType = none) (hk : meth.locks = false) {S : Sh} {R : Rw} {r : Iw}  : ∀ (I : Iw) (a0 : Nat) (x1 : Int32) (x2 : Int32), f_X5_addRule S R   I a0 x1 x2 = some r → Wk E 3 p l e ({ frames := 0, cells := 0, slots := 0, locals := 0 } : Room) s m args below meth c 0 0 (MQ below (Qw E S R r none) args s 0 0 (fun q => E.1 ≤ q)) 0 [(0, .ref (E.1 + a0)), (1, .int x1), (2, .int x2)] [] S R I := by
  intro I a0 x1 x2 h
  rw [f_X5_addRule] at h
  refine k_aloadn (pc := 0) C dX5_addRule_0 (i := 0) rfl 0 rfl ?_
  obtain ⟨hs10, h⟩ := gp_e h
  have hs1 := sok_e hs10
  refine k_getI (pc := 1) C lkF_RX5_30_5 hs1 ir_5_0 dX5_addRule_1 ?_
  refine k_bipush (pc := 4) C (v := (8 : Int32)) dX5_addRule_4 (by decide) ?_
  refine k_icmp_ge (pc := 6) C dX5_addRule_6 (tgt := 52) (by decide) (fun hc2 => ?_) (fun hc2 => ?_)
  · rw [if_pos hc2] at h
    have h := Option.some.inj h
    subst h
    exact k_vret (pc := 52) C hr hk dX5_addRule_52
  · rw [if_neg hc2] at h
    refine k_aloadn (pc := 9) C dX5_addRule_9 (i := 0) rfl 0 rfl ?_
    obtain ⟨b3, hb3, h⟩ := rl_e h
    refine k_getR (pc := 10) C lkF_RX5_9_5 hs1 ir_5_1 hb3 dX5_addRule_10 ?_
    refine k_aloadn (pc := 13) C dX5_addRule_13 (i := 0) rfl 0 rfl ?_
    refine k_getI (pc := 14) C lkF_RX5_30_5 hs1 ir_5_0 dX5_addRule_14 ?_
    refine k_iloadn (pc := 17) C dX5_addRule_17 (i := 1) rfl 1 rfl ?_
    obtain ⟨ha4, h⟩ := gp_e h
    obtain ⟨I5, eI5, h⟩ := lt_e h
    refine k_iast (pc := 18) C ha4 dX5_addRule_18 ?_
    rw [← eI5]
    refine k_aloadn (pc := 19) C dX5_addRule_19 (i := 0) rfl 0 rfl ?_
    obtain ⟨b6, hb6, h⟩ := rl_e h
    refine k_getR (pc := 20) C lkF_RX5_15_5 hs1 ir_5_2 hb6 dX5_addRule_20 ?_
    refine k_aloadn (pc := 23) C dX5_addRule_23 (i := 0) rfl 0 rfl ?_
    refine k_getI (pc := 24) C lkF_RX5_30_5 hs1 ir_5_0 dX5_addRule_24 ?_
    refine k_iloadn (pc := 27) C dX5_addRule_27 (i := 2) rfl 2 rfl ?_
    obtain ⟨ha7, h⟩ := gp_e h
    obtain ⟨I8, eI8, h⟩ := lt_e h
    refine k_iast (pc := 28) C ha7 dX5_addRule_28 ?_
    rw [← eI8]
    refine k_aloadn (pc := 29) C dX5_addRule_29 (i := 0) rfl 0 rfl ?_
    obtain ⟨b9, hb9, h⟩ := rl_e h
    refine k_getR (pc := 30) C lkF_RX5_18_5 hs1 ir_5_3 hb9 dX5_addRule_30 ?_
    refine k_aloadn (pc := 33) C dX5_addRule_33 (i := 0) rfl 0 rfl ?_
    refine k_getI (pc := 34) C lkF_RX5_30_5 hs1 ir_5_0 dX5_addRule_34 ?_
    refine k_aloadn (pc := 37) C dX5_addRule_37 (i := 0) rfl 0 rfl ?_
    refine k_getI (pc := 38) C lkF_RX5_34_5 hs1 ir_5_4 dX5_addRule_38 ?_
    obtain ⟨ha10, h⟩ := gp_e h
    obtain ⟨I11, eI11, h⟩ := lt_e h
    refine k_iast (pc := 41) C ha10 dX5_addRule_41 ?_
    rw [← eI11]
    refine k_aloadn (pc := 42) C dX5_addRule_42 (i := 0) rfl 0 rfl ?_
    refine k_dup (pc := 43) C dX5_addRule_43 rfl ?_
    refine k_getI (pc := 44) C lkF_RX5_30_5 hs1 ir_5_0 dX5_addRule_44 ?_
    refine k_iconst (pc := 47) C (v := (1 : Int32)) dX5_addRule_47 (by decide) ?_
    refine k_iadd (pc := 48) C dX5_addRule_48 ?_
    obtain ⟨I12, eI12, h⟩ := lt_e h
    refine k_putI (pc := 49) C lkP_RX5_30_5 hs1 ir_5_0 dX5_addRule_49 ?_
    rw [← eI12]
    have h := Option.some.inj h
    subst h
    exact k_vret (pc := 52) C hr hk dX5_addRule_52
theorem c_X5_addRule {E : Ev} {l : Launch} {S : Sh} {R : Rw} {I : Iw} {a0 : Nat} {x1 : Int32} {x2 : Int32} {r : Iw} (h : f_X5_addRule S R I a0 x1 x2 = some r) : Mt E l yX5_addRule cX5_addRule 3 none 0 0 [.ref (E.1 + a0), .int x1, .int x2] S R I S R r none 0 0 := mt_of (by decide) (Nat.le_of_ble_eq_true rfl) (fun p e s m args below meth c C hr hk hn => b_X5_addRule C hr hk _ _ _ _ h)
