/-! X12_longestOn, X12_costOn, X12_goneOn, X12_winsOn -/
theorem lkV_RX12_278 : LkV RX12 278 RX12 yX12_longestOn cX12_longestOn 3 (some .int) 0 := ⟨(t6_in 174 (by decide +kernel) rfl), (t6_in 176 (by decide +kernel) rfl), (t0_in 60 (by decide +kernel) rfl), (t6_in 177 (by decide +kernel) rfl), (t1_in 7 (by decide +kernel) rfl), by decide, by decide +kernel⟩
theorem dX12_longestOn_0 : decode cX12_longestOn 0 = .ok (.iconst 0, 1) := by decide +kernel
theorem dX12_longestOn_1 : decode cX12_longestOn 1 = .ok (.istore_n 1, 1) := by decide +kernel
theorem dX12_longestOn_2 : decode cX12_longestOn 2 = .ok (.iconst 0, 1) := by decide +kernel
theorem dX12_longestOn_3 : decode cX12_longestOn 3 = .ok (.istore_n 2, 1) := by decide +kernel
theorem dX12_longestOn_4 : decode cX12_longestOn 4 = .ok (.iload_n 2, 1) := by decide +kernel
theorem dX12_longestOn_5 : decode cX12_longestOn 5 = .ok (.aload_n 0, 1) := by decide +kernel
theorem dX12_longestOn_6 : decode cX12_longestOn 6 = .ok (.getfield 9, 3) := by decide +kernel
theorem dX12_longestOn_9 : decode cX12_longestOn 9 = .ok (.iconst 3, 1) := by decide +kernel
theorem dX12_longestOn_10 : decode cX12_longestOn 10 = .ok (.iaload, 1) := by decide +kernel
theorem dX12_longestOn_11 : decode cX12_longestOn 11 = .ok (.if_icmp .ge 38, 3) := by decide +kernel
theorem dX12_longestOn_14 : decode cX12_longestOn 14 = .ok (.aload_n 0, 1) := by decide +kernel
theorem dX12_longestOn_15 : decode cX12_longestOn 15 = .ok (.iload_n 2, 1) := by decide +kernel
theorem dX12_longestOn_16 : decode cX12_longestOn 16 = .ok (.invokevirtual 257, 3) := by decide +kernel
theorem dX12_longestOn_19 : decode cX12_longestOn 19 = .ok (.ifCond .eq 24, 3) := by decide +kernel
theorem dX12_longestOn_22 : decode cX12_longestOn 22 = .ok (.aload_n 0, 1) := by decide +kernel
theorem dX12_longestOn_23 : decode cX12_longestOn 23 = .ok (.iload_n 2, 1) := by decide +kernel
theorem dX12_longestOn_24 : decode cX12_longestOn 24 = .ok (.invokevirtual 263, 3) := by decide +kernel
theorem dX12_longestOn_27 : decode cX12_longestOn 27 = .ok (.iload_n 1, 1) := by decide +kernel
theorem dX12_longestOn_28 : decode cX12_longestOn 28 = .ok (.iconst 1, 1) := by decide +kernel
theorem dX12_longestOn_29 : decode cX12_longestOn 29 = .ok (.aload_n 0, 1) := by decide +kernel
theorem dX12_longestOn_30 : decode cX12_longestOn 30 = .ok (.invokevirtual 278, 3) := by decide +kernel
theorem dX12_longestOn_33 : decode cX12_longestOn 33 = .ok (.iadd, 1) := by decide +kernel
theorem dX12_longestOn_34 : decode cX12_longestOn 34 = .ok (.invokestatic 186, 3) := by decide +kernel
theorem dX12_longestOn_37 : decode cX12_longestOn 37 = .ok (.istore_n 1, 1) := by decide +kernel
theorem dX12_longestOn_38 : decode cX12_longestOn 38 = .ok (.aload_n 0, 1) := by decide +kernel
theorem dX12_longestOn_39 : decode cX12_longestOn 39 = .ok (.invokevirtual 269, 3) := by decide +kernel
theorem dX12_longestOn_42 : decode cX12_longestOn 42 = .ok (.pop, 1) := by decide +kernel
theorem dX12_longestOn_43 : decode cX12_longestOn 43 = .ok (.iinc 2 1, 3) := by decide +kernel
theorem dX12_longestOn_46 : decode cX12_longestOn 46 = .ok (.goto (-42), 3) := by decide +kernel
theorem dX12_longestOn_49 : decode cX12_longestOn 49 = .ok (.iload_n 1, 1) := by decide +kernel
theorem dX12_longestOn_50 : decode cX12_longestOn 50 = .ok (.ireturn, 1) := by decide +kernel
def f_X12_longestOn_43 (g : Sh → Rw → Iw → Nat → Option (Iw × Int32)) (S : Sh) (R : Rw) (ko4 : Iw → Nat → Int32 → Int32 → Option (Iw × Int32)) (I : Iw) (a0 : Nat) (x1 : Int32) (x2 : Int32) : Option (Iw × Int32) := ko4 I a0 x1 (x2 + (1 : Int32))
set_option maxHeartbeats 4000000 in
theorem b_X12_longestOn_43 {E : Ev} {p : Program} {l : Launch} {e : Env} {s : State} {m : MethodId} {args : Array Value} {below : List Frame} {meth : Method} {c : Code} {dF dL : Nat} (C : Cx E RX12 cX12_longestOn 3 p s m c) (hr : meth.sig.returnType = (some .int)) (hk : meth.locks = false) {S : Sh} {R : Rw} {r : Iw × Int32} {g : Sh → Rw → Iw → Nat → Option (Iw × Int32)} (hg : ∀ (S : Sh) (R : Rw) (I : Iw) (a0 : Nat) (r : Iw × Int32), g S R I a0 = some r → Mt E l yX12_longestOn cX12_longestOn 3 (some .int) dF dL [.ref (E.1 + a0)] S R I S R r.1 (some (.int r.2)) 0 0) {ko4 : Iw → Nat → Int32 → Int32 → Option (Iw × Int32)} (hko4 : ∀ (I : Iw) (a0 : Nat) (x1 : Int32) (x2 : Int32), ko4 I a0 x1 x2 = some r → Wk E 3 p l e ({ frames := dF + 5, cells := 0, slots := 0, locals := dL + 111 } : Room) s m args below meth c 0 0 (MQ below (Qw E S R r.1 (some (.int r.2))) args s 0 0 (fun q => E.1 ≤ q)) 4 [(0, .ref (E.1 + a0)), (1, .int x1), (2, .int x2)] [] S R I) : ∀ (I : Iw) (a0 : Nat) (x1 : Int32) (x2 : Int32), f_X12_longestOn_43 g S R ko4  I a0 x1 x2 = some r → Wk E 3 p l e ({ frames := dF + 5, cells := 0, slots := 0, locals := dL + 111 } : Room) s m args below meth c 0 0 (MQ below (Qw E S R r.1 (some (.int r.2))) args s 0 0 (fun q => E.1 ≤ q)) 43 [(0, .ref (E.1 + a0)), (1, .int x1), (2, .int x2)] [] S R I := by
  intro I a0 x1 x2 h
  rw [f_X12_longestOn_43] at h
  refine k_iinc (pc := 43) C dX12_longestOn_43 2 rfl (v := x2 + (1 : Int32)) (by rfl) (by decide) (L2 := [(0, .ref (E.1 + a0)), (1, .int x1), (2, .int (x2 + (1 : Int32)))]) rfl ?_
  refine k_goto (pc := 46) C dX12_longestOn_46 (tgt := 4) (by decide) ?_
  exact hko4 _ _ _ _ h
def f_X12_longestOn_4 (g : Sh → Rw → Iw → Nat → Option (Iw × Int32)) (S : Sh) (R : Rw)  : Nat → Iw → Nat → Int32 → Int32 → Option (Iw × Int32)
  | 0, _, _, _, _ => none
  | n + 1, I, a0, x1, x2 => gp (sok S a0 12 34) (rl (R a0 0) (fun b2 => gp (aok S 20 b2 (3 : Int32)) ((if (I b2 (3 : Int32).toNatClampNeg) ≤ x2 then some (I, x1) else bd (f_X12_mayGo S R I a0 x2) (fun r5 => (if r5 = 0 then f_X12_longestOn_43 g S R (f_X12_longestOn_4 g S R  n) I a0 x1 x2 else bd (f_X12_out S R I a0 x2) (fun r7 => bd (g S R r7 a0) (fun r8 => bd (f_X12_home S R r8.1 a0) (fun r9 => f_X12_longestOn_43 g S R (f_X12_longestOn_4 g S R  n) r9.1 a0 (jmax x1 ((1 : Int32) + r8.2)) x2)))))))))
set_option maxHeartbeats 4000000 in
theorem b_X12_longestOn_4 {E : Ev} {p : Program} {l : Launch} {e : Env} {s : State} {m : MethodId} {args : Array Value} {below : List Frame} {meth : Method} {c : Code} {dF dL : Nat} (C : Cx E RX12 cX12_longestOn 3 p s m c) (hr : meth.sig.returnType = (some .int)) (hk : meth.locks = false) {S : Sh} {R : Rw} {r : Iw × Int32} {g : Sh → Rw → Iw → Nat → Option (Iw × Int32)} (hg : ∀ (S : Sh) (R : Rw) (I : Iw) (a0 : Nat) (r : Iw × Int32), g S R I a0 = some r → Mt E l yX12_longestOn cX12_longestOn 3 (some .int) dF dL [.ref (E.1 + a0)] S R I S R r.1 (some (.int r.2)) 0 0) : ∀ (n : Nat) (I : Iw) (a0 : Nat) (x1 : Int32) (x2 : Int32), f_X12_longestOn_4 g S R  n I a0 x1 x2 = some r → Wk E 3 p l e ({ frames := dF + 5, cells := 0, slots := 0, locals := dL + 111 } : Room) s m args below meth c 0 0 (MQ below (Qw E S R r.1 (some (.int r.2))) args s 0 0 (fun q => E.1 ≤ q)) 4 [(0, .ref (E.1 + a0)), (1, .int x1), (2, .int x2)] [] S R I := by
  intro n
  induction n with
  | zero =>
    intro I a0 x1 x2 h
    rw [f_X12_longestOn_4] at h
    cases h
  | succ n ih =>
    intro I a0 x1 x2 h
    rw [f_X12_longestOn_4] at h
    refine k_iloadn (pc := 4) C dX12_longestOn_4 (i := 2) rfl 2 rfl ?_
    refine k_aloadn (pc := 5) C dX12_longestOn_5 (i := 0) rfl 0 rfl ?_
    obtain ⟨hs10, h⟩ := gp_e h
    have hs1 := sok_e hs10
    obtain ⟨b2, hb2, h⟩ := rl_e h
    refine k_getR (pc := 6) C lkF_RX12_9_12 hs1 ir_12_0 hb2 dX12_longestOn_6 ?_
    refine k_iconst (pc := 9) C (v := (3 : Int32)) dX12_longestOn_9 (by decide) ?_
    obtain ⟨ha3, h⟩ := gp_e h
    refine k_iald (pc := 10) C ha3 dX12_longestOn_10 ?_
    refine k_icmp_ge (pc := 11) C dX12_longestOn_11 (tgt := 49) (by decide) (fun hc4 => ?_) (fun hc4 => ?_)
    · rw [if_pos hc4] at h
      refine k_iloadn (pc := 49) C dX12_longestOn_49 (i := 1) rfl 1 rfl ?_
      have h := Option.some.inj h
      subst h
      exact k_iret (pc := 50) C hr hk dX12_longestOn_50
    · rw [if_neg hc4] at h
      refine k_aloadn (pc := 14) C dX12_longestOn_14 (i := 0) rfl 0 rfl ?_
      refine k_iloadn (pc := 15) C dX12_longestOn_15 (i := 2) rfl 2 rfl ?_
      obtain ⟨r5, hr5, h⟩ := bd_e h
      refine k_V (pc := 16) (st := []) C (c_X12_mayGo hr5) lkV_RX12_257 hs1 rfl rfl rfl (Nat.le_of_ble_eq_true rfl) (by show 4 + 1 ≤ dF + 5; omega) (by show 8 + (2 + 11) + 90 ≤ dL + 111; omega) (Nat.le_of_ble_eq_true rfl) (Nat.le_of_ble_eq_true rfl) dX12_longestOn_16 ?_
      refine k_nf (cells2 := 0) (slots2 := 0) (st2 := [.int r5]) rfl rfl rfl ?_
      refine k_if_eq (pc := 19) C dX12_longestOn_19 (tgt := 43) (by decide) (fun hc6 => ?_) (fun hc6 => ?_)
      · rw [if_pos hc6] at h
        exact b_X12_longestOn_43 C hr hk hg ih _ _ _ _ h
      · rw [if_neg hc6] at h
        refine k_aloadn (pc := 22) C dX12_longestOn_22 (i := 0) rfl 0 rfl ?_
        refine k_iloadn (pc := 23) C dX12_longestOn_23 (i := 2) rfl 2 rfl ?_
        obtain ⟨r7, hr7, h⟩ := bd_e h
        refine k_V (pc := 24) (st := []) C (c_X12_out hr7) lkV_RX12_263 hs1 rfl rfl rfl (Nat.le_of_ble_eq_true rfl) (by show 1 + 1 ≤ dF + 5; omega) (by show 8 + (2 + 11) + 21 ≤ dL + 111; omega) (Nat.le_of_ble_eq_true rfl) (Nat.le_of_ble_eq_true rfl) dX12_longestOn_24 ?_
        refine k_nf (cells2 := 0) (slots2 := 0) (st2 := []) rfl rfl rfl ?_
        refine k_iloadn (pc := 27) C dX12_longestOn_27 (i := 1) rfl 1 rfl ?_
        refine k_iconst (pc := 28) C (v := (1 : Int32)) dX12_longestOn_28 (by decide) ?_
        refine k_aloadn (pc := 29) C dX12_longestOn_29 (i := 0) rfl 0 rfl ?_
        obtain ⟨r8, hr8, h⟩ := bd_e h
        refine k_V (pc := 30) (st := [.int (1 : Int32), .int x1]) C (hg _ _ _ _ _ hr8) lkV_RX12_278 hs1 rfl rfl rfl (Nat.le_of_ble_eq_true rfl) (by show dF + 1 ≤ dF + 5; omega) (by show 8 + (3 + 11) + dL ≤ dL + 111; omega) (Nat.le_of_ble_eq_true rfl) (Nat.le_of_ble_eq_true rfl) dX12_longestOn_30 ?_
        refine k_nf (cells2 := 0) (slots2 := 0) (st2 := [.int r8.2, .int (1 : Int32), .int x1]) rfl rfl rfl ?_
        refine k_iadd (pc := 33) C dX12_longestOn_33 ?_
        refine k_mmax (pc := 34) (st := []) C (t6_in 11 (by decide +kernel) rfl) (Nat.le_of_ble_eq_true rfl) (by show 1 ≤ dF + 5; omega) (by show 21 ≤ dL + 111; omega) (Nat.le_of_ble_eq_true rfl) (Nat.le_of_ble_eq_true rfl) dX12_longestOn_34 ?_
        refine k_istoren (pc := 37) C dX12_longestOn_37 (i := 1) rfl (by decide) (L2 := [(0, .ref (E.1 + a0)), (1, .int (jmax x1 ((1 : Int32) + r8.2))), (2, .int x2)]) rfl ?_
        refine k_aloadn (pc := 38) C dX12_longestOn_38 (i := 0) rfl 0 rfl ?_
        obtain ⟨r9, hr9, h⟩ := bd_e h
        refine k_V (pc := 39) (st := []) C (c_X12_home hr9) lkV_RX12_269 hs1 rfl rfl rfl (Nat.le_of_ble_eq_true rfl) (by show 1 + 1 ≤ dF + 5; omega) (by show 8 + (2 + 11) + 23 ≤ dL + 111; omega) (Nat.le_of_ble_eq_true rfl) (Nat.le_of_ble_eq_true rfl) dX12_longestOn_39 ?_
        refine k_nf (cells2 := 0) (slots2 := 0) (st2 := [.int r9.2]) rfl rfl rfl ?_
        refine k_pop (pc := 42) C dX12_longestOn_42 rfl ?_
        exact b_X12_longestOn_43 C hr hk hg ih _ _ _ _ h
def f_X12_longestOn_b (g : Sh → Rw → Iw → Nat → Option (Iw × Int32)) (S : Sh) (R : Rw)  (I : Iw) (a0 : Nat) : Option (Iw × Int32) := f_X12_longestOn_4 g S R  512 I a0 (0 : Int32) (0 : Int32)
set_option maxHeartbeats 4000000 in
theorem b_X12_longestOn_b {E : Ev} {p : Program} {l : Launch} {e : Env} {s : State} {m : MethodId} {args : Array Value} {below : List Frame} {meth : Method} {c : Code} {dF dL : Nat} (C : Cx E RX12 cX12_longestOn 3 p s m c) (hr : meth.sig.returnType = (some .int)) (hk : meth.locks = false) {S : Sh} {R : Rw} {r : Iw × Int32} {g : Sh → Rw → Iw → Nat → Option (Iw × Int32)} (hg : ∀ (S : Sh) (R : Rw) (I : Iw) (a0 : Nat) (r : Iw × Int32), g S R I a0 = some r → Mt E l yX12_longestOn cX12_longestOn 3 (some .int) dF dL [.ref (E.1 + a0)] S R I S R r.1 (some (.int r.2)) 0 0) : ∀ (I : Iw) (a0 : Nat), f_X12_longestOn_b g S R   I a0 = some r → Wk E 3 p l e ({ frames := dF + 5, cells := 0, slots := 0, locals := dL + 111 } : Room) s m args below meth c 0 0 (MQ below (Qw E S R r.1 (some (.int r.2))) args s 0 0 (fun q => E.1 ≤ q)) 0 [(0, .ref (E.1 + a0))] [] S R I := by
  intro I a0 h
  rw [f_X12_longestOn_b] at h
  refine k_iconst (pc := 0) C (v := (0 : Int32)) dX12_longestOn_0 (by decide) ?_
  refine k_istoren (pc := 1) C dX12_longestOn_1 (i := 1) rfl (by decide) (L2 := [(0, .ref (E.1 + a0)), (1, .int (0 : Int32))]) rfl ?_
  refine k_iconst (pc := 2) C (v := (0 : Int32)) dX12_longestOn_2 (by decide) ?_
  refine k_istoren (pc := 3) C dX12_longestOn_3 (i := 2) rfl (by decide) (L2 := [(0, .ref (E.1 + a0)), (1, .int (0 : Int32)), (2, .int (0 : Int32))]) rfl ?_
  exact b_X12_longestOn_4 C hr hk hg  _ _ _ _ _ h
def f_X12_longestOn : Nat → Sh → Rw → Iw → Nat → Option (Iw × Int32)
  | 0, _, _, _, _ => none
  | n + 1, S, R, I, a0 => f_X12_longestOn_b (f_X12_longestOn n) S R I a0
theorem c_X12_longestOn_g {E : Ev} {l : Launch} : ∀ (n : Nat) (S : Sh) (R : Rw) (I : Iw) (a0 : Nat) (r : Iw × Int32), f_X12_longestOn n S R I a0 = some r → Mt E l yX12_longestOn cX12_longestOn 3 (some .int) (5 * n) (111 * n) [.ref (E.1 + a0)] S R I S R r.1 (some (.int r.2)) 0 0 := by
  intro n
  induction n with
  | zero =>
    intro S R I a0 r h
    rw [f_X12_longestOn] at h
    cases h
  | succ n ih =>
    intro S R I a0 r h
    rw [f_X12_longestOn] at h
    exact mt_of (by decide) (Nat.le_of_ble_eq_true rfl) (fun p e s m args below meth c C hr hk hn => b_X12_longestOn_b (dF := 5 * n) (dL := 111 * n) C hr hk ih _ _ h)
theorem c_X12_longestOn {E : Ev} {l : Launch} (n : Nat) {S : Sh} {R : Rw} {I : Iw} {a0 : Nat} {r : Iw × Int32} (h : f_X12_longestOn n S R I a0 = some r) : Mt E l yX12_longestOn cX12_longestOn 3 (some .int) (5 * n) (111 * n) [.ref (E.1 + a0)] S R I S R r.1 (some (.int r.2)) 0 0 := c_X12_longestOn_g n S R I a0 r h
theorem lkV_RX12_281 : LkV RX12 281 RX12 yX12_costOn cX12_costOn 6 (some .int) 1 := ⟨(t6_in 178 (by decide +kernel) rfl), (t6_in 180 (by decide +kernel) rfl), (t0_in 61 (by decide +kernel) rfl), (t6_in 181 (by decide +kernel) rfl), (t1_in 7 (by decide +kernel) rfl), by decide, by decide +kernel⟩
theorem dX12_costOn_0 : decode cX12_costOn 0 = .ok (.aload_n 0, 1) := by decide +kernel
theorem dX12_costOn_1 : decode cX12_costOn 1 = .ok (.invokevirtual 272, 3) := by decide +kernel
theorem dX12_costOn_4 : decode cX12_costOn 4 = .ok (.ifCond .ne 5, 3) := by decide +kernel
theorem dX12_costOn_7 : decode cX12_costOn 7 = .ok (.iconst 0, 1) := by decide +kernel
theorem dX12_costOn_8 : decode cX12_costOn 8 = .ok (.ireturn, 1) := by decide +kernel
theorem dX12_costOn_9 : decode cX12_costOn 9 = .ok (.iconst (-1), 1) := by decide +kernel
theorem dX12_costOn_10 : decode cX12_costOn 10 = .ok (.istore_n 2, 1) := by decide +kernel
theorem dX12_costOn_11 : decode cX12_costOn 11 = .ok (.iconst 0, 1) := by decide +kernel
theorem dX12_costOn_12 : decode cX12_costOn 12 = .ok (.istore_n 3, 1) := by decide +kernel
theorem dX12_costOn_13 : decode cX12_costOn 13 = .ok (.iload_n 3, 1) := by decide +kernel
theorem dX12_costOn_14 : decode cX12_costOn 14 = .ok (.aload_n 0, 1) := by decide +kernel
theorem dX12_costOn_15 : decode cX12_costOn 15 = .ok (.getfield 9, 3) := by decide +kernel
theorem dX12_costOn_18 : decode cX12_costOn 18 = .ok (.iconst 3, 1) := by decide +kernel
theorem dX12_costOn_19 : decode cX12_costOn 19 = .ok (.iaload, 1) := by decide +kernel
theorem dX12_costOn_20 : decode cX12_costOn 20 = .ok (.if_icmp .ge 73, 3) := by decide +kernel
theorem dX12_costOn_23 : decode cX12_costOn 23 = .ok (.aload_n 0, 1) := by decide +kernel
theorem dX12_costOn_24 : decode cX12_costOn 24 = .ok (.iload_n 3, 1) := by decide +kernel
theorem dX12_costOn_25 : decode cX12_costOn 25 = .ok (.invokevirtual 257, 3) := by decide +kernel
theorem dX12_costOn_28 : decode cX12_costOn 28 = .ok (.ifCond .eq 59, 3) := by decide +kernel
theorem dX12_costOn_31 : decode cX12_costOn 31 = .ok (.iload_n 1, 1) := by decide +kernel
theorem dX12_costOn_32 : decode cX12_costOn 32 = .ok (.aload_n 0, 1) := by decide +kernel
theorem dX12_costOn_33 : decode cX12_costOn 33 = .ok (.iload_n 3, 1) := by decide +kernel
theorem dX12_costOn_34 : decode cX12_costOn 34 = .ok (.invokevirtual 254, 3) := by decide +kernel
theorem dX12_costOn_37 : decode cX12_costOn 37 = .ok (.imul, 1) := by decide +kernel
theorem dX12_costOn_38 : decode cX12_costOn 38 = .ok (.istore 4, 2) := by decide +kernel
theorem dX12_costOn_40 : decode cX12_costOn 40 = .ok (.aload_n 0, 1) := by decide +kernel
theorem dX12_costOn_41 : decode cX12_costOn 41 = .ok (.iload_n 3, 1) := by decide +kernel
theorem dX12_costOn_42 : decode cX12_costOn 42 = .ok (.invokevirtual 263, 3) := by decide +kernel
theorem dX12_costOn_45 : decode cX12_costOn 45 = .ok (.aload_n 0, 1) := by decide +kernel
theorem dX12_costOn_46 : decode cX12_costOn 46 = .ok (.iload_n 1, 1) := by decide +kernel
theorem dX12_costOn_47 : decode cX12_costOn 47 = .ok (.iconst 1, 1) := by decide +kernel
theorem dX12_costOn_48 : decode cX12_costOn 48 = .ok (.iadd, 1) := by decide +kernel
theorem dX12_costOn_49 : decode cX12_costOn 49 = .ok (.invokevirtual 281, 3) := by decide +kernel
theorem dX12_costOn_52 : decode cX12_costOn 52 = .ok (.istore 5, 2) := by decide +kernel
theorem dX12_costOn_54 : decode cX12_costOn 54 = .ok (.aload_n 0, 1) := by decide +kernel
theorem dX12_costOn_55 : decode cX12_costOn 55 = .ok (.invokevirtual 269, 3) := by decide +kernel
theorem dX12_costOn_58 : decode cX12_costOn 58 = .ok (.pop, 1) := by decide +kernel
theorem dX12_costOn_59 : decode cX12_costOn 59 = .ok (.iload 5, 2) := by decide +kernel
theorem dX12_costOn_61 : decode cX12_costOn 61 = .ok (.ifCond .lt 24, 3) := by decide +kernel
theorem dX12_costOn_64 : decode cX12_costOn 64 = .ok (.iload_n 2, 1) := by decide +kernel
theorem dX12_costOn_65 : decode cX12_costOn 65 = .ok (.ifCond .lt 12, 3) := by decide +kernel
theorem dX12_costOn_68 : decode cX12_costOn 68 = .ok (.iload 4, 2) := by decide +kernel
theorem dX12_costOn_70 : decode cX12_costOn 70 = .ok (.iload 5, 2) := by decide +kernel
theorem dX12_costOn_72 : decode cX12_costOn 72 = .ok (.iadd, 1) := by decide +kernel
theorem dX12_costOn_73 : decode cX12_costOn 73 = .ok (.iload_n 2, 1) := by decide +kernel
theorem dX12_costOn_74 : decode cX12_costOn 74 = .ok (.if_icmp .ge 11, 3) := by decide +kernel
theorem dX12_costOn_77 : decode cX12_costOn 77 = .ok (.iload 4, 2) := by decide +kernel
theorem dX12_costOn_79 : decode cX12_costOn 79 = .ok (.iload 5, 2) := by decide +kernel
theorem dX12_costOn_81 : decode cX12_costOn 81 = .ok (.iadd, 1) := by decide +kernel
theorem dX12_costOn_82 : decode cX12_costOn 82 = .ok (.goto 4, 3) := by decide +kernel
theorem dX12_costOn_85 : decode cX12_costOn 85 = .ok (.iload_n 2, 1) := by decide +kernel
theorem dX12_costOn_86 : decode cX12_costOn 86 = .ok (.istore_n 2, 1) := by decide +kernel
theorem dX12_costOn_87 : decode cX12_costOn 87 = .ok (.iinc 3 1, 3) := by decide +kernel
theorem dX12_costOn_90 : decode cX12_costOn 90 = .ok (.goto (-77), 3) := by decide +kernel
theorem dX12_costOn_93 : decode cX12_costOn 93 = .ok (.iload_n 2, 1) := by decide +kernel
theorem dX12_costOn_94 : decode cX12_costOn 94 = .ok (.ireturn, 1) := by decide +kernel
def f_X12_costOn_87 (g : Sh → Rw → Iw → Nat → Int32 → Option (Iw × Int32)) (S : Sh) (R : Rw) (ko13 : Iw → Nat → Int32 → Int32 → Int32 → Option (Iw × Int32)) (I : Iw) (a0 : Nat) (x1 : Int32) (x2 : Int32) (x3 : Int32) : Option (Iw × Int32) := ko13 I a0 x1 x2 (x3 + (1 : Int32))
set_option maxHeartbeats 4000000 in
theorem b_X12_costOn_87 {E : Ev} {p : Program} {l : Launch} {e : Env} {s : State} {m : MethodId} {args : Array Value} {below : List Frame} {meth : Method} {c : Code} {dF dL : Nat} (C : Cx E RX12 cX12_costOn 6 p s m c) (hr : meth.sig.returnType = (some .int)) (hk : meth.locks = false) {S : Sh} {R : Rw} {r : Iw × Int32} {g : Sh → Rw → Iw → Nat → Int32 → Option (Iw × Int32)} (hg : ∀ (S : Sh) (R : Rw) (I : Iw) (a0 : Nat) (x1 : Int32) (r : Iw × Int32), g S R I a0 x1 = some r → Mt E l yX12_costOn cX12_costOn 6 (some .int) dF dL [.ref (E.1 + a0), .int x1] S R I S R r.1 (some (.int r.2)) 0 0) {ko13 : Iw → Nat → Int32 → Int32 → Int32 → Option (Iw × Int32)} (hko13 : ∀ (I : Iw) (a0 : Nat) (x1 : Int32) (x2 : Int32) (x3 : Int32), ko13 I a0 x1 x2 x3 = some r → Wk E 6 p l e ({ frames := dF + 6, cells := 0, slots := 0, locals := dL + 138 } : Room) s m args below meth c 0 0 (MQ below (Qw E S R r.1 (some (.int r.2))) args s 0 0 (fun q => E.1 ≤ q)) 13 [(0, .ref (E.1 + a0)), (1, .int x1), (2, .int x2), (3, .int x3)] [] S R I) : ∀ (I : Iw) (a0 : Nat) (x1 : Int32) (x2 : Int32) (x3 : Int32), f_X12_costOn_87 g S R ko13  I a0 x1 x2 x3 = some r → Wk E 6 p l e ({ frames := dF + 6, cells := 0, slots := 0, locals := dL + 138 } : Room) s m args below meth c 0 0 (MQ below (Qw E S R r.1 (some (.int r.2))) args s 0 0 (fun q => E.1 ≤ q)) 87 [(0, .ref (E.1 + a0)), (1, .int x1), (2, .int x2), (3, .int x3)] [] S R I := by
  intro I a0 x1 x2 x3 h
  rw [f_X12_costOn_87] at h
  refine k_iinc (pc := 87) C dX12_costOn_87 3 rfl (v := x3 + (1 : Int32)) (by rfl) (by decide) (L2 := [(0, .ref (E.1 + a0)), (1, .int x1), (2, .int x2), (3, .int (x3 + (1 : Int32)))]) rfl ?_
  refine k_goto (pc := 90) C dX12_costOn_90 (tgt := 13) (by decide) ?_
  exact hko13 _ _ _ _ _ h
def f_X12_costOn_86 (g : Sh → Rw → Iw → Nat → Int32 → Option (Iw × Int32)) (S : Sh) (R : Rw) (ko13 : Iw → Nat → Int32 → Int32 → Int32 → Option (Iw × Int32)) (I : Iw) (a0 : Nat) (x1 : Int32) (x3 : Int32) (s0 : Int32) : Option (Iw × Int32) := f_X12_costOn_87 g S R ko13 I a0 x1 s0 x3
set_option maxHeartbeats 4000000 in
theorem b_X12_costOn_86 {E : Ev} {p : Program} {l : Launch} {e : Env} {s : State} {m : MethodId} {args : Array Value} {below : List Frame} {meth : Method} {c : Code} {dF dL : Nat} (C : Cx E RX12 cX12_costOn 6 p s m c) (hr : meth.sig.returnType = (some .int)) (hk : meth.locks = false) {S : Sh} {R : Rw} {r : Iw × Int32} {g : Sh → Rw → Iw → Nat → Int32 → Option (Iw × Int32)} (hg : ∀ (S : Sh) (R : Rw) (I : Iw) (a0 : Nat) (x1 : Int32) (r : Iw × Int32), g S R I a0 x1 = some r → Mt E l yX12_costOn cX12_costOn 6 (some .int) dF dL [.ref (E.1 + a0), .int x1] S R I S R r.1 (some (.int r.2)) 0 0) {ko13 : Iw → Nat → Int32 → Int32 → Int32 → Option (Iw × Int32)} (hko13 : ∀ (I : Iw) (a0 : Nat) (x1 : Int32) (x2 : Int32) (x3 : Int32), ko13 I a0 x1 x2 x3 = some r → Wk E 6 p l e ({ frames := dF + 6, cells := 0, slots := 0, locals := dL + 138 } : Room) s m args below meth c 0 0 (MQ below (Qw E S R r.1 (some (.int r.2))) args s 0 0 (fun q => E.1 ≤ q)) 13 [(0, .ref (E.1 + a0)), (1, .int x1), (2, .int x2), (3, .int x3)] [] S R I) : ∀ (I : Iw) (a0 : Nat) (x1 : Int32) (x3 : Int32) (s0 : Int32), f_X12_costOn_86 g S R ko13  I a0 x1 x3 s0 = some r → Wk E 6 p l e ({ frames := dF + 6, cells := 0, slots := 0, locals := dL + 138 } : Room) s m args below meth c 0 0 (MQ below (Qw E S R r.1 (some (.int r.2))) args s 0 0 (fun q => E.1 ≤ q)) 86 [(0, .ref (E.1 + a0)), (1, .int x1), (3, .int x3)] [.int s0] S R I := by
  intro I a0 x1 x3 s0 h
  rw [f_X12_costOn_86] at h
  refine k_istoren (pc := 86) C dX12_costOn_86 (i := 2) rfl (by decide) (L2 := [(0, .ref (E.1 + a0)), (1, .int x1), (2, .int s0), (3, .int x3)]) rfl ?_
  exact b_X12_costOn_87 C hr hk hg hko13 _ _ _ _ _ h
def f_X12_costOn_85 (g : Sh → Rw → Iw → Nat → Int32 → Option (Iw × Int32)) (S : Sh) (R : Rw) (ko13 : Iw → Nat → Int32 → Int32 → Int32 → Option (Iw × Int32)) (I : Iw) (a0 : Nat) (x1 : Int32) (x2 : Int32) (x3 : Int32) : Option (Iw × Int32) := f_X12_costOn_86 g S R ko13 I a0 x1 x3 x2
set_option maxHeartbeats 4000000 in
theorem b_X12_costOn_85 {E : Ev} {p : Program} {l : Launch} {e : Env} {s : State} {m : MethodId} {args : Array Value} {below : List Frame} {meth : Method} {c : Code} {dF dL : Nat} (C : Cx E RX12 cX12_costOn 6 p s m c) (hr : meth.sig.returnType = (some .int)) (hk : meth.locks = false) {S : Sh} {R : Rw} {r : Iw × Int32} {g : Sh → Rw → Iw → Nat → Int32 → Option (Iw × Int32)} (hg : ∀ (S : Sh) (R : Rw) (I : Iw) (a0 : Nat) (x1 : Int32) (r : Iw × Int32), g S R I a0 x1 = some r → Mt E l yX12_costOn cX12_costOn 6 (some .int) dF dL [.ref (E.1 + a0), .int x1] S R I S R r.1 (some (.int r.2)) 0 0) {ko13 : Iw → Nat → Int32 → Int32 → Int32 → Option (Iw × Int32)} (hko13 : ∀ (I : Iw) (a0 : Nat) (x1 : Int32) (x2 : Int32) (x3 : Int32), ko13 I a0 x1 x2 x3 = some r → Wk E 6 p l e ({ frames := dF + 6, cells := 0, slots := 0, locals := dL + 138 } : Room) s m args below meth c 0 0 (MQ below (Qw E S R r.1 (some (.int r.2))) args s 0 0 (fun q => E.1 ≤ q)) 13 [(0, .ref (E.1 + a0)), (1, .int x1), (2, .int x2), (3, .int x3)] [] S R I) : ∀ (I : Iw) (a0 : Nat) (x1 : Int32) (x2 : Int32) (x3 : Int32), f_X12_costOn_85 g S R ko13  I a0 x1 x2 x3 = some r → Wk E 6 p l e ({ frames := dF + 6, cells := 0, slots := 0, locals := dL + 138 } : Room) s m args below meth c 0 0 (MQ below (Qw E S R r.1 (some (.int r.2))) args s 0 0 (fun q => E.1 ≤ q)) 85 [(0, .ref (E.1 + a0)), (1, .int x1), (2, .int x2), (3, .int x3)] [] S R I := by
  intro I a0 x1 x2 x3 h
  rw [f_X12_costOn_85] at h
  refine k_iloadn (pc := 85) C dX12_costOn_85 (i := 2) rfl 2 rfl ?_
  refine k_loc (L2 := [(0, .ref (E.1 + a0)), (1, .int x1), (3, .int x3)]) [0, 1, 3] rfl ?_
  exact b_X12_costOn_86 C hr hk hg hko13 _ _ _ _ _ h
def f_X12_costOn_77 (g : Sh → Rw → Iw → Nat → Int32 → Option (Iw × Int32)) (S : Sh) (R : Rw) (ko13 : Iw → Nat → Int32 → Int32 → Int32 → Option (Iw × Int32)) (I : Iw) (a0 : Nat) (x1 : Int32) (x3 : Int32) (x4 : Int32) (x5 : Int32) : Option (Iw × Int32) := f_X12_costOn_86 g S R ko13 I a0 x1 x3 (x4 + x5)
set_option maxHeartbeats 4000000 in
theorem b_X12_costOn_77 {E : Ev} {p : Program} {l : Launch} {e : Env} {s : State} {m : MethodId} {args : Array Value} {below : List Frame} {meth : Method} {c : Code} {dF dL : Nat} (C : Cx E RX12 cX12_costOn 6 p s m c) (hr : meth.sig.returnType = (some .int)) (hk : meth.locks = false) {S : Sh} {R : Rw} {r : Iw × Int32} {g : Sh → Rw → Iw → Nat → Int32 → Option (Iw × Int32)} (hg : ∀ (S : Sh) (R : Rw) (I : Iw) (a0 : Nat) (x1 : Int32) (r : Iw × Int32), g S R I a0 x1 = some r → Mt E l yX12_costOn cX12_costOn 6 (some .int) dF dL [.ref (E.1 + a0), .int x1] S R I S R r.1 (some (.int r.2)) 0 0) {ko13 : Iw → Nat → Int32 → Int32 → Int32 → Option (Iw × Int32)} (hko13 : ∀ (I : Iw) (a0 : Nat) (x1 : Int32) (x2 : Int32) (x3 : Int32), ko13 I a0 x1 x2 x3 = some r → Wk E 6 p l e ({ frames := dF + 6, cells := 0, slots := 0, locals := dL + 138 } : Room) s m args below meth c 0 0 (MQ below (Qw E S R r.1 (some (.int r.2))) args s 0 0 (fun q => E.1 ≤ q)) 13 [(0, .ref (E.1 + a0)), (1, .int x1), (2, .int x2), (3, .int x3)] [] S R I) : ∀ (I : Iw) (a0 : Nat) (x1 : Int32) (x3 : Int32) (x4 : Int32) (x5 : Int32), f_X12_costOn_77 g S R ko13  I a0 x1 x3 x4 x5 = some r → Wk E 6 p l e ({ frames := dF + 6, cells := 0, slots := 0, locals := dL + 138 } : Room) s m args below meth c 0 0 (MQ below (Qw E S R r.1 (some (.int r.2))) args s 0 0 (fun q => E.1 ≤ q)) 77 [(0, .ref (E.1 + a0)), (1, .int x1), (3, .int x3), (4, .int x4), (5, .int x5)] [] S R I := by
  intro I a0 x1 x3 x4 x5 h
  rw [f_X12_costOn_77] at h
  refine k_iload (pc := 77) C dX12_costOn_77 3 rfl ?_
  refine k_iload (pc := 79) C dX12_costOn_79 4 rfl ?_
  refine k_iadd (pc := 81) C dX12_costOn_81 ?_
  refine k_goto (pc := 82) C dX12_costOn_82 (tgt := 86) (by decide) ?_
  refine k_loc (L2 := [(0, .ref (E.1 + a0)), (1, .int x1), (3, .int x3)]) [0, 1, 2] rfl ?_
  exact b_X12_costOn_86 C hr hk hg hko13 _ _ _ _ _ h
def f_X12_costOn_13 (g : Sh → Rw → Iw → Nat → Int32 → Option (Iw × Int32)) (S : Sh) (R : Rw)  : Nat → Iw → Nat → Int32 → Int32 → Int32 → Option (Iw × Int32)
  | 0, _, _, _, _, _ => none
  | n + 1, I, a0, x1, x2, x3 => gp (sok S a0 12 34) (rl (R a0 0) (fun b5 => gp (aok S 20 b5 (3 : Int32)) ((if (I b5 (3 : Int32).toNatClampNeg) ≤ x3 then some (I, x2) else bd (f_X12_mayGo S R I a0 x3) (fun r8 => (if r8 = 0 then f_X12_costOn_87 g S R (f_X12_costOn_13 g S R  n) I a0 x1 x2 x3 else bd (f_X12_fee S R I a0 x3) (fun r10 => bd (f_X12_out S R r10.1 a0 x3) (fun r11 => bd (g S R r11 a0 (x1 + (1 : Int32))) (fun r12 => bd (f_X12_home S R r12.1 a0) (fun r13 => (if r12.2 < 0 then f_X12_costOn_85 g S R (f_X12_costOn_13 g S R  n) r13.1 a0 x1 x2 x3 else (if x2 < 0 then f_X12_costOn_77 g S R (f_X12_costOn_13 g S R  n) r13.1 a0 x1 x3 (x1 * r10.2) r12.2 else (if x2 ≤ ((x1 * r10.2) + r12.2) then f_X12_costOn_85 g S R (f_X12_costOn_13 g S R  n) r13.1 a0 x1 x2 x3 else f_X12_costOn_77 g S R (f_X12_costOn_13 g S R  n) r13.1 a0 x1 x3 (x1 * r10.2) r12.2)))))))))))))
set_option maxHeartbeats 4000000 in
theorem b_X12_costOn_13 {E : Ev} {p : Program} {l : Launch} {e : Env} {s : State} {m : MethodId} {args : Array Value} {below : List Frame} {meth : Method} {c : Code} {dF dL : Nat} (C : Cx E RX12 cX12_costOn 6 p s m c) (hr : meth.sig.returnType = (some .int)) (hk : meth.locks = false) {S : Sh} {R : Rw} {r : Iw × Int32} {g : Sh → Rw → Iw → Nat → Int32 → Option (Iw × Int32)} (hg : ∀ (S : Sh) (R : Rw) (I : Iw) (a0 : Nat) (x1 : Int32) (r : Iw × Int32), g S R I a0 x1 = some r → Mt E l yX12_costOn cX12_costOn 6 (some .int) dF dL [.ref (E.1 + a0), .int x1] S R I S R r.1 (some (.int r.2)) 0 0) : ∀ (n : Nat) (I : Iw) (a0 : Nat) (x1 : Int32) (x2 : Int32) (x3 : Int32), f_X12_costOn_13 g S R  n I a0 x1 x2 x3 = some r → Wk E 6 p l e ({ frames := dF + 6, cells := 0, slots := 0, locals := dL + 138 } : Room) s m args below meth c 0 0 (MQ below (Qw E S R r.1 (some (.int r.2))) args s 0 0 (fun q => E.1 ≤ q)) 13 [(0, .ref (E.1 + a0)), (1, .int x1), (2, .int x2), (3, .int x3)] [] S R I := by
  intro n
  induction n with
  | zero =>
    intro I a0 x1 x2 x3 h
    rw [f_X12_costOn_13] at h
    cases h
  | succ n ih =>
    intro I a0 x1 x2 x3 h
    rw [f_X12_costOn_13] at h
    refine k_iloadn (pc := 13) C dX12_costOn_13 (i := 3) rfl 3 rfl ?_
    refine k_aloadn (pc := 14) C dX12_costOn_14 (i := 0) rfl 0 rfl ?_
    obtain ⟨hs40, h⟩ := gp_e h
    have hs4 := sok_e hs40
    obtain ⟨b5, hb5, h⟩ := rl_e h
    refine k_getR (pc := 15) C lkF_RX12_9_12 hs4 ir_12_0 hb5 dX12_costOn_15 ?_
    refine k_iconst (pc := 18) C (v := (3 : Int32)) dX12_costOn_18 (by decide) ?_
    obtain ⟨ha6, h⟩ := gp_e h
    refine k_iald (pc := 19) C ha6 dX12_costOn_19 ?_
    refine k_icmp_ge (pc := 20) C dX12_costOn_20 (tgt := 93) (by decide) (fun hc7 => ?_) (fun hc7 => ?_)
    · rw [if_pos hc7] at h
      refine k_iloadn (pc := 93) C dX12_costOn_93 (i := 2) rfl 2 rfl ?_
      have h := Option.some.inj h
      subst h
      exact k_iret (pc := 94) C hr hk dX12_costOn_94
    · rw [if_neg hc7] at h
      refine k_aloadn (pc := 23) C dX12_costOn_23 (i := 0) rfl 0 rfl ?_
      refine k_iloadn (pc := 24) C dX12_costOn_24 (i := 3) rfl 3 rfl ?_
      obtain ⟨r8, hr8, h⟩ := bd_e h
      refine k_V (pc := 25) (st := []) C (c_X12_mayGo hr8) lkV_RX12_257 hs4 rfl rfl rfl (Nat.le_of_ble_eq_true rfl) (by show 4 + 1 ≤ dF + 6; omega) (by show 8 + (2 + 11) + 90 ≤ dL + 138; omega) (Nat.le_of_ble_eq_true rfl) (Nat.le_of_ble_eq_true rfl) dX12_costOn_25 ?_
      refine k_nf (cells2 := 0) (slots2 := 0) (st2 := [.int r8]) rfl rfl rfl ?_
      refine k_if_eq (pc := 28) C dX12_costOn_28 (tgt := 87) (by decide) (fun hc9 => ?_) (fun hc9 => ?_)
      · rw [if_pos hc9] at h
        exact b_X12_costOn_87 C hr hk hg ih _ _ _ _ _ h
      · rw [if_neg hc9] at h
        refine k_iloadn (pc := 31) C dX12_costOn_31 (i := 1) rfl 1 rfl ?_
        refine k_aloadn (pc := 32) C dX12_costOn_32 (i := 0) rfl 0 rfl ?_
        refine k_iloadn (pc := 33) C dX12_costOn_33 (i := 3) rfl 3 rfl ?_
        obtain ⟨r10, hr10, h⟩ := bd_e h
        refine k_V (pc := 34) (st := [.int x1]) C (c_X12_fee hr10) lkV_RX12_254 hs4 rfl rfl rfl (Nat.le_of_ble_eq_true rfl) (by show 5 + 1 ≤ dF + 6; omega) (by show 8 + (3 + 11) + 116 ≤ dL + 138; omega) (Nat.le_of_ble_eq_true rfl) (Nat.le_of_ble_eq_true rfl) dX12_costOn_34 ?_
        refine k_nf (cells2 := 0) (slots2 := 0) (st2 := [.int r10.2, .int x1]) rfl rfl rfl ?_
        refine k_imul (pc := 37) C dX12_costOn_37 ?_
        refine k_istore (pc := 38) C dX12_costOn_38 (by decide) (L2 := [(0, .ref (E.1 + a0)), (1, .int x1), (2, .int x2), (3, .int x3), (4, .int (x1 * r10.2))]) rfl ?_
        refine k_aloadn (pc := 40) C dX12_costOn_40 (i := 0) rfl 0 rfl ?_
        refine k_iloadn (pc := 41) C dX12_costOn_41 (i := 3) rfl 3 rfl ?_
        obtain ⟨r11, hr11, h⟩ := bd_e h
        refine k_V (pc := 42) (st := []) C (c_X12_out hr11) lkV_RX12_263 hs4 rfl rfl rfl (Nat.le_of_ble_eq_true rfl) (by show 1 + 1 ≤ dF + 6; omega) (by show 8 + (2 + 11) + 21 ≤ dL + 138; omega) (Nat.le_of_ble_eq_true rfl) (Nat.le_of_ble_eq_true rfl) dX12_costOn_42 ?_
        refine k_nf (cells2 := 0) (slots2 := 0) (st2 := []) rfl rfl rfl ?_
        refine k_aloadn (pc := 45) C dX12_costOn_45 (i := 0) rfl 0 rfl ?_
        refine k_iloadn (pc := 46) C dX12_costOn_46 (i := 1) rfl 1 rfl ?_
        refine k_iconst (pc := 47) C (v := (1 : Int32)) dX12_costOn_47 (by decide) ?_
        refine k_iadd (pc := 48) C dX12_costOn_48 ?_
        obtain ⟨r12, hr12, h⟩ := bd_e h
        refine k_V (pc := 49) (st := []) C (hg _ _ _ _ _ _ hr12) lkV_RX12_281 hs4 rfl rfl rfl (Nat.le_of_ble_eq_true rfl) (by show dF + 1 ≤ dF + 6; omega) (by show 8 + (6 + 11) + dL ≤ dL + 138; omega) (Nat.le_of_ble_eq_true rfl) (Nat.le_of_ble_eq_true rfl) dX12_costOn_49 ?_
        refine k_nf (cells2 := 0) (slots2 := 0) (st2 := [.int r12.2]) rfl rfl rfl ?_
        refine k_istore (pc := 52) C dX12_costOn_52 (by decide) (L2 := [(0, .ref (E.1 + a0)), (1, .int x1), (2, .int x2), (3, .int x3), (4, .int (x1 * r10.2)), (5, .int r12.2)]) rfl ?_
        refine k_aloadn (pc := 54) C dX12_costOn_54 (i := 0) rfl 0 rfl ?_
        obtain ⟨r13, hr13, h⟩ := bd_e h
        refine k_V (pc := 55) (st := []) C (c_X12_home hr13) lkV_RX12_269 hs4 rfl rfl rfl (Nat.le_of_ble_eq_true rfl) (by show 1 + 1 ≤ dF + 6; omega) (by show 8 + (2 + 11) + 23 ≤ dL + 138; omega) (Nat.le_of_ble_eq_true rfl) (Nat.le_of_ble_eq_true rfl) dX12_costOn_55 ?_
        refine k_nf (cells2 := 0) (slots2 := 0) (st2 := [.int r13.2]) rfl rfl rfl ?_
        refine k_pop (pc := 58) C dX12_costOn_58 rfl ?_
        refine k_iload (pc := 59) C dX12_costOn_59 5 rfl ?_
        refine k_if_lt (pc := 61) C dX12_costOn_61 (tgt := 85) (by decide) (fun hc14 => ?_) (fun hc14 => ?_)
        · rw [if_pos hc14] at h
          refine k_loc (L2 := [(0, .ref (E.1 + a0)), (1, .int x1), (2, .int x2), (3, .int x3)]) [0, 1, 2, 3] rfl ?_
          exact b_X12_costOn_85 C hr hk hg ih _ _ _ _ _ h
        · rw [if_neg hc14] at h
          refine k_iloadn (pc := 64) C dX12_costOn_64 (i := 2) rfl 2 rfl ?_
          refine k_if_lt (pc := 65) C dX12_costOn_65 (tgt := 77) (by decide) (fun hc15 => ?_) (fun hc15 => ?_)
          · rw [if_pos hc15] at h
            refine k_loc (L2 := [(0, .ref (E.1 + a0)), (1, .int x1), (3, .int x3), (4, .int (x1 * r10.2)), (5, .int r12.2)]) [0, 1, 3, 4, 5] rfl ?_
            exact b_X12_costOn_77 C hr hk hg ih _ _ _ _ _ _ h
          · rw [if_neg hc15] at h
            refine k_iload (pc := 68) C dX12_costOn_68 4 rfl ?_
            refine k_iload (pc := 70) C dX12_costOn_70 5 rfl ?_
            refine k_iadd (pc := 72) C dX12_costOn_72 ?_
            refine k_iloadn (pc := 73) C dX12_costOn_73 (i := 2) rfl 2 rfl ?_
            refine k_icmp_ge (pc := 74) C dX12_costOn_74 (tgt := 85) (by decide) (fun hc16 => ?_) (fun hc16 => ?_)
            · rw [if_pos hc16] at h
              refine k_loc (L2 := [(0, .ref (E.1 + a0)), (1, .int x1), (2, .int x2), (3, .int x3)]) [0, 1, 2, 3] rfl ?_
              exact b_X12_costOn_85 C hr hk hg ih _ _ _ _ _ h
            · rw [if_neg hc16] at h
              refine k_loc (L2 := [(0, .ref (E.1 + a0)), (1, .int x1), (3, .int x3), (4, .int (x1 * r10.2)), (5, .int r12.2)]) [0, 1, 3, 4, 5] rfl ?_
              exact b_X12_costOn_77 C hr hk hg ih _ _ _ _ _ _ h
def f_X12_costOn_b (g : Sh → Rw → Iw → Nat → Int32 → Option (Iw × Int32)) (S : Sh) (R : Rw)  (I : Iw) (a0 : Nat) (x1 : Int32) : Option (Iw × Int32) := gp (sok S a0 12 34) (bd (f_X12_inMany S R I a0) (fun r2 => (if r2 = 0 then some (I, (0 : Int32)) else f_X12_costOn_13 g S R  512 I a0 x1 (-1 : Int32) (0 : Int32))))
set_option maxHeartbeats 4000000 in
theorem b_X12_costOn_b {E : Ev} {p : Program} {l : Launch} {e : Env} {s : State} {m : MethodId} {args : Array Value} {below : List Frame} {meth : Method} {c : Code} {dF dL : Nat} (C : Cx E RX12 cX12_costOn 6 p s m c) (hr : meth.sig.returnType = (some .int)) (hk : meth.locks = false) {S : Sh} {R : Rw} {r : Iw × Int32} {g : Sh → Rw → Iw → Nat → Int32 → Option (Iw × Int32)} (hg : ∀ (S : Sh) (R : Rw) (I : Iw) (a0 : Nat) (x1 : Int32) (r : Iw × Int32), g S R I a0 x1 = some r → Mt E l yX12_costOn cX12_costOn 6 (some .int) dF dL [.ref (E.1 + a0), .int x1] S R I S R r.1 (some (.int r.2)) 0 0) : ∀ (I : Iw) (a0 : Nat) (x1 : Int32), f_X12_costOn_b g S R   I a0 x1 = some r → Wk E 6 p l e ({ frames := dF + 6, cells := 0, slots := 0, locals := dL + 138 } : Room) s m args below meth c 0 0 (MQ below (Qw E S R r.1 (some (.int r.2))) args s 0 0 (fun q => E.1 ≤ q)) 0 [(0, .ref (E.1 + a0)), (1, .int x1)] [] S R I := by
  intro I a0 x1 h
  rw [f_X12_costOn_b] at h
  refine k_aloadn (pc := 0) C dX12_costOn_0 (i := 0) rfl 0 rfl ?_
  obtain ⟨hs10, h⟩ := gp_e h
  have hs1 := sok_e hs10
  obtain ⟨r2, hr2, h⟩ := bd_e h
  refine k_V (pc := 1) (st := []) C (c_X12_inMany hr2) lkV_RX12_272 hs1 rfl rfl rfl (Nat.le_of_ble_eq_true rfl) (by show 0 + 1 ≤ dF + 6; omega) (by show 8 + (1 + 11) + 0 ≤ dL + 138; omega) (Nat.le_of_ble_eq_true rfl) (Nat.le_of_ble_eq_true rfl) dX12_costOn_1 ?_
  refine k_nf (cells2 := 0) (slots2 := 0) (st2 := [.int r2]) rfl rfl rfl ?_
  refine k_if_ne (pc := 4) C dX12_costOn_4 (tgt := 9) (by decide) (fun hc3 => ?_) (fun hc3 => ?_)
  · rw [if_neg hc3] at h
    refine k_iconst (pc := 9) C (v := (-1 : Int32)) dX12_costOn_9 (by decide) ?_
    refine k_istoren (pc := 10) C dX12_costOn_10 (i := 2) rfl (by decide) (L2 := [(0, .ref (E.1 + a0)), (1, .int x1), (2, .int (-1 : Int32))]) rfl ?_
    refine k_iconst (pc := 11) C (v := (0 : Int32)) dX12_costOn_11 (by decide) ?_
    refine k_istoren (pc := 12) C dX12_costOn_12 (i := 3) rfl (by decide) (L2 := [(0, .ref (E.1 + a0)), (1, .int x1), (2, .int (-1 : Int32)), (3, .int (0 : Int32))]) rfl ?_
    exact b_X12_costOn_13 C hr hk hg  _ _ _ _ _ _ h
  · rw [if_pos hc3] at h
    refine k_iconst (pc := 7) C (v := (0 : Int32)) dX12_costOn_7 (by decide) ?_
    have h := Option.some.inj h
    subst h
    exact k_iret (pc := 8) C hr hk dX12_costOn_8
def f_X12_costOn : Nat → Sh → Rw → Iw → Nat → Int32 → Option (Iw × Int32)
  | 0, _, _, _, _, _ => none
  | n + 1, S, R, I, a0, x1 => f_X12_costOn_b (f_X12_costOn n) S R I a0 x1
theorem c_X12_costOn_g {E : Ev} {l : Launch} : ∀ (n : Nat) (S : Sh) (R : Rw) (I : Iw) (a0 : Nat) (x1 : Int32) (r : Iw × Int32), f_X12_costOn n S R I a0 x1 = some r → Mt E l yX12_costOn cX12_costOn 6 (some .int) (6 * n) (138 * n) [.ref (E.1 + a0), .int x1] S R I S R r.1 (some (.int r.2)) 0 0 := by
  intro n
  induction n with
  | zero =>
    intro S R I a0 x1 r h
    rw [f_X12_costOn] at h
    cases h
  | succ n ih =>
    intro S R I a0 x1 r h
    rw [f_X12_costOn] at h
    exact mt_of (by decide) (Nat.le_of_ble_eq_true rfl) (fun p e s m args below meth c C hr hk hn => b_X12_costOn_b (dF := 6 * n) (dL := 138 * n) C hr hk ih _ _ _ h)
theorem c_X12_costOn {E : Ev} {l : Launch} (n : Nat) {S : Sh} {R : Rw} {I : Iw} {a0 : Nat} {x1 : Int32} {r : Iw × Int32} (h : f_X12_costOn n S R I a0 x1 = some r) : Mt E l yX12_costOn cX12_costOn 6 (some .int) (6 * n) (138 * n) [.ref (E.1 + a0), .int x1] S R I S R r.1 (some (.int r.2)) 0 0 := c_X12_costOn_g n S R I a0 x1 r h
theorem lkV_RX12_284 : LkV RX12 284 RX12 yX12_goneOn cX12_goneOn 3 (some .int) 0 := ⟨(t6_in 206 (by decide +kernel) rfl), (t6_in 208 (by decide +kernel) rfl), (t0_in 63 (by decide +kernel) rfl), (t6_in 209 (by decide +kernel) rfl), (t1_in 7 (by decide +kernel) rfl), by decide, by decide +kernel⟩
theorem dX12_goneOn_0 : decode cX12_goneOn 0 = .ok (.iconst 0, 1) := by decide +kernel
theorem dX12_goneOn_1 : decode cX12_goneOn 1 = .ok (.istore_n 1, 1) := by decide +kernel
theorem dX12_goneOn_2 : decode cX12_goneOn 2 = .ok (.iconst 0, 1) := by decide +kernel
theorem dX12_goneOn_3 : decode cX12_goneOn 3 = .ok (.istore_n 2, 1) := by decide +kernel
theorem dX12_goneOn_4 : decode cX12_goneOn 4 = .ok (.iload_n 2, 1) := by decide +kernel
theorem dX12_goneOn_5 : decode cX12_goneOn 5 = .ok (.aload_n 0, 1) := by decide +kernel
theorem dX12_goneOn_6 : decode cX12_goneOn 6 = .ok (.getfield 9, 3) := by decide +kernel
theorem dX12_goneOn_9 : decode cX12_goneOn 9 = .ok (.iconst 3, 1) := by decide +kernel
theorem dX12_goneOn_10 : decode cX12_goneOn 10 = .ok (.iaload, 1) := by decide +kernel
theorem dX12_goneOn_11 : decode cX12_goneOn 11 = .ok (.if_icmp .ge 38, 3) := by decide +kernel
theorem dX12_goneOn_14 : decode cX12_goneOn 14 = .ok (.aload_n 0, 1) := by decide +kernel
theorem dX12_goneOn_15 : decode cX12_goneOn 15 = .ok (.iload_n 2, 1) := by decide +kernel
theorem dX12_goneOn_16 : decode cX12_goneOn 16 = .ok (.invokevirtual 257, 3) := by decide +kernel
theorem dX12_goneOn_19 : decode cX12_goneOn 19 = .ok (.ifCond .eq 24, 3) := by decide +kernel
theorem dX12_goneOn_22 : decode cX12_goneOn 22 = .ok (.aload_n 0, 1) := by decide +kernel
theorem dX12_goneOn_23 : decode cX12_goneOn 23 = .ok (.iload_n 2, 1) := by decide +kernel
theorem dX12_goneOn_24 : decode cX12_goneOn 24 = .ok (.invokevirtual 263, 3) := by decide +kernel
theorem dX12_goneOn_27 : decode cX12_goneOn 27 = .ok (.iload_n 1, 1) := by decide +kernel
theorem dX12_goneOn_28 : decode cX12_goneOn 28 = .ok (.iconst 1, 1) := by decide +kernel
theorem dX12_goneOn_29 : decode cX12_goneOn 29 = .ok (.iload_n 2, 1) := by decide +kernel
theorem dX12_goneOn_30 : decode cX12_goneOn 30 = .ok (.ishl, 1) := by decide +kernel
theorem dX12_goneOn_31 : decode cX12_goneOn 31 = .ok (.aload_n 0, 1) := by decide +kernel
theorem dX12_goneOn_32 : decode cX12_goneOn 32 = .ok (.invokevirtual 284, 3) := by decide +kernel
theorem dX12_goneOn_35 : decode cX12_goneOn 35 = .ok (.ior, 1) := by decide +kernel
theorem dX12_goneOn_36 : decode cX12_goneOn 36 = .ok (.ior, 1) := by decide +kernel
theorem dX12_goneOn_37 : decode cX12_goneOn 37 = .ok (.istore_n 1, 1) := by decide +kernel
theorem dX12_goneOn_38 : decode cX12_goneOn 38 = .ok (.aload_n 0, 1) := by decide +kernel
theorem dX12_goneOn_39 : decode cX12_goneOn 39 = .ok (.invokevirtual 269, 3) := by decide +kernel
theorem dX12_goneOn_42 : decode cX12_goneOn 42 = .ok (.pop, 1) := by decide +kernel
theorem dX12_goneOn_43 : decode cX12_goneOn 43 = .ok (.iinc 2 1, 3) := by decide +kernel
theorem dX12_goneOn_46 : decode cX12_goneOn 46 = .ok (.goto (-42), 3) := by decide +kernel
theorem dX12_goneOn_49 : decode cX12_goneOn 49 = .ok (.iload_n 1, 1) := by decide +kernel
theorem dX12_goneOn_50 : decode cX12_goneOn 50 = .ok (.ireturn, 1) := by decide +kernel
def f_X12_goneOn_43 (g : Sh → Rw → Iw → Nat → Option (Iw × Int32)) (S : Sh) (R : Rw) (ko4 : Iw → Nat → Int32 → Int32 → Option (Iw × Int32)) (I : Iw) (a0 : Nat) (x1 : Int32) (x2 : Int32) : Option (Iw × Int32) := ko4 I a0 x1 (x2 + (1 : Int32))
set_option maxHeartbeats 4000000 in
theorem b_X12_goneOn_43 {E : Ev} {p : Program} {l : Launch} {e : Env} {s : State} {m : MethodId} {args : Array Value} {below : List Frame} {meth : Method} {c : Code} {dF dL : Nat} (C : Cx E RX12 cX12_goneOn 3 p s m c) (hr : meth.sig.returnType = (some .int)) (hk : meth.locks = false) {S : Sh} {R : Rw} {r : Iw × Int32} {g : Sh → Rw → Iw → Nat → Option (Iw × Int32)} (hg : ∀ (S : Sh) (R : Rw) (I : Iw) (a0 : Nat) (r : Iw × Int32), g S R I a0 = some r → Mt E l yX12_goneOn cX12_goneOn 3 (some .int) dF dL [.ref (E.1 + a0)] S R I S R r.1 (some (.int r.2)) 0 0) {ko4 : Iw → Nat → Int32 → Int32 → Option (Iw × Int32)} (hko4 : ∀ (I : Iw) (a0 : Nat) (x1 : Int32) (x2 : Int32), ko4 I a0 x1 x2 = some r → Wk E 3 p l e ({ frames := dF + 5, cells := 0, slots := 0, locals := dL + 111 } : Room) s m args below meth c 0 0 (MQ below (Qw E S R r.1 (some (.int r.2))) args s 0 0 (fun q => E.1 ≤ q)) 4 [(0, .ref (E.1 + a0)), (1, .int x1), (2, .int x2)] [] S R I) : ∀ (I : Iw) (a0 : Nat) (x1 : Int32) (x2 : Int32), f_X12_goneOn_43 g S R ko4  I a0 x1 x2 = some r → Wk E 3 p l e ({ frames := dF + 5, cells := 0, slots := 0, locals := dL + 111 } : Room) s m args below meth c 0 0 (MQ below (Qw E S R r.1 (some (.int r.2))) args s 0 0 (fun q => E.1 ≤ q)) 43 [(0, .ref (E.1 + a0)), (1, .int x1), (2, .int x2)] [] S R I := by
  intro I a0 x1 x2 h
  rw [f_X12_goneOn_43] at h
  refine k_iinc (pc := 43) C dX12_goneOn_43 2 rfl (v := x2 + (1 : Int32)) (by rfl) (by decide) (L2 := [(0, .ref (E.1 + a0)), (1, .int x1), (2, .int (x2 + (1 : Int32)))]) rfl ?_
  refine k_goto (pc := 46) C dX12_goneOn_46 (tgt := 4) (by decide) ?_
  exact hko4 _ _ _ _ h
def f_X12_goneOn_4 (g : Sh → Rw → Iw → Nat → Option (Iw × Int32)) (S : Sh) (R : Rw)  : Nat → Iw → Nat → Int32 → Int32 → Option (Iw × Int32)
  | 0, _, _, _, _ => none
  | n + 1, I, a0, x1, x2 => gp (sok S a0 12 34) (rl (R a0 0) (fun b2 => gp (aok S 20 b2 (3 : Int32)) ((if (I b2 (3 : Int32).toNatClampNeg) ≤ x2 then some (I, x1) else bd (f_X12_mayGo S R I a0 x2) (fun r5 => (if r5 = 0 then f_X12_goneOn_43 g S R (f_X12_goneOn_4 g S R  n) I a0 x1 x2 else bd (f_X12_out S R I a0 x2) (fun r7 => bd (g S R r7 a0) (fun r8 => bd (f_X12_home S R r8.1 a0) (fun r9 => f_X12_goneOn_43 g S R (f_X12_goneOn_4 g S R  n) r9.1 a0 (x1 ||| (((1 : Int32) <<< (x2 &&& 31)) ||| r8.2)) x2)))))))))
set_option maxHeartbeats 4000000 in
theorem b_X12_goneOn_4 {E : Ev} {p : Program} {l : Launch} {e : Env} {s : State} {m : MethodId} {args : Array Value} {below : List Frame} {meth : Method} {c : Code} {dF dL : Nat} (C : Cx E RX12 cX12_goneOn 3 p s m c) (hr : meth.sig.returnType = (some .int)) (hk : meth.locks = false) {S : Sh} {R : Rw} {r : Iw × Int32} {g : Sh → Rw → Iw → Nat → Option (Iw × Int32)} (hg : ∀ (S : Sh) (R : Rw) (I : Iw) (a0 : Nat) (r : Iw × Int32), g S R I a0 = some r → Mt E l yX12_goneOn cX12_goneOn 3 (some .int) dF dL [.ref (E.1 + a0)] S R I S R r.1 (some (.int r.2)) 0 0) : ∀ (n : Nat) (I : Iw) (a0 : Nat) (x1 : Int32) (x2 : Int32), f_X12_goneOn_4 g S R  n I a0 x1 x2 = some r → Wk E 3 p l e ({ frames := dF + 5, cells := 0, slots := 0, locals := dL + 111 } : Room) s m args below meth c 0 0 (MQ below (Qw E S R r.1 (some (.int r.2))) args s 0 0 (fun q => E.1 ≤ q)) 4 [(0, .ref (E.1 + a0)), (1, .int x1), (2, .int x2)] [] S R I := by
  intro n
  induction n with
  | zero =>
    intro I a0 x1 x2 h
    rw [f_X12_goneOn_4] at h
    cases h
  | succ n ih =>
    intro I a0 x1 x2 h
    rw [f_X12_goneOn_4] at h
    refine k_iloadn (pc := 4) C dX12_goneOn_4 (i := 2) rfl 2 rfl ?_
    refine k_aloadn (pc := 5) C dX12_goneOn_5 (i := 0) rfl 0 rfl ?_
    obtain ⟨hs10, h⟩ := gp_e h
    have hs1 := sok_e hs10
    obtain ⟨b2, hb2, h⟩ := rl_e h
    refine k_getR (pc := 6) C lkF_RX12_9_12 hs1 ir_12_0 hb2 dX12_goneOn_6 ?_
    refine k_iconst (pc := 9) C (v := (3 : Int32)) dX12_goneOn_9 (by decide) ?_
    obtain ⟨ha3, h⟩ := gp_e h
    refine k_iald (pc := 10) C ha3 dX12_goneOn_10 ?_
    refine k_icmp_ge (pc := 11) C dX12_goneOn_11 (tgt := 49) (by decide) (fun hc4 => ?_) (fun hc4 => ?_)
    · rw [if_pos hc4] at h
      refine k_iloadn (pc := 49) C dX12_goneOn_49 (i := 1) rfl 1 rfl ?_
      have h := Option.some.inj h
      subst h
      exact k_iret (pc := 50) C hr hk dX12_goneOn_50
    · rw [if_neg hc4] at h
      refine k_aloadn (pc := 14) C dX12_goneOn_14 (i := 0) rfl 0 rfl ?_
      refine k_iloadn (pc := 15) C dX12_goneOn_15 (i := 2) rfl 2 rfl ?_
      obtain ⟨r5, hr5, h⟩ := bd_e h
      refine k_V (pc := 16) (st := []) C (c_X12_mayGo hr5) lkV_RX12_257 hs1 rfl rfl rfl (Nat.le_of_ble_eq_true rfl) (by show 4 + 1 ≤ dF + 5; omega) (by show 8 + (2 + 11) + 90 ≤ dL + 111; omega) (Nat.le_of_ble_eq_true rfl) (Nat.le_of_ble_eq_true rfl) dX12_goneOn_16 ?_
      refine k_nf (cells2 := 0) (slots2 := 0) (st2 := [.int r5]) rfl rfl rfl ?_
      refine k_if_eq (pc := 19) C dX12_goneOn_19 (tgt := 43) (by decide) (fun hc6 => ?_) (fun hc6 => ?_)
      · rw [if_pos hc6] at h
        exact b_X12_goneOn_43 C hr hk hg ih _ _ _ _ h
      · rw [if_neg hc6] at h
        refine k_aloadn (pc := 22) C dX12_goneOn_22 (i := 0) rfl 0 rfl ?_
        refine k_iloadn (pc := 23) C dX12_goneOn_23 (i := 2) rfl 2 rfl ?_
        obtain ⟨r7, hr7, h⟩ := bd_e h
        refine k_V (pc := 24) (st := []) C (c_X12_out hr7) lkV_RX12_263 hs1 rfl rfl rfl (Nat.le_of_ble_eq_true rfl) (by show 1 + 1 ≤ dF + 5; omega) (by show 8 + (2 + 11) + 21 ≤ dL + 111; omega) (Nat.le_of_ble_eq_true rfl) (Nat.le_of_ble_eq_true rfl) dX12_goneOn_24 ?_
        refine k_nf (cells2 := 0) (slots2 := 0) (st2 := []) rfl rfl rfl ?_
        refine k_iloadn (pc := 27) C dX12_goneOn_27 (i := 1) rfl 1 rfl ?_
        refine k_iconst (pc := 28) C (v := (1 : Int32)) dX12_goneOn_28 (by decide) ?_
        refine k_iloadn (pc := 29) C dX12_goneOn_29 (i := 2) rfl 2 rfl ?_
        refine k_ishl (pc := 30) C dX12_goneOn_30 ?_
        refine k_aloadn (pc := 31) C dX12_goneOn_31 (i := 0) rfl 0 rfl ?_
        obtain ⟨r8, hr8, h⟩ := bd_e h
        refine k_V (pc := 32) (st := [.int ((1 : Int32) <<< (x2 &&& 31)), .int x1]) C (hg _ _ _ _ _ hr8) lkV_RX12_284 hs1 rfl rfl rfl (Nat.le_of_ble_eq_true rfl) (by show dF + 1 ≤ dF + 5; omega) (by show 8 + (3 + 11) + dL ≤ dL + 111; omega) (Nat.le_of_ble_eq_true rfl) (Nat.le_of_ble_eq_true rfl) dX12_goneOn_32 ?_
        refine k_nf (cells2 := 0) (slots2 := 0) (st2 := [.int r8.2, .int ((1 : Int32) <<< (x2 &&& 31)), .int x1]) rfl rfl rfl ?_
        refine k_ior (pc := 35) C dX12_goneOn_35 ?_
        refine k_ior (pc := 36) C dX12_goneOn_36 ?_
        refine k_istoren (pc := 37) C dX12_goneOn_37 (i := 1) rfl (by decide) (L2 := [(0, .ref (E.1 + a0)), (1, .int (x1 ||| (((1 : Int32) <<< (x2 &&& 31)) ||| r8.2))), (2, .int x2)]) rfl ?_
        refine k_aloadn (pc := 38) C dX12_goneOn_38 (i := 0) rfl 0 rfl ?_
        obtain ⟨r9, hr9, h⟩ := bd_e h
        refine k_V (pc := 39) (st := []) C (c_X12_home hr9) lkV_RX12_269 hs1 rfl rfl rfl (Nat.le_of_ble_eq_true rfl) (by show 1 + 1 ≤ dF + 5; omega) (by show 8 + (2 + 11) + 23 ≤ dL + 111; omega) (Nat.le_of_ble_eq_true rfl) (Nat.le_of_ble_eq_true rfl) dX12_goneOn_39 ?_
        refine k_nf (cells2 := 0) (slots2 := 0) (st2 := [.int r9.2]) rfl rfl rfl ?_
        refine k_pop (pc := 42) C dX12_goneOn_42 rfl ?_
        exact b_X12_goneOn_43 C hr hk hg ih _ _ _ _ h
def f_X12_goneOn_b (g : Sh → Rw → Iw → Nat → Option (Iw × Int32)) (S : Sh) (R : Rw)  (I : Iw) (a0 : Nat) : Option (Iw × Int32) := f_X12_goneOn_4 g S R  512 I a0 (0 : Int32) (0 : Int32)
set_option maxHeartbeats 4000000 in
theorem b_X12_goneOn_b {E : Ev} {p : Program} {l : Launch} {e : Env} {s : State} {m : MethodId} {args : Array Value} {below : List Frame} {meth : Method} {c : Code} {dF dL : Nat} (C : Cx E RX12 cX12_goneOn 3 p s m c) (hr : meth.sig.returnType = (some .int)) (hk : meth.locks = false) {S : Sh} {R : Rw} {r : Iw × Int32} {g : Sh → Rw → Iw → Nat → Option (Iw × Int32)} (hg : ∀ (S : Sh) (R : Rw) (I : Iw) (a0 : Nat) (r : Iw × Int32), g S R I a0 = some r → Mt E l yX12_goneOn cX12_goneOn 3 (some .int) dF dL [.ref (E.1 + a0)] S R I S R r.1 (some (.int r.2)) 0 0) : ∀ (I : Iw) (a0 : Nat), f_X12_goneOn_b g S R   I a0 = some r → Wk E 3 p l e ({ frames := dF + 5, cells := 0, slots := 0, locals := dL + 111 } : Room) s m args below meth c 0 0 (MQ below (Qw E S R r.1 (some (.int r.2))) args s 0 0 (fun q => E.1 ≤ q)) 0 [(0, .ref (E.1 + a0))] [] S R I := by
  intro I a0 h
  rw [f_X12_goneOn_b] at h
  refine k_iconst (pc := 0) C (v := (0 : Int32)) dX12_goneOn_0 (by decide) ?_
  refine k_istoren (pc := 1) C dX12_goneOn_1 (i := 1) rfl (by decide) (L2 := [(0, .ref (E.1 + a0)), (1, .int (0 : Int32))]) rfl ?_
  refine k_iconst (pc := 2) C (v := (0 : Int32)) dX12_goneOn_2 (by decide) ?_
  refine k_istoren (pc := 3) C dX12_goneOn_3 (i := 2) rfl (by decide) (L2 := [(0, .ref (E.1 + a0)), (1, .int (0 : Int32)), (2, .int (0 : Int32))]) rfl ?_
  exact b_X12_goneOn_4 C hr hk hg  _ _ _ _ _ h
def f_X12_goneOn : Nat → Sh → Rw → Iw → Nat → Option (Iw × Int32)
  | 0, _, _, _, _ => none
  | n + 1, S, R, I, a0 => f_X12_goneOn_b (f_X12_goneOn n) S R I a0
theorem c_X12_goneOn_g {E : Ev} {l : Launch} : ∀ (n : Nat) (S : Sh) (R : Rw) (I : Iw) (a0 : Nat) (r : Iw × Int32), f_X12_goneOn n S R I a0 = some r → Mt E l yX12_goneOn cX12_goneOn 3 (some .int) (5 * n) (111 * n) [.ref (E.1 + a0)] S R I S R r.1 (some (.int r.2)) 0 0 := by
  intro n
  induction n with
  | zero =>
    intro S R I a0 r h
    rw [f_X12_goneOn] at h
    cases h
  | succ n ih =>
    intro S R I a0 r h
    rw [f_X12_goneOn] at h
    exact mt_of (by decide) (Nat.le_of_ble_eq_true rfl) (fun p e s m args below meth c C hr hk hn => b_X12_goneOn_b (dF := 5 * n) (dL := 111 * n) C hr hk ih _ _ h)
theorem c_X12_goneOn {E : Ev} {l : Launch} (n : Nat) {S : Sh} {R : Rw} {I : Iw} {a0 : Nat} {r : Iw × Int32} (h : f_X12_goneOn n S R I a0 = some r) : Mt E l yX12_goneOn cX12_goneOn 3 (some .int) (5 * n) (111 * n) [.ref (E.1 + a0)] S R I S R r.1 (some (.int r.2)) 0 0 := c_X12_goneOn_g n S R I a0 r h
theorem lkV_RX12_287 : LkV RX12 287 RX12 yX12_winsOn cX12_winsOn 3 (some .boolean) 0 := ⟨(t6_in 226 (by decide +kernel) rfl), (t6_in 228 (by decide +kernel) rfl), (t0_in 64 (by decide +kernel) rfl), (t6_in 229 (by decide +kernel) rfl), (t1_in 7 (by decide +kernel) rfl), by decide, by decide +kernel⟩
theorem dX12_winsOn_0 : decode cX12_winsOn 0 = .ok (.iconst 0, 1) := by decide +kernel
theorem dX12_winsOn_1 : decode cX12_winsOn 1 = .ok (.istore_n 1, 1) := by decide +kernel
theorem dX12_winsOn_2 : decode cX12_winsOn 2 = .ok (.iconst 0, 1) := by decide +kernel
theorem dX12_winsOn_3 : decode cX12_winsOn 3 = .ok (.istore_n 2, 1) := by decide +kernel
theorem dX12_winsOn_4 : decode cX12_winsOn 4 = .ok (.iload_n 2, 1) := by decide +kernel
theorem dX12_winsOn_5 : decode cX12_winsOn 5 = .ok (.aload_n 0, 1) := by decide +kernel
theorem dX12_winsOn_6 : decode cX12_winsOn 6 = .ok (.getfield 9, 3) := by decide +kernel
theorem dX12_winsOn_9 : decode cX12_winsOn 9 = .ok (.iconst 3, 1) := by decide +kernel
theorem dX12_winsOn_10 : decode cX12_winsOn 10 = .ok (.iaload, 1) := by decide +kernel
theorem dX12_winsOn_11 : decode cX12_winsOn 11 = .ok (.if_icmp .ge 44, 3) := by decide +kernel
theorem dX12_winsOn_14 : decode cX12_winsOn 14 = .ok (.iload_n 1, 1) := by decide +kernel
theorem dX12_winsOn_15 : decode cX12_winsOn 15 = .ok (.ifCond .ne 40, 3) := by decide +kernel
theorem dX12_winsOn_18 : decode cX12_winsOn 18 = .ok (.aload_n 0, 1) := by decide +kernel
theorem dX12_winsOn_19 : decode cX12_winsOn 19 = .ok (.iload_n 2, 1) := by decide +kernel
theorem dX12_winsOn_20 : decode cX12_winsOn 20 = .ok (.invokevirtual 257, 3) := by decide +kernel
theorem dX12_winsOn_23 : decode cX12_winsOn 23 = .ok (.ifCond .eq 26, 3) := by decide +kernel
theorem dX12_winsOn_26 : decode cX12_winsOn 26 = .ok (.aload_n 0, 1) := by decide +kernel
theorem dX12_winsOn_27 : decode cX12_winsOn 27 = .ok (.iload_n 2, 1) := by decide +kernel
theorem dX12_winsOn_28 : decode cX12_winsOn 28 = .ok (.invokevirtual 263, 3) := by decide +kernel
theorem dX12_winsOn_31 : decode cX12_winsOn 31 = .ok (.aload_n 0, 1) := by decide +kernel
theorem dX12_winsOn_32 : decode cX12_winsOn 32 = .ok (.invokevirtual 287, 3) := by decide +kernel
theorem dX12_winsOn_35 : decode cX12_winsOn 35 = .ok (.ifCond .ne 7, 3) := by decide +kernel
theorem dX12_winsOn_38 : decode cX12_winsOn 38 = .ok (.iconst 1, 1) := by decide +kernel
theorem dX12_winsOn_39 : decode cX12_winsOn 39 = .ok (.goto 4, 3) := by decide +kernel
theorem dX12_winsOn_42 : decode cX12_winsOn 42 = .ok (.iconst 0, 1) := by decide +kernel
theorem dX12_winsOn_43 : decode cX12_winsOn 43 = .ok (.istore_n 1, 1) := by decide +kernel
theorem dX12_winsOn_44 : decode cX12_winsOn 44 = .ok (.aload_n 0, 1) := by decide +kernel
theorem dX12_winsOn_45 : decode cX12_winsOn 45 = .ok (.invokevirtual 269, 3) := by decide +kernel
theorem dX12_winsOn_48 : decode cX12_winsOn 48 = .ok (.pop, 1) := by decide +kernel
theorem dX12_winsOn_49 : decode cX12_winsOn 49 = .ok (.iinc 2 1, 3) := by decide +kernel
theorem dX12_winsOn_52 : decode cX12_winsOn 52 = .ok (.goto (-48), 3) := by decide +kernel
theorem dX12_winsOn_55 : decode cX12_winsOn 55 = .ok (.iload_n 1, 1) := by decide +kernel
theorem dX12_winsOn_56 : decode cX12_winsOn 56 = .ok (.ireturn, 1) := by decide +kernel
def f_X12_winsOn_49 (g : Sh → Rw → Iw → Nat → Option (Iw × Int32)) (S : Sh) (R : Rw) (ko4 : Iw → Nat → Int32 → Int32 → Option (Iw × Int32)) (I : Iw) (a0 : Nat) (x1 : Int32) (x2 : Int32) : Option (Iw × Int32) := ko4 I a0 x1 (x2 + (1 : Int32))
set_option maxHeartbeats 4000000 in
theorem b_X12_winsOn_49 {E : Ev} {p : Program} {l : Launch} {e : Env} {s : State} {m : MethodId} {args : Array Value} {below : List Frame} {meth : Method} {c : Code} {dF dL : Nat} (C : Cx E RX12 cX12_winsOn 3 p s m c) (hr : meth.sig.returnType = (some .boolean)) (hk : meth.locks = false) {S : Sh} {R : Rw} {r : Iw × Int32} {g : Sh → Rw → Iw → Nat → Option (Iw × Int32)} (hg : ∀ (S : Sh) (R : Rw) (I : Iw) (a0 : Nat) (r : Iw × Int32), g S R I a0 = some r → Mt E l yX12_winsOn cX12_winsOn 3 (some .boolean) dF dL [.ref (E.1 + a0)] S R I S R r.1 (some (.int r.2)) 0 0) {ko4 : Iw → Nat → Int32 → Int32 → Option (Iw × Int32)} (hko4 : ∀ (I : Iw) (a0 : Nat) (x1 : Int32) (x2 : Int32), ko4 I a0 x1 x2 = some r → Wk E 3 p l e ({ frames := dF + 5, cells := 0, slots := 0, locals := dL + 111 } : Room) s m args below meth c 0 0 (MQ below (Qw E S R r.1 (some (.int r.2))) args s 0 0 (fun q => E.1 ≤ q)) 4 [(0, .ref (E.1 + a0)), (1, .int x1), (2, .int x2)] [] S R I) : ∀ (I : Iw) (a0 : Nat) (x1 : Int32) (x2 : Int32), f_X12_winsOn_49 g S R ko4  I a0 x1 x2 = some r → Wk E 3 p l e ({ frames := dF + 5, cells := 0, slots := 0, locals := dL + 111 } : Room) s m args below meth c 0 0 (MQ below (Qw E S R r.1 (some (.int r.2))) args s 0 0 (fun q => E.1 ≤ q)) 49 [(0, .ref (E.1 + a0)), (1, .int x1), (2, .int x2)] [] S R I := by
  intro I a0 x1 x2 h
  rw [f_X12_winsOn_49] at h
  refine k_iinc (pc := 49) C dX12_winsOn_49 2 rfl (v := x2 + (1 : Int32)) (by rfl) (by decide) (L2 := [(0, .ref (E.1 + a0)), (1, .int x1), (2, .int (x2 + (1 : Int32)))]) rfl ?_
  refine k_goto (pc := 52) C dX12_winsOn_52 (tgt := 4) (by decide) ?_
  exact hko4 _ _ _ _ h
def f_X12_winsOn_43 (g : Sh → Rw → Iw → Nat → Option (Iw × Int32)) (S : Sh) (R : Rw) (ko4 : Iw → Nat → Int32 → Int32 → Option (Iw × Int32)) (I : Iw) (a0 : Nat) (x2 : Int32) (s0 : Int32) : Option (Iw × Int32) := gp (sok S a0 12 34) (bd (f_X12_home S R I a0) (fun r14 => f_X12_winsOn_49 g S R ko4 r14.1 a0 s0 x2))
set_option maxHeartbeats 4000000 in
theorem b_X12_winsOn_43 {E : Ev} {p : Program} {l : Launch} {e : Env} {s : State} {m : MethodId} {args : Array Value} {below : List Frame} {meth : Method} {c : Code} {dF dL : Nat} (C : Cx E RX12 cX12_winsOn 3 p s m c) (hr : meth.sig.returnType = (some .boolean)) (hk : meth.locks = false) {S : Sh} {R : Rw} {r : Iw × Int32} {g : Sh → Rw → Iw → Nat → Option (Iw × Int32)} (hg : ∀ (S : Sh) (R : Rw) (I : Iw) (a0 : Nat) (r : Iw × Int32), g S R I a0 = some r → Mt E l yX12_winsOn cX12_winsOn 3 (some .boolean) dF dL [.ref (E.1 + a0)] S R I S R r.1 (some (.int r.2)) 0 0) {ko4 : Iw → Nat → Int32 → Int32 → Option (Iw × Int32)} (hko4 : ∀ (I : Iw) (a0 : Nat) (x1 : Int32) (x2 : Int32), ko4 I a0 x1 x2 = some r → Wk E 3 p l e ({ frames := dF + 5, cells := 0, slots := 0, locals := dL + 111 } : Room) s m args below meth c 0 0 (MQ below (Qw E S R r.1 (some (.int r.2))) args s 0 0 (fun q => E.1 ≤ q)) 4 [(0, .ref (E.1 + a0)), (1, .int x1), (2, .int x2)] [] S R I) : ∀ (I : Iw) (a0 : Nat) (x2 : Int32) (s0 : Int32), f_X12_winsOn_43 g S R ko4  I a0 x2 s0 = some r → Wk E 3 p l e ({ frames := dF + 5, cells := 0, slots := 0, locals := dL + 111 } : Room) s m args below meth c 0 0 (MQ below (Qw E S R r.1 (some (.int r.2))) args s 0 0 (fun q => E.1 ≤ q)) 43 [(0, .ref (E.1 + a0)), (2, .int x2)] [.int s0] S R I := by
  intro I a0 x2 s0 h
  rw [f_X12_winsOn_43] at h
  refine k_istoren (pc := 43) C dX12_winsOn_43 (i := 1) rfl (by decide) (L2 := [(0, .ref (E.1 + a0)), (1, .int s0), (2, .int x2)]) rfl ?_
  refine k_aloadn (pc := 44) C dX12_winsOn_44 (i := 0) rfl 0 rfl ?_
  obtain ⟨hs130, h⟩ := gp_e h
  have hs13 := sok_e hs130
  obtain ⟨r14, hr14, h⟩ := bd_e h
  refine k_V (pc := 45) (st := []) C (c_X12_home hr14) lkV_RX12_269 hs13 rfl rfl rfl (Nat.le_of_ble_eq_true rfl) (by show 1 + 1 ≤ dF + 5; omega) (by show 8 + (2 + 11) + 23 ≤ dL + 111; omega) (Nat.le_of_ble_eq_true rfl) (Nat.le_of_ble_eq_true rfl) dX12_winsOn_45 ?_
  refine k_nf (cells2 := 0) (slots2 := 0) (st2 := [.int r14.2]) rfl rfl rfl ?_
  refine k_pop (pc := 48) C dX12_winsOn_48 rfl ?_
  exact b_X12_winsOn_49 C hr hk hg hko4 _ _ _ _ h
def f_X12_winsOn_4 (g : Sh → Rw → Iw → Nat → Option (Iw × Int32)) (S : Sh) (R : Rw)  : Nat → Iw → Nat → Int32 → Int32 → Option (Iw × Int32)
  | 0, _, _, _, _ => none
  | n + 1, I, a0, x1, x2 => gp (sok S a0 12 34) (rl (R a0 0) (fun b2 => gp (aok S 20 b2 (3 : Int32)) ((if (I b2 (3 : Int32).toNatClampNeg) ≤ x2 then gp (zok x1) (some (I, x1)) else (if x1 = 0 then bd (f_X12_mayGo S R I a0 x2) (fun r8 => (if r8 = 0 then f_X12_winsOn_49 g S R (f_X12_winsOn_4 g S R  n) I a0 x1 x2 else bd (f_X12_out S R I a0 x2) (fun r10 => bd (g S R r10 a0) (fun r11 => (if r11.2 = 0 then f_X12_winsOn_43 g S R (f_X12_winsOn_4 g S R  n) r11.1 a0 x2 (1 : Int32) else f_X12_winsOn_43 g S R (f_X12_winsOn_4 g S R  n) r11.1 a0 x2 (0 : Int32)))))) else gp (zok x1) (some (I, x1)))))))
set_option maxHeartbeats 4000000 in
theorem b_X12_winsOn_4 {E : Ev} {p : Program} {l : Launch} {e : Env} {s : State} {m : MethodId} {args : Array Value} {below : List Frame} {meth : Method} {c : Code} {dF dL : Nat} (C : Cx E RX12 cX12_winsOn 3 p s m c) (hr : meth.sig.returnType = (some .boolean)) (hk : meth.locks = false) {S : Sh} {R : Rw} {r : Iw × Int32} {g : Sh → Rw → Iw → Nat → Option (Iw × Int32)} (hg : ∀ (S : Sh) (R : Rw) (I : Iw) (a0 : Nat) (r : Iw × Int32), g S R I a0 = some r → Mt E l yX12_winsOn cX12_winsOn 3 (some .boolean) dF dL [.ref (E.1 + a0)] S R I S R r.1 (some (.int r.2)) 0 0) : ∀ (n : Nat) (I : Iw) (a0 : Nat) (x1 : Int32) (x2 : Int32), f_X12_winsOn_4 g S R  n I a0 x1 x2 = some r → Wk E 3 p l e ({ frames := dF + 5, cells := 0, slots := 0, locals := dL + 111 } : Room) s m args below meth c 0 0 (MQ below (Qw E S R r.1 (some (.int r.2))) args s 0 0 (fun q => E.1 ≤ q)) 4 [(0, .ref (E.1 + a0)), (1, .int x1), (2, .int x2)] [] S R I := by
  intro n
  induction n with
  | zero =>
    intro I a0 x1 x2 h
    rw [f_X12_winsOn_4] at h
    cases h
  | succ n ih =>
    intro I a0 x1 x2 h
    rw [f_X12_winsOn_4] at h
    refine k_iloadn (pc := 4) C dX12_winsOn_4 (i := 2) rfl 2 rfl ?_
    refine k_aloadn (pc := 5) C dX12_winsOn_5 (i := 0) rfl 0 rfl ?_
    obtain ⟨hs10, h⟩ := gp_e h
    have hs1 := sok_e hs10
    obtain ⟨b2, hb2, h⟩ := rl_e h
    refine k_getR (pc := 6) C lkF_RX12_9_12 hs1 ir_12_0 hb2 dX12_winsOn_6 ?_
    refine k_iconst (pc := 9) C (v := (3 : Int32)) dX12_winsOn_9 (by decide) ?_
    obtain ⟨ha3, h⟩ := gp_e h
    refine k_iald (pc := 10) C ha3 dX12_winsOn_10 ?_
    refine k_icmp_ge (pc := 11) C dX12_winsOn_11 (tgt := 55) (by decide) (fun hc4 => ?_) (fun hc4 => ?_)
    · rw [if_pos hc4] at h
      refine k_iloadn (pc := 55) C dX12_winsOn_55 (i := 1) rfl 1 rfl ?_
      obtain ⟨hz5, h⟩ := gp_e h
      have h := Option.some.inj h
      subst h
      exact k_zret (pc := 56) C hr hk (of_decide_eq_true hz5) dX12_winsOn_56
    · rw [if_neg hc4] at h
      refine k_iloadn (pc := 14) C dX12_winsOn_14 (i := 1) rfl 1 rfl ?_
      refine k_if_ne (pc := 15) C dX12_winsOn_15 (tgt := 55) (by decide) (fun hc6 => ?_) (fun hc6 => ?_)
      · rw [if_neg hc6] at h
        refine k_iloadn (pc := 55) C dX12_winsOn_55 (i := 1) rfl 1 rfl ?_
        obtain ⟨hz7, h⟩ := gp_e h
        have h := Option.some.inj h
        subst h
        exact k_zret (pc := 56) C hr hk (of_decide_eq_true hz7) dX12_winsOn_56
      · rw [if_pos hc6] at h
        refine k_aloadn (pc := 18) C dX12_winsOn_18 (i := 0) rfl 0 rfl ?_
        refine k_iloadn (pc := 19) C dX12_winsOn_19 (i := 2) rfl 2 rfl ?_
        obtain ⟨r8, hr8, h⟩ := bd_e h
        refine k_V (pc := 20) (st := []) C (c_X12_mayGo hr8) lkV_RX12_257 hs1 rfl rfl rfl (Nat.le_of_ble_eq_true rfl) (by show 4 + 1 ≤ dF + 5; omega) (by show 8 + (2 + 11) + 90 ≤ dL + 111; omega) (Nat.le_of_ble_eq_true rfl) (Nat.le_of_ble_eq_true rfl) dX12_winsOn_20 ?_
        refine k_nf (cells2 := 0) (slots2 := 0) (st2 := [.int r8]) rfl rfl rfl ?_
        refine k_if_eq (pc := 23) C dX12_winsOn_23 (tgt := 49) (by decide) (fun hc9 => ?_) (fun hc9 => ?_)
        · rw [if_pos hc9] at h
          exact b_X12_winsOn_49 C hr hk hg ih _ _ _ _ h
        · rw [if_neg hc9] at h
          refine k_aloadn (pc := 26) C dX12_winsOn_26 (i := 0) rfl 0 rfl ?_
          refine k_iloadn (pc := 27) C dX12_winsOn_27 (i := 2) rfl 2 rfl ?_
          obtain ⟨r10, hr10, h⟩ := bd_e h
          refine k_V (pc := 28) (st := []) C (c_X12_out hr10) lkV_RX12_263 hs1 rfl rfl rfl (Nat.le_of_ble_eq_true rfl) (by show 1 + 1 ≤ dF + 5; omega) (by show 8 + (2 + 11) + 21 ≤ dL + 111; omega) (Nat.le_of_ble_eq_true rfl) (Nat.le_of_ble_eq_true rfl) dX12_winsOn_28 ?_
          refine k_nf (cells2 := 0) (slots2 := 0) (st2 := []) rfl rfl rfl ?_
          refine k_aloadn (pc := 31) C dX12_winsOn_31 (i := 0) rfl 0 rfl ?_
          obtain ⟨r11, hr11, h⟩ := bd_e h
          refine k_V (pc := 32) (st := []) C (hg _ _ _ _ _ hr11) lkV_RX12_287 hs1 rfl rfl rfl (Nat.le_of_ble_eq_true rfl) (by show dF + 1 ≤ dF + 5; omega) (by show 8 + (3 + 11) + dL ≤ dL + 111; omega) (Nat.le_of_ble_eq_true rfl) (Nat.le_of_ble_eq_true rfl) dX12_winsOn_32 ?_
          refine k_nf (cells2 := 0) (slots2 := 0) (st2 := [.int r11.2]) rfl rfl rfl ?_
          refine k_if_ne (pc := 35) C dX12_winsOn_35 (tgt := 42) (by decide) (fun hc12 => ?_) (fun hc12 => ?_)
          · rw [if_neg hc12] at h
            refine k_iconst (pc := 42) C (v := (0 : Int32)) dX12_winsOn_42 (by decide) ?_
            refine k_loc (L2 := [(0, .ref (E.1 + a0)), (2, .int x2)]) [0, 2] rfl ?_
            exact b_X12_winsOn_43 C hr hk hg ih _ _ _ _ h
          · rw [if_pos hc12] at h
            refine k_iconst (pc := 38) C (v := (1 : Int32)) dX12_winsOn_38 (by decide) ?_
            refine k_goto (pc := 39) C dX12_winsOn_39 (tgt := 43) (by decide) ?_
            refine k_loc (L2 := [(0, .ref (E.1 + a0)), (2, .int x2)]) [0, 2] rfl ?_
            exact b_X12_winsOn_43 C hr hk hg ih _ _ _ _ h
def f_X12_winsOn_b (g : Sh → Rw → Iw → Nat → Option (Iw × Int32)) (S : Sh) (R : Rw)  (I : Iw) (a0 : Nat) : Option (Iw × Int32) := f_X12_winsOn_4 g S R  512 I a0 (0 : Int32) (0 : Int32)
set_option maxHeartbeats 4000000 in
theorem b_X12_winsOn_b {E : Ev} {p : Program} {l : Launch} {e : Env} {s : State} {m : MethodId} {args : Array Value} {below : List Frame} {meth : Method} {c : Code} {dF dL : Nat} (C : Cx E RX12 cX12_winsOn 3 p s m c) (hr : meth.sig.returnType = (some .boolean)) (hk : meth.locks = false) {S : Sh} {R : Rw} {r : Iw × Int32} {g : Sh → Rw → Iw → Nat → Option (Iw × Int32)} (hg : ∀ (S : Sh) (R : Rw) (I : Iw) (a0 : Nat) (r : Iw × Int32), g S R I a0 = some r → Mt E l yX12_winsOn cX12_winsOn 3 (some .boolean) dF dL [.ref (E.1 + a0)] S R I S R r.1 (some (.int r.2)) 0 0) : ∀ (I : Iw) (a0 : Nat), f_X12_winsOn_b g S R   I a0 = some r → Wk E 3 p l e ({ frames := dF + 5, cells := 0, slots := 0, locals := dL + 111 } : Room) s m args below meth c 0 0 (MQ below (Qw E S R r.1 (some (.int r.2))) args s 0 0 (fun q => E.1 ≤ q)) 0 [(0, .ref (E.1 + a0))] [] S R I := by
  intro I a0 h
  rw [f_X12_winsOn_b] at h
  refine k_iconst (pc := 0) C (v := (0 : Int32)) dX12_winsOn_0 (by decide) ?_
  refine k_istoren (pc := 1) C dX12_winsOn_1 (i := 1) rfl (by decide) (L2 := [(0, .ref (E.1 + a0)), (1, .int (0 : Int32))]) rfl ?_
  refine k_iconst (pc := 2) C (v := (0 : Int32)) dX12_winsOn_2 (by decide) ?_
  refine k_istoren (pc := 3) C dX12_winsOn_3 (i := 2) rfl (by decide) (L2 := [(0, .ref (E.1 + a0)), (1, .int (0 : Int32)), (2, .int (0 : Int32))]) rfl ?_
  exact b_X12_winsOn_4 C hr hk hg  _ _ _ _ _ h
def f_X12_winsOn : Nat → Sh → Rw → Iw → Nat → Option (Iw × Int32)
  | 0, _, _, _, _ => none
  | n + 1, S, R, I, a0 => f_X12_winsOn_b (f_X12_winsOn n) S R I a0
theorem c_X12_winsOn_g {E : Ev} {l : Launch} : ∀ (n : Nat) (S : Sh) (R : Rw) (I : Iw) (a0 : Nat) (r : Iw × Int32), f_X12_winsOn n S R I a0 = some r → Mt E l yX12_winsOn cX12_winsOn 3 (some .boolean) (5 * n) (111 * n) [.ref (E.1 + a0)] S R I S R r.1 (some (.int r.2)) 0 0 := by
  intro n
  induction n with
  | zero =>
    intro S R I a0 r h
    rw [f_X12_winsOn] at h
    cases h
  | succ n ih =>
    intro S R I a0 r h
    rw [f_X12_winsOn] at h
    exact mt_of (by decide) (Nat.le_of_ble_eq_true rfl) (fun p e s m args below meth c C hr hk hn => b_X12_winsOn_b (dF := 5 * n) (dL := 111 * n) C hr hk ih _ _ h)
theorem c_X12_winsOn {E : Ev} {l : Launch} (n : Nat) {S : Sh} {R : Rw} {I : Iw} {a0 : Nat} {r : Iw × Int32} (h : f_X12_winsOn n S R I a0 = some r) : Mt E l yX12_winsOn cX12_winsOn 3 (some .boolean) (5 * n) (111 * n) [.ref (E.1 + a0)] S R I S R r.1 (some (.int r.2)) 0 0 := c_X12_winsOn_g n S R I a0 r h
