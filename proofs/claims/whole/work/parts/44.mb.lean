/-! X12_game, X12_play, X12_report, X12_forget, X12_could, X12_fits, X12_fitting -/
theorem dX12_game_0 : decode cX12_game 0 = .ok (.aload_n 0, 1) := by decide +kernel
theorem dX12_game_1 : decode cX12_game 1 = .ok (.invokevirtual 287, 3) := by decide +kernel
theorem dX12_game_4 : decode cX12_game 4 = .ok (.ifCond .eq 7, 3) := by decide +kernel
theorem dX12_game_7 : decode cX12_game 7 = .ok (.iconst 1, 1) := by decide +kernel
theorem dX12_game_8 : decode cX12_game 8 = .ok (.goto 4, 3) := by decide +kernel
theorem dX12_game_11 : decode cX12_game 11 = .ok (.iconst 0, 1) := by decide +kernel
theorem dX12_game_12 : decode cX12_game 12 = .ok (.ireturn, 1) := by decide +kernel
def f_X12_game (S : Sh) (R : Rw)  (I : Iw) (a0 : Nat) : Option (Iw × Int32) := gp (sok S a0 12 34) (bd (f_X12_winsOn 12 S R I a0) (fun r2 => (if r2.2 = 0 then some (r2.1, (0 : Int32)) else some (r2.1, (1 : Int32)))))
set_option maxHeartbeats 4000000 in
theorem b_X12_game {E : Ev} {p : Program} {l : Launch} {e : Env} {s : State} {m : MethodId} {args : Array Value} {below : List Frame} {meth : Method} {c : Code} (C : Cx E RX12 cX12_game 1 p s m c) (hr : meth.sig.returnType = (some .int)) (hk : meth.locks = false) {S : Sh} {R : Rw} {r : Iw × Int32}  : ∀ (I : Iw) (a0 : Nat), f_X12_game S R   I a0 = some r → Wk E 1 p l e ({ frames := 61, cells := 0, slots := 0, locals := 1354 } : Room) s m args below meth c 0 0 (MQ below (Qw E S R r.1 (some (.int r.2))) args s 0 0 (fun q => E.1 ≤ q)) 0 [(0, .ref (E.1 + a0))] [] S R I := by
  intro I a0 h
  rw [f_X12_game] at h
  refine k_aloadn (pc := 0) C dX12_game_0 (i := 0) rfl 0 rfl ?_
  obtain ⟨hs10, h⟩ := gp_e h
  have hs1 := sok_e hs10
  obtain ⟨r2, hr2, h⟩ := bd_e h
  refine k_V (pc := 1) (st := []) C (c_X12_winsOn 12 hr2) lkV_RX12_287 hs1 rfl rfl rfl (Nat.le_of_ble_eq_true rfl) (Nat.le_of_ble_eq_true rfl) (Nat.le_of_ble_eq_true rfl) (Nat.le_of_ble_eq_true rfl) (Nat.le_of_ble_eq_true rfl) dX12_game_1 ?_
  refine k_nf (cells2 := 0) (slots2 := 0) (st2 := [.int r2.2]) rfl rfl rfl ?_
  refine k_if_eq (pc := 4) C dX12_game_4 (tgt := 11) (by decide) (fun hc3 => ?_) (fun hc3 => ?_)
  · rw [if_pos hc3] at h
    refine k_iconst (pc := 11) C (v := (0 : Int32)) dX12_game_11 (by decide) ?_
    have h := Option.some.inj h
    subst h
    exact k_iret (pc := 12) C hr hk dX12_game_12
  · rw [if_neg hc3] at h
    refine k_iconst (pc := 7) C (v := (1 : Int32)) dX12_game_7 (by decide) ?_
    refine k_goto (pc := 8) C dX12_game_8 (tgt := 12) (by decide) ?_
    have h := Option.some.inj h
    subst h
    exact k_iret (pc := 12) C hr hk dX12_game_12
theorem c_X12_game {E : Ev} {l : Launch} {S : Sh} {R : Rw} {I : Iw} {a0 : Nat} {r : Iw × Int32} (h : f_X12_game S R I a0 = some r) : Mt E l yX12_game cX12_game 1 (some .int) 61 1354 [.ref (E.1 + a0)] S R I S R r.1 (some (.int r.2)) 0 0 := mt_of (by decide) (Nat.le_of_ble_eq_true rfl) (fun p e s m args below meth c C hr hk hn => b_X12_game C hr hk _ _ h)
theorem dX12_play_0 : decode cX12_play 0 = .ok (.bipush (-3), 2) := by decide +kernel
theorem dX12_play_2 : decode cX12_play 2 = .ok (.istore_n 1, 1) := by decide +kernel
theorem dX12_play_3 : decode cX12_play 3 = .ok (.iconst 0, 1) := by decide +kernel
theorem dX12_play_4 : decode cX12_play 4 = .ok (.istore_n 2, 1) := by decide +kernel
theorem dX12_play_5 : decode cX12_play 5 = .ok (.iload_n 2, 1) := by decide +kernel
theorem dX12_play_6 : decode cX12_play 6 = .ok (.aload_n 0, 1) := by decide +kernel
theorem dX12_play_7 : decode cX12_play 7 = .ok (.getfield 9, 3) := by decide +kernel
theorem dX12_play_10 : decode cX12_play 10 = .ok (.iconst 3, 1) := by decide +kernel
theorem dX12_play_11 : decode cX12_play 11 = .ok (.iaload, 1) := by decide +kernel
theorem dX12_play_12 : decode cX12_play 12 = .ok (.if_icmp .ge 47, 3) := by decide +kernel
theorem dX12_play_15 : decode cX12_play 15 = .ok (.iload_n 1, 1) := by decide +kernel
theorem dX12_play_16 : decode cX12_play 16 = .ok (.bipush (-3), 2) := by decide +kernel
theorem dX12_play_18 : decode cX12_play 18 = .ok (.if_icmp .ne 41, 3) := by decide +kernel
theorem dX12_play_21 : decode cX12_play 21 = .ok (.aload_n 0, 1) := by decide +kernel
theorem dX12_play_22 : decode cX12_play 22 = .ok (.iload_n 2, 1) := by decide +kernel
theorem dX12_play_23 : decode cX12_play 23 = .ok (.invokevirtual 257, 3) := by decide +kernel
theorem dX12_play_26 : decode cX12_play 26 = .ok (.ifCond .eq 27, 3) := by decide +kernel
theorem dX12_play_29 : decode cX12_play 29 = .ok (.aload_n 0, 1) := by decide +kernel
theorem dX12_play_30 : decode cX12_play 30 = .ok (.iload_n 2, 1) := by decide +kernel
theorem dX12_play_31 : decode cX12_play 31 = .ok (.invokevirtual 263, 3) := by decide +kernel
theorem dX12_play_34 : decode cX12_play 34 = .ok (.aload_n 0, 1) := by decide +kernel
theorem dX12_play_35 : decode cX12_play 35 = .ok (.invokevirtual 287, 3) := by decide +kernel
theorem dX12_play_38 : decode cX12_play 38 = .ok (.ifCond .eq 8, 3) := by decide +kernel
theorem dX12_play_41 : decode cX12_play 41 = .ok (.bipush (-3), 2) := by decide +kernel
theorem dX12_play_43 : decode cX12_play 43 = .ok (.goto 4, 3) := by decide +kernel
theorem dX12_play_46 : decode cX12_play 46 = .ok (.iload_n 2, 1) := by decide +kernel
theorem dX12_play_47 : decode cX12_play 47 = .ok (.istore_n 1, 1) := by decide +kernel
theorem dX12_play_48 : decode cX12_play 48 = .ok (.aload_n 0, 1) := by decide +kernel
theorem dX12_play_49 : decode cX12_play 49 = .ok (.invokevirtual 269, 3) := by decide +kernel
theorem dX12_play_52 : decode cX12_play 52 = .ok (.pop, 1) := by decide +kernel
theorem dX12_play_53 : decode cX12_play 53 = .ok (.iinc 2 1, 3) := by decide +kernel
theorem dX12_play_56 : decode cX12_play 56 = .ok (.goto (-51), 3) := by decide +kernel
theorem dX12_play_59 : decode cX12_play 59 = .ok (.iload_n 1, 1) := by decide +kernel
theorem dX12_play_60 : decode cX12_play 60 = .ok (.ireturn, 1) := by decide +kernel
def f_X12_play_53 (S : Sh) (R : Rw) (ko5 : Iw → Nat → Int32 → Int32 → Option (Iw × Int32)) (I : Iw) (a0 : Nat) (x1 : Int32) (x2 : Int32) : Option (Iw × Int32) := ko5 I a0 x1 (x2 + (1 : Int32))
set_option maxHeartbeats 4000000 in
theorem b_X12_play_53 {E : Ev} {p : Program} {l : Launch} {e : Env} {s : State} {m : MethodId} {args : Array Value} {below : List Frame} {meth : Method} {c : Code} (C : Cx E RX12 cX12_play 3 p s m c) (hr : meth.sig.returnType = (some .int)) (hk : meth.locks = false) {S : Sh} {R : Rw} {r : Iw × Int32}  {ko5 : Iw → Nat → Int32 → Int32 → Option (Iw × Int32)} (hko5 : ∀ (I : Iw) (a0 : Nat) (x1 : Int32) (x2 : Int32), ko5 I a0 x1 x2 = some r → Wk E 3 p l e ({ frames := 61, cells := 0, slots := 0, locals := 1354 } : Room) s m args below meth c 0 0 (MQ below (Qw E S R r.1 (some (.int r.2))) args s 0 0 (fun q => E.1 ≤ q)) 5 [(0, .ref (E.1 + a0)), (1, .int x1), (2, .int x2)] [] S R I) : ∀ (I : Iw) (a0 : Nat) (x1 : Int32) (x2 : Int32), f_X12_play_53 S R ko5  I a0 x1 x2 = some r → Wk E 3 p l e ({ frames := 61, cells := 0, slots := 0, locals := 1354 } : Room) s m args below meth c 0 0 (MQ below (Qw E S R r.1 (some (.int r.2))) args s 0 0 (fun q => E.1 ≤ q)) 53 [(0, .ref (E.1 + a0)), (1, .int x1), (2, .int x2)] [] S R I := by
  intro I a0 x1 x2 h
  rw [f_X12_play_53] at h
  refine k_iinc (pc := 53) C dX12_play_53 2 rfl (v := x2 + (1 : Int32)) (by rfl) (by decide) (L2 := [(0, .ref (E.1 + a0)), (1, .int x1), (2, .int (x2 + (1 : Int32)))]) rfl ?_
  refine k_goto (pc := 56) C dX12_play_56 (tgt := 5) (by decide) ?_
  exact hko5 _ _ _ _ h
def f_X12_play_47 (S : Sh) (R : Rw) (ko5 : Iw → Nat → Int32 → Int32 → Option (Iw × Int32)) (I : Iw) (a0 : Nat) (x2 : Int32) (s0 : Int32) : Option (Iw × Int32) := gp (sok S a0 12 34) (bd (f_X12_home S R I a0) (fun r12 => f_X12_play_53 S R ko5 r12.1 a0 s0 x2))
set_option maxHeartbeats 4000000 in
theorem b_X12_play_47 {E : Ev} {p : Program} {l : Launch} {e : Env} {s : State} {m : MethodId} {args : Array Value} {below : List Frame} {meth : Method} {c : Code} (C : Cx E RX12 cX12_play 3 p s m c) (hr : meth.sig.returnType = (some .int)) (hk : meth.locks = false) {S : Sh} {R : Rw} {r : Iw × Int32}  {ko5 : Iw → Nat → Int32 → Int32 → Option (Iw × Int32)} (hko5 : ∀ (I : Iw) (a0 : Nat) (x1 : Int32) (x2 : Int32), ko5 I a0 x1 x2 = some r → Wk E 3 p l e ({ frames := 61, cells := 0, slots := 0, locals := 1354 } : Room) s m args below meth c 0 0 (MQ below (Qw E S R r.1 (some (.int r.2))) args s 0 0 (fun q => E.1 ≤ q)) 5 [(0, .ref (E.1 + a0)), (1, .int x1), (2, .int x2)] [] S R I) : ∀ (I : Iw) (a0 : Nat) (x2 : Int32) (s0 : Int32), f_X12_play_47 S R ko5  I a0 x2 s0 = some r → Wk E 3 p l e ({ frames := 61, cells := 0, slots := 0, locals := 1354 } : Room) s m args below meth c 0 0 (MQ below (Qw E S R r.1 (some (.int r.2))) args s 0 0 (fun q => E.1 ≤ q)) 47 [(0, .ref (E.1 + a0)), (2, .int x2)] [.int s0] S R I := by
  intro I a0 x2 s0 h
  rw [f_X12_play_47] at h
  refine k_istoren (pc := 47) C dX12_play_47 (i := 1) rfl (by decide) (L2 := [(0, .ref (E.1 + a0)), (1, .int s0), (2, .int x2)]) rfl ?_
  refine k_aloadn (pc := 48) C dX12_play_48 (i := 0) rfl 0 rfl ?_
  obtain ⟨hs110, h⟩ := gp_e h
  have hs11 := sok_e hs110
  obtain ⟨r12, hr12, h⟩ := bd_e h
  refine k_V (pc := 49) (st := []) C (c_X12_home hr12) lkV_RX12_269 hs11 rfl rfl rfl (Nat.le_of_ble_eq_true rfl) (Nat.le_of_ble_eq_true rfl) (Nat.le_of_ble_eq_true rfl) (Nat.le_of_ble_eq_true rfl) (Nat.le_of_ble_eq_true rfl) dX12_play_49 ?_
  refine k_nf (cells2 := 0) (slots2 := 0) (st2 := [.int r12.2]) rfl rfl rfl ?_
  refine k_pop (pc := 52) C dX12_play_52 rfl ?_
  exact b_X12_play_53 C hr hk hko5 _ _ _ _ h
def f_X12_play_5 (S : Sh) (R : Rw)  : Nat → Iw → Nat → Int32 → Int32 → Option (Iw × Int32)
  | 0, _, _, _, _ => none
  | n + 1, I, a0, x1, x2 => gp (sok S a0 12 34) (rl (R a0 0) (fun b2 => gp (aok S 20 b2 (3 : Int32)) ((if (I b2 (3 : Int32).toNatClampNeg) ≤ x2 then some (I, x1) else (if x1 = (-3 : Int32) then bd (f_X12_mayGo S R I a0 x2) (fun r6 => (if r6 = 0 then f_X12_play_53 S R (f_X12_play_5 S R  n) I a0 x1 x2 else bd (f_X12_out S R I a0 x2) (fun r8 => bd (f_X12_winsOn 12 S R r8 a0) (fun r9 => (if r9.2 = 0 then f_X12_play_47 S R (f_X12_play_5 S R  n) r9.1 a0 x2 x2 else f_X12_play_47 S R (f_X12_play_5 S R  n) r9.1 a0 x2 (-3 : Int32)))))) else some (I, x1))))))
set_option maxHeartbeats 4000000 in
theorem b_X12_play_5 {E : Ev} {p : Program} {l : Launch} {e : Env} {s : State} {m : MethodId} {args : Array Value} {below : List Frame} {meth : Method} {c : Code} (C : Cx E RX12 cX12_play 3 p s m c) (hr : meth.sig.returnType = (some .int)) (hk : meth.locks = false) {S : Sh} {R : Rw} {r : Iw × Int32}  : ∀ (n : Nat) (I : Iw) (a0 : Nat) (x1 : Int32) (x2 : Int32), f_X12_play_5 S R  n I a0 x1 x2 = some r → Wk E 3 p l e ({ frames := 61, cells := 0, slots := 0, locals := 1354 } : Room) s m args below meth c 0 0 (MQ below (Qw E S R r.1 (some (.int r.2))) args s 0 0 (fun q => E.1 ≤ q)) 5 [(0, .ref (E.1 + a0)), (1, .int x1), (2, .int x2)] [] S R I := by
  intro n
  induction n with
  | zero =>
    intro I a0 x1 x2 h
    rw [f_X12_play_5] at h
    cases h
  | succ n ih =>
    intro I a0 x1 x2 h
    rw [f_X12_play_5] at h
    refine k_iloadn (pc := 5) C dX12_play_5 (i := 2) rfl 2 rfl ?_
    refine k_aloadn (pc := 6) C dX12_play_6 (i := 0) rfl 0 rfl ?_
    obtain ⟨hs10, h⟩ := gp_e h
    have hs1 := sok_e hs10
    obtain ⟨b2, hb2, h⟩ := rl_e h
    refine k_getR (pc := 7) C lkF_RX12_9_12 hs1 ir_12_0 hb2 dX12_play_7 ?_
    refine k_iconst (pc := 10) C (v := (3 : Int32)) dX12_play_10 (by decide) ?_
    obtain ⟨ha3, h⟩ := gp_e h
    refine k_iald (pc := 11) C ha3 dX12_play_11 ?_
    refine k_icmp_ge (pc := 12) C dX12_play_12 (tgt := 59) (by decide) (fun hc4 => ?_) (fun hc4 => ?_)
    · rw [if_pos hc4] at h
      refine k_iloadn (pc := 59) C dX12_play_59 (i := 1) rfl 1 rfl ?_
      have h := Option.some.inj h
      subst h
      exact k_iret (pc := 60) C hr hk dX12_play_60
    · rw [if_neg hc4] at h
      refine k_iloadn (pc := 15) C dX12_play_15 (i := 1) rfl 1 rfl ?_
      refine k_bipush (pc := 16) C (v := (-3 : Int32)) dX12_play_16 (by decide) ?_
      refine k_icmp_ne (pc := 18) C dX12_play_18 (tgt := 59) (by decide) (fun hc5 => ?_) (fun hc5 => ?_)
      · rw [if_neg hc5] at h
        refine k_iloadn (pc := 59) C dX12_play_59 (i := 1) rfl 1 rfl ?_
        have h := Option.some.inj h
        subst h
        exact k_iret (pc := 60) C hr hk dX12_play_60
      · rw [if_pos hc5] at h
        refine k_aloadn (pc := 21) C dX12_play_21 (i := 0) rfl 0 rfl ?_
        refine k_iloadn (pc := 22) C dX12_play_22 (i := 2) rfl 2 rfl ?_
        obtain ⟨r6, hr6, h⟩ := bd_e h
        refine k_V (pc := 23) (st := []) C (c_X12_mayGo hr6) lkV_RX12_257 hs1 rfl rfl rfl (Nat.le_of_ble_eq_true rfl) (Nat.le_of_ble_eq_true rfl) (Nat.le_of_ble_eq_true rfl) (Nat.le_of_ble_eq_true rfl) (Nat.le_of_ble_eq_true rfl) dX12_play_23 ?_
        refine k_nf (cells2 := 0) (slots2 := 0) (st2 := [.int r6]) rfl rfl rfl ?_
        refine k_if_eq (pc := 26) C dX12_play_26 (tgt := 53) (by decide) (fun hc7 => ?_) (fun hc7 => ?_)
        · rw [if_pos hc7] at h
          exact b_X12_play_53 C hr hk ih _ _ _ _ h
        · rw [if_neg hc7] at h
          refine k_aloadn (pc := 29) C dX12_play_29 (i := 0) rfl 0 rfl ?_
          refine k_iloadn (pc := 30) C dX12_play_30 (i := 2) rfl 2 rfl ?_
          obtain ⟨r8, hr8, h⟩ := bd_e h
          refine k_V (pc := 31) (st := []) C (c_X12_out hr8) lkV_RX12_263 hs1 rfl rfl rfl (Nat.le_of_ble_eq_true rfl) (Nat.le_of_ble_eq_true rfl) (Nat.le_of_ble_eq_true rfl) (Nat.le_of_ble_eq_true rfl) (Nat.le_of_ble_eq_true rfl) dX12_play_31 ?_
          refine k_nf (cells2 := 0) (slots2 := 0) (st2 := []) rfl rfl rfl ?_
          refine k_aloadn (pc := 34) C dX12_play_34 (i := 0) rfl 0 rfl ?_
          obtain ⟨r9, hr9, h⟩ := bd_e h
          refine k_V (pc := 35) (st := []) C (c_X12_winsOn 12 hr9) lkV_RX12_287 hs1 rfl rfl rfl (Nat.le_of_ble_eq_true rfl) (Nat.le_of_ble_eq_true rfl) (Nat.le_of_ble_eq_true rfl) (Nat.le_of_ble_eq_true rfl) (Nat.le_of_ble_eq_true rfl) dX12_play_35 ?_
          refine k_nf (cells2 := 0) (slots2 := 0) (st2 := [.int r9.2]) rfl rfl rfl ?_
          refine k_if_eq (pc := 38) C dX12_play_38 (tgt := 46) (by decide) (fun hc10 => ?_) (fun hc10 => ?_)
          · rw [if_pos hc10] at h
            refine k_iloadn (pc := 46) C dX12_play_46 (i := 2) rfl 2 rfl ?_
            refine k_loc (L2 := [(0, .ref (E.1 + a0)), (2, .int x2)]) [0, 2] rfl ?_
            exact b_X12_play_47 C hr hk ih _ _ _ _ h
          · rw [if_neg hc10] at h
            refine k_bipush (pc := 41) C (v := (-3 : Int32)) dX12_play_41 (by decide) ?_
            refine k_goto (pc := 43) C dX12_play_43 (tgt := 47) (by decide) ?_
            refine k_loc (L2 := [(0, .ref (E.1 + a0)), (2, .int x2)]) [0, 2] rfl ?_
            exact b_X12_play_47 C hr hk ih _ _ _ _ h
def f_X12_play (S : Sh) (R : Rw)  (I : Iw) (a0 : Nat) : Option (Iw × Int32) := f_X12_play_5 S R  512 I a0 (-3 : Int32) (0 : Int32)
set_option maxHeartbeats 4000000 in
theorem b_X12_play {E : Ev} {p : Program} {l : Launch} {e : Env} {s : State} {m : MethodId} {args : Array Value} {below : List Frame} {meth : Method} {c : Code} (C : Cx E RX12 cX12_play 3 p s m c) (hr : meth.sig.returnType = (some .int)) (hk : meth.locks = false) {S : Sh} {R : Rw} {r : Iw × Int32}  : ∀ (I : Iw) (a0 : Nat), f_X12_play S R   I a0 = some r → Wk E 3 p l e ({ frames := 61, cells := 0, slots := 0, locals := 1354 } : Room) s m args below meth c 0 0 (MQ below (Qw E S R r.1 (some (.int r.2))) args s 0 0 (fun q => E.1 ≤ q)) 0 [(0, .ref (E.1 + a0))] [] S R I := by
  intro I a0 h
  rw [f_X12_play] at h
  refine k_bipush (pc := 0) C (v := (-3 : Int32)) dX12_play_0 (by decide) ?_
  refine k_istoren (pc := 2) C dX12_play_2 (i := 1) rfl (by decide) (L2 := [(0, .ref (E.1 + a0)), (1, .int (-3 : Int32))]) rfl ?_
  refine k_iconst (pc := 3) C (v := (0 : Int32)) dX12_play_3 (by decide) ?_
  refine k_istoren (pc := 4) C dX12_play_4 (i := 2) rfl (by decide) (L2 := [(0, .ref (E.1 + a0)), (1, .int (-3 : Int32)), (2, .int (0 : Int32))]) rfl ?_
  exact b_X12_play_5 C hr hk  _ _ _ _ _ h
theorem c_X12_play {E : Ev} {l : Launch} {S : Sh} {R : Rw} {I : Iw} {a0 : Nat} {r : Iw × Int32} (h : f_X12_play S R I a0 = some r) : Mt E l yX12_play cX12_play 3 (some .int) 61 1354 [.ref (E.1 + a0)] S R I S R r.1 (some (.int r.2)) 0 0 := mt_of (by decide) (Nat.le_of_ble_eq_true rfl) (fun p e s m args below meth c C hr hk hn => b_X12_play C hr hk _ _ h)
theorem dX12_report_0 : decode cX12_report 0 = .ok (.aload_n 0, 1) := by decide +kernel
theorem dX12_report_1 : decode cX12_report 1 = .ok (.iload_n 1, 1) := by decide +kernel
theorem dX12_report_2 : decode cX12_report 2 = .ok (.iconst 3, 1) := by decide +kernel
theorem dX12_report_3 : decode cX12_report 3 = .ok (.invokevirtual 251, 3) := by decide +kernel
theorem dX12_report_6 : decode cX12_report 6 = .ok (.ifCond .eq 12, 3) := by decide +kernel
theorem dX12_report_9 : decode cX12_report 9 = .ok (.iload_n 2, 1) := by decide +kernel
theorem dX12_report_10 : decode cX12_report 10 = .ok (.iconst 0, 1) := by decide +kernel
theorem dX12_report_11 : decode cX12_report 11 = .ok (.iconst 1, 1) := by decide +kernel
theorem dX12_report_12 : decode cX12_report 12 = .ok (.invokestatic 98, 3) := by decide +kernel
theorem dX12_report_15 : decode cX12_report 15 = .ok (.ifCond .ne 5, 3) := by decide +kernel
theorem dX12_report_18 : decode cX12_report 18 = .ok (.iconst (-1), 1) := by decide +kernel
theorem dX12_report_19 : decode cX12_report 19 = .ok (.ireturn, 1) := by decide +kernel
theorem dX12_report_20 : decode cX12_report 20 = .ok (.aload_n 0, 1) := by decide +kernel
theorem dX12_report_21 : decode cX12_report 21 = .ok (.getfield 9, 3) := by decide +kernel
theorem dX12_report_24 : decode cX12_report 24 = .ok (.bipush 6, 2) := by decide +kernel
theorem dX12_report_26 : decode cX12_report 26 = .ok (.iaload, 1) := by decide +kernel
theorem dX12_report_27 : decode cX12_report 27 = .ok (.istore_n 3, 1) := by decide +kernel
theorem dX12_report_28 : decode cX12_report 28 = .ok (.iload_n 3, 1) := by decide +kernel
theorem dX12_report_29 : decode cX12_report 29 = .ok (.bipush 6, 2) := by decide +kernel
theorem dX12_report_31 : decode cX12_report 31 = .ok (.if_icmp .ne 6, 3) := by decide +kernel
theorem dX12_report_34 : decode cX12_report 34 = .ok (.bipush (-2), 2) := by decide +kernel
theorem dX12_report_36 : decode cX12_report 36 = .ok (.ireturn, 1) := by decide +kernel
theorem dX12_report_37 : decode cX12_report 37 = .ok (.aload_n 0, 1) := by decide +kernel
theorem dX12_report_38 : decode cX12_report 38 = .ok (.getfield 9, 3) := by decide +kernel
theorem dX12_report_41 : decode cX12_report 41 = .ok (.bipush 61, 2) := by decide +kernel
theorem dX12_report_43 : decode cX12_report 43 = .ok (.iconst 2, 1) := by decide +kernel
theorem dX12_report_44 : decode cX12_report 44 = .ok (.iload_n 3, 1) := by decide +kernel
theorem dX12_report_45 : decode cX12_report 45 = .ok (.imul, 1) := by decide +kernel
theorem dX12_report_46 : decode cX12_report 46 = .ok (.iadd, 1) := by decide +kernel
theorem dX12_report_47 : decode cX12_report 47 = .ok (.iload_n 1, 1) := by decide +kernel
theorem dX12_report_48 : decode cX12_report 48 = .ok (.iastore, 1) := by decide +kernel
theorem dX12_report_49 : decode cX12_report 49 = .ok (.aload_n 0, 1) := by decide +kernel
theorem dX12_report_50 : decode cX12_report 50 = .ok (.getfield 9, 3) := by decide +kernel
theorem dX12_report_53 : decode cX12_report 53 = .ok (.bipush 61, 2) := by decide +kernel
theorem dX12_report_55 : decode cX12_report 55 = .ok (.iconst 2, 1) := by decide +kernel
theorem dX12_report_56 : decode cX12_report 56 = .ok (.iload_n 3, 1) := by decide +kernel
theorem dX12_report_57 : decode cX12_report 57 = .ok (.imul, 1) := by decide +kernel
theorem dX12_report_58 : decode cX12_report 58 = .ok (.iadd, 1) := by decide +kernel
theorem dX12_report_59 : decode cX12_report 59 = .ok (.iconst 1, 1) := by decide +kernel
theorem dX12_report_60 : decode cX12_report 60 = .ok (.iadd, 1) := by decide +kernel
theorem dX12_report_61 : decode cX12_report 61 = .ok (.iload_n 2, 1) := by decide +kernel
theorem dX12_report_62 : decode cX12_report 62 = .ok (.iastore, 1) := by decide +kernel
theorem dX12_report_63 : decode cX12_report 63 = .ok (.aload_n 0, 1) := by decide +kernel
theorem dX12_report_64 : decode cX12_report 64 = .ok (.getfield 9, 3) := by decide +kernel
theorem dX12_report_67 : decode cX12_report 67 = .ok (.bipush 6, 2) := by decide +kernel
theorem dX12_report_69 : decode cX12_report 69 = .ok (.dup2, 1) := by decide +kernel
theorem dX12_report_70 : decode cX12_report 70 = .ok (.iaload, 1) := by decide +kernel
theorem dX12_report_71 : decode cX12_report 71 = .ok (.iconst 1, 1) := by decide +kernel
theorem dX12_report_72 : decode cX12_report 72 = .ok (.iadd, 1) := by decide +kernel
theorem dX12_report_73 : decode cX12_report 73 = .ok (.iastore, 1) := by decide +kernel
theorem dX12_report_74 : decode cX12_report 74 = .ok (.iload_n 3, 1) := by decide +kernel
theorem dX12_report_75 : decode cX12_report 75 = .ok (.ireturn, 1) := by decide +kernel
def f_X12_report (S : Sh) (R : Rw)  (I : Iw) (a0 : Nat) (x1 : Int32) (x2 : Int32) : Option (Iw × Int32) := gp (sok S a0 12 34) (bd (f_X12_is S R I a0 x1 (3 : Int32)) (fun r2 => (if r2 = 0 then some (I, (-1 : Int32)) else bd (f_X12_in S R I x2 (0 : Int32) (1 : Int32)) (fun r4 => (if r4 = 0 then some (I, (-1 : Int32)) else rl (R a0 0) (fun b6 => gp (aok S 20 b6 (6 : Int32)) ((if (I b6 (6 : Int32).toNatClampNeg) = (6 : Int32) then some (I, (-2 : Int32)) else rl (R a0 0) (fun b9 => gp (aok S 20 b9 ((61 : Int32) + ((2 : Int32) * (I b6 (6 : Int32).toNatClampNeg)))) (lt (up2 I b9 ((61 : Int32) + ((2 : Int32) * (I b6 (6 : Int32).toNatClampNeg))).toNatClampNeg x1) (fun I11 => rl (R a0 0) (fun b12 => gp (aok S 20 b12 (((61 : Int32) + ((2 : Int32) * (I b6 (6 : Int32).toNatClampNeg))) + (1 : Int32))) (lt (up2 I11 b12 (((61 : Int32) + ((2 : Int32) * (I b6 (6 : Int32).toNatClampNeg))) + (1 : Int32)).toNatClampNeg x2) (fun I14 => rl (R a0 0) (fun b15 => gp (aok S 20 b15 (6 : Int32)) (gp (aok S 20 b15 (6 : Int32)) (lt (up2 I14 b15 (6 : Int32).toNatClampNeg ((I14 b15 (6 : Int32).toNatClampNeg) + (1 : Int32))) (fun I18 => some (I18, I b6 (6 : Int32).toNatClampNeg)))))))))))))))))))
set_option maxHeartbeats 4000000 in
theorem b_X12_report {E : Ev} {p : Program} {l : Launch} {e : Env} {s : State} {m : MethodId} {args : Array Value} {below : List Frame} {meth : Method} {c : Code} (C : Cx E RX12 cX12_report 4 p s m c) (hr : meth.sig.returnType = (some .int)) (hk : meth.locks = false) {S : Sh} {R : Rw} {r : Iw × Int32}  : ∀ (I : Iw) (a0 : Nat) (x1 : Int32) (x2 : Int32), f_X12_report S R   I a0 x1 x2 = some r → Wk E 4 p l e ({ frames := 2, cells := 0, slots := 0, locals := 44 } : Room) s m args below meth c 0 0 (MQ below (Qw E S R r.1 (some (.int r.2))) args s 0 0 (fun q => E.1 ≤ q)) 0 [(0, .ref (E.1 + a0)), (1, .int x1), (2, .int x2)] [] S R I := by
  intro I a0 x1 x2 h
  rw [f_X12_report] at h
  refine k_aloadn (pc := 0) C dX12_report_0 (i := 0) rfl 0 rfl ?_
  refine k_iloadn (pc := 1) C dX12_report_1 (i := 1) rfl 1 rfl ?_
  refine k_iconst (pc := 2) C (v := (3 : Int32)) dX12_report_2 (by decide) ?_
  obtain ⟨hs10, h⟩ := gp_e h
  have hs1 := sok_e hs10
  obtain ⟨r2, hr2, h⟩ := bd_e h
  refine k_V (pc := 3) (st := []) C (c_X12_is hr2) lkV_RX12_251 hs1 rfl rfl rfl (Nat.le_of_ble_eq_true rfl) (Nat.le_of_ble_eq_true rfl) (Nat.le_of_ble_eq_true rfl) (Nat.le_of_ble_eq_true rfl) (Nat.le_of_ble_eq_true rfl) dX12_report_3 ?_
  refine k_nf (cells2 := 0) (slots2 := 0) (st2 := [.int r2]) rfl rfl rfl ?_
  refine k_if_eq (pc := 6) C dX12_report_6 (tgt := 18) (by decide) (fun hc3 => ?_) (fun hc3 => ?_)
  · rw [if_pos hc3] at h
    refine k_iconst (pc := 18) C (v := (-1 : Int32)) dX12_report_18 (by decide) ?_
    have h := Option.some.inj h
    subst h
    exact k_iret (pc := 19) C hr hk dX12_report_19
  · rw [if_neg hc3] at h
    refine k_iloadn (pc := 9) C dX12_report_9 (i := 2) rfl 2 rfl ?_
    refine k_iconst (pc := 10) C (v := (0 : Int32)) dX12_report_10 (by decide) ?_
    refine k_iconst (pc := 11) C (v := (1 : Int32)) dX12_report_11 (by decide) ?_
    obtain ⟨r4, hr4, h⟩ := bd_e h
    refine k_S (pc := 12) (st := []) C (c_X12_in hr4) lkS_RX12_98 rfl rfl (Nat.le_of_ble_eq_true rfl) (Nat.le_of_ble_eq_true rfl) (Nat.le_of_ble_eq_true rfl) (Nat.le_of_ble_eq_true rfl) (Nat.le_of_ble_eq_true rfl) dX12_report_12 ?_
    refine k_nf (cells2 := 0) (slots2 := 0) (st2 := [.int r4]) rfl rfl rfl ?_
    refine k_if_ne (pc := 15) C dX12_report_15 (tgt := 20) (by decide) (fun hc5 => ?_) (fun hc5 => ?_)
    · rw [if_neg hc5] at h
      refine k_aloadn (pc := 20) C dX12_report_20 (i := 0) rfl 0 rfl ?_
      obtain ⟨b6, hb6, h⟩ := rl_e h
      refine k_getR (pc := 21) C lkF_RX12_9_12 hs1 ir_12_0 hb6 dX12_report_21 ?_
      refine k_bipush (pc := 24) C (v := (6 : Int32)) dX12_report_24 (by decide) ?_
      obtain ⟨ha7, h⟩ := gp_e h
      refine k_iald (pc := 26) C ha7 dX12_report_26 ?_
      refine k_istoren (pc := 27) C dX12_report_27 (i := 3) rfl (by decide) (L2 := [(0, .ref (E.1 + a0)), (1, .int x1), (2, .int x2), (3, .int (I b6 (6 : Int32).toNatClampNeg))]) rfl ?_
      refine k_iloadn (pc := 28) C dX12_report_28 (i := 3) rfl 3 rfl ?_
      refine k_bipush (pc := 29) C (v := (6 : Int32)) dX12_report_29 (by decide) ?_
      refine k_icmp_ne (pc := 31) C dX12_report_31 (tgt := 37) (by decide) (fun hc8 => ?_) (fun hc8 => ?_)
      · rw [if_neg hc8] at h
        refine k_aloadn (pc := 37) C dX12_report_37 (i := 0) rfl 0 rfl ?_
        obtain ⟨b9, hb9, h⟩ := rl_e h
        refine k_getR (pc := 38) C lkF_RX12_9_12 hs1 ir_12_0 hb9 dX12_report_38 ?_
        refine k_bipush (pc := 41) C (v := (61 : Int32)) dX12_report_41 (by decide) ?_
        refine k_iconst (pc := 43) C (v := (2 : Int32)) dX12_report_43 (by decide) ?_
        refine k_iloadn (pc := 44) C dX12_report_44 (i := 3) rfl 3 rfl ?_
        refine k_imul (pc := 45) C dX12_report_45 ?_
        refine k_iadd (pc := 46) C dX12_report_46 ?_
        refine k_iloadn (pc := 47) C dX12_report_47 (i := 1) rfl 1 rfl ?_
        obtain ⟨ha10, h⟩ := gp_e h
        obtain ⟨I11, eI11, h⟩ := lt_e h
        refine k_iast (pc := 48) C ha10 dX12_report_48 ?_
        rw [← eI11]
        refine k_aloadn (pc := 49) C dX12_report_49 (i := 0) rfl 0 rfl ?_
        obtain ⟨b12, hb12, h⟩ := rl_e h
        refine k_getR (pc := 50) C lkF_RX12_9_12 hs1 ir_12_0 hb12 dX12_report_50 ?_
        refine k_bipush (pc := 53) C (v := (61 : Int32)) dX12_report_53 (by decide) ?_
        refine k_iconst (pc := 55) C (v := (2 : Int32)) dX12_report_55 (by decide) ?_
        refine k_iloadn (pc := 56) C dX12_report_56 (i := 3) rfl 3 rfl ?_
        refine k_imul (pc := 57) C dX12_report_57 ?_
        refine k_iadd (pc := 58) C dX12_report_58 ?_
        refine k_iconst (pc := 59) C (v := (1 : Int32)) dX12_report_59 (by decide) ?_
        refine k_iadd (pc := 60) C dX12_report_60 ?_
        refine k_iloadn (pc := 61) C dX12_report_61 (i := 2) rfl 2 rfl ?_
        obtain ⟨ha13, h⟩ := gp_e h
        obtain ⟨I14, eI14, h⟩ := lt_e h
        refine k_iast (pc := 62) C ha13 dX12_report_62 ?_
        rw [← eI14]
        refine k_aloadn (pc := 63) C dX12_report_63 (i := 0) rfl 0 rfl ?_
        obtain ⟨b15, hb15, h⟩ := rl_e h
        refine k_getR (pc := 64) C lkF_RX12_9_12 hs1 ir_12_0 hb15 dX12_report_64 ?_
        refine k_bipush (pc := 67) C (v := (6 : Int32)) dX12_report_67 (by decide) ?_
        refine k_dup2 (pc := 69) C dX12_report_69 rfl rfl ?_
        obtain ⟨ha16, h⟩ := gp_e h
        refine k_iald (pc := 70) C ha16 dX12_report_70 ?_
        refine k_iconst (pc := 71) C (v := (1 : Int32)) dX12_report_71 (by decide) ?_
        refine k_iadd (pc := 72) C dX12_report_72 ?_
        obtain ⟨ha17, h⟩ := gp_e h
        obtain ⟨I18, eI18, h⟩ := lt_e h
        refine k_iast (pc := 73) C ha17 dX12_report_73 ?_
        rw [← eI18]
        refine k_iloadn (pc := 74) C dX12_report_74 (i := 3) rfl 3 rfl ?_
        have h := Option.some.inj h
        subst h
        exact k_iret (pc := 75) C hr hk dX12_report_75
      · rw [if_pos hc8] at h
        refine k_bipush (pc := 34) C (v := (-2 : Int32)) dX12_report_34 (by decide) ?_
        have h := Option.some.inj h
        subst h
        exact k_iret (pc := 36) C hr hk dX12_report_36
    · rw [if_pos hc5] at h
      refine k_iconst (pc := 18) C (v := (-1 : Int32)) dX12_report_18 (by decide) ?_
      have h := Option.some.inj h
      subst h
      exact k_iret (pc := 19) C hr hk dX12_report_19
theorem c_X12_report {E : Ev} {l : Launch} {S : Sh} {R : Rw} {I : Iw} {a0 : Nat} {x1 : Int32} {x2 : Int32} {r : Iw × Int32} (h : f_X12_report S R I a0 x1 x2 = some r) : Mt E l yX12_report cX12_report 4 (some .int) 2 44 [.ref (E.1 + a0), .int x1, .int x2] S R I S R r.1 (some (.int r.2)) 0 0 := mt_of (by decide) (Nat.le_of_ble_eq_true rfl) (fun p e s m args below meth c C hr hk hn => b_X12_report C hr hk _ _ _ _ h)
theorem dX12_forget_0 : decode cX12_forget 0 = .ok (.aload_n 0, 1) := by decide +kernel
theorem dX12_forget_1 : decode cX12_forget 1 = .ok (.bipush 6, 2) := by decide +kernel
theorem dX12_forget_3 : decode cX12_forget 3 = .ok (.iconst 0, 1) := by decide +kernel
theorem dX12_forget_4 : decode cX12_forget 4 = .ok (.invokevirtual 260, 3) := by decide +kernel
theorem dX12_forget_7 : decode cX12_forget 7 = .ok (.ireturn, 1) := by decide +kernel
def f_X12_forget (S : Sh) (R : Rw)  (I : Iw) (a0 : Nat) : Option (Iw × Int32) := gp (sok S a0 12 34) (bd (f_X12_comes S R I a0 (6 : Int32) (0 : Int32)) (fun r2 => some (r2.1, r2.2)))
set_option maxHeartbeats 4000000 in
theorem b_X12_forget {E : Ev} {p : Program} {l : Launch} {e : Env} {s : State} {m : MethodId} {args : Array Value} {below : List Frame} {meth : Method} {c : Code} (C : Cx E RX12 cX12_forget 1 p s m c) (hr : meth.sig.returnType = (some .int)) (hk : meth.locks = false) {S : Sh} {R : Rw} {r : Iw × Int32}  : ∀ (I : Iw) (a0 : Nat), f_X12_forget S R   I a0 = some r → Wk E 1 p l e ({ frames := 1, cells := 0, slots := 0, locals := 23 } : Room) s m args below meth c 0 0 (MQ below (Qw E S R r.1 (some (.int r.2))) args s 0 0 (fun q => E.1 ≤ q)) 0 [(0, .ref (E.1 + a0))] [] S R I := by
  intro I a0 h
  rw [f_X12_forget] at h
  refine k_aloadn (pc := 0) C dX12_forget_0 (i := 0) rfl 0 rfl ?_
  refine k_bipush (pc := 1) C (v := (6 : Int32)) dX12_forget_1 (by decide) ?_
  refine k_iconst (pc := 3) C (v := (0 : Int32)) dX12_forget_3 (by decide) ?_
  obtain ⟨hs10, h⟩ := gp_e h
  have hs1 := sok_e hs10
  obtain ⟨r2, hr2, h⟩ := bd_e h
  refine k_V (pc := 4) (st := []) C (c_X12_comes hr2) lkV_RX12_260 hs1 rfl rfl rfl (Nat.le_of_ble_eq_true rfl) (Nat.le_of_ble_eq_true rfl) (Nat.le_of_ble_eq_true rfl) (Nat.le_of_ble_eq_true rfl) (Nat.le_of_ble_eq_true rfl) dX12_forget_4 ?_
  refine k_nf (cells2 := 0) (slots2 := 0) (st2 := [.int r2.2]) rfl rfl rfl ?_
  have h := Option.some.inj h
  subst h
  exact k_iret (pc := 7) C hr hk dX12_forget_7
theorem c_X12_forget {E : Ev} {l : Launch} {S : Sh} {R : Rw} {I : Iw} {a0 : Nat} {r : Iw × Int32} (h : f_X12_forget S R I a0 = some r) : Mt E l yX12_forget cX12_forget 1 (some .int) 1 23 [.ref (E.1 + a0)] S R I S R r.1 (some (.int r.2)) 0 0 := mt_of (by decide) (Nat.le_of_ble_eq_true rfl) (fun p e s m args below meth c C hr hk hn => b_X12_forget C hr hk _ _ h)
theorem dX12_could_0 : decode cX12_could 0 = .ok (.aload_n 0, 1) := by decide +kernel
theorem dX12_could_1 : decode cX12_could 1 = .ok (.iload_n 1, 1) := by decide +kernel
theorem dX12_could_2 : decode cX12_could 2 = .ok (.iconst 0, 1) := by decide +kernel
theorem dX12_could_3 : decode cX12_could 3 = .ok (.invokevirtual 209, 3) := by decide +kernel
theorem dX12_could_6 : decode cX12_could 6 = .ok (.iconst 3, 1) := by decide +kernel
theorem dX12_could_7 : decode cX12_could 7 = .ok (.if_icmp .eq 27, 3) := by decide +kernel
theorem dX12_could_10 : decode cX12_could 10 = .ok (.iload_n 1, 1) := by decide +kernel
theorem dX12_could_11 : decode cX12_could 11 = .ok (.iload_n 2, 1) := by decide +kernel
theorem dX12_could_12 : decode cX12_could 12 = .ok (.aload_n 0, 1) := by decide +kernel
theorem dX12_could_13 : decode cX12_could 13 = .ok (.getfield 9, 3) := by decide +kernel
theorem dX12_could_16 : decode cX12_could 16 = .ok (.iconst 0, 1) := by decide +kernel
theorem dX12_could_17 : decode cX12_could 17 = .ok (.iaload, 1) := by decide +kernel
theorem dX12_could_18 : decode cX12_could 18 = .ok (.isub, 1) := by decide +kernel
theorem dX12_could_19 : decode cX12_could 19 = .ok (.if_icmp .lt 15, 3) := by decide +kernel
theorem dX12_could_22 : decode cX12_could 22 = .ok (.iload_n 1, 1) := by decide +kernel
theorem dX12_could_23 : decode cX12_could 23 = .ok (.iload_n 2, 1) := by decide +kernel
theorem dX12_could_24 : decode cX12_could 24 = .ok (.aload_n 0, 1) := by decide +kernel
theorem dX12_could_25 : decode cX12_could 25 = .ok (.getfield 9, 3) := by decide +kernel
theorem dX12_could_28 : decode cX12_could 28 = .ok (.iconst 0, 1) := by decide +kernel
theorem dX12_could_29 : decode cX12_could 29 = .ok (.iaload, 1) := by decide +kernel
theorem dX12_could_30 : decode cX12_could 30 = .ok (.iadd, 1) := by decide +kernel
theorem dX12_could_31 : decode cX12_could 31 = .ok (.if_icmp .lt 7, 3) := by decide +kernel
theorem dX12_could_34 : decode cX12_could 34 = .ok (.iconst 1, 1) := by decide +kernel
theorem dX12_could_35 : decode cX12_could 35 = .ok (.goto 4, 3) := by decide +kernel
theorem dX12_could_38 : decode cX12_could 38 = .ok (.iconst 0, 1) := by decide +kernel
theorem dX12_could_39 : decode cX12_could 39 = .ok (.ireturn, 1) := by decide +kernel
def f_X12_could_34 (S : Sh) (R : Rw) (I : Iw)   : Option (Int32) := some (1 : Int32)
set_option maxHeartbeats 4000000 in
theorem b_X12_could_34 {E : Ev} {p : Program} {l : Launch} {e : Env} {s : State} {m : MethodId} {args : Array Value} {below : List Frame} {meth : Method} {c : Code} (C : Cx E RX12 cX12_could 3 p s m c) (hr : meth.sig.returnType = (some .boolean)) (hk : meth.locks = false) {S : Sh} {R : Rw} {I : Iw} {r : Int32}  : f_X12_could_34 S R I    = some r → Wk E 3 p l e ({ frames := 2, cells := 0, slots := 0, locals := 43 } : Room) s m args below meth c 0 0 (MQ below (Qw E S R I (some (.int r))) args s 0 0 (fun q => E.1 ≤ q)) 34 [] [] S R I := by
  intro  h
  rw [f_X12_could_34] at h
  refine k_iconst (pc := 34) C (v := (1 : Int32)) dX12_could_34 (by decide) ?_
  refine k_goto (pc := 35) C dX12_could_35 (tgt := 39) (by decide) ?_
  have h := Option.some.inj h
  subst h
  exact k_zret (pc := 39) C hr hk (Or.inr rfl) dX12_could_39
def f_X12_could (S : Sh) (R : Rw) (I : Iw)  (a0 : Nat) (x1 : Int32) (x2 : Int32) : Option (Int32) := gp (sok S a0 12 34) (bd (f_X12_goodIs S R I a0 x1 (0 : Int32)) (fun r2 => (if r2 = (3 : Int32) then f_X12_could_34 S R I   else rl (R a0 0) (fun b4 => gp (aok S 20 b4 (0 : Int32)) ((if x1 < (x2 - (I b4 (0 : Int32).toNatClampNeg)) then f_X12_could_34 S R I   else rl (R a0 0) (fun b7 => gp (aok S 20 b7 (0 : Int32)) ((if x1 < (x2 + (I b7 (0 : Int32).toNatClampNeg)) then some (0 : Int32) else f_X12_could_34 S R I  )))))))))
set_option maxHeartbeats 4000000 in
theorem b_X12_could {E : Ev} {p : Program} {l : Launch} {e : Env} {s : State} {m : MethodId} {args : Array Value} {below : List Frame} {meth : Method} {c : Code} (C : Cx E RX12 cX12_could 3 p s m c) (hr : meth.sig.returnType = (some .boolean)) (hk : meth.locks = false) {S : Sh} {R : Rw} {I : Iw} {r : Int32}  : ∀ (a0 : Nat) (x1 : Int32) (x2 : Int32), f_X12_could S R I   a0 x1 x2 = some r → Wk E 3 p l e ({ frames := 2, cells := 0, slots := 0, locals := 43 } : Room) s m args below meth c 0 0 (MQ below (Qw E S R I (some (.int r))) args s 0 0 (fun q => E.1 ≤ q)) 0 [(0, .ref (E.1 + a0)), (1, .int x1), (2, .int x2)] [] S R I := by
  intro a0 x1 x2 h
  rw [f_X12_could] at h
  refine k_aloadn (pc := 0) C dX12_could_0 (i := 0) rfl 0 rfl ?_
  refine k_iloadn (pc := 1) C dX12_could_1 (i := 1) rfl 1 rfl ?_
  refine k_iconst (pc := 2) C (v := (0 : Int32)) dX12_could_2 (by decide) ?_
  obtain ⟨hs10, h⟩ := gp_e h
  have hs1 := sok_e hs10
  obtain ⟨r2, hr2, h⟩ := bd_e h
  refine k_V (pc := 3) (st := []) C (c_X12_goodIs hr2) lkV_RX12_209 hs1 rfl rfl rfl (Nat.le_of_ble_eq_true rfl) (Nat.le_of_ble_eq_true rfl) (Nat.le_of_ble_eq_true rfl) (Nat.le_of_ble_eq_true rfl) (Nat.le_of_ble_eq_true rfl) dX12_could_3 ?_
  refine k_nf (cells2 := 0) (slots2 := 0) (st2 := [.int r2]) rfl rfl rfl ?_
  refine k_iconst (pc := 6) C (v := (3 : Int32)) dX12_could_6 (by decide) ?_
  refine k_icmp_eq (pc := 7) C dX12_could_7 (tgt := 34) (by decide) (fun hc3 => ?_) (fun hc3 => ?_)
  · rw [if_pos hc3] at h
    refine k_loc (L2 := []) [] rfl ?_
    exact b_X12_could_34 C hr hk   h
  · rw [if_neg hc3] at h
    refine k_iloadn (pc := 10) C dX12_could_10 (i := 1) rfl 1 rfl ?_
    refine k_iloadn (pc := 11) C dX12_could_11 (i := 2) rfl 2 rfl ?_
    refine k_aloadn (pc := 12) C dX12_could_12 (i := 0) rfl 0 rfl ?_
    obtain ⟨b4, hb4, h⟩ := rl_e h
    refine k_getR (pc := 13) C lkF_RX12_9_12 hs1 ir_12_0 hb4 dX12_could_13 ?_
    refine k_iconst (pc := 16) C (v := (0 : Int32)) dX12_could_16 (by decide) ?_
    obtain ⟨ha5, h⟩ := gp_e h
    refine k_iald (pc := 17) C ha5 dX12_could_17 ?_
    refine k_isub (pc := 18) C dX12_could_18 ?_
    refine k_icmp_lt (pc := 19) C dX12_could_19 (tgt := 34) (by decide) (fun hc6 => ?_) (fun hc6 => ?_)
    · rw [if_pos hc6] at h
      refine k_loc (L2 := []) [] rfl ?_
      exact b_X12_could_34 C hr hk   h
    · rw [if_neg hc6] at h
      refine k_iloadn (pc := 22) C dX12_could_22 (i := 1) rfl 1 rfl ?_
      refine k_iloadn (pc := 23) C dX12_could_23 (i := 2) rfl 2 rfl ?_
      refine k_aloadn (pc := 24) C dX12_could_24 (i := 0) rfl 0 rfl ?_
      obtain ⟨b7, hb7, h⟩ := rl_e h
      refine k_getR (pc := 25) C lkF_RX12_9_12 hs1 ir_12_0 hb7 dX12_could_25 ?_
      refine k_iconst (pc := 28) C (v := (0 : Int32)) dX12_could_28 (by decide) ?_
      obtain ⟨ha8, h⟩ := gp_e h
      refine k_iald (pc := 29) C ha8 dX12_could_29 ?_
      refine k_iadd (pc := 30) C dX12_could_30 ?_
      refine k_icmp_lt (pc := 31) C dX12_could_31 (tgt := 38) (by decide) (fun hc9 => ?_) (fun hc9 => ?_)
      · rw [if_pos hc9] at h
        refine k_iconst (pc := 38) C (v := (0 : Int32)) dX12_could_38 (by decide) ?_
        have h := Option.some.inj h
        subst h
        exact k_zret (pc := 39) C hr hk (Or.inl rfl) dX12_could_39
      · rw [if_neg hc9] at h
        refine k_loc (L2 := []) [] rfl ?_
        exact b_X12_could_34 C hr hk   h
theorem c_X12_could {E : Ev} {l : Launch} {S : Sh} {R : Rw} {I : Iw} {a0 : Nat} {x1 : Int32} {x2 : Int32} {r : Int32} (h : f_X12_could S R I a0 x1 x2 = some r) : Mt E l yX12_could cX12_could 3 (some .boolean) 2 43 [.ref (E.1 + a0), .int x1, .int x2] S R I S R I (some (.int r)) 0 0 := mt_of (by decide) (Nat.le_of_ble_eq_true rfl) (fun p e s m args below meth c C hr hk hn => b_X12_could C hr hk _ _ _ h)
theorem lkV_RX12_304 : LkV RX12 304 RX12 yX12_could cX12_could 3 (some .boolean) 2 := ⟨(t7_in 14 (by decide +kernel) rfl), (t7_in 16 (by decide +kernel) rfl), (t0_in 67 (by decide +kernel) rfl), (t7_in 17 (by decide +kernel) rfl), (t1_in 7 (by decide +kernel) rfl), by decide, by decide +kernel⟩
theorem dX12_fits_0 : decode cX12_fits 0 = .ok (.iconst 1, 1) := by decide +kernel
theorem dX12_fits_1 : decode cX12_fits 1 = .ok (.istore_n 3, 1) := by decide +kernel
theorem dX12_fits_2 : decode cX12_fits 2 = .ok (.iconst 0, 1) := by decide +kernel
theorem dX12_fits_3 : decode cX12_fits 3 = .ok (.istore 4, 2) := by decide +kernel
theorem dX12_fits_5 : decode cX12_fits 5 = .ok (.iload 4, 2) := by decide +kernel
theorem dX12_fits_7 : decode cX12_fits 7 = .ok (.aload_n 0, 1) := by decide +kernel
theorem dX12_fits_8 : decode cX12_fits 8 = .ok (.getfield 9, 3) := by decide +kernel
theorem dX12_fits_11 : decode cX12_fits 11 = .ok (.bipush 6, 2) := by decide +kernel
theorem dX12_fits_13 : decode cX12_fits 13 = .ok (.iaload, 1) := by decide +kernel
theorem dX12_fits_14 : decode cX12_fits 14 = .ok (.if_icmp .ge 72, 3) := by decide +kernel
theorem dX12_fits_17 : decode cX12_fits 17 = .ok (.aload_n 0, 1) := by decide +kernel
theorem dX12_fits_18 : decode cX12_fits 18 = .ok (.aload_n 0, 1) := by decide +kernel
theorem dX12_fits_19 : decode cX12_fits 19 = .ok (.getfield 9, 3) := by decide +kernel
theorem dX12_fits_22 : decode cX12_fits 22 = .ok (.bipush 61, 2) := by decide +kernel
theorem dX12_fits_24 : decode cX12_fits 24 = .ok (.iconst 2, 1) := by decide +kernel
theorem dX12_fits_25 : decode cX12_fits 25 = .ok (.iload 4, 2) := by decide +kernel
theorem dX12_fits_27 : decode cX12_fits 27 = .ok (.imul, 1) := by decide +kernel
theorem dX12_fits_28 : decode cX12_fits 28 = .ok (.iadd, 1) := by decide +kernel
theorem dX12_fits_29 : decode cX12_fits 29 = .ok (.iaload, 1) := by decide +kernel
theorem dX12_fits_30 : decode cX12_fits 30 = .ok (.iload_n 1, 1) := by decide +kernel
theorem dX12_fits_31 : decode cX12_fits 31 = .ok (.invokevirtual 304, 3) := by decide +kernel
theorem dX12_fits_34 : decode cX12_fits 34 = .ok (.istore 5, 2) := by decide +kernel
theorem dX12_fits_36 : decode cX12_fits 36 = .ok (.iload_n 3, 1) := by decide +kernel
theorem dX12_fits_37 : decode cX12_fits 37 = .ok (.ifCond .eq 41, 3) := by decide +kernel
theorem dX12_fits_40 : decode cX12_fits 40 = .ok (.iload 4, 2) := by decide +kernel
theorem dX12_fits_42 : decode cX12_fits 42 = .ok (.iload_n 2, 1) := by decide +kernel
theorem dX12_fits_43 : decode cX12_fits 43 = .ok (.if_icmp .eq 31, 3) := by decide +kernel
theorem dX12_fits_46 : decode cX12_fits 46 = .ok (.iload 5, 2) := by decide +kernel
theorem dX12_fits_48 : decode cX12_fits 48 = .ok (.aload_n 0, 1) := by decide +kernel
theorem dX12_fits_49 : decode cX12_fits 49 = .ok (.getfield 9, 3) := by decide +kernel
theorem dX12_fits_52 : decode cX12_fits 52 = .ok (.bipush 61, 2) := by decide +kernel
theorem dX12_fits_54 : decode cX12_fits 54 = .ok (.iconst 2, 1) := by decide +kernel
theorem dX12_fits_55 : decode cX12_fits 55 = .ok (.iload 4, 2) := by decide +kernel
theorem dX12_fits_57 : decode cX12_fits 57 = .ok (.imul, 1) := by decide +kernel
theorem dX12_fits_58 : decode cX12_fits 58 = .ok (.iadd, 1) := by decide +kernel
theorem dX12_fits_59 : decode cX12_fits 59 = .ok (.iconst 1, 1) := by decide +kernel
theorem dX12_fits_60 : decode cX12_fits 60 = .ok (.iadd, 1) := by decide +kernel
theorem dX12_fits_61 : decode cX12_fits 61 = .ok (.iaload, 1) := by decide +kernel
theorem dX12_fits_62 : decode cX12_fits 62 = .ok (.iconst 1, 1) := by decide +kernel
theorem dX12_fits_63 : decode cX12_fits 63 = .ok (.if_icmp .ne 7, 3) := by decide +kernel
theorem dX12_fits_66 : decode cX12_fits 66 = .ok (.iconst 1, 1) := by decide +kernel
theorem dX12_fits_67 : decode cX12_fits 67 = .ok (.goto 4, 3) := by decide +kernel
theorem dX12_fits_70 : decode cX12_fits 70 = .ok (.iconst 0, 1) := by decide +kernel
theorem dX12_fits_71 : decode cX12_fits 71 = .ok (.if_icmp .ne 7, 3) := by decide +kernel
theorem dX12_fits_74 : decode cX12_fits 74 = .ok (.iconst 1, 1) := by decide +kernel
theorem dX12_fits_75 : decode cX12_fits 75 = .ok (.goto 4, 3) := by decide +kernel
theorem dX12_fits_78 : decode cX12_fits 78 = .ok (.iconst 0, 1) := by decide +kernel
theorem dX12_fits_79 : decode cX12_fits 79 = .ok (.istore_n 3, 1) := by decide +kernel
theorem dX12_fits_80 : decode cX12_fits 80 = .ok (.iinc 4 1, 3) := by decide +kernel
theorem dX12_fits_83 : decode cX12_fits 83 = .ok (.goto (-78), 3) := by decide +kernel
theorem dX12_fits_86 : decode cX12_fits 86 = .ok (.iload_n 3, 1) := by decide +kernel
theorem dX12_fits_87 : decode cX12_fits 87 = .ok (.ireturn, 1) := by decide +kernel
def f_X12_fits_79 (S : Sh) (R : Rw) (I : Iw) (ko5 : Nat → Int32 → Int32 → Int32 → Int32 → Option (Int32)) (a0 : Nat) (x1 : Int32) (x2 : Int32) (x4 : Int32) (s0 : Int32) : Option (Int32) := ko5 a0 x1 x2 s0 (x4 + (1 : Int32))
set_option maxHeartbeats 4000000 in
theorem b_X12_fits_79 {E : Ev} {p : Program} {l : Launch} {e : Env} {s : State} {m : MethodId} {args : Array Value} {below : List Frame} {meth : Method} {c : Code} (C : Cx E RX12 cX12_fits 6 p s m c) (hr : meth.sig.returnType = (some .boolean)) (hk : meth.locks = false) {S : Sh} {R : Rw} {I : Iw} {r : Int32}  {ko5 : Nat → Int32 → Int32 → Int32 → Int32 → Option (Int32)} (hko5 : ∀ (a0 : Nat) (x1 : Int32) (x2 : Int32) (x3 : Int32) (x4 : Int32), ko5 a0 x1 x2 x3 x4 = some r → Wk E 6 p l e ({ frames := 3, cells := 0, slots := 0, locals := 65 } : Room) s m args below meth c 0 0 (MQ below (Qw E S R I (some (.int r))) args s 0 0 (fun q => E.1 ≤ q)) 5 [(0, .ref (E.1 + a0)), (1, .int x1), (2, .int x2), (3, .int x3), (4, .int x4)] [] S R I) : ∀ (a0 : Nat) (x1 : Int32) (x2 : Int32) (x4 : Int32) (s0 : Int32), f_X12_fits_79 S R I ko5  a0 x1 x2 x4 s0 = some r → Wk E 6 p l e ({ frames := 3, cells := 0, slots := 0, locals := 65 } : Room) s m args below meth c 0 0 (MQ below (Qw E S R I (some (.int r))) args s 0 0 (fun q => E.1 ≤ q)) 79 [(0, .ref (E.1 + a0)), (1, .int x1), (2, .int x2), (4, .int x4)] [.int s0] S R I := by
  intro a0 x1 x2 x4 s0 h
  rw [f_X12_fits_79] at h
  refine k_istoren (pc := 79) C dX12_fits_79 (i := 3) rfl (by decide) (L2 := [(0, .ref (E.1 + a0)), (1, .int x1), (2, .int x2), (3, .int s0), (4, .int x4)]) rfl ?_
  refine k_iinc (pc := 80) C dX12_fits_80 4 rfl (v := x4 + (1 : Int32)) (by rfl) (by decide) (L2 := [(0, .ref (E.1 + a0)), (1, .int x1), (2, .int x2), (3, .int s0), (4, .int (x4 + (1 : Int32)))]) rfl ?_
  refine k_goto (pc := 83) C dX12_fits_83 (tgt := 5) (by decide) ?_
  exact hko5 _ _ _ _ _ h
def f_X12_fits_78 (S : Sh) (R : Rw) (I : Iw) (ko5 : Nat → Int32 → Int32 → Int32 → Int32 → Option (Int32)) (a0 : Nat) (x1 : Int32) (x2 : Int32) (x4 : Int32) : Option (Int32) := f_X12_fits_79 S R I ko5 a0 x1 x2 x4 (0 : Int32)
set_option maxHeartbeats 4000000 in
theorem b_X12_fits_78 {E : Ev} {p : Program} {l : Launch} {e : Env} {s : State} {m : MethodId} {args : Array Value} {below : List Frame} {meth : Method} {c : Code} (C : Cx E RX12 cX12_fits 6 p s m c) (hr : meth.sig.returnType = (some .boolean)) (hk : meth.locks = false) {S : Sh} {R : Rw} {I : Iw} {r : Int32}  {ko5 : Nat → Int32 → Int32 → Int32 → Int32 → Option (Int32)} (hko5 : ∀ (a0 : Nat) (x1 : Int32) (x2 : Int32) (x3 : Int32) (x4 : Int32), ko5 a0 x1 x2 x3 x4 = some r → Wk E 6 p l e ({ frames := 3, cells := 0, slots := 0, locals := 65 } : Room) s m args below meth c 0 0 (MQ below (Qw E S R I (some (.int r))) args s 0 0 (fun q => E.1 ≤ q)) 5 [(0, .ref (E.1 + a0)), (1, .int x1), (2, .int x2), (3, .int x3), (4, .int x4)] [] S R I) : ∀ (a0 : Nat) (x1 : Int32) (x2 : Int32) (x4 : Int32), f_X12_fits_78 S R I ko5  a0 x1 x2 x4 = some r → Wk E 6 p l e ({ frames := 3, cells := 0, slots := 0, locals := 65 } : Room) s m args below meth c 0 0 (MQ below (Qw E S R I (some (.int r))) args s 0 0 (fun q => E.1 ≤ q)) 78 [(0, .ref (E.1 + a0)), (1, .int x1), (2, .int x2), (4, .int x4)] [] S R I := by
  intro a0 x1 x2 x4 h
  rw [f_X12_fits_78] at h
  refine k_iconst (pc := 78) C (v := (0 : Int32)) dX12_fits_78 (by decide) ?_
  exact b_X12_fits_79 C hr hk hko5 _ _ _ _ _ h
def f_X12_fits_74 (S : Sh) (R : Rw) (I : Iw) (ko5 : Nat → Int32 → Int32 → Int32 → Int32 → Option (Int32)) (a0 : Nat) (x1 : Int32) (x2 : Int32) (x4 : Int32) : Option (Int32) := f_X12_fits_79 S R I ko5 a0 x1 x2 x4 (1 : Int32)
set_option maxHeartbeats 4000000 in
theorem b_X12_fits_74 {E : Ev} {p : Program} {l : Launch} {e : Env} {s : State} {m : MethodId} {args : Array Value} {below : List Frame} {meth : Method} {c : Code} (C : Cx E RX12 cX12_fits 6 p s m c) (hr : meth.sig.returnType = (some .boolean)) (hk : meth.locks = false) {S : Sh} {R : Rw} {I : Iw} {r : Int32}  {ko5 : Nat → Int32 → Int32 → Int32 → Int32 → Option (Int32)} (hko5 : ∀ (a0 : Nat) (x1 : Int32) (x2 : Int32) (x3 : Int32) (x4 : Int32), ko5 a0 x1 x2 x3 x4 = some r → Wk E 6 p l e ({ frames := 3, cells := 0, slots := 0, locals := 65 } : Room) s m args below meth c 0 0 (MQ below (Qw E S R I (some (.int r))) args s 0 0 (fun q => E.1 ≤ q)) 5 [(0, .ref (E.1 + a0)), (1, .int x1), (2, .int x2), (3, .int x3), (4, .int x4)] [] S R I) : ∀ (a0 : Nat) (x1 : Int32) (x2 : Int32) (x4 : Int32), f_X12_fits_74 S R I ko5  a0 x1 x2 x4 = some r → Wk E 6 p l e ({ frames := 3, cells := 0, slots := 0, locals := 65 } : Room) s m args below meth c 0 0 (MQ below (Qw E S R I (some (.int r))) args s 0 0 (fun q => E.1 ≤ q)) 74 [(0, .ref (E.1 + a0)), (1, .int x1), (2, .int x2), (4, .int x4)] [] S R I := by
  intro a0 x1 x2 x4 h
  rw [f_X12_fits_74] at h
  refine k_iconst (pc := 74) C (v := (1 : Int32)) dX12_fits_74 (by decide) ?_
  refine k_goto (pc := 75) C dX12_fits_75 (tgt := 79) (by decide) ?_
  exact b_X12_fits_79 C hr hk hko5 _ _ _ _ _ h
def f_X12_fits_71 (S : Sh) (R : Rw) (I : Iw) (ko5 : Nat → Int32 → Int32 → Int32 → Int32 → Option (Int32)) (a0 : Nat) (x1 : Int32) (x2 : Int32) (x4 : Int32) (s0 : Int32) (s1 : Int32) : Option (Int32) := (if s1 = s0 then f_X12_fits_74 S R I ko5 a0 x1 x2 x4 else f_X12_fits_78 S R I ko5 a0 x1 x2 x4)
set_option maxHeartbeats 4000000 in
theorem b_X12_fits_71 {E : Ev} {p : Program} {l : Launch} {e : Env} {s : State} {m : MethodId} {args : Array Value} {below : List Frame} {meth : Method} {c : Code} (C : Cx E RX12 cX12_fits 6 p s m c) (hr : meth.sig.returnType = (some .boolean)) (hk : meth.locks = false) {S : Sh} {R : Rw} {I : Iw} {r : Int32}  {ko5 : Nat → Int32 → Int32 → Int32 → Int32 → Option (Int32)} (hko5 : ∀ (a0 : Nat) (x1 : Int32) (x2 : Int32) (x3 : Int32) (x4 : Int32), ko5 a0 x1 x2 x3 x4 = some r → Wk E 6 p l e ({ frames := 3, cells := 0, slots := 0, locals := 65 } : Room) s m args below meth c 0 0 (MQ below (Qw E S R I (some (.int r))) args s 0 0 (fun q => E.1 ≤ q)) 5 [(0, .ref (E.1 + a0)), (1, .int x1), (2, .int x2), (3, .int x3), (4, .int x4)] [] S R I) : ∀ (a0 : Nat) (x1 : Int32) (x2 : Int32) (x4 : Int32) (s0 : Int32) (s1 : Int32), f_X12_fits_71 S R I ko5  a0 x1 x2 x4 s0 s1 = some r → Wk E 6 p l e ({ frames := 3, cells := 0, slots := 0, locals := 65 } : Room) s m args below meth c 0 0 (MQ below (Qw E S R I (some (.int r))) args s 0 0 (fun q => E.1 ≤ q)) 71 [(0, .ref (E.1 + a0)), (1, .int x1), (2, .int x2), (4, .int x4)] [.int s0, .int s1] S R I := by
  intro a0 x1 x2 x4 s0 s1 h
  rw [f_X12_fits_71] at h
  refine k_icmp_ne (pc := 71) C dX12_fits_71 (tgt := 78) (by decide) (fun hc14 => ?_) (fun hc14 => ?_)
  · rw [if_neg hc14] at h
    exact b_X12_fits_78 C hr hk hko5 _ _ _ _ h
  · rw [if_pos hc14] at h
    exact b_X12_fits_74 C hr hk hko5 _ _ _ _ h
def f_X12_fits_5 (S : Sh) (R : Rw) (I : Iw)  : Nat → Nat → Int32 → Int32 → Int32 → Int32 → Option (Int32)
  | 0, _, _, _, _, _ => none
  | n + 1, a0, x1, x2, x3, x4 => gp (sok S a0 12 34) (rl (R a0 0) (fun b2 => gp (aok S 20 b2 (6 : Int32)) ((if (I b2 (6 : Int32).toNatClampNeg) ≤ x4 then gp (zok x3) (some x3) else rl (R a0 0) (fun b6 => gp (aok S 20 b6 ((61 : Int32) + ((2 : Int32) * x4))) (bd (f_X12_could S R I a0 (I b6 ((61 : Int32) + ((2 : Int32) * x4)).toNatClampNeg) x1) (fun r8 => (if x3 = 0 then f_X12_fits_78 S R I (f_X12_fits_5 S R I  n) a0 x1 x2 x4 else (if x4 = x2 then f_X12_fits_74 S R I (f_X12_fits_5 S R I  n) a0 x1 x2 x4 else rl (R a0 0) (fun b11 => gp (aok S 20 b11 (((61 : Int32) + ((2 : Int32) * x4)) + (1 : Int32))) ((if (I b11 (((61 : Int32) + ((2 : Int32) * x4)) + (1 : Int32)).toNatClampNeg) = (1 : Int32) then f_X12_fits_71 S R I (f_X12_fits_5 S R I  n) a0 x1 x2 x4 (1 : Int32) r8 else f_X12_fits_71 S R I (f_X12_fits_5 S R I  n) a0 x1 x2 x4 (0 : Int32) r8))))))))))))
set_option maxHeartbeats 4000000 in
theorem b_X12_fits_5 {E : Ev} {p : Program} {l : Launch} {e : Env} {s : State} {m : MethodId} {args : Array Value} {below : List Frame} {meth : Method} {c : Code} (C : Cx E RX12 cX12_fits 6 p s m c) (hr : meth.sig.returnType = (some .boolean)) (hk : meth.locks = false) {S : Sh} {R : Rw} {I : Iw} {r : Int32}  : ∀ (n : Nat) (a0 : Nat) (x1 : Int32) (x2 : Int32) (x3 : Int32) (x4 : Int32), f_X12_fits_5 S R I  n a0 x1 x2 x3 x4 = some r → Wk E 6 p l e ({ frames := 3, cells := 0, slots := 0, locals := 65 } : Room) s m args below meth c 0 0 (MQ below (Qw E S R I (some (.int r))) args s 0 0 (fun q => E.1 ≤ q)) 5 [(0, .ref (E.1 + a0)), (1, .int x1), (2, .int x2), (3, .int x3), (4, .int x4)] [] S R I := by
  intro n
  induction n with
  | zero =>
    intro a0 x1 x2 x3 x4 h
    rw [f_X12_fits_5] at h
    cases h
  | succ n ih =>
    intro a0 x1 x2 x3 x4 h
    rw [f_X12_fits_5] at h
    refine k_iload (pc := 5) C dX12_fits_5 4 rfl ?_
    refine k_aloadn (pc := 7) C dX12_fits_7 (i := 0) rfl 0 rfl ?_
    obtain ⟨hs10, h⟩ := gp_e h
    have hs1 := sok_e hs10
    obtain ⟨b2, hb2, h⟩ := rl_e h
    refine k_getR (pc := 8) C lkF_RX12_9_12 hs1 ir_12_0 hb2 dX12_fits_8 ?_
    refine k_bipush (pc := 11) C (v := (6 : Int32)) dX12_fits_11 (by decide) ?_
    obtain ⟨ha3, h⟩ := gp_e h
    refine k_iald (pc := 13) C ha3 dX12_fits_13 ?_
    refine k_icmp_ge (pc := 14) C dX12_fits_14 (tgt := 86) (by decide) (fun hc4 => ?_) (fun hc4 => ?_)
    · rw [if_pos hc4] at h
      refine k_iloadn (pc := 86) C dX12_fits_86 (i := 3) rfl 3 rfl ?_
      obtain ⟨hz5, h⟩ := gp_e h
      have h := Option.some.inj h
      subst h
      exact k_zret (pc := 87) C hr hk (of_decide_eq_true hz5) dX12_fits_87
    · rw [if_neg hc4] at h
      refine k_aloadn (pc := 17) C dX12_fits_17 (i := 0) rfl 0 rfl ?_
      refine k_aloadn (pc := 18) C dX12_fits_18 (i := 0) rfl 0 rfl ?_
      obtain ⟨b6, hb6, h⟩ := rl_e h
      refine k_getR (pc := 19) C lkF_RX12_9_12 hs1 ir_12_0 hb6 dX12_fits_19 ?_
      refine k_bipush (pc := 22) C (v := (61 : Int32)) dX12_fits_22 (by decide) ?_
      refine k_iconst (pc := 24) C (v := (2 : Int32)) dX12_fits_24 (by decide) ?_
      refine k_iload (pc := 25) C dX12_fits_25 4 rfl ?_
      refine k_imul (pc := 27) C dX12_fits_27 ?_
      refine k_iadd (pc := 28) C dX12_fits_28 ?_
      obtain ⟨ha7, h⟩ := gp_e h
      refine k_iald (pc := 29) C ha7 dX12_fits_29 ?_
      refine k_iloadn (pc := 30) C dX12_fits_30 (i := 1) rfl 1 rfl ?_
      obtain ⟨r8, hr8, h⟩ := bd_e h
      refine k_V (pc := 31) (st := []) C (c_X12_could hr8) lkV_RX12_304 hs1 rfl rfl rfl (Nat.le_of_ble_eq_true rfl) (Nat.le_of_ble_eq_true rfl) (Nat.le_of_ble_eq_true rfl) (Nat.le_of_ble_eq_true rfl) (Nat.le_of_ble_eq_true rfl) dX12_fits_31 ?_
      refine k_nf (cells2 := 0) (slots2 := 0) (st2 := [.int r8]) rfl rfl rfl ?_
      refine k_istore (pc := 34) C dX12_fits_34 (by decide) (L2 := [(0, .ref (E.1 + a0)), (1, .int x1), (2, .int x2), (3, .int x3), (4, .int x4), (5, .int r8)]) rfl ?_
      refine k_iloadn (pc := 36) C dX12_fits_36 (i := 3) rfl 3 rfl ?_
      refine k_if_eq (pc := 37) C dX12_fits_37 (tgt := 78) (by decide) (fun hc9 => ?_) (fun hc9 => ?_)
      · rw [if_pos hc9] at h
        refine k_loc (L2 := [(0, .ref (E.1 + a0)), (1, .int x1), (2, .int x2), (4, .int x4)]) [0, 1, 2, 4] rfl ?_
        exact b_X12_fits_78 C hr hk ih _ _ _ _ h
      · rw [if_neg hc9] at h
        refine k_iload (pc := 40) C dX12_fits_40 4 rfl ?_
        refine k_iloadn (pc := 42) C dX12_fits_42 (i := 2) rfl 2 rfl ?_
        refine k_icmp_eq (pc := 43) C dX12_fits_43 (tgt := 74) (by decide) (fun hc10 => ?_) (fun hc10 => ?_)
        · rw [if_pos hc10] at h
          refine k_loc (L2 := [(0, .ref (E.1 + a0)), (1, .int x1), (2, .int x2), (4, .int x4)]) [0, 1, 2, 4] rfl ?_
          exact b_X12_fits_74 C hr hk ih _ _ _ _ h
        · rw [if_neg hc10] at h
          refine k_iload (pc := 46) C dX12_fits_46 5 rfl ?_
          refine k_aloadn (pc := 48) C dX12_fits_48 (i := 0) rfl 0 rfl ?_
          obtain ⟨b11, hb11, h⟩ := rl_e h
          refine k_getR (pc := 49) C lkF_RX12_9_12 hs1 ir_12_0 hb11 dX12_fits_49 ?_
          refine k_bipush (pc := 52) C (v := (61 : Int32)) dX12_fits_52 (by decide) ?_
          refine k_iconst (pc := 54) C (v := (2 : Int32)) dX12_fits_54 (by decide) ?_
          refine k_iload (pc := 55) C dX12_fits_55 4 rfl ?_
          refine k_imul (pc := 57) C dX12_fits_57 ?_
          refine k_iadd (pc := 58) C dX12_fits_58 ?_
          refine k_iconst (pc := 59) C (v := (1 : Int32)) dX12_fits_59 (by decide) ?_
          refine k_iadd (pc := 60) C dX12_fits_60 ?_
          obtain ⟨ha12, h⟩ := gp_e h
          refine k_iald (pc := 61) C ha12 dX12_fits_61 ?_
          refine k_iconst (pc := 62) C (v := (1 : Int32)) dX12_fits_62 (by decide) ?_
          refine k_icmp_ne (pc := 63) C dX12_fits_63 (tgt := 70) (by decide) (fun hc13 => ?_) (fun hc13 => ?_)
          · rw [if_neg hc13] at h
            refine k_iconst (pc := 70) C (v := (0 : Int32)) dX12_fits_70 (by decide) ?_
            refine k_loc (L2 := [(0, .ref (E.1 + a0)), (1, .int x1), (2, .int x2), (4, .int x4)]) [0, 1, 2, 4] rfl ?_
            exact b_X12_fits_71 C hr hk ih _ _ _ _ _ _ h
          · rw [if_pos hc13] at h
            refine k_iconst (pc := 66) C (v := (1 : Int32)) dX12_fits_66 (by decide) ?_
            refine k_goto (pc := 67) C dX12_fits_67 (tgt := 71) (by decide) ?_
            refine k_loc (L2 := [(0, .ref (E.1 + a0)), (1, .int x1), (2, .int x2), (4, .int x4)]) [0, 1, 2, 4] rfl ?_
            exact b_X12_fits_71 C hr hk ih _ _ _ _ _ _ h
def f_X12_fits (S : Sh) (R : Rw) (I : Iw)  (a0 : Nat) (x1 : Int32) (x2 : Int32) : Option (Int32) := f_X12_fits_5 S R I  512 a0 x1 x2 (1 : Int32) (0 : Int32)
set_option maxHeartbeats 4000000 in
theorem b_X12_fits {E : Ev} {p : Program} {l : Launch} {e : Env} {s : State} {m : MethodId} {args : Array Value} {below : List Frame} {meth : Method} {c : Code} (C : Cx E RX12 cX12_fits 6 p s m c) (hr : meth.sig.returnType = (some .boolean)) (hk : meth.locks = false) {S : Sh} {R : Rw} {I : Iw} {r : Int32}  : ∀ (a0 : Nat) (x1 : Int32) (x2 : Int32), f_X12_fits S R I   a0 x1 x2 = some r → Wk E 6 p l e ({ frames := 3, cells := 0, slots := 0, locals := 65 } : Room) s m args below meth c 0 0 (MQ below (Qw E S R I (some (.int r))) args s 0 0 (fun q => E.1 ≤ q)) 0 [(0, .ref (E.1 + a0)), (1, .int x1), (2, .int x2)] [] S R I := by
  intro a0 x1 x2 h
  rw [f_X12_fits] at h
  refine k_iconst (pc := 0) C (v := (1 : Int32)) dX12_fits_0 (by decide) ?_
  refine k_istoren (pc := 1) C dX12_fits_1 (i := 3) rfl (by decide) (L2 := [(0, .ref (E.1 + a0)), (1, .int x1), (2, .int x2), (3, .int (1 : Int32))]) rfl ?_
  refine k_iconst (pc := 2) C (v := (0 : Int32)) dX12_fits_2 (by decide) ?_
  refine k_istore (pc := 3) C dX12_fits_3 (by decide) (L2 := [(0, .ref (E.1 + a0)), (1, .int x1), (2, .int x2), (3, .int (1 : Int32)), (4, .int (0 : Int32))]) rfl ?_
  exact b_X12_fits_5 C hr hk  _ _ _ _ _ _ h
theorem c_X12_fits {E : Ev} {l : Launch} {S : Sh} {R : Rw} {I : Iw} {a0 : Nat} {x1 : Int32} {x2 : Int32} {r : Int32} (h : f_X12_fits S R I a0 x1 x2 = some r) : Mt E l yX12_fits cX12_fits 6 (some .boolean) 3 65 [.ref (E.1 + a0), .int x1, .int x2] S R I S R I (some (.int r)) 0 0 := mt_of (by decide) (Nat.le_of_ble_eq_true rfl) (fun p e s m args below meth c C hr hk hn => b_X12_fits C hr hk _ _ _ h)
theorem lkV_RX12_307 : LkV RX12 307 RX12 yX12_fits cX12_fits 6 (some .boolean) 2 := ⟨(t7_in 10 (by decide +kernel) rfl), (t7_in 12 (by decide +kernel) rfl), (t0_in 66 (by decide +kernel) rfl), (t7_in 13 (by decide +kernel) rfl), (t1_in 7 (by decide +kernel) rfl), by decide, by decide +kernel⟩
theorem dX12_fitting_0 : decode cX12_fitting 0 = .ok (.iconst 0, 1) := by decide +kernel
theorem dX12_fitting_1 : decode cX12_fitting 1 = .ok (.istore_n 2, 1) := by decide +kernel
theorem dX12_fitting_2 : decode cX12_fitting 2 = .ok (.iconst 0, 1) := by decide +kernel
theorem dX12_fitting_3 : decode cX12_fitting 3 = .ok (.istore_n 3, 1) := by decide +kernel
theorem dX12_fitting_4 : decode cX12_fitting 4 = .ok (.iload_n 3, 1) := by decide +kernel
theorem dX12_fitting_5 : decode cX12_fitting 5 = .ok (.aload_n 0, 1) := by decide +kernel
theorem dX12_fitting_6 : decode cX12_fitting 6 = .ok (.getfield 9, 3) := by decide +kernel
theorem dX12_fitting_9 : decode cX12_fitting 9 = .ok (.iconst 3, 1) := by decide +kernel
theorem dX12_fitting_10 : decode cX12_fitting 10 = .ok (.iaload, 1) := by decide +kernel
theorem dX12_fitting_11 : decode cX12_fitting 11 = .ok (.if_icmp .gt 28, 3) := by decide +kernel
theorem dX12_fitting_14 : decode cX12_fitting 14 = .ok (.iload_n 2, 1) := by decide +kernel
theorem dX12_fitting_15 : decode cX12_fitting 15 = .ok (.aload_n 0, 1) := by decide +kernel
theorem dX12_fitting_16 : decode cX12_fitting 16 = .ok (.iload_n 3, 1) := by decide +kernel
theorem dX12_fitting_17 : decode cX12_fitting 17 = .ok (.iload_n 1, 1) := by decide +kernel
theorem dX12_fitting_18 : decode cX12_fitting 18 = .ok (.invokevirtual 307, 3) := by decide +kernel
theorem dX12_fitting_21 : decode cX12_fitting 21 = .ok (.ifCond .eq 9, 3) := by decide +kernel
theorem dX12_fitting_24 : decode cX12_fitting 24 = .ok (.iconst 1, 1) := by decide +kernel
theorem dX12_fitting_25 : decode cX12_fitting 25 = .ok (.iload_n 3, 1) := by decide +kernel
theorem dX12_fitting_26 : decode cX12_fitting 26 = .ok (.ishl, 1) := by decide +kernel
theorem dX12_fitting_27 : decode cX12_fitting 27 = .ok (.goto 4, 3) := by decide +kernel
theorem dX12_fitting_30 : decode cX12_fitting 30 = .ok (.iconst 0, 1) := by decide +kernel
theorem dX12_fitting_31 : decode cX12_fitting 31 = .ok (.ior, 1) := by decide +kernel
theorem dX12_fitting_32 : decode cX12_fitting 32 = .ok (.istore_n 2, 1) := by decide +kernel
theorem dX12_fitting_33 : decode cX12_fitting 33 = .ok (.iinc 3 1, 3) := by decide +kernel
theorem dX12_fitting_36 : decode cX12_fitting 36 = .ok (.goto (-32), 3) := by decide +kernel
theorem dX12_fitting_39 : decode cX12_fitting 39 = .ok (.iload_n 2, 1) := by decide +kernel
theorem dX12_fitting_40 : decode cX12_fitting 40 = .ok (.ireturn, 1) := by decide +kernel
def f_X12_fitting_31 (S : Sh) (R : Rw) (I : Iw) (ko4 : Nat → Int32 → Int32 → Int32 → Option (Int32)) (a0 : Nat) (x1 : Int32) (x3 : Int32) (s0 : Int32) (s1 : Int32) : Option (Int32) := ko4 a0 x1 (s1 ||| s0) (x3 + (1 : Int32))
set_option maxHeartbeats 4000000 in
theorem b_X12_fitting_31 {E : Ev} {p : Program} {l : Launch} {e : Env} {s : State} {m : MethodId} {args : Array Value} {below : List Frame} {meth : Method} {c : Code} (C : Cx E RX12 cX12_fitting 4 p s m c) (hr : meth.sig.returnType = (some .int)) (hk : meth.locks = false) {S : Sh} {R : Rw} {I : Iw} {r : Int32}  {ko4 : Nat → Int32 → Int32 → Int32 → Option (Int32)} (hko4 : ∀ (a0 : Nat) (x1 : Int32) (x2 : Int32) (x3 : Int32), ko4 a0 x1 x2 x3 = some r → Wk E 4 p l e ({ frames := 4, cells := 0, slots := 0, locals := 90 } : Room) s m args below meth c 0 0 (MQ below (Qw E S R I (some (.int r))) args s 0 0 (fun q => E.1 ≤ q)) 4 [(0, .ref (E.1 + a0)), (1, .int x1), (2, .int x2), (3, .int x3)] [] S R I) : ∀ (a0 : Nat) (x1 : Int32) (x3 : Int32) (s0 : Int32) (s1 : Int32), f_X12_fitting_31 S R I ko4  a0 x1 x3 s0 s1 = some r → Wk E 4 p l e ({ frames := 4, cells := 0, slots := 0, locals := 90 } : Room) s m args below meth c 0 0 (MQ below (Qw E S R I (some (.int r))) args s 0 0 (fun q => E.1 ≤ q)) 31 [(0, .ref (E.1 + a0)), (1, .int x1), (3, .int x3)] [.int s0, .int s1] S R I := by
  intro a0 x1 x3 s0 s1 h
  rw [f_X12_fitting_31] at h
  refine k_ior (pc := 31) C dX12_fitting_31 ?_
  refine k_istoren (pc := 32) C dX12_fitting_32 (i := 2) rfl (by decide) (L2 := [(0, .ref (E.1 + a0)), (1, .int x1), (2, .int (s1 ||| s0)), (3, .int x3)]) rfl ?_
  refine k_iinc (pc := 33) C dX12_fitting_33 3 rfl (v := x3 + (1 : Int32)) (by rfl) (by decide) (L2 := [(0, .ref (E.1 + a0)), (1, .int x1), (2, .int (s1 ||| s0)), (3, .int (x3 + (1 : Int32)))]) rfl ?_
  refine k_goto (pc := 36) C dX12_fitting_36 (tgt := 4) (by decide) ?_
  exact hko4 _ _ _ _ h
def f_X12_fitting_4 (S : Sh) (R : Rw) (I : Iw)  : Nat → Nat → Int32 → Int32 → Int32 → Option (Int32)
  | 0, _, _, _, _ => none
  | n + 1, a0, x1, x2, x3 => gp (sok S a0 12 34) (rl (R a0 0) (fun b2 => gp (aok S 20 b2 (3 : Int32)) ((if (I b2 (3 : Int32).toNatClampNeg) < x3 then some x2 else bd (f_X12_fits S R I a0 x3 x1) (fun r5 => (if r5 = 0 then f_X12_fitting_31 S R I (f_X12_fitting_4 S R I  n) a0 x1 x3 (0 : Int32) x2 else f_X12_fitting_31 S R I (f_X12_fitting_4 S R I  n) a0 x1 x3 ((1 : Int32) <<< (x3 &&& 31)) x2))))))
set_option maxHeartbeats 4000000 in
theorem b_X12_fitting_4 {E : Ev} {p : Program} {l : Launch} {e : Env} {s : State} {m : MethodId} {args : Array Value} {below : List Frame} {meth : Method} {c : Code} (C : Cx E RX12 cX12_fitting 4 p s m c) (hr : meth.sig.returnType = (some .int)) (hk : meth.locks = false) {S : Sh} {R : Rw} {I : Iw} {r : Int32}  : ∀ (n : Nat) (a0 : Nat) (x1 : Int32) (x2 : Int32) (x3 : Int32), f_X12_fitting_4 S R I  n a0 x1 x2 x3 = some r → Wk E 4 p l e ({ frames := 4, cells := 0, slots := 0, locals := 90 } : Room) s m args below meth c 0 0 (MQ below (Qw E S R I (some (.int r))) args s 0 0 (fun q => E.1 ≤ q)) 4 [(0, .ref (E.1 + a0)), (1, .int x1), (2, .int x2), (3, .int x3)] [] S R I := by
  intro n
  induction n with
  | zero =>
    intro a0 x1 x2 x3 h
    rw [f_X12_fitting_4] at h
    cases h
  | succ n ih =>
    intro a0 x1 x2 x3 h
    rw [f_X12_fitting_4] at h
    refine k_iloadn (pc := 4) C dX12_fitting_4 (i := 3) rfl 3 rfl ?_
    refine k_aloadn (pc := 5) C dX12_fitting_5 (i := 0) rfl 0 rfl ?_
    obtain ⟨hs10, h⟩ := gp_e h
    have hs1 := sok_e hs10
    obtain ⟨b2, hb2, h⟩ := rl_e h
    refine k_getR (pc := 6) C lkF_RX12_9_12 hs1 ir_12_0 hb2 dX12_fitting_6 ?_
    refine k_iconst (pc := 9) C (v := (3 : Int32)) dX12_fitting_9 (by decide) ?_
    obtain ⟨ha3, h⟩ := gp_e h
    refine k_iald (pc := 10) C ha3 dX12_fitting_10 ?_
    refine k_icmp_gt (pc := 11) C dX12_fitting_11 (tgt := 39) (by decide) (fun hc4 => ?_) (fun hc4 => ?_)
    · rw [if_pos hc4] at h
      refine k_iloadn (pc := 39) C dX12_fitting_39 (i := 2) rfl 2 rfl ?_
      have h := Option.some.inj h
      subst h
      exact k_iret (pc := 40) C hr hk dX12_fitting_40
    · rw [if_neg hc4] at h
      refine k_iloadn (pc := 14) C dX12_fitting_14 (i := 2) rfl 2 rfl ?_
      refine k_aloadn (pc := 15) C dX12_fitting_15 (i := 0) rfl 0 rfl ?_
      refine k_iloadn (pc := 16) C dX12_fitting_16 (i := 3) rfl 3 rfl ?_
      refine k_iloadn (pc := 17) C dX12_fitting_17 (i := 1) rfl 1 rfl ?_
      obtain ⟨r5, hr5, h⟩ := bd_e h
      refine k_V (pc := 18) (st := [.int x2]) C (c_X12_fits hr5) lkV_RX12_307 hs1 rfl rfl rfl (Nat.le_of_ble_eq_true rfl) (Nat.le_of_ble_eq_true rfl) (Nat.le_of_ble_eq_true rfl) (Nat.le_of_ble_eq_true rfl) (Nat.le_of_ble_eq_true rfl) dX12_fitting_18 ?_
      refine k_nf (cells2 := 0) (slots2 := 0) (st2 := [.int r5, .int x2]) rfl rfl rfl ?_
      refine k_if_eq (pc := 21) C dX12_fitting_21 (tgt := 30) (by decide) (fun hc6 => ?_) (fun hc6 => ?_)
      · rw [if_pos hc6] at h
        refine k_iconst (pc := 30) C (v := (0 : Int32)) dX12_fitting_30 (by decide) ?_
        refine k_loc (L2 := [(0, .ref (E.1 + a0)), (1, .int x1), (3, .int x3)]) [0, 1, 3] rfl ?_
        exact b_X12_fitting_31 C hr hk ih _ _ _ _ _ h
      · rw [if_neg hc6] at h
        refine k_iconst (pc := 24) C (v := (1 : Int32)) dX12_fitting_24 (by decide) ?_
        refine k_iloadn (pc := 25) C dX12_fitting_25 (i := 3) rfl 3 rfl ?_
        refine k_ishl (pc := 26) C dX12_fitting_26 ?_
        refine k_goto (pc := 27) C dX12_fitting_27 (tgt := 31) (by decide) ?_
        refine k_loc (L2 := [(0, .ref (E.1 + a0)), (1, .int x1), (3, .int x3)]) [0, 1, 3] rfl ?_
        exact b_X12_fitting_31 C hr hk ih _ _ _ _ _ h
def f_X12_fitting (S : Sh) (R : Rw) (I : Iw)  (a0 : Nat) (x1 : Int32) : Option (Int32) := f_X12_fitting_4 S R I  512 a0 x1 (0 : Int32) (0 : Int32)
set_option maxHeartbeats 4000000 in
theorem b_X12_fitting {E : Ev} {p : Program} {l : Launch} {e : Env} {s : State} {m : MethodId} {args : Array Value} {below : List Frame} {meth : Method} {c : Code} (C : Cx E RX12 cX12_fitting 4 p s m c) (hr : meth.sig.returnType = (some .int)) (hk : meth.locks = false) {S : Sh} {R : Rw} {I : Iw} {r : Int32}  : ∀ (a0 : Nat) (x1 : Int32), f_X12_fitting S R I   a0 x1 = some r → Wk E 4 p l e ({ frames := 4, cells := 0, slots := 0, locals := 90 } : Room) s m args below meth c 0 0 (MQ below (Qw E S R I (some (.int r))) args s 0 0 (fun q => E.1 ≤ q)) 0 [(0, .ref (E.1 + a0)), (1, .int x1)] [] S R I := by
  intro a0 x1 h
  rw [f_X12_fitting] at h
  refine k_iconst (pc := 0) C (v := (0 : Int32)) dX12_fitting_0 (by decide) ?_
  refine k_istoren (pc := 1) C dX12_fitting_1 (i := 2) rfl (by decide) (L2 := [(0, .ref (E.1 + a0)), (1, .int x1), (2, .int (0 : Int32))]) rfl ?_
  refine k_iconst (pc := 2) C (v := (0 : Int32)) dX12_fitting_2 (by decide) ?_
  refine k_istoren (pc := 3) C dX12_fitting_3 (i := 3) rfl (by decide) (L2 := [(0, .ref (E.1 + a0)), (1, .int x1), (2, .int (0 : Int32)), (3, .int (0 : Int32))]) rfl ?_
  exact b_X12_fitting_4 C hr hk  _ _ _ _ _ h
theorem c_X12_fitting {E : Ev} {l : Launch} {S : Sh} {R : Rw} {I : Iw} {a0 : Nat} {x1 : Int32} {r : Int32} (h : f_X12_fitting S R I a0 x1 = some r) : Mt E l yX12_fitting cX12_fitting 4 (some .int) 4 90 [.ref (E.1 + a0), .int x1] S R I S R I (some (.int r)) 0 0 := mt_of (by decide) (Nat.le_of_ble_eq_true rfl) (fun p e s m args below meth c C hr hk hn => b_X12_fitting C hr hk _ _ h)
