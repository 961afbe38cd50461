/-! X11_again -/
theorem lkF_RX11_302_11 : LkF RX11 302 11 2 := ⟨RX11, TX11, 12, "UnlikeNeighbours", fc11, by decide, (t1_in 235 (by decide +kernel) rfl), Or.inl rfl⟩
theorem dX11_again_0 : decode cX11_again 0 = .ok (.aload_n 0, 1) := by decide +kernel
theorem dX11_again_1 : decode cX11_again 1 = .ok (.getfield 302, 3) := by decide +kernel
theorem dX11_again_4 : decode cX11_again 4 = .ok (.ifCond .ne 6, 3) := by decide +kernel
theorem dX11_again_7 : decode cX11_again 7 = .ok (.bipush (-3), 2) := by decide +kernel
theorem dX11_again_9 : decode cX11_again 9 = .ok (.ireturn, 1) := by decide +kernel
theorem dX11_again_10 : decode cX11_again 10 = .ok (.aload_n 0, 1) := by decide +kernel
theorem dX11_again_11 : decode cX11_again 11 = .ok (.getfield 12, 3) := by decide +kernel
theorem dX11_again_14 : decode cX11_again 14 = .ok (.aload_n 0, 1) := by decide +kernel
theorem dX11_again_15 : decode cX11_again 15 = .ok (.getfield 16, 3) := by decide +kernel
theorem dX11_again_18 : decode cX11_again 18 = .ok (.invokevirtual 299, 3) := by decide +kernel
theorem dX11_again_21 : decode cX11_again 21 = .ok (.aload_n 0, 1) := by decide +kernel
theorem dX11_again_22 : decode cX11_again 22 = .ok (.getfield 12, 3) := by decide +kernel
theorem dX11_again_25 : decode cX11_again 25 = .ok (.getfield 179, 3) := by decide +kernel
theorem dX11_again_28 : decode cX11_again 28 = .ok (.ireturn, 1) := by decide +kernel
def f_X11_again (S : Sh) (R : Rw)  (I : Iw) (a0 : Nat) : Option (Iw × Int32) := gp (sok S a0 11 12) ((if (I a0 2) = 0 then some (I, (-3 : Int32)) else rl (R a0 0) (fun b3 => rl (R a0 1) (fun b4 => gp (sok S b3 7 16) (bd (f_X7_copyFrom S R I b3 b4) (fun r6 => rl (R a0 0) (fun b7 => gp (sok S b7 7 16) (some (r6, r6 b7 5)))))))))
set_option maxHeartbeats 4000000 in
theorem b_X11_again {E : Ev} {p : Program} {l : Launch} {e : Env} {s : State} {m : MethodId} {args : Array Value} {below : List Frame} {meth : Method} {c : Code} (C : Cx E RX11 cX11_again 1 p s m c) (hr : meth.sig.returnType = (some .int)) (hk : meth.locks = false) {S : Sh} {R : Rw} {r : Iw × Int32}  : ∀ (I : Iw) (a0 : Nat), f_X11_again S R   I a0 = some r → Wk E 1 p l e ({ frames := 3, cells := 0, slots := 0, locals := 102 } : Room) s m args below meth c 0 0 (MQ below (Qw E S R r.1 (some (.int r.2))) args s 0 0 (fun q => E.1 ≤ q)) 0 [(0, .ref (E.1 + a0))] [] S R I := by
  intro I a0 h
  rw [f_X11_again] at h
  refine k_aloadn (pc := 0) C dX11_again_0 (i := 0) rfl 0 rfl ?_
  obtain ⟨hs10, h⟩ := gp_e h
  have hs1 := sok_e hs10
  refine k_getI (pc := 1) C lkF_RX11_302_11 hs1 ir_11_2 dX11_again_1 ?_
  refine k_if_ne (pc := 4) C dX11_again_4 (tgt := 10) (by decide) (fun hc2 => ?_) (fun hc2 => ?_)
  · rw [if_neg hc2] at h
    refine k_aloadn (pc := 10) C dX11_again_10 (i := 0) rfl 0 rfl ?_
    obtain ⟨b3, hb3, h⟩ := rl_e h
    refine k_getR (pc := 11) C lkF_RX11_12_11 hs1 ir_11_0 hb3 dX11_again_11 ?_
    refine k_aloadn (pc := 14) C dX11_again_14 (i := 0) rfl 0 rfl ?_
    obtain ⟨b4, hb4, h⟩ := rl_e h
    refine k_getR (pc := 15) C lkF_RX11_16_11 hs1 ir_11_1 hb4 dX11_again_15 ?_
    obtain ⟨hs50, h⟩ := gp_e h
    have hs5 := sok_e hs50
    obtain ⟨r6, hr6, h⟩ := bd_e h
    refine k_V (pc := 18) (st := []) C (c_X7_copyFrom hr6) lkV_RX11_299 hs5 rfl rfl rfl (Nat.le_of_ble_eq_true rfl) (Nat.le_of_ble_eq_true rfl) (Nat.le_of_ble_eq_true rfl) (Nat.le_of_ble_eq_true rfl) (Nat.le_of_ble_eq_true rfl) dX11_again_18 ?_
    refine k_nf (cells2 := 0) (slots2 := 0) (st2 := []) rfl rfl rfl ?_
    refine k_aloadn (pc := 21) C dX11_again_21 (i := 0) rfl 0 rfl ?_
    obtain ⟨b7, hb7, h⟩ := rl_e h
    refine k_getR (pc := 22) C lkF_RX11_12_11 hs1 ir_11_0 hb7 dX11_again_22 ?_
    obtain ⟨hs80, h⟩ := gp_e h
    have hs8 := sok_e hs80
    refine k_getI (pc := 25) C lkF_RX11_179_7 hs8 ir_7_5 dX11_again_25 ?_
    have h := Option.some.inj h
    subst h
    exact k_iret (pc := 28) C hr hk dX11_again_28
  · rw [if_pos hc2] at h
    refine k_bipush (pc := 7) C (v := (-3 : Int32)) dX11_again_7 (by decide) ?_
    have h := Option.some.inj h
    subst h
    exact k_iret (pc := 9) C hr hk dX11_again_9
theorem c_X11_again {E : Ev} {l : Launch} {S : Sh} {R : Rw} {I : Iw} {a0 : Nat} {r : Iw × Int32} (h : f_X11_again S R I a0 = some r) : Mt E l yX11_again cX11_again 1 (some .int) 3 102 [.ref (E.1 + a0)] S R I S R r.1 (some (.int r.2)) 0 0 := mt_of (by decide) (Nat.le_of_ble_eq_true rfl) (fun p e s m args below meth c C hr hk hn => b_X11_again C hr hk _ _ h)
