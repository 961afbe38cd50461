/-! X12_goodOf, X12_change, X12_remake, X12_let, X12_beside, X12_mates -/
theorem lkV_RX12_251 : LkV RX12 251 RX12 yX12_is cX12_is 3 (some .boolean) 2 := ⟨(t6_in 32 (by decide +kernel) rfl), (t6_in 34 (by decide +kernel) rfl), (t0_in 40 (by decide +kernel) rfl), (t6_in 35 (by decide +kernel) rfl), (t1_in 7 (by decide +kernel) rfl), by decide, by decide +kernel⟩
theorem lkV_RX12_257 : LkV RX12 257 RX12 yX12_mayGo cX12_mayGo 2 (some .boolean) 1 := ⟨(t6_in 65 (by decide +kernel) rfl), (t6_in 67 (by decide +kernel) rfl), (t0_in 46 (by decide +kernel) rfl), (t6_in 68 (by decide +kernel) rfl), (t1_in 7 (by decide +kernel) rfl), by decide, by decide +kernel⟩
theorem lkV_RX12_254 : LkV RX12 254 RX12 yX12_fee cX12_fee 3 (some .int) 1 := ⟨(t6_in 40 (by decide +kernel) rfl), (t6_in 42 (by decide +kernel) rfl), (t0_in 42 (by decide +kernel) rfl), (t6_in 43 (by decide +kernel) rfl), (t1_in 7 (by decide +kernel) rfl), by decide, by decide +kernel⟩
theorem dX12_goodOf_0 : decode cX12_goodOf 0 = .ok (.aload_n 0, 1) := by decide +kernel
theorem dX12_goodOf_1 : decode cX12_goodOf 1 = .ok (.iload_n 1, 1) := by decide +kernel
theorem dX12_goodOf_2 : decode cX12_goodOf 2 = .ok (.iconst 3, 1) := by decide +kernel
theorem dX12_goodOf_3 : decode cX12_goodOf 3 = .ok (.invokevirtual 251, 3) := by decide +kernel
theorem dX12_goodOf_6 : decode cX12_goodOf 6 = .ok (.ifCond .eq 13, 3) := by decide +kernel
theorem dX12_goodOf_9 : decode cX12_goodOf 9 = .ok (.iload_n 2, 1) := by decide +kernel
theorem dX12_goodOf_10 : decode cX12_goodOf 10 = .ok (.iconst 0, 1) := by decide +kernel
theorem dX12_goodOf_11 : decode cX12_goodOf 11 = .ok (.bipush 6, 2) := by decide +kernel
theorem dX12_goodOf_13 : decode cX12_goodOf 13 = .ok (.invokestatic 98, 3) := by decide +kernel
theorem dX12_goodOf_16 : decode cX12_goodOf 16 = .ok (.ifCond .ne 5, 3) := by decide +kernel
theorem dX12_goodOf_19 : decode cX12_goodOf 19 = .ok (.iconst (-1), 1) := by decide +kernel
theorem dX12_goodOf_20 : decode cX12_goodOf 20 = .ok (.ireturn, 1) := by decide +kernel
theorem dX12_goodOf_21 : decode cX12_goodOf 21 = .ok (.iload_n 2, 1) := by decide +kernel
theorem dX12_goodOf_22 : decode cX12_goodOf 22 = .ok (.iconst 4, 1) := by decide +kernel
theorem dX12_goodOf_23 : decode cX12_goodOf 23 = .ok (.if_icmp .ge 10, 3) := by decide +kernel
theorem dX12_goodOf_26 : decode cX12_goodOf 26 = .ok (.aload_n 0, 1) := by decide +kernel
theorem dX12_goodOf_27 : decode cX12_goodOf 27 = .ok (.iload_n 1, 1) := by decide +kernel
theorem dX12_goodOf_28 : decode cX12_goodOf 28 = .ok (.iload_n 2, 1) := by decide +kernel
theorem dX12_goodOf_29 : decode cX12_goodOf 29 = .ok (.invokevirtual 209, 3) := by decide +kernel
theorem dX12_goodOf_32 : decode cX12_goodOf 32 = .ok (.ireturn, 1) := by decide +kernel
theorem dX12_goodOf_33 : decode cX12_goodOf 33 = .ok (.iload_n 2, 1) := by decide +kernel
theorem dX12_goodOf_34 : decode cX12_goodOf 34 = .ok (.iconst 4, 1) := by decide +kernel
theorem dX12_goodOf_35 : decode cX12_goodOf 35 = .ok (.if_icmp .ne 11, 3) := by decide +kernel
theorem dX12_goodOf_38 : decode cX12_goodOf 38 = .ok (.aload_n 0, 1) := by decide +kernel
theorem dX12_goodOf_39 : decode cX12_goodOf 39 = .ok (.iload_n 1, 1) := by decide +kernel
theorem dX12_goodOf_40 : decode cX12_goodOf 40 = .ok (.invokevirtual 254, 3) := by decide +kernel
theorem dX12_goodOf_43 : decode cX12_goodOf 43 = .ok (.goto 55, 3) := by decide +kernel
theorem dX12_goodOf_46 : decode cX12_goodOf 46 = .ok (.iload_n 2, 1) := by decide +kernel
theorem dX12_goodOf_47 : decode cX12_goodOf 47 = .ok (.bipush 6, 2) := by decide +kernel
theorem dX12_goodOf_49 : decode cX12_goodOf 49 = .ok (.if_icmp .ne 12, 3) := by decide +kernel
theorem dX12_goodOf_52 : decode cX12_goodOf 52 = .ok (.aload_n 0, 1) := by decide +kernel
theorem dX12_goodOf_53 : decode cX12_goodOf 53 = .ok (.iload_n 1, 1) := by decide +kernel
theorem dX12_goodOf_54 : decode cX12_goodOf 54 = .ok (.iconst 4, 1) := by decide +kernel
theorem dX12_goodOf_55 : decode cX12_goodOf 55 = .ok (.invokevirtual 209, 3) := by decide +kernel
theorem dX12_goodOf_58 : decode cX12_goodOf 58 = .ok (.goto 40, 3) := by decide +kernel
theorem dX12_goodOf_61 : decode cX12_goodOf 61 = .ok (.aload_n 0, 1) := by decide +kernel
theorem dX12_goodOf_62 : decode cX12_goodOf 62 = .ok (.iload_n 1, 1) := by decide +kernel
theorem dX12_goodOf_63 : decode cX12_goodOf 63 = .ok (.invokevirtual 257, 3) := by decide +kernel
theorem dX12_goodOf_66 : decode cX12_goodOf 66 = .ok (.ifCond .eq 7, 3) := by decide +kernel
theorem dX12_goodOf_69 : decode cX12_goodOf 69 = .ok (.iconst 3, 1) := by decide +kernel
theorem dX12_goodOf_70 : decode cX12_goodOf 70 = .ok (.goto 28, 3) := by decide +kernel
theorem dX12_goodOf_73 : decode cX12_goodOf 73 = .ok (.aload_n 0, 1) := by decide +kernel
theorem dX12_goodOf_74 : decode cX12_goodOf 74 = .ok (.iload_n 1, 1) := by decide +kernel
theorem dX12_goodOf_75 : decode cX12_goodOf 75 = .ok (.invokevirtual 245, 3) := by decide +kernel
theorem dX12_goodOf_78 : decode cX12_goodOf 78 = .ok (.ifCond .eq 7, 3) := by decide +kernel
theorem dX12_goodOf_81 : decode cX12_goodOf 81 = .ok (.iconst 2, 1) := by decide +kernel
theorem dX12_goodOf_82 : decode cX12_goodOf 82 = .ok (.goto 16, 3) := by decide +kernel
theorem dX12_goodOf_85 : decode cX12_goodOf 85 = .ok (.aload_n 0, 1) := by decide +kernel
theorem dX12_goodOf_86 : decode cX12_goodOf 86 = .ok (.iload_n 1, 1) := by decide +kernel
theorem dX12_goodOf_87 : decode cX12_goodOf 87 = .ok (.invokevirtual 233, 3) := by decide +kernel
theorem dX12_goodOf_90 : decode cX12_goodOf 90 = .ok (.ifCond .eq 7, 3) := by decide +kernel
theorem dX12_goodOf_93 : decode cX12_goodOf 93 = .ok (.iconst 1, 1) := by decide +kernel
theorem dX12_goodOf_94 : decode cX12_goodOf 94 = .ok (.goto 4, 3) := by decide +kernel
theorem dX12_goodOf_97 : decode cX12_goodOf 97 = .ok (.iconst 0, 1) := by decide +kernel
theorem dX12_goodOf_98 : decode cX12_goodOf 98 = .ok (.ireturn, 1) := by decide +kernel
def f_X12_goodOf (S : Sh) (R : Rw)  (I : Iw) (a0 : Nat) (x1 : Int32) (x2 : Int32) : Option (Iw × Int32) := gp (sok S a0 12 34) (bd (f_X12_is S R I a0 x1 (3 : Int32)) (fun r2 => (if r2 = 0 then some (I, (-1 : Int32)) else bd (f_X12_in S R I x2 (0 : Int32) (6 : Int32)) (fun r4 => (if r4 = 0 then some (I, (-1 : Int32)) else (if (4 : Int32) ≤ x2 then (if x2 = (4 : Int32) then bd (f_X12_fee S R I a0 x1) (fun r16 => some (r16.1, r16.2)) else (if x2 = (6 : Int32) then bd (f_X12_goodIs S R I a0 x1 (4 : Int32)) (fun r15 => some (I, r15)) else bd (f_X12_mayGo S R I a0 x1) (fun r9 => (if r9 = 0 then bd (f_X12_isTop S R I a0 x1) (fun r11 => (if r11 = 0 then bd (f_X12_isIn S R I a0 x1) (fun r13 => (if r13 = 0 then some (I, (0 : Int32)) else some (I, (1 : Int32)))) else some (I, (2 : Int32)))) else some (I, (3 : Int32)))))) else bd (f_X12_goodIs S R I a0 x1 x2) (fun r17 => some (I, r17))))))))
set_option maxHeartbeats 4000000 in
theorem b_X12_goodOf {E : Ev} {p : Program} {l : Launch} {e : Env} {s : State} {m : MethodId} {args : Array Value} {below : List Frame} {meth : Method} {c : Code} (C : Cx E RX12 cX12_goodOf 3 p s m c) (hr : meth.sig.returnType = (some .int)) (hk : meth.locks = false) {S : Sh} {R : Rw} {r : Iw × Int32}  : ∀ (I : Iw) (a0 : Nat) (x1 : Int32) (x2 : Int32), f_X12_goodOf S R   I a0 x1 x2 = some r → Wk E 3 p l e ({ frames := 6, cells := 0, slots := 0, locals := 138 } : Room) s m args below meth c 0 0 (MQ below (Qw E S R r.1 (some (.int r.2))) args s 0 0 (fun q => E.1 ≤ q)) 0 [(0, .ref (E.1 + a0)), (1, .int x1), (2, .int x2)] [] S R I := by
  intro I a0 x1 x2 h
  rw [f_X12_goodOf] at h
  refine k_aloadn (pc := 0) C dX12_goodOf_0 (i := 0) rfl 0 rfl ?_
  refine k_iloadn (pc := 1) C dX12_goodOf_1 (i := 1) rfl 1 rfl ?_
  refine k_iconst (pc := 2) C (v := (3 : Int32)) dX12_goodOf_2 (by decide) ?_
  obtain ⟨hs10, h⟩ := gp_e h
  have hs1 := sok_e hs10
  obtain ⟨r2, hr2, h⟩ := bd_e h
  refine k_V (pc := 3) (st := []) C (c_X12_is hr2) lkV_RX12_251 hs1 rfl rfl rfl (Nat.le_of_ble_eq_true rfl) (Nat.le_of_ble_eq_true rfl) (Nat.le_of_ble_eq_true rfl) (Nat.le_of_ble_eq_true rfl) (Nat.le_of_ble_eq_true rfl) dX12_goodOf_3 ?_
  refine k_nf (cells2 := 0) (slots2 := 0) (st2 := [.int r2]) rfl rfl rfl ?_
  refine k_if_eq (pc := 6) C dX12_goodOf_6 (tgt := 19) (by decide) (fun hc3 => ?_) (fun hc3 => ?_)
  · rw [if_pos hc3] at h
    refine k_iconst (pc := 19) C (v := (-1 : Int32)) dX12_goodOf_19 (by decide) ?_
    have h := Option.some.inj h
    subst h
    exact k_iret (pc := 20) C hr hk dX12_goodOf_20
  · rw [if_neg hc3] at h
    refine k_iloadn (pc := 9) C dX12_goodOf_9 (i := 2) rfl 2 rfl ?_
    refine k_iconst (pc := 10) C (v := (0 : Int32)) dX12_goodOf_10 (by decide) ?_
    refine k_bipush (pc := 11) C (v := (6 : Int32)) dX12_goodOf_11 (by decide) ?_
    obtain ⟨r4, hr4, h⟩ := bd_e h
    refine k_S (pc := 13) (st := []) C (c_X12_in hr4) lkS_RX12_98 rfl rfl (Nat.le_of_ble_eq_true rfl) (Nat.le_of_ble_eq_true rfl) (Nat.le_of_ble_eq_true rfl) (Nat.le_of_ble_eq_true rfl) (Nat.le_of_ble_eq_true rfl) dX12_goodOf_13 ?_
    refine k_nf (cells2 := 0) (slots2 := 0) (st2 := [.int r4]) rfl rfl rfl ?_
    refine k_if_ne (pc := 16) C dX12_goodOf_16 (tgt := 21) (by decide) (fun hc5 => ?_) (fun hc5 => ?_)
    · rw [if_neg hc5] at h
      refine k_iloadn (pc := 21) C dX12_goodOf_21 (i := 2) rfl 2 rfl ?_
      refine k_iconst (pc := 22) C (v := (4 : Int32)) dX12_goodOf_22 (by decide) ?_
      refine k_icmp_ge (pc := 23) C dX12_goodOf_23 (tgt := 33) (by decide) (fun hc6 => ?_) (fun hc6 => ?_)
      · rw [if_pos hc6] at h
        refine k_iloadn (pc := 33) C dX12_goodOf_33 (i := 2) rfl 2 rfl ?_
        refine k_iconst (pc := 34) C (v := (4 : Int32)) dX12_goodOf_34 (by decide) ?_
        refine k_icmp_ne (pc := 35) C dX12_goodOf_35 (tgt := 46) (by decide) (fun hc7 => ?_) (fun hc7 => ?_)
        · rw [if_neg hc7] at h
          refine k_iloadn (pc := 46) C dX12_goodOf_46 (i := 2) rfl 2 rfl ?_
          refine k_bipush (pc := 47) C (v := (6 : Int32)) dX12_goodOf_47 (by decide) ?_
          refine k_icmp_ne (pc := 49) C dX12_goodOf_49 (tgt := 61) (by decide) (fun hc8 => ?_) (fun hc8 => ?_)
          · rw [if_neg hc8] at h
            refine k_aloadn (pc := 61) C dX12_goodOf_61 (i := 0) rfl 0 rfl ?_
            refine k_iloadn (pc := 62) C dX12_goodOf_62 (i := 1) rfl 1 rfl ?_
            obtain ⟨r9, hr9, h⟩ := bd_e h
            refine k_V (pc := 63) (st := []) C (c_X12_mayGo hr9) lkV_RX12_257 hs1 rfl rfl rfl (Nat.le_of_ble_eq_true rfl) (Nat.le_of_ble_eq_true rfl) (Nat.le_of_ble_eq_true rfl) (Nat.le_of_ble_eq_true rfl) (Nat.le_of_ble_eq_true rfl) dX12_goodOf_63 ?_
            refine k_nf (cells2 := 0) (slots2 := 0) (st2 := [.int r9]) rfl rfl rfl ?_
            refine k_if_eq (pc := 66) C dX12_goodOf_66 (tgt := 73) (by decide) (fun hc10 => ?_) (fun hc10 => ?_)
            · rw [if_pos hc10] at h
              refine k_aloadn (pc := 73) C dX12_goodOf_73 (i := 0) rfl 0 rfl ?_
              refine k_iloadn (pc := 74) C dX12_goodOf_74 (i := 1) rfl 1 rfl ?_
              obtain ⟨r11, hr11, h⟩ := bd_e h
              refine k_V (pc := 75) (st := []) C (c_X12_isTop hr11) lkV_RX12_245 hs1 rfl rfl rfl (Nat.le_of_ble_eq_true rfl) (Nat.le_of_ble_eq_true rfl) (Nat.le_of_ble_eq_true rfl) (Nat.le_of_ble_eq_true rfl) (Nat.le_of_ble_eq_true rfl) dX12_goodOf_75 ?_
              refine k_nf (cells2 := 0) (slots2 := 0) (st2 := [.int r11]) rfl rfl rfl ?_
              refine k_if_eq (pc := 78) C dX12_goodOf_78 (tgt := 85) (by decide) (fun hc12 => ?_) (fun hc12 => ?_)
              · rw [if_pos hc12] at h
                refine k_aloadn (pc := 85) C dX12_goodOf_85 (i := 0) rfl 0 rfl ?_
                refine k_iloadn (pc := 86) C dX12_goodOf_86 (i := 1) rfl 1 rfl ?_
                obtain ⟨r13, hr13, h⟩ := bd_e h
                refine k_V (pc := 87) (st := []) C (c_X12_isIn hr13) lkV_RX12_233 hs1 rfl rfl rfl (Nat.le_of_ble_eq_true rfl) (Nat.le_of_ble_eq_true rfl) (Nat.le_of_ble_eq_true rfl) (Nat.le_of_ble_eq_true rfl) (Nat.le_of_ble_eq_true rfl) dX12_goodOf_87 ?_
                refine k_nf (cells2 := 0) (slots2 := 0) (st2 := [.int r13]) rfl rfl rfl ?_
                refine k_if_eq (pc := 90) C dX12_goodOf_90 (tgt := 97) (by decide) (fun hc14 => ?_) (fun hc14 => ?_)
                · rw [if_pos hc14] at h
                  refine k_iconst (pc := 97) C (v := (0 : Int32)) dX12_goodOf_97 (by decide) ?_
                  have h := Option.some.inj h
                  subst h
                  exact k_iret (pc := 98) C hr hk dX12_goodOf_98
                · rw [if_neg hc14] at h
                  refine k_iconst (pc := 93) C (v := (1 : Int32)) dX12_goodOf_93 (by decide) ?_
                  refine k_goto (pc := 94) C dX12_goodOf_94 (tgt := 98) (by decide) ?_
                  have h := Option.some.inj h
                  subst h
                  exact k_iret (pc := 98) C hr hk dX12_goodOf_98
              · rw [if_neg hc12] at h
                refine k_iconst (pc := 81) C (v := (2 : Int32)) dX12_goodOf_81 (by decide) ?_
                refine k_goto (pc := 82) C dX12_goodOf_82 (tgt := 98) (by decide) ?_
                have h := Option.some.inj h
                subst h
                exact k_iret (pc := 98) C hr hk dX12_goodOf_98
            · rw [if_neg hc10] at h
              refine k_iconst (pc := 69) C (v := (3 : Int32)) dX12_goodOf_69 (by decide) ?_
              refine k_goto (pc := 70) C dX12_goodOf_70 (tgt := 98) (by decide) ?_
              have h := Option.some.inj h
              subst h
              exact k_iret (pc := 98) C hr hk dX12_goodOf_98
          · rw [if_pos hc8] at h
            refine k_aloadn (pc := 52) C dX12_goodOf_52 (i := 0) rfl 0 rfl ?_
            refine k_iloadn (pc := 53) C dX12_goodOf_53 (i := 1) rfl 1 rfl ?_
            refine k_iconst (pc := 54) C (v := (4 : Int32)) dX12_goodOf_54 (by decide) ?_
            obtain ⟨r15, hr15, h⟩ := bd_e h
            refine k_V (pc := 55) (st := []) C (c_X12_goodIs hr15) lkV_RX12_209 hs1 rfl rfl rfl (Nat.le_of_ble_eq_true rfl) (Nat.le_of_ble_eq_true rfl) (Nat.le_of_ble_eq_true rfl) (Nat.le_of_ble_eq_true rfl) (Nat.le_of_ble_eq_true rfl) dX12_goodOf_55 ?_
            refine k_nf (cells2 := 0) (slots2 := 0) (st2 := [.int r15]) rfl rfl rfl ?_
            refine k_goto (pc := 58) C dX12_goodOf_58 (tgt := 98) (by decide) ?_
            have h := Option.some.inj h
            subst h
            exact k_iret (pc := 98) C hr hk dX12_goodOf_98
        · rw [if_pos hc7] at h
          refine k_aloadn (pc := 38) C dX12_goodOf_38 (i := 0) rfl 0 rfl ?_
          refine k_iloadn (pc := 39) C dX12_goodOf_39 (i := 1) rfl 1 rfl ?_
          obtain ⟨r16, hr16, h⟩ := bd_e h
          refine k_V (pc := 40) (st := []) C (c_X12_fee hr16) lkV_RX12_254 hs1 rfl rfl rfl (Nat.le_of_ble_eq_true rfl) (Nat.le_of_ble_eq_true rfl) (Nat.le_of_ble_eq_true rfl) (Nat.le_of_ble_eq_true rfl) (Nat.le_of_ble_eq_true rfl) dX12_goodOf_40 ?_
          refine k_nf (cells2 := 0) (slots2 := 0) (st2 := [.int r16.2]) rfl rfl rfl ?_
          refine k_goto (pc := 43) C dX12_goodOf_43 (tgt := 98) (by decide) ?_
          have h := Option.some.inj h
          subst h
          exact k_iret (pc := 98) C hr hk dX12_goodOf_98
      · rw [if_neg hc6] at h
        refine k_aloadn (pc := 26) C dX12_goodOf_26 (i := 0) rfl 0 rfl ?_
        refine k_iloadn (pc := 27) C dX12_goodOf_27 (i := 1) rfl 1 rfl ?_
        refine k_iloadn (pc := 28) C dX12_goodOf_28 (i := 2) rfl 2 rfl ?_
        obtain ⟨r17, hr17, h⟩ := bd_e h
        refine k_V (pc := 29) (st := []) C (c_X12_goodIs hr17) lkV_RX12_209 hs1 rfl rfl rfl (Nat.le_of_ble_eq_true rfl) (Nat.le_of_ble_eq_true rfl) (Nat.le_of_ble_eq_true rfl) (Nat.le_of_ble_eq_true rfl) (Nat.le_of_ble_eq_true rfl) dX12_goodOf_29 ?_
        refine k_nf (cells2 := 0) (slots2 := 0) (st2 := [.int r17]) rfl rfl rfl ?_
        have h := Option.some.inj h
        subst h
        exact k_iret (pc := 32) C hr hk dX12_goodOf_32
    · rw [if_pos hc5] at h
      refine k_iconst (pc := 19) C (v := (-1 : Int32)) dX12_goodOf_19 (by decide) ?_
      have h := Option.some.inj h
      subst h
      exact k_iret (pc := 20) C hr hk dX12_goodOf_20
theorem c_X12_goodOf {E : Ev} {l : Launch} {S : Sh} {R : Rw} {I : Iw} {a0 : Nat} {x1 : Int32} {x2 : Int32} {r : Iw × Int32} (h : f_X12_goodOf S R I a0 x1 x2 = some r) : Mt E l yX12_goodOf cX12_goodOf 3 (some .int) 6 138 [.ref (E.1 + a0), .int x1, .int x2] S R I S R r.1 (some (.int r.2)) 0 0 := mt_of (by decide) (Nat.le_of_ble_eq_true rfl) (fun p e s m args below meth c C hr hk hn => b_X12_goodOf C hr hk _ _ _ _ h)
theorem lkV_RX12_260 : LkV RX12 260 RX12 yX12_comes cX12_comes 4 (some .int) 2 := ⟨(t6_in 94 (by decide +kernel) rfl), (t6_in 96 (by decide +kernel) rfl), (t0_in 52 (by decide +kernel) rfl), (t6_in 97 (by decide +kernel) rfl), (t1_in 7 (by decide +kernel) rfl), by decide, by decide +kernel⟩
theorem dX12_change_0 : decode cX12_change 0 = .ok (.aload_n 0, 1) := by decide +kernel
theorem dX12_change_1 : decode cX12_change 1 = .ok (.iload_n 1, 1) := by decide +kernel
theorem dX12_change_2 : decode cX12_change 2 = .ok (.iconst 3, 1) := by decide +kernel
theorem dX12_change_3 : decode cX12_change 3 = .ok (.invokevirtual 251, 3) := by decide +kernel
theorem dX12_change_6 : decode cX12_change 6 = .ok (.ifCond .eq 38, 3) := by decide +kernel
theorem dX12_change_9 : decode cX12_change 9 = .ok (.iload_n 2, 1) := by decide +kernel
theorem dX12_change_10 : decode cX12_change 10 = .ok (.iconst 2, 1) := by decide +kernel
theorem dX12_change_11 : decode cX12_change 11 = .ok (.if_icmp .ne 13, 3) := by decide +kernel
theorem dX12_change_14 : decode cX12_change 14 = .ok (.iload_n 3, 1) := by decide +kernel
theorem dX12_change_15 : decode cX12_change 15 = .ok (.iconst 0, 1) := by decide +kernel
theorem dX12_change_16 : decode cX12_change 16 = .ok (.bipush 9, 2) := by decide +kernel
theorem dX12_change_18 : decode cX12_change 18 = .ok (.invokestatic 98, 3) := by decide +kernel
theorem dX12_change_21 : decode cX12_change 21 = .ok (.ifCond .ne 19, 3) := by decide +kernel
theorem dX12_change_24 : decode cX12_change 24 = .ok (.iload_n 2, 1) := by decide +kernel
theorem dX12_change_25 : decode cX12_change 25 = .ok (.iconst 3, 1) := by decide +kernel
theorem dX12_change_26 : decode cX12_change 26 = .ok (.if_icmp .ne 18, 3) := by decide +kernel
theorem dX12_change_29 : decode cX12_change 29 = .ok (.iload_n 3, 1) := by decide +kernel
theorem dX12_change_30 : decode cX12_change 30 = .ok (.iconst 1, 1) := by decide +kernel
theorem dX12_change_31 : decode cX12_change 31 = .ok (.sipush 999, 3) := by decide +kernel
theorem dX12_change_34 : decode cX12_change 34 = .ok (.invokestatic 98, 3) := by decide +kernel
theorem dX12_change_37 : decode cX12_change 37 = .ok (.ifCond .eq 7, 3) := by decide +kernel
theorem dX12_change_40 : decode cX12_change 40 = .ok (.iconst 1, 1) := by decide +kernel
theorem dX12_change_41 : decode cX12_change 41 = .ok (.goto 4, 3) := by decide +kernel
theorem dX12_change_44 : decode cX12_change 44 = .ok (.iconst 0, 1) := by decide +kernel
theorem dX12_change_45 : decode cX12_change 45 = .ok (.istore 4, 2) := by decide +kernel
theorem dX12_change_47 : decode cX12_change 47 = .ok (.iload 4, 2) := by decide +kernel
theorem dX12_change_49 : decode cX12_change 49 = .ok (.ifCond .eq 16, 3) := by decide +kernel
theorem dX12_change_52 : decode cX12_change 52 = .ok (.aload_n 0, 1) := by decide +kernel
theorem dX12_change_53 : decode cX12_change 53 = .ok (.iload_n 1, 1) := by decide +kernel
theorem dX12_change_54 : decode cX12_change 54 = .ok (.iload_n 2, 1) := by decide +kernel
theorem dX12_change_55 : decode cX12_change 55 = .ok (.invokestatic 218, 3) := by decide +kernel
theorem dX12_change_58 : decode cX12_change 58 = .ok (.iload_n 3, 1) := by decide +kernel
theorem dX12_change_59 : decode cX12_change 59 = .ok (.invokevirtual 260, 3) := by decide +kernel
theorem dX12_change_62 : decode cX12_change 62 = .ok (.goto 4, 3) := by decide +kernel
theorem dX12_change_65 : decode cX12_change 65 = .ok (.iconst (-1), 1) := by decide +kernel
theorem dX12_change_66 : decode cX12_change 66 = .ok (.ireturn, 1) := by decide +kernel
def f_X12_change_45 (S : Sh) (R : Rw)  (I : Iw) (a0 : Nat) (x1 : Int32) (x2 : Int32) (x3 : Int32) (s0 : Int32) : Option (Iw × Int32) := (if s0 = 0 then some (I, (-1 : Int32)) else bd (f_X12_goodAt S R I x1 x2) (fun r5 => gp (sok S a0 12 34) (bd (f_X12_comes S R I a0 r5 x3) (fun r7 => some (r7.1, r7.2)))))
set_option maxHeartbeats 4000000 in
theorem b_X12_change_45 {E : Ev} {p : Program} {l : Launch} {e : Env} {s : State} {m : MethodId} {args : Array Value} {below : List Frame} {meth : Method} {c : Code} (C : Cx E RX12 cX12_change 5 p s m c) (hr : meth.sig.returnType = (some .int)) (hk : meth.locks = false) {S : Sh} {R : Rw} {r : Iw × Int32}  : ∀ (I : Iw) (a0 : Nat) (x1 : Int32) (x2 : Int32) (x3 : Int32) (s0 : Int32), f_X12_change_45 S R   I a0 x1 x2 x3 s0 = some r → Wk E 5 p l e ({ frames := 2, cells := 0, slots := 0, locals := 44 } : Room) s m args below meth c 0 0 (MQ below (Qw E S R r.1 (some (.int r.2))) args s 0 0 (fun q => E.1 ≤ q)) 45 [(0, .ref (E.1 + a0)), (1, .int x1), (2, .int x2), (3, .int x3)] [.int s0] S R I := by
  intro I a0 x1 x2 x3 s0 h
  rw [f_X12_change_45] at h
  refine k_istore (pc := 45) C dX12_change_45 (by decide) (L2 := [(0, .ref (E.1 + a0)), (1, .int x1), (2, .int x2), (3, .int x3), (4, .int s0)]) rfl ?_
  refine k_iload (pc := 47) C dX12_change_47 4 rfl ?_
  refine k_if_eq (pc := 49) C dX12_change_49 (tgt := 65) (by decide) (fun hc4 => ?_) (fun hc4 => ?_)
  · rw [if_pos hc4] at h
    refine k_iconst (pc := 65) C (v := (-1 : Int32)) dX12_change_65 (by decide) ?_
    have h := Option.some.inj h
    subst h
    exact k_iret (pc := 66) C hr hk dX12_change_66
  · rw [if_neg hc4] at h
    refine k_aloadn (pc := 52) C dX12_change_52 (i := 0) rfl 0 rfl ?_
    refine k_iloadn (pc := 53) C dX12_change_53 (i := 1) rfl 1 rfl ?_
    refine k_iloadn (pc := 54) C dX12_change_54 (i := 2) rfl 2 rfl ?_
    obtain ⟨r5, hr5, h⟩ := bd_e h
    refine k_S (pc := 55) (st := [.ref (E.1 + a0)]) C (c_X12_goodAt hr5) lkS_RX12_218 rfl rfl (Nat.le_of_ble_eq_true rfl) (Nat.le_of_ble_eq_true rfl) (Nat.le_of_ble_eq_true rfl) (Nat.le_of_ble_eq_true rfl) (Nat.le_of_ble_eq_true rfl) dX12_change_55 ?_
    refine k_nf (cells2 := 0) (slots2 := 0) (st2 := [.int r5, .ref (E.1 + a0)]) rfl rfl rfl ?_
    refine k_iloadn (pc := 58) C dX12_change_58 (i := 3) rfl 3 rfl ?_
    obtain ⟨hs60, h⟩ := gp_e h
    have hs6 := sok_e hs60
    obtain ⟨r7, hr7, h⟩ := bd_e h
    refine k_V (pc := 59) (st := []) C (c_X12_comes hr7) lkV_RX12_260 hs6 rfl rfl rfl (Nat.le_of_ble_eq_true rfl) (Nat.le_of_ble_eq_true rfl) (Nat.le_of_ble_eq_true rfl) (Nat.le_of_ble_eq_true rfl) (Nat.le_of_ble_eq_true rfl) dX12_change_59 ?_
    refine k_nf (cells2 := 0) (slots2 := 0) (st2 := [.int r7.2]) rfl rfl rfl ?_
    refine k_goto (pc := 62) C dX12_change_62 (tgt := 66) (by decide) ?_
    have h := Option.some.inj h
    subst h
    exact k_iret (pc := 66) C hr hk dX12_change_66
def f_X12_change_44 (S : Sh) (R : Rw)  (I : Iw) (a0 : Nat) (x1 : Int32) (x2 : Int32) (x3 : Int32) : Option (Iw × Int32) := f_X12_change_45 S R  I a0 x1 x2 x3 (0 : Int32)
set_option maxHeartbeats 4000000 in
theorem b_X12_change_44 {E : Ev} {p : Program} {l : Launch} {e : Env} {s : State} {m : MethodId} {args : Array Value} {below : List Frame} {meth : Method} {c : Code} (C : Cx E RX12 cX12_change 5 p s m c) (hr : meth.sig.returnType = (some .int)) (hk : meth.locks = false) {S : Sh} {R : Rw} {r : Iw × Int32}  : ∀ (I : Iw) (a0 : Nat) (x1 : Int32) (x2 : Int32) (x3 : Int32), f_X12_change_44 S R   I a0 x1 x2 x3 = some r → Wk E 5 p l e ({ frames := 2, cells := 0, slots := 0, locals := 44 } : Room) s m args below meth c 0 0 (MQ below (Qw E S R r.1 (some (.int r.2))) args s 0 0 (fun q => E.1 ≤ q)) 44 [(0, .ref (E.1 + a0)), (1, .int x1), (2, .int x2), (3, .int x3)] [] S R I := by
  intro I a0 x1 x2 x3 h
  rw [f_X12_change_44] at h
  refine k_iconst (pc := 44) C (v := (0 : Int32)) dX12_change_44 (by decide) ?_
  exact b_X12_change_45 C hr hk  _ _ _ _ _ _ h
def f_X12_change_40 (S : Sh) (R : Rw)  (I : Iw) (a0 : Nat) (x1 : Int32) (x2 : Int32) (x3 : Int32) : Option (Iw × Int32) := f_X12_change_45 S R  I a0 x1 x2 x3 (1 : Int32)
set_option maxHeartbeats 4000000 in
theorem b_X12_change_40 {E : Ev} {p : Program} {l : Launch} {e : Env} {s : State} {m : MethodId} {args : Array Value} {below : List Frame} {meth : Method} {c : Code} (C : Cx E RX12 cX12_change 5 p s m c) (hr : meth.sig.returnType = (some .int)) (hk : meth.locks = false) {S : Sh} {R : Rw} {r : Iw × Int32}  : ∀ (I : Iw) (a0 : Nat) (x1 : Int32) (x2 : Int32) (x3 : Int32), f_X12_change_40 S R   I a0 x1 x2 x3 = some r → Wk E 5 p l e ({ frames := 2, cells := 0, slots := 0, locals := 44 } : Room) s m args below meth c 0 0 (MQ below (Qw E S R r.1 (some (.int r.2))) args s 0 0 (fun q => E.1 ≤ q)) 40 [(0, .ref (E.1 + a0)), (1, .int x1), (2, .int x2), (3, .int x3)] [] S R I := by
  intro I a0 x1 x2 x3 h
  rw [f_X12_change_40] at h
  refine k_iconst (pc := 40) C (v := (1 : Int32)) dX12_change_40 (by decide) ?_
  refine k_goto (pc := 41) C dX12_change_41 (tgt := 45) (by decide) ?_
  exact b_X12_change_45 C hr hk  _ _ _ _ _ _ h
def f_X12_change_24 (S : Sh) (R : Rw)  (I : Iw) (a0 : Nat) (x1 : Int32) (x2 : Int32) (x3 : Int32) : Option (Iw × Int32) := (if x2 = (3 : Int32) then bd (f_X12_in S R I x3 (1 : Int32) (999 : Int32)) (fun r10 => (if r10 = 0 then f_X12_change_44 S R  I a0 x1 x2 x3 else f_X12_change_40 S R  I a0 x1 x2 x3)) else f_X12_change_44 S R  I a0 x1 x2 x3)
set_option maxHeartbeats 4000000 in
theorem b_X12_change_24 {E : Ev} {p : Program} {l : Launch} {e : Env} {s : State} {m : MethodId} {args : Array Value} {below : List Frame} {meth : Method} {c : Code} (C : Cx E RX12 cX12_change 5 p s m c) (hr : meth.sig.returnType = (some .int)) (hk : meth.locks = false) {S : Sh} {R : Rw} {r : Iw × Int32}  : ∀ (I : Iw) (a0 : Nat) (x1 : Int32) (x2 : Int32) (x3 : Int32), f_X12_change_24 S R   I a0 x1 x2 x3 = some r → Wk E 5 p l e ({ frames := 2, cells := 0, slots := 0, locals := 44 } : Room) s m args below meth c 0 0 (MQ below (Qw E S R r.1 (some (.int r.2))) args s 0 0 (fun q => E.1 ≤ q)) 24 [(0, .ref (E.1 + a0)), (1, .int x1), (2, .int x2), (3, .int x3)] [] S R I := by
  intro I a0 x1 x2 x3 h
  rw [f_X12_change_24] at h
  refine k_iloadn (pc := 24) C dX12_change_24 (i := 2) rfl 2 rfl ?_
  refine k_iconst (pc := 25) C (v := (3 : Int32)) dX12_change_25 (by decide) ?_
  refine k_icmp_ne (pc := 26) C dX12_change_26 (tgt := 44) (by decide) (fun hc9 => ?_) (fun hc9 => ?_)
  · rw [if_neg hc9] at h
    exact b_X12_change_44 C hr hk  _ _ _ _ _ h
  · rw [if_pos hc9] at h
    refine k_iloadn (pc := 29) C dX12_change_29 (i := 3) rfl 3 rfl ?_
    refine k_iconst (pc := 30) C (v := (1 : Int32)) dX12_change_30 (by decide) ?_
    refine k_sipush (pc := 31) C (v := (999 : Int32)) dX12_change_31 (by decide) ?_
    obtain ⟨r10, hr10, h⟩ := bd_e h
    refine k_S (pc := 34) (st := []) C (c_X12_in hr10) lkS_RX12_98 rfl rfl (Nat.le_of_ble_eq_true rfl) (Nat.le_of_ble_eq_true rfl) (Nat.le_of_ble_eq_true rfl) (Nat.le_of_ble_eq_true rfl) (Nat.le_of_ble_eq_true rfl) dX12_change_34 ?_
    refine k_nf (cells2 := 0) (slots2 := 0) (st2 := [.int r10]) rfl rfl rfl ?_
    refine k_if_eq (pc := 37) C dX12_change_37 (tgt := 44) (by decide) (fun hc11 => ?_) (fun hc11 => ?_)
    · rw [if_pos hc11] at h
      exact b_X12_change_44 C hr hk  _ _ _ _ _ h
    · rw [if_neg hc11] at h
      exact b_X12_change_40 C hr hk  _ _ _ _ _ h
def f_X12_change (S : Sh) (R : Rw)  (I : Iw) (a0 : Nat) (x1 : Int32) (x2 : Int32) (x3 : Int32) : Option (Iw × Int32) := gp (sok S a0 12 34) (bd (f_X12_is S R I a0 x1 (3 : Int32)) (fun r2 => (if r2 = 0 then f_X12_change_44 S R  I a0 x1 x2 x3 else (if x2 = (2 : Int32) then bd (f_X12_in S R I x3 (0 : Int32) (9 : Int32)) (fun r12 => (if r12 = 0 then f_X12_change_24 S R  I a0 x1 x2 x3 else f_X12_change_40 S R  I a0 x1 x2 x3)) else f_X12_change_24 S R  I a0 x1 x2 x3))))
set_option maxHeartbeats 4000000 in
theorem b_X12_change {E : Ev} {p : Program} {l : Launch} {e : Env} {s : State} {m : MethodId} {args : Array Value} {below : List Frame} {meth : Method} {c : Code} (C : Cx E RX12 cX12_change 5 p s m c) (hr : meth.sig.returnType = (some .int)) (hk : meth.locks = false) {S : Sh} {R : Rw} {r : Iw × Int32}  : ∀ (I : Iw) (a0 : Nat) (x1 : Int32) (x2 : Int32) (x3 : Int32), f_X12_change S R   I a0 x1 x2 x3 = some r → Wk E 5 p l e ({ frames := 2, cells := 0, slots := 0, locals := 44 } : Room) s m args below meth c 0 0 (MQ below (Qw E S R r.1 (some (.int r.2))) args s 0 0 (fun q => E.1 ≤ q)) 0 [(0, .ref (E.1 + a0)), (1, .int x1), (2, .int x2), (3, .int x3)] [] S R I := by
  intro I a0 x1 x2 x3 h
  rw [f_X12_change] at h
  refine k_aloadn (pc := 0) C dX12_change_0 (i := 0) rfl 0 rfl ?_
  refine k_iloadn (pc := 1) C dX12_change_1 (i := 1) rfl 1 rfl ?_
  refine k_iconst (pc := 2) C (v := (3 : Int32)) dX12_change_2 (by decide) ?_
  obtain ⟨hs10, h⟩ := gp_e h
  have hs1 := sok_e hs10
  obtain ⟨r2, hr2, h⟩ := bd_e h
  refine k_V (pc := 3) (st := []) C (c_X12_is hr2) lkV_RX12_251 hs1 rfl rfl rfl (Nat.le_of_ble_eq_true rfl) (Nat.le_of_ble_eq_true rfl) (Nat.le_of_ble_eq_true rfl) (Nat.le_of_ble_eq_true rfl) (Nat.le_of_ble_eq_true rfl) dX12_change_3 ?_
  refine k_nf (cells2 := 0) (slots2 := 0) (st2 := [.int r2]) rfl rfl rfl ?_
  refine k_if_eq (pc := 6) C dX12_change_6 (tgt := 44) (by decide) (fun hc3 => ?_) (fun hc3 => ?_)
  · rw [if_pos hc3] at h
    exact b_X12_change_44 C hr hk  _ _ _ _ _ h
  · rw [if_neg hc3] at h
    refine k_iloadn (pc := 9) C dX12_change_9 (i := 2) rfl 2 rfl ?_
    refine k_iconst (pc := 10) C (v := (2 : Int32)) dX12_change_10 (by decide) ?_
    refine k_icmp_ne (pc := 11) C dX12_change_11 (tgt := 24) (by decide) (fun hc8 => ?_) (fun hc8 => ?_)
    · rw [if_neg hc8] at h
      exact b_X12_change_24 C hr hk  _ _ _ _ _ h
    · rw [if_pos hc8] at h
      refine k_iloadn (pc := 14) C dX12_change_14 (i := 3) rfl 3 rfl ?_
      refine k_iconst (pc := 15) C (v := (0 : Int32)) dX12_change_15 (by decide) ?_
      refine k_bipush (pc := 16) C (v := (9 : Int32)) dX12_change_16 (by decide) ?_
      obtain ⟨r12, hr12, h⟩ := bd_e h
      refine k_S (pc := 18) (st := []) C (c_X12_in hr12) lkS_RX12_98 rfl rfl (Nat.le_of_ble_eq_true rfl) (Nat.le_of_ble_eq_true rfl) (Nat.le_of_ble_eq_true rfl) (Nat.le_of_ble_eq_true rfl) (Nat.le_of_ble_eq_true rfl) dX12_change_18 ?_
      refine k_nf (cells2 := 0) (slots2 := 0) (st2 := [.int r12]) rfl rfl rfl ?_
      refine k_if_ne (pc := 21) C dX12_change_21 (tgt := 40) (by decide) (fun hc13 => ?_) (fun hc13 => ?_)
      · rw [if_neg hc13] at h
        exact b_X12_change_40 C hr hk  _ _ _ _ _ h
      · rw [if_pos hc13] at h
        exact b_X12_change_24 C hr hk  _ _ _ _ _ h
theorem c_X12_change {E : Ev} {l : Launch} {S : Sh} {R : Rw} {I : Iw} {a0 : Nat} {x1 : Int32} {x2 : Int32} {x3 : Int32} {r : Iw × Int32} (h : f_X12_change S R I a0 x1 x2 x3 = some r) : Mt E l yX12_change cX12_change 5 (some .int) 2 44 [.ref (E.1 + a0), .int x1, .int x2, .int x3] S R I S R r.1 (some (.int r.2)) 0 0 := mt_of (by decide) (Nat.le_of_ble_eq_true rfl) (fun p e s m args below meth c C hr hk hn => b_X12_change C hr hk _ _ _ _ _ h)
theorem dX12_remake_0 : decode cX12_remake 0 = .ok (.aload_n 0, 1) := by decide +kernel
theorem dX12_remake_1 : decode cX12_remake 1 = .ok (.iload_n 1, 1) := by decide +kernel
theorem dX12_remake_2 : decode cX12_remake 2 = .ok (.iconst 3, 1) := by decide +kernel
theorem dX12_remake_3 : decode cX12_remake 3 = .ok (.invokevirtual 251, 3) := by decide +kernel
theorem dX12_remake_6 : decode cX12_remake 6 = .ok (.ifCond .eq 25, 3) := by decide +kernel
theorem dX12_remake_9 : decode cX12_remake 9 = .ok (.iload_n 2, 1) := by decide +kernel
theorem dX12_remake_10 : decode cX12_remake 10 = .ok (.iconst 1, 1) := by decide +kernel
theorem dX12_remake_11 : decode cX12_remake 11 = .ok (.iconst 5, 1) := by decide +kernel
theorem dX12_remake_12 : decode cX12_remake 12 = .ok (.invokestatic 98, 3) := by decide +kernel
theorem dX12_remake_15 : decode cX12_remake 15 = .ok (.ifCond .eq 16, 3) := by decide +kernel
theorem dX12_remake_18 : decode cX12_remake 18 = .ok (.aload_n 0, 1) := by decide +kernel
theorem dX12_remake_19 : decode cX12_remake 19 = .ok (.iload_n 1, 1) := by decide +kernel
theorem dX12_remake_20 : decode cX12_remake 20 = .ok (.iconst 0, 1) := by decide +kernel
theorem dX12_remake_21 : decode cX12_remake 21 = .ok (.invokestatic 218, 3) := by decide +kernel
theorem dX12_remake_24 : decode cX12_remake 24 = .ok (.iload_n 2, 1) := by decide +kernel
theorem dX12_remake_25 : decode cX12_remake 25 = .ok (.invokevirtual 260, 3) := by decide +kernel
theorem dX12_remake_28 : decode cX12_remake 28 = .ok (.goto 4, 3) := by decide +kernel
theorem dX12_remake_31 : decode cX12_remake 31 = .ok (.iconst (-1), 1) := by decide +kernel
theorem dX12_remake_32 : decode cX12_remake 32 = .ok (.ireturn, 1) := by decide +kernel
def f_X12_remake (S : Sh) (R : Rw)  (I : Iw) (a0 : Nat) (x1 : Int32) (x2 : Int32) : Option (Iw × Int32) := gp (sok S a0 12 34) (bd (f_X12_is S R I a0 x1 (3 : Int32)) (fun r2 => (if r2 = 0 then some (I, (-1 : Int32)) else bd (f_X12_in S R I x2 (1 : Int32) (5 : Int32)) (fun r4 => (if r4 = 0 then some (I, (-1 : Int32)) else bd (f_X12_goodAt S R I x1 (0 : Int32)) (fun r6 => bd (f_X12_comes S R I a0 r6 x2) (fun r7 => some (r7.1, r7.2))))))))
set_option maxHeartbeats 4000000 in
theorem b_X12_remake {E : Ev} {p : Program} {l : Launch} {e : Env} {s : State} {m : MethodId} {args : Array Value} {below : List Frame} {meth : Method} {c : Code} (C : Cx E RX12 cX12_remake 3 p s m c) (hr : meth.sig.returnType = (some .int)) (hk : meth.locks = false) {S : Sh} {R : Rw} {r : Iw × Int32}  : ∀ (I : Iw) (a0 : Nat) (x1 : Int32) (x2 : Int32), f_X12_remake S R   I a0 x1 x2 = some r → Wk E 3 p l e ({ frames := 2, cells := 0, slots := 0, locals := 44 } : Room) s m args below meth c 0 0 (MQ below (Qw E S R r.1 (some (.int r.2))) args s 0 0 (fun q => E.1 ≤ q)) 0 [(0, .ref (E.1 + a0)), (1, .int x1), (2, .int x2)] [] S R I := by
  intro I a0 x1 x2 h
  rw [f_X12_remake] at h
  refine k_aloadn (pc := 0) C dX12_remake_0 (i := 0) rfl 0 rfl ?_
  refine k_iloadn (pc := 1) C dX12_remake_1 (i := 1) rfl 1 rfl ?_
  refine k_iconst (pc := 2) C (v := (3 : Int32)) dX12_remake_2 (by decide) ?_
  obtain ⟨hs10, h⟩ := gp_e h
  have hs1 := sok_e hs10
  obtain ⟨r2, hr2, h⟩ := bd_e h
  refine k_V (pc := 3) (st := []) C (c_X12_is hr2) lkV_RX12_251 hs1 rfl rfl rfl (Nat.le_of_ble_eq_true rfl) (Nat.le_of_ble_eq_true rfl) (Nat.le_of_ble_eq_true rfl) (Nat.le_of_ble_eq_true rfl) (Nat.le_of_ble_eq_true rfl) dX12_remake_3 ?_
  refine k_nf (cells2 := 0) (slots2 := 0) (st2 := [.int r2]) rfl rfl rfl ?_
  refine k_if_eq (pc := 6) C dX12_remake_6 (tgt := 31) (by decide) (fun hc3 => ?_) (fun hc3 => ?_)
  · rw [if_pos hc3] at h
    refine k_iconst (pc := 31) C (v := (-1 : Int32)) dX12_remake_31 (by decide) ?_
    have h := Option.some.inj h
    subst h
    exact k_iret (pc := 32) C hr hk dX12_remake_32
  · rw [if_neg hc3] at h
    refine k_iloadn (pc := 9) C dX12_remake_9 (i := 2) rfl 2 rfl ?_
    refine k_iconst (pc := 10) C (v := (1 : Int32)) dX12_remake_10 (by decide) ?_
    refine k_iconst (pc := 11) C (v := (5 : Int32)) dX12_remake_11 (by decide) ?_
    obtain ⟨r4, hr4, h⟩ := bd_e h
    refine k_S (pc := 12) (st := []) C (c_X12_in hr4) lkS_RX12_98 rfl rfl (Nat.le_of_ble_eq_true rfl) (Nat.le_of_ble_eq_true rfl) (Nat.le_of_ble_eq_true rfl) (Nat.le_of_ble_eq_true rfl) (Nat.le_of_ble_eq_true rfl) dX12_remake_12 ?_
    refine k_nf (cells2 := 0) (slots2 := 0) (st2 := [.int r4]) rfl rfl rfl ?_
    refine k_if_eq (pc := 15) C dX12_remake_15 (tgt := 31) (by decide) (fun hc5 => ?_) (fun hc5 => ?_)
    · rw [if_pos hc5] at h
      refine k_iconst (pc := 31) C (v := (-1 : Int32)) dX12_remake_31 (by decide) ?_
      have h := Option.some.inj h
      subst h
      exact k_iret (pc := 32) C hr hk dX12_remake_32
    · rw [if_neg hc5] at h
      refine k_aloadn (pc := 18) C dX12_remake_18 (i := 0) rfl 0 rfl ?_
      refine k_iloadn (pc := 19) C dX12_remake_19 (i := 1) rfl 1 rfl ?_
      refine k_iconst (pc := 20) C (v := (0 : Int32)) dX12_remake_20 (by decide) ?_
      obtain ⟨r6, hr6, h⟩ := bd_e h
      refine k_S (pc := 21) (st := [.ref (E.1 + a0)]) C (c_X12_goodAt hr6) lkS_RX12_218 rfl rfl (Nat.le_of_ble_eq_true rfl) (Nat.le_of_ble_eq_true rfl) (Nat.le_of_ble_eq_true rfl) (Nat.le_of_ble_eq_true rfl) (Nat.le_of_ble_eq_true rfl) dX12_remake_21 ?_
      refine k_nf (cells2 := 0) (slots2 := 0) (st2 := [.int r6, .ref (E.1 + a0)]) rfl rfl rfl ?_
      refine k_iloadn (pc := 24) C dX12_remake_24 (i := 2) rfl 2 rfl ?_
      obtain ⟨r7, hr7, h⟩ := bd_e h
      refine k_V (pc := 25) (st := []) C (c_X12_comes hr7) lkV_RX12_260 hs1 rfl rfl rfl (Nat.le_of_ble_eq_true rfl) (Nat.le_of_ble_eq_true rfl) (Nat.le_of_ble_eq_true rfl) (Nat.le_of_ble_eq_true rfl) (Nat.le_of_ble_eq_true rfl) dX12_remake_25 ?_
      refine k_nf (cells2 := 0) (slots2 := 0) (st2 := [.int r7.2]) rfl rfl rfl ?_
      refine k_goto (pc := 28) C dX12_remake_28 (tgt := 32) (by decide) ?_
      have h := Option.some.inj h
      subst h
      exact k_iret (pc := 32) C hr hk dX12_remake_32
theorem c_X12_remake {E : Ev} {l : Launch} {S : Sh} {R : Rw} {I : Iw} {a0 : Nat} {x1 : Int32} {x2 : Int32} {r : Iw × Int32} (h : f_X12_remake S R I a0 x1 x2 = some r) : Mt E l yX12_remake cX12_remake 3 (some .int) 2 44 [.ref (E.1 + a0), .int x1, .int x2] S R I S R r.1 (some (.int r.2)) 0 0 := mt_of (by decide) (Nat.le_of_ble_eq_true rfl) (fun p e s m args below meth c C hr hk hn => b_X12_remake C hr hk _ _ _ _ h)
theorem dX12_let_0 : decode cX12_let 0 = .ok (.iload_n 1, 1) := by decide +kernel
theorem dX12_let_1 : decode cX12_let 1 = .ok (.ifCond .ne 12, 3) := by decide +kernel
theorem dX12_let_4 : decode cX12_let 4 = .ok (.iload_n 2, 1) := by decide +kernel
theorem dX12_let_5 : decode cX12_let 5 = .ok (.iconst 1, 1) := by decide +kernel
theorem dX12_let_6 : decode cX12_let 6 = .ok (.iconst 3, 1) := by decide +kernel
theorem dX12_let_7 : decode cX12_let 7 = .ok (.invokestatic 98, 3) := by decide +kernel
theorem dX12_let_10 : decode cX12_let 10 = .ok (.ifCond .ne 18, 3) := by decide +kernel
theorem dX12_let_13 : decode cX12_let 13 = .ok (.iload_n 1, 1) := by decide +kernel
theorem dX12_let_14 : decode cX12_let 14 = .ok (.iconst 1, 1) := by decide +kernel
theorem dX12_let_15 : decode cX12_let 15 = .ok (.if_icmp .ne 24, 3) := by decide +kernel
theorem dX12_let_18 : decode cX12_let 18 = .ok (.iload_n 2, 1) := by decide +kernel
theorem dX12_let_19 : decode cX12_let 19 = .ok (.iconst 0, 1) := by decide +kernel
theorem dX12_let_20 : decode cX12_let 20 = .ok (.bipush 9, 2) := by decide +kernel
theorem dX12_let_22 : decode cX12_let 22 = .ok (.invokestatic 98, 3) := by decide +kernel
theorem dX12_let_25 : decode cX12_let 25 = .ok (.ifCond .eq 14, 3) := by decide +kernel
theorem dX12_let_28 : decode cX12_let 28 = .ok (.aload_n 0, 1) := by decide +kernel
theorem dX12_let_29 : decode cX12_let 29 = .ok (.iconst 0, 1) := by decide +kernel
theorem dX12_let_30 : decode cX12_let 30 = .ok (.iload_n 1, 1) := by decide +kernel
theorem dX12_let_31 : decode cX12_let 31 = .ok (.iadd, 1) := by decide +kernel
theorem dX12_let_32 : decode cX12_let 32 = .ok (.iload_n 2, 1) := by decide +kernel
theorem dX12_let_33 : decode cX12_let 33 = .ok (.invokevirtual 260, 3) := by decide +kernel
theorem dX12_let_36 : decode cX12_let 36 = .ok (.goto 4, 3) := by decide +kernel
theorem dX12_let_39 : decode cX12_let 39 = .ok (.iconst (-1), 1) := by decide +kernel
theorem dX12_let_40 : decode cX12_let 40 = .ok (.ireturn, 1) := by decide +kernel
def f_X12_let_28 (S : Sh) (R : Rw)  (I : Iw) (a0 : Nat) (x1 : Int32) (x2 : Int32) : Option (Iw × Int32) := gp (sok S a0 12 34) (bd (f_X12_comes S R I a0 ((0 : Int32) + x1) x2) (fun r6 => some (r6.1, r6.2)))
set_option maxHeartbeats 4000000 in
theorem b_X12_let_28 {E : Ev} {p : Program} {l : Launch} {e : Env} {s : State} {m : MethodId} {args : Array Value} {below : List Frame} {meth : Method} {c : Code} (C : Cx E RX12 cX12_let 3 p s m c) (hr : meth.sig.returnType = (some .int)) (hk : meth.locks = false) {S : Sh} {R : Rw} {r : Iw × Int32}  : ∀ (I : Iw) (a0 : Nat) (x1 : Int32) (x2 : Int32), f_X12_let_28 S R   I a0 x1 x2 = some r → Wk E 3 p l e ({ frames := 1, cells := 0, slots := 0, locals := 23 } : Room) s m args below meth c 0 0 (MQ below (Qw E S R r.1 (some (.int r.2))) args s 0 0 (fun q => E.1 ≤ q)) 28 [(0, .ref (E.1 + a0)), (1, .int x1), (2, .int x2)] [] S R I := by
  intro I a0 x1 x2 h
  rw [f_X12_let_28] at h
  refine k_aloadn (pc := 28) C dX12_let_28 (i := 0) rfl 0 rfl ?_
  refine k_iconst (pc := 29) C (v := (0 : Int32)) dX12_let_29 (by decide) ?_
  refine k_iloadn (pc := 30) C dX12_let_30 (i := 1) rfl 1 rfl ?_
  refine k_iadd (pc := 31) C dX12_let_31 ?_
  refine k_iloadn (pc := 32) C dX12_let_32 (i := 2) rfl 2 rfl ?_
  obtain ⟨hs50, h⟩ := gp_e h
  have hs5 := sok_e hs50
  obtain ⟨r6, hr6, h⟩ := bd_e h
  refine k_V (pc := 33) (st := []) C (c_X12_comes hr6) lkV_RX12_260 hs5 rfl rfl rfl (Nat.le_of_ble_eq_true rfl) (Nat.le_of_ble_eq_true rfl) (Nat.le_of_ble_eq_true rfl) (Nat.le_of_ble_eq_true rfl) (Nat.le_of_ble_eq_true rfl) dX12_let_33 ?_
  refine k_nf (cells2 := 0) (slots2 := 0) (st2 := [.int r6.2]) rfl rfl rfl ?_
  refine k_goto (pc := 36) C dX12_let_36 (tgt := 40) (by decide) ?_
  have h := Option.some.inj h
  subst h
  exact k_iret (pc := 40) C hr hk dX12_let_40
def f_X12_let_13 (S : Sh) (R : Rw)  (I : Iw) (a0 : Nat) (x1 : Int32) (x2 : Int32) : Option (Iw × Int32) := (if x1 = (1 : Int32) then bd (f_X12_in S R I x2 (0 : Int32) (9 : Int32)) (fun r3 => (if r3 = 0 then some (I, (-1 : Int32)) else f_X12_let_28 S R  I a0 x1 x2)) else some (I, (-1 : Int32)))
set_option maxHeartbeats 4000000 in
theorem b_X12_let_13 {E : Ev} {p : Program} {l : Launch} {e : Env} {s : State} {m : MethodId} {args : Array Value} {below : List Frame} {meth : Method} {c : Code} (C : Cx E RX12 cX12_let 3 p s m c) (hr : meth.sig.returnType = (some .int)) (hk : meth.locks = false) {S : Sh} {R : Rw} {r : Iw × Int32}  : ∀ (I : Iw) (a0 : Nat) (x1 : Int32) (x2 : Int32), f_X12_let_13 S R   I a0 x1 x2 = some r → Wk E 3 p l e ({ frames := 1, cells := 0, slots := 0, locals := 23 } : Room) s m args below meth c 0 0 (MQ below (Qw E S R r.1 (some (.int r.2))) args s 0 0 (fun q => E.1 ≤ q)) 13 [(0, .ref (E.1 + a0)), (1, .int x1), (2, .int x2)] [] S R I := by
  intro I a0 x1 x2 h
  rw [f_X12_let_13] at h
  refine k_iloadn (pc := 13) C dX12_let_13 (i := 1) rfl 1 rfl ?_
  refine k_iconst (pc := 14) C (v := (1 : Int32)) dX12_let_14 (by decide) ?_
  refine k_icmp_ne (pc := 15) C dX12_let_15 (tgt := 39) (by decide) (fun hc2 => ?_) (fun hc2 => ?_)
  · rw [if_neg hc2] at h
    refine k_iconst (pc := 39) C (v := (-1 : Int32)) dX12_let_39 (by decide) ?_
    have h := Option.some.inj h
    subst h
    exact k_iret (pc := 40) C hr hk dX12_let_40
  · rw [if_pos hc2] at h
    refine k_iloadn (pc := 18) C dX12_let_18 (i := 2) rfl 2 rfl ?_
    refine k_iconst (pc := 19) C (v := (0 : Int32)) dX12_let_19 (by decide) ?_
    refine k_bipush (pc := 20) C (v := (9 : Int32)) dX12_let_20 (by decide) ?_
    obtain ⟨r3, hr3, h⟩ := bd_e h
    refine k_S (pc := 22) (st := []) C (c_X12_in hr3) lkS_RX12_98 rfl rfl (Nat.le_of_ble_eq_true rfl) (Nat.le_of_ble_eq_true rfl) (Nat.le_of_ble_eq_true rfl) (Nat.le_of_ble_eq_true rfl) (Nat.le_of_ble_eq_true rfl) dX12_let_22 ?_
    refine k_nf (cells2 := 0) (slots2 := 0) (st2 := [.int r3]) rfl rfl rfl ?_
    refine k_if_eq (pc := 25) C dX12_let_25 (tgt := 39) (by decide) (fun hc4 => ?_) (fun hc4 => ?_)
    · rw [if_pos hc4] at h
      refine k_iconst (pc := 39) C (v := (-1 : Int32)) dX12_let_39 (by decide) ?_
      have h := Option.some.inj h
      subst h
      exact k_iret (pc := 40) C hr hk dX12_let_40
    · rw [if_neg hc4] at h
      exact b_X12_let_28 C hr hk  _ _ _ _ h
def f_X12_let (S : Sh) (R : Rw)  (I : Iw) (a0 : Nat) (x1 : Int32) (x2 : Int32) : Option (Iw × Int32) := (if x1 = 0 then bd (f_X12_in S R I x2 (1 : Int32) (3 : Int32)) (fun r7 => (if r7 = 0 then f_X12_let_13 S R  I a0 x1 x2 else f_X12_let_28 S R  I a0 x1 x2)) else f_X12_let_13 S R  I a0 x1 x2)
set_option maxHeartbeats 4000000 in
theorem b_X12_let {E : Ev} {p : Program} {l : Launch} {e : Env} {s : State} {m : MethodId} {args : Array Value} {below : List Frame} {meth : Method} {c : Code} (C : Cx E RX12 cX12_let 3 p s m c) (hr : meth.sig.returnType = (some .int)) (hk : meth.locks = false) {S : Sh} {R : Rw} {r : Iw × Int32}  : ∀ (I : Iw) (a0 : Nat) (x1 : Int32) (x2 : Int32), f_X12_let S R   I a0 x1 x2 = some r → Wk E 3 p l e ({ frames := 1, cells := 0, slots := 0, locals := 23 } : Room) s m args below meth c 0 0 (MQ below (Qw E S R r.1 (some (.int r.2))) args s 0 0 (fun q => E.1 ≤ q)) 0 [(0, .ref (E.1 + a0)), (1, .int x1), (2, .int x2)] [] S R I := by
  intro I a0 x1 x2 h
  rw [f_X12_let] at h
  refine k_iloadn (pc := 0) C dX12_let_0 (i := 1) rfl 1 rfl ?_
  refine k_if_ne (pc := 1) C dX12_let_1 (tgt := 13) (by decide) (fun hc1 => ?_) (fun hc1 => ?_)
  · rw [if_neg hc1] at h
    exact b_X12_let_13 C hr hk  _ _ _ _ h
  · rw [if_pos hc1] at h
    refine k_iloadn (pc := 4) C dX12_let_4 (i := 2) rfl 2 rfl ?_
    refine k_iconst (pc := 5) C (v := (1 : Int32)) dX12_let_5 (by decide) ?_
    refine k_iconst (pc := 6) C (v := (3 : Int32)) dX12_let_6 (by decide) ?_
    obtain ⟨r7, hr7, h⟩ := bd_e h
    refine k_S (pc := 7) (st := []) C (c_X12_in hr7) lkS_RX12_98 rfl rfl (Nat.le_of_ble_eq_true rfl) (Nat.le_of_ble_eq_true rfl) (Nat.le_of_ble_eq_true rfl) (Nat.le_of_ble_eq_true rfl) (Nat.le_of_ble_eq_true rfl) dX12_let_7 ?_
    refine k_nf (cells2 := 0) (slots2 := 0) (st2 := [.int r7]) rfl rfl rfl ?_
    refine k_if_ne (pc := 10) C dX12_let_10 (tgt := 28) (by decide) (fun hc8 => ?_) (fun hc8 => ?_)
    · rw [if_neg hc8] at h
      exact b_X12_let_28 C hr hk  _ _ _ _ h
    · rw [if_pos hc8] at h
      exact b_X12_let_13 C hr hk  _ _ _ _ h
theorem c_X12_let {E : Ev} {l : Launch} {S : Sh} {R : Rw} {I : Iw} {a0 : Nat} {x1 : Int32} {x2 : Int32} {r : Iw × Int32} (h : f_X12_let S R I a0 x1 x2 = some r) : Mt E l yX12_let cX12_let 3 (some .int) 1 23 [.ref (E.1 + a0), .int x1, .int x2] S R I S R r.1 (some (.int r.2)) 0 0 := mt_of (by decide) (Nat.le_of_ble_eq_true rfl) (fun p e s m args below meth c C hr hk hn => b_X12_let C hr hk _ _ _ _ h)
theorem dX12_beside_0 : decode cX12_beside 0 = .ok (.aload_n 0, 1) := by decide +kernel
theorem dX12_beside_1 : decode cX12_beside 1 = .ok (.iload_n 1, 1) := by decide +kernel
theorem dX12_beside_2 : decode cX12_beside 2 = .ok (.iconst 3, 1) := by decide +kernel
theorem dX12_beside_3 : decode cX12_beside 3 = .ok (.invokevirtual 251, 3) := by decide +kernel
theorem dX12_beside_6 : decode cX12_beside 6 = .ok (.ifCond .eq 17, 3) := by decide +kernel
theorem dX12_beside_9 : decode cX12_beside 9 = .ok (.aload_n 0, 1) := by decide +kernel
theorem dX12_beside_10 : decode cX12_beside 10 = .ok (.iload_n 2, 1) := by decide +kernel
theorem dX12_beside_11 : decode cX12_beside 11 = .ok (.iconst 3, 1) := by decide +kernel
theorem dX12_beside_12 : decode cX12_beside 12 = .ok (.invokevirtual 251, 3) := by decide +kernel
theorem dX12_beside_15 : decode cX12_beside 15 = .ok (.ifCond .eq 8, 3) := by decide +kernel
theorem dX12_beside_18 : decode cX12_beside 18 = .ok (.iload_n 1, 1) := by decide +kernel
theorem dX12_beside_19 : decode cX12_beside 19 = .ok (.iload_n 2, 1) := by decide +kernel
theorem dX12_beside_20 : decode cX12_beside 20 = .ok (.if_icmp .ne 7, 3) := by decide +kernel
theorem dX12_beside_23 : decode cX12_beside 23 = .ok (.iconst (-1), 1) := by decide +kernel
theorem dX12_beside_24 : decode cX12_beside 24 = .ok (.goto 17, 3) := by decide +kernel
theorem dX12_beside_27 : decode cX12_beside 27 = .ok (.aload_n 0, 1) := by decide +kernel
theorem dX12_beside_28 : decode cX12_beside 28 = .ok (.iload_n 1, 1) := by decide +kernel
theorem dX12_beside_29 : decode cX12_beside 29 = .ok (.iload_n 2, 1) := by decide +kernel
theorem dX12_beside_30 : decode cX12_beside 30 = .ok (.invokevirtual 248, 3) := by decide +kernel
theorem dX12_beside_33 : decode cX12_beside 33 = .ok (.ifCond .eq 7, 3) := by decide +kernel
theorem dX12_beside_36 : decode cX12_beside 36 = .ok (.iconst 1, 1) := by decide +kernel
theorem dX12_beside_37 : decode cX12_beside 37 = .ok (.goto 4, 3) := by decide +kernel
theorem dX12_beside_40 : decode cX12_beside 40 = .ok (.iconst 0, 1) := by decide +kernel
theorem dX12_beside_41 : decode cX12_beside 41 = .ok (.ireturn, 1) := by decide +kernel
def f_X12_beside_23 (S : Sh) (R : Rw) (I : Iw)   : Option (Int32) := some (-1 : Int32)
set_option maxHeartbeats 4000000 in
theorem b_X12_beside_23 {E : Ev} {p : Program} {l : Launch} {e : Env} {s : State} {m : MethodId} {args : Array Value} {below : List Frame} {meth : Method} {c : Code} (C : Cx E RX12 cX12_beside 3 p s m c) (hr : meth.sig.returnType = (some .int)) (hk : meth.locks = false) {S : Sh} {R : Rw} {I : Iw} {r : Int32}  : f_X12_beside_23 S R I    = some r → Wk E 3 p l e ({ frames := 4, cells := 0, slots := 0, locals := 90 } : Room) s m args below meth c 0 0 (MQ below (Qw E S R I (some (.int r))) args s 0 0 (fun q => E.1 ≤ q)) 23 [] [] S R I := by
  intro  h
  rw [f_X12_beside_23] at h
  refine k_iconst (pc := 23) C (v := (-1 : Int32)) dX12_beside_23 (by decide) ?_
  refine k_goto (pc := 24) C dX12_beside_24 (tgt := 41) (by decide) ?_
  have h := Option.some.inj h
  subst h
  exact k_iret (pc := 41) C hr hk dX12_beside_41
def f_X12_beside (S : Sh) (R : Rw) (I : Iw)  (a0 : Nat) (x1 : Int32) (x2 : Int32) : Option (Int32) := gp (sok S a0 12 34) (bd (f_X12_is S R I a0 x1 (3 : Int32)) (fun r2 => (if r2 = 0 then f_X12_beside_23 S R I   else bd (f_X12_is S R I a0 x2 (3 : Int32)) (fun r4 => (if r4 = 0 then f_X12_beside_23 S R I   else (if x1 = x2 then f_X12_beside_23 S R I   else bd (f_X12_cameBeside S R I a0 x1 x2) (fun r7 => (if r7 = 0 then some (0 : Int32) else some (1 : Int32)))))))))
set_option maxHeartbeats 4000000 in
theorem b_X12_beside {E : Ev} {p : Program} {l : Launch} {e : Env} {s : State} {m : MethodId} {args : Array Value} {below : List Frame} {meth : Method} {c : Code} (C : Cx E RX12 cX12_beside 3 p s m c) (hr : meth.sig.returnType = (some .int)) (hk : meth.locks = false) {S : Sh} {R : Rw} {I : Iw} {r : Int32}  : ∀ (a0 : Nat) (x1 : Int32) (x2 : Int32), f_X12_beside S R I   a0 x1 x2 = some r → Wk E 3 p l e ({ frames := 4, cells := 0, slots := 0, locals := 90 } : Room) s m args below meth c 0 0 (MQ below (Qw E S R I (some (.int r))) args s 0 0 (fun q => E.1 ≤ q)) 0 [(0, .ref (E.1 + a0)), (1, .int x1), (2, .int x2)] [] S R I := by
  intro a0 x1 x2 h
  rw [f_X12_beside] at h
  refine k_aloadn (pc := 0) C dX12_beside_0 (i := 0) rfl 0 rfl ?_
  refine k_iloadn (pc := 1) C dX12_beside_1 (i := 1) rfl 1 rfl ?_
  refine k_iconst (pc := 2) C (v := (3 : Int32)) dX12_beside_2 (by decide) ?_
  obtain ⟨hs10, h⟩ := gp_e h
  have hs1 := sok_e hs10
  obtain ⟨r2, hr2, h⟩ := bd_e h
  refine k_V (pc := 3) (st := []) C (c_X12_is hr2) lkV_RX12_251 hs1 rfl rfl rfl (Nat.le_of_ble_eq_true rfl) (Nat.le_of_ble_eq_true rfl) (Nat.le_of_ble_eq_true rfl) (Nat.le_of_ble_eq_true rfl) (Nat.le_of_ble_eq_true rfl) dX12_beside_3 ?_
  refine k_nf (cells2 := 0) (slots2 := 0) (st2 := [.int r2]) rfl rfl rfl ?_
  refine k_if_eq (pc := 6) C dX12_beside_6 (tgt := 23) (by decide) (fun hc3 => ?_) (fun hc3 => ?_)
  · rw [if_pos hc3] at h
    refine k_loc (L2 := []) [] rfl ?_
    exact b_X12_beside_23 C hr hk   h
  · rw [if_neg hc3] at h
    refine k_aloadn (pc := 9) C dX12_beside_9 (i := 0) rfl 0 rfl ?_
    refine k_iloadn (pc := 10) C dX12_beside_10 (i := 2) rfl 2 rfl ?_
    refine k_iconst (pc := 11) C (v := (3 : Int32)) dX12_beside_11 (by decide) ?_
    obtain ⟨r4, hr4, h⟩ := bd_e h
    refine k_V (pc := 12) (st := []) C (c_X12_is hr4) lkV_RX12_251 hs1 rfl rfl rfl (Nat.le_of_ble_eq_true rfl) (Nat.le_of_ble_eq_true rfl) (Nat.le_of_ble_eq_true rfl) (Nat.le_of_ble_eq_true rfl) (Nat.le_of_ble_eq_true rfl) dX12_beside_12 ?_
    refine k_nf (cells2 := 0) (slots2 := 0) (st2 := [.int r4]) rfl rfl rfl ?_
    refine k_if_eq (pc := 15) C dX12_beside_15 (tgt := 23) (by decide) (fun hc5 => ?_) (fun hc5 => ?_)
    · rw [if_pos hc5] at h
      refine k_loc (L2 := []) [] rfl ?_
      exact b_X12_beside_23 C hr hk   h
    · rw [if_neg hc5] at h
      refine k_iloadn (pc := 18) C dX12_beside_18 (i := 1) rfl 1 rfl ?_
      refine k_iloadn (pc := 19) C dX12_beside_19 (i := 2) rfl 2 rfl ?_
      refine k_icmp_ne (pc := 20) C dX12_beside_20 (tgt := 27) (by decide) (fun hc6 => ?_) (fun hc6 => ?_)
      · rw [if_neg hc6] at h
        refine k_aloadn (pc := 27) C dX12_beside_27 (i := 0) rfl 0 rfl ?_
        refine k_iloadn (pc := 28) C dX12_beside_28 (i := 1) rfl 1 rfl ?_
        refine k_iloadn (pc := 29) C dX12_beside_29 (i := 2) rfl 2 rfl ?_
        obtain ⟨r7, hr7, h⟩ := bd_e h
        refine k_V (pc := 30) (st := []) C (c_X12_cameBeside hr7) lkV_RX12_248 hs1 rfl rfl rfl (Nat.le_of_ble_eq_true rfl) (Nat.le_of_ble_eq_true rfl) (Nat.le_of_ble_eq_true rfl) (Nat.le_of_ble_eq_true rfl) (Nat.le_of_ble_eq_true rfl) dX12_beside_30 ?_
        refine k_nf (cells2 := 0) (slots2 := 0) (st2 := [.int r7]) rfl rfl rfl ?_
        refine k_if_eq (pc := 33) C dX12_beside_33 (tgt := 40) (by decide) (fun hc8 => ?_) (fun hc8 => ?_)
        · rw [if_pos hc8] at h
          refine k_iconst (pc := 40) C (v := (0 : Int32)) dX12_beside_40 (by decide) ?_
          have h := Option.some.inj h
          subst h
          exact k_iret (pc := 41) C hr hk dX12_beside_41
        · rw [if_neg hc8] at h
          refine k_iconst (pc := 36) C (v := (1 : Int32)) dX12_beside_36 (by decide) ?_
          refine k_goto (pc := 37) C dX12_beside_37 (tgt := 41) (by decide) ?_
          have h := Option.some.inj h
          subst h
          exact k_iret (pc := 41) C hr hk dX12_beside_41
      · rw [if_pos hc6] at h
        refine k_loc (L2 := []) [] rfl ?_
        exact b_X12_beside_23 C hr hk   h
theorem c_X12_beside {E : Ev} {l : Launch} {S : Sh} {R : Rw} {I : Iw} {a0 : Nat} {x1 : Int32} {x2 : Int32} {r : Int32} (h : f_X12_beside S R I a0 x1 x2 = some r) : Mt E l yX12_beside cX12_beside 3 (some .int) 4 90 [.ref (E.1 + a0), .int x1, .int x2] S R I S R I (some (.int r)) 0 0 := mt_of (by decide) (Nat.le_of_ble_eq_true rfl) (fun p e s m args below meth c C hr hk hn => b_X12_beside C hr hk _ _ _ h)
theorem dX12_mates_0 : decode cX12_mates 0 = .ok (.aload_n 0, 1) := by decide +kernel
theorem dX12_mates_1 : decode cX12_mates 1 = .ok (.iload_n 1, 1) := by decide +kernel
theorem dX12_mates_2 : decode cX12_mates 2 = .ok (.iconst 3, 1) := by decide +kernel
theorem dX12_mates_3 : decode cX12_mates 3 = .ok (.invokevirtual 251, 3) := by decide +kernel
theorem dX12_mates_6 : decode cX12_mates 6 = .ok (.ifCond .ne 5, 3) := by decide +kernel
theorem dX12_mates_9 : decode cX12_mates 9 = .ok (.iconst (-1), 1) := by decide +kernel
theorem dX12_mates_10 : decode cX12_mates 10 = .ok (.ireturn, 1) := by decide +kernel
theorem dX12_mates_11 : decode cX12_mates 11 = .ok (.iconst 0, 1) := by decide +kernel
theorem dX12_mates_12 : decode cX12_mates 12 = .ok (.istore_n 2, 1) := by decide +kernel
theorem dX12_mates_13 : decode cX12_mates 13 = .ok (.iconst 0, 1) := by decide +kernel
theorem dX12_mates_14 : decode cX12_mates 14 = .ok (.istore_n 3, 1) := by decide +kernel
theorem dX12_mates_15 : decode cX12_mates 15 = .ok (.iload_n 3, 1) := by decide +kernel
theorem dX12_mates_16 : decode cX12_mates 16 = .ok (.aload_n 0, 1) := by decide +kernel
theorem dX12_mates_17 : decode cX12_mates 17 = .ok (.getfield 9, 3) := by decide +kernel
theorem dX12_mates_20 : decode cX12_mates 20 = .ok (.iconst 3, 1) := by decide +kernel
theorem dX12_mates_21 : decode cX12_mates 21 = .ok (.iaload, 1) := by decide +kernel
theorem dX12_mates_22 : decode cX12_mates 22 = .ok (.if_icmp .ge 33, 3) := by decide +kernel
theorem dX12_mates_25 : decode cX12_mates 25 = .ok (.iload_n 2, 1) := by decide +kernel
theorem dX12_mates_26 : decode cX12_mates 26 = .ok (.iload_n 3, 1) := by decide +kernel
theorem dX12_mates_27 : decode cX12_mates 27 = .ok (.iload_n 1, 1) := by decide +kernel
theorem dX12_mates_28 : decode cX12_mates 28 = .ok (.if_icmp .eq 18, 3) := by decide +kernel
theorem dX12_mates_31 : decode cX12_mates 31 = .ok (.aload_n 0, 1) := by decide +kernel
theorem dX12_mates_32 : decode cX12_mates 32 = .ok (.iload_n 1, 1) := by decide +kernel
theorem dX12_mates_33 : decode cX12_mates 33 = .ok (.iload_n 3, 1) := by decide +kernel
theorem dX12_mates_34 : decode cX12_mates 34 = .ok (.invokevirtual 248, 3) := by decide +kernel
theorem dX12_mates_37 : decode cX12_mates 37 = .ok (.ifCond .eq 9, 3) := by decide +kernel
theorem dX12_mates_40 : decode cX12_mates 40 = .ok (.iconst 1, 1) := by decide +kernel
theorem dX12_mates_41 : decode cX12_mates 41 = .ok (.iload_n 3, 1) := by decide +kernel
theorem dX12_mates_42 : decode cX12_mates 42 = .ok (.ishl, 1) := by decide +kernel
theorem dX12_mates_43 : decode cX12_mates 43 = .ok (.goto 4, 3) := by decide +kernel
theorem dX12_mates_46 : decode cX12_mates 46 = .ok (.iconst 0, 1) := by decide +kernel
theorem dX12_mates_47 : decode cX12_mates 47 = .ok (.ior, 1) := by decide +kernel
theorem dX12_mates_48 : decode cX12_mates 48 = .ok (.istore_n 2, 1) := by decide +kernel
theorem dX12_mates_49 : decode cX12_mates 49 = .ok (.iinc 3 1, 3) := by decide +kernel
theorem dX12_mates_52 : decode cX12_mates 52 = .ok (.goto (-37), 3) := by decide +kernel
theorem dX12_mates_55 : decode cX12_mates 55 = .ok (.iload_n 2, 1) := by decide +kernel
theorem dX12_mates_56 : decode cX12_mates 56 = .ok (.ireturn, 1) := by decide +kernel
def f_X12_mates_47 (S : Sh) (R : Rw) (I : Iw) (ko15 : Nat → Int32 → Int32 → Int32 → Option (Int32)) (a0 : Nat) (x1 : Int32) (x3 : Int32) (s0 : Int32) (s1 : Int32) : Option (Int32) := ko15 a0 x1 (s1 ||| s0) (x3 + (1 : Int32))
set_option maxHeartbeats 4000000 in
theorem b_X12_mates_47 {E : Ev} {p : Program} {l : Launch} {e : Env} {s : State} {m : MethodId} {args : Array Value} {below : List Frame} {meth : Method} {c : Code} (C : Cx E RX12 cX12_mates 4 p s m c) (hr : meth.sig.returnType = (some .int)) (hk : meth.locks = false) {S : Sh} {R : Rw} {I : Iw} {r : Int32}  {ko15 : Nat → Int32 → Int32 → Int32 → Option (Int32)} (hko15 : ∀ (a0 : Nat) (x1 : Int32) (x2 : Int32) (x3 : Int32), ko15 a0 x1 x2 x3 = some r → Wk E 4 p l e ({ frames := 4, cells := 0, slots := 0, locals := 90 } : Room) s m args below meth c 0 0 (MQ below (Qw E S R I (some (.int r))) args s 0 0 (fun q => E.1 ≤ q)) 15 [(0, .ref (E.1 + a0)), (1, .int x1), (2, .int x2), (3, .int x3)] [] S R I) : ∀ (a0 : Nat) (x1 : Int32) (x3 : Int32) (s0 : Int32) (s1 : Int32), f_X12_mates_47 S R I ko15  a0 x1 x3 s0 s1 = some r → Wk E 4 p l e ({ frames := 4, cells := 0, slots := 0, locals := 90 } : Room) s m args below meth c 0 0 (MQ below (Qw E S R I (some (.int r))) args s 0 0 (fun q => E.1 ≤ q)) 47 [(0, .ref (E.1 + a0)), (1, .int x1), (3, .int x3)] [.int s0, .int s1] S R I := by
  intro a0 x1 x3 s0 s1 h
  rw [f_X12_mates_47] at h
  refine k_ior (pc := 47) C dX12_mates_47 ?_
  refine k_istoren (pc := 48) C dX12_mates_48 (i := 2) rfl (by decide) (L2 := [(0, .ref (E.1 + a0)), (1, .int x1), (2, .int (s1 ||| s0)), (3, .int x3)]) rfl ?_
  refine k_iinc (pc := 49) C dX12_mates_49 3 rfl (v := x3 + (1 : Int32)) (by rfl) (by decide) (L2 := [(0, .ref (E.1 + a0)), (1, .int x1), (2, .int (s1 ||| s0)), (3, .int (x3 + (1 : Int32)))]) rfl ?_
  refine k_goto (pc := 52) C dX12_mates_52 (tgt := 15) (by decide) ?_
  exact hko15 _ _ _ _ h
def f_X12_mates_46 (S : Sh) (R : Rw) (I : Iw) (ko15 : Nat → Int32 → Int32 → Int32 → Option (Int32)) (a0 : Nat) (x1 : Int32) (x3 : Int32) (s0 : Int32) : Option (Int32) := f_X12_mates_47 S R I ko15 a0 x1 x3 (0 : Int32) s0
set_option maxHeartbeats 4000000 in
theorem b_X12_mates_46 {E : Ev} {p : Program} {l : Launch} {e : Env} {s : State} {m : MethodId} {args : Array Value} {below : List Frame} {meth : Method} {c : Code} (C : Cx E RX12 cX12_mates 4 p s m c) (hr : meth.sig.returnType = (some .int)) (hk : meth.locks = false) {S : Sh} {R : Rw} {I : Iw} {r : Int32}  {ko15 : Nat → Int32 → Int32 → Int32 → Option (Int32)} (hko15 : ∀ (a0 : Nat) (x1 : Int32) (x2 : Int32) (x3 : Int32), ko15 a0 x1 x2 x3 = some r → Wk E 4 p l e ({ frames := 4, cells := 0, slots := 0, locals := 90 } : Room) s m args below meth c 0 0 (MQ below (Qw E S R I (some (.int r))) args s 0 0 (fun q => E.1 ≤ q)) 15 [(0, .ref (E.1 + a0)), (1, .int x1), (2, .int x2), (3, .int x3)] [] S R I) : ∀ (a0 : Nat) (x1 : Int32) (x3 : Int32) (s0 : Int32), f_X12_mates_46 S R I ko15  a0 x1 x3 s0 = some r → Wk E 4 p l e ({ frames := 4, cells := 0, slots := 0, locals := 90 } : Room) s m args below meth c 0 0 (MQ below (Qw E S R I (some (.int r))) args s 0 0 (fun q => E.1 ≤ q)) 46 [(0, .ref (E.1 + a0)), (1, .int x1), (3, .int x3)] [.int s0] S R I := by
  intro a0 x1 x3 s0 h
  rw [f_X12_mates_46] at h
  refine k_iconst (pc := 46) C (v := (0 : Int32)) dX12_mates_46 (by decide) ?_
  exact b_X12_mates_47 C hr hk hko15 _ _ _ _ _ h
def f_X12_mates_15 (S : Sh) (R : Rw) (I : Iw)  : Nat → Nat → Int32 → Int32 → Int32 → Option (Int32)
  | 0, _, _, _, _ => none
  | n + 1, a0, x1, x2, x3 => gp (sok S a0 12 34) (rl (R a0 0) (fun b5 => gp (aok S 20 b5 (3 : Int32)) ((if (I b5 (3 : Int32).toNatClampNeg) ≤ x3 then some x2 else (if x3 = x1 then f_X12_mates_46 S R I (f_X12_mates_15 S R I  n) a0 x1 x3 x2 else bd (f_X12_cameBeside S R I a0 x1 x3) (fun r9 => (if r9 = 0 then f_X12_mates_46 S R I (f_X12_mates_15 S R I  n) a0 x1 x3 x2 else f_X12_mates_47 S R I (f_X12_mates_15 S R I  n) a0 x1 x3 ((1 : Int32) <<< (x3 &&& 31)) x2)))))))
set_option maxHeartbeats 4000000 in
theorem b_X12_mates_15 {E : Ev} {p : Program} {l : Launch} {e : Env} {s : State} {m : MethodId} {args : Array Value} {below : List Frame} {meth : Method} {c : Code} (C : Cx E RX12 cX12_mates 4 p s m c) (hr : meth.sig.returnType = (some .int)) (hk : meth.locks = false) {S : Sh} {R : Rw} {I : Iw} {r : Int32}  : ∀ (n : Nat) (a0 : Nat) (x1 : Int32) (x2 : Int32) (x3 : Int32), f_X12_mates_15 S R I  n a0 x1 x2 x3 = some r → Wk E 4 p l e ({ frames := 4, cells := 0, slots := 0, locals := 90 } : Room) s m args below meth c 0 0 (MQ below (Qw E S R I (some (.int r))) args s 0 0 (fun q => E.1 ≤ q)) 15 [(0, .ref (E.1 + a0)), (1, .int x1), (2, .int x2), (3, .int x3)] [] S R I := by
  intro n
  induction n with
  | zero =>
    intro a0 x1 x2 x3 h
    rw [f_X12_mates_15] at h
    cases h
  | succ n ih =>
    intro a0 x1 x2 x3 h
    rw [f_X12_mates_15] at h
    refine k_iloadn (pc := 15) C dX12_mates_15 (i := 3) rfl 3 rfl ?_
    refine k_aloadn (pc := 16) C dX12_mates_16 (i := 0) rfl 0 rfl ?_
    obtain ⟨hs40, h⟩ := gp_e h
    have hs4 := sok_e hs40
    obtain ⟨b5, hb5, h⟩ := rl_e h
    refine k_getR (pc := 17) C lkF_RX12_9_12 hs4 ir_12_0 hb5 dX12_mates_17 ?_
    refine k_iconst (pc := 20) C (v := (3 : Int32)) dX12_mates_20 (by decide) ?_
    obtain ⟨ha6, h⟩ := gp_e h
    refine k_iald (pc := 21) C ha6 dX12_mates_21 ?_
    refine k_icmp_ge (pc := 22) C dX12_mates_22 (tgt := 55) (by decide) (fun hc7 => ?_) (fun hc7 => ?_)
    · rw [if_pos hc7] at h
      refine k_iloadn (pc := 55) C dX12_mates_55 (i := 2) rfl 2 rfl ?_
      have h := Option.some.inj h
      subst h
      exact k_iret (pc := 56) C hr hk dX12_mates_56
    · rw [if_neg hc7] at h
      refine k_iloadn (pc := 25) C dX12_mates_25 (i := 2) rfl 2 rfl ?_
      refine k_iloadn (pc := 26) C dX12_mates_26 (i := 3) rfl 3 rfl ?_
      refine k_iloadn (pc := 27) C dX12_mates_27 (i := 1) rfl 1 rfl ?_
      refine k_icmp_eq (pc := 28) C dX12_mates_28 (tgt := 46) (by decide) (fun hc8 => ?_) (fun hc8 => ?_)
      · rw [if_pos hc8] at h
        refine k_loc (L2 := [(0, .ref (E.1 + a0)), (1, .int x1), (3, .int x3)]) [0, 1, 3] rfl ?_
        exact b_X12_mates_46 C hr hk ih _ _ _ _ h
      · rw [if_neg hc8] at h
        refine k_aloadn (pc := 31) C dX12_mates_31 (i := 0) rfl 0 rfl ?_
        refine k_iloadn (pc := 32) C dX12_mates_32 (i := 1) rfl 1 rfl ?_
        refine k_iloadn (pc := 33) C dX12_mates_33 (i := 3) rfl 3 rfl ?_
        obtain ⟨r9, hr9, h⟩ := bd_e h
        refine k_V (pc := 34) (st := [.int x2]) C (c_X12_cameBeside hr9) lkV_RX12_248 hs4 rfl rfl rfl (Nat.le_of_ble_eq_true rfl) (Nat.le_of_ble_eq_true rfl) (Nat.le_of_ble_eq_true rfl) (Nat.le_of_ble_eq_true rfl) (Nat.le_of_ble_eq_true rfl) dX12_mates_34 ?_
        refine k_nf (cells2 := 0) (slots2 := 0) (st2 := [.int r9, .int x2]) rfl rfl rfl ?_
        refine k_if_eq (pc := 37) C dX12_mates_37 (tgt := 46) (by decide) (fun hc10 => ?_) (fun hc10 => ?_)
        · rw [if_pos hc10] at h
          refine k_loc (L2 := [(0, .ref (E.1 + a0)), (1, .int x1), (3, .int x3)]) [0, 1, 3] rfl ?_
          exact b_X12_mates_46 C hr hk ih _ _ _ _ h
        · rw [if_neg hc10] at h
          refine k_iconst (pc := 40) C (v := (1 : Int32)) dX12_mates_40 (by decide) ?_
          refine k_iloadn (pc := 41) C dX12_mates_41 (i := 3) rfl 3 rfl ?_
          refine k_ishl (pc := 42) C dX12_mates_42 ?_
          refine k_goto (pc := 43) C dX12_mates_43 (tgt := 47) (by decide) ?_
          refine k_loc (L2 := [(0, .ref (E.1 + a0)), (1, .int x1), (3, .int x3)]) [0, 1, 3] rfl ?_
          exact b_X12_mates_47 C hr hk ih _ _ _ _ _ h
def f_X12_mates (S : Sh) (R : Rw) (I : Iw)  (a0 : Nat) (x1 : Int32) : Option (Int32) := gp (sok S a0 12 34) (bd (f_X12_is S R I a0 x1 (3 : Int32)) (fun r2 => (if r2 = 0 then some (-1 : Int32) else f_X12_mates_15 S R I  512 a0 x1 (0 : Int32) (0 : Int32))))
set_option maxHeartbeats 4000000 in
theorem b_X12_mates {E : Ev} {p : Program} {l : Launch} {e : Env} {s : State} {m : MethodId} {args : Array Value} {below : List Frame} {meth : Method} {c : Code} (C : Cx E RX12 cX12_mates 4 p s m c) (hr : meth.sig.returnType = (some .int)) (hk : meth.locks = false) {S : Sh} {R : Rw} {I : Iw} {r : Int32}  : ∀ (a0 : Nat) (x1 : Int32), f_X12_mates S R I   a0 x1 = some r → Wk E 4 p l e ({ frames := 4, cells := 0, slots := 0, locals := 90 } : Room) s m args below meth c 0 0 (MQ below (Qw E S R I (some (.int r))) args s 0 0 (fun q => E.1 ≤ q)) 0 [(0, .ref (E.1 + a0)), (1, .int x1)] [] S R I := by
  intro a0 x1 h
  rw [f_X12_mates] at h
  refine k_aloadn (pc := 0) C dX12_mates_0 (i := 0) rfl 0 rfl ?_
  refine k_iloadn (pc := 1) C dX12_mates_1 (i := 1) rfl 1 rfl ?_
  refine k_iconst (pc := 2) C (v := (3 : Int32)) dX12_mates_2 (by decide) ?_
  obtain ⟨hs10, h⟩ := gp_e h
  have hs1 := sok_e hs10
  obtain ⟨r2, hr2, h⟩ := bd_e h
  refine k_V (pc := 3) (st := []) C (c_X12_is hr2) lkV_RX12_251 hs1 rfl rfl rfl (Nat.le_of_ble_eq_true rfl) (Nat.le_of_ble_eq_true rfl) (Nat.le_of_ble_eq_true rfl) (Nat.le_of_ble_eq_true rfl) (Nat.le_of_ble_eq_true rfl) dX12_mates_3 ?_
  refine k_nf (cells2 := 0) (slots2 := 0) (st2 := [.int r2]) rfl rfl rfl ?_
  refine k_if_ne (pc := 6) C dX12_mates_6 (tgt := 11) (by decide) (fun hc3 => ?_) (fun hc3 => ?_)
  · rw [if_neg hc3] at h
    refine k_iconst (pc := 11) C (v := (0 : Int32)) dX12_mates_11 (by decide) ?_
    refine k_istoren (pc := 12) C dX12_mates_12 (i := 2) rfl (by decide) (L2 := [(0, .ref (E.1 + a0)), (1, .int x1), (2, .int (0 : Int32))]) rfl ?_
    refine k_iconst (pc := 13) C (v := (0 : Int32)) dX12_mates_13 (by decide) ?_
    refine k_istoren (pc := 14) C dX12_mates_14 (i := 3) rfl (by decide) (L2 := [(0, .ref (E.1 + a0)), (1, .int x1), (2, .int (0 : Int32)), (3, .int (0 : Int32))]) rfl ?_
    exact b_X12_mates_15 C hr hk  _ _ _ _ _ h
  · rw [if_pos hc3] at h
    refine k_iconst (pc := 9) C (v := (-1 : Int32)) dX12_mates_9 (by decide) ?_
    have h := Option.some.inj h
    subst h
    exact k_iret (pc := 10) C hr hk dX12_mates_10
theorem c_X12_mates {E : Ev} {l : Launch} {S : Sh} {R : Rw} {I : Iw} {a0 : Nat} {x1 : Int32} {r : Int32} (h : f_X12_mates S R I a0 x1 = some r) : Mt E l yX12_mates cX12_mates 4 (some .int) 4 90 [.ref (E.1 + a0), .int x1] S R I S R I (some (.int r)) 0 0 := mt_of (by decide) (Nat.le_of_ble_eq_true rfl) (fun p e s m args below meth c C hr hk hn => b_X12_mates C hr hk _ _ h)
