/-! X5_isSo, X5_changeFor, X7_fee, X7_couldGoBehind, X7_fits -/
theorem lkF_RX5_18_5 : LkF RX5 18 5 3 := ⟨RX5, TX5, 8, "UnlikeNeighbours$Rules", fc5, by decide, (t1_in 46 (by decide +kernel) rfl), Or.inl rfl⟩
theorem lkV_RX5_48 : LkV RX5 48 RX5 yX5_compared cX5_compared 6 (some .int) 3 := ⟨(t2_in 86 (by decide +kernel) rfl), (t2_in 88 (by decide +kernel) rfl), (t0_in 4 (by decide +kernel) rfl), (t2_in 89 (by decide +kernel) rfl), (t1_in 3 (by decide +kernel) rfl), by decide, by decide +kernel⟩
theorem dX5_isSo_0 : decode cX5_isSo 0 = .ok (.iconst 1, 1) := by decide +kernel
theorem dX5_isSo_1 : decode cX5_isSo 1 = .ok (.istore 4, 2) := by decide +kernel
theorem dX5_isSo_3 : decode cX5_isSo 3 = .ok (.iload_n 1, 1) := by decide +kernel
theorem dX5_isSo_4 : decode cX5_isSo 4 = .ok (.ifCond .ne 7, 3) := by decide +kernel
theorem dX5_isSo_7 : decode cX5_isSo 7 = .ok (.iconst 0, 1) := by decide +kernel
theorem dX5_isSo_8 : decode cX5_isSo 8 = .ok (.goto 11, 3) := by decide +kernel
theorem dX5_isSo_11 : decode cX5_isSo 11 = .ok (.aload_n 0, 1) := by decide +kernel
theorem dX5_isSo_12 : decode cX5_isSo 12 = .ok (.getfield 18, 3) := by decide +kernel
theorem dX5_isSo_15 : decode cX5_isSo 15 = .ok (.iload_n 1, 1) := by decide +kernel
theorem dX5_isSo_16 : decode cX5_isSo 16 = .ok (.iconst 1, 1) := by decide +kernel
theorem dX5_isSo_17 : decode cX5_isSo 17 = .ok (.isub, 1) := by decide +kernel
theorem dX5_isSo_18 : decode cX5_isSo 18 = .ok (.iaload, 1) := by decide +kernel
theorem dX5_isSo_19 : decode cX5_isSo 19 = .ok (.istore 5, 2) := by decide +kernel
theorem dX5_isSo_21 : decode cX5_isSo 21 = .ok (.iload 5, 2) := by decide +kernel
theorem dX5_isSo_23 : decode cX5_isSo 23 = .ok (.aload_n 0, 1) := by decide +kernel
theorem dX5_isSo_24 : decode cX5_isSo 24 = .ok (.getfield 18, 3) := by decide +kernel
theorem dX5_isSo_27 : decode cX5_isSo 27 = .ok (.iload_n 1, 1) := by decide +kernel
theorem dX5_isSo_28 : decode cX5_isSo 28 = .ok (.iaload, 1) := by decide +kernel
theorem dX5_isSo_29 : decode cX5_isSo 29 = .ok (.if_icmp .ge 94, 3) := by decide +kernel
theorem dX5_isSo_32 : decode cX5_isSo 32 = .ok (.aload_n 0, 1) := by decide +kernel
theorem dX5_isSo_33 : decode cX5_isSo 33 = .ok (.getfield 21, 3) := by decide +kernel
theorem dX5_isSo_36 : decode cX5_isSo 36 = .ok (.iload 5, 2) := by decide +kernel
theorem dX5_isSo_38 : decode cX5_isSo 38 = .ok (.iaload, 1) := by decide +kernel
theorem dX5_isSo_39 : decode cX5_isSo 39 = .ok (.tableswitch 63 10007 10009 #[49, 34, 25], 25) := by decide +kernel
theorem dX5_isSo_64 : decode cX5_isSo 64 = .ok (.iload 4, 2) := by decide +kernel
theorem dX5_isSo_66 : decode cX5_isSo 66 = .ok (.iconst 1, 1) := by decide +kernel
theorem dX5_isSo_67 : decode cX5_isSo 67 = .ok (.ixor, 1) := by decide +kernel
theorem dX5_isSo_68 : decode cX5_isSo 68 = .ok (.istore 4, 2) := by decide +kernel
theorem dX5_isSo_70 : decode cX5_isSo 70 = .ok (.goto 47, 3) := by decide +kernel
theorem dX5_isSo_73 : decode cX5_isSo 73 = .ok (.iload 4, 2) := by decide +kernel
theorem dX5_isSo_75 : decode cX5_isSo 75 = .ok (.iconst 1, 1) := by decide +kernel
theorem dX5_isSo_76 : decode cX5_isSo 76 = .ok (.ishr, 1) := by decide +kernel
theorem dX5_isSo_77 : decode cX5_isSo 77 = .ok (.iload 4, 2) := by decide +kernel
theorem dX5_isSo_79 : decode cX5_isSo 79 = .ok (.bipush (-2), 2) := by decide +kernel
theorem dX5_isSo_81 : decode cX5_isSo 81 = .ok (.ior, 1) := by decide +kernel
theorem dX5_isSo_82 : decode cX5_isSo 82 = .ok (.iand, 1) := by decide +kernel
theorem dX5_isSo_83 : decode cX5_isSo 83 = .ok (.istore 4, 2) := by decide +kernel
theorem dX5_isSo_85 : decode cX5_isSo 85 = .ok (.goto 32, 3) := by decide +kernel
theorem dX5_isSo_88 : decode cX5_isSo 88 = .ok (.iload 4, 2) := by decide +kernel
theorem dX5_isSo_90 : decode cX5_isSo 90 = .ok (.iconst 1, 1) := by decide +kernel
theorem dX5_isSo_91 : decode cX5_isSo 91 = .ok (.ishr, 1) := by decide +kernel
theorem dX5_isSo_92 : decode cX5_isSo 92 = .ok (.iload 4, 2) := by decide +kernel
theorem dX5_isSo_94 : decode cX5_isSo 94 = .ok (.iconst 1, 1) := by decide +kernel
theorem dX5_isSo_95 : decode cX5_isSo 95 = .ok (.iand, 1) := by decide +kernel
theorem dX5_isSo_96 : decode cX5_isSo 96 = .ok (.ior, 1) := by decide +kernel
theorem dX5_isSo_97 : decode cX5_isSo 97 = .ok (.istore 4, 2) := by decide +kernel
theorem dX5_isSo_99 : decode cX5_isSo 99 = .ok (.goto 18, 3) := by decide +kernel
theorem dX5_isSo_102 : decode cX5_isSo 102 = .ok (.iload 4, 2) := by decide +kernel
theorem dX5_isSo_104 : decode cX5_isSo 104 = .ok (.iconst 1, 1) := by decide +kernel
theorem dX5_isSo_105 : decode cX5_isSo 105 = .ok (.ishl, 1) := by decide +kernel
theorem dX5_isSo_106 : decode cX5_isSo 106 = .ok (.aload_n 0, 1) := by decide +kernel
theorem dX5_isSo_107 : decode cX5_isSo 107 = .ok (.iload 5, 2) := by decide +kernel
theorem dX5_isSo_109 : decode cX5_isSo 109 = .ok (.aload_n 2, 1) := by decide +kernel
theorem dX5_isSo_110 : decode cX5_isSo 110 = .ok (.iload_n 3, 1) := by decide +kernel
theorem dX5_isSo_111 : decode cX5_isSo 111 = .ok (.invokevirtual 48, 3) := by decide +kernel
theorem dX5_isSo_114 : decode cX5_isSo 114 = .ok (.ior, 1) := by decide +kernel
theorem dX5_isSo_115 : decode cX5_isSo 115 = .ok (.istore 4, 2) := by decide +kernel
theorem dX5_isSo_117 : decode cX5_isSo 117 = .ok (.iinc 5 1, 3) := by decide +kernel
theorem dX5_isSo_120 : decode cX5_isSo 120 = .ok (.goto (-99), 3) := by decide +kernel
theorem dX5_isSo_123 : decode cX5_isSo 123 = .ok (.iload 4, 2) := by decide +kernel
theorem dX5_isSo_125 : decode cX5_isSo 125 = .ok (.iconst 1, 1) := by decide +kernel
theorem dX5_isSo_126 : decode cX5_isSo 126 = .ok (.iand, 1) := by decide +kernel
theorem dX5_isSo_127 : decode cX5_isSo 127 = .ok (.iconst 1, 1) := by decide +kernel
theorem dX5_isSo_128 : decode cX5_isSo 128 = .ok (.if_icmp .ne 7, 3) := by decide +kernel
theorem dX5_isSo_131 : decode cX5_isSo 131 = .ok (.iconst 1, 1) := by decide +kernel
theorem dX5_isSo_132 : decode cX5_isSo 132 = .ok (.goto 4, 3) := by decide +kernel
theorem dX5_isSo_135 : decode cX5_isSo 135 = .ok (.iconst 0, 1) := by decide +kernel
theorem dX5_isSo_136 : decode cX5_isSo 136 = .ok (.ireturn, 1) := by decide +kernel
def f_X5_isSo_117 (S : Sh) (R : Rw) (I : Iw) (ko21 : Nat → Int32 → Nat → Int32 → Int32 → Int32 → Option (Int32)) (a0 : Nat) (x1 : Int32) (a2 : Nat) (x3 : Int32) (x4 : Int32) (x5 : Int32) : Option (Int32) := ko21 a0 x1 a2 x3 x4 (x5 + (1 : Int32))
set_option maxHeartbeats 4000000 in
theorem b_X5_isSo_117 {E : Ev} {p : Program} {l : Launch} {e : Env} {s : State} {m : MethodId} {args : Array Value} {below : List Frame} {meth : Method} {c : Code} (C : Cx E RX5 cX5_isSo 6 p s m c) (hr : meth.sig.returnType = (some .boolean)) (hk : meth.locks = false) {S : Sh} {R : Rw} {I : Iw} {r : Int32}  {ko21 : Nat → Int32 → Nat → Int32 → Int32 → Int32 → Option (Int32)} (hko21 : ∀ (a0 : Nat) (x1 : Int32) (a2 : Nat) (x3 : Int32) (x4 : Int32) (x5 : Int32), ko21 a0 x1 a2 x3 x4 x5 = some r → Wk E 6 p l e ({ frames := 2, cells := 0, slots := 0, locals := 47 } : Room) s m args below meth c 0 0 (MQ below (Qw E S R I (some (.int r))) args s 0 0 (fun q => E.1 ≤ q)) 21 [(0, .ref (E.1 + a0)), (1, .int x1), (2, .ref (E.1 + a2)), (3, .int x3), (4, .int x4), (5, .int x5)] [] S R I) : ∀ (a0 : Nat) (x1 : Int32) (a2 : Nat) (x3 : Int32) (x4 : Int32) (x5 : Int32), f_X5_isSo_117 S R I ko21  a0 x1 a2 x3 x4 x5 = some r → Wk E 6 p l e ({ frames := 2, cells := 0, slots := 0, locals := 47 } : Room) s m args below meth c 0 0 (MQ below (Qw E S R I (some (.int r))) args s 0 0 (fun q => E.1 ≤ q)) 117 [(0, .ref (E.1 + a0)), (1, .int x1), (2, .ref (E.1 + a2)), (3, .int x3), (4, .int x4), (5, .int x5)] [] S R I := by
  intro a0 x1 a2 x3 x4 x5 h
  rw [f_X5_isSo_117] at h
  refine k_iinc (pc := 117) C dX5_isSo_117 5 rfl (v := x5 + (1 : Int32)) (by rfl) (by decide) (L2 := [(0, .ref (E.1 + a0)), (1, .int x1), (2, .ref (E.1 + a2)), (3, .int x3), (4, .int x4), (5, .int (x5 + (1 : Int32)))]) rfl ?_
  refine k_goto (pc := 120) C dX5_isSo_120 (tgt := 21) (by decide) ?_
  exact hko21 _ _ _ _ _ _ h
def f_X5_isSo_21 (S : Sh) (R : Rw) (I : Iw)  : Nat → Nat → Int32 → Nat → Int32 → Int32 → Int32 → Option (Int32)
  | 0, _, _, _, _, _, _ => none
  | n + 1, a0, x1, a2, x3, x4, x5 => gp (sok S a0 5 8) (rl (R a0 3) (fun b6 => gp (aok S 20 b6 x1) ((if (I b6 x1.toNatClampNeg) ≤ x5 then (if (x4 &&& (1 : Int32)) = (1 : Int32) then some (1 : Int32) else some (0 : Int32)) else rl (R a0 5) (fun b10 => gp (aok S 20 b10 x5) ((if (I b10 x5.toNatClampNeg) = (10007 : Int32) then f_X5_isSo_117 S R I (f_X5_isSo_21 S R I  n) a0 x1 a2 x3 ((x4 >>> ((1 : Int32) &&& 31)) ||| (x4 &&& (1 : Int32))) x5 else (if (I b10 x5.toNatClampNeg) = (10008 : Int32) then f_X5_isSo_117 S R I (f_X5_isSo_21 S R I  n) a0 x1 a2 x3 ((x4 >>> ((1 : Int32) &&& 31)) &&& (x4 ||| (-2 : Int32))) x5 else (if (I b10 x5.toNatClampNeg) = (10009 : Int32) then f_X5_isSo_117 S R I (f_X5_isSo_21 S R I  n) a0 x1 a2 x3 (x4 ^^^ (1 : Int32)) x5 else bd (f_X5_compared S R I a0 x5 a2 x3) (fun r12 => f_X5_isSo_117 S R I (f_X5_isSo_21 S R I  n) a0 x1 a2 x3 ((x4 <<< ((1 : Int32) &&& 31)) ||| r12) x5))))))))))
set_option maxHeartbeats 4000000 in
theorem b_X5_isSo_21 {E : Ev} {p : Program} {l : Launch} {e : Env} {s : State} {m : MethodId} {args : Array Value} {below : List Frame} {meth : Method} {c : Code} (C : Cx E RX5 cX5_isSo 6 p s m c) (hr : meth.sig.returnType = (some .boolean)) (hk : meth.locks = false) {S : Sh} {R : Rw} {I : Iw} {r : Int32}  : ∀ (n : Nat) (a0 : Nat) (x1 : Int32) (a2 : Nat) (x3 : Int32) (x4 : Int32) (x5 : Int32), f_X5_isSo_21 S R I  n a0 x1 a2 x3 x4 x5 = some r → Wk E 6 p l e ({ frames := 2, cells := 0, slots := 0, locals := 47 } : Room) s m args below meth c 0 0 (MQ below (Qw E S R I (some (.int r))) args s 0 0 (fun q => E.1 ≤ q)) 21 [(0, .ref (E.1 + a0)), (1, .int x1), (2, .ref (E.1 + a2)), (3, .int x3), (4, .int x4), (5, .int x5)] [] S R I := by
  intro n
  induction n with
  | zero =>
    intro a0 x1 a2 x3 x4 x5 h
    rw [f_X5_isSo_21] at h
    cases h
  | succ n ih =>
    intro a0 x1 a2 x3 x4 x5 h
    rw [f_X5_isSo_21] at h
    refine k_iload (pc := 21) C dX5_isSo_21 5 rfl ?_
    refine k_aloadn (pc := 23) C dX5_isSo_23 (i := 0) rfl 0 rfl ?_
    obtain ⟨hs50, h⟩ := gp_e h
    have hs5 := sok_e hs50
    obtain ⟨b6, hb6, h⟩ := rl_e h
    refine k_getR (pc := 24) C lkF_RX5_18_5 hs5 ir_5_3 hb6 dX5_isSo_24 ?_
    refine k_iloadn (pc := 27) C dX5_isSo_27 (i := 1) rfl 1 rfl ?_
    obtain ⟨ha7, h⟩ := gp_e h
    refine k_iald (pc := 28) C ha7 dX5_isSo_28 ?_
    refine k_icmp_ge (pc := 29) C dX5_isSo_29 (tgt := 123) (by decide) (fun hc8 => ?_) (fun hc8 => ?_)
    · rw [if_pos hc8] at h
      refine k_iload (pc := 123) C dX5_isSo_123 4 rfl ?_
      refine k_iconst (pc := 125) C (v := (1 : Int32)) dX5_isSo_125 (by decide) ?_
      refine k_iand (pc := 126) C dX5_isSo_126 ?_
      refine k_iconst (pc := 127) C (v := (1 : Int32)) dX5_isSo_127 (by decide) ?_
      refine k_icmp_ne (pc := 128) C dX5_isSo_128 (tgt := 135) (by decide) (fun hc9 => ?_) (fun hc9 => ?_)
      · rw [if_neg hc9] at h
        refine k_iconst (pc := 135) C (v := (0 : Int32)) dX5_isSo_135 (by decide) ?_
        cases h
        exact k_zret (pc := 136) C hr hk (Or.inl rfl) dX5_isSo_136
      · rw [if_pos hc9] at h
        refine k_iconst (pc := 131) C (v := (1 : Int32)) dX5_isSo_131 (by decide) ?_
        refine k_goto (pc := 132) C dX5_isSo_132 (tgt := 136) (by decide) ?_
        cases h
        exact k_zret (pc := 136) C hr hk (Or.inr rfl) dX5_isSo_136
    · rw [if_neg hc8] at h
      refine k_aloadn (pc := 32) C dX5_isSo_32 (i := 0) rfl 0 rfl ?_
      obtain ⟨b10, hb10, h⟩ := rl_e h
      refine k_getR (pc := 33) C lkF_RX5_21_5 hs5 ir_5_5 hb10 dX5_isSo_33 ?_
      refine k_iload (pc := 36) C dX5_isSo_36 5 rfl ?_
      obtain ⟨ha11, h⟩ := gp_e h
      refine k_iald (pc := 38) C ha11 dX5_isSo_38 ?_
      by_cases hc13 : (I b10 x5.toNatClampNeg) = (10007 : Int32)
      · rw [if_pos hc13] at h
        refine k_tabIn (pc := 39) C dX5_isSo_39 (by rw [hc13]; decide) (by rw [hc13]; decide) (off := 49) (by rw [hc13]; rfl) (tgt := 88) (by decide) ?_
        refine k_iload (pc := 88) C dX5_isSo_88 4 rfl ?_
        refine k_iconst (pc := 90) C (v := (1 : Int32)) dX5_isSo_90 (by decide) ?_
        refine k_ishr (pc := 91) C dX5_isSo_91 ?_
        refine k_iload (pc := 92) C dX5_isSo_92 4 rfl ?_
        refine k_iconst (pc := 94) C (v := (1 : Int32)) dX5_isSo_94 (by decide) ?_
        refine k_iand (pc := 95) C dX5_isSo_95 ?_
        refine k_ior (pc := 96) C dX5_isSo_96 ?_
        refine k_istore (pc := 97) C dX5_isSo_97 (by decide) (L2 := [(0, .ref (E.1 + a0)), (1, .int x1), (2, .ref (E.1 + a2)), (3, .int x3), (4, .int ((x4 >>> ((1 : Int32) &&& 31)) ||| (x4 &&& (1 : Int32)))), (5, .int x5)]) rfl ?_
        refine k_goto (pc := 99) C dX5_isSo_99 (tgt := 117) (by decide) ?_
        exact b_X5_isSo_117 C hr hk ih _ _ _ _ _ _ h
      · rw [if_neg hc13] at h
        by_cases hc14 : (I b10 x5.toNatClampNeg) = (10008 : Int32)
        · rw [if_pos hc14] at h
          refine k_tabIn (pc := 39) C dX5_isSo_39 (by rw [hc14]; decide) (by rw [hc14]; decide) (off := 34) (by rw [hc14]; rfl) (tgt := 73) (by decide) ?_
          refine k_iload (pc := 73) C dX5_isSo_73 4 rfl ?_
          refine k_iconst (pc := 75) C (v := (1 : Int32)) dX5_isSo_75 (by decide) ?_
          refine k_ishr (pc := 76) C dX5_isSo_76 ?_
          refine k_iload (pc := 77) C dX5_isSo_77 4 rfl ?_
          refine k_bipush (pc := 79) C (v := (-2 : Int32)) dX5_isSo_79 (by decide) ?_
          refine k_ior (pc := 81) C dX5_isSo_81 ?_
          refine k_iand (pc := 82) C dX5_isSo_82 ?_
          refine k_istore (pc := 83) C dX5_isSo_83 (by decide) (L2 := [(0, .ref (E.1 + a0)), (1, .int x1), (2, .ref (E.1 + a2)), (3, .int x3), (4, .int ((x4 >>> ((1 : Int32) &&& 31)) &&& (x4 ||| (-2 : Int32)))), (5, .int x5)]) rfl ?_
          refine k_goto (pc := 85) C dX5_isSo_85 (tgt := 117) (by decide) ?_
          exact b_X5_isSo_117 C hr hk ih _ _ _ _ _ _ h
        · rw [if_neg hc14] at h
          by_cases hc15 : (I b10 x5.toNatClampNeg) = (10009 : Int32)
          · rw [if_pos hc15] at h
            refine k_tabIn (pc := 39) C dX5_isSo_39 (by rw [hc15]; decide) (by rw [hc15]; decide) (off := 25) (by rw [hc15]; rfl) (tgt := 64) (by decide) ?_
            refine k_iload (pc := 64) C dX5_isSo_64 4 rfl ?_
            refine k_iconst (pc := 66) C (v := (1 : Int32)) dX5_isSo_66 (by decide) ?_
            refine k_ixor (pc := 67) C dX5_isSo_67 ?_
            refine k_istore (pc := 68) C dX5_isSo_68 (by decide) (L2 := [(0, .ref (E.1 + a0)), (1, .int x1), (2, .ref (E.1 + a2)), (3, .int x3), (4, .int (x4 ^^^ (1 : Int32))), (5, .int x5)]) rfl ?_
            refine k_goto (pc := 70) C dX5_isSo_70 (tgt := 117) (by decide) ?_
            exact b_X5_isSo_117 C hr hk ih _ _ _ _ _ _ h
          · rw [if_neg hc15] at h
            refine k_tabOut (pc := 39) C dX5_isSo_39 (tab_out (I b10 x5.toNatClampNeg) 10007 10009 (fun z h1 h2 hz => by
              have hz2 : z = 10007 ∨ z = 10008 ∨ z = 10009 := by omega
              rcases hz2 with rfl | rfl | rfl
              · exact hc13 (Int32.toInt_inj.mp (hz.trans (by decide)))
              · exact hc14 (Int32.toInt_inj.mp (hz.trans (by decide)))
              · exact hc15 (Int32.toInt_inj.mp (hz.trans (by decide)))
              ) ) (tgt := 102) (by decide) ?_
            refine k_iload (pc := 102) C dX5_isSo_102 4 rfl ?_
            refine k_iconst (pc := 104) C (v := (1 : Int32)) dX5_isSo_104 (by decide) ?_
            refine k_ishl (pc := 105) C dX5_isSo_105 ?_
            refine k_aloadn (pc := 106) C dX5_isSo_106 (i := 0) rfl 0 rfl ?_
            refine k_iload (pc := 107) C dX5_isSo_107 5 rfl ?_
            refine k_aloadn (pc := 109) C dX5_isSo_109 (i := 2) rfl 2 rfl ?_
            refine k_iloadn (pc := 110) C dX5_isSo_110 (i := 3) rfl 3 rfl ?_
            obtain ⟨r12, hr12, h⟩ := bd_e h
            refine k_V (pc := 111) (st := [.int (x4 <<< ((1 : Int32) &&& 31))]) C (c_X5_compared hr12) lkV_RX5_48 hs5 rfl rfl rfl (Nat.le_of_ble_eq_true rfl) (Nat.le_of_ble_eq_true rfl) (Nat.le_of_ble_eq_true rfl) (Nat.le_of_ble_eq_true rfl) (Nat.le_of_ble_eq_true rfl) dX5_isSo_111 ?_
            refine k_nf (cells2 := 0) (slots2 := 0) (st2 := [.int r12, .int (x4 <<< ((1 : Int32) &&& 31))]) rfl rfl rfl ?_
            refine k_ior (pc := 114) C dX5_isSo_114 ?_
            refine k_istore (pc := 115) C dX5_isSo_115 (by decide) (L2 := [(0, .ref (E.1 + a0)), (1, .int x1), (2, .ref (E.1 + a2)), (3, .int x3), (4, .int ((x4 <<< ((1 : Int32) &&& 31)) ||| r12)), (5, .int x5)]) rfl ?_
            exact b_X5_isSo_117 C hr hk ih _ _ _ _ _ _ h
def f_X5_isSo_19 (S : Sh) (R : Rw) (I : Iw)  (a0 : Nat) (x1 : Int32) (a2 : Nat) (x3 : Int32) (x4 : Int32) (s0 : Int32) : Option (Int32) := f_X5_isSo_21 S R I  512 a0 x1 a2 x3 x4 s0
set_option maxHeartbeats 4000000 in
theorem b_X5_isSo_19 {E : Ev} {p : Program} {l : Launch} {e : Env} {s : State} {m : MethodId} {args : Array Value} {below : List Frame} {meth : Method} {c : Code} (C : Cx E RX5 cX5_isSo 6 p s m c) (hr : meth.sig.returnType = (some .boolean)) (hk : meth.locks = false) {S : Sh} {R : Rw} {I : Iw} {r : Int32}  : ∀ (a0 : Nat) (x1 : Int32) (a2 : Nat) (x3 : Int32) (x4 : Int32) (s0 : Int32), f_X5_isSo_19 S R I   a0 x1 a2 x3 x4 s0 = some r → Wk E 6 p l e ({ frames := 2, cells := 0, slots := 0, locals := 47 } : Room) s m args below meth c 0 0 (MQ below (Qw E S R I (some (.int r))) args s 0 0 (fun q => E.1 ≤ q)) 19 [(0, .ref (E.1 + a0)), (1, .int x1), (2, .ref (E.1 + a2)), (3, .int x3), (4, .int x4)] [.int s0] S R I := by
  intro a0 x1 a2 x3 x4 s0 h
  rw [f_X5_isSo_19] at h
  refine k_istore (pc := 19) C dX5_isSo_19 (by decide) (L2 := [(0, .ref (E.1 + a0)), (1, .int x1), (2, .ref (E.1 + a2)), (3, .int x3), (4, .int x4), (5, .int s0)]) rfl ?_
  exact b_X5_isSo_21 C hr hk  _ _ _ _ _ _ _ h
def f_X5_isSo (S : Sh) (R : Rw) (I : Iw)  (a0 : Nat) (x1 : Int32) (a2 : Nat) (x3 : Int32) : Option (Int32) := (if x1 = 0 then f_X5_isSo_19 S R I  a0 x1 a2 x3 (1 : Int32) (0 : Int32) else gp (sok S a0 5 8) (rl (R a0 3) (fun b3 => gp (aok S 20 b3 (x1 - (1 : Int32))) (f_X5_isSo_19 S R I  a0 x1 a2 x3 (1 : Int32) (I b3 (x1 - (1 : Int32)).toNatClampNeg)))))
set_option maxHeartbeats 4000000 in
theorem b_X5_isSo {E : Ev} {p : Program} {l : Launch} {e : Env} {s : State} {m : MethodId} {args : Array Value} {below : List Frame} {meth : Method} {c : Code} (C : Cx E RX5 cX5_isSo 6 p s m c) (hr : meth.sig.returnType = (some .boolean)) (hk : meth.locks = false) {S : Sh} {R : Rw} {I : Iw} {r : Int32}  : ∀ (a0 : Nat) (x1 : Int32) (a2 : Nat) (x3 : Int32), f_X5_isSo S R I   a0 x1 a2 x3 = some r → Wk E 6 p l e ({ frames := 2, cells := 0, slots := 0, locals := 47 } : Room) s m args below meth c 0 0 (MQ below (Qw E S R I (some (.int r))) args s 0 0 (fun q => E.1 ≤ q)) 0 [(0, .ref (E.1 + a0)), (1, .int x1), (2, .ref (E.1 + a2)), (3, .int x3)] [] S R I := by
  intro a0 x1 a2 x3 h
  rw [f_X5_isSo] at h
  refine k_iconst (pc := 0) C (v := (1 : Int32)) dX5_isSo_0 (by decide) ?_
  refine k_istore (pc := 1) C dX5_isSo_1 (by decide) (L2 := [(0, .ref (E.1 + a0)), (1, .int x1), (2, .ref (E.1 + a2)), (3, .int x3), (4, .int (1 : Int32))]) rfl ?_
  refine k_iloadn (pc := 3) C dX5_isSo_3 (i := 1) rfl 1 rfl ?_
  refine k_if_ne (pc := 4) C dX5_isSo_4 (tgt := 11) (by decide) (fun hc1 => ?_) (fun hc1 => ?_)
  · rw [if_neg hc1] at h
    refine k_aloadn (pc := 11) C dX5_isSo_11 (i := 0) rfl 0 rfl ?_
    obtain ⟨hs20, h⟩ := gp_e h
    have hs2 := sok_e hs20
    obtain ⟨b3, hb3, h⟩ := rl_e h
    refine k_getR (pc := 12) C lkF_RX5_18_5 hs2 ir_5_3 hb3 dX5_isSo_12 ?_
    refine k_iloadn (pc := 15) C dX5_isSo_15 (i := 1) rfl 1 rfl ?_
    refine k_iconst (pc := 16) C (v := (1 : Int32)) dX5_isSo_16 (by decide) ?_
    refine k_isub (pc := 17) C dX5_isSo_17 ?_
    obtain ⟨ha4, h⟩ := gp_e h
    refine k_iald (pc := 18) C ha4 dX5_isSo_18 ?_
    exact b_X5_isSo_19 C hr hk  _ _ _ _ _ _ h
  · rw [if_pos hc1] at h
    refine k_iconst (pc := 7) C (v := (0 : Int32)) dX5_isSo_7 (by decide) ?_
    refine k_goto (pc := 8) C dX5_isSo_8 (tgt := 19) (by decide) ?_
    exact b_X5_isSo_19 C hr hk  _ _ _ _ _ _ h
theorem c_X5_isSo {E : Ev} {l : Launch} {S : Sh} {R : Rw} {I : Iw} {a0 : Nat} {x1 : Int32} {a2 : Nat} {x3 : Int32} {r : Int32} (h : f_X5_isSo S R I a0 x1 a2 x3 = some r) : Mt E l yX5_isSo cX5_isSo 6 (some .boolean) 2 47 [.ref (E.1 + a0), .int x1, .ref (E.1 + a2), .int x3] S R I S R I (some (.int r)) 0 0 := mt_of (by decide) (Nat.le_of_ble_eq_true rfl) (fun p e s m args below meth c C hr hk hn => b_X5_isSo C hr hk _ _ _ _ h)
theorem lkF_RX5_30_5 : LkF RX5 30 5 0 := ⟨RX5, TX5, 8, "UnlikeNeighbours$Rules", fc5, by decide, (t1_in 41 (by decide +kernel) rfl), Or.inl rfl⟩
theorem lkF_RX5_37_7 : LkF RX5 37 7 0 := ⟨RX7, TX7, 16, "UnlikeNeighbours$Shed", fc7, by decide, (t1_in 71 (by decide +kernel) rfl), Or.inl rfl⟩
theorem lkF_RX5_9_5 : LkF RX5 9 5 1 := ⟨RX5, TX5, 8, "UnlikeNeighbours$Rules", fc5, by decide, (t1_in 44 (by decide +kernel) rfl), Or.inl rfl⟩
theorem lkSN_RX5_40 : LkSN RX5 40 yX11_isOrIsUnder "UnlikeNeighbours" cX11_isOrIsUnder 4 (some .boolean) 2 := ⟨l2_in 77 (by decide +kernel), (t2_in 78 (by decide +kernel) rfl), (t2_in 79 (by decide +kernel) rfl), (t1_in 1 (by decide +kernel) rfl), by decide, by decide +kernel⟩
theorem lkV_RX5_44 : LkV RX5 44 RX5 yX5_isSo cX5_isSo 6 (some .boolean) 3 := ⟨(t2_in 82 (by decide +kernel) rfl), (t2_in 84 (by decide +kernel) rfl), (t0_in 3 (by decide +kernel) rfl), (t2_in 85 (by decide +kernel) rfl), (t1_in 3 (by decide +kernel) rfl), by decide, by decide +kernel⟩
theorem lkF_RX5_15_5 : LkF RX5 15 5 2 := ⟨RX5, TX5, 8, "UnlikeNeighbours$Rules", fc5, by decide, (t1_in 45 (by decide +kernel) rfl), Or.inl rfl⟩
theorem dX5_changeFor_0 : decode cX5_changeFor 0 = .ok (.iconst 0, 1) := by decide +kernel
theorem dX5_changeFor_1 : decode cX5_changeFor 1 = .ok (.istore_n 3, 1) := by decide +kernel
theorem dX5_changeFor_2 : decode cX5_changeFor 2 = .ok (.iload_n 3, 1) := by decide +kernel
theorem dX5_changeFor_3 : decode cX5_changeFor 3 = .ok (.aload_n 0, 1) := by decide +kernel
theorem dX5_changeFor_4 : decode cX5_changeFor 4 = .ok (.getfield 30, 3) := by decide +kernel
theorem dX5_changeFor_7 : decode cX5_changeFor 7 = .ok (.if_icmp .ge 44, 3) := by decide +kernel
theorem dX5_changeFor_10 : decode cX5_changeFor 10 = .ok (.aload_n 1, 1) := by decide +kernel
theorem dX5_changeFor_11 : decode cX5_changeFor 11 = .ok (.getfield 37, 3) := by decide +kernel
theorem dX5_changeFor_14 : decode cX5_changeFor 14 = .ok (.iload_n 2, 1) := by decide +kernel
theorem dX5_changeFor_15 : decode cX5_changeFor 15 = .ok (.iaload, 1) := by decide +kernel
theorem dX5_changeFor_16 : decode cX5_changeFor 16 = .ok (.aload_n 0, 1) := by decide +kernel
theorem dX5_changeFor_17 : decode cX5_changeFor 17 = .ok (.getfield 9, 3) := by decide +kernel
theorem dX5_changeFor_20 : decode cX5_changeFor 20 = .ok (.iload_n 3, 1) := by decide +kernel
theorem dX5_changeFor_21 : decode cX5_changeFor 21 = .ok (.iaload, 1) := by decide +kernel
theorem dX5_changeFor_22 : decode cX5_changeFor 22 = .ok (.invokestatic 40, 3) := by decide +kernel
theorem dX5_changeFor_25 : decode cX5_changeFor 25 = .ok (.ifCond .eq 20, 3) := by decide +kernel
theorem dX5_changeFor_28 : decode cX5_changeFor 28 = .ok (.aload_n 0, 1) := by decide +kernel
theorem dX5_changeFor_29 : decode cX5_changeFor 29 = .ok (.iload_n 3, 1) := by decide +kernel
theorem dX5_changeFor_30 : decode cX5_changeFor 30 = .ok (.aload_n 1, 1) := by decide +kernel
theorem dX5_changeFor_31 : decode cX5_changeFor 31 = .ok (.iload_n 2, 1) := by decide +kernel
theorem dX5_changeFor_32 : decode cX5_changeFor 32 = .ok (.invokevirtual 44, 3) := by decide +kernel
theorem dX5_changeFor_35 : decode cX5_changeFor 35 = .ok (.ifCond .eq 10, 3) := by decide +kernel
theorem dX5_changeFor_38 : decode cX5_changeFor 38 = .ok (.aload_n 0, 1) := by decide +kernel
theorem dX5_changeFor_39 : decode cX5_changeFor 39 = .ok (.getfield 15, 3) := by decide +kernel
theorem dX5_changeFor_42 : decode cX5_changeFor 42 = .ok (.iload_n 3, 1) := by decide +kernel
theorem dX5_changeFor_43 : decode cX5_changeFor 43 = .ok (.iaload, 1) := by decide +kernel
theorem dX5_changeFor_44 : decode cX5_changeFor 44 = .ok (.ireturn, 1) := by decide +kernel
theorem dX5_changeFor_45 : decode cX5_changeFor 45 = .ok (.iinc 3 1, 3) := by decide +kernel
theorem dX5_changeFor_48 : decode cX5_changeFor 48 = .ok (.goto (-46), 3) := by decide +kernel
theorem dX5_changeFor_51 : decode cX5_changeFor 51 = .ok (.iconst 0, 1) := by decide +kernel
theorem dX5_changeFor_52 : decode cX5_changeFor 52 = .ok (.ireturn, 1) := by decide +kernel
def f_X5_changeFor_45 (S : Sh) (R : Rw) (I : Iw) (ko2 : Nat → Nat → Int32 → Int32 → Option (Int32)) (a0 : Nat) (a1 : Nat) (x2 : Int32) (x3 : Int32) : Option (Int32) := ko2 a0 a1 x2 (x3 + (1 : Int32))
set_option maxHeartbeats 4000000 in
theorem b_X5_changeFor_45 {E : Ev} {p : Program} {l : Launch} {e : Env} {s : State} {m : MethodId} {args : Array Value} {below : List Frame} {meth : Method} {c : Code} (C : Cx E RX5 cX5_changeFor 4 p s m c) (hr : meth.sig.returnType = (some .int)) (hk : meth.locks = false) {S : Sh} {R : Rw} {I : Iw} {r : Int32}  {ko2 : Nat → Nat → Int32 → Int32 → Option (Int32)} (hko2 : ∀ (a0 : Nat) (a1 : Nat) (x2 : Int32) (x3 : Int32), ko2 a0 a1 x2 x3 = some r → Wk E 4 p l e ({ frames := 3, cells := 0, slots := 0, locals := 72 } : Room) s m args below meth c 0 0 (MQ below (Qw E S R I (some (.int r))) args s 0 0 (fun q => E.1 ≤ q)) 2 [(0, .ref (E.1 + a0)), (1, .ref (E.1 + a1)), (2, .int x2), (3, .int x3)] [] S R I) : ∀ (a0 : Nat) (a1 : Nat) (x2 : Int32) (x3 : Int32), f_X5_changeFor_45 S R I ko2  a0 a1 x2 x3 = some r → Wk E 4 p l e ({ frames := 3, cells := 0, slots := 0, locals := 72 } : Room) s m args below meth c 0 0 (MQ below (Qw E S R I (some (.int r))) args s 0 0 (fun q => E.1 ≤ q)) 45 [(0, .ref (E.1 + a0)), (1, .ref (E.1 + a1)), (2, .int x2), (3, .int x3)] [] S R I := by
  intro a0 a1 x2 x3 h
  rw [f_X5_changeFor_45] at h
  refine k_iinc (pc := 45) C dX5_changeFor_45 3 rfl (v := x3 + (1 : Int32)) (by rfl) (by decide) (L2 := [(0, .ref (E.1 + a0)), (1, .ref (E.1 + a1)), (2, .int x2), (3, .int (x3 + (1 : Int32)))]) rfl ?_
  refine k_goto (pc := 48) C dX5_changeFor_48 (tgt := 2) (by decide) ?_
  exact hko2 _ _ _ _ h
def f_X5_changeFor_2 (S : Sh) (R : Rw) (I : Iw)  : Nat → Nat → Nat → Int32 → Int32 → Option (Int32)
  | 0, _, _, _, _ => none
  | n + 1, a0, a1, x2, x3 => gp (sok S a0 5 8) ((if (I a0 0) ≤ x3 then some (0 : Int32) else gp (sok S a1 7 16) (rl (R a1 0) (fun b4 => gp (aok S 20 b4 x2) (rl (R a0 1) (fun b6 => gp (aok S 20 b6 x3) (bd (f_X11_isOrIsUnder S R I (I b4 x2.toNatClampNeg) (I b6 x3.toNatClampNeg)) (fun r8 => (if r8 = 0 then f_X5_changeFor_45 S R I (f_X5_changeFor_2 S R I  n) a0 a1 x2 x3 else bd (f_X5_isSo S R I a0 x3 a1 x2) (fun r10 => (if r10 = 0 then f_X5_changeFor_45 S R I (f_X5_changeFor_2 S R I  n) a0 a1 x2 x3 else rl (R a0 2) (fun b12 => gp (aok S 20 b12 x3) (some (I b12 x3.toNatClampNeg))))))))))))))
set_option maxHeartbeats 4000000 in
theorem b_X5_changeFor_2 {E : Ev} {p : Program} {l : Launch} {e : Env} {s : State} {m : MethodId} {args : Array Value} {below : List Frame} {meth : Method} {c : Code} (C : Cx E RX5 cX5_changeFor 4 p s m c) (hr : meth.sig.returnType = (some .int)) (hk : meth.locks = false) {S : Sh} {R : Rw} {I : Iw} {r : Int32}  : ∀ (n : Nat) (a0 : Nat) (a1 : Nat) (x2 : Int32) (x3 : Int32), f_X5_changeFor_2 S R I  n a0 a1 x2 x3 = some r → Wk E 4 p l e ({ frames := 3, cells := 0, slots := 0, locals := 72 } : Room) s m args below meth c 0 0 (MQ below (Qw E S R I (some (.int r))) args s 0 0 (fun q => E.1 ≤ q)) 2 [(0, .ref (E.1 + a0)), (1, .ref (E.1 + a1)), (2, .int x2), (3, .int x3)] [] S R I := by
  intro n
  induction n with
  | zero =>
    intro a0 a1 x2 x3 h
    rw [f_X5_changeFor_2] at h
    cases h
  | succ n ih =>
    intro a0 a1 x2 x3 h
    rw [f_X5_changeFor_2] at h
    refine k_iloadn (pc := 2) C dX5_changeFor_2 (i := 3) rfl 3 rfl ?_
    refine k_aloadn (pc := 3) C dX5_changeFor_3 (i := 0) rfl 0 rfl ?_
    obtain ⟨hs10, h⟩ := gp_e h
    have hs1 := sok_e hs10
    refine k_getI (pc := 4) C lkF_RX5_30_5 hs1 ir_5_0 dX5_changeFor_4 ?_
    refine k_icmp_ge (pc := 7) C dX5_changeFor_7 (tgt := 51) (by decide) (fun hc2 => ?_) (fun hc2 => ?_)
    · rw [if_pos hc2] at h
      refine k_iconst (pc := 51) C (v := (0 : Int32)) dX5_changeFor_51 (by decide) ?_
      cases h
      exact k_iret (pc := 52) C hr hk dX5_changeFor_52
    · rw [if_neg hc2] at h
      refine k_aloadn (pc := 10) C dX5_changeFor_10 (i := 1) rfl 1 rfl ?_
      obtain ⟨hs30, h⟩ := gp_e h
      have hs3 := sok_e hs30
      obtain ⟨b4, hb4, h⟩ := rl_e h
      refine k_getR (pc := 11) C lkF_RX5_37_7 hs3 ir_7_0 hb4 dX5_changeFor_11 ?_
      refine k_iloadn (pc := 14) C dX5_changeFor_14 (i := 2) rfl 2 rfl ?_
      obtain ⟨ha5, h⟩ := gp_e h
      refine k_iald (pc := 15) C ha5 dX5_changeFor_15 ?_
      refine k_aloadn (pc := 16) C dX5_changeFor_16 (i := 0) rfl 0 rfl ?_
      obtain ⟨b6, hb6, h⟩ := rl_e h
      refine k_getR (pc := 17) C lkF_RX5_9_5 hs1 ir_5_1 hb6 dX5_changeFor_17 ?_
      refine k_iloadn (pc := 20) C dX5_changeFor_20 (i := 3) rfl 3 rfl ?_
      obtain ⟨ha7, h⟩ := gp_e h
      refine k_iald (pc := 21) C ha7 dX5_changeFor_21 ?_
      obtain ⟨r8, hr8, h⟩ := bd_e h
      refine k_SN (pc := 22) (st := []) C (c_X11_isOrIsUnder hr8) lkSN_RX5_40 rfl rfl (Nat.le_of_ble_eq_true rfl) (Nat.le_of_ble_eq_true rfl) (Nat.le_of_ble_eq_true rfl) (Nat.le_of_ble_eq_true rfl) (Nat.le_of_ble_eq_true rfl) dX5_changeFor_22 ?_
      refine k_nf (cells2 := 0) (slots2 := 0) (st2 := [.int r8]) rfl rfl rfl ?_
      refine k_if_eq (pc := 25) C dX5_changeFor_25 (tgt := 45) (by decide) (fun hc9 => ?_) (fun hc9 => ?_)
      · rw [if_pos hc9] at h
        exact b_X5_changeFor_45 C hr hk ih _ _ _ _ h
      · rw [if_neg hc9] at h
        refine k_aloadn (pc := 28) C dX5_changeFor_28 (i := 0) rfl 0 rfl ?_
        refine k_iloadn (pc := 29) C dX5_changeFor_29 (i := 3) rfl 3 rfl ?_
        refine k_aloadn (pc := 30) C dX5_changeFor_30 (i := 1) rfl 1 rfl ?_
        refine k_iloadn (pc := 31) C dX5_changeFor_31 (i := 2) rfl 2 rfl ?_
        obtain ⟨r10, hr10, h⟩ := bd_e h
        refine k_V (pc := 32) (st := []) C (c_X5_isSo hr10) lkV_RX5_44 hs1 rfl rfl rfl (Nat.le_of_ble_eq_true rfl) (Nat.le_of_ble_eq_true rfl) (Nat.le_of_ble_eq_true rfl) (Nat.le_of_ble_eq_true rfl) (Nat.le_of_ble_eq_true rfl) dX5_changeFor_32 ?_
        refine k_nf (cells2 := 0) (slots2 := 0) (st2 := [.int r10]) rfl rfl rfl ?_
        refine k_if_eq (pc := 35) C dX5_changeFor_35 (tgt := 45) (by decide) (fun hc11 => ?_) (fun hc11 => ?_)
        · rw [if_pos hc11] at h
          exact b_X5_changeFor_45 C hr hk ih _ _ _ _ h
        · rw [if_neg hc11] at h
          refine k_aloadn (pc := 38) C dX5_changeFor_38 (i := 0) rfl 0 rfl ?_
          obtain ⟨b12, hb12, h⟩ := rl_e h
          refine k_getR (pc := 39) C lkF_RX5_15_5 hs1 ir_5_2 hb12 dX5_changeFor_39 ?_
          refine k_iloadn (pc := 42) C dX5_changeFor_42 (i := 3) rfl 3 rfl ?_
          obtain ⟨ha13, h⟩ := gp_e h
          refine k_iald (pc := 43) C ha13 dX5_changeFor_43 ?_
          cases h
          exact k_iret (pc := 44) C hr hk dX5_changeFor_44
def f_X5_changeFor (S : Sh) (R : Rw) (I : Iw)  (a0 : Nat) (a1 : Nat) (x2 : Int32) : Option (Int32) := f_X5_changeFor_2 S R I  512 a0 a1 x2 (0 : Int32)
set_option maxHeartbeats 4000000 in
theorem b_X5_changeFor {E : Ev} {p : Program} {l : Launch} {e : Env} {s : State} {m : MethodId} {args : Array Value} {below : List Frame} {meth : Method} {c : Code} (C : Cx E RX5 cX5_changeFor 4 p s m c) (hr : meth.sig.returnType = (some .int)) (hk : meth.locks = false) {S : Sh} {R : Rw} {I : Iw} {r : Int32}  : ∀ (a0 : Nat) (a1 : Nat) (x2 : Int32), f_X5_changeFor S R I   a0 a1 x2 = some r → Wk E 4 p l e ({ frames := 3, cells := 0, slots := 0, locals := 72 } : Room) s m args below meth c 0 0 (MQ below (Qw E S R I (some (.int r))) args s 0 0 (fun q => E.1 ≤ q)) 0 [(0, .ref (E.1 + a0)), (1, .ref (E.1 + a1)), (2, .int x2)] [] S R I := by
  intro a0 a1 x2 h
  rw [f_X5_changeFor] at h
  refine k_iconst (pc := 0) C (v := (0 : Int32)) dX5_changeFor_0 (by decide) ?_
  refine k_istoren (pc := 1) C dX5_changeFor_1 (i := 3) rfl (by decide) (L2 := [(0, .ref (E.1 + a0)), (1, .ref (E.1 + a1)), (2, .int x2), (3, .int (0 : Int32))]) rfl ?_
  exact b_X5_changeFor_2 C hr hk  _ _ _ _ _ h
theorem c_X5_changeFor {E : Ev} {l : Launch} {S : Sh} {R : Rw} {I : Iw} {a0 : Nat} {a1 : Nat} {x2 : Int32} {r : Int32} (h : f_X5_changeFor S R I a0 a1 x2 = some r) : Mt E l yX5_changeFor cX5_changeFor 4 (some .int) 3 72 [.ref (E.1 + a0), .ref (E.1 + a1), .int x2] S R I S R I (some (.int r)) 0 0 := mt_of (by decide) (Nat.le_of_ble_eq_true rfl) (fun p e s m args below meth c C hr hk hn => b_X5_changeFor C hr hk _ _ _ h)
theorem lkF_RX7_37_7 : LkF RX7 37 7 11 := ⟨RX7, TX7, 16, "UnlikeNeighbours$Shed", fc7, by decide, (t1_in 97 (by decide +kernel) rfl), Or.inl rfl⟩
theorem lkV_RX7_99 : LkV RX7 99 RX5 yX5_changeFor cX5_changeFor 4 (some .int) 2 := ⟨(t2_in 73 (by decide +kernel) rfl), (t2_in 74 (by decide +kernel) rfl), (t2_in 75 (by decide +kernel) rfl), (t2_in 76 (by decide +kernel) rfl), (t1_in 3 (by decide +kernel) rfl), by decide, by decide +kernel⟩
theorem lkF_RX7_106_7 : LkF RX7 106 7 10 := ⟨RX7, TX7, 16, "UnlikeNeighbours$Shed", fc7, by decide, (t1_in 96 (by decide +kernel) rfl), Or.inl rfl⟩
theorem dX7_fee_0 : decode cX7_fee 0 = .ok (.aload_n 0, 1) := by decide +kernel
theorem dX7_fee_1 : decode cX7_fee 1 = .ok (.iload_n 1, 1) := by decide +kernel
theorem dX7_fee_2 : decode cX7_fee 2 = .ok (.invokevirtual 62, 3) := by decide +kernel
theorem dX7_fee_5 : decode cX7_fee 5 = .ok (.ifCond .ne 5, 3) := by decide +kernel
theorem dX7_fee_8 : decode cX7_fee 8 = .ok (.iconst 0, 1) := by decide +kernel
theorem dX7_fee_9 : decode cX7_fee 9 = .ok (.ireturn, 1) := by decide +kernel
theorem dX7_fee_10 : decode cX7_fee 10 = .ok (.iconst 0, 1) := by decide +kernel
theorem dX7_fee_11 : decode cX7_fee 11 = .ok (.aload_n 0, 1) := by decide +kernel
theorem dX7_fee_12 : decode cX7_fee 12 = .ok (.getfield 21, 3) := by decide +kernel
theorem dX7_fee_15 : decode cX7_fee 15 = .ok (.iload_n 1, 1) := by decide +kernel
theorem dX7_fee_16 : decode cX7_fee 16 = .ok (.iaload, 1) := by decide +kernel
theorem dX7_fee_17 : decode cX7_fee 17 = .ok (.aload_n 0, 1) := by decide +kernel
theorem dX7_fee_18 : decode cX7_fee 18 = .ok (.getfield 37, 3) := by decide +kernel
theorem dX7_fee_21 : decode cX7_fee 21 = .ok (.aload_n 0, 1) := by decide +kernel
theorem dX7_fee_22 : decode cX7_fee 22 = .ok (.iload_n 1, 1) := by decide +kernel
theorem dX7_fee_23 : decode cX7_fee 23 = .ok (.invokevirtual 99, 3) := by decide +kernel
theorem dX7_fee_26 : decode cX7_fee 26 = .ok (.iadd, 1) := by decide +kernel
theorem dX7_fee_27 : decode cX7_fee 27 = .ok (.invokestatic 103, 3) := by decide +kernel
theorem dX7_fee_30 : decode cX7_fee 30 = .ok (.istore_n 2, 1) := by decide +kernel
theorem dX7_fee_31 : decode cX7_fee 31 = .ok (.aload_n 0, 1) := by decide +kernel
theorem dX7_fee_32 : decode cX7_fee 32 = .ok (.getfield 9, 3) := by decide +kernel
theorem dX7_fee_35 : decode cX7_fee 35 = .ok (.iload_n 1, 1) := by decide +kernel
theorem dX7_fee_36 : decode cX7_fee 36 = .ok (.iaload, 1) := by decide +kernel
theorem dX7_fee_37 : decode cX7_fee 37 = .ok (.tableswitch 71 1 4 #[31, 35, 45, 66], 31) := by decide +kernel
theorem dX7_fee_68 : decode cX7_fee 68 = .ok (.iload_n 2, 1) := by decide +kernel
theorem dX7_fee_69 : decode cX7_fee 69 = .ok (.iconst 2, 1) := by decide +kernel
theorem dX7_fee_70 : decode cX7_fee 70 = .ok (.idiv, 1) := by decide +kernel
theorem dX7_fee_71 : decode cX7_fee 71 = .ok (.ireturn, 1) := by decide +kernel
theorem dX7_fee_72 : decode cX7_fee 72 = .ok (.iload_n 2, 1) := by decide +kernel
theorem dX7_fee_73 : decode cX7_fee 73 = .ok (.bipush 10, 2) := by decide +kernel
theorem dX7_fee_75 : decode cX7_fee 75 = .ok (.aload_n 0, 1) := by decide +kernel
theorem dX7_fee_76 : decode cX7_fee 76 = .ok (.getfield 106, 3) := by decide +kernel
theorem dX7_fee_79 : decode cX7_fee 79 = .ok (.imul, 1) := by decide +kernel
theorem dX7_fee_80 : decode cX7_fee 80 = .ok (.iadd, 1) := by decide +kernel
theorem dX7_fee_81 : decode cX7_fee 81 = .ok (.ireturn, 1) := by decide +kernel
theorem dX7_fee_82 : decode cX7_fee 82 = .ok (.iconst 0, 1) := by decide +kernel
theorem dX7_fee_83 : decode cX7_fee 83 = .ok (.iload_n 2, 1) := by decide +kernel
theorem dX7_fee_84 : decode cX7_fee 84 = .ok (.bipush 10, 2) := by decide +kernel
theorem dX7_fee_86 : decode cX7_fee 86 = .ok (.aload_n 0, 1) := by decide +kernel
theorem dX7_fee_87 : decode cX7_fee 87 = .ok (.getfield 106, 3) := by decide +kernel
theorem dX7_fee_90 : decode cX7_fee 90 = .ok (.imul, 1) := by decide +kernel
theorem dX7_fee_91 : decode cX7_fee 91 = .ok (.iadd, 1) := by decide +kernel
theorem dX7_fee_92 : decode cX7_fee 92 = .ok (.aload_n 0, 1) := by decide +kernel
theorem dX7_fee_93 : decode cX7_fee 93 = .ok (.getfield 18, 3) := by decide +kernel
theorem dX7_fee_96 : decode cX7_fee 96 = .ok (.iload_n 1, 1) := by decide +kernel
theorem dX7_fee_97 : decode cX7_fee 97 = .ok (.iaload, 1) := by decide +kernel
theorem dX7_fee_98 : decode cX7_fee 98 = .ok (.isub, 1) := by decide +kernel
theorem dX7_fee_99 : decode cX7_fee 99 = .ok (.invokestatic 103, 3) := by decide +kernel
theorem dX7_fee_102 : decode cX7_fee 102 = .ok (.ireturn, 1) := by decide +kernel
theorem dX7_fee_103 : decode cX7_fee 103 = .ok (.iload_n 2, 1) := by decide +kernel
theorem dX7_fee_104 : decode cX7_fee 104 = .ok (.bipush 50, 2) := by decide +kernel
theorem dX7_fee_106 : decode cX7_fee 106 = .ok (.iadd, 1) := by decide +kernel
theorem dX7_fee_107 : decode cX7_fee 107 = .ok (.ireturn, 1) := by decide +kernel
theorem dX7_fee_108 : decode cX7_fee 108 = .ok (.iconst 2, 1) := by decide +kernel
theorem dX7_fee_109 : decode cX7_fee 109 = .ok (.iload_n 2, 1) := by decide +kernel
theorem dX7_fee_110 : decode cX7_fee 110 = .ok (.bipush 50, 2) := by decide +kernel
theorem dX7_fee_112 : decode cX7_fee 112 = .ok (.iadd, 1) := by decide +kernel
theorem dX7_fee_113 : decode cX7_fee 113 = .ok (.imul, 1) := by decide +kernel
theorem dX7_fee_114 : decode cX7_fee 114 = .ok (.ireturn, 1) := by decide +kernel
def f_X7_fee (S : Sh) (R : Rw) (I : Iw)  (a0 : Nat) (x1 : Int32) : Option (Int32) := gp (sok S a0 7 16) (bd (f_X7_has S R I a0 x1) (fun r2 => (if r2 = 0 then some (0 : Int32) else rl (R a0 3) (fun b4 => gp (aok S 20 b4 x1) (rl (R a0 11) (fun b6 => gp (sok S b6 5 8) (bd (f_X5_changeFor S R I b6 a0 x1) (fun r8 => rl (R a0 0) (fun b9 => gp (aok S 20 b9 x1) ((if (I b9 x1.toNatClampNeg) = (1 : Int32) then some ((jmax (0 : Int32) ((I b4 x1.toNatClampNeg) + r8)) / (2 : Int32)) else (if (I b9 x1.toNatClampNeg) = (2 : Int32) then some ((jmax (0 : Int32) ((I b4 x1.toNatClampNeg) + r8)) + ((10 : Int32) * (I a0 10))) else (if (I b9 x1.toNatClampNeg) = (3 : Int32) then rl (R a0 2) (fun b11 => gp (aok S 20 b11 x1) (some (jmax (0 : Int32) (((jmax (0 : Int32) ((I b4 x1.toNatClampNeg) + r8)) + ((10 : Int32) * (I a0 10))) - (I b11 x1.toNatClampNeg))))) else (if (I b9 x1.toNatClampNeg) = (4 : Int32) then some ((jmax (0 : Int32) ((I b4 x1.toNatClampNeg) + r8)) + (50 : Int32)) else some ((2 : Int32) * ((jmax (0 : Int32) ((I b4 x1.toNatClampNeg) + r8)) + (50 : Int32)))))))))))))))))
set_option maxHeartbeats 4000000 in
theorem b_X7_fee {E : Ev} {p : Program} {l : Launch} {e : Env} {s : State} {m : MethodId} {args : Array Value} {below : List Frame} {meth : Method} {c : Code} (C : Cx E RX7 cX7_fee 3 p s m c) (hr : meth.sig.returnType = (some .int)) (hk : meth.locks = false) {S : Sh} {R : Rw} {I : Iw} {r : Int32}  : ∀ (a0 : Nat) (x1 : Int32), f_X7_fee S R I   a0 x1 = some r → Wk E 3 p l e ({ frames := 4, cells := 0, slots := 0, locals := 95 } : Room) s m args below meth c 0 0 (MQ below (Qw E S R I (some (.int r))) args s 0 0 (fun q => E.1 ≤ q)) 0 [(0, .ref (E.1 + a0)), (1, .int x1)] [] S R I := by
  intro a0 x1 h
  rw [f_X7_fee] at h
  refine k_aloadn (pc := 0) C dX7_fee_0 (i := 0) rfl 0 rfl ?_
  refine k_iloadn (pc := 1) C dX7_fee_1 (i := 1) rfl 1 rfl ?_
  obtain ⟨hs10, h⟩ := gp_e h
  have hs1 := sok_e hs10
  obtain ⟨r2, hr2, h⟩ := bd_e h
  refine k_V (pc := 2) (st := []) C (c_X7_has hr2) lkV_RX7_62 hs1 rfl rfl rfl (Nat.le_of_ble_eq_true rfl) (Nat.le_of_ble_eq_true rfl) (Nat.le_of_ble_eq_true rfl) (Nat.le_of_ble_eq_true rfl) (Nat.le_of_ble_eq_true rfl) dX7_fee_2 ?_
  refine k_nf (cells2 := 0) (slots2 := 0) (st2 := [.int r2]) rfl rfl rfl ?_
  refine k_if_ne (pc := 5) C dX7_fee_5 (tgt := 10) (by decide) (fun hc3 => ?_) (fun hc3 => ?_)
  · rw [if_neg hc3] at h
    refine k_iconst (pc := 10) C (v := (0 : Int32)) dX7_fee_10 (by decide) ?_
    refine k_aloadn (pc := 11) C dX7_fee_11 (i := 0) rfl 0 rfl ?_
    obtain ⟨b4, hb4, h⟩ := rl_e h
    refine k_getR (pc := 12) C lkF_RX7_21_7 hs1 ir_7_3 hb4 dX7_fee_12 ?_
    refine k_iloadn (pc := 15) C dX7_fee_15 (i := 1) rfl 1 rfl ?_
    obtain ⟨ha5, h⟩ := gp_e h
    refine k_iald (pc := 16) C ha5 dX7_fee_16 ?_
    refine k_aloadn (pc := 17) C dX7_fee_17 (i := 0) rfl 0 rfl ?_
    obtain ⟨b6, hb6, h⟩ := rl_e h
    refine k_getR (pc := 18) C lkF_RX7_37_7 hs1 ir_7_11 hb6 dX7_fee_18 ?_
    refine k_aloadn (pc := 21) C dX7_fee_21 (i := 0) rfl 0 rfl ?_
    refine k_iloadn (pc := 22) C dX7_fee_22 (i := 1) rfl 1 rfl ?_
    obtain ⟨hs70, h⟩ := gp_e h
    have hs7 := sok_e hs70
    obtain ⟨r8, hr8, h⟩ := bd_e h
    refine k_V (pc := 23) (st := [.int (I b4 x1.toNatClampNeg), .int (0 : Int32)]) C (c_X5_changeFor hr8) lkV_RX7_99 hs7 rfl rfl rfl (Nat.le_of_ble_eq_true rfl) (Nat.le_of_ble_eq_true rfl) (Nat.le_of_ble_eq_true rfl) (Nat.le_of_ble_eq_true rfl) (Nat.le_of_ble_eq_true rfl) dX7_fee_23 ?_
    refine k_nf (cells2 := 0) (slots2 := 0) (st2 := [.int r8, .int (I b4 x1.toNatClampNeg), .int (0 : Int32)]) rfl rfl rfl ?_
    refine k_iadd (pc := 26) C dX7_fee_26 ?_
    refine k_mmax (pc := 27) (st := []) C (t2_in 93 (by decide +kernel) rfl) (Nat.le_of_ble_eq_true rfl) (Nat.le_of_ble_eq_true rfl) (Nat.le_of_ble_eq_true rfl) (Nat.le_of_ble_eq_true rfl) (Nat.le_of_ble_eq_true rfl) dX7_fee_27 ?_
    refine k_istoren (pc := 30) C dX7_fee_30 (i := 2) rfl (by decide) (L2 := [(0, .ref (E.1 + a0)), (1, .int x1), (2, .int (jmax (0 : Int32) ((I b4 x1.toNatClampNeg) + r8)))]) rfl ?_
    refine k_aloadn (pc := 31) C dX7_fee_31 (i := 0) rfl 0 rfl ?_
    obtain ⟨b9, hb9, h⟩ := rl_e h
    refine k_getR (pc := 32) C lkF_RX7_9_7 hs1 ir_7_0 hb9 dX7_fee_32 ?_
    refine k_iloadn (pc := 35) C dX7_fee_35 (i := 1) rfl 1 rfl ?_
    obtain ⟨ha10, h⟩ := gp_e h
    refine k_iald (pc := 36) C ha10 dX7_fee_36 ?_
    by_cases hc13 : (I b9 x1.toNatClampNeg) = (1 : Int32)
    · rw [if_pos hc13] at h
      refine k_tabIn (pc := 37) C dX7_fee_37 (by rw [hc13]; decide) (by rw [hc13]; decide) (off := 31) (by rw [hc13]; rfl) (tgt := 68) (by decide) ?_
      refine k_iloadn (pc := 68) C dX7_fee_68 (i := 2) rfl 2 rfl ?_
      refine k_iconst (pc := 69) C (v := (2 : Int32)) dX7_fee_69 (by decide) ?_
      refine k_idiv (pc := 70) C dX7_fee_70 (by decide) ?_
      cases h
      exact k_iret (pc := 71) C hr hk dX7_fee_71
    · rw [if_neg hc13] at h
      by_cases hc14 : (I b9 x1.toNatClampNeg) = (2 : Int32)
      · rw [if_pos hc14] at h
        refine k_tabIn (pc := 37) C dX7_fee_37 (by rw [hc14]; decide) (by rw [hc14]; decide) (off := 35) (by rw [hc14]; rfl) (tgt := 72) (by decide) ?_
        refine k_iloadn (pc := 72) C dX7_fee_72 (i := 2) rfl 2 rfl ?_
        refine k_bipush (pc := 73) C (v := (10 : Int32)) dX7_fee_73 (by decide) ?_
        refine k_aloadn (pc := 75) C dX7_fee_75 (i := 0) rfl 0 rfl ?_
        refine k_getI (pc := 76) C lkF_RX7_106_7 hs1 ir_7_10 dX7_fee_76 ?_
        refine k_imul (pc := 79) C dX7_fee_79 ?_
        refine k_iadd (pc := 80) C dX7_fee_80 ?_
        cases h
        exact k_iret (pc := 81) C hr hk dX7_fee_81
      · rw [if_neg hc14] at h
        by_cases hc15 : (I b9 x1.toNatClampNeg) = (3 : Int32)
        · rw [if_pos hc15] at h
          refine k_tabIn (pc := 37) C dX7_fee_37 (by rw [hc15]; decide) (by rw [hc15]; decide) (off := 45) (by rw [hc15]; rfl) (tgt := 82) (by decide) ?_
          refine k_iconst (pc := 82) C (v := (0 : Int32)) dX7_fee_82 (by decide) ?_
          refine k_iloadn (pc := 83) C dX7_fee_83 (i := 2) rfl 2 rfl ?_
          refine k_bipush (pc := 84) C (v := (10 : Int32)) dX7_fee_84 (by decide) ?_
          refine k_aloadn (pc := 86) C dX7_fee_86 (i := 0) rfl 0 rfl ?_
          refine k_getI (pc := 87) C lkF_RX7_106_7 hs1 ir_7_10 dX7_fee_87 ?_
          refine k_imul (pc := 90) C dX7_fee_90 ?_
          refine k_iadd (pc := 91) C dX7_fee_91 ?_
          refine k_aloadn (pc := 92) C dX7_fee_92 (i := 0) rfl 0 rfl ?_
          obtain ⟨b11, hb11, h⟩ := rl_e h
          refine k_getR (pc := 93) C lkF_RX7_18_7 hs1 ir_7_2 hb11 dX7_fee_93 ?_
          refine k_iloadn (pc := 96) C dX7_fee_96 (i := 1) rfl 1 rfl ?_
          obtain ⟨ha12, h⟩ := gp_e h
          refine k_iald (pc := 97) C ha12 dX7_fee_97 ?_
          refine k_isub (pc := 98) C dX7_fee_98 ?_
          refine k_mmax (pc := 99) (st := []) C (t2_in 93 (by decide +kernel) rfl) (Nat.le_of_ble_eq_true rfl) (Nat.le_of_ble_eq_true rfl) (Nat.le_of_ble_eq_true rfl) (Nat.le_of_ble_eq_true rfl) (Nat.le_of_ble_eq_true rfl) dX7_fee_99 ?_
          cases h
          exact k_iret (pc := 102) C hr hk dX7_fee_102
        · rw [if_neg hc15] at h
          by_cases hc16 : (I b9 x1.toNatClampNeg) = (4 : Int32)
          · rw [if_pos hc16] at h
            refine k_tabIn (pc := 37) C dX7_fee_37 (by rw [hc16]; decide) (by rw [hc16]; decide) (off := 66) (by rw [hc16]; rfl) (tgt := 103) (by decide) ?_
            refine k_iloadn (pc := 103) C dX7_fee_103 (i := 2) rfl 2 rfl ?_
            refine k_bipush (pc := 104) C (v := (50 : Int32)) dX7_fee_104 (by decide) ?_
            refine k_iadd (pc := 106) C dX7_fee_106 ?_
            cases h
            exact k_iret (pc := 107) C hr hk dX7_fee_107
          · rw [if_neg hc16] at h
            refine k_tabOut (pc := 37) C dX7_fee_37 (tab_out (I b9 x1.toNatClampNeg) 1 4 (fun z h1 h2 hz => by
              have hz2 : z = 1 ∨ z = 2 ∨ z = 3 ∨ z = 4 := by omega
              rcases hz2 with rfl | rfl | rfl | rfl
              · exact hc13 (Int32.toInt_inj.mp (hz.trans (by decide)))
              · exact hc14 (Int32.toInt_inj.mp (hz.trans (by decide)))
              · exact hc15 (Int32.toInt_inj.mp (hz.trans (by decide)))
              · exact hc16 (Int32.toInt_inj.mp (hz.trans (by decide)))
              ) ) (tgt := 108) (by decide) ?_
            refine k_iconst (pc := 108) C (v := (2 : Int32)) dX7_fee_108 (by decide) ?_
            refine k_iloadn (pc := 109) C dX7_fee_109 (i := 2) rfl 2 rfl ?_
            refine k_bipush (pc := 110) C (v := (50 : Int32)) dX7_fee_110 (by decide) ?_
            refine k_iadd (pc := 112) C dX7_fee_112 ?_
            refine k_imul (pc := 113) C dX7_fee_113 ?_
            cases h
            exact k_iret (pc := 114) C hr hk dX7_fee_114
  · rw [if_pos hc3] at h
    refine k_iconst (pc := 8) C (v := (0 : Int32)) dX7_fee_8 (by decide) ?_
    cases h
    exact k_iret (pc := 9) C hr hk dX7_fee_9
theorem c_X7_fee {E : Ev} {l : Launch} {S : Sh} {R : Rw} {I : Iw} {a0 : Nat} {x1 : Int32} {r : Int32} (h : f_X7_fee S R I a0 x1 = some r) : Mt E l yX7_fee cX7_fee 3 (some .int) 4 95 [.ref (E.1 + a0), .int x1] S R I S R I (some (.int r)) 0 0 := mt_of (by decide) (Nat.le_of_ble_eq_true rfl) (fun p e s m args below meth c C hr hk hn => b_X7_fee C hr hk _ _ h)
theorem dX7_couldGoBehind_0 : decode cX7_couldGoBehind 0 = .ok (.aload_n 0, 1) := by decide +kernel
theorem dX7_couldGoBehind_1 : decode cX7_couldGoBehind 1 = .ok (.iload_n 1, 1) := by decide +kernel
theorem dX7_couldGoBehind_2 : decode cX7_couldGoBehind 2 = .ok (.invokevirtual 62, 3) := by decide +kernel
theorem dX7_couldGoBehind_5 : decode cX7_couldGoBehind 5 = .ok (.ifCond .eq 17, 3) := by decide +kernel
theorem dX7_couldGoBehind_8 : decode cX7_couldGoBehind 8 = .ok (.aload_n 0, 1) := by decide +kernel
theorem dX7_couldGoBehind_9 : decode cX7_couldGoBehind 9 = .ok (.getfield 9, 3) := by decide +kernel
theorem dX7_couldGoBehind_12 : decode cX7_couldGoBehind 12 = .ok (.iload_n 1, 1) := by decide +kernel
theorem dX7_couldGoBehind_13 : decode cX7_couldGoBehind 13 = .ok (.iaload, 1) := by decide +kernel
theorem dX7_couldGoBehind_14 : decode cX7_couldGoBehind 14 = .ok (.iconst 3, 1) := by decide +kernel
theorem dX7_couldGoBehind_15 : decode cX7_couldGoBehind 15 = .ok (.if_icmp .ne 7, 3) := by decide +kernel
theorem dX7_couldGoBehind_18 : decode cX7_couldGoBehind 18 = .ok (.iconst 1, 1) := by decide +kernel
theorem dX7_couldGoBehind_19 : decode cX7_couldGoBehind 19 = .ok (.goto 4, 3) := by decide +kernel
theorem dX7_couldGoBehind_22 : decode cX7_couldGoBehind 22 = .ok (.iconst 0, 1) := by decide +kernel
theorem dX7_couldGoBehind_23 : decode cX7_couldGoBehind 23 = .ok (.istore_n 3, 1) := by decide +kernel
theorem dX7_couldGoBehind_24 : decode cX7_couldGoBehind 24 = .ok (.iload_n 3, 1) := by decide +kernel
theorem dX7_couldGoBehind_25 : decode cX7_couldGoBehind 25 = .ok (.ifCond .ne 23, 3) := by decide +kernel
theorem dX7_couldGoBehind_28 : decode cX7_couldGoBehind 28 = .ok (.iload_n 1, 1) := by decide +kernel
theorem dX7_couldGoBehind_29 : decode cX7_couldGoBehind 29 = .ok (.iload_n 2, 1) := by decide +kernel
theorem dX7_couldGoBehind_30 : decode cX7_couldGoBehind 30 = .ok (.aload_n 0, 1) := by decide +kernel
theorem dX7_couldGoBehind_31 : decode cX7_couldGoBehind 31 = .ok (.getfield 30, 3) := by decide +kernel
theorem dX7_couldGoBehind_34 : decode cX7_couldGoBehind 34 = .ok (.isub, 1) := by decide +kernel
theorem dX7_couldGoBehind_35 : decode cX7_couldGoBehind 35 = .ok (.if_icmp .lt 13, 3) := by decide +kernel
theorem dX7_couldGoBehind_38 : decode cX7_couldGoBehind 38 = .ok (.iload_n 1, 1) := by decide +kernel
theorem dX7_couldGoBehind_39 : decode cX7_couldGoBehind 39 = .ok (.iload_n 2, 1) := by decide +kernel
theorem dX7_couldGoBehind_40 : decode cX7_couldGoBehind 40 = .ok (.aload_n 0, 1) := by decide +kernel
theorem dX7_couldGoBehind_41 : decode cX7_couldGoBehind 41 = .ok (.getfield 30, 3) := by decide +kernel
theorem dX7_couldGoBehind_44 : decode cX7_couldGoBehind 44 = .ok (.iadd, 1) := by decide +kernel
theorem dX7_couldGoBehind_45 : decode cX7_couldGoBehind 45 = .ok (.if_icmp .lt 7, 3) := by decide +kernel
theorem dX7_couldGoBehind_48 : decode cX7_couldGoBehind 48 = .ok (.iconst 1, 1) := by decide +kernel
theorem dX7_couldGoBehind_49 : decode cX7_couldGoBehind 49 = .ok (.goto 4, 3) := by decide +kernel
theorem dX7_couldGoBehind_52 : decode cX7_couldGoBehind 52 = .ok (.iconst 0, 1) := by decide +kernel
theorem dX7_couldGoBehind_53 : decode cX7_couldGoBehind 53 = .ok (.ireturn, 1) := by decide +kernel
def f_X7_couldGoBehind_48 (S : Sh) (R : Rw) (I : Iw)   : Option (Int32) := some (1 : Int32)
set_option maxHeartbeats 4000000 in
theorem b_X7_couldGoBehind_48 {E : Ev} {p : Program} {l : Launch} {e : Env} {s : State} {m : MethodId} {args : Array Value} {below : List Frame} {meth : Method} {c : Code} (C : Cx E RX7 cX7_couldGoBehind 4 p s m c) (hr : meth.sig.returnType = (some .int)) (hk : meth.locks = false) {S : Sh} {R : Rw} {I : Iw} {r : Int32}  : f_X7_couldGoBehind_48 S R I    = some r → Wk E 4 p l e ({ frames := 1, cells := 0, slots := 0, locals := 21 } : Room) s m args below meth c 0 0 (MQ below (Qw E S R I (some (.int r))) args s 0 0 (fun q => E.1 ≤ q)) 48 [] [] S R I := by
  intro  h
  rw [f_X7_couldGoBehind_48] at h
  refine k_iconst (pc := 48) C (v := (1 : Int32)) dX7_couldGoBehind_48 (by decide) ?_
  refine k_goto (pc := 49) C dX7_couldGoBehind_49 (tgt := 53) (by decide) ?_
  cases h
  exact k_iret (pc := 53) C hr hk dX7_couldGoBehind_53
def f_X7_couldGoBehind_23 (S : Sh) (R : Rw) (I : Iw)  (a0 : Nat) (x1 : Int32) (x2 : Int32) (s0 : Int32) : Option (Int32) := (if s0 = 0 then gp (sok S a0 7 16) ((if x1 < (x2 - (I a0 9)) then f_X7_couldGoBehind_48 S R I   else (if x1 < (x2 + (I a0 9)) then some (0 : Int32) else f_X7_couldGoBehind_48 S R I  ))) else f_X7_couldGoBehind_48 S R I  )
set_option maxHeartbeats 4000000 in
theorem b_X7_couldGoBehind_23 {E : Ev} {p : Program} {l : Launch} {e : Env} {s : State} {m : MethodId} {args : Array Value} {below : List Frame} {meth : Method} {c : Code} (C : Cx E RX7 cX7_couldGoBehind 4 p s m c) (hr : meth.sig.returnType = (some .int)) (hk : meth.locks = false) {S : Sh} {R : Rw} {I : Iw} {r : Int32}  : ∀ (a0 : Nat) (x1 : Int32) (x2 : Int32) (s0 : Int32), f_X7_couldGoBehind_23 S R I   a0 x1 x2 s0 = some r → Wk E 4 p l e ({ frames := 1, cells := 0, slots := 0, locals := 21 } : Room) s m args below meth c 0 0 (MQ below (Qw E S R I (some (.int r))) args s 0 0 (fun q => E.1 ≤ q)) 23 [(0, .ref (E.1 + a0)), (1, .int x1), (2, .int x2)] [.int s0] S R I := by
  intro a0 x1 x2 s0 h
  rw [f_X7_couldGoBehind_23] at h
  refine k_istoren (pc := 23) C dX7_couldGoBehind_23 (i := 3) rfl (by decide) (L2 := [(0, .ref (E.1 + a0)), (1, .int x1), (2, .int x2), (3, .int s0)]) rfl ?_
  refine k_iloadn (pc := 24) C dX7_couldGoBehind_24 (i := 3) rfl 3 rfl ?_
  refine k_if_ne (pc := 25) C dX7_couldGoBehind_25 (tgt := 48) (by decide) (fun hc4 => ?_) (fun hc4 => ?_)
  · rw [if_neg hc4] at h
    refine k_loc (L2 := []) [] rfl ?_
    exact b_X7_couldGoBehind_48 C hr hk   h
  · rw [if_pos hc4] at h
    refine k_iloadn (pc := 28) C dX7_couldGoBehind_28 (i := 1) rfl 1 rfl ?_
    refine k_iloadn (pc := 29) C dX7_couldGoBehind_29 (i := 2) rfl 2 rfl ?_
    refine k_aloadn (pc := 30) C dX7_couldGoBehind_30 (i := 0) rfl 0 rfl ?_
    obtain ⟨hs50, h⟩ := gp_e h
    have hs5 := sok_e hs50
    refine k_getI (pc := 31) C lkF_RX7_30_7 hs5 ir_7_9 dX7_couldGoBehind_31 ?_
    refine k_isub (pc := 34) C dX7_couldGoBehind_34 ?_
    refine k_icmp_lt (pc := 35) C dX7_couldGoBehind_35 (tgt := 48) (by decide) (fun hc6 => ?_) (fun hc6 => ?_)
    · rw [if_pos hc6] at h
      refine k_loc (L2 := []) [] rfl ?_
      exact b_X7_couldGoBehind_48 C hr hk   h
    · rw [if_neg hc6] at h
      refine k_iloadn (pc := 38) C dX7_couldGoBehind_38 (i := 1) rfl 1 rfl ?_
      refine k_iloadn (pc := 39) C dX7_couldGoBehind_39 (i := 2) rfl 2 rfl ?_
      refine k_aloadn (pc := 40) C dX7_couldGoBehind_40 (i := 0) rfl 0 rfl ?_
      refine k_getI (pc := 41) C lkF_RX7_30_7 hs5 ir_7_9 dX7_couldGoBehind_41 ?_
      refine k_iadd (pc := 44) C dX7_couldGoBehind_44 ?_
      refine k_icmp_lt (pc := 45) C dX7_couldGoBehind_45 (tgt := 52) (by decide) (fun hc7 => ?_) (fun hc7 => ?_)
      · rw [if_pos hc7] at h
        refine k_iconst (pc := 52) C (v := (0 : Int32)) dX7_couldGoBehind_52 (by decide) ?_
        cases h
        exact k_iret (pc := 53) C hr hk dX7_couldGoBehind_53
      · rw [if_neg hc7] at h
        refine k_loc (L2 := []) [] rfl ?_
        exact b_X7_couldGoBehind_48 C hr hk   h
def f_X7_couldGoBehind_22 (S : Sh) (R : Rw) (I : Iw)  (a0 : Nat) (x1 : Int32) (x2 : Int32) : Option (Int32) := f_X7_couldGoBehind_23 S R I  a0 x1 x2 (0 : Int32)
set_option maxHeartbeats 4000000 in
theorem b_X7_couldGoBehind_22 {E : Ev} {p : Program} {l : Launch} {e : Env} {s : State} {m : MethodId} {args : Array Value} {below : List Frame} {meth : Method} {c : Code} (C : Cx E RX7 cX7_couldGoBehind 4 p s m c) (hr : meth.sig.returnType = (some .int)) (hk : meth.locks = false) {S : Sh} {R : Rw} {I : Iw} {r : Int32}  : ∀ (a0 : Nat) (x1 : Int32) (x2 : Int32), f_X7_couldGoBehind_22 S R I   a0 x1 x2 = some r → Wk E 4 p l e ({ frames := 1, cells := 0, slots := 0, locals := 21 } : Room) s m args below meth c 0 0 (MQ below (Qw E S R I (some (.int r))) args s 0 0 (fun q => E.1 ≤ q)) 22 [(0, .ref (E.1 + a0)), (1, .int x1), (2, .int x2)] [] S R I := by
  intro a0 x1 x2 h
  rw [f_X7_couldGoBehind_22] at h
  refine k_iconst (pc := 22) C (v := (0 : Int32)) dX7_couldGoBehind_22 (by decide) ?_
  exact b_X7_couldGoBehind_23 C hr hk  _ _ _ _ h
def f_X7_couldGoBehind (S : Sh) (R : Rw) (I : Iw)  (a0 : Nat) (x1 : Int32) (x2 : Int32) : Option (Int32) := gp (sok S a0 7 16) (bd (f_X7_has S R I a0 x1) (fun r2 => (if r2 = 0 then f_X7_couldGoBehind_22 S R I  a0 x1 x2 else rl (R a0 0) (fun b8 => gp (aok S 20 b8 x1) ((if (I b8 x1.toNatClampNeg) = (3 : Int32) then f_X7_couldGoBehind_23 S R I  a0 x1 x2 (1 : Int32) else f_X7_couldGoBehind_22 S R I  a0 x1 x2))))))
set_option maxHeartbeats 4000000 in
theorem b_X7_couldGoBehind {E : Ev} {p : Program} {l : Launch} {e : Env} {s : State} {m : MethodId} {args : Array Value} {below : List Frame} {meth : Method} {c : Code} (C : Cx E RX7 cX7_couldGoBehind 4 p s m c) (hr : meth.sig.returnType = (some .int)) (hk : meth.locks = false) {S : Sh} {R : Rw} {I : Iw} {r : Int32}  : ∀ (a0 : Nat) (x1 : Int32) (x2 : Int32), f_X7_couldGoBehind S R I   a0 x1 x2 = some r → Wk E 4 p l e ({ frames := 1, cells := 0, slots := 0, locals := 21 } : Room) s m args below meth c 0 0 (MQ below (Qw E S R I (some (.int r))) args s 0 0 (fun q => E.1 ≤ q)) 0 [(0, .ref (E.1 + a0)), (1, .int x1), (2, .int x2)] [] S R I := by
  intro a0 x1 x2 h
  rw [f_X7_couldGoBehind] at h
  refine k_aloadn (pc := 0) C dX7_couldGoBehind_0 (i := 0) rfl 0 rfl ?_
  refine k_iloadn (pc := 1) C dX7_couldGoBehind_1 (i := 1) rfl 1 rfl ?_
  obtain ⟨hs10, h⟩ := gp_e h
  have hs1 := sok_e hs10
  obtain ⟨r2, hr2, h⟩ := bd_e h
  refine k_V (pc := 2) (st := []) C (c_X7_has hr2) lkV_RX7_62 hs1 rfl rfl rfl (Nat.le_of_ble_eq_true rfl) (Nat.le_of_ble_eq_true rfl) (Nat.le_of_ble_eq_true rfl) (Nat.le_of_ble_eq_true rfl) (Nat.le_of_ble_eq_true rfl) dX7_couldGoBehind_2 ?_
  refine k_nf (cells2 := 0) (slots2 := 0) (st2 := [.int r2]) rfl rfl rfl ?_
  refine k_if_eq (pc := 5) C dX7_couldGoBehind_5 (tgt := 22) (by decide) (fun hc3 => ?_) (fun hc3 => ?_)
  · rw [if_pos hc3] at h
    exact b_X7_couldGoBehind_22 C hr hk  _ _ _ h
  · rw [if_neg hc3] at h
    refine k_aloadn (pc := 8) C dX7_couldGoBehind_8 (i := 0) rfl 0 rfl ?_
    obtain ⟨b8, hb8, h⟩ := rl_e h
    refine k_getR (pc := 9) C lkF_RX7_9_7 hs1 ir_7_0 hb8 dX7_couldGoBehind_9 ?_
    refine k_iloadn (pc := 12) C dX7_couldGoBehind_12 (i := 1) rfl 1 rfl ?_
    obtain ⟨ha9, h⟩ := gp_e h
    refine k_iald (pc := 13) C ha9 dX7_couldGoBehind_13 ?_
    refine k_iconst (pc := 14) C (v := (3 : Int32)) dX7_couldGoBehind_14 (by decide) ?_
    refine k_icmp_ne (pc := 15) C dX7_couldGoBehind_15 (tgt := 22) (by decide) (fun hc10 => ?_) (fun hc10 => ?_)
    · rw [if_neg hc10] at h
      exact b_X7_couldGoBehind_22 C hr hk  _ _ _ h
    · rw [if_pos hc10] at h
      refine k_iconst (pc := 18) C (v := (1 : Int32)) dX7_couldGoBehind_18 (by decide) ?_
      refine k_goto (pc := 19) C dX7_couldGoBehind_19 (tgt := 23) (by decide) ?_
      exact b_X7_couldGoBehind_23 C hr hk  _ _ _ _ h
theorem c_X7_couldGoBehind {E : Ev} {l : Launch} {S : Sh} {R : Rw} {I : Iw} {a0 : Nat} {x1 : Int32} {x2 : Int32} {r : Int32} (h : f_X7_couldGoBehind S R I a0 x1 x2 = some r) : Mt E l yX7_couldGoBehind cX7_couldGoBehind 4 (some .int) 1 21 [.ref (E.1 + a0), .int x1, .int x2] S R I S R I (some (.int r)) 0 0 := mt_of (by decide) (Nat.le_of_ble_eq_true rfl) (fun p e s m args below meth c C hr hk hn => b_X7_couldGoBehind C hr hk _ _ _ h)
theorem lkV_RX7_112 : LkV RX7 112 RX7 yX7_couldGoBehind cX7_couldGoBehind 4 (some .int) 2 := ⟨(t3_in 220 (by decide +kernel) rfl), (t3_in 222 (by decide +kernel) rfl), (t0_in 24 (by decide +kernel) rfl), (t3_in 223 (by decide +kernel) rfl), (t1_in 2 (by decide +kernel) rfl), by decide, by decide +kernel⟩
theorem dX7_fits_0 : decode cX7_fits 0 = .ok (.iconst 0, 1) := by decide +kernel
theorem dX7_fits_1 : decode cX7_fits 1 = .ok (.istore_n 3, 1) := by decide +kernel
theorem dX7_fits_2 : decode cX7_fits 2 = .ok (.iload_n 3, 1) := by decide +kernel
theorem dX7_fits_3 : decode cX7_fits 3 = .ok (.aload_n 0, 1) := by decide +kernel
theorem dX7_fits_4 : decode cX7_fits 4 = .ok (.getfield 59, 3) := by decide +kernel
theorem dX7_fits_7 : decode cX7_fits 7 = .ok (.if_icmp .ge 36, 3) := by decide +kernel
theorem dX7_fits_10 : decode cX7_fits 10 = .ok (.iload_n 3, 1) := by decide +kernel
theorem dX7_fits_11 : decode cX7_fits 11 = .ok (.iload_n 2, 1) := by decide +kernel
theorem dX7_fits_12 : decode cX7_fits 12 = .ok (.if_icmp .eq 25, 3) := by decide +kernel
theorem dX7_fits_15 : decode cX7_fits 15 = .ok (.aload_n 0, 1) := by decide +kernel
theorem dX7_fits_16 : decode cX7_fits 16 = .ok (.aload_n 0, 1) := by decide +kernel
theorem dX7_fits_17 : decode cX7_fits 17 = .ok (.getfield 41, 3) := by decide +kernel
theorem dX7_fits_20 : decode cX7_fits 20 = .ok (.iload_n 3, 1) := by decide +kernel
theorem dX7_fits_21 : decode cX7_fits 21 = .ok (.iaload, 1) := by decide +kernel
theorem dX7_fits_22 : decode cX7_fits 22 = .ok (.iload_n 1, 1) := by decide +kernel
theorem dX7_fits_23 : decode cX7_fits 23 = .ok (.invokevirtual 112, 3) := by decide +kernel
theorem dX7_fits_26 : decode cX7_fits 26 = .ok (.aload_n 0, 1) := by decide +kernel
theorem dX7_fits_27 : decode cX7_fits 27 = .ok (.getfield 44, 3) := by decide +kernel
theorem dX7_fits_30 : decode cX7_fits 30 = .ok (.iload_n 3, 1) := by decide +kernel
theorem dX7_fits_31 : decode cX7_fits 31 = .ok (.iaload, 1) := by decide +kernel
theorem dX7_fits_32 : decode cX7_fits 32 = .ok (.if_icmp .eq 5, 3) := by decide +kernel
theorem dX7_fits_35 : decode cX7_fits 35 = .ok (.iconst 0, 1) := by decide +kernel
theorem dX7_fits_36 : decode cX7_fits 36 = .ok (.ireturn, 1) := by decide +kernel
theorem dX7_fits_37 : decode cX7_fits 37 = .ok (.iinc 3 1, 3) := by decide +kernel
theorem dX7_fits_40 : decode cX7_fits 40 = .ok (.goto (-38), 3) := by decide +kernel
theorem dX7_fits_43 : decode cX7_fits 43 = .ok (.iconst 1, 1) := by decide +kernel
theorem dX7_fits_44 : decode cX7_fits 44 = .ok (.ireturn, 1) := by decide +kernel
def f_X7_fits_37 (S : Sh) (R : Rw) (I : Iw) (ko2 : Nat → Int32 → Int32 → Int32 → Option (Int32)) (a0 : Nat) (x1 : Int32) (x2 : Int32) (x3 : Int32) : Option (Int32) := ko2 a0 x1 x2 (x3 + (1 : Int32))
set_option maxHeartbeats 4000000 in
theorem b_X7_fits_37 {E : Ev} {p : Program} {l : Launch} {e : Env} {s : State} {m : MethodId} {args : Array Value} {below : List Frame} {meth : Method} {c : Code} (C : Cx E RX7 cX7_fits 4 p s m c) (hr : meth.sig.returnType = (some .boolean)) (hk : meth.locks = false) {S : Sh} {R : Rw} {I : Iw} {r : Int32}  {ko2 : Nat → Int32 → Int32 → Int32 → Option (Int32)} (hko2 : ∀ (a0 : Nat) (x1 : Int32) (x2 : Int32) (x3 : Int32), ko2 a0 x1 x2 x3 = some r → Wk E 4 p l e ({ frames := 2, cells := 0, slots := 0, locals := 44 } : Room) s m args below meth c 0 0 (MQ below (Qw E S R I (some (.int r))) args s 0 0 (fun q => E.1 ≤ q)) 2 [(0, .ref (E.1 + a0)), (1, .int x1), (2, .int x2), (3, .int x3)] [] S R I) : ∀ (a0 : Nat) (x1 : Int32) (x2 : Int32) (x3 : Int32), f_X7_fits_37 S R I ko2  a0 x1 x2 x3 = some r → Wk E 4 p l e ({ frames := 2, cells := 0, slots := 0, locals := 44 } : Room) s m args below meth c 0 0 (MQ below (Qw E S R I (some (.int r))) args s 0 0 (fun q => E.1 ≤ q)) 37 [(0, .ref (E.1 + a0)), (1, .int x1), (2, .int x2), (3, .int x3)] [] S R I := by
  intro a0 x1 x2 x3 h
  rw [f_X7_fits_37] at h
  refine k_iinc (pc := 37) C dX7_fits_37 3 rfl (v := x3 + (1 : Int32)) (by rfl) (by decide) (L2 := [(0, .ref (E.1 + a0)), (1, .int x1), (2, .int x2), (3, .int (x3 + (1 : Int32)))]) rfl ?_
  refine k_goto (pc := 40) C dX7_fits_40 (tgt := 2) (by decide) ?_
  exact hko2 _ _ _ _ h
def f_X7_fits_2 (S : Sh) (R : Rw) (I : Iw)  : Nat → Nat → Int32 → Int32 → Int32 → Option (Int32)
  | 0, _, _, _, _ => none
  | n + 1, a0, x1, x2, x3 => gp (sok S a0 7 16) ((if (I a0 14) ≤ x3 then some (1 : Int32) else (if x3 = x2 then f_X7_fits_37 S R I (f_X7_fits_2 S R I  n) a0 x1 x2 x3 else rl (R a0 12) (fun b4 => gp (aok S 20 b4 x3) (bd (f_X7_couldGoBehind S R I a0 (I b4 x3.toNatClampNeg) x1) (fun r6 => rl (R a0 13) (fun b7 => gp (aok S 20 b7 x3) ((if r6 = (I b7 x3.toNatClampNeg) then f_X7_fits_37 S R I (f_X7_fits_2 S R I  n) a0 x1 x2 x3 else some (0 : Int32))))))))))
set_option maxHeartbeats 4000000 in
theorem b_X7_fits_2 {E : Ev} {p : Program} {l : Launch} {e : Env} {s : State} {m : MethodId} {args : Array Value} {below : List Frame} {meth : Method} {c : Code} (C : Cx E RX7 cX7_fits 4 p s m c) (hr : meth.sig.returnType = (some .boolean)) (hk : meth.locks = false) {S : Sh} {R : Rw} {I : Iw} {r : Int32}  : ∀ (n : Nat) (a0 : Nat) (x1 : Int32) (x2 : Int32) (x3 : Int32), f_X7_fits_2 S R I  n a0 x1 x2 x3 = some r → Wk E 4 p l e ({ frames := 2, cells := 0, slots := 0, locals := 44 } : Room) s m args below meth c 0 0 (MQ below (Qw E S R I (some (.int r))) args s 0 0 (fun q => E.1 ≤ q)) 2 [(0, .ref (E.1 + a0)), (1, .int x1), (2, .int x2), (3, .int x3)] [] S R I := by
  intro n
  induction n with
  | zero =>
    intro a0 x1 x2 x3 h
    rw [f_X7_fits_2] at h
    cases h
  | succ n ih =>
    intro a0 x1 x2 x3 h
    rw [f_X7_fits_2] at h
    refine k_iloadn (pc := 2) C dX7_fits_2 (i := 3) rfl 3 rfl ?_
    refine k_aloadn (pc := 3) C dX7_fits_3 (i := 0) rfl 0 rfl ?_
    obtain ⟨hs10, h⟩ := gp_e h
    have hs1 := sok_e hs10
    refine k_getI (pc := 4) C lkF_RX7_59_7 hs1 ir_7_14 dX7_fits_4 ?_
    refine k_icmp_ge (pc := 7) C dX7_fits_7 (tgt := 43) (by decide) (fun hc2 => ?_) (fun hc2 => ?_)
    · rw [if_pos hc2] at h
      refine k_iconst (pc := 43) C (v := (1 : Int32)) dX7_fits_43 (by decide) ?_
      cases h
      exact k_zret (pc := 44) C hr hk (Or.inr rfl) dX7_fits_44
    · rw [if_neg hc2] at h
      refine k_iloadn (pc := 10) C dX7_fits_10 (i := 3) rfl 3 rfl ?_
      refine k_iloadn (pc := 11) C dX7_fits_11 (i := 2) rfl 2 rfl ?_
      refine k_icmp_eq (pc := 12) C dX7_fits_12 (tgt := 37) (by decide) (fun hc3 => ?_) (fun hc3 => ?_)
      · rw [if_pos hc3] at h
        exact b_X7_fits_37 C hr hk ih _ _ _ _ h
      · rw [if_neg hc3] at h
        refine k_aloadn (pc := 15) C dX7_fits_15 (i := 0) rfl 0 rfl ?_
        refine k_aloadn (pc := 16) C dX7_fits_16 (i := 0) rfl 0 rfl ?_
        obtain ⟨b4, hb4, h⟩ := rl_e h
        refine k_getR (pc := 17) C lkF_RX7_41_7 hs1 ir_7_12 hb4 dX7_fits_17 ?_
        refine k_iloadn (pc := 20) C dX7_fits_20 (i := 3) rfl 3 rfl ?_
        obtain ⟨ha5, h⟩ := gp_e h
        refine k_iald (pc := 21) C ha5 dX7_fits_21 ?_
        refine k_iloadn (pc := 22) C dX7_fits_22 (i := 1) rfl 1 rfl ?_
        obtain ⟨r6, hr6, h⟩ := bd_e h
        refine k_V (pc := 23) (st := []) C (c_X7_couldGoBehind hr6) lkV_RX7_112 hs1 rfl rfl rfl (Nat.le_of_ble_eq_true rfl) (Nat.le_of_ble_eq_true rfl) (Nat.le_of_ble_eq_true rfl) (Nat.le_of_ble_eq_true rfl) (Nat.le_of_ble_eq_true rfl) dX7_fits_23 ?_
        refine k_nf (cells2 := 0) (slots2 := 0) (st2 := [.int r6]) rfl rfl rfl ?_
        refine k_aloadn (pc := 26) C dX7_fits_26 (i := 0) rfl 0 rfl ?_
        obtain ⟨b7, hb7, h⟩ := rl_e h
        refine k_getR (pc := 27) C lkF_RX7_44_7 hs1 ir_7_13 hb7 dX7_fits_27 ?_
        refine k_iloadn (pc := 30) C dX7_fits_30 (i := 3) rfl 3 rfl ?_
        obtain ⟨ha8, h⟩ := gp_e h
        refine k_iald (pc := 31) C ha8 dX7_fits_31 ?_
        refine k_icmp_eq (pc := 32) C dX7_fits_32 (tgt := 37) (by decide) (fun hc9 => ?_) (fun hc9 => ?_)
        · rw [if_pos hc9] at h
          exact b_X7_fits_37 C hr hk ih _ _ _ _ h
        · rw [if_neg hc9] at h
          refine k_iconst (pc := 35) C (v := (0 : Int32)) dX7_fits_35 (by decide) ?_
          cases h
          exact k_zret (pc := 36) C hr hk (Or.inl rfl) dX7_fits_36
def f_X7_fits (S : Sh) (R : Rw) (I : Iw)  (a0 : Nat) (x1 : Int32) (x2 : Int32) : Option (Int32) := f_X7_fits_2 S R I  512 a0 x1 x2 (0 : Int32)
set_option maxHeartbeats 4000000 in
theorem b_X7_fits {E : Ev} {p : Program} {l : Launch} {e : Env} {s : State} {m : MethodId} {args : Array Value} {below : List Frame} {meth : Method} {c : Code} (C : Cx E RX7 cX7_fits 4 p s m c) (hr : meth.sig.returnType = (some .boolean)) (hk : meth.locks = false) {S : Sh} {R : Rw} {I : Iw} {r : Int32}  : ∀ (a0 : Nat) (x1 : Int32) (x2 : Int32), f_X7_fits S R I   a0 x1 x2 = some r → Wk E 4 p l e ({ frames := 2, cells := 0, slots := 0, locals := 44 } : Room) s m args below meth c 0 0 (MQ below (Qw E S R I (some (.int r))) args s 0 0 (fun q => E.1 ≤ q)) 0 [(0, .ref (E.1 + a0)), (1, .int x1), (2, .int x2)] [] S R I := by
  intro a0 x1 x2 h
  rw [f_X7_fits] at h
  refine k_iconst (pc := 0) C (v := (0 : Int32)) dX7_fits_0 (by decide) ?_
  refine k_istoren (pc := 1) C dX7_fits_1 (i := 3) rfl (by decide) (L2 := [(0, .ref (E.1 + a0)), (1, .int x1), (2, .int x2), (3, .int (0 : Int32))]) rfl ?_
  exact b_X7_fits_2 C hr hk  _ _ _ _ _ h
theorem c_X7_fits {E : Ev} {l : Launch} {S : Sh} {R : Rw} {I : Iw} {a0 : Nat} {x1 : Int32} {x2 : Int32} {r : Int32} (h : f_X7_fits S R I a0 x1 x2 = some r) : Mt E l yX7_fits cX7_fits 4 (some .boolean) 2 44 [.ref (E.1 + a0), .int x1, .int x2] S R I S R I (some (.int r)) 0 0 := mt_of (by decide) (Nat.le_of_ble_eq_true rfl) (fun p e s m args below meth c C hr hk hn => b_X7_fits C hr hk _ _ _ h)
