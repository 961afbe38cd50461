/-! X12_rules, X12_goodAt, X12_goodIs, X12_factOf, X12_did, X12_holds -/
theorem lkV_RX12_206 : LkV RX12 206 RX12 yX12_readRule cX12_readRule 5 none 1 := ⟨(t5_in 210 (by decide +kernel) rfl), (t5_in 212 (by decide +kernel) rfl), (t0_in 30 (by decide +kernel) rfl), (t5_in 213 (by decide +kernel) rfl), (t1_in 7 (by decide +kernel) rfl), by decide, by decide +kernel⟩
theorem dX12_rules_0 : decode cX12_rules 0 = .ok (.aload_n 0, 1) := by decide +kernel
theorem dX12_rules_1 : decode cX12_rules 1 = .ok (.iconst 0, 1) := by decide +kernel
theorem dX12_rules_2 : decode cX12_rules 2 = .ok (.putfield 112, 3) := by decide +kernel
theorem dX12_rules_5 : decode cX12_rules 5 = .ok (.aload_n 0, 1) := by decide +kernel
theorem dX12_rules_6 : decode cX12_rules 6 = .ok (.iconst 0, 1) := by decide +kernel
theorem dX12_rules_7 : decode cX12_rules 7 = .ok (.putfield 140, 3) := by decide +kernel
theorem dX12_rules_10 : decode cX12_rules 10 = .ok (.aload_n 0, 1) := by decide +kernel
theorem dX12_rules_11 : decode cX12_rules 11 = .ok (.iconst 0, 1) := by decide +kernel
theorem dX12_rules_12 : decode cX12_rules 12 = .ok (.putfield 177, 3) := by decide +kernel
theorem dX12_rules_15 : decode cX12_rules 15 = .ok (.aload_n 0, 1) := by decide +kernel
theorem dX12_rules_16 : decode cX12_rules 16 = .ok (.iconst 0, 1) := by decide +kernel
theorem dX12_rules_17 : decode cX12_rules 17 = .ok (.putfield 147, 3) := by decide +kernel
theorem dX12_rules_20 : decode cX12_rules 20 = .ok (.aload_n 0, 1) := by decide +kernel
theorem dX12_rules_21 : decode cX12_rules 21 = .ok (.invokevirtual 144, 3) := by decide +kernel
theorem dX12_rules_24 : decode cX12_rules 24 = .ok (.iconst 0, 1) := by decide +kernel
theorem dX12_rules_25 : decode cX12_rules 25 = .ok (.istore_n 1, 1) := by decide +kernel
theorem dX12_rules_26 : decode cX12_rules 26 = .ok (.aload_n 0, 1) := by decide +kernel
theorem dX12_rules_27 : decode cX12_rules 27 = .ok (.getfield 140, 3) := by decide +kernel
theorem dX12_rules_30 : decode cX12_rules 30 = .ok (.ifCond .ne 21, 3) := by decide +kernel
theorem dX12_rules_33 : decode cX12_rules 33 = .ok (.aload_n 0, 1) := by decide +kernel
theorem dX12_rules_34 : decode cX12_rules 34 = .ok (.getfield 122, 3) := by decide +kernel
theorem dX12_rules_37 : decode cX12_rules 37 = .ok (.ifCond .eq 14, 3) := by decide +kernel
theorem dX12_rules_40 : decode cX12_rules 40 = .ok (.aload_n 0, 1) := by decide +kernel
theorem dX12_rules_41 : decode cX12_rules 41 = .ok (.iload_n 1, 1) := by decide +kernel
theorem dX12_rules_42 : decode cX12_rules 42 = .ok (.invokevirtual 206, 3) := by decide +kernel
theorem dX12_rules_45 : decode cX12_rules 45 = .ok (.iinc 1 1, 3) := by decide +kernel
theorem dX12_rules_48 : decode cX12_rules 48 = .ok (.goto (-22), 3) := by decide +kernel
theorem dX12_rules_51 : decode cX12_rules 51 = .ok (.aload_n 0, 1) := by decide +kernel
theorem dX12_rules_52 : decode cX12_rules 52 = .ok (.iconst 0, 1) := by decide +kernel
theorem dX12_rules_53 : decode cX12_rules 53 = .ok (.putfield 106, 3) := by decide +kernel
theorem dX12_rules_56 : decode cX12_rules 56 = .ok (.aload_n 0, 1) := by decide +kernel
theorem dX12_rules_57 : decode cX12_rules 57 = .ok (.getfield 140, 3) := by decide +kernel
theorem dX12_rules_60 : decode cX12_rules 60 = .ok (.ifCond .eq 11, 3) := by decide +kernel
theorem dX12_rules_63 : decode cX12_rules 63 = .ok (.bipush (-100), 2) := by decide +kernel
theorem dX12_rules_65 : decode cX12_rules 65 = .ok (.aload_n 0, 1) := by decide +kernel
theorem dX12_rules_66 : decode cX12_rules 66 = .ok (.getfield 115, 3) := by decide +kernel
theorem dX12_rules_69 : decode cX12_rules 69 = .ok (.isub, 1) := by decide +kernel
theorem dX12_rules_70 : decode cX12_rules 70 = .ok (.ireturn, 1) := by decide +kernel
theorem dX12_rules_71 : decode cX12_rules 71 = .ok (.aload_n 0, 1) := by decide +kernel
theorem dX12_rules_72 : decode cX12_rules 72 = .ok (.getfield 9, 3) := by decide +kernel
theorem dX12_rules_75 : decode cX12_rules 75 = .ok (.iconst 4, 1) := by decide +kernel
theorem dX12_rules_76 : decode cX12_rules 76 = .ok (.iload_n 1, 1) := by decide +kernel
theorem dX12_rules_77 : decode cX12_rules 77 = .ok (.iastore, 1) := by decide +kernel
theorem dX12_rules_78 : decode cX12_rules 78 = .ok (.iconst 0, 1) := by decide +kernel
theorem dX12_rules_79 : decode cX12_rules 79 = .ok (.istore_n 2, 1) := by decide +kernel
theorem dX12_rules_80 : decode cX12_rules 80 = .ok (.iload_n 2, 1) := by decide +kernel
theorem dX12_rules_81 : decode cX12_rules 81 = .ok (.iload_n 1, 1) := by decide +kernel
theorem dX12_rules_82 : decode cX12_rules 82 = .ok (.if_icmp .ge 81, 3) := by decide +kernel
theorem dX12_rules_85 : decode cX12_rules 85 = .ok (.aload_n 0, 1) := by decide +kernel
theorem dX12_rules_86 : decode cX12_rules 86 = .ok (.getfield 9, 3) := by decide +kernel
theorem dX12_rules_89 : decode cX12_rules 89 = .ok (.bipush 73, 2) := by decide +kernel
theorem dX12_rules_91 : decode cX12_rules 91 = .ok (.iconst 3, 1) := by decide +kernel
theorem dX12_rules_92 : decode cX12_rules 92 = .ok (.iload_n 2, 1) := by decide +kernel
theorem dX12_rules_93 : decode cX12_rules 93 = .ok (.imul, 1) := by decide +kernel
theorem dX12_rules_94 : decode cX12_rules 94 = .ok (.iadd, 1) := by decide +kernel
theorem dX12_rules_95 : decode cX12_rules 95 = .ok (.iconst 0, 1) := by decide +kernel
theorem dX12_rules_96 : decode cX12_rules 96 = .ok (.iadd, 1) := by decide +kernel
theorem dX12_rules_97 : decode cX12_rules 97 = .ok (.aload_n 0, 1) := by decide +kernel
theorem dX12_rules_98 : decode cX12_rules 98 = .ok (.getfield 59, 3) := by decide +kernel
theorem dX12_rules_101 : decode cX12_rules 101 = .ok (.iload_n 2, 1) := by decide +kernel
theorem dX12_rules_102 : decode cX12_rules 102 = .ok (.iaload, 1) := by decide +kernel
theorem dX12_rules_103 : decode cX12_rules 103 = .ok (.iastore, 1) := by decide +kernel
theorem dX12_rules_104 : decode cX12_rules 104 = .ok (.aload_n 0, 1) := by decide +kernel
theorem dX12_rules_105 : decode cX12_rules 105 = .ok (.getfield 9, 3) := by decide +kernel
theorem dX12_rules_108 : decode cX12_rules 108 = .ok (.bipush 73, 2) := by decide +kernel
theorem dX12_rules_110 : decode cX12_rules 110 = .ok (.iconst 3, 1) := by decide +kernel
theorem dX12_rules_111 : decode cX12_rules 111 = .ok (.iload_n 2, 1) := by decide +kernel
theorem dX12_rules_112 : decode cX12_rules 112 = .ok (.imul, 1) := by decide +kernel
theorem dX12_rules_113 : decode cX12_rules 113 = .ok (.iadd, 1) := by decide +kernel
theorem dX12_rules_114 : decode cX12_rules 114 = .ok (.iconst 1, 1) := by decide +kernel
theorem dX12_rules_115 : decode cX12_rules 115 = .ok (.iadd, 1) := by decide +kernel
theorem dX12_rules_116 : decode cX12_rules 116 = .ok (.aload_n 0, 1) := by decide +kernel
theorem dX12_rules_117 : decode cX12_rules 117 = .ok (.getfield 62, 3) := by decide +kernel
theorem dX12_rules_120 : decode cX12_rules 120 = .ok (.iload_n 2, 1) := by decide +kernel
theorem dX12_rules_121 : decode cX12_rules 121 = .ok (.iaload, 1) := by decide +kernel
theorem dX12_rules_122 : decode cX12_rules 122 = .ok (.iastore, 1) := by decide +kernel
theorem dX12_rules_123 : decode cX12_rules 123 = .ok (.aload_n 0, 1) := by decide +kernel
theorem dX12_rules_124 : decode cX12_rules 124 = .ok (.getfield 9, 3) := by decide +kernel
theorem dX12_rules_127 : decode cX12_rules 127 = .ok (.bipush 73, 2) := by decide +kernel
theorem dX12_rules_129 : decode cX12_rules 129 = .ok (.iconst 3, 1) := by decide +kernel
theorem dX12_rules_130 : decode cX12_rules 130 = .ok (.iload_n 2, 1) := by decide +kernel
theorem dX12_rules_131 : decode cX12_rules 131 = .ok (.imul, 1) := by decide +kernel
theorem dX12_rules_132 : decode cX12_rules 132 = .ok (.iadd, 1) := by decide +kernel
theorem dX12_rules_133 : decode cX12_rules 133 = .ok (.iconst 2, 1) := by decide +kernel
theorem dX12_rules_134 : decode cX12_rules 134 = .ok (.iadd, 1) := by decide +kernel
theorem dX12_rules_135 : decode cX12_rules 135 = .ok (.aload_n 0, 1) := by decide +kernel
theorem dX12_rules_136 : decode cX12_rules 136 = .ok (.getfield 65, 3) := by decide +kernel
theorem dX12_rules_139 : decode cX12_rules 139 = .ok (.iload_n 2, 1) := by decide +kernel
theorem dX12_rules_140 : decode cX12_rules 140 = .ok (.iaload, 1) := by decide +kernel
theorem dX12_rules_141 : decode cX12_rules 141 = .ok (.iastore, 1) := by decide +kernel
theorem dX12_rules_142 : decode cX12_rules 142 = .ok (.aload_n 0, 1) := by decide +kernel
theorem dX12_rules_143 : decode cX12_rules 143 = .ok (.getfield 9, 3) := by decide +kernel
theorem dX12_rules_146 : decode cX12_rules 146 = .ok (.bipush 97, 2) := by decide +kernel
theorem dX12_rules_148 : decode cX12_rules 148 = .ok (.iload_n 2, 1) := by decide +kernel
theorem dX12_rules_149 : decode cX12_rules 149 = .ok (.iadd, 1) := by decide +kernel
theorem dX12_rules_150 : decode cX12_rules 150 = .ok (.aload_n 0, 1) := by decide +kernel
theorem dX12_rules_151 : decode cX12_rules 151 = .ok (.getfield 56, 3) := by decide +kernel
theorem dX12_rules_154 : decode cX12_rules 154 = .ok (.iload_n 2, 1) := by decide +kernel
theorem dX12_rules_155 : decode cX12_rules 155 = .ok (.iaload, 1) := by decide +kernel
theorem dX12_rules_156 : decode cX12_rules 156 = .ok (.iastore, 1) := by decide +kernel
theorem dX12_rules_157 : decode cX12_rules 157 = .ok (.iinc 2 1, 3) := by decide +kernel
theorem dX12_rules_160 : decode cX12_rules 160 = .ok (.goto (-80), 3) := by decide +kernel
theorem dX12_rules_163 : decode cX12_rules 163 = .ok (.aload_n 0, 1) := by decide +kernel
theorem dX12_rules_164 : decode cX12_rules 164 = .ok (.getfield 9, 3) := by decide +kernel
theorem dX12_rules_167 : decode cX12_rules 167 = .ok (.bipush 97, 2) := by decide +kernel
theorem dX12_rules_169 : decode cX12_rules 169 = .ok (.iload_n 1, 1) := by decide +kernel
theorem dX12_rules_170 : decode cX12_rules 170 = .ok (.iadd, 1) := by decide +kernel
theorem dX12_rules_171 : decode cX12_rules 171 = .ok (.aload_n 0, 1) := by decide +kernel
theorem dX12_rules_172 : decode cX12_rules 172 = .ok (.getfield 147, 3) := by decide +kernel
theorem dX12_rules_175 : decode cX12_rules 175 = .ok (.iastore, 1) := by decide +kernel
theorem dX12_rules_176 : decode cX12_rules 176 = .ok (.iconst 0, 1) := by decide +kernel
theorem dX12_rules_177 : decode cX12_rules 177 = .ok (.istore_n 2, 1) := by decide +kernel
theorem dX12_rules_178 : decode cX12_rules 178 = .ok (.iload_n 2, 1) := by decide +kernel
theorem dX12_rules_179 : decode cX12_rules 179 = .ok (.aload_n 0, 1) := by decide +kernel
theorem dX12_rules_180 : decode cX12_rules 180 = .ok (.getfield 147, 3) := by decide +kernel
theorem dX12_rules_183 : decode cX12_rules 183 = .ok (.if_icmp .ge 24, 3) := by decide +kernel
theorem dX12_rules_186 : decode cX12_rules 186 = .ok (.aload_n 0, 1) := by decide +kernel
theorem dX12_rules_187 : decode cX12_rules 187 = .ok (.getfield 9, 3) := by decide +kernel
theorem dX12_rules_190 : decode cX12_rules 190 = .ok (.bipush 106, 2) := by decide +kernel
theorem dX12_rules_192 : decode cX12_rules 192 = .ok (.iload_n 2, 1) := by decide +kernel
theorem dX12_rules_193 : decode cX12_rules 193 = .ok (.iadd, 1) := by decide +kernel
theorem dX12_rules_194 : decode cX12_rules 194 = .ok (.aload_n 0, 1) := by decide +kernel
theorem dX12_rules_195 : decode cX12_rules 195 = .ok (.getfield 22, 3) := by decide +kernel
theorem dX12_rules_198 : decode cX12_rules 198 = .ok (.iload_n 2, 1) := by decide +kernel
theorem dX12_rules_199 : decode cX12_rules 199 = .ok (.iaload, 1) := by decide +kernel
theorem dX12_rules_200 : decode cX12_rules 200 = .ok (.iastore, 1) := by decide +kernel
theorem dX12_rules_201 : decode cX12_rules 201 = .ok (.iinc 2 1, 3) := by decide +kernel
theorem dX12_rules_204 : decode cX12_rules 204 = .ok (.goto (-26), 3) := by decide +kernel
theorem dX12_rules_207 : decode cX12_rules 207 = .ok (.iload_n 1, 1) := by decide +kernel
theorem dX12_rules_208 : decode cX12_rules 208 = .ok (.ireturn, 1) := by decide +kernel
def f_X12_rules_178 (S : Sh) (R : Rw)  : Nat → Iw → Nat → Int32 → Int32 → Option (Iw × Int32)
  | 0, _, _, _, _ => none
  | n + 1, I, a0, x1, x2 => gp (sok S a0 12 34) ((if (I a0 12) ≤ x2 then some (I, x1) else rl (R a0 0) (fun b22 => rl (R a0 11) (fun b23 => gp (aok S 20 b23 x2) (gp (aok S 20 b22 ((106 : Int32) + x2)) (lt (up2 I b22 ((106 : Int32) + x2).toNatClampNeg (I b23 x2.toNatClampNeg)) (fun I26 => f_X12_rules_178 S R  n I26 a0 x1 (x2 + (1 : Int32)))))))))
set_option maxHeartbeats 4000000 in
theorem b_X12_rules_178 {E : Ev} {p : Program} {l : Launch} {e : Env} {s : State} {m : MethodId} {args : Array Value} {below : List Frame} {meth : Method} {c : Code} (C : Cx E RX12 cX12_rules 3 p s m c) (hr : meth.sig.returnType = (some .int)) (hk : meth.locks = false) {S : Sh} {R : Rw} {r : Iw × Int32}  : ∀ (n : Nat) (I : Iw) (a0 : Nat) (x1 : Int32) (x2 : Int32), f_X12_rules_178 S R  n I a0 x1 x2 = some r → Wk E 3 p l e ({ frames := 640, cells := 0, slots := 0, locals := 18697 } : Room) s m args below meth c 0 0 (MQ below (Qw E S R r.1 (some (.int r.2))) args s 0 0 (fun q => E.1 ≤ q)) 178 [(0, .ref (E.1 + a0)), (1, .int x1), (2, .int x2)] [] S R I := by
  intro n
  induction n with
  | zero =>
    intro I a0 x1 x2 h
    rw [f_X12_rules_178] at h
    cases h
  | succ n ih =>
    intro I a0 x1 x2 h
    rw [f_X12_rules_178] at h
    refine k_iloadn (pc := 178) C dX12_rules_178 (i := 2) rfl 2 rfl ?_
    refine k_aloadn (pc := 179) C dX12_rules_179 (i := 0) rfl 0 rfl ?_
    obtain ⟨hs200, h⟩ := gp_e h
    have hs20 := sok_e hs200
    refine k_getI (pc := 180) C lkF_RX12_147_12 hs20 ir_12_12 dX12_rules_180 ?_
    refine k_icmp_ge (pc := 183) C dX12_rules_183 (tgt := 207) (by decide) (fun hc21 => ?_) (fun hc21 => ?_)
    · rw [if_pos hc21] at h
      refine k_iloadn (pc := 207) C dX12_rules_207 (i := 1) rfl 1 rfl ?_
      have h := Option.some.inj h
      subst h
      exact k_iret (pc := 208) C hr hk dX12_rules_208
    · rw [if_neg hc21] at h
      refine k_aloadn (pc := 186) C dX12_rules_186 (i := 0) rfl 0 rfl ?_
      obtain ⟨b22, hb22, h⟩ := rl_e h
      refine k_getR (pc := 187) C lkF_RX12_9_12 hs20 ir_12_0 hb22 dX12_rules_187 ?_
      refine k_bipush (pc := 190) C (v := (106 : Int32)) dX12_rules_190 (by decide) ?_
      refine k_iloadn (pc := 192) C dX12_rules_192 (i := 2) rfl 2 rfl ?_
      refine k_iadd (pc := 193) C dX12_rules_193 ?_
      refine k_aloadn (pc := 194) C dX12_rules_194 (i := 0) rfl 0 rfl ?_
      obtain ⟨b23, hb23, h⟩ := rl_e h
      refine k_getR (pc := 195) C lkF_RX12_22_12 hs20 ir_12_11 hb23 dX12_rules_195 ?_
      refine k_iloadn (pc := 198) C dX12_rules_198 (i := 2) rfl 2 rfl ?_
      obtain ⟨ha24, h⟩ := gp_e h
      refine k_iald (pc := 199) C ha24 dX12_rules_199 ?_
      obtain ⟨ha25, h⟩ := gp_e h
      obtain ⟨I26, eI26, h⟩ := lt_e h
      refine k_iast (pc := 200) C ha25 dX12_rules_200 ?_
      rw [← eI26]
      refine k_iinc (pc := 201) C dX12_rules_201 2 rfl (v := x2 + (1 : Int32)) (by rfl) (by decide) (L2 := [(0, .ref (E.1 + a0)), (1, .int x1), (2, .int (x2 + (1 : Int32)))]) rfl ?_
      refine k_goto (pc := 204) C dX12_rules_204 (tgt := 178) (by decide) ?_
      exact ih _ _ _ _ h
def f_X12_rules_80 (S : Sh) (R : Rw)  : Nat → Iw → Nat → Int32 → Int32 → Option (Iw × Int32)
  | 0, _, _, _, _ => none
  | n + 1, I, a0, x1, x2 => (if x1 ≤ x2 then gp (sok S a0 12 34) (rl (R a0 0) (fun b17 => gp (aok S 20 b17 ((97 : Int32) + x1)) (lt (up2 I b17 ((97 : Int32) + x1).toNatClampNeg (I a0 12)) (fun I19 => f_X12_rules_178 S R  512 I19 a0 x1 (0 : Int32))))) else gp (sok S a0 12 34) (rl (R a0 0) (fun b28 => rl (R a0 16) (fun b29 => gp (aok S 20 b29 x2) (gp (aok S 20 b28 (((73 : Int32) + ((3 : Int32) * x2)) + (0 : Int32))) (lt (up2 I b28 (((73 : Int32) + ((3 : Int32) * x2)) + (0 : Int32)).toNatClampNeg (I b29 x2.toNatClampNeg)) (fun I32 => rl (R a0 0) (fun b33 => rl (R a0 17) (fun b34 => gp (aok S 20 b34 x2) (gp (aok S 20 b33 (((73 : Int32) + ((3 : Int32) * x2)) + (1 : Int32))) (lt (up2 I32 b33 (((73 : Int32) + ((3 : Int32) * x2)) + (1 : Int32)).toNatClampNeg (I32 b34 x2.toNatClampNeg)) (fun I37 => rl (R a0 0) (fun b38 => rl (R a0 18) (fun b39 => gp (aok S 20 b39 x2) (gp (aok S 20 b38 (((73 : Int32) + ((3 : Int32) * x2)) + (2 : Int32))) (lt (up2 I37 b38 (((73 : Int32) + ((3 : Int32) * x2)) + (2 : Int32)).toNatClampNeg (I37 b39 x2.toNatClampNeg)) (fun I42 => rl (R a0 0) (fun b43 => rl (R a0 15) (fun b44 => gp (aok S 20 b44 x2) (gp (aok S 20 b43 ((97 : Int32) + x2)) (lt (up2 I42 b43 ((97 : Int32) + x2).toNatClampNeg (I42 b44 x2.toNatClampNeg)) (fun I47 => f_X12_rules_80 S R  n I47 a0 x1 (x2 + (1 : Int32))))))))))))))))))))))))
set_option maxHeartbeats 4000000 in
theorem b_X12_rules_80 {E : Ev} {p : Program} {l : Launch} {e : Env} {s : State} {m : MethodId} {args : Array Value} {below : List Frame} {meth : Method} {c : Code} (C : Cx E RX12 cX12_rules 3 p s m c) (hr : meth.sig.returnType = (some .int)) (hk : meth.locks = false) {S : Sh} {R : Rw} {r : Iw × Int32}  : ∀ (n : Nat) (I : Iw) (a0 : Nat) (x1 : Int32) (x2 : Int32), f_X12_rules_80 S R  n I a0 x1 x2 = some r → Wk E 3 p l e ({ frames := 640, cells := 0, slots := 0, locals := 18697 } : Room) s m args below meth c 0 0 (MQ below (Qw E S R r.1 (some (.int r.2))) args s 0 0 (fun q => E.1 ≤ q)) 80 [(0, .ref (E.1 + a0)), (1, .int x1), (2, .int x2)] [] S R I := by
  intro n
  induction n with
  | zero =>
    intro I a0 x1 x2 h
    rw [f_X12_rules_80] at h
    cases h
  | succ n ih =>
    intro I a0 x1 x2 h
    rw [f_X12_rules_80] at h
    refine k_iloadn (pc := 80) C dX12_rules_80 (i := 2) rfl 2 rfl ?_
    refine k_iloadn (pc := 81) C dX12_rules_81 (i := 1) rfl 1 rfl ?_
    refine k_icmp_ge (pc := 82) C dX12_rules_82 (tgt := 163) (by decide) (fun hc15 => ?_) (fun hc15 => ?_)
    · rw [if_pos hc15] at h
      refine k_aloadn (pc := 163) C dX12_rules_163 (i := 0) rfl 0 rfl ?_
      obtain ⟨hs160, h⟩ := gp_e h
      have hs16 := sok_e hs160
      obtain ⟨b17, hb17, h⟩ := rl_e h
      refine k_getR (pc := 164) C lkF_RX12_9_12 hs16 ir_12_0 hb17 dX12_rules_164 ?_
      refine k_bipush (pc := 167) C (v := (97 : Int32)) dX12_rules_167 (by decide) ?_
      refine k_iloadn (pc := 169) C dX12_rules_169 (i := 1) rfl 1 rfl ?_
      refine k_iadd (pc := 170) C dX12_rules_170 ?_
      refine k_aloadn (pc := 171) C dX12_rules_171 (i := 0) rfl 0 rfl ?_
      refine k_getI (pc := 172) C lkF_RX12_147_12 hs16 ir_12_12 dX12_rules_172 ?_
      obtain ⟨ha18, h⟩ := gp_e h
      obtain ⟨I19, eI19, h⟩ := lt_e h
      refine k_iast (pc := 175) C ha18 dX12_rules_175 ?_
      rw [← eI19]
      refine k_iconst (pc := 176) C (v := (0 : Int32)) dX12_rules_176 (by decide) ?_
      refine k_istoren (pc := 177) C dX12_rules_177 (i := 2) rfl (by decide) (L2 := [(0, .ref (E.1 + a0)), (1, .int x1), (2, .int (0 : Int32))]) rfl ?_
      exact b_X12_rules_178 C hr hk  _ _ _ _ _ h
    · rw [if_neg hc15] at h
      refine k_aloadn (pc := 85) C dX12_rules_85 (i := 0) rfl 0 rfl ?_
      obtain ⟨hs270, h⟩ := gp_e h
      have hs27 := sok_e hs270
      obtain ⟨b28, hb28, h⟩ := rl_e h
      refine k_getR (pc := 86) C lkF_RX12_9_12 hs27 ir_12_0 hb28 dX12_rules_86 ?_
      refine k_bipush (pc := 89) C (v := (73 : Int32)) dX12_rules_89 (by decide) ?_
      refine k_iconst (pc := 91) C (v := (3 : Int32)) dX12_rules_91 (by decide) ?_
      refine k_iloadn (pc := 92) C dX12_rules_92 (i := 2) rfl 2 rfl ?_
      refine k_imul (pc := 93) C dX12_rules_93 ?_
      refine k_iadd (pc := 94) C dX12_rules_94 ?_
      refine k_iconst (pc := 95) C (v := (0 : Int32)) dX12_rules_95 (by decide) ?_
      refine k_iadd (pc := 96) C dX12_rules_96 ?_
      refine k_aloadn (pc := 97) C dX12_rules_97 (i := 0) rfl 0 rfl ?_
      obtain ⟨b29, hb29, h⟩ := rl_e h
      refine k_getR (pc := 98) C lkF_RX12_59_12 hs27 ir_12_16 hb29 dX12_rules_98 ?_
      refine k_iloadn (pc := 101) C dX12_rules_101 (i := 2) rfl 2 rfl ?_
      obtain ⟨ha30, h⟩ := gp_e h
      refine k_iald (pc := 102) C ha30 dX12_rules_102 ?_
      obtain ⟨ha31, h⟩ := gp_e h
      obtain ⟨I32, eI32, h⟩ := lt_e h
      refine k_iast (pc := 103) C ha31 dX12_rules_103 ?_
      rw [← eI32]
      refine k_aloadn (pc := 104) C dX12_rules_104 (i := 0) rfl 0 rfl ?_
      obtain ⟨b33, hb33, h⟩ := rl_e h
      refine k_getR (pc := 105) C lkF_RX12_9_12 hs27 ir_12_0 hb33 dX12_rules_105 ?_
      refine k_bipush (pc := 108) C (v := (73 : Int32)) dX12_rules_108 (by decide) ?_
      refine k_iconst (pc := 110) C (v := (3 : Int32)) dX12_rules_110 (by decide) ?_
      refine k_iloadn (pc := 111) C dX12_rules_111 (i := 2) rfl 2 rfl ?_
      refine k_imul (pc := 112) C dX12_rules_112 ?_
      refine k_iadd (pc := 113) C dX12_rules_113 ?_
      refine k_iconst (pc := 114) C (v := (1 : Int32)) dX12_rules_114 (by decide) ?_
      refine k_iadd (pc := 115) C dX12_rules_115 ?_
      refine k_aloadn (pc := 116) C dX12_rules_116 (i := 0) rfl 0 rfl ?_
      obtain ⟨b34, hb34, h⟩ := rl_e h
      refine k_getR (pc := 117) C lkF_RX12_62_12 hs27 ir_12_17 hb34 dX12_rules_117 ?_
      refine k_iloadn (pc := 120) C dX12_rules_120 (i := 2) rfl 2 rfl ?_
      obtain ⟨ha35, h⟩ := gp_e h
      refine k_iald (pc := 121) C ha35 dX12_rules_121 ?_
      obtain ⟨ha36, h⟩ := gp_e h
      obtain ⟨I37, eI37, h⟩ := lt_e h
      refine k_iast (pc := 122) C ha36 dX12_rules_122 ?_
      rw [← eI37]
      refine k_aloadn (pc := 123) C dX12_rules_123 (i := 0) rfl 0 rfl ?_
      obtain ⟨b38, hb38, h⟩ := rl_e h
      refine k_getR (pc := 124) C lkF_RX12_9_12 hs27 ir_12_0 hb38 dX12_rules_124 ?_
      refine k_bipush (pc := 127) C (v := (73 : Int32)) dX12_rules_127 (by decide) ?_
      refine k_iconst (pc := 129) C (v := (3 : Int32)) dX12_rules_129 (by decide) ?_
      refine k_iloadn (pc := 130) C dX12_rules_130 (i := 2) rfl 2 rfl ?_
      refine k_imul (pc := 131) C dX12_rules_131 ?_
      refine k_iadd (pc := 132) C dX12_rules_132 ?_
      refine k_iconst (pc := 133) C (v := (2 : Int32)) dX12_rules_133 (by decide) ?_
      refine k_iadd (pc := 134) C dX12_rules_134 ?_
      refine k_aloadn (pc := 135) C dX12_rules_135 (i := 0) rfl 0 rfl ?_
      obtain ⟨b39, hb39, h⟩ := rl_e h
      refine k_getR (pc := 136) C lkF_RX12_65_12 hs27 ir_12_18 hb39 dX12_rules_136 ?_
      refine k_iloadn (pc := 139) C dX12_rules_139 (i := 2) rfl 2 rfl ?_
      obtain ⟨ha40, h⟩ := gp_e h
      refine k_iald (pc := 140) C ha40 dX12_rules_140 ?_
      obtain ⟨ha41, h⟩ := gp_e h
      obtain ⟨I42, eI42, h⟩ := lt_e h
      refine k_iast (pc := 141) C ha41 dX12_rules_141 ?_
      rw [← eI42]
      refine k_aloadn (pc := 142) C dX12_rules_142 (i := 0) rfl 0 rfl ?_
      obtain ⟨b43, hb43, h⟩ := rl_e h
      refine k_getR (pc := 143) C lkF_RX12_9_12 hs27 ir_12_0 hb43 dX12_rules_143 ?_
      refine k_bipush (pc := 146) C (v := (97 : Int32)) dX12_rules_146 (by decide) ?_
      refine k_iloadn (pc := 148) C dX12_rules_148 (i := 2) rfl 2 rfl ?_
      refine k_iadd (pc := 149) C dX12_rules_149 ?_
      refine k_aloadn (pc := 150) C dX12_rules_150 (i := 0) rfl 0 rfl ?_
      obtain ⟨b44, hb44, h⟩ := rl_e h
      refine k_getR (pc := 151) C lkF_RX12_56_12 hs27 ir_12_15 hb44 dX12_rules_151 ?_
      refine k_iloadn (pc := 154) C dX12_rules_154 (i := 2) rfl 2 rfl ?_
      obtain ⟨ha45, h⟩ := gp_e h
      refine k_iald (pc := 155) C ha45 dX12_rules_155 ?_
      obtain ⟨ha46, h⟩ := gp_e h
      obtain ⟨I47, eI47, h⟩ := lt_e h
      refine k_iast (pc := 156) C ha46 dX12_rules_156 ?_
      rw [← eI47]
      refine k_iinc (pc := 157) C dX12_rules_157 2 rfl (v := x2 + (1 : Int32)) (by rfl) (by decide) (L2 := [(0, .ref (E.1 + a0)), (1, .int x1), (2, .int (x2 + (1 : Int32)))]) rfl ?_
      refine k_goto (pc := 160) C dX12_rules_160 (tgt := 80) (by decide) ?_
      exact ih _ _ _ _ h
def f_X12_rules_51 (S : Sh) (R : Rw)  (I : Iw) (a0 : Nat) (x1 : Int32) : Option (Iw × Int32) := gp (sok S a0 12 34) (lt (up2 I a0 5 (0 : Int32)) (fun I10 => (if (I10 a0 9) = 0 then rl (R a0 0) (fun b12 => gp (aok S 20 b12 (4 : Int32)) (lt (up2 I10 b12 (4 : Int32).toNatClampNeg x1) (fun I14 => f_X12_rules_80 S R  512 I14 a0 x1 (0 : Int32)))) else some (I10, (-100 : Int32) - (I10 a0 6)))))
set_option maxHeartbeats 4000000 in
theorem b_X12_rules_51 {E : Ev} {p : Program} {l : Launch} {e : Env} {s : State} {m : MethodId} {args : Array Value} {below : List Frame} {meth : Method} {c : Code} (C : Cx E RX12 cX12_rules 3 p s m c) (hr : meth.sig.returnType = (some .int)) (hk : meth.locks = false) {S : Sh} {R : Rw} {r : Iw × Int32}  : ∀ (I : Iw) (a0 : Nat) (x1 : Int32), f_X12_rules_51 S R   I a0 x1 = some r → Wk E 3 p l e ({ frames := 640, cells := 0, slots := 0, locals := 18697 } : Room) s m args below meth c 0 0 (MQ below (Qw E S R r.1 (some (.int r.2))) args s 0 0 (fun q => E.1 ≤ q)) 51 [(0, .ref (E.1 + a0)), (1, .int x1)] [] S R I := by
  intro I a0 x1 h
  rw [f_X12_rules_51] at h
  refine k_aloadn (pc := 51) C dX12_rules_51 (i := 0) rfl 0 rfl ?_
  refine k_iconst (pc := 52) C (v := (0 : Int32)) dX12_rules_52 (by decide) ?_
  obtain ⟨hs90, h⟩ := gp_e h
  have hs9 := sok_e hs90
  obtain ⟨I10, eI10, h⟩ := lt_e h
  refine k_putI (pc := 53) C lkP_RX12_106_12 hs9 ir_12_5 dX12_rules_53 ?_
  rw [← eI10]
  refine k_aloadn (pc := 56) C dX12_rules_56 (i := 0) rfl 0 rfl ?_
  refine k_getI (pc := 57) C lkF_RX12_140_12 hs9 ir_12_9 dX12_rules_57 ?_
  refine k_if_eq (pc := 60) C dX12_rules_60 (tgt := 71) (by decide) (fun hc11 => ?_) (fun hc11 => ?_)
  · rw [if_pos hc11] at h
    refine k_aloadn (pc := 71) C dX12_rules_71 (i := 0) rfl 0 rfl ?_
    obtain ⟨b12, hb12, h⟩ := rl_e h
    refine k_getR (pc := 72) C lkF_RX12_9_12 hs9 ir_12_0 hb12 dX12_rules_72 ?_
    refine k_iconst (pc := 75) C (v := (4 : Int32)) dX12_rules_75 (by decide) ?_
    refine k_iloadn (pc := 76) C dX12_rules_76 (i := 1) rfl 1 rfl ?_
    obtain ⟨ha13, h⟩ := gp_e h
    obtain ⟨I14, eI14, h⟩ := lt_e h
    refine k_iast (pc := 77) C ha13 dX12_rules_77 ?_
    rw [← eI14]
    refine k_iconst (pc := 78) C (v := (0 : Int32)) dX12_rules_78 (by decide) ?_
    refine k_istoren (pc := 79) C dX12_rules_79 (i := 2) rfl (by decide) (L2 := [(0, .ref (E.1 + a0)), (1, .int x1), (2, .int (0 : Int32))]) rfl ?_
    exact b_X12_rules_80 C hr hk  _ _ _ _ _ h
  · rw [if_neg hc11] at h
    refine k_bipush (pc := 63) C (v := (-100 : Int32)) dX12_rules_63 (by decide) ?_
    refine k_aloadn (pc := 65) C dX12_rules_65 (i := 0) rfl 0 rfl ?_
    refine k_getI (pc := 66) C lkF_RX12_115_12 hs9 ir_12_6 dX12_rules_66 ?_
    refine k_isub (pc := 69) C dX12_rules_69 ?_
    have h := Option.some.inj h
    subst h
    exact k_iret (pc := 70) C hr hk dX12_rules_70
def f_X12_rules_26 (S : Sh) (R : Rw)  : Nat → Iw → Nat → Int32 → Option (Iw × Int32)
  | 0, _, _, _ => none
  | n + 1, I, a0, x1 => gp (sok S a0 12 34) ((if (I a0 9) = 0 then (if (I a0 8) = 0 then f_X12_rules_51 S R  I a0 x1 else bd (f_X12_readRule S R I a0 x1) (fun r49 => f_X12_rules_26 S R  n r49 a0 (x1 + (1 : Int32)))) else f_X12_rules_51 S R  I a0 x1))
set_option maxHeartbeats 4000000 in
theorem b_X12_rules_26 {E : Ev} {p : Program} {l : Launch} {e : Env} {s : State} {m : MethodId} {args : Array Value} {below : List Frame} {meth : Method} {c : Code} (C : Cx E RX12 cX12_rules 3 p s m c) (hr : meth.sig.returnType = (some .int)) (hk : meth.locks = false) {S : Sh} {R : Rw} {r : Iw × Int32}  : ∀ (n : Nat) (I : Iw) (a0 : Nat) (x1 : Int32), f_X12_rules_26 S R  n I a0 x1 = some r → Wk E 3 p l e ({ frames := 640, cells := 0, slots := 0, locals := 18697 } : Room) s m args below meth c 0 0 (MQ below (Qw E S R r.1 (some (.int r.2))) args s 0 0 (fun q => E.1 ≤ q)) 26 [(0, .ref (E.1 + a0)), (1, .int x1)] [] S R I := by
  intro n
  induction n with
  | zero =>
    intro I a0 x1 h
    rw [f_X12_rules_26] at h
    cases h
  | succ n ih =>
    intro I a0 x1 h
    rw [f_X12_rules_26] at h
    refine k_aloadn (pc := 26) C dX12_rules_26 (i := 0) rfl 0 rfl ?_
    obtain ⟨hs70, h⟩ := gp_e h
    have hs7 := sok_e hs70
    refine k_getI (pc := 27) C lkF_RX12_140_12 hs7 ir_12_9 dX12_rules_27 ?_
    refine k_if_ne (pc := 30) C dX12_rules_30 (tgt := 51) (by decide) (fun hc8 => ?_) (fun hc8 => ?_)
    · rw [if_neg hc8] at h
      exact b_X12_rules_51 C hr hk  _ _ _ h
    · rw [if_pos hc8] at h
      refine k_aloadn (pc := 33) C dX12_rules_33 (i := 0) rfl 0 rfl ?_
      refine k_getI (pc := 34) C lkF_RX12_122_12 hs7 ir_12_8 dX12_rules_34 ?_
      refine k_if_eq (pc := 37) C dX12_rules_37 (tgt := 51) (by decide) (fun hc48 => ?_) (fun hc48 => ?_)
      · rw [if_pos hc48] at h
        exact b_X12_rules_51 C hr hk  _ _ _ h
      · rw [if_neg hc48] at h
        refine k_aloadn (pc := 40) C dX12_rules_40 (i := 0) rfl 0 rfl ?_
        refine k_iloadn (pc := 41) C dX12_rules_41 (i := 1) rfl 1 rfl ?_
        obtain ⟨r49, hr49, h⟩ := bd_e h
        refine k_V (pc := 42) (st := []) C (c_X12_readRule hr49) lkV_RX12_206 hs7 rfl rfl rfl (Nat.le_of_ble_eq_true rfl) (Nat.le_of_ble_eq_true rfl) (Nat.le_of_ble_eq_true rfl) (Nat.le_of_ble_eq_true rfl) (Nat.le_of_ble_eq_true rfl) dX12_rules_42 ?_
        refine k_nf (cells2 := 0) (slots2 := 0) (st2 := []) rfl rfl rfl ?_
        refine k_iinc (pc := 45) C dX12_rules_45 1 rfl (v := x1 + (1 : Int32)) (by rfl) (by decide) (L2 := [(0, .ref (E.1 + a0)), (1, .int (x1 + (1 : Int32)))]) rfl ?_
        refine k_goto (pc := 48) C dX12_rules_48 (tgt := 26) (by decide) ?_
        exact ih _ _ _ h
def f_X12_rules (S : Sh) (R : Rw)  (I : Iw) (a0 : Nat) : Option (Iw × Int32) := gp (sok S a0 12 34) (lt (up2 I a0 7 (0 : Int32)) (fun I2 => lt (up2 I2 a0 9 (0 : Int32)) (fun I3 => lt (up2 I3 a0 10 (0 : Int32)) (fun I4 => lt (up2 I4 a0 12 (0 : Int32)) (fun I5 => bd (f_X12_next S R I5 a0) (fun r6 => f_X12_rules_26 S R  512 r6 a0 (0 : Int32)))))))
set_option maxHeartbeats 4000000 in
theorem b_X12_rules {E : Ev} {p : Program} {l : Launch} {e : Env} {s : State} {m : MethodId} {args : Array Value} {below : List Frame} {meth : Method} {c : Code} (C : Cx E RX12 cX12_rules 3 p s m c) (hr : meth.sig.returnType = (some .int)) (hk : meth.locks = false) {S : Sh} {R : Rw} {r : Iw × Int32}  : ∀ (I : Iw) (a0 : Nat), f_X12_rules S R   I a0 = some r → Wk E 3 p l e ({ frames := 640, cells := 0, slots := 0, locals := 18697 } : Room) s m args below meth c 0 0 (MQ below (Qw E S R r.1 (some (.int r.2))) args s 0 0 (fun q => E.1 ≤ q)) 0 [(0, .ref (E.1 + a0))] [] S R I := by
  intro I a0 h
  rw [f_X12_rules] at h
  refine k_aloadn (pc := 0) C dX12_rules_0 (i := 0) rfl 0 rfl ?_
  refine k_iconst (pc := 1) C (v := (0 : Int32)) dX12_rules_1 (by decide) ?_
  obtain ⟨hs10, h⟩ := gp_e h
  have hs1 := sok_e hs10
  obtain ⟨I2, eI2, h⟩ := lt_e h
  refine k_putI (pc := 2) C lkP_RX12_112_12 hs1 ir_12_7 dX12_rules_2 ?_
  rw [← eI2]
  refine k_aloadn (pc := 5) C dX12_rules_5 (i := 0) rfl 0 rfl ?_
  refine k_iconst (pc := 6) C (v := (0 : Int32)) dX12_rules_6 (by decide) ?_
  obtain ⟨I3, eI3, h⟩ := lt_e h
  refine k_putZ (pc := 7) C lkP_RX12_140_12 hs1 ir_12_9 (Or.inl rfl) dX12_rules_7 ?_
  rw [← eI3]
  refine k_aloadn (pc := 10) C dX12_rules_10 (i := 0) rfl 0 rfl ?_
  refine k_iconst (pc := 11) C (v := (0 : Int32)) dX12_rules_11 (by decide) ?_
  obtain ⟨I4, eI4, h⟩ := lt_e h
  refine k_putI (pc := 12) C lkP_RX12_177_12 hs1 ir_12_10 dX12_rules_12 ?_
  rw [← eI4]
  refine k_aloadn (pc := 15) C dX12_rules_15 (i := 0) rfl 0 rfl ?_
  refine k_iconst (pc := 16) C (v := (0 : Int32)) dX12_rules_16 (by decide) ?_
  obtain ⟨I5, eI5, h⟩ := lt_e h
  refine k_putI (pc := 17) C lkP_RX12_147_12 hs1 ir_12_12 dX12_rules_17 ?_
  rw [← eI5]
  refine k_aloadn (pc := 20) C dX12_rules_20 (i := 0) rfl 0 rfl ?_
  obtain ⟨r6, hr6, h⟩ := bd_e h
  refine k_V (pc := 21) (st := []) C (c_X12_next hr6) lkV_RX12_144 hs1 rfl rfl rfl (Nat.le_of_ble_eq_true rfl) (Nat.le_of_ble_eq_true rfl) (Nat.le_of_ble_eq_true rfl) (Nat.le_of_ble_eq_true rfl) (Nat.le_of_ble_eq_true rfl) dX12_rules_21 ?_
  refine k_nf (cells2 := 0) (slots2 := 0) (st2 := []) rfl rfl rfl ?_
  refine k_iconst (pc := 24) C (v := (0 : Int32)) dX12_rules_24 (by decide) ?_
  refine k_istoren (pc := 25) C dX12_rules_25 (i := 1) rfl (by decide) (L2 := [(0, .ref (E.1 + a0)), (1, .int (0 : Int32))]) rfl ?_
  exact b_X12_rules_26 C hr hk  _ _ _ _ h
theorem c_X12_rules {E : Ev} {l : Launch} {S : Sh} {R : Rw} {I : Iw} {a0 : Nat} {r : Iw × Int32} (h : f_X12_rules S R I a0 = some r) : Mt E l yX12_rules cX12_rules 3 (some .int) 640 18697 [.ref (E.1 + a0)] S R I S R r.1 (some (.int r.2)) 0 0 := mt_of (by decide) (Nat.le_of_ble_eq_true rfl) (fun p e s m args below meth c C hr hk hn => b_X12_rules C hr hk _ _ h)
theorem dX12_goodAt_0 : decode cX12_goodAt 0 = .ok (.bipush 16, 2) := by decide +kernel
theorem dX12_goodAt_2 : decode cX12_goodAt 2 = .ok (.iconst 5, 1) := by decide +kernel
theorem dX12_goodAt_3 : decode cX12_goodAt 3 = .ok (.iload_n 0, 1) := by decide +kernel
theorem dX12_goodAt_4 : decode cX12_goodAt 4 = .ok (.imul, 1) := by decide +kernel
theorem dX12_goodAt_5 : decode cX12_goodAt 5 = .ok (.iadd, 1) := by decide +kernel
theorem dX12_goodAt_6 : decode cX12_goodAt 6 = .ok (.iload_n 1, 1) := by decide +kernel
theorem dX12_goodAt_7 : decode cX12_goodAt 7 = .ok (.iadd, 1) := by decide +kernel
theorem dX12_goodAt_8 : decode cX12_goodAt 8 = .ok (.ireturn, 1) := by decide +kernel
def f_X12_goodAt (S : Sh) (R : Rw) (I : Iw)  (x0 : Int32) (x1 : Int32) : Option (Int32) := some (((16 : Int32) + ((5 : Int32) * x0)) + x1)
set_option maxHeartbeats 4000000 in
theorem b_X12_goodAt {E : Ev} {p : Program} {l : Launch} {e : Env} {s : State} {m : MethodId} {args : Array Value} {below : List Frame} {meth : Method} {c : Code} (C : Cx E RX12 cX12_goodAt 2 p s m c) (hr : meth.sig.returnType = (some .int)) (hk : meth.locks = false) {S : Sh} {R : Rw} {I : Iw} {r : Int32}  : ∀ (x0 : Int32) (x1 : Int32), f_X12_goodAt S R I   x0 x1 = some r → Wk E 2 p l e ({ frames := 0, cells := 0, slots := 0, locals := 0 } : Room) s m args below meth c 0 0 (MQ below (Qw E S R I (some (.int r))) args s 0 0 (fun q => E.1 ≤ q)) 0 [(0, .int x0), (1, .int x1)] [] S R I := by
  intro x0 x1 h
  rw [f_X12_goodAt] at h
  refine k_bipush (pc := 0) C (v := (16 : Int32)) dX12_goodAt_0 (by decide) ?_
  refine k_iconst (pc := 2) C (v := (5 : Int32)) dX12_goodAt_2 (by decide) ?_
  refine k_iloadn (pc := 3) C dX12_goodAt_3 (i := 0) rfl 0 rfl ?_
  refine k_imul (pc := 4) C dX12_goodAt_4 ?_
  refine k_iadd (pc := 5) C dX12_goodAt_5 ?_
  refine k_iloadn (pc := 6) C dX12_goodAt_6 (i := 1) rfl 1 rfl ?_
  refine k_iadd (pc := 7) C dX12_goodAt_7 ?_
  have h := Option.some.inj h
  subst h
  exact k_iret (pc := 8) C hr hk dX12_goodAt_8
theorem c_X12_goodAt {E : Ev} {l : Launch} {S : Sh} {R : Rw} {I : Iw} {x0 : Int32} {x1 : Int32} {r : Int32} (h : f_X12_goodAt S R I x0 x1 = some r) : Mt E l yX12_goodAt cX12_goodAt 2 (some .int) 0 0 [.int x0, .int x1] S R I S R I (some (.int r)) 0 0 := mt_of (by decide) (Nat.le_of_ble_eq_true rfl) (fun p e s m args below meth c C hr hk hn => b_X12_goodAt C hr hk _ _ h)
theorem lkS_RX12_218 : LkS RX12 218 yX12_goodAt cX12_goodAt 2 (some .int) 2 := ⟨(t6_in 25 (by decide +kernel) rfl), (t6_in 26 (by decide +kernel) rfl), (t6_in 27 (by decide +kernel) rfl), (t1_in 7 (by decide +kernel) rfl), by decide, by decide +kernel⟩
theorem dX12_goodIs_0 : decode cX12_goodIs 0 = .ok (.aload_n 0, 1) := by decide +kernel
theorem dX12_goodIs_1 : decode cX12_goodIs 1 = .ok (.getfield 9, 3) := by decide +kernel
theorem dX12_goodIs_4 : decode cX12_goodIs 4 = .ok (.iload_n 1, 1) := by decide +kernel
theorem dX12_goodIs_5 : decode cX12_goodIs 5 = .ok (.iload_n 2, 1) := by decide +kernel
theorem dX12_goodIs_6 : decode cX12_goodIs 6 = .ok (.invokestatic 218, 3) := by decide +kernel
theorem dX12_goodIs_9 : decode cX12_goodIs 9 = .ok (.iaload, 1) := by decide +kernel
theorem dX12_goodIs_10 : decode cX12_goodIs 10 = .ok (.ireturn, 1) := by decide +kernel
def f_X12_goodIs (S : Sh) (R : Rw) (I : Iw)  (a0 : Nat) (x1 : Int32) (x2 : Int32) : Option (Int32) := gp (sok S a0 12 34) (rl (R a0 0) (fun b2 => bd (f_X12_goodAt S R I x1 x2) (fun r3 => gp (aok S 20 b2 r3) (some (I b2 r3.toNatClampNeg)))))
set_option maxHeartbeats 4000000 in
theorem b_X12_goodIs {E : Ev} {p : Program} {l : Launch} {e : Env} {s : State} {m : MethodId} {args : Array Value} {below : List Frame} {meth : Method} {c : Code} (C : Cx E RX12 cX12_goodIs 3 p s m c) (hr : meth.sig.returnType = (some .int)) (hk : meth.locks = false) {S : Sh} {R : Rw} {I : Iw} {r : Int32}  : ∀ (a0 : Nat) (x1 : Int32) (x2 : Int32), f_X12_goodIs S R I   a0 x1 x2 = some r → Wk E 3 p l e ({ frames := 1, cells := 0, slots := 0, locals := 21 } : Room) s m args below meth c 0 0 (MQ below (Qw E S R I (some (.int r))) args s 0 0 (fun q => E.1 ≤ q)) 0 [(0, .ref (E.1 + a0)), (1, .int x1), (2, .int x2)] [] S R I := by
  intro a0 x1 x2 h
  rw [f_X12_goodIs] at h
  refine k_aloadn (pc := 0) C dX12_goodIs_0 (i := 0) rfl 0 rfl ?_
  obtain ⟨hs10, h⟩ := gp_e h
  have hs1 := sok_e hs10
  obtain ⟨b2, hb2, h⟩ := rl_e h
  refine k_getR (pc := 1) C lkF_RX12_9_12 hs1 ir_12_0 hb2 dX12_goodIs_1 ?_
  refine k_iloadn (pc := 4) C dX12_goodIs_4 (i := 1) rfl 1 rfl ?_
  refine k_iloadn (pc := 5) C dX12_goodIs_5 (i := 2) rfl 2 rfl ?_
  obtain ⟨r3, hr3, h⟩ := bd_e h
  refine k_S (pc := 6) (st := [.ref (E.1 + b2)]) C (c_X12_goodAt hr3) lkS_RX12_218 rfl rfl (Nat.le_of_ble_eq_true rfl) (Nat.le_of_ble_eq_true rfl) (Nat.le_of_ble_eq_true rfl) (Nat.le_of_ble_eq_true rfl) (Nat.le_of_ble_eq_true rfl) dX12_goodIs_6 ?_
  refine k_nf (cells2 := 0) (slots2 := 0) (st2 := [.int r3, .ref (E.1 + b2)]) rfl rfl rfl ?_
  obtain ⟨ha4, h⟩ := gp_e h
  refine k_iald (pc := 9) C ha4 dX12_goodIs_9 ?_
  have h := Option.some.inj h
  subst h
  exact k_iret (pc := 10) C hr hk dX12_goodIs_10
theorem c_X12_goodIs {E : Ev} {l : Launch} {S : Sh} {R : Rw} {I : Iw} {a0 : Nat} {x1 : Int32} {x2 : Int32} {r : Int32} (h : f_X12_goodIs S R I a0 x1 x2 = some r) : Mt E l yX12_goodIs cX12_goodIs 3 (some .int) 1 21 [.ref (E.1 + a0), .int x1, .int x2] S R I S R I (some (.int r)) 0 0 := mt_of (by decide) (Nat.le_of_ble_eq_true rfl) (fun p e s m args below meth c C hr hk hn => b_X12_goodIs C hr hk _ _ _ h)
theorem lkV_RX12_209 : LkV RX12 209 RX12 yX12_goodIs cX12_goodIs 3 (some .int) 2 := ⟨(t6_in 36 (by decide +kernel) rfl), (t6_in 38 (by decide +kernel) rfl), (t0_in 41 (by decide +kernel) rfl), (t6_in 39 (by decide +kernel) rfl), (t1_in 7 (by decide +kernel) rfl), by decide, by decide +kernel⟩
theorem dX12_factOf_0 : decode cX12_factOf 0 = .ok (.iload_n 1, 1) := by decide +kernel
theorem dX12_factOf_1 : decode cX12_factOf 1 = .ok (.tableswitch 59 0 3 #[31, 38, 45, 52], 31) := by decide +kernel
theorem dX12_factOf_32 : decode cX12_factOf 32 = .ok (.aload_n 0, 1) := by decide +kernel
theorem dX12_factOf_33 : decode cX12_factOf 33 = .ok (.getfield 9, 3) := by decide +kernel
theorem dX12_factOf_36 : decode cX12_factOf 36 = .ok (.iconst 0, 1) := by decide +kernel
theorem dX12_factOf_37 : decode cX12_factOf 37 = .ok (.iaload, 1) := by decide +kernel
theorem dX12_factOf_38 : decode cX12_factOf 38 = .ok (.ireturn, 1) := by decide +kernel
theorem dX12_factOf_39 : decode cX12_factOf 39 = .ok (.aload_n 0, 1) := by decide +kernel
theorem dX12_factOf_40 : decode cX12_factOf 40 = .ok (.getfield 9, 3) := by decide +kernel
theorem dX12_factOf_43 : decode cX12_factOf 43 = .ok (.iconst 1, 1) := by decide +kernel
theorem dX12_factOf_44 : decode cX12_factOf 44 = .ok (.iaload, 1) := by decide +kernel
theorem dX12_factOf_45 : decode cX12_factOf 45 = .ok (.ireturn, 1) := by decide +kernel
theorem dX12_factOf_46 : decode cX12_factOf 46 = .ok (.aload_n 0, 1) := by decide +kernel
theorem dX12_factOf_47 : decode cX12_factOf 47 = .ok (.iload_n 2, 1) := by decide +kernel
theorem dX12_factOf_48 : decode cX12_factOf 48 = .ok (.iconst 2, 1) := by decide +kernel
theorem dX12_factOf_49 : decode cX12_factOf 49 = .ok (.invokevirtual 209, 3) := by decide +kernel
theorem dX12_factOf_52 : decode cX12_factOf 52 = .ok (.ireturn, 1) := by decide +kernel
theorem dX12_factOf_53 : decode cX12_factOf 53 = .ok (.aload_n 0, 1) := by decide +kernel
theorem dX12_factOf_54 : decode cX12_factOf 54 = .ok (.iload_n 2, 1) := by decide +kernel
theorem dX12_factOf_55 : decode cX12_factOf 55 = .ok (.iconst 3, 1) := by decide +kernel
theorem dX12_factOf_56 : decode cX12_factOf 56 = .ok (.invokevirtual 209, 3) := by decide +kernel
theorem dX12_factOf_59 : decode cX12_factOf 59 = .ok (.ireturn, 1) := by decide +kernel
theorem dX12_factOf_60 : decode cX12_factOf 60 = .ok (.iload_n 2, 1) := by decide +kernel
theorem dX12_factOf_61 : decode cX12_factOf 61 = .ok (.ireturn, 1) := by decide +kernel
def f_X12_factOf (S : Sh) (R : Rw) (I : Iw)  (a0 : Nat) (x1 : Int32) (x2 : Int32) : Option (Int32) := (if x1 = (0 : Int32) then gp (sok S a0 12 34) (rl (R a0 0) (fun b2 => gp (aok S 20 b2 (0 : Int32)) (some (I b2 (0 : Int32).toNatClampNeg)))) else (if x1 = (1 : Int32) then gp (sok S a0 12 34) (rl (R a0 0) (fun b5 => gp (aok S 20 b5 (1 : Int32)) (some (I b5 (1 : Int32).toNatClampNeg)))) else (if x1 = (2 : Int32) then gp (sok S a0 12 34) (bd (f_X12_goodIs S R I a0 x2 (2 : Int32)) (fun r8 => some r8)) else (if x1 = (3 : Int32) then gp (sok S a0 12 34) (bd (f_X12_goodIs S R I a0 x2 (3 : Int32)) (fun r10 => some r10)) else some x2))))
set_option maxHeartbeats 4000000 in
theorem b_X12_factOf {E : Ev} {p : Program} {l : Launch} {e : Env} {s : State} {m : MethodId} {args : Array Value} {below : List Frame} {meth : Method} {c : Code} (C : Cx E RX12 cX12_factOf 3 p s m c) (hr : meth.sig.returnType = (some .int)) (hk : meth.locks = false) {S : Sh} {R : Rw} {I : Iw} {r : Int32}  : ∀ (a0 : Nat) (x1 : Int32) (x2 : Int32), f_X12_factOf S R I   a0 x1 x2 = some r → Wk E 3 p l e ({ frames := 2, cells := 0, slots := 0, locals := 43 } : Room) s m args below meth c 0 0 (MQ below (Qw E S R I (some (.int r))) args s 0 0 (fun q => E.1 ≤ q)) 0 [(0, .ref (E.1 + a0)), (1, .int x1), (2, .int x2)] [] S R I := by
  intro a0 x1 x2 h
  rw [f_X12_factOf] at h
  refine k_iloadn (pc := 0) C dX12_factOf_0 (i := 1) rfl 1 rfl ?_
  by_cases hc11 : x1 = (0 : Int32)
  · rw [if_pos hc11] at h
    refine k_tabIn (pc := 1) C dX12_factOf_1 (by rw [hc11]; decide) (by rw [hc11]; decide) (off := 31) (by rw [hc11]; rfl) (tgt := 32) (by decide) ?_
    refine k_aloadn (pc := 32) C dX12_factOf_32 (i := 0) rfl 0 rfl ?_
    obtain ⟨hs10, h⟩ := gp_e h
    have hs1 := sok_e hs10
    obtain ⟨b2, hb2, h⟩ := rl_e h
    refine k_getR (pc := 33) C lkF_RX12_9_12 hs1 ir_12_0 hb2 dX12_factOf_33 ?_
    refine k_iconst (pc := 36) C (v := (0 : Int32)) dX12_factOf_36 (by decide) ?_
    obtain ⟨ha3, h⟩ := gp_e h
    refine k_iald (pc := 37) C ha3 dX12_factOf_37 ?_
    have h := Option.some.inj h
    subst h
    exact k_iret (pc := 38) C hr hk dX12_factOf_38
  · rw [if_neg hc11] at h
    by_cases hc12 : x1 = (1 : Int32)
    · rw [if_pos hc12] at h
      refine k_tabIn (pc := 1) C dX12_factOf_1 (by rw [hc12]; decide) (by rw [hc12]; decide) (off := 38) (by rw [hc12]; rfl) (tgt := 39) (by decide) ?_
      refine k_aloadn (pc := 39) C dX12_factOf_39 (i := 0) rfl 0 rfl ?_
      obtain ⟨hs40, h⟩ := gp_e h
      have hs4 := sok_e hs40
      obtain ⟨b5, hb5, h⟩ := rl_e h
      refine k_getR (pc := 40) C lkF_RX12_9_12 hs4 ir_12_0 hb5 dX12_factOf_40 ?_
      refine k_iconst (pc := 43) C (v := (1 : Int32)) dX12_factOf_43 (by decide) ?_
      obtain ⟨ha6, h⟩ := gp_e h
      refine k_iald (pc := 44) C ha6 dX12_factOf_44 ?_
      have h := Option.some.inj h
      subst h
      exact k_iret (pc := 45) C hr hk dX12_factOf_45
    · rw [if_neg hc12] at h
      by_cases hc13 : x1 = (2 : Int32)
      · rw [if_pos hc13] at h
        refine k_tabIn (pc := 1) C dX12_factOf_1 (by rw [hc13]; decide) (by rw [hc13]; decide) (off := 45) (by rw [hc13]; rfl) (tgt := 46) (by decide) ?_
        refine k_aloadn (pc := 46) C dX12_factOf_46 (i := 0) rfl 0 rfl ?_
        refine k_iloadn (pc := 47) C dX12_factOf_47 (i := 2) rfl 2 rfl ?_
        refine k_iconst (pc := 48) C (v := (2 : Int32)) dX12_factOf_48 (by decide) ?_
        obtain ⟨hs70, h⟩ := gp_e h
        have hs7 := sok_e hs70
        obtain ⟨r8, hr8, h⟩ := bd_e h
        refine k_V (pc := 49) (st := []) C (c_X12_goodIs hr8) lkV_RX12_209 hs7 rfl rfl rfl (Nat.le_of_ble_eq_true rfl) (Nat.le_of_ble_eq_true rfl) (Nat.le_of_ble_eq_true rfl) (Nat.le_of_ble_eq_true rfl) (Nat.le_of_ble_eq_true rfl) dX12_factOf_49 ?_
        refine k_nf (cells2 := 0) (slots2 := 0) (st2 := [.int r8]) rfl rfl rfl ?_
        have h := Option.some.inj h
        subst h
        exact k_iret (pc := 52) C hr hk dX12_factOf_52
      · rw [if_neg hc13] at h
        by_cases hc14 : x1 = (3 : Int32)
        · rw [if_pos hc14] at h
          refine k_tabIn (pc := 1) C dX12_factOf_1 (by rw [hc14]; decide) (by rw [hc14]; decide) (off := 52) (by rw [hc14]; rfl) (tgt := 53) (by decide) ?_
          refine k_aloadn (pc := 53) C dX12_factOf_53 (i := 0) rfl 0 rfl ?_
          refine k_iloadn (pc := 54) C dX12_factOf_54 (i := 2) rfl 2 rfl ?_
          refine k_iconst (pc := 55) C (v := (3 : Int32)) dX12_factOf_55 (by decide) ?_
          obtain ⟨hs90, h⟩ := gp_e h
          have hs9 := sok_e hs90
          obtain ⟨r10, hr10, h⟩ := bd_e h
          refine k_V (pc := 56) (st := []) C (c_X12_goodIs hr10) lkV_RX12_209 hs9 rfl rfl rfl (Nat.le_of_ble_eq_true rfl) (Nat.le_of_ble_eq_true rfl) (Nat.le_of_ble_eq_true rfl) (Nat.le_of_ble_eq_true rfl) (Nat.le_of_ble_eq_true rfl) dX12_factOf_56 ?_
          refine k_nf (cells2 := 0) (slots2 := 0) (st2 := [.int r10]) rfl rfl rfl ?_
          have h := Option.some.inj h
          subst h
          exact k_iret (pc := 59) C hr hk dX12_factOf_59
        · rw [if_neg hc14] at h
          refine k_tabOut (pc := 1) C dX12_factOf_1 (tab_out x1 0 3 (fun z h1 h2 hz => by
            have hz2 : z = 0 ∨ z = 1 ∨ z = 2 ∨ z = 3 := by omega
            rcases hz2 with rfl | rfl | rfl | rfl
            · exact hc11 (Int32.toInt_inj.mp (hz.trans (by decide)))
            · exact hc12 (Int32.toInt_inj.mp (hz.trans (by decide)))
            · exact hc13 (Int32.toInt_inj.mp (hz.trans (by decide)))
            · exact hc14 (Int32.toInt_inj.mp (hz.trans (by decide)))
            ) ) (tgt := 60) (by decide) ?_
          refine k_iloadn (pc := 60) C dX12_factOf_60 (i := 2) rfl 2 rfl ?_
          have h := Option.some.inj h
          subst h
          exact k_iret (pc := 61) C hr hk dX12_factOf_61
theorem c_X12_factOf {E : Ev} {l : Launch} {S : Sh} {R : Rw} {I : Iw} {a0 : Nat} {x1 : Int32} {x2 : Int32} {r : Int32} (h : f_X12_factOf S R I a0 x1 x2 = some r) : Mt E l yX12_factOf cX12_factOf 3 (some .int) 2 43 [.ref (E.1 + a0), .int x1, .int x2] S R I S R I (some (.int r)) 0 0 := mt_of (by decide) (Nat.le_of_ble_eq_true rfl) (fun p e s m args below meth c C hr hk hn => b_X12_factOf C hr hk _ _ _ h)
theorem dX12_did_0 : decode cX12_did 0 = .ok (.iload_n 0, 1) := by decide +kernel
theorem dX12_did_1 : decode cX12_did 1 = .ok (.tableswitch 78 20000 20003 #[31, 43, 56, 67], 31) := by decide +kernel
theorem dX12_did_32 : decode cX12_did 32 = .ok (.iload_n 1, 1) := by decide +kernel
theorem dX12_did_33 : decode cX12_did 33 = .ok (.iload_n 2, 1) := by decide +kernel
theorem dX12_did_34 : decode cX12_did 34 = .ok (.iadd, 1) := by decide +kernel
theorem dX12_did_35 : decode cX12_did 35 = .ok (.ifCond .le 7, 3) := by decide +kernel
theorem dX12_did_38 : decode cX12_did 38 = .ok (.iconst 1, 1) := by decide +kernel
theorem dX12_did_39 : decode cX12_did 39 = .ok (.goto 4, 3) := by decide +kernel
theorem dX12_did_42 : decode cX12_did 42 = .ok (.iconst 0, 1) := by decide +kernel
theorem dX12_did_43 : decode cX12_did 43 = .ok (.ireturn, 1) := by decide +kernel
theorem dX12_did_44 : decode cX12_did 44 = .ok (.iload_n 1, 1) := by decide +kernel
theorem dX12_did_45 : decode cX12_did 45 = .ok (.iload_n 2, 1) := by decide +kernel
theorem dX12_did_46 : decode cX12_did 46 = .ok (.iadd, 1) := by decide +kernel
theorem dX12_did_47 : decode cX12_did 47 = .ok (.iconst 2, 1) := by decide +kernel
theorem dX12_did_48 : decode cX12_did 48 = .ok (.if_icmp .ne 7, 3) := by decide +kernel
theorem dX12_did_51 : decode cX12_did 51 = .ok (.iconst 1, 1) := by decide +kernel
theorem dX12_did_52 : decode cX12_did 52 = .ok (.goto 4, 3) := by decide +kernel
theorem dX12_did_55 : decode cX12_did 55 = .ok (.iconst 0, 1) := by decide +kernel
theorem dX12_did_56 : decode cX12_did 56 = .ok (.ireturn, 1) := by decide +kernel
theorem dX12_did_57 : decode cX12_did 57 = .ok (.iload_n 1, 1) := by decide +kernel
theorem dX12_did_58 : decode cX12_did 58 = .ok (.iload_n 2, 1) := by decide +kernel
theorem dX12_did_59 : decode cX12_did 59 = .ok (.if_icmp .ge 7, 3) := by decide +kernel
theorem dX12_did_62 : decode cX12_did 62 = .ok (.iconst 1, 1) := by decide +kernel
theorem dX12_did_63 : decode cX12_did 63 = .ok (.goto 4, 3) := by decide +kernel
theorem dX12_did_66 : decode cX12_did 66 = .ok (.iconst 0, 1) := by decide +kernel
theorem dX12_did_67 : decode cX12_did 67 = .ok (.ireturn, 1) := by decide +kernel
theorem dX12_did_68 : decode cX12_did 68 = .ok (.iload_n 1, 1) := by decide +kernel
theorem dX12_did_69 : decode cX12_did 69 = .ok (.iload_n 2, 1) := by decide +kernel
theorem dX12_did_70 : decode cX12_did 70 = .ok (.if_icmp .ne 7, 3) := by decide +kernel
theorem dX12_did_73 : decode cX12_did 73 = .ok (.iconst 1, 1) := by decide +kernel
theorem dX12_did_74 : decode cX12_did 74 = .ok (.goto 4, 3) := by decide +kernel
theorem dX12_did_77 : decode cX12_did 77 = .ok (.iconst 0, 1) := by decide +kernel
theorem dX12_did_78 : decode cX12_did 78 = .ok (.ireturn, 1) := by decide +kernel
theorem dX12_did_79 : decode cX12_did 79 = .ok (.iload_n 1, 1) := by decide +kernel
theorem dX12_did_80 : decode cX12_did 80 = .ok (.iload_n 2, 1) := by decide +kernel
theorem dX12_did_81 : decode cX12_did 81 = .ok (.if_icmp .le 7, 3) := by decide +kernel
theorem dX12_did_84 : decode cX12_did 84 = .ok (.iconst 1, 1) := by decide +kernel
theorem dX12_did_85 : decode cX12_did 85 = .ok (.goto 4, 3) := by decide +kernel
theorem dX12_did_88 : decode cX12_did 88 = .ok (.iconst 0, 1) := by decide +kernel
theorem dX12_did_89 : decode cX12_did 89 = .ok (.ireturn, 1) := by decide +kernel
def f_X12_did (S : Sh) (R : Rw) (I : Iw)  (x0 : Int32) (x1 : Int32) (x2 : Int32) : Option (Int32) := (if x0 = (20000 : Int32) then (if (x1 + x2) ≤ 0 then some (0 : Int32) else some (1 : Int32)) else (if x0 = (20001 : Int32) then (if (x1 + x2) = (2 : Int32) then some (1 : Int32) else some (0 : Int32)) else (if x0 = (20002 : Int32) then (if x2 ≤ x1 then some (0 : Int32) else some (1 : Int32)) else (if x0 = (20003 : Int32) then (if x1 = x2 then some (1 : Int32) else some (0 : Int32)) else (if x1 ≤ x2 then some (0 : Int32) else some (1 : Int32))))))
set_option maxHeartbeats 4000000 in
theorem b_X12_did {E : Ev} {p : Program} {l : Launch} {e : Env} {s : State} {m : MethodId} {args : Array Value} {below : List Frame} {meth : Method} {c : Code} (C : Cx E RX12 cX12_did 3 p s m c) (hr : meth.sig.returnType = (some .boolean)) (hk : meth.locks = false) {S : Sh} {R : Rw} {I : Iw} {r : Int32}  : ∀ (x0 : Int32) (x1 : Int32) (x2 : Int32), f_X12_did S R I   x0 x1 x2 = some r → Wk E 3 p l e ({ frames := 0, cells := 0, slots := 0, locals := 0 } : Room) s m args below meth c 0 0 (MQ below (Qw E S R I (some (.int r))) args s 0 0 (fun q => E.1 ≤ q)) 0 [(0, .int x0), (1, .int x1), (2, .int x2)] [] S R I := by
  intro x0 x1 x2 h
  rw [f_X12_did] at h
  refine k_iloadn (pc := 0) C dX12_did_0 (i := 0) rfl 0 rfl ?_
  by_cases hc6 : x0 = (20000 : Int32)
  · rw [if_pos hc6] at h
    refine k_tabIn (pc := 1) C dX12_did_1 (by rw [hc6]; decide) (by rw [hc6]; decide) (off := 31) (by rw [hc6]; rfl) (tgt := 32) (by decide) ?_
    refine k_iloadn (pc := 32) C dX12_did_32 (i := 1) rfl 1 rfl ?_
    refine k_iloadn (pc := 33) C dX12_did_33 (i := 2) rfl 2 rfl ?_
    refine k_iadd (pc := 34) C dX12_did_34 ?_
    refine k_if_le (pc := 35) C dX12_did_35 (tgt := 42) (by decide) (fun hc1 => ?_) (fun hc1 => ?_)
    · rw [if_pos hc1] at h
      refine k_iconst (pc := 42) C (v := (0 : Int32)) dX12_did_42 (by decide) ?_
      have h := Option.some.inj h
      subst h
      exact k_zret (pc := 43) C hr hk (Or.inl rfl) dX12_did_43
    · rw [if_neg hc1] at h
      refine k_iconst (pc := 38) C (v := (1 : Int32)) dX12_did_38 (by decide) ?_
      refine k_goto (pc := 39) C dX12_did_39 (tgt := 43) (by decide) ?_
      have h := Option.some.inj h
      subst h
      exact k_zret (pc := 43) C hr hk (Or.inr rfl) dX12_did_43
  · rw [if_neg hc6] at h
    by_cases hc7 : x0 = (20001 : Int32)
    · rw [if_pos hc7] at h
      refine k_tabIn (pc := 1) C dX12_did_1 (by rw [hc7]; decide) (by rw [hc7]; decide) (off := 43) (by rw [hc7]; rfl) (tgt := 44) (by decide) ?_
      refine k_iloadn (pc := 44) C dX12_did_44 (i := 1) rfl 1 rfl ?_
      refine k_iloadn (pc := 45) C dX12_did_45 (i := 2) rfl 2 rfl ?_
      refine k_iadd (pc := 46) C dX12_did_46 ?_
      refine k_iconst (pc := 47) C (v := (2 : Int32)) dX12_did_47 (by decide) ?_
      refine k_icmp_ne (pc := 48) C dX12_did_48 (tgt := 55) (by decide) (fun hc2 => ?_) (fun hc2 => ?_)
      · rw [if_neg hc2] at h
        refine k_iconst (pc := 55) C (v := (0 : Int32)) dX12_did_55 (by decide) ?_
        have h := Option.some.inj h
        subst h
        exact k_zret (pc := 56) C hr hk (Or.inl rfl) dX12_did_56
      · rw [if_pos hc2] at h
        refine k_iconst (pc := 51) C (v := (1 : Int32)) dX12_did_51 (by decide) ?_
        refine k_goto (pc := 52) C dX12_did_52 (tgt := 56) (by decide) ?_
        have h := Option.some.inj h
        subst h
        exact k_zret (pc := 56) C hr hk (Or.inr rfl) dX12_did_56
    · rw [if_neg hc7] at h
      by_cases hc8 : x0 = (20002 : Int32)
      · rw [if_pos hc8] at h
        refine k_tabIn (pc := 1) C dX12_did_1 (by rw [hc8]; decide) (by rw [hc8]; decide) (off := 56) (by rw [hc8]; rfl) (tgt := 57) (by decide) ?_
        refine k_iloadn (pc := 57) C dX12_did_57 (i := 1) rfl 1 rfl ?_
        refine k_iloadn (pc := 58) C dX12_did_58 (i := 2) rfl 2 rfl ?_
        refine k_icmp_ge (pc := 59) C dX12_did_59 (tgt := 66) (by decide) (fun hc3 => ?_) (fun hc3 => ?_)
        · rw [if_pos hc3] at h
          refine k_iconst (pc := 66) C (v := (0 : Int32)) dX12_did_66 (by decide) ?_
          have h := Option.some.inj h
          subst h
          exact k_zret (pc := 67) C hr hk (Or.inl rfl) dX12_did_67
        · rw [if_neg hc3] at h
          refine k_iconst (pc := 62) C (v := (1 : Int32)) dX12_did_62 (by decide) ?_
          refine k_goto (pc := 63) C dX12_did_63 (tgt := 67) (by decide) ?_
          have h := Option.some.inj h
          subst h
          exact k_zret (pc := 67) C hr hk (Or.inr rfl) dX12_did_67
      · rw [if_neg hc8] at h
        by_cases hc9 : x0 = (20003 : Int32)
        · rw [if_pos hc9] at h
          refine k_tabIn (pc := 1) C dX12_did_1 (by rw [hc9]; decide) (by rw [hc9]; decide) (off := 67) (by rw [hc9]; rfl) (tgt := 68) (by decide) ?_
          refine k_iloadn (pc := 68) C dX12_did_68 (i := 1) rfl 1 rfl ?_
          refine k_iloadn (pc := 69) C dX12_did_69 (i := 2) rfl 2 rfl ?_
          refine k_icmp_ne (pc := 70) C dX12_did_70 (tgt := 77) (by decide) (fun hc4 => ?_) (fun hc4 => ?_)
          · rw [if_neg hc4] at h
            refine k_iconst (pc := 77) C (v := (0 : Int32)) dX12_did_77 (by decide) ?_
            have h := Option.some.inj h
            subst h
            exact k_zret (pc := 78) C hr hk (Or.inl rfl) dX12_did_78
          · rw [if_pos hc4] at h
            refine k_iconst (pc := 73) C (v := (1 : Int32)) dX12_did_73 (by decide) ?_
            refine k_goto (pc := 74) C dX12_did_74 (tgt := 78) (by decide) ?_
            have h := Option.some.inj h
            subst h
            exact k_zret (pc := 78) C hr hk (Or.inr rfl) dX12_did_78
        · rw [if_neg hc9] at h
          refine k_tabOut (pc := 1) C dX12_did_1 (tab_out x0 20000 20003 (fun z h1 h2 hz => by
            have hz2 : z = 20000 ∨ z = 20001 ∨ z = 20002 ∨ z = 20003 := by omega
            rcases hz2 with rfl | rfl | rfl | rfl
            · exact hc6 (Int32.toInt_inj.mp (hz.trans (by decide)))
            · exact hc7 (Int32.toInt_inj.mp (hz.trans (by decide)))
            · exact hc8 (Int32.toInt_inj.mp (hz.trans (by decide)))
            · exact hc9 (Int32.toInt_inj.mp (hz.trans (by decide)))
            ) ) (tgt := 79) (by decide) ?_
          refine k_iloadn (pc := 79) C dX12_did_79 (i := 1) rfl 1 rfl ?_
          refine k_iloadn (pc := 80) C dX12_did_80 (i := 2) rfl 2 rfl ?_
          refine k_icmp_le (pc := 81) C dX12_did_81 (tgt := 88) (by decide) (fun hc5 => ?_) (fun hc5 => ?_)
          · rw [if_pos hc5] at h
            refine k_iconst (pc := 88) C (v := (0 : Int32)) dX12_did_88 (by decide) ?_
            have h := Option.some.inj h
            subst h
            exact k_zret (pc := 89) C hr hk (Or.inl rfl) dX12_did_89
          · rw [if_neg hc5] at h
            refine k_iconst (pc := 84) C (v := (1 : Int32)) dX12_did_84 (by decide) ?_
            refine k_goto (pc := 85) C dX12_did_85 (tgt := 89) (by decide) ?_
            have h := Option.some.inj h
            subst h
            exact k_zret (pc := 89) C hr hk (Or.inr rfl) dX12_did_89
theorem c_X12_did {E : Ev} {l : Launch} {S : Sh} {R : Rw} {I : Iw} {x0 : Int32} {x1 : Int32} {x2 : Int32} {r : Int32} (h : f_X12_did S R I x0 x1 x2 = some r) : Mt E l yX12_did cX12_did 3 (some .boolean) 0 0 [.int x0, .int x1, .int x2] S R I S R I (some (.int r)) 0 0 := mt_of (by decide) (Nat.le_of_ble_eq_true rfl) (fun p e s m args below meth c C hr hk hn => b_X12_did C hr hk _ _ _ h)
theorem lkF_RX12_68_12 : LkF RX12 68 12 19 := ⟨RX12, TX12, 34, "UnlikeNeighboursModel", fc12, by decide, (t5_in 100 (by decide +kernel) rfl), Or.inl rfl⟩
theorem lkS_RX12_215 : LkS RX12 215 yX12_did cX12_did 3 (some .boolean) 3 := ⟨(t6_in 62 (by decide +kernel) rfl), (t6_in 63 (by decide +kernel) rfl), (t6_in 64 (by decide +kernel) rfl), (t1_in 7 (by decide +kernel) rfl), by decide, by decide +kernel⟩
theorem lkV_RX12_212 : LkV RX12 212 RX12 yX12_factOf cX12_factOf 3 (some .int) 2 := ⟨(t6_in 58 (by decide +kernel) rfl), (t6_in 60 (by decide +kernel) rfl), (t0_in 45 (by decide +kernel) rfl), (t6_in 61 (by decide +kernel) rfl), (t1_in 7 (by decide +kernel) rfl), by decide, by decide +kernel⟩
theorem dX12_holds_0 : decode cX12_holds 0 = .ok (.iconst 0, 1) := by decide +kernel
theorem dX12_holds_1 : decode cX12_holds 1 = .ok (.istore 4, 2) := by decide +kernel
theorem dX12_holds_3 : decode cX12_holds 3 = .ok (.aload_n 0, 1) := by decide +kernel
theorem dX12_holds_4 : decode cX12_holds 4 = .ok (.getfield 68, 3) := by decide +kernel
theorem dX12_holds_7 : decode cX12_holds 7 = .ok (.iconst 0, 1) := by decide +kernel
theorem dX12_holds_8 : decode cX12_holds 8 = .ok (.iconst 1, 1) := by decide +kernel
theorem dX12_holds_9 : decode cX12_holds 9 = .ok (.iastore, 1) := by decide +kernel
theorem dX12_holds_10 : decode cX12_holds 10 = .ok (.iload_n 1, 1) := by decide +kernel
theorem dX12_holds_11 : decode cX12_holds 11 = .ok (.istore 5, 2) := by decide +kernel
theorem dX12_holds_13 : decode cX12_holds 13 = .ok (.iload 5, 2) := by decide +kernel
theorem dX12_holds_15 : decode cX12_holds 15 = .ok (.iload_n 2, 1) := by decide +kernel
theorem dX12_holds_16 : decode cX12_holds 16 = .ok (.if_icmp .ge 138, 3) := by decide +kernel
theorem dX12_holds_19 : decode cX12_holds 19 = .ok (.aload_n 0, 1) := by decide +kernel
theorem dX12_holds_20 : decode cX12_holds 20 = .ok (.getfield 9, 3) := by decide +kernel
theorem dX12_holds_23 : decode cX12_holds 23 = .ok (.bipush 106, 2) := by decide +kernel
theorem dX12_holds_25 : decode cX12_holds 25 = .ok (.iload 5, 2) := by decide +kernel
theorem dX12_holds_27 : decode cX12_holds 27 = .ok (.iadd, 1) := by decide +kernel
theorem dX12_holds_28 : decode cX12_holds 28 = .ok (.iaload, 1) := by decide +kernel
theorem dX12_holds_29 : decode cX12_holds 29 = .ok (.istore 6, 2) := by decide +kernel
theorem dX12_holds_31 : decode cX12_holds 31 = .ok (.iload 6, 2) := by decide +kernel
theorem dX12_holds_33 : decode cX12_holds 33 = .ok (.sipush 20000, 3) := by decide +kernel
theorem dX12_holds_36 : decode cX12_holds 36 = .ok (.if_icmp .ge 40, 3) := by decide +kernel
theorem dX12_holds_39 : decode cX12_holds 39 = .ok (.aload_n 0, 1) := by decide +kernel
theorem dX12_holds_40 : decode cX12_holds 40 = .ok (.getfield 68, 3) := by decide +kernel
theorem dX12_holds_43 : decode cX12_holds 43 = .ok (.iload 4, 2) := by decide +kernel
theorem dX12_holds_45 : decode cX12_holds 45 = .ok (.iload 6, 2) := by decide +kernel
theorem dX12_holds_47 : decode cX12_holds 47 = .ok (.sipush 10000, 3) := by decide +kernel
theorem dX12_holds_50 : decode cX12_holds 50 = .ok (.if_icmp .ge 8, 3) := by decide +kernel
theorem dX12_holds_53 : decode cX12_holds 53 = .ok (.iload 6, 2) := by decide +kernel
theorem dX12_holds_55 : decode cX12_holds 55 = .ok (.goto 14, 3) := by decide +kernel
theorem dX12_holds_58 : decode cX12_holds 58 = .ok (.aload_n 0, 1) := by decide +kernel
theorem dX12_holds_59 : decode cX12_holds 59 = .ok (.iload 6, 2) := by decide +kernel
theorem dX12_holds_61 : decode cX12_holds 61 = .ok (.sipush 10000, 3) := by decide +kernel
theorem dX12_holds_64 : decode cX12_holds 64 = .ok (.isub, 1) := by decide +kernel
theorem dX12_holds_65 : decode cX12_holds 65 = .ok (.iload_n 3, 1) := by decide +kernel
theorem dX12_holds_66 : decode cX12_holds 66 = .ok (.invokevirtual 212, 3) := by decide +kernel
theorem dX12_holds_69 : decode cX12_holds 69 = .ok (.iastore, 1) := by decide +kernel
theorem dX12_holds_70 : decode cX12_holds 70 = .ok (.iinc 4 1, 3) := by decide +kernel
theorem dX12_holds_73 : decode cX12_holds 73 = .ok (.goto 75, 3) := by decide +kernel
theorem dX12_holds_76 : decode cX12_holds 76 = .ok (.iload 6, 2) := by decide +kernel
theorem dX12_holds_78 : decode cX12_holds 78 = .ok (.sipush 20005, 3) := by decide +kernel
theorem dX12_holds_81 : decode cX12_holds 81 = .ok (.if_icmp .ne 26, 3) := by decide +kernel
theorem dX12_holds_84 : decode cX12_holds 84 = .ok (.aload_n 0, 1) := by decide +kernel
theorem dX12_holds_85 : decode cX12_holds 85 = .ok (.getfield 68, 3) := by decide +kernel
theorem dX12_holds_88 : decode cX12_holds 88 = .ok (.iload 4, 2) := by decide +kernel
theorem dX12_holds_90 : decode cX12_holds 90 = .ok (.iconst 1, 1) := by decide +kernel
theorem dX12_holds_91 : decode cX12_holds 91 = .ok (.isub, 1) := by decide +kernel
theorem dX12_holds_92 : decode cX12_holds 92 = .ok (.iconst 1, 1) := by decide +kernel
theorem dX12_holds_93 : decode cX12_holds 93 = .ok (.aload_n 0, 1) := by decide +kernel
theorem dX12_holds_94 : decode cX12_holds 94 = .ok (.getfield 68, 3) := by decide +kernel
theorem dX12_holds_97 : decode cX12_holds 97 = .ok (.iload 4, 2) := by decide +kernel
theorem dX12_holds_99 : decode cX12_holds 99 = .ok (.iconst 1, 1) := by decide +kernel
theorem dX12_holds_100 : decode cX12_holds 100 = .ok (.isub, 1) := by decide +kernel
theorem dX12_holds_101 : decode cX12_holds 101 = .ok (.iaload, 1) := by decide +kernel
theorem dX12_holds_102 : decode cX12_holds 102 = .ok (.isub, 1) := by decide +kernel
theorem dX12_holds_103 : decode cX12_holds 103 = .ok (.iastore, 1) := by decide +kernel
theorem dX12_holds_104 : decode cX12_holds 104 = .ok (.goto 44, 3) := by decide +kernel
theorem dX12_holds_107 : decode cX12_holds 107 = .ok (.iinc 4 (-1), 3) := by decide +kernel
theorem dX12_holds_110 : decode cX12_holds 110 = .ok (.aload_n 0, 1) := by decide +kernel
theorem dX12_holds_111 : decode cX12_holds 111 = .ok (.getfield 68, 3) := by decide +kernel
theorem dX12_holds_114 : decode cX12_holds 114 = .ok (.iload 4, 2) := by decide +kernel
theorem dX12_holds_116 : decode cX12_holds 116 = .ok (.iconst 1, 1) := by decide +kernel
theorem dX12_holds_117 : decode cX12_holds 117 = .ok (.isub, 1) := by decide +kernel
theorem dX12_holds_118 : decode cX12_holds 118 = .ok (.iload 6, 2) := by decide +kernel
theorem dX12_holds_120 : decode cX12_holds 120 = .ok (.aload_n 0, 1) := by decide +kernel
theorem dX12_holds_121 : decode cX12_holds 121 = .ok (.getfield 68, 3) := by decide +kernel
theorem dX12_holds_124 : decode cX12_holds 124 = .ok (.iload 4, 2) := by decide +kernel
theorem dX12_holds_126 : decode cX12_holds 126 = .ok (.iconst 1, 1) := by decide +kernel
theorem dX12_holds_127 : decode cX12_holds 127 = .ok (.isub, 1) := by decide +kernel
theorem dX12_holds_128 : decode cX12_holds 128 = .ok (.iaload, 1) := by decide +kernel
theorem dX12_holds_129 : decode cX12_holds 129 = .ok (.aload_n 0, 1) := by decide +kernel
theorem dX12_holds_130 : decode cX12_holds 130 = .ok (.getfield 68, 3) := by decide +kernel
theorem dX12_holds_133 : decode cX12_holds 133 = .ok (.iload 4, 2) := by decide +kernel
theorem dX12_holds_135 : decode cX12_holds 135 = .ok (.iaload, 1) := by decide +kernel
theorem dX12_holds_136 : decode cX12_holds 136 = .ok (.invokestatic 215, 3) := by decide +kernel
theorem dX12_holds_139 : decode cX12_holds 139 = .ok (.ifCond .eq 7, 3) := by decide +kernel
theorem dX12_holds_142 : decode cX12_holds 142 = .ok (.iconst 1, 1) := by decide +kernel
theorem dX12_holds_143 : decode cX12_holds 143 = .ok (.goto 4, 3) := by decide +kernel
theorem dX12_holds_146 : decode cX12_holds 146 = .ok (.iconst 0, 1) := by decide +kernel
theorem dX12_holds_147 : decode cX12_holds 147 = .ok (.iastore, 1) := by decide +kernel
theorem dX12_holds_148 : decode cX12_holds 148 = .ok (.iinc 5 1, 3) := by decide +kernel
theorem dX12_holds_151 : decode cX12_holds 151 = .ok (.goto (-138), 3) := by decide +kernel
theorem dX12_holds_154 : decode cX12_holds 154 = .ok (.aload_n 0, 1) := by decide +kernel
theorem dX12_holds_155 : decode cX12_holds 155 = .ok (.getfield 68, 3) := by decide +kernel
theorem dX12_holds_158 : decode cX12_holds 158 = .ok (.iconst 0, 1) := by decide +kernel
theorem dX12_holds_159 : decode cX12_holds 159 = .ok (.iaload, 1) := by decide +kernel
theorem dX12_holds_160 : decode cX12_holds 160 = .ok (.iconst 1, 1) := by decide +kernel
theorem dX12_holds_161 : decode cX12_holds 161 = .ok (.if_icmp .ne 7, 3) := by decide +kernel
theorem dX12_holds_164 : decode cX12_holds 164 = .ok (.iconst 1, 1) := by decide +kernel
theorem dX12_holds_165 : decode cX12_holds 165 = .ok (.goto 4, 3) := by decide +kernel
theorem dX12_holds_168 : decode cX12_holds 168 = .ok (.iconst 0, 1) := by decide +kernel
theorem dX12_holds_169 : decode cX12_holds 169 = .ok (.ireturn, 1) := by decide +kernel
def f_X12_holds_148 (S : Sh) (R : Rw) (ko13 : Iw → Nat → Int32 → Int32 → Int32 → Int32 → Option (Iw × Int32)) (I : Iw) (a0 : Nat) (x2 : Int32) (x3 : Int32) (x4 : Int32) (x5 : Int32) : Option (Iw × Int32) := ko13 I a0 x2 x3 x4 (x5 + (1 : Int32))
set_option maxHeartbeats 4000000 in
theorem b_X12_holds_148 {E : Ev} {p : Program} {l : Launch} {e : Env} {s : State} {m : MethodId} {args : Array Value} {below : List Frame} {meth : Method} {c : Code} (C : Cx E RX12 cX12_holds 7 p s m c) (hr : meth.sig.returnType = (some .boolean)) (hk : meth.locks = false) {S : Sh} {R : Rw} {r : Iw × Int32}  {ko13 : Iw → Nat → Int32 → Int32 → Int32 → Int32 → Option (Iw × Int32)} (hko13 : ∀ (I : Iw) (a0 : Nat) (x2 : Int32) (x3 : Int32) (x4 : Int32) (x5 : Int32), ko13 I a0 x2 x3 x4 x5 = some r → Wk E 7 p l e ({ frames := 3, cells := 0, slots := 0, locals := 65 } : Room) s m args below meth c 0 0 (MQ below (Qw E S R r.1 (some (.int r.2))) args s 0 0 (fun q => E.1 ≤ q)) 13 [(0, .ref (E.1 + a0)), (2, .int x2), (3, .int x3), (4, .int x4), (5, .int x5)] [] S R I) : ∀ (I : Iw) (a0 : Nat) (x2 : Int32) (x3 : Int32) (x4 : Int32) (x5 : Int32), f_X12_holds_148 S R ko13  I a0 x2 x3 x4 x5 = some r → Wk E 7 p l e ({ frames := 3, cells := 0, slots := 0, locals := 65 } : Room) s m args below meth c 0 0 (MQ below (Qw E S R r.1 (some (.int r.2))) args s 0 0 (fun q => E.1 ≤ q)) 148 [(0, .ref (E.1 + a0)), (2, .int x2), (3, .int x3), (4, .int x4), (5, .int x5)] [] S R I := by
  intro I a0 x2 x3 x4 x5 h
  rw [f_X12_holds_148] at h
  refine k_iinc (pc := 148) C dX12_holds_148 4 rfl (v := x5 + (1 : Int32)) (by rfl) (by decide) (L2 := [(0, .ref (E.1 + a0)), (2, .int x2), (3, .int x3), (4, .int x4), (5, .int (x5 + (1 : Int32)))]) rfl ?_
  refine k_goto (pc := 151) C dX12_holds_151 (tgt := 13) (by decide) ?_
  exact hko13 _ _ _ _ _ _ h
def f_X12_holds_147 (S : Sh) (R : Rw) (ko13 : Iw → Nat → Int32 → Int32 → Int32 → Int32 → Option (Iw × Int32)) (I : Iw) (a0 : Nat) (x2 : Int32) (x3 : Int32) (x4 : Int32) (x5 : Int32) (s0 : Int32) (s1 : Int32) (q2 : Nat) : Option (Iw × Int32) := gp (aok S 20 q2 s1) (lt (up2 I q2 s1.toNatClampNeg s0) (fun I23 => f_X12_holds_148 S R ko13 I23 a0 x2 x3 x4 x5))
set_option maxHeartbeats 4000000 in
theorem b_X12_holds_147 {E : Ev} {p : Program} {l : Launch} {e : Env} {s : State} {m : MethodId} {args : Array Value} {below : List Frame} {meth : Method} {c : Code} (C : Cx E RX12 cX12_holds 7 p s m c) (hr : meth.sig.returnType = (some .boolean)) (hk : meth.locks = false) {S : Sh} {R : Rw} {r : Iw × Int32}  {ko13 : Iw → Nat → Int32 → Int32 → Int32 → Int32 → Option (Iw × Int32)} (hko13 : ∀ (I : Iw) (a0 : Nat) (x2 : Int32) (x3 : Int32) (x4 : Int32) (x5 : Int32), ko13 I a0 x2 x3 x4 x5 = some r → Wk E 7 p l e ({ frames := 3, cells := 0, slots := 0, locals := 65 } : Room) s m args below meth c 0 0 (MQ below (Qw E S R r.1 (some (.int r.2))) args s 0 0 (fun q => E.1 ≤ q)) 13 [(0, .ref (E.1 + a0)), (2, .int x2), (3, .int x3), (4, .int x4), (5, .int x5)] [] S R I) : ∀ (I : Iw) (a0 : Nat) (x2 : Int32) (x3 : Int32) (x4 : Int32) (x5 : Int32) (s0 : Int32) (s1 : Int32) (q2 : Nat), f_X12_holds_147 S R ko13  I a0 x2 x3 x4 x5 s0 s1 q2 = some r → Wk E 7 p l e ({ frames := 3, cells := 0, slots := 0, locals := 65 } : Room) s m args below meth c 0 0 (MQ below (Qw E S R r.1 (some (.int r.2))) args s 0 0 (fun q => E.1 ≤ q)) 147 [(0, .ref (E.1 + a0)), (2, .int x2), (3, .int x3), (4, .int x4), (5, .int x5)] [.int s0, .int s1, .ref (E.1 + q2)] S R I := by
  intro I a0 x2 x3 x4 x5 s0 s1 q2 h
  rw [f_X12_holds_147] at h
  obtain ⟨ha22, h⟩ := gp_e h
  obtain ⟨I23, eI23, h⟩ := lt_e h
  refine k_iast (pc := 147) C ha22 dX12_holds_147 ?_
  rw [← eI23]
  exact b_X12_holds_148 C hr hk hko13 _ _ _ _ _ _ h
def f_X12_holds_69 (S : Sh) (R : Rw) (ko13 : Iw → Nat → Int32 → Int32 → Int32 → Int32 → Option (Iw × Int32)) (I : Iw) (a0 : Nat) (x2 : Int32) (x3 : Int32) (x4 : Int32) (x5 : Int32) (s0 : Int32) (s1 : Int32) (q2 : Nat) : Option (Iw × Int32) := gp (aok S 20 q2 s1) (lt (up2 I q2 s1.toNatClampNeg s0) (fun I33 => f_X12_holds_148 S R ko13 I33 a0 x2 x3 (x4 + (1 : Int32)) x5))
set_option maxHeartbeats 4000000 in
theorem b_X12_holds_69 {E : Ev} {p : Program} {l : Launch} {e : Env} {s : State} {m : MethodId} {args : Array Value} {below : List Frame} {meth : Method} {c : Code} (C : Cx E RX12 cX12_holds 7 p s m c) (hr : meth.sig.returnType = (some .boolean)) (hk : meth.locks = false) {S : Sh} {R : Rw} {r : Iw × Int32}  {ko13 : Iw → Nat → Int32 → Int32 → Int32 → Int32 → Option (Iw × Int32)} (hko13 : ∀ (I : Iw) (a0 : Nat) (x2 : Int32) (x3 : Int32) (x4 : Int32) (x5 : Int32), ko13 I a0 x2 x3 x4 x5 = some r → Wk E 7 p l e ({ frames := 3, cells := 0, slots := 0, locals := 65 } : Room) s m args below meth c 0 0 (MQ below (Qw E S R r.1 (some (.int r.2))) args s 0 0 (fun q => E.1 ≤ q)) 13 [(0, .ref (E.1 + a0)), (2, .int x2), (3, .int x3), (4, .int x4), (5, .int x5)] [] S R I) : ∀ (I : Iw) (a0 : Nat) (x2 : Int32) (x3 : Int32) (x4 : Int32) (x5 : Int32) (s0 : Int32) (s1 : Int32) (q2 : Nat), f_X12_holds_69 S R ko13  I a0 x2 x3 x4 x5 s0 s1 q2 = some r → Wk E 7 p l e ({ frames := 3, cells := 0, slots := 0, locals := 65 } : Room) s m args below meth c 0 0 (MQ below (Qw E S R r.1 (some (.int r.2))) args s 0 0 (fun q => E.1 ≤ q)) 69 [(0, .ref (E.1 + a0)), (2, .int x2), (3, .int x3), (4, .int x4), (5, .int x5)] [.int s0, .int s1, .ref (E.1 + q2)] S R I := by
  intro I a0 x2 x3 x4 x5 s0 s1 q2 h
  rw [f_X12_holds_69] at h
  obtain ⟨ha32, h⟩ := gp_e h
  obtain ⟨I33, eI33, h⟩ := lt_e h
  refine k_iast (pc := 69) C ha32 dX12_holds_69 ?_
  rw [← eI33]
  refine k_iinc (pc := 70) C dX12_holds_70 3 rfl (v := x4 + (1 : Int32)) (by rfl) (by decide) (L2 := [(0, .ref (E.1 + a0)), (2, .int x2), (3, .int x3), (4, .int (x4 + (1 : Int32))), (5, .int x5)]) rfl ?_
  refine k_goto (pc := 73) C dX12_holds_73 (tgt := 148) (by decide) ?_
  exact b_X12_holds_148 C hr hk hko13 _ _ _ _ _ _ h
def f_X12_holds_13 (S : Sh) (R : Rw)  : Nat → Iw → Nat → Int32 → Int32 → Int32 → Int32 → Option (Iw × Int32)
  | 0, _, _, _, _, _, _ => none
  | n + 1, I, a0, x2, x3, x4, x5 => (if x2 ≤ x5 then gp (sok S a0 12 34) (rl (R a0 19) (fun b7 => gp (aok S 20 b7 (0 : Int32)) ((if (I b7 (0 : Int32).toNatClampNeg) = (1 : Int32) then some (I, (1 : Int32)) else some (I, (0 : Int32)))))) else gp (sok S a0 12 34) (rl (R a0 0) (fun b11 => gp (aok S 20 b11 ((106 : Int32) + x5)) ((if (20000 : Int32) ≤ (I b11 ((106 : Int32) + x5).toNatClampNeg) then (if (I b11 ((106 : Int32) + x5).toNatClampNeg) = (20005 : Int32) then rl (R a0 19) (fun b24 => rl (R a0 19) (fun b25 => gp (aok S 20 b25 (x4 - (1 : Int32))) (gp (aok S 20 b24 (x4 - (1 : Int32))) (lt (up2 I b24 (x4 - (1 : Int32)).toNatClampNeg ((1 : Int32) - (I b25 (x4 - (1 : Int32)).toNatClampNeg))) (fun I28 => f_X12_holds_148 S R (f_X12_holds_13 S R  n) I28 a0 x2 x3 x4 x5))))) else rl (R a0 19) (fun b15 => rl (R a0 19) (fun b16 => gp (aok S 20 b16 ((x4 + (-1 : Int32)) - (1 : Int32))) (rl (R a0 19) (fun b18 => gp (aok S 20 b18 (x4 + (-1 : Int32))) (bd (f_X12_did S R I (I b11 ((106 : Int32) + x5).toNatClampNeg) (I b16 ((x4 + (-1 : Int32)) - (1 : Int32)).toNatClampNeg) (I b18 (x4 + (-1 : Int32)).toNatClampNeg)) (fun r20 => (if r20 = 0 then f_X12_holds_147 S R (f_X12_holds_13 S R  n) I a0 x2 x3 (x4 + (-1 : Int32)) x5 (0 : Int32) ((x4 + (-1 : Int32)) - (1 : Int32)) b15 else f_X12_holds_147 S R (f_X12_holds_13 S R  n) I a0 x2 x3 (x4 + (-1 : Int32)) x5 (1 : Int32) ((x4 + (-1 : Int32)) - (1 : Int32)) b15)))))))) else rl (R a0 19) (fun b29 => (if (10000 : Int32) ≤ (I b11 ((106 : Int32) + x5).toNatClampNeg) then bd (f_X12_factOf S R I a0 ((I b11 ((106 : Int32) + x5).toNatClampNeg) - (10000 : Int32)) x3) (fun r31 => f_X12_holds_69 S R (f_X12_holds_13 S R  n) I a0 x2 x3 x4 x5 r31 x4 b29) else f_X12_holds_69 S R (f_X12_holds_13 S R  n) I a0 x2 x3 x4 x5 (I b11 ((106 : Int32) + x5).toNatClampNeg) x4 b29)))))))
set_option maxHeartbeats 4000000 in
theorem b_X12_holds_13 {E : Ev} {p : Program} {l : Launch} {e : Env} {s : State} {m : MethodId} {args : Array Value} {below : List Frame} {meth : Method} {c : Code} (C : Cx E RX12 cX12_holds 7 p s m c) (hr : meth.sig.returnType = (some .boolean)) (hk : meth.locks = false) {S : Sh} {R : Rw} {r : Iw × Int32}  : ∀ (n : Nat) (I : Iw) (a0 : Nat) (x2 : Int32) (x3 : Int32) (x4 : Int32) (x5 : Int32), f_X12_holds_13 S R  n I a0 x2 x3 x4 x5 = some r → Wk E 7 p l e ({ frames := 3, cells := 0, slots := 0, locals := 65 } : Room) s m args below meth c 0 0 (MQ below (Qw E S R r.1 (some (.int r.2))) args s 0 0 (fun q => E.1 ≤ q)) 13 [(0, .ref (E.1 + a0)), (2, .int x2), (3, .int x3), (4, .int x4), (5, .int x5)] [] S R I := by
  intro n
  induction n with
  | zero =>
    intro I a0 x2 x3 x4 x5 h
    rw [f_X12_holds_13] at h
    cases h
  | succ n ih =>
    intro I a0 x2 x3 x4 x5 h
    rw [f_X12_holds_13] at h
    refine k_iload (pc := 13) C dX12_holds_13 4 rfl ?_
    refine k_iloadn (pc := 15) C dX12_holds_15 (i := 2) rfl 1 rfl ?_
    refine k_icmp_ge (pc := 16) C dX12_holds_16 (tgt := 154) (by decide) (fun hc5 => ?_) (fun hc5 => ?_)
    · rw [if_pos hc5] at h
      refine k_aloadn (pc := 154) C dX12_holds_154 (i := 0) rfl 0 rfl ?_
      obtain ⟨hs60, h⟩ := gp_e h
      have hs6 := sok_e hs60
      obtain ⟨b7, hb7, h⟩ := rl_e h
      refine k_getR (pc := 155) C lkF_RX12_68_12 hs6 ir_12_19 hb7 dX12_holds_155 ?_
      refine k_iconst (pc := 158) C (v := (0 : Int32)) dX12_holds_158 (by decide) ?_
      obtain ⟨ha8, h⟩ := gp_e h
      refine k_iald (pc := 159) C ha8 dX12_holds_159 ?_
      refine k_iconst (pc := 160) C (v := (1 : Int32)) dX12_holds_160 (by decide) ?_
      refine k_icmp_ne (pc := 161) C dX12_holds_161 (tgt := 168) (by decide) (fun hc9 => ?_) (fun hc9 => ?_)
      · rw [if_neg hc9] at h
        refine k_iconst (pc := 168) C (v := (0 : Int32)) dX12_holds_168 (by decide) ?_
        have h := Option.some.inj h
        subst h
        exact k_zret (pc := 169) C hr hk (Or.inl rfl) dX12_holds_169
      · rw [if_pos hc9] at h
        refine k_iconst (pc := 164) C (v := (1 : Int32)) dX12_holds_164 (by decide) ?_
        refine k_goto (pc := 165) C dX12_holds_165 (tgt := 169) (by decide) ?_
        have h := Option.some.inj h
        subst h
        exact k_zret (pc := 169) C hr hk (Or.inr rfl) dX12_holds_169
    · rw [if_neg hc5] at h
      refine k_aloadn (pc := 19) C dX12_holds_19 (i := 0) rfl 0 rfl ?_
      obtain ⟨hs100, h⟩ := gp_e h
      have hs10 := sok_e hs100
      obtain ⟨b11, hb11, h⟩ := rl_e h
      refine k_getR (pc := 20) C lkF_RX12_9_12 hs10 ir_12_0 hb11 dX12_holds_20 ?_
      refine k_bipush (pc := 23) C (v := (106 : Int32)) dX12_holds_23 (by decide) ?_
      refine k_iload (pc := 25) C dX12_holds_25 4 rfl ?_
      refine k_iadd (pc := 27) C dX12_holds_27 ?_
      obtain ⟨ha12, h⟩ := gp_e h
      refine k_iald (pc := 28) C ha12 dX12_holds_28 ?_
      refine k_istore (pc := 29) C dX12_holds_29 (by decide) (L2 := [(0, .ref (E.1 + a0)), (2, .int x2), (3, .int x3), (4, .int x4), (5, .int x5), (6, .int (I b11 ((106 : Int32) + x5).toNatClampNeg))]) rfl ?_
      refine k_iload (pc := 31) C dX12_holds_31 5 rfl ?_
      refine k_sipush (pc := 33) C (v := (20000 : Int32)) dX12_holds_33 (by decide) ?_
      refine k_icmp_ge (pc := 36) C dX12_holds_36 (tgt := 76) (by decide) (fun hc13 => ?_) (fun hc13 => ?_)
      · rw [if_pos hc13] at h
        refine k_iload (pc := 76) C dX12_holds_76 5 rfl ?_
        refine k_sipush (pc := 78) C (v := (20005 : Int32)) dX12_holds_78 (by decide) ?_
        refine k_icmp_ne (pc := 81) C dX12_holds_81 (tgt := 107) (by decide) (fun hc14 => ?_) (fun hc14 => ?_)
        · rw [if_neg hc14] at h
          refine k_iinc (pc := 107) C dX12_holds_107 3 rfl (v := x4 + (-1 : Int32)) (by rfl) (by decide) (L2 := [(0, .ref (E.1 + a0)), (2, .int x2), (3, .int x3), (4, .int (x4 + (-1 : Int32))), (5, .int x5), (6, .int (I b11 ((106 : Int32) + x5).toNatClampNeg))]) rfl ?_
          refine k_aloadn (pc := 110) C dX12_holds_110 (i := 0) rfl 0 rfl ?_
          obtain ⟨b15, hb15, h⟩ := rl_e h
          refine k_getR (pc := 111) C lkF_RX12_68_12 hs10 ir_12_19 hb15 dX12_holds_111 ?_
          refine k_iload (pc := 114) C dX12_holds_114 3 rfl ?_
          refine k_iconst (pc := 116) C (v := (1 : Int32)) dX12_holds_116 (by decide) ?_
          refine k_isub (pc := 117) C dX12_holds_117 ?_
          refine k_iload (pc := 118) C dX12_holds_118 5 rfl ?_
          refine k_aloadn (pc := 120) C dX12_holds_120 (i := 0) rfl 0 rfl ?_
          obtain ⟨b16, hb16, h⟩ := rl_e h
          refine k_getR (pc := 121) C lkF_RX12_68_12 hs10 ir_12_19 hb16 dX12_holds_121 ?_
          refine k_iload (pc := 124) C dX12_holds_124 3 rfl ?_
          refine k_iconst (pc := 126) C (v := (1 : Int32)) dX12_holds_126 (by decide) ?_
          refine k_isub (pc := 127) C dX12_holds_127 ?_
          obtain ⟨ha17, h⟩ := gp_e h
          refine k_iald (pc := 128) C ha17 dX12_holds_128 ?_
          refine k_aloadn (pc := 129) C dX12_holds_129 (i := 0) rfl 0 rfl ?_
          obtain ⟨b18, hb18, h⟩ := rl_e h
          refine k_getR (pc := 130) C lkF_RX12_68_12 hs10 ir_12_19 hb18 dX12_holds_130 ?_
          refine k_iload (pc := 133) C dX12_holds_133 3 rfl ?_
          obtain ⟨ha19, h⟩ := gp_e h
          refine k_iald (pc := 135) C ha19 dX12_holds_135 ?_
          obtain ⟨r20, hr20, h⟩ := bd_e h
          refine k_S (pc := 136) (st := [.int ((x4 + (-1 : Int32)) - (1 : Int32)), .ref (E.1 + b15)]) C (c_X12_did hr20) lkS_RX12_215 rfl rfl (Nat.le_of_ble_eq_true rfl) (Nat.le_of_ble_eq_true rfl) (Nat.le_of_ble_eq_true rfl) (Nat.le_of_ble_eq_true rfl) (Nat.le_of_ble_eq_true rfl) dX12_holds_136 ?_
          refine k_nf (cells2 := 0) (slots2 := 0) (st2 := [.int r20, .int ((x4 + (-1 : Int32)) - (1 : Int32)), .ref (E.1 + b15)]) rfl rfl rfl ?_
          refine k_if_eq (pc := 139) C dX12_holds_139 (tgt := 146) (by decide) (fun hc21 => ?_) (fun hc21 => ?_)
          · rw [if_pos hc21] at h
            refine k_iconst (pc := 146) C (v := (0 : Int32)) dX12_holds_146 (by decide) ?_
            refine k_loc (L2 := [(0, .ref (E.1 + a0)), (2, .int x2), (3, .int x3), (4, .int (x4 + (-1 : Int32))), (5, .int x5)]) [0, 1, 2, 3, 4] rfl ?_
            exact b_X12_holds_147 C hr hk ih _ _ _ _ _ _ _ _ _ h
          · rw [if_neg hc21] at h
            refine k_iconst (pc := 142) C (v := (1 : Int32)) dX12_holds_142 (by decide) ?_
            refine k_goto (pc := 143) C dX12_holds_143 (tgt := 147) (by decide) ?_
            refine k_loc (L2 := [(0, .ref (E.1 + a0)), (2, .int x2), (3, .int x3), (4, .int (x4 + (-1 : Int32))), (5, .int x5)]) [0, 1, 2, 3, 4] rfl ?_
            exact b_X12_holds_147 C hr hk ih _ _ _ _ _ _ _ _ _ h
        · rw [if_pos hc14] at h
          refine k_aloadn (pc := 84) C dX12_holds_84 (i := 0) rfl 0 rfl ?_
          obtain ⟨b24, hb24, h⟩ := rl_e h
          refine k_getR (pc := 85) C lkF_RX12_68_12 hs10 ir_12_19 hb24 dX12_holds_85 ?_
          refine k_iload (pc := 88) C dX12_holds_88 3 rfl ?_
          refine k_iconst (pc := 90) C (v := (1 : Int32)) dX12_holds_90 (by decide) ?_
          refine k_isub (pc := 91) C dX12_holds_91 ?_
          refine k_iconst (pc := 92) C (v := (1 : Int32)) dX12_holds_92 (by decide) ?_
          refine k_aloadn (pc := 93) C dX12_holds_93 (i := 0) rfl 0 rfl ?_
          obtain ⟨b25, hb25, h⟩ := rl_e h
          refine k_getR (pc := 94) C lkF_RX12_68_12 hs10 ir_12_19 hb25 dX12_holds_94 ?_
          refine k_iload (pc := 97) C dX12_holds_97 3 rfl ?_
          refine k_iconst (pc := 99) C (v := (1 : Int32)) dX12_holds_99 (by decide) ?_
          refine k_isub (pc := 100) C dX12_holds_100 ?_
          obtain ⟨ha26, h⟩ := gp_e h
          refine k_iald (pc := 101) C ha26 dX12_holds_101 ?_
          refine k_isub (pc := 102) C dX12_holds_102 ?_
          obtain ⟨ha27, h⟩ := gp_e h
          obtain ⟨I28, eI28, h⟩ := lt_e h
          refine k_iast (pc := 103) C ha27 dX12_holds_103 ?_
          rw [← eI28]
          refine k_goto (pc := 104) C dX12_holds_104 (tgt := 148) (by decide) ?_
          refine k_loc (L2 := [(0, .ref (E.1 + a0)), (2, .int x2), (3, .int x3), (4, .int x4), (5, .int x5)]) [0, 1, 2, 3, 4] rfl ?_
          exact b_X12_holds_148 C hr hk ih _ _ _ _ _ _ h
      · rw [if_neg hc13] at h
        refine k_aloadn (pc := 39) C dX12_holds_39 (i := 0) rfl 0 rfl ?_
        obtain ⟨b29, hb29, h⟩ := rl_e h
        refine k_getR (pc := 40) C lkF_RX12_68_12 hs10 ir_12_19 hb29 dX12_holds_40 ?_
        refine k_iload (pc := 43) C dX12_holds_43 3 rfl ?_
        refine k_iload (pc := 45) C dX12_holds_45 5 rfl ?_
        refine k_sipush (pc := 47) C (v := (10000 : Int32)) dX12_holds_47 (by decide) ?_
        refine k_icmp_ge (pc := 50) C dX12_holds_50 (tgt := 58) (by decide) (fun hc30 => ?_) (fun hc30 => ?_)
        · rw [if_pos hc30] at h
          refine k_aloadn (pc := 58) C dX12_holds_58 (i := 0) rfl 0 rfl ?_
          refine k_iload (pc := 59) C dX12_holds_59 5 rfl ?_
          refine k_sipush (pc := 61) C (v := (10000 : Int32)) dX12_holds_61 (by decide) ?_
          refine k_isub (pc := 64) C dX12_holds_64 ?_
          refine k_iloadn (pc := 65) C dX12_holds_65 (i := 3) rfl 2 rfl ?_
          obtain ⟨r31, hr31, h⟩ := bd_e h
          refine k_V (pc := 66) (st := [.int x4, .ref (E.1 + b29)]) C (c_X12_factOf hr31) lkV_RX12_212 hs10 rfl rfl rfl (Nat.le_of_ble_eq_true rfl) (Nat.le_of_ble_eq_true rfl) (Nat.le_of_ble_eq_true rfl) (Nat.le_of_ble_eq_true rfl) (Nat.le_of_ble_eq_true rfl) dX12_holds_66 ?_
          refine k_nf (cells2 := 0) (slots2 := 0) (st2 := [.int r31, .int x4, .ref (E.1 + b29)]) rfl rfl rfl ?_
          refine k_loc (L2 := [(0, .ref (E.1 + a0)), (2, .int x2), (3, .int x3), (4, .int x4), (5, .int x5)]) [0, 1, 2, 3, 4] rfl ?_
          exact b_X12_holds_69 C hr hk ih _ _ _ _ _ _ _ _ _ h
        · rw [if_neg hc30] at h
          refine k_iload (pc := 53) C dX12_holds_53 5 rfl ?_
          refine k_goto (pc := 55) C dX12_holds_55 (tgt := 69) (by decide) ?_
          refine k_loc (L2 := [(0, .ref (E.1 + a0)), (2, .int x2), (3, .int x3), (4, .int x4), (5, .int x5)]) [0, 1, 2, 3, 4] rfl ?_
          exact b_X12_holds_69 C hr hk ih _ _ _ _ _ _ _ _ _ h
def f_X12_holds (S : Sh) (R : Rw)  (I : Iw) (a0 : Nat) (x1 : Int32) (x2 : Int32) (x3 : Int32) : Option (Iw × Int32) := gp (sok S a0 12 34) (rl (R a0 19) (fun b2 => gp (aok S 20 b2 (0 : Int32)) (lt (up2 I b2 (0 : Int32).toNatClampNeg (1 : Int32)) (fun I4 => f_X12_holds_13 S R  512 I4 a0 x2 x3 (0 : Int32) x1))))
set_option maxHeartbeats 4000000 in
theorem b_X12_holds {E : Ev} {p : Program} {l : Launch} {e : Env} {s : State} {m : MethodId} {args : Array Value} {below : List Frame} {meth : Method} {c : Code} (C : Cx E RX12 cX12_holds 7 p s m c) (hr : meth.sig.returnType = (some .boolean)) (hk : meth.locks = false) {S : Sh} {R : Rw} {r : Iw × Int32}  : ∀ (I : Iw) (a0 : Nat) (x1 : Int32) (x2 : Int32) (x3 : Int32), f_X12_holds S R   I a0 x1 x2 x3 = some r → Wk E 7 p l e ({ frames := 3, cells := 0, slots := 0, locals := 65 } : Room) s m args below meth c 0 0 (MQ below (Qw E S R r.1 (some (.int r.2))) args s 0 0 (fun q => E.1 ≤ q)) 0 [(0, .ref (E.1 + a0)), (1, .int x1), (2, .int x2), (3, .int x3)] [] S R I := by
  intro I a0 x1 x2 x3 h
  rw [f_X12_holds] at h
  refine k_iconst (pc := 0) C (v := (0 : Int32)) dX12_holds_0 (by decide) ?_
  refine k_istore (pc := 1) C dX12_holds_1 (by decide) (L2 := [(0, .ref (E.1 + a0)), (1, .int x1), (2, .int x2), (3, .int x3), (4, .int (0 : Int32))]) rfl ?_
  refine k_aloadn (pc := 3) C dX12_holds_3 (i := 0) rfl 0 rfl ?_
  obtain ⟨hs10, h⟩ := gp_e h
  have hs1 := sok_e hs10
  obtain ⟨b2, hb2, h⟩ := rl_e h
  refine k_getR (pc := 4) C lkF_RX12_68_12 hs1 ir_12_19 hb2 dX12_holds_4 ?_
  refine k_iconst (pc := 7) C (v := (0 : Int32)) dX12_holds_7 (by decide) ?_
  refine k_iconst (pc := 8) C (v := (1 : Int32)) dX12_holds_8 (by decide) ?_
  obtain ⟨ha3, h⟩ := gp_e h
  obtain ⟨I4, eI4, h⟩ := lt_e h
  refine k_iast (pc := 9) C ha3 dX12_holds_9 ?_
  rw [← eI4]
  refine k_iloadn (pc := 10) C dX12_holds_10 (i := 1) rfl 1 rfl ?_
  refine k_istore (pc := 11) C dX12_holds_11 (by decide) (L2 := [(0, .ref (E.1 + a0)), (1, .int x1), (2, .int x2), (3, .int x3), (4, .int (0 : Int32)), (5, .int x1)]) rfl ?_
  refine k_loc (L2 := [(0, .ref (E.1 + a0)), (2, .int x2), (3, .int x3), (4, .int (0 : Int32)), (5, .int x1)]) [0, 2, 3, 4, 5] rfl ?_
  exact b_X12_holds_13 C hr hk  _ _ _ _ _ _ _ h
theorem c_X12_holds {E : Ev} {l : Launch} {S : Sh} {R : Rw} {I : Iw} {a0 : Nat} {x1 : Int32} {x2 : Int32} {x3 : Int32} {r : Iw × Int32} (h : f_X12_holds S R I a0 x1 x2 x3 = some r) : Mt E l yX12_holds cX12_holds 7 (some .boolean) 3 65 [.ref (E.1 + a0), .int x1, .int x2, .int x3] S R I S R r.1 (some (.int r.2)) 0 0 := mt_of (by decide) (Nat.le_of_ble_eq_true rfl) (fun p e s m args below meth c C hr hk hn => b_X12_holds C hr hk _ _ _ _ _ h)
