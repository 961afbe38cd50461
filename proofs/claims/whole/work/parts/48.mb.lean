/-! X12_goats, X12_shelf -/
theorem dX12_goats_0 : decode cX12_goats 0 = .ok (.iload_n 1, 1) := by decide +kernel
theorem dX12_goats_1 : decode cX12_goats 1 = .ok (.invokestatic 329, 3) := by decide +kernel
theorem dX12_goats_4 : decode cX12_goats 4 = .ok (.ifCond .eq 13, 3) := by decide +kernel
theorem dX12_goats_7 : decode cX12_goats 7 = .ok (.iload_n 3, 1) := by decide +kernel
theorem dX12_goats_8 : decode cX12_goats 8 = .ok (.iconst 0, 1) := by decide +kernel
theorem dX12_goats_9 : decode cX12_goats 9 = .ok (.bipush 9, 2) := by decide +kernel
theorem dX12_goats_11 : decode cX12_goats 11 = .ok (.invokestatic 98, 3) := by decide +kernel
theorem dX12_goats_14 : decode cX12_goats 14 = .ok (.ifCond .ne 5, 3) := by decide +kernel
theorem dX12_goats_17 : decode cX12_goats 17 = .ok (.iconst (-1), 1) := by decide +kernel
theorem dX12_goats_18 : decode cX12_goats 18 = .ok (.ireturn, 1) := by decide +kernel
theorem dX12_goats_19 : decode cX12_goats 19 = .ok (.aload_n 0, 1) := by decide +kernel
theorem dX12_goats_20 : decode cX12_goats 20 = .ok (.iload_n 1, 1) := by decide +kernel
theorem dX12_goats_21 : decode cX12_goats 21 = .ok (.iconst 0, 1) := by decide +kernel
theorem dX12_goats_22 : decode cX12_goats 22 = .ok (.invokevirtual 332, 3) := by decide +kernel
theorem dX12_goats_25 : decode cX12_goats 25 = .ok (.istore 4, 2) := by decide +kernel
theorem dX12_goats_27 : decode cX12_goats 27 = .ok (.aload_n 0, 1) := by decide +kernel
theorem dX12_goats_28 : decode cX12_goats 28 = .ok (.getfield 9, 3) := by decide +kernel
theorem dX12_goats_31 : decode cX12_goats 31 = .ok (.aload_n 0, 1) := by decide +kernel
theorem dX12_goats_32 : decode cX12_goats 32 = .ok (.getfield 16, 3) := by decide +kernel
theorem dX12_goats_35 : decode cX12_goats 35 = .ok (.invokestatic 102, 3) := by decide +kernel
theorem dX12_goats_38 : decode cX12_goats 38 = .ok (.iconst 0, 1) := by decide +kernel
theorem dX12_goats_39 : decode cX12_goats 39 = .ok (.istore 5, 2) := by decide +kernel
theorem dX12_goats_41 : decode cX12_goats 41 = .ok (.iconst 0, 1) := by decide +kernel
theorem dX12_goats_42 : decode cX12_goats 42 = .ok (.istore 6, 2) := by decide +kernel
theorem dX12_goats_44 : decode cX12_goats 44 = .ok (.iload 6, 2) := by decide +kernel
theorem dX12_goats_46 : decode cX12_goats 46 = .ok (.iload_n 3, 1) := by decide +kernel
theorem dX12_goats_47 : decode cX12_goats 47 = .ok (.if_icmp .ge 138, 3) := by decide +kernel
theorem dX12_goats_50 : decode cX12_goats 50 = .ok (.iload 4, 2) := by decide +kernel
theorem dX12_goats_52 : decode cX12_goats 52 = .ok (.ifCond .ne 133, 3) := by decide +kernel
theorem dX12_goats_55 : decode cX12_goats 55 = .ok (.iload_n 2, 1) := by decide +kernel
theorem dX12_goats_56 : decode cX12_goats 56 = .ok (.i2l, 1) := by decide +kernel
theorem dX12_goats_57 : decode cX12_goats 57 = .ok (.iload 6, 2) := by decide +kernel
theorem dX12_goats_59 : decode cX12_goats 59 = .ok (.i2l, 1) := by decide +kernel
theorem dX12_goats_60 : decode cX12_goats 60 = .ok (.ladd, 1) := by decide +kernel
theorem dX12_goats_61 : decode cX12_goats 61 = .ok (.lstore 7, 2) := by decide +kernel
theorem dX12_goats_63 : decode cX12_goats 63 = .ok (.lload 7, 2) := by decide +kernel
theorem dX12_goats_65 : decode cX12_goats 65 = .ok (.lconst 0, 1) := by decide +kernel
theorem dX12_goats_66 : decode cX12_goats 66 = .ok (.lcmp, 1) := by decide +kernel
theorem dX12_goats_67 : decode cX12_goats 67 = .ok (.ifCond .lt 16, 3) := by decide +kernel
theorem dX12_goats_70 : decode cX12_goats 70 = .ok (.lload 7, 2) := by decide +kernel
theorem dX12_goats_72 : decode cX12_goats 72 = .ok (.aload_n 0, 1) := by decide +kernel
theorem dX12_goats_73 : decode cX12_goats 73 = .ok (.getfield 83, 3) := by decide +kernel
theorem dX12_goats_76 : decode cX12_goats 76 = .ok (.iload_n 1, 1) := by decide +kernel
theorem dX12_goats_77 : decode cX12_goats 77 = .ok (.iaload, 1) := by decide +kernel
theorem dX12_goats_78 : decode cX12_goats 78 = .ok (.i2l, 1) := by decide +kernel
theorem dX12_goats_79 : decode cX12_goats 79 = .ok (.lcmp, 1) := by decide +kernel
theorem dX12_goats_80 : decode cX12_goats 80 = .ok (.ifCond .lt 8, 3) := by decide +kernel
theorem dX12_goats_83 : decode cX12_goats 83 = .ok (.bipush (-12), 2) := by decide +kernel
theorem dX12_goats_85 : decode cX12_goats 85 = .ok (.goto 4, 3) := by decide +kernel
theorem dX12_goats_88 : decode cX12_goats 88 = .ok (.iconst 0, 1) := by decide +kernel
theorem dX12_goats_89 : decode cX12_goats 89 = .ok (.istore 4, 2) := by decide +kernel
theorem dX12_goats_91 : decode cX12_goats 91 = .ok (.iload 4, 2) := by decide +kernel
theorem dX12_goats_93 : decode cX12_goats 93 = .ok (.ifCond .ne 20, 3) := by decide +kernel
theorem dX12_goats_96 : decode cX12_goats 96 = .ok (.aload_n 0, 1) := by decide +kernel
theorem dX12_goats_97 : decode cX12_goats 97 = .ok (.getfield 77, 3) := by decide +kernel
theorem dX12_goats_100 : decode cX12_goats 100 = .ok (.bipush 40, 2) := by decide +kernel
theorem dX12_goats_102 : decode cX12_goats 102 = .ok (.iload_n 1, 1) := by decide +kernel
theorem dX12_goats_103 : decode cX12_goats 103 = .ok (.imul, 1) := by decide +kernel
theorem dX12_goats_104 : decode cX12_goats 104 = .ok (.iload_n 2, 1) := by decide +kernel
theorem dX12_goats_105 : decode cX12_goats 105 = .ok (.iadd, 1) := by decide +kernel
theorem dX12_goats_106 : decode cX12_goats 106 = .ok (.iload 6, 2) := by decide +kernel
theorem dX12_goats_108 : decode cX12_goats 108 = .ok (.iadd, 1) := by decide +kernel
theorem dX12_goats_109 : decode cX12_goats 109 = .ok (.iaload, 1) := by decide +kernel
theorem dX12_goats_110 : decode cX12_goats 110 = .ok (.goto 4, 3) := by decide +kernel
theorem dX12_goats_113 : decode cX12_goats 113 = .ok (.iconst (-1), 1) := by decide +kernel
theorem dX12_goats_114 : decode cX12_goats 114 = .ok (.istore 9, 2) := by decide +kernel
theorem dX12_goats_116 : decode cX12_goats 116 = .ok (.iload 4, 2) := by decide +kernel
theorem dX12_goats_118 : decode cX12_goats 118 = .ok (.ifCond .ne 27, 3) := by decide +kernel
theorem dX12_goats_121 : decode cX12_goats 121 = .ok (.aload_n 0, 1) := by decide +kernel
theorem dX12_goats_122 : decode cX12_goats 122 = .ok (.iload 9, 2) := by decide +kernel
theorem dX12_goats_124 : decode cX12_goats 124 = .ok (.iconst 3, 1) := by decide +kernel
theorem dX12_goats_125 : decode cX12_goats 125 = .ok (.invokevirtual 251, 3) := by decide +kernel
theorem dX12_goats_128 : decode cX12_goats 128 = .ok (.ifCond .eq 12, 3) := by decide +kernel
theorem dX12_goats_131 : decode cX12_goats 131 = .ok (.aload_n 0, 1) := by decide +kernel
theorem dX12_goats_132 : decode cX12_goats 132 = .ok (.iload 9, 2) := by decide +kernel
theorem dX12_goats_134 : decode cX12_goats 134 = .ok (.invokevirtual 245, 3) := by decide +kernel
theorem dX12_goats_137 : decode cX12_goats 137 = .ok (.ifCond .ne 8, 3) := by decide +kernel
theorem dX12_goats_140 : decode cX12_goats 140 = .ok (.bipush (-4), 2) := by decide +kernel
theorem dX12_goats_142 : decode cX12_goats 142 = .ok (.goto 5, 3) := by decide +kernel
theorem dX12_goats_145 : decode cX12_goats 145 = .ok (.iload 4, 2) := by decide +kernel
theorem dX12_goats_147 : decode cX12_goats 147 = .ok (.istore 4, 2) := by decide +kernel
theorem dX12_goats_149 : decode cX12_goats 149 = .ok (.iload 4, 2) := by decide +kernel
theorem dX12_goats_151 : decode cX12_goats 151 = .ok (.ifCond .ne 28, 3) := by decide +kernel
theorem dX12_goats_154 : decode cX12_goats 154 = .ok (.iload 5, 2) := by decide +kernel
theorem dX12_goats_156 : decode cX12_goats 156 = .ok (.aload_n 0, 1) := by decide +kernel
theorem dX12_goats_157 : decode cX12_goats 157 = .ok (.iload 9, 2) := by decide +kernel
theorem dX12_goats_159 : decode cX12_goats 159 = .ok (.invokevirtual 257, 3) := by decide +kernel
theorem dX12_goats_162 : decode cX12_goats 162 = .ok (.ifCond .eq 7, 3) := by decide +kernel
theorem dX12_goats_165 : decode cX12_goats 165 = .ok (.iconst 0, 1) := by decide +kernel
theorem dX12_goats_166 : decode cX12_goats 166 = .ok (.goto 4, 3) := by decide +kernel
theorem dX12_goats_169 : decode cX12_goats 169 = .ok (.iconst 1, 1) := by decide +kernel
theorem dX12_goats_170 : decode cX12_goats 170 = .ok (.iadd, 1) := by decide +kernel
theorem dX12_goats_171 : decode cX12_goats 171 = .ok (.istore 5, 2) := by decide +kernel
theorem dX12_goats_173 : decode cX12_goats 173 = .ok (.aload_n 0, 1) := by decide +kernel
theorem dX12_goats_174 : decode cX12_goats 174 = .ok (.iload 9, 2) := by decide +kernel
theorem dX12_goats_176 : decode cX12_goats 176 = .ok (.invokevirtual 263, 3) := by decide +kernel
theorem dX12_goats_179 : decode cX12_goats 179 = .ok (.iinc 6 1, 3) := by decide +kernel
theorem dX12_goats_182 : decode cX12_goats 182 = .ok (.goto (-138), 3) := by decide +kernel
theorem dX12_goats_185 : decode cX12_goats 185 = .ok (.aload_n 0, 1) := by decide +kernel
theorem dX12_goats_186 : decode cX12_goats 186 = .ok (.iload 4, 2) := by decide +kernel
theorem dX12_goats_188 : decode cX12_goats 188 = .ok (.ifCond .eq 8, 3) := by decide +kernel
theorem dX12_goats_191 : decode cX12_goats 191 = .ok (.iload 4, 2) := by decide +kernel
theorem dX12_goats_193 : decode cX12_goats 193 = .ok (.goto 5, 3) := by decide +kernel
theorem dX12_goats_196 : decode cX12_goats 196 = .ok (.iload 5, 2) := by decide +kernel
theorem dX12_goats_198 : decode cX12_goats 198 = .ok (.invokevirtual 320, 3) := by decide +kernel
theorem dX12_goats_201 : decode cX12_goats 201 = .ok (.ireturn, 1) := by decide +kernel
def f_X12_goats_198 (S : Sh) (R : Rw)  (I : Iw) (s0 : Int32) (q1 : Nat) : Option (Iw × Int32) := gp (sok S q1 12 34) (bd (f_X12_back S R I q1 s0) (fun r13 => some (r13.1, r13.2)))
set_option maxHeartbeats 4000000 in
theorem b_X12_goats_198 {E : Ev} {p : Program} {l : Launch} {e : Env} {s : State} {m : MethodId} {args : Array Value} {below : List Frame} {meth : Method} {c : Code} (C : Cx E RX12 cX12_goats 10 p s m c) (hr : meth.sig.returnType = (some .int)) (hk : meth.locks = false) {S : Sh} {R : Rw} {r : Iw × Int32}  : ∀ (I : Iw) (s0 : Int32) (q1 : Nat), f_X12_goats_198 S R   I s0 q1 = some r → Wk E 10 p l e ({ frames := 5, cells := 0, slots := 0, locals := 111 } : Room) s m args below meth c 0 0 (MQ below (Qw E S R r.1 (some (.int r.2))) args s 0 0 (fun q => E.1 ≤ q)) 198 [] [.int s0, .ref (E.1 + q1)] S R I := by
  intro I s0 q1 h
  rw [f_X12_goats_198] at h
  obtain ⟨hs120, h⟩ := gp_e h
  have hs12 := sok_e hs120
  obtain ⟨r13, hr13, h⟩ := bd_e h
  refine k_V (pc := 198) (st := []) C (c_X12_back hr13) lkV_RX12_320 hs12 rfl rfl rfl (Nat.le_of_ble_eq_true rfl) (Nat.le_of_ble_eq_true rfl) (Nat.le_of_ble_eq_true rfl) (Nat.le_of_ble_eq_true rfl) (Nat.le_of_ble_eq_true rfl) dX12_goats_198 ?_
  refine k_nf (cells2 := 0) (slots2 := 0) (st2 := [.int r13.2]) rfl rfl rfl ?_
  have h := Option.some.inj h
  subst h
  exact k_iret (pc := 201) C hr hk dX12_goats_201
def f_X12_goats_185 (S : Sh) (R : Rw)  (I : Iw) (a0 : Nat) (x4 : Int32) (x5 : Int32) : Option (Iw × Int32) := (if x4 = 0 then f_X12_goats_198 S R  I x5 a0 else f_X12_goats_198 S R  I x4 a0)
set_option maxHeartbeats 4000000 in
theorem b_X12_goats_185 {E : Ev} {p : Program} {l : Launch} {e : Env} {s : State} {m : MethodId} {args : Array Value} {below : List Frame} {meth : Method} {c : Code} (C : Cx E RX12 cX12_goats 10 p s m c) (hr : meth.sig.returnType = (some .int)) (hk : meth.locks = false) {S : Sh} {R : Rw} {r : Iw × Int32}  : ∀ (I : Iw) (a0 : Nat) (x4 : Int32) (x5 : Int32), f_X12_goats_185 S R   I a0 x4 x5 = some r → Wk E 10 p l e ({ frames := 5, cells := 0, slots := 0, locals := 111 } : Room) s m args below meth c 0 0 (MQ below (Qw E S R r.1 (some (.int r.2))) args s 0 0 (fun q => E.1 ≤ q)) 185 [(0, .ref (E.1 + a0)), (4, .int x4), (5, .int x5)] [] S R I := by
  intro I a0 x4 x5 h
  rw [f_X12_goats_185] at h
  refine k_aloadn (pc := 185) C dX12_goats_185 (i := 0) rfl 0 rfl ?_
  refine k_iload (pc := 186) C dX12_goats_186 1 rfl ?_
  refine k_if_eq (pc := 188) C dX12_goats_188 (tgt := 196) (by decide) (fun hc11 => ?_) (fun hc11 => ?_)
  · rw [if_pos hc11] at h
    refine k_iload (pc := 196) C dX12_goats_196 2 rfl ?_
    refine k_loc (L2 := []) [] rfl ?_
    exact b_X12_goats_198 C hr hk  _ _ _ h
  · rw [if_neg hc11] at h
    refine k_iload (pc := 191) C dX12_goats_191 1 rfl ?_
    refine k_goto (pc := 193) C dX12_goats_193 (tgt := 198) (by decide) ?_
    refine k_loc (L2 := []) [] rfl ?_
    exact b_X12_goats_198 C hr hk  _ _ _ h
def f_X12_goats_179 (S : Sh) (R : Rw) (ko44 : Iw → Nat → Int32 → Int32 → Int32 → Int32 → Int32 → Int32 → Option (Iw × Int32)) (I : Iw) (a0 : Nat) (x1 : Int32) (x2 : Int32) (x3 : Int32) (x4 : Int32) (x5 : Int32) (x6 : Int32) : Option (Iw × Int32) := ko44 I a0 x1 x2 x3 x4 x5 (x6 + (1 : Int32))
set_option maxHeartbeats 4000000 in
theorem b_X12_goats_179 {E : Ev} {p : Program} {l : Launch} {e : Env} {s : State} {m : MethodId} {args : Array Value} {below : List Frame} {meth : Method} {c : Code} (C : Cx E RX12 cX12_goats 10 p s m c) (hr : meth.sig.returnType = (some .int)) (hk : meth.locks = false) {S : Sh} {R : Rw} {r : Iw × Int32}  {ko44 : Iw → Nat → Int32 → Int32 → Int32 → Int32 → Int32 → Int32 → Option (Iw × Int32)} (hko44 : ∀ (I : Iw) (a0 : Nat) (x1 : Int32) (x2 : Int32) (x3 : Int32) (x4 : Int32) (x5 : Int32) (x6 : Int32), ko44 I a0 x1 x2 x3 x4 x5 x6 = some r → Wk E 10 p l e ({ frames := 5, cells := 0, slots := 0, locals := 111 } : Room) s m args below meth c 0 0 (MQ below (Qw E S R r.1 (some (.int r.2))) args s 0 0 (fun q => E.1 ≤ q)) 44 [(0, .ref (E.1 + a0)), (1, .int x1), (2, .int x2), (3, .int x3), (4, .int x4), (5, .int x5), (6, .int x6)] [] S R I) : ∀ (I : Iw) (a0 : Nat) (x1 : Int32) (x2 : Int32) (x3 : Int32) (x4 : Int32) (x5 : Int32) (x6 : Int32), f_X12_goats_179 S R ko44  I a0 x1 x2 x3 x4 x5 x6 = some r → Wk E 10 p l e ({ frames := 5, cells := 0, slots := 0, locals := 111 } : Room) s m args below meth c 0 0 (MQ below (Qw E S R r.1 (some (.int r.2))) args s 0 0 (fun q => E.1 ≤ q)) 179 [(0, .ref (E.1 + a0)), (1, .int x1), (2, .int x2), (3, .int x3), (4, .int x4), (5, .int x5), (6, .int x6)] [] S R I := by
  intro I a0 x1 x2 x3 x4 x5 x6 h
  rw [f_X12_goats_179] at h
  refine k_iinc (pc := 179) C dX12_goats_179 6 rfl (v := x6 + (1 : Int32)) (by rfl) (by decide) (L2 := [(0, .ref (E.1 + a0)), (1, .int x1), (2, .int x2), (3, .int x3), (4, .int x4), (5, .int x5), (6, .int (x6 + (1 : Int32)))]) rfl ?_
  refine k_goto (pc := 182) C dX12_goats_182 (tgt := 44) (by decide) ?_
  exact hko44 _ _ _ _ _ _ _ _ h
def f_X12_goats_170 (S : Sh) (R : Rw) (ko44 : Iw → Nat → Int32 → Int32 → Int32 → Int32 → Int32 → Int32 → Option (Iw × Int32)) (I : Iw) (a0 : Nat) (x1 : Int32) (x2 : Int32) (x3 : Int32) (x4 : Int32) (x6 : Int32) (x9 : Int32) (s0 : Int32) (s1 : Int32) : Option (Iw × Int32) := gp (sok S a0 12 34) (bd (f_X12_out S R I a0 x9) (fun r23 => f_X12_goats_179 S R ko44 r23 a0 x1 x2 x3 x4 (s1 + s0) x6))
set_option maxHeartbeats 4000000 in
theorem b_X12_goats_170 {E : Ev} {p : Program} {l : Launch} {e : Env} {s : State} {m : MethodId} {args : Array Value} {below : List Frame} {meth : Method} {c : Code} (C : Cx E RX12 cX12_goats 10 p s m c) (hr : meth.sig.returnType = (some .int)) (hk : meth.locks = false) {S : Sh} {R : Rw} {r : Iw × Int32}  {ko44 : Iw → Nat → Int32 → Int32 → Int32 → Int32 → Int32 → Int32 → Option (Iw × Int32)} (hko44 : ∀ (I : Iw) (a0 : Nat) (x1 : Int32) (x2 : Int32) (x3 : Int32) (x4 : Int32) (x5 : Int32) (x6 : Int32), ko44 I a0 x1 x2 x3 x4 x5 x6 = some r → Wk E 10 p l e ({ frames := 5, cells := 0, slots := 0, locals := 111 } : Room) s m args below meth c 0 0 (MQ below (Qw E S R r.1 (some (.int r.2))) args s 0 0 (fun q => E.1 ≤ q)) 44 [(0, .ref (E.1 + a0)), (1, .int x1), (2, .int x2), (3, .int x3), (4, .int x4), (5, .int x5), (6, .int x6)] [] S R I) : ∀ (I : Iw) (a0 : Nat) (x1 : Int32) (x2 : Int32) (x3 : Int32) (x4 : Int32) (x6 : Int32) (x9 : Int32) (s0 : Int32) (s1 : Int32), f_X12_goats_170 S R ko44  I a0 x1 x2 x3 x4 x6 x9 s0 s1 = some r → Wk E 10 p l e ({ frames := 5, cells := 0, slots := 0, locals := 111 } : Room) s m args below meth c 0 0 (MQ below (Qw E S R r.1 (some (.int r.2))) args s 0 0 (fun q => E.1 ≤ q)) 170 [(0, .ref (E.1 + a0)), (1, .int x1), (2, .int x2), (3, .int x3), (4, .int x4), (6, .int x6), (9, .int x9)] [.int s0, .int s1] S R I := by
  intro I a0 x1 x2 x3 x4 x6 x9 s0 s1 h
  rw [f_X12_goats_170] at h
  refine k_iadd (pc := 170) C dX12_goats_170 ?_
  refine k_istore (pc := 171) C dX12_goats_171 (by decide) (L2 := [(0, .ref (E.1 + a0)), (1, .int x1), (2, .int x2), (3, .int x3), (4, .int x4), (5, .int (s1 + s0)), (6, .int x6), (9, .int x9)]) rfl ?_
  refine k_aloadn (pc := 173) C dX12_goats_173 (i := 0) rfl 0 rfl ?_
  refine k_iload (pc := 174) C dX12_goats_174 7 rfl ?_
  obtain ⟨hs220, h⟩ := gp_e h
  have hs22 := sok_e hs220
  obtain ⟨r23, hr23, h⟩ := bd_e h
  refine k_V (pc := 176) (st := []) C (c_X12_out hr23) lkV_RX12_263 hs22 rfl rfl rfl (Nat.le_of_ble_eq_true rfl) (Nat.le_of_ble_eq_true rfl) (Nat.le_of_ble_eq_true rfl) (Nat.le_of_ble_eq_true rfl) (Nat.le_of_ble_eq_true rfl) dX12_goats_176 ?_
  refine k_nf (cells2 := 0) (slots2 := 0) (st2 := []) rfl rfl rfl ?_
  refine k_loc (L2 := [(0, .ref (E.1 + a0)), (1, .int x1), (2, .int x2), (3, .int x3), (4, .int x4), (5, .int (s1 + s0)), (6, .int x6)]) [0, 1, 2, 3, 4, 5, 6] rfl ?_
  exact b_X12_goats_179 C hr hk hko44 _ _ _ _ _ _ _ _ h
def f_X12_goats_147 (S : Sh) (R : Rw) (ko44 : Iw → Nat → Int32 → Int32 → Int32 → Int32 → Int32 → Int32 → Option (Iw × Int32)) (I : Iw) (a0 : Nat) (x1 : Int32) (x2 : Int32) (x3 : Int32) (x5 : Int32) (x6 : Int32) (x9 : Int32) (s0 : Int32) : Option (Iw × Int32) := (if s0 = 0 then gp (sok S a0 12 34) (bd (f_X12_mayGo S R I a0 x9) (fun r20 => (if r20 = 0 then f_X12_goats_170 S R ko44 I a0 x1 x2 x3 s0 x6 x9 (1 : Int32) x5 else f_X12_goats_170 S R ko44 I a0 x1 x2 x3 s0 x6 x9 (0 : Int32) x5))) else f_X12_goats_179 S R ko44 I a0 x1 x2 x3 s0 x5 x6)
set_option maxHeartbeats 4000000 in
theorem b_X12_goats_147 {E : Ev} {p : Program} {l : Launch} {e : Env} {s : State} {m : MethodId} {args : Array Value} {below : List Frame} {meth : Method} {c : Code} (C : Cx E RX12 cX12_goats 10 p s m c) (hr : meth.sig.returnType = (some .int)) (hk : meth.locks = false) {S : Sh} {R : Rw} {r : Iw × Int32}  {ko44 : Iw → Nat → Int32 → Int32 → Int32 → Int32 → Int32 → Int32 → Option (Iw × Int32)} (hko44 : ∀ (I : Iw) (a0 : Nat) (x1 : Int32) (x2 : Int32) (x3 : Int32) (x4 : Int32) (x5 : Int32) (x6 : Int32), ko44 I a0 x1 x2 x3 x4 x5 x6 = some r → Wk E 10 p l e ({ frames := 5, cells := 0, slots := 0, locals := 111 } : Room) s m args below meth c 0 0 (MQ below (Qw E S R r.1 (some (.int r.2))) args s 0 0 (fun q => E.1 ≤ q)) 44 [(0, .ref (E.1 + a0)), (1, .int x1), (2, .int x2), (3, .int x3), (4, .int x4), (5, .int x5), (6, .int x6)] [] S R I) : ∀ (I : Iw) (a0 : Nat) (x1 : Int32) (x2 : Int32) (x3 : Int32) (x5 : Int32) (x6 : Int32) (x9 : Int32) (s0 : Int32), f_X12_goats_147 S R ko44  I a0 x1 x2 x3 x5 x6 x9 s0 = some r → Wk E 10 p l e ({ frames := 5, cells := 0, slots := 0, locals := 111 } : Room) s m args below meth c 0 0 (MQ below (Qw E S R r.1 (some (.int r.2))) args s 0 0 (fun q => E.1 ≤ q)) 147 [(0, .ref (E.1 + a0)), (1, .int x1), (2, .int x2), (3, .int x3), (5, .int x5), (6, .int x6), (9, .int x9)] [.int s0] S R I := by
  intro I a0 x1 x2 x3 x5 x6 x9 s0 h
  rw [f_X12_goats_147] at h
  refine k_istore (pc := 147) C dX12_goats_147 (by decide) (L2 := [(0, .ref (E.1 + a0)), (1, .int x1), (2, .int x2), (3, .int x3), (4, .int s0), (5, .int x5), (6, .int x6), (9, .int x9)]) rfl ?_
  refine k_iload (pc := 149) C dX12_goats_149 4 rfl ?_
  refine k_if_ne (pc := 151) C dX12_goats_151 (tgt := 179) (by decide) (fun hc18 => ?_) (fun hc18 => ?_)
  · rw [if_neg hc18] at h
    refine k_loc (L2 := [(0, .ref (E.1 + a0)), (1, .int x1), (2, .int x2), (3, .int x3), (4, .int s0), (5, .int x5), (6, .int x6)]) [0, 1, 2, 3, 4, 5, 6] rfl ?_
    exact b_X12_goats_179 C hr hk hko44 _ _ _ _ _ _ _ _ h
  · rw [if_pos hc18] at h
    refine k_iload (pc := 154) C dX12_goats_154 5 rfl ?_
    refine k_aloadn (pc := 156) C dX12_goats_156 (i := 0) rfl 0 rfl ?_
    refine k_iload (pc := 157) C dX12_goats_157 7 rfl ?_
    obtain ⟨hs190, h⟩ := gp_e h
    have hs19 := sok_e hs190
    obtain ⟨r20, hr20, h⟩ := bd_e h
    refine k_V (pc := 159) (st := [.int x5]) C (c_X12_mayGo hr20) lkV_RX12_257 hs19 rfl rfl rfl (Nat.le_of_ble_eq_true rfl) (Nat.le_of_ble_eq_true rfl) (Nat.le_of_ble_eq_true rfl) (Nat.le_of_ble_eq_true rfl) (Nat.le_of_ble_eq_true rfl) dX12_goats_159 ?_
    refine k_nf (cells2 := 0) (slots2 := 0) (st2 := [.int r20, .int x5]) rfl rfl rfl ?_
    refine k_if_eq (pc := 162) C dX12_goats_162 (tgt := 169) (by decide) (fun hc21 => ?_) (fun hc21 => ?_)
    · rw [if_pos hc21] at h
      refine k_iconst (pc := 169) C (v := (1 : Int32)) dX12_goats_169 (by decide) ?_
      refine k_loc (L2 := [(0, .ref (E.1 + a0)), (1, .int x1), (2, .int x2), (3, .int x3), (4, .int s0), (6, .int x6), (9, .int x9)]) [0, 1, 2, 3, 4, 6, 7] rfl ?_
      exact b_X12_goats_170 C hr hk hko44 _ _ _ _ _ _ _ _ _ _ h
    · rw [if_neg hc21] at h
      refine k_iconst (pc := 165) C (v := (0 : Int32)) dX12_goats_165 (by decide) ?_
      refine k_goto (pc := 166) C dX12_goats_166 (tgt := 170) (by decide) ?_
      refine k_loc (L2 := [(0, .ref (E.1 + a0)), (1, .int x1), (2, .int x2), (3, .int x3), (4, .int s0), (6, .int x6), (9, .int x9)]) [0, 1, 2, 3, 4, 6, 7] rfl ?_
      exact b_X12_goats_170 C hr hk hko44 _ _ _ _ _ _ _ _ _ _ h
def f_X12_goats_145 (S : Sh) (R : Rw) (ko44 : Iw → Nat → Int32 → Int32 → Int32 → Int32 → Int32 → Int32 → Option (Iw × Int32)) (I : Iw) (a0 : Nat) (x1 : Int32) (x2 : Int32) (x3 : Int32) (x4 : Int32) (x5 : Int32) (x6 : Int32) (x9 : Int32) : Option (Iw × Int32) := f_X12_goats_147 S R ko44 I a0 x1 x2 x3 x5 x6 x9 x4
set_option maxHeartbeats 4000000 in
theorem b_X12_goats_145 {E : Ev} {p : Program} {l : Launch} {e : Env} {s : State} {m : MethodId} {args : Array Value} {below : List Frame} {meth : Method} {c : Code} (C : Cx E RX12 cX12_goats 10 p s m c) (hr : meth.sig.returnType = (some .int)) (hk : meth.locks = false) {S : Sh} {R : Rw} {r : Iw × Int32}  {ko44 : Iw → Nat → Int32 → Int32 → Int32 → Int32 → Int32 → Int32 → Option (Iw × Int32)} (hko44 : ∀ (I : Iw) (a0 : Nat) (x1 : Int32) (x2 : Int32) (x3 : Int32) (x4 : Int32) (x5 : Int32) (x6 : Int32), ko44 I a0 x1 x2 x3 x4 x5 x6 = some r → Wk E 10 p l e ({ frames := 5, cells := 0, slots := 0, locals := 111 } : Room) s m args below meth c 0 0 (MQ below (Qw E S R r.1 (some (.int r.2))) args s 0 0 (fun q => E.1 ≤ q)) 44 [(0, .ref (E.1 + a0)), (1, .int x1), (2, .int x2), (3, .int x3), (4, .int x4), (5, .int x5), (6, .int x6)] [] S R I) : ∀ (I : Iw) (a0 : Nat) (x1 : Int32) (x2 : Int32) (x3 : Int32) (x4 : Int32) (x5 : Int32) (x6 : Int32) (x9 : Int32), f_X12_goats_145 S R ko44  I a0 x1 x2 x3 x4 x5 x6 x9 = some r → Wk E 10 p l e ({ frames := 5, cells := 0, slots := 0, locals := 111 } : Room) s m args below meth c 0 0 (MQ below (Qw E S R r.1 (some (.int r.2))) args s 0 0 (fun q => E.1 ≤ q)) 145 [(0, .ref (E.1 + a0)), (1, .int x1), (2, .int x2), (3, .int x3), (4, .int x4), (5, .int x5), (6, .int x6), (9, .int x9)] [] S R I := by
  intro I a0 x1 x2 x3 x4 x5 x6 x9 h
  rw [f_X12_goats_145] at h
  refine k_iload (pc := 145) C dX12_goats_145 4 rfl ?_
  refine k_loc (L2 := [(0, .ref (E.1 + a0)), (1, .int x1), (2, .int x2), (3, .int x3), (5, .int x5), (6, .int x6), (9, .int x9)]) [0, 1, 2, 3, 5, 6, 7] rfl ?_
  exact b_X12_goats_147 C hr hk hko44 _ _ _ _ _ _ _ _ _ h
def f_X12_goats_140 (S : Sh) (R : Rw) (ko44 : Iw → Nat → Int32 → Int32 → Int32 → Int32 → Int32 → Int32 → Option (Iw × Int32)) (I : Iw) (a0 : Nat) (x1 : Int32) (x2 : Int32) (x3 : Int32) (x5 : Int32) (x6 : Int32) (x9 : Int32) : Option (Iw × Int32) := f_X12_goats_147 S R ko44 I a0 x1 x2 x3 x5 x6 x9 (-4 : Int32)
set_option maxHeartbeats 4000000 in
theorem b_X12_goats_140 {E : Ev} {p : Program} {l : Launch} {e : Env} {s : State} {m : MethodId} {args : Array Value} {below : List Frame} {meth : Method} {c : Code} (C : Cx E RX12 cX12_goats 10 p s m c) (hr : meth.sig.returnType = (some .int)) (hk : meth.locks = false) {S : Sh} {R : Rw} {r : Iw × Int32}  {ko44 : Iw → Nat → Int32 → Int32 → Int32 → Int32 → Int32 → Int32 → Option (Iw × Int32)} (hko44 : ∀ (I : Iw) (a0 : Nat) (x1 : Int32) (x2 : Int32) (x3 : Int32) (x4 : Int32) (x5 : Int32) (x6 : Int32), ko44 I a0 x1 x2 x3 x4 x5 x6 = some r → Wk E 10 p l e ({ frames := 5, cells := 0, slots := 0, locals := 111 } : Room) s m args below meth c 0 0 (MQ below (Qw E S R r.1 (some (.int r.2))) args s 0 0 (fun q => E.1 ≤ q)) 44 [(0, .ref (E.1 + a0)), (1, .int x1), (2, .int x2), (3, .int x3), (4, .int x4), (5, .int x5), (6, .int x6)] [] S R I) : ∀ (I : Iw) (a0 : Nat) (x1 : Int32) (x2 : Int32) (x3 : Int32) (x5 : Int32) (x6 : Int32) (x9 : Int32), f_X12_goats_140 S R ko44  I a0 x1 x2 x3 x5 x6 x9 = some r → Wk E 10 p l e ({ frames := 5, cells := 0, slots := 0, locals := 111 } : Room) s m args below meth c 0 0 (MQ below (Qw E S R r.1 (some (.int r.2))) args s 0 0 (fun q => E.1 ≤ q)) 140 [(0, .ref (E.1 + a0)), (1, .int x1), (2, .int x2), (3, .int x3), (5, .int x5), (6, .int x6), (9, .int x9)] [] S R I := by
  intro I a0 x1 x2 x3 x5 x6 x9 h
  rw [f_X12_goats_140] at h
  refine k_bipush (pc := 140) C (v := (-4 : Int32)) dX12_goats_140 (by decide) ?_
  refine k_goto (pc := 142) C dX12_goats_142 (tgt := 147) (by decide) ?_
  exact b_X12_goats_147 C hr hk hko44 _ _ _ _ _ _ _ _ _ h
def f_X12_goats_114 (S : Sh) (R : Rw) (ko44 : Iw → Nat → Int32 → Int32 → Int32 → Int32 → Int32 → Int32 → Option (Iw × Int32)) (I : Iw) (a0 : Nat) (x1 : Int32) (x2 : Int32) (x3 : Int32) (x4 : Int32) (x5 : Int32) (x6 : Int32) (s0 : Int32) : Option (Iw × Int32) := (if x4 = 0 then gp (sok S a0 12 34) (bd (f_X12_is S R I a0 s0 (3 : Int32)) (fun r25 => (if r25 = 0 then f_X12_goats_140 S R ko44 I a0 x1 x2 x3 x5 x6 s0 else bd (f_X12_isTop S R I a0 s0) (fun r27 => (if r27 = 0 then f_X12_goats_140 S R ko44 I a0 x1 x2 x3 x5 x6 s0 else f_X12_goats_145 S R ko44 I a0 x1 x2 x3 x4 x5 x6 s0))))) else f_X12_goats_145 S R ko44 I a0 x1 x2 x3 x4 x5 x6 s0)
set_option maxHeartbeats 4000000 in
theorem b_X12_goats_114 {E : Ev} {p : Program} {l : Launch} {e : Env} {s : State} {m : MethodId} {args : Array Value} {below : List Frame} {meth : Method} {c : Code} (C : Cx E RX12 cX12_goats 10 p s m c) (hr : meth.sig.returnType = (some .int)) (hk : meth.locks = false) {S : Sh} {R : Rw} {r : Iw × Int32}  {ko44 : Iw → Nat → Int32 → Int32 → Int32 → Int32 → Int32 → Int32 → Option (Iw × Int32)} (hko44 : ∀ (I : Iw) (a0 : Nat) (x1 : Int32) (x2 : Int32) (x3 : Int32) (x4 : Int32) (x5 : Int32) (x6 : Int32), ko44 I a0 x1 x2 x3 x4 x5 x6 = some r → Wk E 10 p l e ({ frames := 5, cells := 0, slots := 0, locals := 111 } : Room) s m args below meth c 0 0 (MQ below (Qw E S R r.1 (some (.int r.2))) args s 0 0 (fun q => E.1 ≤ q)) 44 [(0, .ref (E.1 + a0)), (1, .int x1), (2, .int x2), (3, .int x3), (4, .int x4), (5, .int x5), (6, .int x6)] [] S R I) : ∀ (I : Iw) (a0 : Nat) (x1 : Int32) (x2 : Int32) (x3 : Int32) (x4 : Int32) (x5 : Int32) (x6 : Int32) (s0 : Int32), f_X12_goats_114 S R ko44  I a0 x1 x2 x3 x4 x5 x6 s0 = some r → Wk E 10 p l e ({ frames := 5, cells := 0, slots := 0, locals := 111 } : Room) s m args below meth c 0 0 (MQ below (Qw E S R r.1 (some (.int r.2))) args s 0 0 (fun q => E.1 ≤ q)) 114 [(0, .ref (E.1 + a0)), (1, .int x1), (2, .int x2), (3, .int x3), (4, .int x4), (5, .int x5), (6, .int x6)] [.int s0] S R I := by
  intro I a0 x1 x2 x3 x4 x5 x6 s0 h
  rw [f_X12_goats_114] at h
  refine k_istore (pc := 114) C dX12_goats_114 (by decide) (L2 := [(0, .ref (E.1 + a0)), (1, .int x1), (2, .int x2), (3, .int x3), (4, .int x4), (5, .int x5), (6, .int x6), (9, .int s0)]) rfl ?_
  refine k_iload (pc := 116) C dX12_goats_116 4 rfl ?_
  refine k_if_ne (pc := 118) C dX12_goats_118 (tgt := 145) (by decide) (fun hc17 => ?_) (fun hc17 => ?_)
  · rw [if_neg hc17] at h
    exact b_X12_goats_145 C hr hk hko44 _ _ _ _ _ _ _ _ _ h
  · rw [if_pos hc17] at h
    refine k_aloadn (pc := 121) C dX12_goats_121 (i := 0) rfl 0 rfl ?_
    refine k_iload (pc := 122) C dX12_goats_122 7 rfl ?_
    refine k_iconst (pc := 124) C (v := (3 : Int32)) dX12_goats_124 (by decide) ?_
    obtain ⟨hs240, h⟩ := gp_e h
    have hs24 := sok_e hs240
    obtain ⟨r25, hr25, h⟩ := bd_e h
    refine k_V (pc := 125) (st := []) C (c_X12_is hr25) lkV_RX12_251 hs24 rfl rfl rfl (Nat.le_of_ble_eq_true rfl) (Nat.le_of_ble_eq_true rfl) (Nat.le_of_ble_eq_true rfl) (Nat.le_of_ble_eq_true rfl) (Nat.le_of_ble_eq_true rfl) dX12_goats_125 ?_
    refine k_nf (cells2 := 0) (slots2 := 0) (st2 := [.int r25]) rfl rfl rfl ?_
    refine k_if_eq (pc := 128) C dX12_goats_128 (tgt := 140) (by decide) (fun hc26 => ?_) (fun hc26 => ?_)
    · rw [if_pos hc26] at h
      refine k_loc (L2 := [(0, .ref (E.1 + a0)), (1, .int x1), (2, .int x2), (3, .int x3), (5, .int x5), (6, .int x6), (9, .int s0)]) [0, 1, 2, 3, 5, 6, 7] rfl ?_
      exact b_X12_goats_140 C hr hk hko44 _ _ _ _ _ _ _ _ h
    · rw [if_neg hc26] at h
      refine k_aloadn (pc := 131) C dX12_goats_131 (i := 0) rfl 0 rfl ?_
      refine k_iload (pc := 132) C dX12_goats_132 7 rfl ?_
      obtain ⟨r27, hr27, h⟩ := bd_e h
      refine k_V (pc := 134) (st := []) C (c_X12_isTop hr27) lkV_RX12_245 hs24 rfl rfl rfl (Nat.le_of_ble_eq_true rfl) (Nat.le_of_ble_eq_true rfl) (Nat.le_of_ble_eq_true rfl) (Nat.le_of_ble_eq_true rfl) (Nat.le_of_ble_eq_true rfl) dX12_goats_134 ?_
      refine k_nf (cells2 := 0) (slots2 := 0) (st2 := [.int r27]) rfl rfl rfl ?_
      refine k_if_ne (pc := 137) C dX12_goats_137 (tgt := 145) (by decide) (fun hc28 => ?_) (fun hc28 => ?_)
      · rw [if_neg hc28] at h
        exact b_X12_goats_145 C hr hk hko44 _ _ _ _ _ _ _ _ _ h
      · rw [if_pos hc28] at h
        refine k_loc (L2 := [(0, .ref (E.1 + a0)), (1, .int x1), (2, .int x2), (3, .int x3), (5, .int x5), (6, .int x6), (9, .int s0)]) [0, 1, 2, 3, 5, 6, 7] rfl ?_
        exact b_X12_goats_140 C hr hk hko44 _ _ _ _ _ _ _ _ h
def f_X12_goats_89 (S : Sh) (R : Rw) (ko44 : Iw → Nat → Int32 → Int32 → Int32 → Int32 → Int32 → Int32 → Option (Iw × Int32)) (I : Iw) (a0 : Nat) (x1 : Int32) (x2 : Int32) (x3 : Int32) (x5 : Int32) (x6 : Int32) (s0 : Int32) : Option (Iw × Int32) := (if s0 = 0 then gp (sok S a0 12 34) (rl (R a0 24) (fun b30 => gp (aok S 20 b30 ((((40 : Int32) * x1) + x2) + x6)) (f_X12_goats_114 S R ko44 I a0 x1 x2 x3 s0 x5 x6 (I b30 ((((40 : Int32) * x1) + x2) + x6).toNatClampNeg)))) else f_X12_goats_114 S R ko44 I a0 x1 x2 x3 s0 x5 x6 (-1 : Int32))
set_option maxHeartbeats 4000000 in
theorem b_X12_goats_89 {E : Ev} {p : Program} {l : Launch} {e : Env} {s : State} {m : MethodId} {args : Array Value} {below : List Frame} {meth : Method} {c : Code} (C : Cx E RX12 cX12_goats 10 p s m c) (hr : meth.sig.returnType = (some .int)) (hk : meth.locks = false) {S : Sh} {R : Rw} {r : Iw × Int32}  {ko44 : Iw → Nat → Int32 → Int32 → Int32 → Int32 → Int32 → Int32 → Option (Iw × Int32)} (hko44 : ∀ (I : Iw) (a0 : Nat) (x1 : Int32) (x2 : Int32) (x3 : Int32) (x4 : Int32) (x5 : Int32) (x6 : Int32), ko44 I a0 x1 x2 x3 x4 x5 x6 = some r → Wk E 10 p l e ({ frames := 5, cells := 0, slots := 0, locals := 111 } : Room) s m args below meth c 0 0 (MQ below (Qw E S R r.1 (some (.int r.2))) args s 0 0 (fun q => E.1 ≤ q)) 44 [(0, .ref (E.1 + a0)), (1, .int x1), (2, .int x2), (3, .int x3), (4, .int x4), (5, .int x5), (6, .int x6)] [] S R I) : ∀ (I : Iw) (a0 : Nat) (x1 : Int32) (x2 : Int32) (x3 : Int32) (x5 : Int32) (x6 : Int32) (s0 : Int32), f_X12_goats_89 S R ko44  I a0 x1 x2 x3 x5 x6 s0 = some r → Wk E 10 p l e ({ frames := 5, cells := 0, slots := 0, locals := 111 } : Room) s m args below meth c 0 0 (MQ below (Qw E S R r.1 (some (.int r.2))) args s 0 0 (fun q => E.1 ≤ q)) 89 [(0, .ref (E.1 + a0)), (1, .int x1), (2, .int x2), (3, .int x3), (5, .int x5), (6, .int x6)] [.int s0] S R I := by
  intro I a0 x1 x2 x3 x5 x6 s0 h
  rw [f_X12_goats_89] at h
  refine k_istore (pc := 89) C dX12_goats_89 (by decide) (L2 := [(0, .ref (E.1 + a0)), (1, .int x1), (2, .int x2), (3, .int x3), (4, .int s0), (5, .int x5), (6, .int x6)]) rfl ?_
  refine k_iload (pc := 91) C dX12_goats_91 4 rfl ?_
  refine k_if_ne (pc := 93) C dX12_goats_93 (tgt := 113) (by decide) (fun hc16 => ?_) (fun hc16 => ?_)
  · rw [if_neg hc16] at h
    refine k_iconst (pc := 113) C (v := (-1 : Int32)) dX12_goats_113 (by decide) ?_
    exact b_X12_goats_114 C hr hk hko44 _ _ _ _ _ _ _ _ _ h
  · rw [if_pos hc16] at h
    refine k_aloadn (pc := 96) C dX12_goats_96 (i := 0) rfl 0 rfl ?_
    obtain ⟨hs290, h⟩ := gp_e h
    have hs29 := sok_e hs290
    obtain ⟨b30, hb30, h⟩ := rl_e h
    refine k_getR (pc := 97) C lkF_RX12_77_12 hs29 ir_12_24 hb30 dX12_goats_97 ?_
    refine k_bipush (pc := 100) C (v := (40 : Int32)) dX12_goats_100 (by decide) ?_
    refine k_iloadn (pc := 102) C dX12_goats_102 (i := 1) rfl 1 rfl ?_
    refine k_imul (pc := 103) C dX12_goats_103 ?_
    refine k_iloadn (pc := 104) C dX12_goats_104 (i := 2) rfl 2 rfl ?_
    refine k_iadd (pc := 105) C dX12_goats_105 ?_
    refine k_iload (pc := 106) C dX12_goats_106 6 rfl ?_
    refine k_iadd (pc := 108) C dX12_goats_108 ?_
    obtain ⟨ha31, h⟩ := gp_e h
    refine k_iald (pc := 109) C ha31 dX12_goats_109 ?_
    refine k_goto (pc := 110) C dX12_goats_110 (tgt := 114) (by decide) ?_
    exact b_X12_goats_114 C hr hk hko44 _ _ _ _ _ _ _ _ _ h
def f_X12_goats_83 (S : Sh) (R : Rw) (ko44 : Iw → Nat → Int32 → Int32 → Int32 → Int32 → Int32 → Int32 → Option (Iw × Int32)) (I : Iw) (a0 : Nat) (x1 : Int32) (x2 : Int32) (x3 : Int32) (x5 : Int32) (x6 : Int32) : Option (Iw × Int32) := f_X12_goats_89 S R ko44 I a0 x1 x2 x3 x5 x6 (-12 : Int32)
set_option maxHeartbeats 4000000 in
theorem b_X12_goats_83 {E : Ev} {p : Program} {l : Launch} {e : Env} {s : State} {m : MethodId} {args : Array Value} {below : List Frame} {meth : Method} {c : Code} (C : Cx E RX12 cX12_goats 10 p s m c) (hr : meth.sig.returnType = (some .int)) (hk : meth.locks = false) {S : Sh} {R : Rw} {r : Iw × Int32}  {ko44 : Iw → Nat → Int32 → Int32 → Int32 → Int32 → Int32 → Int32 → Option (Iw × Int32)} (hko44 : ∀ (I : Iw) (a0 : Nat) (x1 : Int32) (x2 : Int32) (x3 : Int32) (x4 : Int32) (x5 : Int32) (x6 : Int32), ko44 I a0 x1 x2 x3 x4 x5 x6 = some r → Wk E 10 p l e ({ frames := 5, cells := 0, slots := 0, locals := 111 } : Room) s m args below meth c 0 0 (MQ below (Qw E S R r.1 (some (.int r.2))) args s 0 0 (fun q => E.1 ≤ q)) 44 [(0, .ref (E.1 + a0)), (1, .int x1), (2, .int x2), (3, .int x3), (4, .int x4), (5, .int x5), (6, .int x6)] [] S R I) : ∀ (I : Iw) (a0 : Nat) (x1 : Int32) (x2 : Int32) (x3 : Int32) (x5 : Int32) (x6 : Int32), f_X12_goats_83 S R ko44  I a0 x1 x2 x3 x5 x6 = some r → Wk E 10 p l e ({ frames := 5, cells := 0, slots := 0, locals := 111 } : Room) s m args below meth c 0 0 (MQ below (Qw E S R r.1 (some (.int r.2))) args s 0 0 (fun q => E.1 ≤ q)) 83 [(0, .ref (E.1 + a0)), (1, .int x1), (2, .int x2), (3, .int x3), (5, .int x5), (6, .int x6)] [] S R I := by
  intro I a0 x1 x2 x3 x5 x6 h
  rw [f_X12_goats_83] at h
  refine k_bipush (pc := 83) C (v := (-12 : Int32)) dX12_goats_83 (by decide) ?_
  refine k_goto (pc := 85) C dX12_goats_85 (tgt := 89) (by decide) ?_
  exact b_X12_goats_89 C hr hk hko44 _ _ _ _ _ _ _ _ h
def f_X12_goats_44 (S : Sh) (R : Rw)  : Nat → Iw → Nat → Int32 → Int32 → Int32 → Int32 → Int32 → Int32 → Option (Iw × Int32)
  | 0, _, _, _, _, _, _, _, _ => none
  | n + 1, I, a0, x1, x2, x3, x4, x5, x6 => (if x3 ≤ x6 then f_X12_goats_185 S R  I a0 x4 x5 else (if x4 = 0 then (if (lg_cmp (x2.toInt64 + x6.toInt64) (0 : Int64)) < 0 then f_X12_goats_83 S R (f_X12_goats_44 S R  n) I a0 x1 x2 x3 x5 x6 else gp (sok S a0 12 34) (rl (R a0 26) (fun b33 => gp (aok S 20 b33 x1) ((if (lg_cmp (x2.toInt64 + x6.toInt64) ((I b33 x1.toNatClampNeg).toInt64)) < 0 then f_X12_goats_89 S R (f_X12_goats_44 S R  n) I a0 x1 x2 x3 x5 x6 (0 : Int32) else f_X12_goats_83 S R (f_X12_goats_44 S R  n) I a0 x1 x2 x3 x5 x6))))) else f_X12_goats_185 S R  I a0 x4 x5))
set_option maxHeartbeats 4000000 in
theorem b_X12_goats_44 {E : Ev} {p : Program} {l : Launch} {e : Env} {s : State} {m : MethodId} {args : Array Value} {below : List Frame} {meth : Method} {c : Code} (C : Cx E RX12 cX12_goats 10 p s m c) (hr : meth.sig.returnType = (some .int)) (hk : meth.locks = false) {S : Sh} {R : Rw} {r : Iw × Int32}  : ∀ (n : Nat) (I : Iw) (a0 : Nat) (x1 : Int32) (x2 : Int32) (x3 : Int32) (x4 : Int32) (x5 : Int32) (x6 : Int32), f_X12_goats_44 S R  n I a0 x1 x2 x3 x4 x5 x6 = some r → Wk E 10 p l e ({ frames := 5, cells := 0, slots := 0, locals := 111 } : Room) s m args below meth c 0 0 (MQ below (Qw E S R r.1 (some (.int r.2))) args s 0 0 (fun q => E.1 ≤ q)) 44 [(0, .ref (E.1 + a0)), (1, .int x1), (2, .int x2), (3, .int x3), (4, .int x4), (5, .int x5), (6, .int x6)] [] S R I := by
  intro n
  induction n with
  | zero =>
    intro I a0 x1 x2 x3 x4 x5 x6 h
    rw [f_X12_goats_44] at h
    cases h
  | succ n ih =>
    intro I a0 x1 x2 x3 x4 x5 x6 h
    rw [f_X12_goats_44] at h
    refine k_iload (pc := 44) C dX12_goats_44 6 rfl ?_
    refine k_iloadn (pc := 46) C dX12_goats_46 (i := 3) rfl 3 rfl ?_
    refine k_icmp_ge (pc := 47) C dX12_goats_47 (tgt := 185) (by decide) (fun hc10 => ?_) (fun hc10 => ?_)
    · rw [if_pos hc10] at h
      refine k_loc (L2 := [(0, .ref (E.1 + a0)), (4, .int x4), (5, .int x5)]) [0, 4, 5] rfl ?_
      exact b_X12_goats_185 C hr hk  _ _ _ _ h
    · rw [if_neg hc10] at h
      refine k_iload (pc := 50) C dX12_goats_50 4 rfl ?_
      refine k_if_ne (pc := 52) C dX12_goats_52 (tgt := 185) (by decide) (fun hc14 => ?_) (fun hc14 => ?_)
      · rw [if_neg hc14] at h
        refine k_loc (L2 := [(0, .ref (E.1 + a0)), (4, .int x4), (5, .int x5)]) [0, 4, 5] rfl ?_
        exact b_X12_goats_185 C hr hk  _ _ _ _ h
      · rw [if_pos hc14] at h
        refine k_iloadn (pc := 55) C dX12_goats_55 (i := 2) rfl 2 rfl ?_
        refine k_i2l (pc := 56) C dX12_goats_56 ?_
        refine k_iload (pc := 57) C dX12_goats_57 6 rfl ?_
        refine k_i2l (pc := 59) C dX12_goats_59 ?_
        refine k_ladd (pc := 60) C dX12_goats_60 ?_
        refine k_lstore (pc := 61) C dX12_goats_61 (by decide) (L2 := [(0, .ref (E.1 + a0)), (1, .int x1), (2, .int x2), (3, .int x3), (4, .int x4), (5, .int x5), (6, .int x6), (7, .long (x2.toInt64 + x6.toInt64))]) rfl ?_
        refine k_lload (pc := 63) C dX12_goats_63 7 rfl ?_
        refine k_lconst (pc := 65) C (v := (0 : Int64)) dX12_goats_65 (by decide) ?_
        refine k_lcmp (pc := 66) C dX12_goats_66 ?_
        refine k_if_lt (pc := 67) C dX12_goats_67 (tgt := 83) (by decide) (fun hc15 => ?_) (fun hc15 => ?_)
        · rw [if_pos hc15] at h
          refine k_loc (L2 := [(0, .ref (E.1 + a0)), (1, .int x1), (2, .int x2), (3, .int x3), (5, .int x5), (6, .int x6)]) [0, 1, 2, 3, 5, 6] rfl ?_
          exact b_X12_goats_83 C hr hk ih _ _ _ _ _ _ _ h
        · rw [if_neg hc15] at h
          refine k_lload (pc := 70) C dX12_goats_70 7 rfl ?_
          refine k_aloadn (pc := 72) C dX12_goats_72 (i := 0) rfl 0 rfl ?_
          obtain ⟨hs320, h⟩ := gp_e h
          have hs32 := sok_e hs320
          obtain ⟨b33, hb33, h⟩ := rl_e h
          refine k_getR (pc := 73) C lkF_RX12_83_12 hs32 ir_12_26 hb33 dX12_goats_73 ?_
          refine k_iloadn (pc := 76) C dX12_goats_76 (i := 1) rfl 1 rfl ?_
          obtain ⟨ha34, h⟩ := gp_e h
          refine k_iald (pc := 77) C ha34 dX12_goats_77 ?_
          refine k_i2l (pc := 78) C dX12_goats_78 ?_
          refine k_lcmp (pc := 79) C dX12_goats_79 ?_
          refine k_if_lt (pc := 80) C dX12_goats_80 (tgt := 88) (by decide) (fun hc35 => ?_) (fun hc35 => ?_)
          · rw [if_pos hc35] at h
            refine k_iconst (pc := 88) C (v := (0 : Int32)) dX12_goats_88 (by decide) ?_
            refine k_loc (L2 := [(0, .ref (E.1 + a0)), (1, .int x1), (2, .int x2), (3, .int x3), (5, .int x5), (6, .int x6)]) [0, 1, 2, 3, 5, 6] rfl ?_
            exact b_X12_goats_89 C hr hk ih _ _ _ _ _ _ _ _ h
          · rw [if_neg hc35] at h
            refine k_loc (L2 := [(0, .ref (E.1 + a0)), (1, .int x1), (2, .int x2), (3, .int x3), (5, .int x5), (6, .int x6)]) [0, 1, 2, 3, 5, 6] rfl ?_
            exact b_X12_goats_83 C hr hk ih _ _ _ _ _ _ _ h
def f_X12_goats (S : Sh) (R : Rw)  (I : Iw) (a0 : Nat) (x1 : Int32) (x2 : Int32) (x3 : Int32) : Option (Iw × Int32) := bd (f_X12_isSheet S R I x1) (fun r1 => (if r1 = 0 then some (I, (-1 : Int32)) else bd (f_X12_in S R I x3 (0 : Int32) (9 : Int32)) (fun r3 => (if r3 = 0 then some (I, (-1 : Int32)) else gp (sok S a0 12 34) (bd (f_X12_refuses S R I a0 x1 (0 : Int32)) (fun r6 => rl (R a0 0) (fun b7 => rl (R a0 2) (fun b8 => bd (f_X12_copy S R I b7 b8) (fun r9 => f_X12_goats_44 S R  512 r9 a0 x1 x2 x3 r6 (0 : Int32) (0 : Int32))))))))))
set_option maxHeartbeats 4000000 in
theorem b_X12_goats {E : Ev} {p : Program} {l : Launch} {e : Env} {s : State} {m : MethodId} {args : Array Value} {below : List Frame} {meth : Method} {c : Code} (C : Cx E RX12 cX12_goats 10 p s m c) (hr : meth.sig.returnType = (some .int)) (hk : meth.locks = false) {S : Sh} {R : Rw} {r : Iw × Int32}  : ∀ (I : Iw) (a0 : Nat) (x1 : Int32) (x2 : Int32) (x3 : Int32), f_X12_goats S R   I a0 x1 x2 x3 = some r → Wk E 10 p l e ({ frames := 5, cells := 0, slots := 0, locals := 111 } : Room) s m args below meth c 0 0 (MQ below (Qw E S R r.1 (some (.int r.2))) args s 0 0 (fun q => E.1 ≤ q)) 0 [(0, .ref (E.1 + a0)), (1, .int x1), (2, .int x2), (3, .int x3)] [] S R I := by
  intro I a0 x1 x2 x3 h
  rw [f_X12_goats] at h
  refine k_iloadn (pc := 0) C dX12_goats_0 (i := 1) rfl 1 rfl ?_
  obtain ⟨r1, hr1, h⟩ := bd_e h
  refine k_S (pc := 1) (st := []) C (c_X12_isSheet hr1) lkS_RX12_329 rfl rfl (Nat.le_of_ble_eq_true rfl) (Nat.le_of_ble_eq_true rfl) (Nat.le_of_ble_eq_true rfl) (Nat.le_of_ble_eq_true rfl) (Nat.le_of_ble_eq_true rfl) dX12_goats_1 ?_
  refine k_nf (cells2 := 0) (slots2 := 0) (st2 := [.int r1]) rfl rfl rfl ?_
  refine k_if_eq (pc := 4) C dX12_goats_4 (tgt := 17) (by decide) (fun hc2 => ?_) (fun hc2 => ?_)
  · rw [if_pos hc2] at h
    refine k_iconst (pc := 17) C (v := (-1 : Int32)) dX12_goats_17 (by decide) ?_
    have h := Option.some.inj h
    subst h
    exact k_iret (pc := 18) C hr hk dX12_goats_18
  · rw [if_neg hc2] at h
    refine k_iloadn (pc := 7) C dX12_goats_7 (i := 3) rfl 3 rfl ?_
    refine k_iconst (pc := 8) C (v := (0 : Int32)) dX12_goats_8 (by decide) ?_
    refine k_bipush (pc := 9) C (v := (9 : Int32)) dX12_goats_9 (by decide) ?_
    obtain ⟨r3, hr3, h⟩ := bd_e h
    refine k_S (pc := 11) (st := []) C (c_X12_in hr3) lkS_RX12_98 rfl rfl (Nat.le_of_ble_eq_true rfl) (Nat.le_of_ble_eq_true rfl) (Nat.le_of_ble_eq_true rfl) (Nat.le_of_ble_eq_true rfl) (Nat.le_of_ble_eq_true rfl) dX12_goats_11 ?_
    refine k_nf (cells2 := 0) (slots2 := 0) (st2 := [.int r3]) rfl rfl rfl ?_
    refine k_if_ne (pc := 14) C dX12_goats_14 (tgt := 19) (by decide) (fun hc4 => ?_) (fun hc4 => ?_)
    · rw [if_neg hc4] at h
      refine k_aloadn (pc := 19) C dX12_goats_19 (i := 0) rfl 0 rfl ?_
      refine k_iloadn (pc := 20) C dX12_goats_20 (i := 1) rfl 1 rfl ?_
      refine k_iconst (pc := 21) C (v := (0 : Int32)) dX12_goats_21 (by decide) ?_
      obtain ⟨hs50, h⟩ := gp_e h
      have hs5 := sok_e hs50
      obtain ⟨r6, hr6, h⟩ := bd_e h
      refine k_V (pc := 22) (st := []) C (c_X12_refuses hr6) lkV_RX12_332 hs5 rfl rfl rfl (Nat.le_of_ble_eq_true rfl) (Nat.le_of_ble_eq_true rfl) (Nat.le_of_ble_eq_true rfl) (Nat.le_of_ble_eq_true rfl) (Nat.le_of_ble_eq_true rfl) dX12_goats_22 ?_
      refine k_nf (cells2 := 0) (slots2 := 0) (st2 := [.int r6]) rfl rfl rfl ?_
      refine k_istore (pc := 25) C dX12_goats_25 (by decide) (L2 := [(0, .ref (E.1 + a0)), (1, .int x1), (2, .int x2), (3, .int x3), (4, .int r6)]) rfl ?_
      refine k_aloadn (pc := 27) C dX12_goats_27 (i := 0) rfl 0 rfl ?_
      obtain ⟨b7, hb7, h⟩ := rl_e h
      refine k_getR (pc := 28) C lkF_RX12_9_12 hs5 ir_12_0 hb7 dX12_goats_28 ?_
      refine k_aloadn (pc := 31) C dX12_goats_31 (i := 0) rfl 0 rfl ?_
      obtain ⟨b8, hb8, h⟩ := rl_e h
      refine k_getR (pc := 32) C lkF_RX12_16_12 hs5 ir_12_2 hb8 dX12_goats_32 ?_
      obtain ⟨r9, hr9, h⟩ := bd_e h
      refine k_S (pc := 35) (st := []) C (c_X12_copy hr9) lkS_RX12_102 rfl rfl (Nat.le_of_ble_eq_true rfl) (Nat.le_of_ble_eq_true rfl) (Nat.le_of_ble_eq_true rfl) (Nat.le_of_ble_eq_true rfl) (Nat.le_of_ble_eq_true rfl) dX12_goats_35 ?_
      refine k_nf (cells2 := 0) (slots2 := 0) (st2 := []) rfl rfl rfl ?_
      refine k_iconst (pc := 38) C (v := (0 : Int32)) dX12_goats_38 (by decide) ?_
      refine k_istore (pc := 39) C dX12_goats_39 (by decide) (L2 := [(0, .ref (E.1 + a0)), (1, .int x1), (2, .int x2), (3, .int x3), (4, .int r6), (5, .int (0 : Int32))]) rfl ?_
      refine k_iconst (pc := 41) C (v := (0 : Int32)) dX12_goats_41 (by decide) ?_
      refine k_istore (pc := 42) C dX12_goats_42 (by decide) (L2 := [(0, .ref (E.1 + a0)), (1, .int x1), (2, .int x2), (3, .int x3), (4, .int r6), (5, .int (0 : Int32)), (6, .int (0 : Int32))]) rfl ?_
      exact b_X12_goats_44 C hr hk  _ _ _ _ _ _ _ _ _ h
    · rw [if_pos hc4] at h
      refine k_iconst (pc := 17) C (v := (-1 : Int32)) dX12_goats_17 (by decide) ?_
      have h := Option.some.inj h
      subst h
      exact k_iret (pc := 18) C hr hk dX12_goats_18
theorem c_X12_goats {E : Ev} {l : Launch} {S : Sh} {R : Rw} {I : Iw} {a0 : Nat} {x1 : Int32} {x2 : Int32} {x3 : Int32} {r : Iw × Int32} (h : f_X12_goats S R I a0 x1 x2 x3 = some r) : Mt E l yX12_goats cX12_goats 10 (some .int) 5 111 [.ref (E.1 + a0), .int x1, .int x2, .int x3] S R I S R r.1 (some (.int r.2)) 0 0 := mt_of (by decide) (Nat.le_of_ble_eq_true rfl) (fun p e s m args below meth c C hr hk hn => b_X12_goats C hr hk _ _ _ _ _ h)
theorem lkF_RX12_86_12 : LkF RX12 86 12 27 := ⟨RX12, TX12, 34, "UnlikeNeighboursModel", fc12, by decide, (t5_in 108 (by decide +kernel) rfl), Or.inl rfl⟩
theorem lkF_RX12_89_12 : LkF RX12 89 12 28 := ⟨RX12, TX12, 34, "UnlikeNeighboursModel", fc12, by decide, (t5_in 109 (by decide +kernel) rfl), Or.inl rfl⟩
theorem lkF_RX12_92_12 : LkF RX12 92 12 29 := ⟨RX12, TX12, 34, "UnlikeNeighboursModel", fc12, by decide, (t5_in 110 (by decide +kernel) rfl), Or.inl rfl⟩
theorem dX12_shelf_0 : decode cX12_shelf 0 = .ok (.iload_n 1, 1) := by decide +kernel
theorem dX12_shelf_1 : decode cX12_shelf 1 = .ok (.iconst 0, 1) := by decide +kernel
theorem dX12_shelf_2 : decode cX12_shelf 2 = .ok (.iconst 3, 1) := by decide +kernel
theorem dX12_shelf_3 : decode cX12_shelf 3 = .ok (.invokestatic 98, 3) := by decide +kernel
theorem dX12_shelf_6 : decode cX12_shelf 6 = .ok (.ifCond .eq 37, 3) := by decide +kernel
theorem dX12_shelf_9 : decode cX12_shelf 9 = .ok (.iload_n 2, 1) := by decide +kernel
theorem dX12_shelf_10 : decode cX12_shelf 10 = .ok (.iconst 0, 1) := by decide +kernel
theorem dX12_shelf_11 : decode cX12_shelf 11 = .ok (.iconst 2, 1) := by decide +kernel
theorem dX12_shelf_12 : decode cX12_shelf 12 = .ok (.invokestatic 98, 3) := by decide +kernel
theorem dX12_shelf_15 : decode cX12_shelf 15 = .ok (.ifCond .eq 28, 3) := by decide +kernel
theorem dX12_shelf_18 : decode cX12_shelf 18 = .ok (.iload_n 2, 1) := by decide +kernel
theorem dX12_shelf_19 : decode cX12_shelf 19 = .ok (.ifCond .ne 12, 3) := by decide +kernel
theorem dX12_shelf_22 : decode cX12_shelf 22 = .ok (.aload_n 0, 1) := by decide +kernel
theorem dX12_shelf_23 : decode cX12_shelf 23 = .ok (.iload_n 3, 1) := by decide +kernel
theorem dX12_shelf_24 : decode cX12_shelf 24 = .ok (.iconst 3, 1) := by decide +kernel
theorem dX12_shelf_25 : decode cX12_shelf 25 = .ok (.invokevirtual 251, 3) := by decide +kernel
theorem dX12_shelf_28 : decode cX12_shelf 28 = .ok (.ifCond .eq 15, 3) := by decide +kernel
theorem dX12_shelf_31 : decode cX12_shelf 31 = .ok (.iload_n 2, 1) := by decide +kernel
theorem dX12_shelf_32 : decode cX12_shelf 32 = .ok (.iconst 1, 1) := by decide +kernel
theorem dX12_shelf_33 : decode cX12_shelf 33 = .ok (.if_icmp .ne 12, 3) := by decide +kernel
theorem dX12_shelf_36 : decode cX12_shelf 36 = .ok (.iload_n 3, 1) := by decide +kernel
theorem dX12_shelf_37 : decode cX12_shelf 37 = .ok (.invokestatic 329, 3) := by decide +kernel
theorem dX12_shelf_40 : decode cX12_shelf 40 = .ok (.ifCond .ne 5, 3) := by decide +kernel
theorem dX12_shelf_43 : decode cX12_shelf 43 = .ok (.iconst (-1), 1) := by decide +kernel
theorem dX12_shelf_44 : decode cX12_shelf 44 = .ok (.ireturn, 1) := by decide +kernel
theorem dX12_shelf_45 : decode cX12_shelf 45 = .ok (.aload_n 0, 1) := by decide +kernel
theorem dX12_shelf_46 : decode cX12_shelf 46 = .ok (.getfield 86, 3) := by decide +kernel
theorem dX12_shelf_49 : decode cX12_shelf 49 = .ok (.iload_n 1, 1) := by decide +kernel
theorem dX12_shelf_50 : decode cX12_shelf 50 = .ok (.iload_n 2, 1) := by decide +kernel
theorem dX12_shelf_51 : decode cX12_shelf 51 = .ok (.ifCond .ne 7, 3) := by decide +kernel
theorem dX12_shelf_54 : decode cX12_shelf 54 = .ok (.iconst 1, 1) := by decide +kernel
theorem dX12_shelf_55 : decode cX12_shelf 55 = .ok (.goto 22, 3) := by decide +kernel
theorem dX12_shelf_58 : decode cX12_shelf 58 = .ok (.iload_n 2, 1) := by decide +kernel
theorem dX12_shelf_59 : decode cX12_shelf 59 = .ok (.iconst 1, 1) := by decide +kernel
theorem dX12_shelf_60 : decode cX12_shelf 60 = .ok (.if_icmp .ne 16, 3) := by decide +kernel
theorem dX12_shelf_63 : decode cX12_shelf 63 = .ok (.aload_n 0, 1) := by decide +kernel
theorem dX12_shelf_64 : decode cX12_shelf 64 = .ok (.getfield 80, 3) := by decide +kernel
theorem dX12_shelf_67 : decode cX12_shelf 67 = .ok (.iload_n 3, 1) := by decide +kernel
theorem dX12_shelf_68 : decode cX12_shelf 68 = .ok (.iaload, 1) := by decide +kernel
theorem dX12_shelf_69 : decode cX12_shelf 69 = .ok (.ifCond .lt 7, 3) := by decide +kernel
theorem dX12_shelf_72 : decode cX12_shelf 72 = .ok (.iconst 2, 1) := by decide +kernel
theorem dX12_shelf_73 : decode cX12_shelf 73 = .ok (.goto 4, 3) := by decide +kernel
theorem dX12_shelf_76 : decode cX12_shelf 76 = .ok (.iconst 0, 1) := by decide +kernel
theorem dX12_shelf_77 : decode cX12_shelf 77 = .ok (.iastore, 1) := by decide +kernel
theorem dX12_shelf_78 : decode cX12_shelf 78 = .ok (.aload_n 0, 1) := by decide +kernel
theorem dX12_shelf_79 : decode cX12_shelf 79 = .ok (.getfield 89, 3) := by decide +kernel
theorem dX12_shelf_82 : decode cX12_shelf 82 = .ok (.iload_n 1, 1) := by decide +kernel
theorem dX12_shelf_83 : decode cX12_shelf 83 = .ok (.iload_n 2, 1) := by decide +kernel
theorem dX12_shelf_84 : decode cX12_shelf 84 = .ok (.ifCond .ne 7, 3) := by decide +kernel
theorem dX12_shelf_87 : decode cX12_shelf 87 = .ok (.iload_n 3, 1) := by decide +kernel
theorem dX12_shelf_88 : decode cX12_shelf 88 = .ok (.goto 18, 3) := by decide +kernel
theorem dX12_shelf_91 : decode cX12_shelf 91 = .ok (.iload_n 2, 1) := by decide +kernel
theorem dX12_shelf_92 : decode cX12_shelf 92 = .ok (.iconst 1, 1) := by decide +kernel
theorem dX12_shelf_93 : decode cX12_shelf 93 = .ok (.if_icmp .ne 12, 3) := by decide +kernel
theorem dX12_shelf_96 : decode cX12_shelf 96 = .ok (.aload_n 0, 1) := by decide +kernel
theorem dX12_shelf_97 : decode cX12_shelf 97 = .ok (.getfield 80, 3) := by decide +kernel
theorem dX12_shelf_100 : decode cX12_shelf 100 = .ok (.iload_n 3, 1) := by decide +kernel
theorem dX12_shelf_101 : decode cX12_shelf 101 = .ok (.iaload, 1) := by decide +kernel
theorem dX12_shelf_102 : decode cX12_shelf 102 = .ok (.goto 4, 3) := by decide +kernel
theorem dX12_shelf_105 : decode cX12_shelf 105 = .ok (.iconst 0, 1) := by decide +kernel
theorem dX12_shelf_106 : decode cX12_shelf 106 = .ok (.iastore, 1) := by decide +kernel
theorem dX12_shelf_107 : decode cX12_shelf 107 = .ok (.aload_n 0, 1) := by decide +kernel
theorem dX12_shelf_108 : decode cX12_shelf 108 = .ok (.getfield 92, 3) := by decide +kernel
theorem dX12_shelf_111 : decode cX12_shelf 111 = .ok (.iload_n 1, 1) := by decide +kernel
theorem dX12_shelf_112 : decode cX12_shelf 112 = .ok (.iload_n 2, 1) := by decide +kernel
theorem dX12_shelf_113 : decode cX12_shelf 113 = .ok (.iconst 1, 1) := by decide +kernel
theorem dX12_shelf_114 : decode cX12_shelf 114 = .ok (.if_icmp .ne 12, 3) := by decide +kernel
theorem dX12_shelf_117 : decode cX12_shelf 117 = .ok (.aload_n 0, 1) := by decide +kernel
theorem dX12_shelf_118 : decode cX12_shelf 118 = .ok (.getfield 83, 3) := by decide +kernel
theorem dX12_shelf_121 : decode cX12_shelf 121 = .ok (.iload_n 3, 1) := by decide +kernel
theorem dX12_shelf_122 : decode cX12_shelf 122 = .ok (.iaload, 1) := by decide +kernel
theorem dX12_shelf_123 : decode cX12_shelf 123 = .ok (.goto 4, 3) := by decide +kernel
theorem dX12_shelf_126 : decode cX12_shelf 126 = .ok (.iconst 0, 1) := by decide +kernel
theorem dX12_shelf_127 : decode cX12_shelf 127 = .ok (.iastore, 1) := by decide +kernel
theorem dX12_shelf_128 : decode cX12_shelf 128 = .ok (.iconst 1, 1) := by decide +kernel
theorem dX12_shelf_129 : decode cX12_shelf 129 = .ok (.ireturn, 1) := by decide +kernel
def f_X12_shelf_106 (S : Sh) (R : Rw)  (I : Iw) (a0 : Nat) (x1 : Int32) (x2 : Int32) (x3 : Int32) (s0 : Int32) (s1 : Int32) (q2 : Nat) : Option (Iw × Int32) := gp (aok S 20 q2 s1) (lt (up2 I q2 s1.toNatClampNeg s0) (fun I18 => gp (sok S a0 12 34) (rl (R a0 29) (fun b20 => (if x2 = (1 : Int32) then rl (R a0 26) (fun b24 => gp (aok S 20 b24 x3) (gp (aok S 20 b20 x1) (lt (up2 I18 b20 x1.toNatClampNeg (I18 b24 x3.toNatClampNeg)) (fun I27 => some (I27, (1 : Int32)))))) else gp (aok S 20 b20 x1) (lt (up2 I18 b20 x1.toNatClampNeg (0 : Int32)) (fun I23 => some (I23, (1 : Int32)))))))))
set_option maxHeartbeats 4000000 in
theorem b_X12_shelf_106 {E : Ev} {p : Program} {l : Launch} {e : Env} {s : State} {m : MethodId} {args : Array Value} {below : List Frame} {meth : Method} {c : Code} (C : Cx E RX12 cX12_shelf 4 p s m c) (hr : meth.sig.returnType = (some .int)) (hk : meth.locks = false) {S : Sh} {R : Rw} {r : Iw × Int32}  : ∀ (I : Iw) (a0 : Nat) (x1 : Int32) (x2 : Int32) (x3 : Int32) (s0 : Int32) (s1 : Int32) (q2 : Nat), f_X12_shelf_106 S R   I a0 x1 x2 x3 s0 s1 q2 = some r → Wk E 4 p l e ({ frames := 2, cells := 0, slots := 0, locals := 44 } : Room) s m args below meth c 0 0 (MQ below (Qw E S R r.1 (some (.int r.2))) args s 0 0 (fun q => E.1 ≤ q)) 106 [(0, .ref (E.1 + a0)), (1, .int x1), (2, .int x2), (3, .int x3)] [.int s0, .int s1, .ref (E.1 + q2)] S R I := by
  intro I a0 x1 x2 x3 s0 s1 q2 h
  rw [f_X12_shelf_106] at h
  obtain ⟨ha17, h⟩ := gp_e h
  obtain ⟨I18, eI18, h⟩ := lt_e h
  refine k_iast (pc := 106) C ha17 dX12_shelf_106 ?_
  rw [← eI18]
  refine k_aloadn (pc := 107) C dX12_shelf_107 (i := 0) rfl 0 rfl ?_
  obtain ⟨hs190, h⟩ := gp_e h
  have hs19 := sok_e hs190
  obtain ⟨b20, hb20, h⟩ := rl_e h
  refine k_getR (pc := 108) C lkF_RX12_92_12 hs19 ir_12_29 hb20 dX12_shelf_108 ?_
  refine k_iloadn (pc := 111) C dX12_shelf_111 (i := 1) rfl 1 rfl ?_
  refine k_iloadn (pc := 112) C dX12_shelf_112 (i := 2) rfl 2 rfl ?_
  refine k_iconst (pc := 113) C (v := (1 : Int32)) dX12_shelf_113 (by decide) ?_
  refine k_icmp_ne (pc := 114) C dX12_shelf_114 (tgt := 126) (by decide) (fun hc21 => ?_) (fun hc21 => ?_)
  · rw [if_neg hc21] at h
    refine k_iconst (pc := 126) C (v := (0 : Int32)) dX12_shelf_126 (by decide) ?_
    obtain ⟨ha22, h⟩ := gp_e h
    obtain ⟨I23, eI23, h⟩ := lt_e h
    refine k_iast (pc := 127) C ha22 dX12_shelf_127 ?_
    rw [← eI23]
    refine k_iconst (pc := 128) C (v := (1 : Int32)) dX12_shelf_128 (by decide) ?_
    have h := Option.some.inj h
    subst h
    exact k_iret (pc := 129) C hr hk dX12_shelf_129
  · rw [if_pos hc21] at h
    refine k_aloadn (pc := 117) C dX12_shelf_117 (i := 0) rfl 0 rfl ?_
    obtain ⟨b24, hb24, h⟩ := rl_e h
    refine k_getR (pc := 118) C lkF_RX12_83_12 hs19 ir_12_26 hb24 dX12_shelf_118 ?_
    refine k_iloadn (pc := 121) C dX12_shelf_121 (i := 3) rfl 3 rfl ?_
    obtain ⟨ha25, h⟩ := gp_e h
    refine k_iald (pc := 122) C ha25 dX12_shelf_122 ?_
    refine k_goto (pc := 123) C dX12_shelf_123 (tgt := 127) (by decide) ?_
    obtain ⟨ha26, h⟩ := gp_e h
    obtain ⟨I27, eI27, h⟩ := lt_e h
    refine k_iast (pc := 127) C ha26 dX12_shelf_127 ?_
    rw [← eI27]
    refine k_iconst (pc := 128) C (v := (1 : Int32)) dX12_shelf_128 (by decide) ?_
    have h := Option.some.inj h
    subst h
    exact k_iret (pc := 129) C hr hk dX12_shelf_129
def f_X12_shelf_77 (S : Sh) (R : Rw)  (I : Iw) (a0 : Nat) (x1 : Int32) (x2 : Int32) (x3 : Int32) (s0 : Int32) (s1 : Int32) (q2 : Nat) : Option (Iw × Int32) := gp (aok S 20 q2 s1) (lt (up2 I q2 s1.toNatClampNeg s0) (fun I12 => gp (sok S a0 12 34) (rl (R a0 28) (fun b14 => (if x2 = 0 then f_X12_shelf_106 S R  I12 a0 x1 x2 x3 x3 x1 b14 else (if x2 = (1 : Int32) then rl (R a0 25) (fun b28 => gp (aok S 20 b28 x3) (f_X12_shelf_106 S R  I12 a0 x1 x2 x3 (I12 b28 x3.toNatClampNeg) x1 b14)) else f_X12_shelf_106 S R  I12 a0 x1 x2 x3 (0 : Int32) x1 b14))))))
set_option maxHeartbeats 4000000 in
theorem b_X12_shelf_77 {E : Ev} {p : Program} {l : Launch} {e : Env} {s : State} {m : MethodId} {args : Array Value} {below : List Frame} {meth : Method} {c : Code} (C : Cx E RX12 cX12_shelf 4 p s m c) (hr : meth.sig.returnType = (some .int)) (hk : meth.locks = false) {S : Sh} {R : Rw} {r : Iw × Int32}  : ∀ (I : Iw) (a0 : Nat) (x1 : Int32) (x2 : Int32) (x3 : Int32) (s0 : Int32) (s1 : Int32) (q2 : Nat), f_X12_shelf_77 S R   I a0 x1 x2 x3 s0 s1 q2 = some r → Wk E 4 p l e ({ frames := 2, cells := 0, slots := 0, locals := 44 } : Room) s m args below meth c 0 0 (MQ below (Qw E S R r.1 (some (.int r.2))) args s 0 0 (fun q => E.1 ≤ q)) 77 [(0, .ref (E.1 + a0)), (1, .int x1), (2, .int x2), (3, .int x3)] [.int s0, .int s1, .ref (E.1 + q2)] S R I := by
  intro I a0 x1 x2 x3 s0 s1 q2 h
  rw [f_X12_shelf_77] at h
  obtain ⟨ha11, h⟩ := gp_e h
  obtain ⟨I12, eI12, h⟩ := lt_e h
  refine k_iast (pc := 77) C ha11 dX12_shelf_77 ?_
  rw [← eI12]
  refine k_aloadn (pc := 78) C dX12_shelf_78 (i := 0) rfl 0 rfl ?_
  obtain ⟨hs130, h⟩ := gp_e h
  have hs13 := sok_e hs130
  obtain ⟨b14, hb14, h⟩ := rl_e h
  refine k_getR (pc := 79) C lkF_RX12_89_12 hs13 ir_12_28 hb14 dX12_shelf_79 ?_
  refine k_iloadn (pc := 82) C dX12_shelf_82 (i := 1) rfl 1 rfl ?_
  refine k_iloadn (pc := 83) C dX12_shelf_83 (i := 2) rfl 2 rfl ?_
  refine k_if_ne (pc := 84) C dX12_shelf_84 (tgt := 91) (by decide) (fun hc15 => ?_) (fun hc15 => ?_)
  · rw [if_neg hc15] at h
    refine k_iloadn (pc := 91) C dX12_shelf_91 (i := 2) rfl 2 rfl ?_
    refine k_iconst (pc := 92) C (v := (1 : Int32)) dX12_shelf_92 (by decide) ?_
    refine k_icmp_ne (pc := 93) C dX12_shelf_93 (tgt := 105) (by decide) (fun hc16 => ?_) (fun hc16 => ?_)
    · rw [if_neg hc16] at h
      refine k_iconst (pc := 105) C (v := (0 : Int32)) dX12_shelf_105 (by decide) ?_
      exact b_X12_shelf_106 C hr hk  _ _ _ _ _ _ _ _ h
    · rw [if_pos hc16] at h
      refine k_aloadn (pc := 96) C dX12_shelf_96 (i := 0) rfl 0 rfl ?_
      obtain ⟨b28, hb28, h⟩ := rl_e h
      refine k_getR (pc := 97) C lkF_RX12_80_12 hs13 ir_12_25 hb28 dX12_shelf_97 ?_
      refine k_iloadn (pc := 100) C dX12_shelf_100 (i := 3) rfl 3 rfl ?_
      obtain ⟨ha29, h⟩ := gp_e h
      refine k_iald (pc := 101) C ha29 dX12_shelf_101 ?_
      refine k_goto (pc := 102) C dX12_shelf_102 (tgt := 106) (by decide) ?_
      exact b_X12_shelf_106 C hr hk  _ _ _ _ _ _ _ _ h
  · rw [if_pos hc15] at h
    refine k_iloadn (pc := 87) C dX12_shelf_87 (i := 3) rfl 3 rfl ?_
    refine k_goto (pc := 88) C dX12_shelf_88 (tgt := 106) (by decide) ?_
    exact b_X12_shelf_106 C hr hk  _ _ _ _ _ _ _ _ h
def f_X12_shelf_76 (S : Sh) (R : Rw)  (I : Iw) (a0 : Nat) (x1 : Int32) (x2 : Int32) (x3 : Int32) (s0 : Int32) (q1 : Nat) : Option (Iw × Int32) := f_X12_shelf_77 S R  I a0 x1 x2 x3 (0 : Int32) s0 q1
set_option maxHeartbeats 4000000 in
theorem b_X12_shelf_76 {E : Ev} {p : Program} {l : Launch} {e : Env} {s : State} {m : MethodId} {args : Array Value} {below : List Frame} {meth : Method} {c : Code} (C : Cx E RX12 cX12_shelf 4 p s m c) (hr : meth.sig.returnType = (some .int)) (hk : meth.locks = false) {S : Sh} {R : Rw} {r : Iw × Int32}  : ∀ (I : Iw) (a0 : Nat) (x1 : Int32) (x2 : Int32) (x3 : Int32) (s0 : Int32) (q1 : Nat), f_X12_shelf_76 S R   I a0 x1 x2 x3 s0 q1 = some r → Wk E 4 p l e ({ frames := 2, cells := 0, slots := 0, locals := 44 } : Room) s m args below meth c 0 0 (MQ below (Qw E S R r.1 (some (.int r.2))) args s 0 0 (fun q => E.1 ≤ q)) 76 [(0, .ref (E.1 + a0)), (1, .int x1), (2, .int x2), (3, .int x3)] [.int s0, .ref (E.1 + q1)] S R I := by
  intro I a0 x1 x2 x3 s0 q1 h
  rw [f_X12_shelf_76] at h
  refine k_iconst (pc := 76) C (v := (0 : Int32)) dX12_shelf_76 (by decide) ?_
  exact b_X12_shelf_77 C hr hk  _ _ _ _ _ _ _ _ h
def f_X12_shelf_45 (S : Sh) (R : Rw)  (I : Iw) (a0 : Nat) (x1 : Int32) (x2 : Int32) (x3 : Int32) : Option (Iw × Int32) := gp (sok S a0 12 34) (rl (R a0 27) (fun b8 => (if x2 = 0 then f_X12_shelf_77 S R  I a0 x1 x2 x3 (1 : Int32) x1 b8 else (if x2 = (1 : Int32) then rl (R a0 25) (fun b30 => gp (aok S 20 b30 x3) ((if (I b30 x3.toNatClampNeg) < 0 then f_X12_shelf_76 S R  I a0 x1 x2 x3 x1 b8 else f_X12_shelf_77 S R  I a0 x1 x2 x3 (2 : Int32) x1 b8))) else f_X12_shelf_76 S R  I a0 x1 x2 x3 x1 b8))))
set_option maxHeartbeats 4000000 in
theorem b_X12_shelf_45 {E : Ev} {p : Program} {l : Launch} {e : Env} {s : State} {m : MethodId} {args : Array Value} {below : List Frame} {meth : Method} {c : Code} (C : Cx E RX12 cX12_shelf 4 p s m c) (hr : meth.sig.returnType = (some .int)) (hk : meth.locks = false) {S : Sh} {R : Rw} {r : Iw × Int32}  : ∀ (I : Iw) (a0 : Nat) (x1 : Int32) (x2 : Int32) (x3 : Int32), f_X12_shelf_45 S R   I a0 x1 x2 x3 = some r → Wk E 4 p l e ({ frames := 2, cells := 0, slots := 0, locals := 44 } : Room) s m args below meth c 0 0 (MQ below (Qw E S R r.1 (some (.int r.2))) args s 0 0 (fun q => E.1 ≤ q)) 45 [(0, .ref (E.1 + a0)), (1, .int x1), (2, .int x2), (3, .int x3)] [] S R I := by
  intro I a0 x1 x2 x3 h
  rw [f_X12_shelf_45] at h
  refine k_aloadn (pc := 45) C dX12_shelf_45 (i := 0) rfl 0 rfl ?_
  obtain ⟨hs70, h⟩ := gp_e h
  have hs7 := sok_e hs70
  obtain ⟨b8, hb8, h⟩ := rl_e h
  refine k_getR (pc := 46) C lkF_RX12_86_12 hs7 ir_12_27 hb8 dX12_shelf_46 ?_
  refine k_iloadn (pc := 49) C dX12_shelf_49 (i := 1) rfl 1 rfl ?_
  refine k_iloadn (pc := 50) C dX12_shelf_50 (i := 2) rfl 2 rfl ?_
  refine k_if_ne (pc := 51) C dX12_shelf_51 (tgt := 58) (by decide) (fun hc9 => ?_) (fun hc9 => ?_)
  · rw [if_neg hc9] at h
    refine k_iloadn (pc := 58) C dX12_shelf_58 (i := 2) rfl 2 rfl ?_
    refine k_iconst (pc := 59) C (v := (1 : Int32)) dX12_shelf_59 (by decide) ?_
    refine k_icmp_ne (pc := 60) C dX12_shelf_60 (tgt := 76) (by decide) (fun hc10 => ?_) (fun hc10 => ?_)
    · rw [if_neg hc10] at h
      exact b_X12_shelf_76 C hr hk  _ _ _ _ _ _ _ h
    · rw [if_pos hc10] at h
      refine k_aloadn (pc := 63) C dX12_shelf_63 (i := 0) rfl 0 rfl ?_
      obtain ⟨b30, hb30, h⟩ := rl_e h
      refine k_getR (pc := 64) C lkF_RX12_80_12 hs7 ir_12_25 hb30 dX12_shelf_64 ?_
      refine k_iloadn (pc := 67) C dX12_shelf_67 (i := 3) rfl 3 rfl ?_
      obtain ⟨ha31, h⟩ := gp_e h
      refine k_iald (pc := 68) C ha31 dX12_shelf_68 ?_
      refine k_if_lt (pc := 69) C dX12_shelf_69 (tgt := 76) (by decide) (fun hc32 => ?_) (fun hc32 => ?_)
      · rw [if_pos hc32] at h
        exact b_X12_shelf_76 C hr hk  _ _ _ _ _ _ _ h
      · rw [if_neg hc32] at h
        refine k_iconst (pc := 72) C (v := (2 : Int32)) dX12_shelf_72 (by decide) ?_
        refine k_goto (pc := 73) C dX12_shelf_73 (tgt := 77) (by decide) ?_
        exact b_X12_shelf_77 C hr hk  _ _ _ _ _ _ _ _ h
  · rw [if_pos hc9] at h
    refine k_iconst (pc := 54) C (v := (1 : Int32)) dX12_shelf_54 (by decide) ?_
    refine k_goto (pc := 55) C dX12_shelf_55 (tgt := 77) (by decide) ?_
    exact b_X12_shelf_77 C hr hk  _ _ _ _ _ _ _ _ h
def f_X12_shelf_31 (S : Sh) (R : Rw)  (I : Iw) (a0 : Nat) (x1 : Int32) (x2 : Int32) (x3 : Int32) : Option (Iw × Int32) := (if x2 = (1 : Int32) then bd (f_X12_isSheet S R I x3) (fun r33 => (if r33 = 0 then some (I, (-1 : Int32)) else f_X12_shelf_45 S R  I a0 x1 x2 x3)) else f_X12_shelf_45 S R  I a0 x1 x2 x3)
set_option maxHeartbeats 4000000 in
theorem b_X12_shelf_31 {E : Ev} {p : Program} {l : Launch} {e : Env} {s : State} {m : MethodId} {args : Array Value} {below : List Frame} {meth : Method} {c : Code} (C : Cx E RX12 cX12_shelf 4 p s m c) (hr : meth.sig.returnType = (some .int)) (hk : meth.locks = false) {S : Sh} {R : Rw} {r : Iw × Int32}  : ∀ (I : Iw) (a0 : Nat) (x1 : Int32) (x2 : Int32) (x3 : Int32), f_X12_shelf_31 S R   I a0 x1 x2 x3 = some r → Wk E 4 p l e ({ frames := 2, cells := 0, slots := 0, locals := 44 } : Room) s m args below meth c 0 0 (MQ below (Qw E S R r.1 (some (.int r.2))) args s 0 0 (fun q => E.1 ≤ q)) 31 [(0, .ref (E.1 + a0)), (1, .int x1), (2, .int x2), (3, .int x3)] [] S R I := by
  intro I a0 x1 x2 x3 h
  rw [f_X12_shelf_31] at h
  refine k_iloadn (pc := 31) C dX12_shelf_31 (i := 2) rfl 2 rfl ?_
  refine k_iconst (pc := 32) C (v := (1 : Int32)) dX12_shelf_32 (by decide) ?_
  refine k_icmp_ne (pc := 33) C dX12_shelf_33 (tgt := 45) (by decide) (fun hc6 => ?_) (fun hc6 => ?_)
  · rw [if_neg hc6] at h
    exact b_X12_shelf_45 C hr hk  _ _ _ _ _ h
  · rw [if_pos hc6] at h
    refine k_iloadn (pc := 36) C dX12_shelf_36 (i := 3) rfl 3 rfl ?_
    obtain ⟨r33, hr33, h⟩ := bd_e h
    refine k_S (pc := 37) (st := []) C (c_X12_isSheet hr33) lkS_RX12_329 rfl rfl (Nat.le_of_ble_eq_true rfl) (Nat.le_of_ble_eq_true rfl) (Nat.le_of_ble_eq_true rfl) (Nat.le_of_ble_eq_true rfl) (Nat.le_of_ble_eq_true rfl) dX12_shelf_37 ?_
    refine k_nf (cells2 := 0) (slots2 := 0) (st2 := [.int r33]) rfl rfl rfl ?_
    refine k_if_ne (pc := 40) C dX12_shelf_40 (tgt := 45) (by decide) (fun hc34 => ?_) (fun hc34 => ?_)
    · rw [if_neg hc34] at h
      exact b_X12_shelf_45 C hr hk  _ _ _ _ _ h
    · rw [if_pos hc34] at h
      refine k_iconst (pc := 43) C (v := (-1 : Int32)) dX12_shelf_43 (by decide) ?_
      have h := Option.some.inj h
      subst h
      exact k_iret (pc := 44) C hr hk dX12_shelf_44
def f_X12_shelf (S : Sh) (R : Rw)  (I : Iw) (a0 : Nat) (x1 : Int32) (x2 : Int32) (x3 : Int32) : Option (Iw × Int32) := bd (f_X12_in S R I x1 (0 : Int32) (3 : Int32)) (fun r1 => (if r1 = 0 then some (I, (-1 : Int32)) else bd (f_X12_in S R I x2 (0 : Int32) (2 : Int32)) (fun r3 => (if r3 = 0 then some (I, (-1 : Int32)) else (if x2 = 0 then gp (sok S a0 12 34) (bd (f_X12_is S R I a0 x3 (3 : Int32)) (fun r36 => (if r36 = 0 then some (I, (-1 : Int32)) else f_X12_shelf_31 S R  I a0 x1 x2 x3))) else f_X12_shelf_31 S R  I a0 x1 x2 x3)))))
set_option maxHeartbeats 4000000 in
theorem b_X12_shelf {E : Ev} {p : Program} {l : Launch} {e : Env} {s : State} {m : MethodId} {args : Array Value} {below : List Frame} {meth : Method} {c : Code} (C : Cx E RX12 cX12_shelf 4 p s m c) (hr : meth.sig.returnType = (some .int)) (hk : meth.locks = false) {S : Sh} {R : Rw} {r : Iw × Int32}  : ∀ (I : Iw) (a0 : Nat) (x1 : Int32) (x2 : Int32) (x3 : Int32), f_X12_shelf S R   I a0 x1 x2 x3 = some r → Wk E 4 p l e ({ frames := 2, cells := 0, slots := 0, locals := 44 } : Room) s m args below meth c 0 0 (MQ below (Qw E S R r.1 (some (.int r.2))) args s 0 0 (fun q => E.1 ≤ q)) 0 [(0, .ref (E.1 + a0)), (1, .int x1), (2, .int x2), (3, .int x3)] [] S R I := by
  intro I a0 x1 x2 x3 h
  rw [f_X12_shelf] at h
  refine k_iloadn (pc := 0) C dX12_shelf_0 (i := 1) rfl 1 rfl ?_
  refine k_iconst (pc := 1) C (v := (0 : Int32)) dX12_shelf_1 (by decide) ?_
  refine k_iconst (pc := 2) C (v := (3 : Int32)) dX12_shelf_2 (by decide) ?_
  obtain ⟨r1, hr1, h⟩ := bd_e h
  refine k_S (pc := 3) (st := []) C (c_X12_in hr1) lkS_RX12_98 rfl rfl (Nat.le_of_ble_eq_true rfl) (Nat.le_of_ble_eq_true rfl) (Nat.le_of_ble_eq_true rfl) (Nat.le_of_ble_eq_true rfl) (Nat.le_of_ble_eq_true rfl) dX12_shelf_3 ?_
  refine k_nf (cells2 := 0) (slots2 := 0) (st2 := [.int r1]) rfl rfl rfl ?_
  refine k_if_eq (pc := 6) C dX12_shelf_6 (tgt := 43) (by decide) (fun hc2 => ?_) (fun hc2 => ?_)
  · rw [if_pos hc2] at h
    refine k_iconst (pc := 43) C (v := (-1 : Int32)) dX12_shelf_43 (by decide) ?_
    have h := Option.some.inj h
    subst h
    exact k_iret (pc := 44) C hr hk dX12_shelf_44
  · rw [if_neg hc2] at h
    refine k_iloadn (pc := 9) C dX12_shelf_9 (i := 2) rfl 2 rfl ?_
    refine k_iconst (pc := 10) C (v := (0 : Int32)) dX12_shelf_10 (by decide) ?_
    refine k_iconst (pc := 11) C (v := (2 : Int32)) dX12_shelf_11 (by decide) ?_
    obtain ⟨r3, hr3, h⟩ := bd_e h
    refine k_S (pc := 12) (st := []) C (c_X12_in hr3) lkS_RX12_98 rfl rfl (Nat.le_of_ble_eq_true rfl) (Nat.le_of_ble_eq_true rfl) (Nat.le_of_ble_eq_true rfl) (Nat.le_of_ble_eq_true rfl) (Nat.le_of_ble_eq_true rfl) dX12_shelf_12 ?_
    refine k_nf (cells2 := 0) (slots2 := 0) (st2 := [.int r3]) rfl rfl rfl ?_
    refine k_if_eq (pc := 15) C dX12_shelf_15 (tgt := 43) (by decide) (fun hc4 => ?_) (fun hc4 => ?_)
    · rw [if_pos hc4] at h
      refine k_iconst (pc := 43) C (v := (-1 : Int32)) dX12_shelf_43 (by decide) ?_
      have h := Option.some.inj h
      subst h
      exact k_iret (pc := 44) C hr hk dX12_shelf_44
    · rw [if_neg hc4] at h
      refine k_iloadn (pc := 18) C dX12_shelf_18 (i := 2) rfl 2 rfl ?_
      refine k_if_ne (pc := 19) C dX12_shelf_19 (tgt := 31) (by decide) (fun hc5 => ?_) (fun hc5 => ?_)
      · rw [if_neg hc5] at h
        exact b_X12_shelf_31 C hr hk  _ _ _ _ _ h
      · rw [if_pos hc5] at h
        refine k_aloadn (pc := 22) C dX12_shelf_22 (i := 0) rfl 0 rfl ?_
        refine k_iloadn (pc := 23) C dX12_shelf_23 (i := 3) rfl 3 rfl ?_
        refine k_iconst (pc := 24) C (v := (3 : Int32)) dX12_shelf_24 (by decide) ?_
        obtain ⟨hs350, h⟩ := gp_e h
        have hs35 := sok_e hs350
        obtain ⟨r36, hr36, h⟩ := bd_e h
        refine k_V (pc := 25) (st := []) C (c_X12_is hr36) lkV_RX12_251 hs35 rfl rfl rfl (Nat.le_of_ble_eq_true rfl) (Nat.le_of_ble_eq_true rfl) (Nat.le_of_ble_eq_true rfl) (Nat.le_of_ble_eq_true rfl) (Nat.le_of_ble_eq_true rfl) dX12_shelf_25 ?_
        refine k_nf (cells2 := 0) (slots2 := 0) (st2 := [.int r36]) rfl rfl rfl ?_
        refine k_if_eq (pc := 28) C dX12_shelf_28 (tgt := 43) (by decide) (fun hc37 => ?_) (fun hc37 => ?_)
        · rw [if_pos hc37] at h
          refine k_iconst (pc := 43) C (v := (-1 : Int32)) dX12_shelf_43 (by decide) ?_
          have h := Option.some.inj h
          subst h
          exact k_iret (pc := 44) C hr hk dX12_shelf_44
        · rw [if_neg hc37] at h
          exact b_X12_shelf_31 C hr hk  _ _ _ _ _ h
theorem c_X12_shelf {E : Ev} {l : Launch} {S : Sh} {R : Rw} {I : Iw} {a0 : Nat} {x1 : Int32} {x2 : Int32} {x3 : Int32} {r : Iw × Int32} (h : f_X12_shelf S R I a0 x1 x2 x3 = some r) : Mt E l yX12_shelf cX12_shelf 4 (some .int) 2 44 [.ref (E.1 + a0), .int x1, .int x2, .int x3] S R I S R r.1 (some (.int r.2)) 0 0 := mt_of (by decide) (Nat.le_of_ble_eq_true rfl) (fun p e s m args below meth c C hr hk hn => b_X12_shelf C hr hk _ _ _ _ _ h)
