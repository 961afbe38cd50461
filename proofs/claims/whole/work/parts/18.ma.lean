/-! X3_readRule, X5_clear, X5_copyFrom, X3_readInto -/
theorem lkF_RX3_57_5 : LkF RX3 57 5 0 := ⟨RX5, TX5, 8, "UnlikeNeighbours$Rules", fc5, by decide, (t1_in 42 (by decide +kernel) rfl), Or.inl rfl⟩
theorem lkSN_RX3_90 : LkSN RX3 90 yX11_isBetween "UnlikeNeighbours" cX11_isBetween 3 (some .boolean) 3 := ⟨l3_in 2 (by decide +kernel), (t2_in 35 (by decide +kernel) rfl), (t2_in 36 (by decide +kernel) rfl), (t1_in 1 (by decide +kernel) rfl), by decide, by decide +kernel⟩
theorem lkV_RX3_98 : LkV RX3 98 RX5 yX5_addRule cX5_addRule 3 none 2 := ⟨(t3_in 26 (by decide +kernel) rfl), (t3_in 27 (by decide +kernel) rfl), (t3_in 28 (by decide +kernel) rfl), (t3_in 29 (by decide +kernel) rfl), (t1_in 3 (by decide +kernel) rfl), by decide, by decide +kernel⟩
theorem dX3_readRule_0 : decode cX3_readRule 0 = .ok (.aload_n 0, 1) := by decide +kernel
theorem dX3_readRule_1 : decode cX3_readRule 1 = .ok (.invokevirtual 42, 3) := by decide +kernel
theorem dX3_readRule_4 : decode cX3_readRule 4 = .ok (.sipush 10000, 3) := by decide +kernel
theorem dX3_readRule_7 : decode cX3_readRule 7 = .ok (.isub, 1) := by decide +kernel
theorem dX3_readRule_8 : decode cX3_readRule 8 = .ok (.istore_n 1, 1) := by decide +kernel
theorem dX3_readRule_9 : decode cX3_readRule 9 = .ok (.aload_n 0, 1) := by decide +kernel
theorem dX3_readRule_10 : decode cX3_readRule 10 = .ok (.getfield 25, 3) := by decide +kernel
theorem dX3_readRule_13 : decode cX3_readRule 13 = .ok (.getfield 57, 3) := by decide +kernel
theorem dX3_readRule_16 : decode cX3_readRule 16 = .ok (.bipush 8, 2) := by decide +kernel
theorem dX3_readRule_18 : decode cX3_readRule 18 = .ok (.if_icmp .ge 12, 3) := by decide +kernel
theorem dX3_readRule_21 : decode cX3_readRule 21 = .ok (.iload_n 1, 1) := by decide +kernel
theorem dX3_readRule_22 : decode cX3_readRule 22 = .ok (.iconst 0, 1) := by decide +kernel
theorem dX3_readRule_23 : decode cX3_readRule 23 = .ok (.iconst 5, 1) := by decide +kernel
theorem dX3_readRule_24 : decode cX3_readRule 24 = .ok (.invokestatic 90, 3) := by decide +kernel
theorem dX3_readRule_27 : decode cX3_readRule 27 = .ok (.ifCond .ne 5, 3) := by decide +kernel
theorem dX3_readRule_30 : decode cX3_readRule 30 = .ok (.iconst 0, 1) := by decide +kernel
theorem dX3_readRule_31 : decode cX3_readRule 31 = .ok (.ireturn, 1) := by decide +kernel
theorem dX3_readRule_32 : decode cX3_readRule 32 = .ok (.aload_n 0, 1) := by decide +kernel
theorem dX3_readRule_33 : decode cX3_readRule 33 = .ok (.dup, 1) := by decide +kernel
theorem dX3_readRule_34 : decode cX3_readRule 34 = .ok (.getfield 36, 3) := by decide +kernel
theorem dX3_readRule_37 : decode cX3_readRule 37 = .ok (.iconst 1, 1) := by decide +kernel
theorem dX3_readRule_38 : decode cX3_readRule 38 = .ok (.iadd, 1) := by decide +kernel
theorem dX3_readRule_39 : decode cX3_readRule 39 = .ok (.putfield 36, 3) := by decide +kernel
theorem dX3_readRule_42 : decode cX3_readRule 42 = .ok (.aload_n 0, 1) := by decide +kernel
theorem dX3_readRule_43 : decode cX3_readRule 43 = .ok (.invokevirtual 42, 3) := by decide +kernel
theorem dX3_readRule_46 : decode cX3_readRule 46 = .ok (.sipush 10006, 3) := by decide +kernel
theorem dX3_readRule_49 : decode cX3_readRule 49 = .ok (.if_icmp .ne 23, 3) := by decide +kernel
theorem dX3_readRule_52 : decode cX3_readRule 52 = .ok (.aload_n 0, 1) := by decide +kernel
theorem dX3_readRule_53 : decode cX3_readRule 53 = .ok (.dup, 1) := by decide +kernel
theorem dX3_readRule_54 : decode cX3_readRule 54 = .ok (.getfield 36, 3) := by decide +kernel
theorem dX3_readRule_57 : decode cX3_readRule 57 = .ok (.iconst 1, 1) := by decide +kernel
theorem dX3_readRule_58 : decode cX3_readRule 58 = .ok (.iadd, 1) := by decide +kernel
theorem dX3_readRule_59 : decode cX3_readRule 59 = .ok (.putfield 36, 3) := by decide +kernel
theorem dX3_readRule_62 : decode cX3_readRule 62 = .ok (.aload_n 0, 1) := by decide +kernel
theorem dX3_readRule_63 : decode cX3_readRule 63 = .ok (.iconst 0, 1) := by decide +kernel
theorem dX3_readRule_64 : decode cX3_readRule 64 = .ok (.invokevirtual 94, 3) := by decide +kernel
theorem dX3_readRule_67 : decode cX3_readRule 67 = .ok (.ifCond .ne 5, 3) := by decide +kernel
theorem dX3_readRule_70 : decode cX3_readRule 70 = .ok (.iconst 0, 1) := by decide +kernel
theorem dX3_readRule_71 : decode cX3_readRule 71 = .ok (.ireturn, 1) := by decide +kernel
theorem dX3_readRule_72 : decode cX3_readRule 72 = .ok (.aload_n 0, 1) := by decide +kernel
theorem dX3_readRule_73 : decode cX3_readRule 73 = .ok (.invokevirtual 42, 3) := by decide +kernel
theorem dX3_readRule_76 : decode cX3_readRule 76 = .ok (.istore_n 2, 1) := by decide +kernel
theorem dX3_readRule_77 : decode cX3_readRule 77 = .ok (.iload_n 2, 1) := by decide +kernel
theorem dX3_readRule_78 : decode cX3_readRule 78 = .ok (.sipush 10010, 3) := by decide +kernel
theorem dX3_readRule_81 : decode cX3_readRule 81 = .ok (.if_icmp .eq 19, 3) := by decide +kernel
theorem dX3_readRule_84 : decode cX3_readRule 84 = .ok (.iload_n 2, 1) := by decide +kernel
theorem dX3_readRule_85 : decode cX3_readRule 85 = .ok (.sipush 10011, 3) := by decide +kernel
theorem dX3_readRule_88 : decode cX3_readRule 88 = .ok (.if_icmp .eq 12, 3) := by decide +kernel
theorem dX3_readRule_91 : decode cX3_readRule 91 = .ok (.iload_n 2, 1) := by decide +kernel
theorem dX3_readRule_92 : decode cX3_readRule 92 = .ok (.sipush 10012, 3) := by decide +kernel
theorem dX3_readRule_95 : decode cX3_readRule 95 = .ok (.if_icmp .eq 5, 3) := by decide +kernel
theorem dX3_readRule_98 : decode cX3_readRule 98 = .ok (.iconst 0, 1) := by decide +kernel
theorem dX3_readRule_99 : decode cX3_readRule 99 = .ok (.ireturn, 1) := by decide +kernel
theorem dX3_readRule_100 : decode cX3_readRule 100 = .ok (.aload_n 0, 1) := by decide +kernel
theorem dX3_readRule_101 : decode cX3_readRule 101 = .ok (.dup, 1) := by decide +kernel
theorem dX3_readRule_102 : decode cX3_readRule 102 = .ok (.getfield 36, 3) := by decide +kernel
theorem dX3_readRule_105 : decode cX3_readRule 105 = .ok (.iconst 1, 1) := by decide +kernel
theorem dX3_readRule_106 : decode cX3_readRule 106 = .ok (.iadd, 1) := by decide +kernel
theorem dX3_readRule_107 : decode cX3_readRule 107 = .ok (.putfield 36, 3) := by decide +kernel
theorem dX3_readRule_110 : decode cX3_readRule 110 = .ok (.sipush (-999), 3) := by decide +kernel
theorem dX3_readRule_113 : decode cX3_readRule 113 = .ok (.istore_n 3, 1) := by decide +kernel
theorem dX3_readRule_114 : decode cX3_readRule 114 = .ok (.iload_n 2, 1) := by decide +kernel
theorem dX3_readRule_115 : decode cX3_readRule 115 = .ok (.sipush 10012, 3) := by decide +kernel
theorem dX3_readRule_118 : decode cX3_readRule 118 = .ok (.if_icmp .eq 45, 3) := by decide +kernel
theorem dX3_readRule_121 : decode cX3_readRule 121 = .ok (.aload_n 0, 1) := by decide +kernel
theorem dX3_readRule_122 : decode cX3_readRule 122 = .ok (.invokevirtual 42, 3) := by decide +kernel
theorem dX3_readRule_125 : decode cX3_readRule 125 = .ok (.istore 4, 2) := by decide +kernel
theorem dX3_readRule_127 : decode cX3_readRule 127 = .ok (.iload 4, 2) := by decide +kernel
theorem dX3_readRule_129 : decode cX3_readRule 129 = .ok (.sipush 999, 3) := by decide +kernel
theorem dX3_readRule_132 : decode cX3_readRule 132 = .ok (.if_icmp .le 5, 3) := by decide +kernel
theorem dX3_readRule_135 : decode cX3_readRule 135 = .ok (.iconst 0, 1) := by decide +kernel
theorem dX3_readRule_136 : decode cX3_readRule 136 = .ok (.ireturn, 1) := by decide +kernel
theorem dX3_readRule_137 : decode cX3_readRule 137 = .ok (.aload_n 0, 1) := by decide +kernel
theorem dX3_readRule_138 : decode cX3_readRule 138 = .ok (.dup, 1) := by decide +kernel
theorem dX3_readRule_139 : decode cX3_readRule 139 = .ok (.getfield 36, 3) := by decide +kernel
theorem dX3_readRule_142 : decode cX3_readRule 142 = .ok (.iconst 1, 1) := by decide +kernel
theorem dX3_readRule_143 : decode cX3_readRule 143 = .ok (.iadd, 1) := by decide +kernel
theorem dX3_readRule_144 : decode cX3_readRule 144 = .ok (.putfield 36, 3) := by decide +kernel
theorem dX3_readRule_147 : decode cX3_readRule 147 = .ok (.iload_n 2, 1) := by decide +kernel
theorem dX3_readRule_148 : decode cX3_readRule 148 = .ok (.sipush 10010, 3) := by decide +kernel
theorem dX3_readRule_151 : decode cX3_readRule 151 = .ok (.if_icmp .ne 8, 3) := by decide +kernel
theorem dX3_readRule_154 : decode cX3_readRule 154 = .ok (.iload 4, 2) := by decide +kernel
theorem dX3_readRule_156 : decode cX3_readRule 156 = .ok (.goto 6, 3) := by decide +kernel
theorem dX3_readRule_159 : decode cX3_readRule 159 = .ok (.iload 4, 2) := by decide +kernel
theorem dX3_readRule_161 : decode cX3_readRule 161 = .ok (.ineg, 1) := by decide +kernel
theorem dX3_readRule_162 : decode cX3_readRule 162 = .ok (.istore_n 3, 1) := by decide +kernel
theorem dX3_readRule_163 : decode cX3_readRule 163 = .ok (.aload_n 0, 1) := by decide +kernel
theorem dX3_readRule_164 : decode cX3_readRule 164 = .ok (.invokevirtual 42, 3) := by decide +kernel
theorem dX3_readRule_167 : decode cX3_readRule 167 = .ok (.sipush 20059, 3) := by decide +kernel
theorem dX3_readRule_170 : decode cX3_readRule 170 = .ok (.if_icmp .eq 5, 3) := by decide +kernel
theorem dX3_readRule_173 : decode cX3_readRule 173 = .ok (.iconst 0, 1) := by decide +kernel
theorem dX3_readRule_174 : decode cX3_readRule 174 = .ok (.ireturn, 1) := by decide +kernel
theorem dX3_readRule_175 : decode cX3_readRule 175 = .ok (.aload_n 0, 1) := by decide +kernel
theorem dX3_readRule_176 : decode cX3_readRule 176 = .ok (.dup, 1) := by decide +kernel
theorem dX3_readRule_177 : decode cX3_readRule 177 = .ok (.getfield 36, 3) := by decide +kernel
theorem dX3_readRule_180 : decode cX3_readRule 180 = .ok (.iconst 1, 1) := by decide +kernel
theorem dX3_readRule_181 : decode cX3_readRule 181 = .ok (.iadd, 1) := by decide +kernel
theorem dX3_readRule_182 : decode cX3_readRule 182 = .ok (.putfield 36, 3) := by decide +kernel
theorem dX3_readRule_185 : decode cX3_readRule 185 = .ok (.aload_n 0, 1) := by decide +kernel
theorem dX3_readRule_186 : decode cX3_readRule 186 = .ok (.getfield 25, 3) := by decide +kernel
theorem dX3_readRule_189 : decode cX3_readRule 189 = .ok (.iload_n 1, 1) := by decide +kernel
theorem dX3_readRule_190 : decode cX3_readRule 190 = .ok (.iload_n 3, 1) := by decide +kernel
theorem dX3_readRule_191 : decode cX3_readRule 191 = .ok (.invokevirtual 98, 3) := by decide +kernel
theorem dX3_readRule_194 : decode cX3_readRule 194 = .ok (.iconst 1, 1) := by decide +kernel
theorem dX3_readRule_195 : decode cX3_readRule 195 = .ok (.ireturn, 1) := by decide +kernel
def f_X3_readRule_163 (S : Sh) (R : Rw)  (I : Iw) (a0 : Nat) (x1 : Int32) (x3 : Int32) : Option (Iw × Int32) := gp (sok S a0 3 7) (bd (f_X3_peek S R I a0) (fun r18 => (if r18 = (20059 : Int32) then lt (up2 I a0 5 ((I a0 5) + (1 : Int32))) (fun I20 => rl (R a0 6) (fun b21 => gp (sok S b21 5 8) (bd (f_X5_addRule S R I20 b21 x1 x3) (fun r23 => some (r23, (1 : Int32)))))) else some (I, (0 : Int32)))))
set_option maxHeartbeats 4000000 in
theorem b_X3_readRule_163 {E : Ev} {p : Program} {l : Launch} {e : Env} {s : State} {m : MethodId} {args : Array Value} {below : List Frame} {meth : Method} {c : Code} (C : Cx E RX3 cX3_readRule 5 p s m c) (hr : meth.sig.returnType = (some .boolean)) (hk : meth.locks = false) {S : Sh} {R : Rw} {r : Iw × Int32}  : ∀ (I : Iw) (a0 : Nat) (x1 : Int32) (x3 : Int32), f_X3_readRule_163 S R   I a0 x1 x3 = some r → Wk E 5 p l e ({ frames := 27, cells := 0, slots := 0, locals := 621 } : Room) s m args below meth c 0 0 (MQ below (Qw E S R r.1 (some (.int r.2))) args s 0 0 (fun q => E.1 ≤ q)) 163 [(0, .ref (E.1 + a0)), (1, .int x1), (3, .int x3)] [] S R I := by
  intro I a0 x1 x3 h
  rw [f_X3_readRule_163] at h
  refine k_aloadn (pc := 163) C dX3_readRule_163 (i := 0) rfl 0 rfl ?_
  obtain ⟨hs170, h⟩ := gp_e h
  have hs17 := sok_e hs170
  obtain ⟨r18, hr18, h⟩ := bd_e h
  refine k_V (pc := 164) (st := []) C (c_X3_peek hr18) lkV_RX3_42 hs17 rfl rfl rfl (Nat.le_of_ble_eq_true rfl) (Nat.le_of_ble_eq_true rfl) (Nat.le_of_ble_eq_true rfl) (Nat.le_of_ble_eq_true rfl) (Nat.le_of_ble_eq_true rfl) dX3_readRule_164 ?_
  refine k_nf (cells2 := 0) (slots2 := 0) (st2 := [.int r18]) rfl rfl rfl ?_
  refine k_sipush (pc := 167) C (v := (20059 : Int32)) dX3_readRule_167 (by decide) ?_
  refine k_icmp_eq (pc := 170) C dX3_readRule_170 (tgt := 175) (by decide) (fun hc19 => ?_) (fun hc19 => ?_)
  · rw [if_pos hc19] at h
    refine k_aloadn (pc := 175) C dX3_readRule_175 (i := 0) rfl 0 rfl ?_
    refine k_dup (pc := 176) C dX3_readRule_176 rfl ?_
    refine k_getI (pc := 177) C lkF_RX3_36_3 hs17 ir_3_5 dX3_readRule_177 ?_
    refine k_iconst (pc := 180) C (v := (1 : Int32)) dX3_readRule_180 (by decide) ?_
    refine k_iadd (pc := 181) C dX3_readRule_181 ?_
    obtain ⟨I20, eI20, h⟩ := lt_e h
    refine k_putI (pc := 182) C lkP_RX3_36_3 hs17 ir_3_5 dX3_readRule_182 ?_
    rw [← eI20]
    refine k_aloadn (pc := 185) C dX3_readRule_185 (i := 0) rfl 0 rfl ?_
    obtain ⟨b21, hb21, h⟩ := rl_e h
    refine k_getR (pc := 186) C lkF_RX3_25_3 hs17 ir_3_6 hb21 dX3_readRule_186 ?_
    refine k_iloadn (pc := 189) C dX3_readRule_189 (i := 1) rfl 1 rfl ?_
    refine k_iloadn (pc := 190) C dX3_readRule_190 (i := 3) rfl 2 rfl ?_
    obtain ⟨hs220, h⟩ := gp_e h
    have hs22 := sok_e hs220
    obtain ⟨r23, hr23, h⟩ := bd_e h
    refine k_V (pc := 191) (st := []) C (c_X5_addRule hr23) lkV_RX3_98 hs22 rfl rfl rfl (Nat.le_of_ble_eq_true rfl) (Nat.le_of_ble_eq_true rfl) (Nat.le_of_ble_eq_true rfl) (Nat.le_of_ble_eq_true rfl) (Nat.le_of_ble_eq_true rfl) dX3_readRule_191 ?_
    refine k_nf (cells2 := 0) (slots2 := 0) (st2 := []) rfl rfl rfl ?_
    refine k_iconst (pc := 194) C (v := (1 : Int32)) dX3_readRule_194 (by decide) ?_
    have h := Option.some.inj h
    subst h
    exact k_zret (pc := 195) C hr hk (Or.inr rfl) dX3_readRule_195
  · rw [if_neg hc19] at h
    refine k_iconst (pc := 173) C (v := (0 : Int32)) dX3_readRule_173 (by decide) ?_
    have h := Option.some.inj h
    subst h
    exact k_zret (pc := 174) C hr hk (Or.inl rfl) dX3_readRule_174
def f_X3_readRule_162 (S : Sh) (R : Rw)  (I : Iw) (a0 : Nat) (x1 : Int32) (s0 : Int32) : Option (Iw × Int32) := f_X3_readRule_163 S R  I a0 x1 s0
set_option maxHeartbeats 4000000 in
theorem b_X3_readRule_162 {E : Ev} {p : Program} {l : Launch} {e : Env} {s : State} {m : MethodId} {args : Array Value} {below : List Frame} {meth : Method} {c : Code} (C : Cx E RX3 cX3_readRule 5 p s m c) (hr : meth.sig.returnType = (some .boolean)) (hk : meth.locks = false) {S : Sh} {R : Rw} {r : Iw × Int32}  : ∀ (I : Iw) (a0 : Nat) (x1 : Int32) (s0 : Int32), f_X3_readRule_162 S R   I a0 x1 s0 = some r → Wk E 5 p l e ({ frames := 27, cells := 0, slots := 0, locals := 621 } : Room) s m args below meth c 0 0 (MQ below (Qw E S R r.1 (some (.int r.2))) args s 0 0 (fun q => E.1 ≤ q)) 162 [(0, .ref (E.1 + a0)), (1, .int x1)] [.int s0] S R I := by
  intro I a0 x1 s0 h
  rw [f_X3_readRule_162] at h
  refine k_istoren (pc := 162) C dX3_readRule_162 (i := 3) rfl (by decide) (L2 := [(0, .ref (E.1 + a0)), (1, .int x1), (3, .int s0)]) rfl ?_
  exact b_X3_readRule_163 C hr hk  _ _ _ _ h
def f_X3_readRule_100 (S : Sh) (R : Rw)  (I : Iw) (a0 : Nat) (x1 : Int32) (x2 : Int32) : Option (Iw × Int32) := gp (sok S a0 3 7) (lt (up2 I a0 5 ((I a0 5) + (1 : Int32))) (fun I15 => (if x2 = (10012 : Int32) then f_X3_readRule_163 S R  I15 a0 x1 (-999 : Int32) else bd (f_X3_peek S R I15 a0) (fun r24 => (if r24 ≤ (999 : Int32) then lt (up2 I15 a0 5 ((I15 a0 5) + (1 : Int32))) (fun I26 => (if x2 = (10010 : Int32) then f_X3_readRule_162 S R  I26 a0 x1 r24 else f_X3_readRule_162 S R  I26 a0 x1 (-r24))) else some (I15, (0 : Int32)))))))
set_option maxHeartbeats 4000000 in
theorem b_X3_readRule_100 {E : Ev} {p : Program} {l : Launch} {e : Env} {s : State} {m : MethodId} {args : Array Value} {below : List Frame} {meth : Method} {c : Code} (C : Cx E RX3 cX3_readRule 5 p s m c) (hr : meth.sig.returnType = (some .boolean)) (hk : meth.locks = false) {S : Sh} {R : Rw} {r : Iw × Int32}  : ∀ (I : Iw) (a0 : Nat) (x1 : Int32) (x2 : Int32), f_X3_readRule_100 S R   I a0 x1 x2 = some r → Wk E 5 p l e ({ frames := 27, cells := 0, slots := 0, locals := 621 } : Room) s m args below meth c 0 0 (MQ below (Qw E S R r.1 (some (.int r.2))) args s 0 0 (fun q => E.1 ≤ q)) 100 [(0, .ref (E.1 + a0)), (1, .int x1), (2, .int x2)] [] S R I := by
  intro I a0 x1 x2 h
  rw [f_X3_readRule_100] at h
  refine k_aloadn (pc := 100) C dX3_readRule_100 (i := 0) rfl 0 rfl ?_
  refine k_dup (pc := 101) C dX3_readRule_101 rfl ?_
  obtain ⟨hs140, h⟩ := gp_e h
  have hs14 := sok_e hs140
  refine k_getI (pc := 102) C lkF_RX3_36_3 hs14 ir_3_5 dX3_readRule_102 ?_
  refine k_iconst (pc := 105) C (v := (1 : Int32)) dX3_readRule_105 (by decide) ?_
  refine k_iadd (pc := 106) C dX3_readRule_106 ?_
  obtain ⟨I15, eI15, h⟩ := lt_e h
  refine k_putI (pc := 107) C lkP_RX3_36_3 hs14 ir_3_5 dX3_readRule_107 ?_
  rw [← eI15]
  refine k_sipush (pc := 110) C (v := (-999 : Int32)) dX3_readRule_110 (by decide) ?_
  refine k_istoren (pc := 113) C dX3_readRule_113 (i := 3) rfl (by decide) (L2 := [(0, .ref (E.1 + a0)), (1, .int x1), (2, .int x2), (3, .int (-999 : Int32))]) rfl ?_
  refine k_iloadn (pc := 114) C dX3_readRule_114 (i := 2) rfl 2 rfl ?_
  refine k_sipush (pc := 115) C (v := (10012 : Int32)) dX3_readRule_115 (by decide) ?_
  refine k_icmp_eq (pc := 118) C dX3_readRule_118 (tgt := 163) (by decide) (fun hc16 => ?_) (fun hc16 => ?_)
  · rw [if_pos hc16] at h
    refine k_loc (L2 := [(0, .ref (E.1 + a0)), (1, .int x1), (3, .int (-999 : Int32))]) [0, 1, 3] rfl ?_
    exact b_X3_readRule_163 C hr hk  _ _ _ _ h
  · rw [if_neg hc16] at h
    refine k_aloadn (pc := 121) C dX3_readRule_121 (i := 0) rfl 0 rfl ?_
    obtain ⟨r24, hr24, h⟩ := bd_e h
    refine k_V (pc := 122) (st := []) C (c_X3_peek hr24) lkV_RX3_42 hs14 rfl rfl rfl (Nat.le_of_ble_eq_true rfl) (Nat.le_of_ble_eq_true rfl) (Nat.le_of_ble_eq_true rfl) (Nat.le_of_ble_eq_true rfl) (Nat.le_of_ble_eq_true rfl) dX3_readRule_122 ?_
    refine k_nf (cells2 := 0) (slots2 := 0) (st2 := [.int r24]) rfl rfl rfl ?_
    refine k_istore (pc := 125) C dX3_readRule_125 (by decide) (L2 := [(0, .ref (E.1 + a0)), (1, .int x1), (2, .int x2), (3, .int (-999 : Int32)), (4, .int r24)]) rfl ?_
    refine k_iload (pc := 127) C dX3_readRule_127 4 rfl ?_
    refine k_sipush (pc := 129) C (v := (999 : Int32)) dX3_readRule_129 (by decide) ?_
    refine k_icmp_le (pc := 132) C dX3_readRule_132 (tgt := 137) (by decide) (fun hc25 => ?_) (fun hc25 => ?_)
    · rw [if_pos hc25] at h
      refine k_aloadn (pc := 137) C dX3_readRule_137 (i := 0) rfl 0 rfl ?_
      refine k_dup (pc := 138) C dX3_readRule_138 rfl ?_
      refine k_getI (pc := 139) C lkF_RX3_36_3 hs14 ir_3_5 dX3_readRule_139 ?_
      refine k_iconst (pc := 142) C (v := (1 : Int32)) dX3_readRule_142 (by decide) ?_
      refine k_iadd (pc := 143) C dX3_readRule_143 ?_
      obtain ⟨I26, eI26, h⟩ := lt_e h
      refine k_putI (pc := 144) C lkP_RX3_36_3 hs14 ir_3_5 dX3_readRule_144 ?_
      rw [← eI26]
      refine k_iloadn (pc := 147) C dX3_readRule_147 (i := 2) rfl 2 rfl ?_
      refine k_sipush (pc := 148) C (v := (10010 : Int32)) dX3_readRule_148 (by decide) ?_
      refine k_icmp_ne (pc := 151) C dX3_readRule_151 (tgt := 159) (by decide) (fun hc27 => ?_) (fun hc27 => ?_)
      · rw [if_neg hc27] at h
        refine k_iload (pc := 159) C dX3_readRule_159 4 rfl ?_
        refine k_ineg (pc := 161) C dX3_readRule_161 ?_
        refine k_loc (L2 := [(0, .ref (E.1 + a0)), (1, .int x1)]) [0, 1] rfl ?_
        exact b_X3_readRule_162 C hr hk  _ _ _ _ h
      · rw [if_pos hc27] at h
        refine k_iload (pc := 154) C dX3_readRule_154 4 rfl ?_
        refine k_goto (pc := 156) C dX3_readRule_156 (tgt := 162) (by decide) ?_
        refine k_loc (L2 := [(0, .ref (E.1 + a0)), (1, .int x1)]) [0, 1] rfl ?_
        exact b_X3_readRule_162 C hr hk  _ _ _ _ h
    · rw [if_neg hc25] at h
      refine k_iconst (pc := 135) C (v := (0 : Int32)) dX3_readRule_135 (by decide) ?_
      have h := Option.some.inj h
      subst h
      exact k_zret (pc := 136) C hr hk (Or.inl rfl) dX3_readRule_136
def f_X3_readRule_72 (S : Sh) (R : Rw)  (I : Iw) (a0 : Nat) (x1 : Int32) : Option (Iw × Int32) := gp (sok S a0 3 7) (bd (f_X3_peek S R I a0) (fun r12 => (if r12 = (10010 : Int32) then f_X3_readRule_100 S R  I a0 x1 r12 else (if r12 = (10011 : Int32) then f_X3_readRule_100 S R  I a0 x1 r12 else (if r12 = (10012 : Int32) then f_X3_readRule_100 S R  I a0 x1 r12 else some (I, (0 : Int32)))))))
set_option maxHeartbeats 4000000 in
theorem b_X3_readRule_72 {E : Ev} {p : Program} {l : Launch} {e : Env} {s : State} {m : MethodId} {args : Array Value} {below : List Frame} {meth : Method} {c : Code} (C : Cx E RX3 cX3_readRule 5 p s m c) (hr : meth.sig.returnType = (some .boolean)) (hk : meth.locks = false) {S : Sh} {R : Rw} {r : Iw × Int32}  : ∀ (I : Iw) (a0 : Nat) (x1 : Int32), f_X3_readRule_72 S R   I a0 x1 = some r → Wk E 5 p l e ({ frames := 27, cells := 0, slots := 0, locals := 621 } : Room) s m args below meth c 0 0 (MQ below (Qw E S R r.1 (some (.int r.2))) args s 0 0 (fun q => E.1 ≤ q)) 72 [(0, .ref (E.1 + a0)), (1, .int x1)] [] S R I := by
  intro I a0 x1 h
  rw [f_X3_readRule_72] at h
  refine k_aloadn (pc := 72) C dX3_readRule_72 (i := 0) rfl 0 rfl ?_
  obtain ⟨hs110, h⟩ := gp_e h
  have hs11 := sok_e hs110
  obtain ⟨r12, hr12, h⟩ := bd_e h
  refine k_V (pc := 73) (st := []) C (c_X3_peek hr12) lkV_RX3_42 hs11 rfl rfl rfl (Nat.le_of_ble_eq_true rfl) (Nat.le_of_ble_eq_true rfl) (Nat.le_of_ble_eq_true rfl) (Nat.le_of_ble_eq_true rfl) (Nat.le_of_ble_eq_true rfl) dX3_readRule_73 ?_
  refine k_nf (cells2 := 0) (slots2 := 0) (st2 := [.int r12]) rfl rfl rfl ?_
  refine k_istoren (pc := 76) C dX3_readRule_76 (i := 2) rfl (by decide) (L2 := [(0, .ref (E.1 + a0)), (1, .int x1), (2, .int r12)]) rfl ?_
  refine k_iloadn (pc := 77) C dX3_readRule_77 (i := 2) rfl 2 rfl ?_
  refine k_sipush (pc := 78) C (v := (10010 : Int32)) dX3_readRule_78 (by decide) ?_
  refine k_icmp_eq (pc := 81) C dX3_readRule_81 (tgt := 100) (by decide) (fun hc13 => ?_) (fun hc13 => ?_)
  · rw [if_pos hc13] at h
    exact b_X3_readRule_100 C hr hk  _ _ _ _ h
  · rw [if_neg hc13] at h
    refine k_iloadn (pc := 84) C dX3_readRule_84 (i := 2) rfl 2 rfl ?_
    refine k_sipush (pc := 85) C (v := (10011 : Int32)) dX3_readRule_85 (by decide) ?_
    refine k_icmp_eq (pc := 88) C dX3_readRule_88 (tgt := 100) (by decide) (fun hc28 => ?_) (fun hc28 => ?_)
    · rw [if_pos hc28] at h
      exact b_X3_readRule_100 C hr hk  _ _ _ _ h
    · rw [if_neg hc28] at h
      refine k_iloadn (pc := 91) C dX3_readRule_91 (i := 2) rfl 2 rfl ?_
      refine k_sipush (pc := 92) C (v := (10012 : Int32)) dX3_readRule_92 (by decide) ?_
      refine k_icmp_eq (pc := 95) C dX3_readRule_95 (tgt := 100) (by decide) (fun hc29 => ?_) (fun hc29 => ?_)
      · rw [if_pos hc29] at h
        exact b_X3_readRule_100 C hr hk  _ _ _ _ h
      · rw [if_neg hc29] at h
        refine k_iconst (pc := 98) C (v := (0 : Int32)) dX3_readRule_98 (by decide) ?_
        have h := Option.some.inj h
        subst h
        exact k_zret (pc := 99) C hr hk (Or.inl rfl) dX3_readRule_99
def f_X3_readRule (S : Sh) (R : Rw)  (I : Iw) (a0 : Nat) : Option (Iw × Int32) := gp (sok S a0 3 7) (bd (f_X3_peek S R I a0) (fun r2 => rl (R a0 6) (fun b3 => gp (sok S b3 5 8) ((if (8 : Int32) ≤ (I b3 0) then some (I, (0 : Int32)) else bd (f_X11_isBetween S R I (r2 - (10000 : Int32)) (0 : Int32) (5 : Int32)) (fun r6 => (if r6 = 0 then some (I, (0 : Int32)) else lt (up2 I a0 5 ((I a0 5) + (1 : Int32))) (fun I8 => bd (f_X3_peek S R I8 a0) (fun r9 => (if r9 = (10006 : Int32) then lt (up2 I8 a0 5 ((I8 a0 5) + (1 : Int32))) (fun I30 => bd (f_X3_readCondition (f_X3_readOne 8) S R I30 a0 (0 : Int32)) (fun r31 => (if r31.2 = 0 then some (r31.1, (0 : Int32)) else f_X3_readRule_72 S R  r31.1 a0 (r2 - (10000 : Int32))))) else f_X3_readRule_72 S R  I8 a0 (r2 - (10000 : Int32))))))))))))
set_option maxHeartbeats 4000000 in
theorem b_X3_readRule {E : Ev} {p : Program} {l : Launch} {e : Env} {s : State} {m : MethodId} {args : Array Value} {below : List Frame} {meth : Method} {c : Code} (C : Cx E RX3 cX3_readRule 5 p s m c) (hr : meth.sig.returnType = (some .boolean)) (hk : meth.locks = false) {S : Sh} {R : Rw} {r : Iw × Int32}  : ∀ (I : Iw) (a0 : Nat), f_X3_readRule S R   I a0 = some r → Wk E 5 p l e ({ frames := 27, cells := 0, slots := 0, locals := 621 } : Room) s m args below meth c 0 0 (MQ below (Qw E S R r.1 (some (.int r.2))) args s 0 0 (fun q => E.1 ≤ q)) 0 [(0, .ref (E.1 + a0))] [] S R I := by
  intro I a0 h
  rw [f_X3_readRule] at h
  refine k_aloadn (pc := 0) C dX3_readRule_0 (i := 0) rfl 0 rfl ?_
  obtain ⟨hs10, h⟩ := gp_e h
  have hs1 := sok_e hs10
  obtain ⟨r2, hr2, h⟩ := bd_e h
  refine k_V (pc := 1) (st := []) C (c_X3_peek hr2) lkV_RX3_42 hs1 rfl rfl rfl (Nat.le_of_ble_eq_true rfl) (Nat.le_of_ble_eq_true rfl) (Nat.le_of_ble_eq_true rfl) (Nat.le_of_ble_eq_true rfl) (Nat.le_of_ble_eq_true rfl) dX3_readRule_1 ?_
  refine k_nf (cells2 := 0) (slots2 := 0) (st2 := [.int r2]) rfl rfl rfl ?_
  refine k_sipush (pc := 4) C (v := (10000 : Int32)) dX3_readRule_4 (by decide) ?_
  refine k_isub (pc := 7) C dX3_readRule_7 ?_
  refine k_istoren (pc := 8) C dX3_readRule_8 (i := 1) rfl (by decide) (L2 := [(0, .ref (E.1 + a0)), (1, .int (r2 - (10000 : Int32)))]) rfl ?_
  refine k_aloadn (pc := 9) C dX3_readRule_9 (i := 0) rfl 0 rfl ?_
  obtain ⟨b3, hb3, h⟩ := rl_e h
  refine k_getR (pc := 10) C lkF_RX3_25_3 hs1 ir_3_6 hb3 dX3_readRule_10 ?_
  obtain ⟨hs40, h⟩ := gp_e h
  have hs4 := sok_e hs40
  refine k_getI (pc := 13) C lkF_RX3_57_5 hs4 ir_5_0 dX3_readRule_13 ?_
  refine k_bipush (pc := 16) C (v := (8 : Int32)) dX3_readRule_16 (by decide) ?_
  refine k_icmp_ge (pc := 18) C dX3_readRule_18 (tgt := 30) (by decide) (fun hc5 => ?_) (fun hc5 => ?_)
  · rw [if_pos hc5] at h
    refine k_iconst (pc := 30) C (v := (0 : Int32)) dX3_readRule_30 (by decide) ?_
    have h := Option.some.inj h
    subst h
    exact k_zret (pc := 31) C hr hk (Or.inl rfl) dX3_readRule_31
  · rw [if_neg hc5] at h
    refine k_iloadn (pc := 21) C dX3_readRule_21 (i := 1) rfl 1 rfl ?_
    refine k_iconst (pc := 22) C (v := (0 : Int32)) dX3_readRule_22 (by decide) ?_
    refine k_iconst (pc := 23) C (v := (5 : Int32)) dX3_readRule_23 (by decide) ?_
    obtain ⟨r6, hr6, h⟩ := bd_e h
    refine k_SN (pc := 24) (st := []) C (c_X11_isBetween hr6) lkSN_RX3_90 rfl rfl (Nat.le_of_ble_eq_true rfl) (Nat.le_of_ble_eq_true rfl) (Nat.le_of_ble_eq_true rfl) (Nat.le_of_ble_eq_true rfl) (Nat.le_of_ble_eq_true rfl) dX3_readRule_24 ?_
    refine k_nf (cells2 := 0) (slots2 := 0) (st2 := [.int r6]) rfl rfl rfl ?_
    refine k_if_ne (pc := 27) C dX3_readRule_27 (tgt := 32) (by decide) (fun hc7 => ?_) (fun hc7 => ?_)
    · rw [if_neg hc7] at h
      refine k_aloadn (pc := 32) C dX3_readRule_32 (i := 0) rfl 0 rfl ?_
      refine k_dup (pc := 33) C dX3_readRule_33 rfl ?_
      refine k_getI (pc := 34) C lkF_RX3_36_3 hs1 ir_3_5 dX3_readRule_34 ?_
      refine k_iconst (pc := 37) C (v := (1 : Int32)) dX3_readRule_37 (by decide) ?_
      refine k_iadd (pc := 38) C dX3_readRule_38 ?_
      obtain ⟨I8, eI8, h⟩ := lt_e h
      refine k_putI (pc := 39) C lkP_RX3_36_3 hs1 ir_3_5 dX3_readRule_39 ?_
      rw [← eI8]
      refine k_aloadn (pc := 42) C dX3_readRule_42 (i := 0) rfl 0 rfl ?_
      obtain ⟨r9, hr9, h⟩ := bd_e h
      refine k_V (pc := 43) (st := []) C (c_X3_peek hr9) lkV_RX3_42 hs1 rfl rfl rfl (Nat.le_of_ble_eq_true rfl) (Nat.le_of_ble_eq_true rfl) (Nat.le_of_ble_eq_true rfl) (Nat.le_of_ble_eq_true rfl) (Nat.le_of_ble_eq_true rfl) dX3_readRule_43 ?_
      refine k_nf (cells2 := 0) (slots2 := 0) (st2 := [.int r9]) rfl rfl rfl ?_
      refine k_sipush (pc := 46) C (v := (10006 : Int32)) dX3_readRule_46 (by decide) ?_
      refine k_icmp_ne (pc := 49) C dX3_readRule_49 (tgt := 72) (by decide) (fun hc10 => ?_) (fun hc10 => ?_)
      · rw [if_neg hc10] at h
        exact b_X3_readRule_72 C hr hk  _ _ _ h
      · rw [if_pos hc10] at h
        refine k_aloadn (pc := 52) C dX3_readRule_52 (i := 0) rfl 0 rfl ?_
        refine k_dup (pc := 53) C dX3_readRule_53 rfl ?_
        refine k_getI (pc := 54) C lkF_RX3_36_3 hs1 ir_3_5 dX3_readRule_54 ?_
        refine k_iconst (pc := 57) C (v := (1 : Int32)) dX3_readRule_57 (by decide) ?_
        refine k_iadd (pc := 58) C dX3_readRule_58 ?_
        obtain ⟨I30, eI30, h⟩ := lt_e h
        refine k_putI (pc := 59) C lkP_RX3_36_3 hs1 ir_3_5 dX3_readRule_59 ?_
        rw [← eI30]
        refine k_aloadn (pc := 62) C dX3_readRule_62 (i := 0) rfl 0 rfl ?_
        refine k_iconst (pc := 63) C (v := (0 : Int32)) dX3_readRule_63 (by decide) ?_
        obtain ⟨r31, hr31, h⟩ := bd_e h
        refine k_V (pc := 64) (st := []) C (c_X3_readCondition (c_X3_readOne_g 8) hr31) lkV_RX3_94 hs1 rfl rfl rfl (Nat.le_of_ble_eq_true rfl) (Nat.le_of_ble_eq_true rfl) (Nat.le_of_ble_eq_true rfl) (Nat.le_of_ble_eq_true rfl) (Nat.le_of_ble_eq_true rfl) dX3_readRule_64 ?_
        refine k_nf (cells2 := 0) (slots2 := 0) (st2 := [.int r31.2]) rfl rfl rfl ?_
        refine k_if_ne (pc := 67) C dX3_readRule_67 (tgt := 72) (by decide) (fun hc32 => ?_) (fun hc32 => ?_)
        · rw [if_neg hc32] at h
          exact b_X3_readRule_72 C hr hk  _ _ _ h
        · rw [if_pos hc32] at h
          refine k_iconst (pc := 70) C (v := (0 : Int32)) dX3_readRule_70 (by decide) ?_
          have h := Option.some.inj h
          subst h
          exact k_zret (pc := 71) C hr hk (Or.inl rfl) dX3_readRule_71
    · rw [if_pos hc7] at h
      refine k_iconst (pc := 30) C (v := (0 : Int32)) dX3_readRule_30 (by decide) ?_
      have h := Option.some.inj h
      subst h
      exact k_zret (pc := 31) C hr hk (Or.inl rfl) dX3_readRule_31
theorem c_X3_readRule {E : Ev} {l : Launch} {S : Sh} {R : Rw} {I : Iw} {a0 : Nat} {r : Iw × Int32} (h : f_X3_readRule S R I a0 = some r) : Mt E l yX3_readRule cX3_readRule 5 (some .boolean) 27 621 [.ref (E.1 + a0)] S R I S R r.1 (some (.int r.2)) 0 0 := mt_of (by decide) (Nat.le_of_ble_eq_true rfl) (fun p e s m args below meth c C hr hk hn => b_X3_readRule C hr hk _ _ h)
theorem dX5_clear_0 : decode cX5_clear 0 = .ok (.aload_n 0, 1) := by decide +kernel
theorem dX5_clear_1 : decode cX5_clear 1 = .ok (.iconst 0, 1) := by decide +kernel
theorem dX5_clear_2 : decode cX5_clear 2 = .ok (.putfield 30, 3) := by decide +kernel
theorem dX5_clear_5 : decode cX5_clear 5 = .ok (.aload_n 0, 1) := by decide +kernel
theorem dX5_clear_6 : decode cX5_clear 6 = .ok (.iconst 0, 1) := by decide +kernel
theorem dX5_clear_7 : decode cX5_clear 7 = .ok (.putfield 34, 3) := by decide +kernel
theorem dX5_clear_10 : decode cX5_clear 10 = .ok (.return_, 1) := by decide +kernel
def f_X5_clear (S : Sh) (R : Rw)  (I : Iw) (a0 : Nat) : Option (Iw) := gp (sok S a0 5 8) (lt (up2 I a0 0 (0 : Int32)) (fun I2 => lt (up2 I2 a0 4 (0 : Int32)) (fun I3 => some I3)))
set_option maxHeartbeats 4000000 in
theorem b_X5_clear {E : Ev} {p : Program} {l : Launch} {e : Env} {s : State} {m : MethodId} {args : Array Value} {below : List Frame} {meth : Method} {c : Code} (C : Cx E RX5 cX5_clear 1 p s m c) (hr : meth.sig.returnType = none) (hk : meth.locks = false) {S : Sh} {R : Rw} {r : Iw}  : ∀ (I : Iw) (a0 : Nat), f_X5_clear S R   I a0 = some r → Wk E 1 p l e ({ frames := 0, cells := 0, slots := 0, locals := 0 } : Room) s m args below meth c 0 0 (MQ below (Qw E S R r none) args s 0 0 (fun q => E.1 ≤ q)) 0 [(0, .ref (E.1 + a0))] [] S R I := by
  intro I a0 h
  rw [f_X5_clear] at h
  refine k_aloadn (pc := 0) C dX5_clear_0 (i := 0) rfl 0 rfl ?_
  refine k_iconst (pc := 1) C (v := (0 : Int32)) dX5_clear_1 (by decide) ?_
  obtain ⟨hs10, h⟩ := gp_e h
  have hs1 := sok_e hs10
  obtain ⟨I2, eI2, h⟩ := lt_e h
  refine k_putI (pc := 2) C lkP_RX5_30_5 hs1 ir_5_0 dX5_clear_2 ?_
  rw [← eI2]
  refine k_aloadn (pc := 5) C dX5_clear_5 (i := 0) rfl 0 rfl ?_
  refine k_iconst (pc := 6) C (v := (0 : Int32)) dX5_clear_6 (by decide) ?_
  obtain ⟨I3, eI3, h⟩ := lt_e h
  refine k_putI (pc := 7) C lkP_RX5_34_5 hs1 ir_5_4 dX5_clear_7 ?_
  rw [← eI3]
  have h := Option.some.inj h
  subst h
  exact k_vret (pc := 10) C hr hk dX5_clear_10
theorem c_X5_clear {E : Ev} {l : Launch} {S : Sh} {R : Rw} {I : Iw} {a0 : Nat} {r : Iw} (h : f_X5_clear S R I a0 = some r) : Mt E l yX5_clear cX5_clear 1 none 0 0 [.ref (E.1 + a0)] S R I S R r none 0 0 := mt_of (by decide) (Nat.le_of_ble_eq_true rfl) (fun p e s m args below meth c C hr hk hn => b_X5_clear C hr hk _ _ h)
theorem dX5_copyFrom_0 : decode cX5_copyFrom 0 = .ok (.aload_n 0, 1) := by decide +kernel
theorem dX5_copyFrom_1 : decode cX5_copyFrom 1 = .ok (.aload_n 1, 1) := by decide +kernel
theorem dX5_copyFrom_2 : decode cX5_copyFrom 2 = .ok (.getfield 30, 3) := by decide +kernel
theorem dX5_copyFrom_5 : decode cX5_copyFrom 5 = .ok (.putfield 30, 3) := by decide +kernel
theorem dX5_copyFrom_8 : decode cX5_copyFrom 8 = .ok (.aload_n 0, 1) := by decide +kernel
theorem dX5_copyFrom_9 : decode cX5_copyFrom 9 = .ok (.aload_n 1, 1) := by decide +kernel
theorem dX5_copyFrom_10 : decode cX5_copyFrom 10 = .ok (.getfield 34, 3) := by decide +kernel
theorem dX5_copyFrom_13 : decode cX5_copyFrom 13 = .ok (.putfield 34, 3) := by decide +kernel
theorem dX5_copyFrom_16 : decode cX5_copyFrom 16 = .ok (.aload_n 1, 1) := by decide +kernel
theorem dX5_copyFrom_17 : decode cX5_copyFrom 17 = .ok (.getfield 9, 3) := by decide +kernel
theorem dX5_copyFrom_20 : decode cX5_copyFrom 20 = .ok (.iconst 0, 1) := by decide +kernel
theorem dX5_copyFrom_21 : decode cX5_copyFrom 21 = .ok (.aload_n 0, 1) := by decide +kernel
theorem dX5_copyFrom_22 : decode cX5_copyFrom 22 = .ok (.getfield 9, 3) := by decide +kernel
theorem dX5_copyFrom_25 : decode cX5_copyFrom 25 = .ok (.iconst 0, 1) := by decide +kernel
theorem dX5_copyFrom_26 : decode cX5_copyFrom 26 = .ok (.bipush 8, 2) := by decide +kernel
theorem dX5_copyFrom_28 : decode cX5_copyFrom 28 = .ok (.invokestatic 67, 3) := by decide +kernel
theorem dX5_copyFrom_31 : decode cX5_copyFrom 31 = .ok (.aload_n 1, 1) := by decide +kernel
theorem dX5_copyFrom_32 : decode cX5_copyFrom 32 = .ok (.getfield 15, 3) := by decide +kernel
theorem dX5_copyFrom_35 : decode cX5_copyFrom 35 = .ok (.iconst 0, 1) := by decide +kernel
theorem dX5_copyFrom_36 : decode cX5_copyFrom 36 = .ok (.aload_n 0, 1) := by decide +kernel
theorem dX5_copyFrom_37 : decode cX5_copyFrom 37 = .ok (.getfield 15, 3) := by decide +kernel
theorem dX5_copyFrom_40 : decode cX5_copyFrom 40 = .ok (.iconst 0, 1) := by decide +kernel
theorem dX5_copyFrom_41 : decode cX5_copyFrom 41 = .ok (.bipush 8, 2) := by decide +kernel
theorem dX5_copyFrom_43 : decode cX5_copyFrom 43 = .ok (.invokestatic 67, 3) := by decide +kernel
theorem dX5_copyFrom_46 : decode cX5_copyFrom 46 = .ok (.aload_n 1, 1) := by decide +kernel
theorem dX5_copyFrom_47 : decode cX5_copyFrom 47 = .ok (.getfield 18, 3) := by decide +kernel
theorem dX5_copyFrom_50 : decode cX5_copyFrom 50 = .ok (.iconst 0, 1) := by decide +kernel
theorem dX5_copyFrom_51 : decode cX5_copyFrom 51 = .ok (.aload_n 0, 1) := by decide +kernel
theorem dX5_copyFrom_52 : decode cX5_copyFrom 52 = .ok (.getfield 18, 3) := by decide +kernel
theorem dX5_copyFrom_55 : decode cX5_copyFrom 55 = .ok (.iconst 0, 1) := by decide +kernel
theorem dX5_copyFrom_56 : decode cX5_copyFrom 56 = .ok (.bipush 8, 2) := by decide +kernel
theorem dX5_copyFrom_58 : decode cX5_copyFrom 58 = .ok (.invokestatic 67, 3) := by decide +kernel
theorem dX5_copyFrom_61 : decode cX5_copyFrom 61 = .ok (.aload_n 1, 1) := by decide +kernel
theorem dX5_copyFrom_62 : decode cX5_copyFrom 62 = .ok (.getfield 21, 3) := by decide +kernel
theorem dX5_copyFrom_65 : decode cX5_copyFrom 65 = .ok (.iconst 0, 1) := by decide +kernel
theorem dX5_copyFrom_66 : decode cX5_copyFrom 66 = .ok (.aload_n 0, 1) := by decide +kernel
theorem dX5_copyFrom_67 : decode cX5_copyFrom 67 = .ok (.getfield 21, 3) := by decide +kernel
theorem dX5_copyFrom_70 : decode cX5_copyFrom 70 = .ok (.iconst 0, 1) := by decide +kernel
theorem dX5_copyFrom_71 : decode cX5_copyFrom 71 = .ok (.sipush 128, 3) := by decide +kernel
theorem dX5_copyFrom_74 : decode cX5_copyFrom 74 = .ok (.invokestatic 67, 3) := by decide +kernel
theorem dX5_copyFrom_77 : decode cX5_copyFrom 77 = .ok (.aload_n 1, 1) := by decide +kernel
theorem dX5_copyFrom_78 : decode cX5_copyFrom 78 = .ok (.getfield 24, 3) := by decide +kernel
theorem dX5_copyFrom_81 : decode cX5_copyFrom 81 = .ok (.iconst 0, 1) := by decide +kernel
theorem dX5_copyFrom_82 : decode cX5_copyFrom 82 = .ok (.aload_n 0, 1) := by decide +kernel
theorem dX5_copyFrom_83 : decode cX5_copyFrom 83 = .ok (.getfield 24, 3) := by decide +kernel
theorem dX5_copyFrom_86 : decode cX5_copyFrom 86 = .ok (.iconst 0, 1) := by decide +kernel
theorem dX5_copyFrom_87 : decode cX5_copyFrom 87 = .ok (.sipush 128, 3) := by decide +kernel
theorem dX5_copyFrom_90 : decode cX5_copyFrom 90 = .ok (.invokestatic 67, 3) := by decide +kernel
theorem dX5_copyFrom_93 : decode cX5_copyFrom 93 = .ok (.aload_n 1, 1) := by decide +kernel
theorem dX5_copyFrom_94 : decode cX5_copyFrom 94 = .ok (.getfield 27, 3) := by decide +kernel
theorem dX5_copyFrom_97 : decode cX5_copyFrom 97 = .ok (.iconst 0, 1) := by decide +kernel
theorem dX5_copyFrom_98 : decode cX5_copyFrom 98 = .ok (.aload_n 0, 1) := by decide +kernel
theorem dX5_copyFrom_99 : decode cX5_copyFrom 99 = .ok (.getfield 27, 3) := by decide +kernel
theorem dX5_copyFrom_102 : decode cX5_copyFrom 102 = .ok (.iconst 0, 1) := by decide +kernel
theorem dX5_copyFrom_103 : decode cX5_copyFrom 103 = .ok (.sipush 128, 3) := by decide +kernel
theorem dX5_copyFrom_106 : decode cX5_copyFrom 106 = .ok (.invokestatic 67, 3) := by decide +kernel
theorem dX5_copyFrom_109 : decode cX5_copyFrom 109 = .ok (.return_, 1) := by decide +kernel
def f_X5_copyFrom (S : Sh) (R : Rw)  (I : Iw) (a0 : Nat) (a1 : Nat) : Option (Iw) := gp (sok S a1 5 8) (gp (sok S a0 5 8) (lt (up2 I a0 0 (I a1 0)) (fun I3 => lt (up2 I3 a0 4 (I3 a1 4)) (fun I4 => rl (R a1 1) (fun b5 => rl (R a0 1) (fun b6 => gp (cok S 20 b5 b6 (0 : Int32) (0 : Int32) (8 : Int32)) (lt (cpy I4 b5 (0 : Int32).toNatClampNeg b6 (0 : Int32).toNatClampNeg (8 : Int32).toNatClampNeg) (fun I8 => rl (R a1 2) (fun b9 => rl (R a0 2) (fun b10 => gp (cok S 20 b9 b10 (0 : Int32) (0 : Int32) (8 : Int32)) (lt (cpy I8 b9 (0 : Int32).toNatClampNeg b10 (0 : Int32).toNatClampNeg (8 : Int32).toNatClampNeg) (fun I12 => rl (R a1 3) (fun b13 => rl (R a0 3) (fun b14 => gp (cok S 20 b13 b14 (0 : Int32) (0 : Int32) (8 : Int32)) (lt (cpy I12 b13 (0 : Int32).toNatClampNeg b14 (0 : Int32).toNatClampNeg (8 : Int32).toNatClampNeg) (fun I16 => rl (R a1 5) (fun b17 => rl (R a0 5) (fun b18 => gp (cok S 20 b17 b18 (0 : Int32) (0 : Int32) (128 : Int32)) (lt (cpy I16 b17 (0 : Int32).toNatClampNeg b18 (0 : Int32).toNatClampNeg (128 : Int32).toNatClampNeg) (fun I20 => rl (R a1 6) (fun b21 => rl (R a0 6) (fun b22 => gp (cok S 20 b21 b22 (0 : Int32) (0 : Int32) (128 : Int32)) (lt (cpy I20 b21 (0 : Int32).toNatClampNeg b22 (0 : Int32).toNatClampNeg (128 : Int32).toNatClampNeg) (fun I24 => rl (R a1 7) (fun b25 => rl (R a0 7) (fun b26 => gp (cok S 20 b25 b26 (0 : Int32) (0 : Int32) (128 : Int32)) (lt (cpy I24 b25 (0 : Int32).toNatClampNeg b26 (0 : Int32).toNatClampNeg (128 : Int32).toNatClampNeg) (fun I28 => some I28))))))))))))))))))))))))))))
set_option maxHeartbeats 4000000 in
theorem b_X5_copyFrom {E : Ev} {p : Program} {l : Launch} {e : Env} {s : State} {m : MethodId} {args : Array Value} {below : List Frame} {meth : Method} {c : Code} (C : Cx E RX5 cX5_copyFrom 2 p s m c) (hr : meth.sig.returnType = none) (hk : meth.locks = false) {S : Sh} {R : Rw} {r : Iw}  : ∀ (I : Iw) (a0 : Nat) (a1 : Nat), f_X5_copyFrom S R   I a0 a1 = some r → Wk E 2 p l e ({ frames := 1, cells := 0, slots := 0, locals := 60 } : Room) s m args below meth c 0 0 (MQ below (Qw E S R r none) args s 0 0 (fun q => E.1 ≤ q)) 0 [(0, .ref (E.1 + a0)), (1, .ref (E.1 + a1))] [] S R I := by
  intro I a0 a1 h
  rw [f_X5_copyFrom] at h
  refine k_aloadn (pc := 0) C dX5_copyFrom_0 (i := 0) rfl 0 rfl ?_
  refine k_aloadn (pc := 1) C dX5_copyFrom_1 (i := 1) rfl 1 rfl ?_
  obtain ⟨hs10, h⟩ := gp_e h
  have hs1 := sok_e hs10
  refine k_getI (pc := 2) C lkF_RX5_30_5 hs1 ir_5_0 dX5_copyFrom_2 ?_
  obtain ⟨hs20, h⟩ := gp_e h
  have hs2 := sok_e hs20
  obtain ⟨I3, eI3, h⟩ := lt_e h
  refine k_putI (pc := 5) C lkP_RX5_30_5 hs2 ir_5_0 dX5_copyFrom_5 ?_
  rw [← eI3]
  refine k_aloadn (pc := 8) C dX5_copyFrom_8 (i := 0) rfl 0 rfl ?_
  refine k_aloadn (pc := 9) C dX5_copyFrom_9 (i := 1) rfl 1 rfl ?_
  refine k_getI (pc := 10) C lkF_RX5_34_5 hs1 ir_5_4 dX5_copyFrom_10 ?_
  obtain ⟨I4, eI4, h⟩ := lt_e h
  refine k_putI (pc := 13) C lkP_RX5_34_5 hs2 ir_5_4 dX5_copyFrom_13 ?_
  rw [← eI4]
  refine k_aloadn (pc := 16) C dX5_copyFrom_16 (i := 1) rfl 1 rfl ?_
  obtain ⟨b5, hb5, h⟩ := rl_e h
  refine k_getR (pc := 17) C lkF_RX5_9_5 hs1 ir_5_1 hb5 dX5_copyFrom_17 ?_
  refine k_iconst (pc := 20) C (v := (0 : Int32)) dX5_copyFrom_20 (by decide) ?_
  refine k_aloadn (pc := 21) C dX5_copyFrom_21 (i := 0) rfl 0 rfl ?_
  obtain ⟨b6, hb6, h⟩ := rl_e h
  refine k_getR (pc := 22) C lkF_RX5_9_5 hs2 ir_5_1 hb6 dX5_copyFrom_22 ?_
  refine k_iconst (pc := 25) C (v := (0 : Int32)) dX5_copyFrom_25 (by decide) ?_
  refine k_bipush (pc := 26) C (v := (8 : Int32)) dX5_copyFrom_26 (by decide) ?_
  obtain ⟨ha7, h⟩ := gp_e h
  obtain ⟨I8, eI8, h⟩ := lt_e h
  refine k_copy (pc := 28) C (t3_in 34 (by decide +kernel) rfl) (t3_in 36 (by decide +kernel) rfl) (t3_in 35 (by decide +kernel) rfl) (t1_in 13 (by decide +kernel) rfl) rfl ha7 (Nat.le_of_ble_eq_true rfl) (Nat.le_of_ble_eq_true rfl) (Nat.le_of_ble_eq_true rfl) dX5_copyFrom_28 ?_
  rw [← eI8]
  refine k_aloadn (pc := 31) C dX5_copyFrom_31 (i := 1) rfl 1 rfl ?_
  obtain ⟨b9, hb9, h⟩ := rl_e h
  refine k_getR (pc := 32) C lkF_RX5_15_5 hs1 ir_5_2 hb9 dX5_copyFrom_32 ?_
  refine k_iconst (pc := 35) C (v := (0 : Int32)) dX5_copyFrom_35 (by decide) ?_
  refine k_aloadn (pc := 36) C dX5_copyFrom_36 (i := 0) rfl 0 rfl ?_
  obtain ⟨b10, hb10, h⟩ := rl_e h
  refine k_getR (pc := 37) C lkF_RX5_15_5 hs2 ir_5_2 hb10 dX5_copyFrom_37 ?_
  refine k_iconst (pc := 40) C (v := (0 : Int32)) dX5_copyFrom_40 (by decide) ?_
  refine k_bipush (pc := 41) C (v := (8 : Int32)) dX5_copyFrom_41 (by decide) ?_
  obtain ⟨ha11, h⟩ := gp_e h
  obtain ⟨I12, eI12, h⟩ := lt_e h
  refine k_copy (pc := 43) C (t3_in 34 (by decide +kernel) rfl) (t3_in 36 (by decide +kernel) rfl) (t3_in 35 (by decide +kernel) rfl) (t1_in 13 (by decide +kernel) rfl) rfl ha11 (Nat.le_of_ble_eq_true rfl) (Nat.le_of_ble_eq_true rfl) (Nat.le_of_ble_eq_true rfl) dX5_copyFrom_43 ?_
  rw [← eI12]
  refine k_aloadn (pc := 46) C dX5_copyFrom_46 (i := 1) rfl 1 rfl ?_
  obtain ⟨b13, hb13, h⟩ := rl_e h
  refine k_getR (pc := 47) C lkF_RX5_18_5 hs1 ir_5_3 hb13 dX5_copyFrom_47 ?_
  refine k_iconst (pc := 50) C (v := (0 : Int32)) dX5_copyFrom_50 (by decide) ?_
  refine k_aloadn (pc := 51) C dX5_copyFrom_51 (i := 0) rfl 0 rfl ?_
  obtain ⟨b14, hb14, h⟩ := rl_e h
  refine k_getR (pc := 52) C lkF_RX5_18_5 hs2 ir_5_3 hb14 dX5_copyFrom_52 ?_
  refine k_iconst (pc := 55) C (v := (0 : Int32)) dX5_copyFrom_55 (by decide) ?_
  refine k_bipush (pc := 56) C (v := (8 : Int32)) dX5_copyFrom_56 (by decide) ?_
  obtain ⟨ha15, h⟩ := gp_e h
  obtain ⟨I16, eI16, h⟩ := lt_e h
  refine k_copy (pc := 58) C (t3_in 34 (by decide +kernel) rfl) (t3_in 36 (by decide +kernel) rfl) (t3_in 35 (by decide +kernel) rfl) (t1_in 13 (by decide +kernel) rfl) rfl ha15 (Nat.le_of_ble_eq_true rfl) (Nat.le_of_ble_eq_true rfl) (Nat.le_of_ble_eq_true rfl) dX5_copyFrom_58 ?_
  rw [← eI16]
  refine k_aloadn (pc := 61) C dX5_copyFrom_61 (i := 1) rfl 1 rfl ?_
  obtain ⟨b17, hb17, h⟩ := rl_e h
  refine k_getR (pc := 62) C lkF_RX5_21_5 hs1 ir_5_5 hb17 dX5_copyFrom_62 ?_
  refine k_iconst (pc := 65) C (v := (0 : Int32)) dX5_copyFrom_65 (by decide) ?_
  refine k_aloadn (pc := 66) C dX5_copyFrom_66 (i := 0) rfl 0 rfl ?_
  obtain ⟨b18, hb18, h⟩ := rl_e h
  refine k_getR (pc := 67) C lkF_RX5_21_5 hs2 ir_5_5 hb18 dX5_copyFrom_67 ?_
  refine k_iconst (pc := 70) C (v := (0 : Int32)) dX5_copyFrom_70 (by decide) ?_
  refine k_sipush (pc := 71) C (v := (128 : Int32)) dX5_copyFrom_71 (by decide) ?_
  obtain ⟨ha19, h⟩ := gp_e h
  obtain ⟨I20, eI20, h⟩ := lt_e h
  refine k_copy (pc := 74) C (t3_in 34 (by decide +kernel) rfl) (t3_in 36 (by decide +kernel) rfl) (t3_in 35 (by decide +kernel) rfl) (t1_in 13 (by decide +kernel) rfl) rfl ha19 (Nat.le_of_ble_eq_true rfl) (Nat.le_of_ble_eq_true rfl) (Nat.le_of_ble_eq_true rfl) dX5_copyFrom_74 ?_
  rw [← eI20]
  refine k_aloadn (pc := 77) C dX5_copyFrom_77 (i := 1) rfl 1 rfl ?_
  obtain ⟨b21, hb21, h⟩ := rl_e h
  refine k_getR (pc := 78) C lkF_RX5_24_5 hs1 ir_5_6 hb21 dX5_copyFrom_78 ?_
  refine k_iconst (pc := 81) C (v := (0 : Int32)) dX5_copyFrom_81 (by decide) ?_
  refine k_aloadn (pc := 82) C dX5_copyFrom_82 (i := 0) rfl 0 rfl ?_
  obtain ⟨b22, hb22, h⟩ := rl_e h
  refine k_getR (pc := 83) C lkF_RX5_24_5 hs2 ir_5_6 hb22 dX5_copyFrom_83 ?_
  refine k_iconst (pc := 86) C (v := (0 : Int32)) dX5_copyFrom_86 (by decide) ?_
  refine k_sipush (pc := 87) C (v := (128 : Int32)) dX5_copyFrom_87 (by decide) ?_
  obtain ⟨ha23, h⟩ := gp_e h
  obtain ⟨I24, eI24, h⟩ := lt_e h
  refine k_copy (pc := 90) C (t3_in 34 (by decide +kernel) rfl) (t3_in 36 (by decide +kernel) rfl) (t3_in 35 (by decide +kernel) rfl) (t1_in 13 (by decide +kernel) rfl) rfl ha23 (Nat.le_of_ble_eq_true rfl) (Nat.le_of_ble_eq_true rfl) (Nat.le_of_ble_eq_true rfl) dX5_copyFrom_90 ?_
  rw [← eI24]
  refine k_aloadn (pc := 93) C dX5_copyFrom_93 (i := 1) rfl 1 rfl ?_
  obtain ⟨b25, hb25, h⟩ := rl_e h
  refine k_getR (pc := 94) C lkF_RX5_27_5 hs1 ir_5_7 hb25 dX5_copyFrom_94 ?_
  refine k_iconst (pc := 97) C (v := (0 : Int32)) dX5_copyFrom_97 (by decide) ?_
  refine k_aloadn (pc := 98) C dX5_copyFrom_98 (i := 0) rfl 0 rfl ?_
  obtain ⟨b26, hb26, h⟩ := rl_e h
  refine k_getR (pc := 99) C lkF_RX5_27_5 hs2 ir_5_7 hb26 dX5_copyFrom_99 ?_
  refine k_iconst (pc := 102) C (v := (0 : Int32)) dX5_copyFrom_102 (by decide) ?_
  refine k_sipush (pc := 103) C (v := (128 : Int32)) dX5_copyFrom_103 (by decide) ?_
  obtain ⟨ha27, h⟩ := gp_e h
  obtain ⟨I28, eI28, h⟩ := lt_e h
  refine k_copy (pc := 106) C (t3_in 34 (by decide +kernel) rfl) (t3_in 36 (by decide +kernel) rfl) (t3_in 35 (by decide +kernel) rfl) (t1_in 13 (by decide +kernel) rfl) rfl ha27 (Nat.le_of_ble_eq_true rfl) (Nat.le_of_ble_eq_true rfl) (Nat.le_of_ble_eq_true rfl) dX5_copyFrom_106 ?_
  rw [← eI28]
  have h := Option.some.inj h
  subst h
  exact k_vret (pc := 109) C hr hk dX5_copyFrom_109
theorem c_X5_copyFrom {E : Ev} {l : Launch} {S : Sh} {R : Rw} {I : Iw} {a0 : Nat} {a1 : Nat} {r : Iw} (h : f_X5_copyFrom S R I a0 a1 = some r) : Mt E l yX5_copyFrom cX5_copyFrom 2 none 1 60 [.ref (E.1 + a0), .ref (E.1 + a1)] S R I S R r none 0 0 := mt_of (by decide) (Nat.le_of_ble_eq_true rfl) (fun p e s m args below meth c C hr hk hn => b_X5_copyFrom C hr hk _ _ _ h)
theorem lkV_RX3_33 : LkV RX3 33 RX3 yX3_partTape cX3_partTape 5 none 0 := ⟨(t2_in 158 (by decide +kernel) rfl), (t2_in 160 (by decide +kernel) rfl), (t0_in 6 (by decide +kernel) rfl), (t2_in 161 (by decide +kernel) rfl), (t1_in 4 (by decide +kernel) rfl), by decide, by decide +kernel⟩
theorem lkV_RX3_39 : LkV RX3 39 RX5 yX5_clear cX5_clear 1 none 0 := ⟨(t2_in 230 (by decide +kernel) rfl), (t2_in 231 (by decide +kernel) rfl), (t2_in 232 (by decide +kernel) rfl), (t2_in 233 (by decide +kernel) rfl), (t1_in 3 (by decide +kernel) rfl), by decide, by decide +kernel⟩
theorem lkV_RX3_53 : LkV RX3 53 RX5 yX5_copyFrom cX5_copyFrom 2 none 1 := ⟨(t3_in 30 (by decide +kernel) rfl), (t3_in 31 (by decide +kernel) rfl), (t3_in 32 (by decide +kernel) rfl), (t3_in 33 (by decide +kernel) rfl), (t1_in 3 (by decide +kernel) rfl), by decide, by decide +kernel⟩
theorem lkV_RX3_46 : LkV RX3 46 RX3 yX3_readRule cX3_readRule 5 (some .boolean) 0 := ⟨(t2_in 238 (by decide +kernel) rfl), (t3_in 0 (by decide +kernel) rfl), (t0_in 12 (by decide +kernel) rfl), (t3_in 1 (by decide +kernel) rfl), (t1_in 4 (by decide +kernel) rfl), by decide, by decide +kernel⟩
theorem dX3_readInto_0 : decode cX3_readInto 0 = .ok (.aload_n 0, 1) := by decide +kernel
theorem dX3_readInto_1 : decode cX3_readInto 1 = .ok (.invokevirtual 33, 3) := by decide +kernel
theorem dX3_readInto_4 : decode cX3_readInto 4 = .ok (.aload_n 0, 1) := by decide +kernel
theorem dX3_readInto_5 : decode cX3_readInto 5 = .ok (.iconst 0, 1) := by decide +kernel
theorem dX3_readInto_6 : decode cX3_readInto 6 = .ok (.putfield 36, 3) := by decide +kernel
theorem dX3_readInto_9 : decode cX3_readInto 9 = .ok (.aload_n 0, 1) := by decide +kernel
theorem dX3_readInto_10 : decode cX3_readInto 10 = .ok (.iconst 0, 1) := by decide +kernel
theorem dX3_readInto_11 : decode cX3_readInto 11 = .ok (.putfield 29, 3) := by decide +kernel
theorem dX3_readInto_14 : decode cX3_readInto 14 = .ok (.aload_n 0, 1) := by decide +kernel
theorem dX3_readInto_15 : decode cX3_readInto 15 = .ok (.getfield 25, 3) := by decide +kernel
theorem dX3_readInto_18 : decode cX3_readInto 18 = .ok (.invokevirtual 39, 3) := by decide +kernel
theorem dX3_readInto_21 : decode cX3_readInto 21 = .ok (.iconst 0, 1) := by decide +kernel
theorem dX3_readInto_22 : decode cX3_readInto 22 = .ok (.istore_n 2, 1) := by decide +kernel
theorem dX3_readInto_23 : decode cX3_readInto 23 = .ok (.iload_n 2, 1) := by decide +kernel
theorem dX3_readInto_24 : decode cX3_readInto 24 = .ok (.bipush 8, 2) := by decide +kernel
theorem dX3_readInto_26 : decode cX3_readInto 26 = .ok (.if_icmp .gt 54, 3) := by decide +kernel
theorem dX3_readInto_29 : decode cX3_readInto 29 = .ok (.aload_n 0, 1) := by decide +kernel
theorem dX3_readInto_30 : decode cX3_readInto 30 = .ok (.invokevirtual 42, 3) := by decide +kernel
theorem dX3_readInto_33 : decode cX3_readInto 33 = .ok (.sipush 30000, 3) := by decide +kernel
theorem dX3_readInto_36 : decode cX3_readInto 36 = .ok (.if_icmp .eq 44, 3) := by decide +kernel
theorem dX3_readInto_39 : decode cX3_readInto 39 = .ok (.aload_n 0, 1) := by decide +kernel
theorem dX3_readInto_40 : decode cX3_readInto 40 = .ok (.invokevirtual 46, 3) := by decide +kernel
theorem dX3_readInto_43 : decode cX3_readInto 43 = .ok (.ifCond .ne 31, 3) := by decide +kernel
theorem dX3_readInto_46 : decode cX3_readInto 46 = .ok (.bipush (-100), 2) := by decide +kernel
theorem dX3_readInto_48 : decode cX3_readInto 48 = .ok (.aload_n 0, 1) := by decide +kernel
theorem dX3_readInto_49 : decode cX3_readInto 49 = .ok (.getfield 36, 3) := by decide +kernel
theorem dX3_readInto_52 : decode cX3_readInto 52 = .ok (.aload_n 0, 1) := by decide +kernel
theorem dX3_readInto_53 : decode cX3_readInto 53 = .ok (.getfield 50, 3) := by decide +kernel
theorem dX3_readInto_56 : decode cX3_readInto 56 = .ok (.if_icmp .ge 15, 3) := by decide +kernel
theorem dX3_readInto_59 : decode cX3_readInto 59 = .ok (.aload_n 0, 1) := by decide +kernel
theorem dX3_readInto_60 : decode cX3_readInto 60 = .ok (.getfield 19, 3) := by decide +kernel
theorem dX3_readInto_63 : decode cX3_readInto 63 = .ok (.aload_n 0, 1) := by decide +kernel
theorem dX3_readInto_64 : decode cX3_readInto 64 = .ok (.getfield 36, 3) := by decide +kernel
theorem dX3_readInto_67 : decode cX3_readInto 67 = .ok (.iaload, 1) := by decide +kernel
theorem dX3_readInto_68 : decode cX3_readInto 68 = .ok (.goto 4, 3) := by decide +kernel
theorem dX3_readInto_71 : decode cX3_readInto 71 = .ok (.iconst 0, 1) := by decide +kernel
theorem dX3_readInto_72 : decode cX3_readInto 72 = .ok (.isub, 1) := by decide +kernel
theorem dX3_readInto_73 : decode cX3_readInto 73 = .ok (.ireturn, 1) := by decide +kernel
theorem dX3_readInto_74 : decode cX3_readInto 74 = .ok (.iinc 2 1, 3) := by decide +kernel
theorem dX3_readInto_77 : decode cX3_readInto 77 = .ok (.goto (-54), 3) := by decide +kernel
theorem dX3_readInto_80 : decode cX3_readInto 80 = .ok (.aload_n 1, 1) := by decide +kernel
theorem dX3_readInto_81 : decode cX3_readInto 81 = .ok (.aload_n 0, 1) := by decide +kernel
theorem dX3_readInto_82 : decode cX3_readInto 82 = .ok (.getfield 25, 3) := by decide +kernel
theorem dX3_readInto_85 : decode cX3_readInto 85 = .ok (.invokevirtual 53, 3) := by decide +kernel
theorem dX3_readInto_88 : decode cX3_readInto 88 = .ok (.aload_n 1, 1) := by decide +kernel
theorem dX3_readInto_89 : decode cX3_readInto 89 = .ok (.getfield 57, 3) := by decide +kernel
theorem dX3_readInto_92 : decode cX3_readInto 92 = .ok (.ireturn, 1) := by decide +kernel
def f_X3_readInto_80 (S : Sh) (R : Rw)  (I : Iw) (a0 : Nat) (a1 : Nat) : Option (Iw × Int32) := gp (sok S a0 3 7) (rl (R a0 6) (fun b10 => gp (sok S a1 5 8) (bd (f_X5_copyFrom S R I a1 b10) (fun r12 => some (r12, r12 a1 0)))))
set_option maxHeartbeats 4000000 in
theorem b_X3_readInto_80 {E : Ev} {p : Program} {l : Launch} {e : Env} {s : State} {m : MethodId} {args : Array Value} {below : List Frame} {meth : Method} {c : Code} (C : Cx E RX3 cX3_readInto 3 p s m c) (hr : meth.sig.returnType = (some .int)) (hk : meth.locks = false) {S : Sh} {R : Rw} {r : Iw × Int32}  : ∀ (I : Iw) (a0 : Nat) (a1 : Nat), f_X3_readInto_80 S R   I a0 a1 = some r → Wk E 3 p l e ({ frames := 28, cells := 0, slots := 0, locals := 645 } : Room) s m args below meth c 0 0 (MQ below (Qw E S R r.1 (some (.int r.2))) args s 0 0 (fun q => E.1 ≤ q)) 80 [(0, .ref (E.1 + a0)), (1, .ref (E.1 + a1))] [] S R I := by
  intro I a0 a1 h
  rw [f_X3_readInto_80] at h
  refine k_aloadn (pc := 80) C dX3_readInto_80 (i := 1) rfl 1 rfl ?_
  refine k_aloadn (pc := 81) C dX3_readInto_81 (i := 0) rfl 0 rfl ?_
  obtain ⟨hs90, h⟩ := gp_e h
  have hs9 := sok_e hs90
  obtain ⟨b10, hb10, h⟩ := rl_e h
  refine k_getR (pc := 82) C lkF_RX3_25_3 hs9 ir_3_6 hb10 dX3_readInto_82 ?_
  obtain ⟨hs110, h⟩ := gp_e h
  have hs11 := sok_e hs110
  obtain ⟨r12, hr12, h⟩ := bd_e h
  refine k_V (pc := 85) (st := []) C (c_X5_copyFrom hr12) lkV_RX3_53 hs11 rfl rfl rfl (Nat.le_of_ble_eq_true rfl) (Nat.le_of_ble_eq_true rfl) (Nat.le_of_ble_eq_true rfl) (Nat.le_of_ble_eq_true rfl) (Nat.le_of_ble_eq_true rfl) dX3_readInto_85 ?_
  refine k_nf (cells2 := 0) (slots2 := 0) (st2 := []) rfl rfl rfl ?_
  refine k_aloadn (pc := 88) C dX3_readInto_88 (i := 1) rfl 1 rfl ?_
  refine k_getI (pc := 89) C lkF_RX3_57_5 hs11 ir_5_0 dX3_readInto_89 ?_
  have h := Option.some.inj h
  subst h
  exact k_iret (pc := 92) C hr hk dX3_readInto_92
def f_X3_readInto_23 (S : Sh) (R : Rw)  : Nat → Iw → Nat → Nat → Int32 → Option (Iw × Int32)
  | 0, _, _, _, _ => none
  | n + 1, I, a0, a1, x2 => (if (8 : Int32) < x2 then f_X3_readInto_80 S R  I a0 a1 else gp (sok S a0 3 7) (bd (f_X3_peek S R I a0) (fun r14 => (if r14 = (30000 : Int32) then f_X3_readInto_80 S R  I a0 a1 else bd (f_X3_readRule S R I a0) (fun r16 => (if r16.2 = 0 then (if (r16.1 a0 4) ≤ (r16.1 a0 5) then some (r16.1, (-100 : Int32) - (0 : Int32)) else rl (R a0 3) (fun b19 => gp (aok S 20 b19 (r16.1 a0 5)) (some (r16.1, (-100 : Int32) - (r16.1 b19 (r16.1 a0 5).toNatClampNeg))))) else f_X3_readInto_23 S R  n r16.1 a0 a1 (x2 + (1 : Int32))))))))
set_option maxHeartbeats 4000000 in
theorem b_X3_readInto_23 {E : Ev} {p : Program} {l : Launch} {e : Env} {s : State} {m : MethodId} {args : Array Value} {below : List Frame} {meth : Method} {c : Code} (C : Cx E RX3 cX3_readInto 3 p s m c) (hr : meth.sig.returnType = (some .int)) (hk : meth.locks = false) {S : Sh} {R : Rw} {r : Iw × Int32}  : ∀ (n : Nat) (I : Iw) (a0 : Nat) (a1 : Nat) (x2 : Int32), f_X3_readInto_23 S R  n I a0 a1 x2 = some r → Wk E 3 p l e ({ frames := 28, cells := 0, slots := 0, locals := 645 } : Room) s m args below meth c 0 0 (MQ below (Qw E S R r.1 (some (.int r.2))) args s 0 0 (fun q => E.1 ≤ q)) 23 [(0, .ref (E.1 + a0)), (1, .ref (E.1 + a1)), (2, .int x2)] [] S R I := by
  intro n
  induction n with
  | zero =>
    intro I a0 a1 x2 h
    rw [f_X3_readInto_23] at h
    cases h
  | succ n ih =>
    intro I a0 a1 x2 h
    rw [f_X3_readInto_23] at h
    refine k_iloadn (pc := 23) C dX3_readInto_23 (i := 2) rfl 2 rfl ?_
    refine k_bipush (pc := 24) C (v := (8 : Int32)) dX3_readInto_24 (by decide) ?_
    refine k_icmp_gt (pc := 26) C dX3_readInto_26 (tgt := 80) (by decide) (fun hc8 => ?_) (fun hc8 => ?_)
    · rw [if_pos hc8] at h
      refine k_loc (L2 := [(0, .ref (E.1 + a0)), (1, .ref (E.1 + a1))]) [0, 1] rfl ?_
      exact b_X3_readInto_80 C hr hk  _ _ _ h
    · rw [if_neg hc8] at h
      refine k_aloadn (pc := 29) C dX3_readInto_29 (i := 0) rfl 0 rfl ?_
      obtain ⟨hs130, h⟩ := gp_e h
      have hs13 := sok_e hs130
      obtain ⟨r14, hr14, h⟩ := bd_e h
      refine k_V (pc := 30) (st := []) C (c_X3_peek hr14) lkV_RX3_42 hs13 rfl rfl rfl (Nat.le_of_ble_eq_true rfl) (Nat.le_of_ble_eq_true rfl) (Nat.le_of_ble_eq_true rfl) (Nat.le_of_ble_eq_true rfl) (Nat.le_of_ble_eq_true rfl) dX3_readInto_30 ?_
      refine k_nf (cells2 := 0) (slots2 := 0) (st2 := [.int r14]) rfl rfl rfl ?_
      refine k_sipush (pc := 33) C (v := (30000 : Int32)) dX3_readInto_33 (by decide) ?_
      refine k_icmp_eq (pc := 36) C dX3_readInto_36 (tgt := 80) (by decide) (fun hc15 => ?_) (fun hc15 => ?_)
      · rw [if_pos hc15] at h
        refine k_loc (L2 := [(0, .ref (E.1 + a0)), (1, .ref (E.1 + a1))]) [0, 1] rfl ?_
        exact b_X3_readInto_80 C hr hk  _ _ _ h
      · rw [if_neg hc15] at h
        refine k_aloadn (pc := 39) C dX3_readInto_39 (i := 0) rfl 0 rfl ?_
        obtain ⟨r16, hr16, h⟩ := bd_e h
        refine k_V (pc := 40) (st := []) C (c_X3_readRule hr16) lkV_RX3_46 hs13 rfl rfl rfl (Nat.le_of_ble_eq_true rfl) (Nat.le_of_ble_eq_true rfl) (Nat.le_of_ble_eq_true rfl) (Nat.le_of_ble_eq_true rfl) (Nat.le_of_ble_eq_true rfl) dX3_readInto_40 ?_
        refine k_nf (cells2 := 0) (slots2 := 0) (st2 := [.int r16.2]) rfl rfl rfl ?_
        refine k_if_ne (pc := 43) C dX3_readInto_43 (tgt := 74) (by decide) (fun hc17 => ?_) (fun hc17 => ?_)
        · rw [if_neg hc17] at h
          refine k_iinc (pc := 74) C dX3_readInto_74 2 rfl (v := x2 + (1 : Int32)) (by rfl) (by decide) (L2 := [(0, .ref (E.1 + a0)), (1, .ref (E.1 + a1)), (2, .int (x2 + (1 : Int32)))]) rfl ?_
          refine k_goto (pc := 77) C dX3_readInto_77 (tgt := 23) (by decide) ?_
          exact ih _ _ _ _ h
        · rw [if_pos hc17] at h
          refine k_bipush (pc := 46) C (v := (-100 : Int32)) dX3_readInto_46 (by decide) ?_
          refine k_aloadn (pc := 48) C dX3_readInto_48 (i := 0) rfl 0 rfl ?_
          refine k_getI (pc := 49) C lkF_RX3_36_3 hs13 ir_3_5 dX3_readInto_49 ?_
          refine k_aloadn (pc := 52) C dX3_readInto_52 (i := 0) rfl 0 rfl ?_
          refine k_getI (pc := 53) C lkF_RX3_50_3 hs13 ir_3_4 dX3_readInto_53 ?_
          refine k_icmp_ge (pc := 56) C dX3_readInto_56 (tgt := 71) (by decide) (fun hc18 => ?_) (fun hc18 => ?_)
          · rw [if_pos hc18] at h
            refine k_iconst (pc := 71) C (v := (0 : Int32)) dX3_readInto_71 (by decide) ?_
            refine k_isub (pc := 72) C dX3_readInto_72 ?_
            have h := Option.some.inj h
            subst h
            exact k_iret (pc := 73) C hr hk dX3_readInto_73
          · rw [if_neg hc18] at h
            refine k_aloadn (pc := 59) C dX3_readInto_59 (i := 0) rfl 0 rfl ?_
            obtain ⟨b19, hb19, h⟩ := rl_e h
            refine k_getR (pc := 60) C lkF_RX3_19_3 hs13 ir_3_3 hb19 dX3_readInto_60 ?_
            refine k_aloadn (pc := 63) C dX3_readInto_63 (i := 0) rfl 0 rfl ?_
            refine k_getI (pc := 64) C lkF_RX3_36_3 hs13 ir_3_5 dX3_readInto_64 ?_
            obtain ⟨ha20, h⟩ := gp_e h
            refine k_iald (pc := 67) C ha20 dX3_readInto_67 ?_
            refine k_goto (pc := 68) C dX3_readInto_68 (tgt := 72) (by decide) ?_
            refine k_isub (pc := 72) C dX3_readInto_72 ?_
            have h := Option.some.inj h
            subst h
            exact k_iret (pc := 73) C hr hk dX3_readInto_73
def f_X3_readInto (S : Sh) (R : Rw)  (I : Iw) (a0 : Nat) (a1 : Nat) : Option (Iw × Int32) := gp (sok S a0 3 7) (bd (f_X3_partTape S R I a0) (fun r2 => lt (up2 r2 a0 5 (0 : Int32)) (fun I3 => lt (up2 I3 a0 0 (0 : Int32)) (fun I4 => rl (R a0 6) (fun b5 => gp (sok S b5 5 8) (bd (f_X5_clear S R I4 b5) (fun r7 => f_X3_readInto_23 S R  512 r7 a0 a1 (0 : Int32))))))))
set_option maxHeartbeats 4000000 in
theorem b_X3_readInto {E : Ev} {p : Program} {l : Launch} {e : Env} {s : State} {m : MethodId} {args : Array Value} {below : List Frame} {meth : Method} {c : Code} (C : Cx E RX3 cX3_readInto 3 p s m c) (hr : meth.sig.returnType = (some .int)) (hk : meth.locks = false) {S : Sh} {R : Rw} {r : Iw × Int32}  : ∀ (I : Iw) (a0 : Nat) (a1 : Nat), f_X3_readInto S R   I a0 a1 = some r → Wk E 3 p l e ({ frames := 28, cells := 0, slots := 0, locals := 645 } : Room) s m args below meth c 0 0 (MQ below (Qw E S R r.1 (some (.int r.2))) args s 0 0 (fun q => E.1 ≤ q)) 0 [(0, .ref (E.1 + a0)), (1, .ref (E.1 + a1))] [] S R I := by
  intro I a0 a1 h
  rw [f_X3_readInto] at h
  refine k_aloadn (pc := 0) C dX3_readInto_0 (i := 0) rfl 0 rfl ?_
  obtain ⟨hs10, h⟩ := gp_e h
  have hs1 := sok_e hs10
  obtain ⟨r2, hr2, h⟩ := bd_e h
  refine k_V (pc := 1) (st := []) C (c_X3_partTape hr2) lkV_RX3_33 hs1 rfl rfl rfl (Nat.le_of_ble_eq_true rfl) (Nat.le_of_ble_eq_true rfl) (Nat.le_of_ble_eq_true rfl) (Nat.le_of_ble_eq_true rfl) (Nat.le_of_ble_eq_true rfl) dX3_readInto_1 ?_
  refine k_nf (cells2 := 0) (slots2 := 0) (st2 := []) rfl rfl rfl ?_
  refine k_aloadn (pc := 4) C dX3_readInto_4 (i := 0) rfl 0 rfl ?_
  refine k_iconst (pc := 5) C (v := (0 : Int32)) dX3_readInto_5 (by decide) ?_
  obtain ⟨I3, eI3, h⟩ := lt_e h
  refine k_putI (pc := 6) C lkP_RX3_36_3 hs1 ir_3_5 dX3_readInto_6 ?_
  rw [← eI3]
  refine k_aloadn (pc := 9) C dX3_readInto_9 (i := 0) rfl 0 rfl ?_
  refine k_iconst (pc := 10) C (v := (0 : Int32)) dX3_readInto_10 (by decide) ?_
  obtain ⟨I4, eI4, h⟩ := lt_e h
  refine k_putI (pc := 11) C lkP_RX3_29_3 hs1 ir_3_0 dX3_readInto_11 ?_
  rw [← eI4]
  refine k_aloadn (pc := 14) C dX3_readInto_14 (i := 0) rfl 0 rfl ?_
  obtain ⟨b5, hb5, h⟩ := rl_e h
  refine k_getR (pc := 15) C lkF_RX3_25_3 hs1 ir_3_6 hb5 dX3_readInto_15 ?_
  obtain ⟨hs60, h⟩ := gp_e h
  have hs6 := sok_e hs60
  obtain ⟨r7, hr7, h⟩ := bd_e h
  refine k_V (pc := 18) (st := []) C (c_X5_clear hr7) lkV_RX3_39 hs6 rfl rfl rfl (Nat.le_of_ble_eq_true rfl) (Nat.le_of_ble_eq_true rfl) (Nat.le_of_ble_eq_true rfl) (Nat.le_of_ble_eq_true rfl) (Nat.le_of_ble_eq_true rfl) dX3_readInto_18 ?_
  refine k_nf (cells2 := 0) (slots2 := 0) (st2 := []) rfl rfl rfl ?_
  refine k_iconst (pc := 21) C (v := (0 : Int32)) dX3_readInto_21 (by decide) ?_
  refine k_istoren (pc := 22) C dX3_readInto_22 (i := 2) rfl (by decide) (L2 := [(0, .ref (E.1 + a0)), (1, .ref (E.1 + a1)), (2, .int (0 : Int32))]) rfl ?_
  exact b_X3_readInto_23 C hr hk  _ _ _ _ _ h
theorem c_X3_readInto {E : Ev} {l : Launch} {S : Sh} {R : Rw} {I : Iw} {a0 : Nat} {a1 : Nat} {r : Iw × Int32} (h : f_X3_readInto S R I a0 a1 = some r) : Mt E l yX3_readInto cX3_readInto 3 (some .int) 28 645 [.ref (E.1 + a0), .ref (E.1 + a1)] S R I S R r.1 (some (.int r.2)) 0 0 := mt_of (by decide) (Nat.le_of_ble_eq_true rfl) (fun p e s m args below meth c C hr hk hn => b_X3_readInto C hr hk _ _ _ h)
