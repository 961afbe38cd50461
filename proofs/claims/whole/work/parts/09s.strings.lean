/-! length() and charAt() of the text constants -/
theorem dJ0_length_8abf5_0 : decode cJ0_length_8abf5 0 = .ok (.aload_n 0, 1) := by decide +kernel
theorem dJ0_length_8abf5_1 : decode cJ0_length_8abf5 1 = .ok (.getfield 9, 3) := by decide +kernel
theorem dJ0_length_8abf5_4 : decode cJ0_length_8abf5 4 = .ok (.arraylength, 1) := by decide +kernel
theorem dJ0_length_8abf5_5 : decode cJ0_length_8abf5 5 = .ok (.aload_n 0, 1) := by decide +kernel
theorem dJ0_length_8abf5_6 : decode cJ0_length_8abf5 6 = .ok (.invokevirtual 335, 3) := by decide +kernel
theorem dJ0_length_8abf5_9 : decode cJ0_length_8abf5 9 = .ok (.ishr, 1) := by decide +kernel
theorem dJ0_length_8abf5_10 : decode cJ0_length_8abf5 10 = .ok (.ireturn, 1) := by decide +kernel
theorem dJ0_coder_7d493_0 : decode cJ0_coder_7d493 0 = .ok (.getstatic 38, 3) := by decide +kernel
theorem dJ0_coder_7d493_3 : decode cJ0_coder_7d493 3 = .ok (.ifCond .eq 10, 3) := by decide +kernel
theorem dJ0_coder_7d493_6 : decode cJ0_coder_7d493 6 = .ok (.aload_n 0, 1) := by decide +kernel
theorem dJ0_coder_7d493_7 : decode cJ0_coder_7d493 7 = .ok (.getfield 15, 3) := by decide +kernel
theorem dJ0_coder_7d493_10 : decode cJ0_coder_7d493 10 = .ok (.goto 4, 3) := by decide +kernel
theorem dJ0_coder_7d493_13 : decode cJ0_coder_7d493 13 = .ok (.iconst 1, 1) := by decide +kernel
theorem dJ0_coder_7d493_14 : decode cJ0_coder_7d493 14 = .ok (.ireturn, 1) := by decide +kernel
theorem dJ0_charAt_5068e_0 : decode cJ0_charAt_5068e 0 = .ok (.aload_n 0, 1) := by decide +kernel
theorem dJ0_charAt_5068e_1 : decode cJ0_charAt_5068e 1 = .ok (.invokevirtual 492, 3) := by decide +kernel
theorem dJ0_charAt_5068e_4 : decode cJ0_charAt_5068e 4 = .ok (.ifCond .eq 12, 3) := by decide +kernel
theorem dJ0_charAt_5068e_7 : decode cJ0_charAt_5068e 7 = .ok (.aload_n 0, 1) := by decide +kernel
theorem dJ0_charAt_5068e_8 : decode cJ0_charAt_5068e 8 = .ok (.getfield 9, 3) := by decide +kernel
theorem dJ0_charAt_5068e_11 : decode cJ0_charAt_5068e 11 = .ok (.iload_n 1, 1) := by decide +kernel
theorem dJ0_charAt_5068e_12 : decode cJ0_charAt_5068e 12 = .ok (.invokestatic 495, 3) := by decide +kernel
theorem dJ0_charAt_5068e_15 : decode cJ0_charAt_5068e 15 = .ok (.ireturn, 1) := by decide +kernel
theorem dJ0_isLatin1_aae02_0 : decode cJ0_isLatin1_aae02 0 = .ok (.getstatic 38, 3) := by decide +kernel
theorem dJ0_isLatin1_aae02_3 : decode cJ0_isLatin1_aae02 3 = .ok (.ifCond .eq 14, 3) := by decide +kernel
theorem dJ0_isLatin1_aae02_6 : decode cJ0_isLatin1_aae02 6 = .ok (.aload_n 0, 1) := by decide +kernel
theorem dJ0_isLatin1_aae02_7 : decode cJ0_isLatin1_aae02 7 = .ok (.getfield 15, 3) := by decide +kernel
theorem dJ0_isLatin1_aae02_10 : decode cJ0_isLatin1_aae02 10 = .ok (.ifCond .ne 7, 3) := by decide +kernel
theorem dJ0_isLatin1_aae02_13 : decode cJ0_isLatin1_aae02 13 = .ok (.iconst 1, 1) := by decide +kernel
theorem dJ0_isLatin1_aae02_14 : decode cJ0_isLatin1_aae02 14 = .ok (.goto 4, 3) := by decide +kernel
theorem dJ0_isLatin1_aae02_17 : decode cJ0_isLatin1_aae02 17 = .ok (.iconst 0, 1) := by decide +kernel
theorem dJ0_isLatin1_aae02_18 : decode cJ0_isLatin1_aae02 18 = .ok (.ireturn, 1) := by decide +kernel
theorem dJ0_checkIndex_df160_0 : decode cJ0_checkIndex_df160 0 = .ok (.iload_n 0, 1) := by decide +kernel
theorem dJ0_checkIndex_df160_1 : decode cJ0_checkIndex_df160 1 = .ok (.iload_n 1, 1) := by decide +kernel
theorem dJ0_checkIndex_df160_2 : decode cJ0_checkIndex_df160 2 = .ok (.getstatic 1053, 3) := by decide +kernel
theorem dJ0_checkIndex_df160_5 : decode cJ0_checkIndex_df160 5 = .ok (.invokestatic 1059, 3) := by decide +kernel
theorem dJ0_checkIndex_df160_8 : decode cJ0_checkIndex_df160 8 = .ok (.pop, 1) := by decide +kernel
theorem dJ0_checkIndex_df160_9 : decode cJ0_checkIndex_df160 9 = .ok (.return_, 1) := by decide +kernel
theorem dJ1_charAt_3b067_0 : decode cJ1_charAt_3b067 0 = .ok (.iload_n 1, 1) := by decide +kernel
theorem dJ1_charAt_3b067_1 : decode cJ1_charAt_3b067 1 = .ok (.aload_n 0, 1) := by decide +kernel
theorem dJ1_charAt_3b067_2 : decode cJ1_charAt_3b067 2 = .ok (.arraylength, 1) := by decide +kernel
theorem dJ1_charAt_3b067_3 : decode cJ1_charAt_3b067 3 = .ok (.invokestatic 9, 3) := by decide +kernel
theorem dJ1_charAt_3b067_6 : decode cJ1_charAt_3b067 6 = .ok (.aload_n 0, 1) := by decide +kernel
theorem dJ1_charAt_3b067_7 : decode cJ1_charAt_3b067 7 = .ok (.iload_n 1, 1) := by decide +kernel
theorem dJ1_charAt_3b067_8 : decode cJ1_charAt_3b067 8 = .ok (.baload, 1) := by decide +kernel
theorem dJ1_charAt_3b067_9 : decode cJ1_charAt_3b067 9 = .ok (.sipush 255, 3) := by decide +kernel
theorem dJ1_charAt_3b067_12 : decode cJ1_charAt_3b067 12 = .ok (.iand, 1) := by decide +kernel
theorem dJ1_charAt_3b067_13 : decode cJ1_charAt_3b067 13 = .ok (.i2c, 1) := by decide +kernel
theorem dJ1_charAt_3b067_14 : decode cJ1_charAt_3b067 14 = .ok (.ireturn, 1) := by decide +kernel
theorem dJ3_checkIndex_8e157_0 : decode cJ3_checkIndex_8e157 0 = .ok (.iload_n 0, 1) := by decide +kernel
theorem dJ3_checkIndex_8e157_1 : decode cJ3_checkIndex_8e157 1 = .ok (.ifCond .lt 8, 3) := by decide +kernel
theorem dJ3_checkIndex_8e157_4 : decode cJ3_checkIndex_8e157 4 = .ok (.iload_n 0, 1) := by decide +kernel
theorem dJ3_checkIndex_8e157_5 : decode cJ3_checkIndex_8e157 5 = .ok (.iload_n 1, 1) := by decide +kernel
theorem dJ3_checkIndex_8e157_6 : decode cJ3_checkIndex_8e157 6 = .ok (.if_icmp .lt 10, 3) := by decide +kernel
theorem dJ3_checkIndex_8e157_16 : decode cJ3_checkIndex_8e157 16 = .ok (.iload_n 0, 1) := by decide +kernel
theorem dJ3_checkIndex_8e157_17 : decode cJ3_checkIndex_8e157 17 = .ok (.ireturn, 1) := by decide +kernel
def chok (i : Nat) (k : Int32) : Bool := decide (i < txN ∧ ¬ (k < 0 ∨ txL.getD i 0 ≤ k.toNatClampNeg))
def chr (i k : Nat) : Int32 := (txB.getD i []).getD k 0 &&& 255
theorem tx_len : ∀ i, i < txN → txL.getD i 0 < 2 ^ 31 := by decide +kernel
def SvA (E : Ev) (adV : Nat → Nat) : Prop := vk_S txN txL txB E.2.1 adV (fun q => E.1 ≤ q) E.2.2.2.2.1 E.2.2.2.2.1.heap
section STRS
variable {E : Ev} {own : String} {cc : ByteArray} {nL : Nat} {p : Program} {l : Launch} {e : Env} {Rm : Room} {s : State} {m : MethodId} {args : Array Value} {below : List Frame} {meth : Method} {c : Code} {cells slots : Nat} {Q : State → Prop} {pc : Nat} {L : List (Nat × Value)} {st : List Value} {S : Sh} {R : Rw} {I : Iw}
variable {y : MethodName} {bytes : ByteArray} {maxL fr lo n mc ms : Nat} {ret : Option FieldType} {As stk : List Value} {S2 : Sh} {R2 : Rw} {I2 : Iw} {o : Option Value} {idx b : Nat} {adV : Nat → Nat}
theorem k_of (C : Cx E own cc nL p s m c) {t : Nat} {o n d : String} {v : Value} (h : va_OF o n d v t (fun q => E.1 ≤ q) s E.2.2.2.2.1.heap) (hfl : Cond.fieldLink own idx o n d ∈ TB) (dd : decode cc pc = .ok (.getfield idx, 3)) (k : Wk E nL p l e Rm s m args below meth c cells slots Q (pc + 3) L (v :: st) S R I) : Wk E nL p l e Rm s m args below meth c cells slots Q (pc) L (.ref t :: st) S R I := by
  intro H locs ls hR hl hL
  obtain ⟨cf, kf, fi, f, cell, h1, h2, h3, h4, h5, h6⟩ := h
  have hlt : t < E.1 := Nat.lt_of_not_le h6
  exact W.getf C.1 C.2.1 C.2.2.2.1 (wd C hfl) h1 h2 (by rw [hR.2.1 _ hlt]; exact h3) h4 h5 rfl rfl dd (k H locs ls hR hl hL)
theorem k_cs (C : Cx E own cc nL p s m c) (hw : Cond.fieldLink own idx "java/lang/String" "COMPACT_STRINGS" "Z" ∈ TB) (d : decode cc pc = .ok (.getstatic idx, 3)) (k : Wk E nL p l e Rm s m args below meth c cells slots Q (pc + 3) L (.int 1 :: st) S R I) : Wk E nL p l e Rm s m args below meth c cells slots Q (pc) L (st) S R I := by
  intro H locs ls hR hl hL
  obtain ⟨cf, kf, fi, f, a, cell, h1, h2, h3, h4, h5, h6, h7, h8⟩ := va_Z.moved C.2.2.2.2.1.alike C.2.2.2.2.2.2.2.2.2.2.2.2.2.2.2.1
  have hlt : a < E.1 := Nat.lt_of_not_le h8
  exact W.gets C.1 C.2.1 C.2.2.2.1 (wd C hw) h1 h2 h3 h4 (by rw [hR.2.1 a hlt]; exact h5) (fun e => by rw [e] at h6; cases h6) h7 rfl d (k H locs ls hR hl hL)
theorem k_fmt (C : Cx E own cc nL p s m c) (hw : Cond.fieldLink own idx "jdk/internal/util/Preconditions" "SIOOBE_FORMATTER" "Ljava/util/function/BiFunction;" ∈ TB) (d : decode cc pc = .ok (.getstatic idx, 3)) (k : ∀ v : Value, (v = .null ∨ ∃ a : Nat, v = .ref a) → Wk E nL p l e Rm s m args below meth c cells slots Q (pc + 3) L (v :: st) S R I) : Wk E nL p l e Rm s m args below meth c cells slots Q (pc) L (st) S R I := by
  intro H locs ls hR hl hL
  rcases va_Zq.moved C.2.2.2.2.1.alike C.2.2.2.2.2.2.2.2.2.2.2.2.2.2.2.2 with ⟨cf, kf, fi, f, a, cell, h1, h2, h3, h4, h5, h6, h7, h8⟩ | ⟨t, cf, kf, fi, f, a, cell, h1, h2, h3, h4, h5, h6, h7, h8⟩
  · have hlt : a < E.1 := Nat.lt_of_not_le h8
    exact W.gets C.1 C.2.1 C.2.2.2.1 (wd C hw) h1 h2 h3 h4 (by rw [hR.2.1 a hlt]; exact h5) (fun e => by rw [e] at h6; cases h6) h7 rfl d (k _ (Or.inl rfl) H locs ls hR hl hL)
  · have hlt : a < E.1 := Nat.lt_of_not_le h8
    exact W.gets C.1 C.2.1 C.2.2.2.1 (wd C hw) h1 h2 h3 h4 (by rw [hR.2.1 a hlt]; exact h5) (fun e => by rw [e] at h6; cases h6) h7 rfl d (k _ (Or.inr ⟨_, rfl⟩) H locs ls hR hl hL)
theorem k_sblen (C : Cx E own cc nL p s m c) (hv : SvA E adV) {i : Nat} (hi : i < txN) (d : decode cc pc = .ok (.arraylength, 1)) (k : Wk E nL p l e Rm s m args below meth c cells slots Q (pc + 1) L (.int (nI (txL.getD i 0)) :: st) S R I) : Wk E nL p l e Rm s m args below meth c cells slots Q (pc) L (.ref (adV i) :: st) S R I := by
  intro H locs ls hR hl hL
  obtain ⟨-, -, -, cell, h1, h2, h3, h4, h5, h6, h7⟩ := (vk_S.moved C.2.2.2.2.1.alike hv).1 i hi
  have hlt : adV i < E.1 := Nat.lt_of_not_le h7
  exact W.alen (n := nI (txL.getD i 0)) C.1 C.2.1 (by rw [hR.2.1 _ hlt]; exact h1) h2 h5 rfl rfl d (k H locs ls hR hl hL)
theorem k_sbald (C : Cx E own cc nL p s m c) (hv : SvA E adV) {i : Nat} {j : Int32} (hi : i < txN) (hj : ¬ (j < 0 ∨ txL.getD i 0 ≤ j.toNatClampNeg)) (d : decode cc pc = .ok (.baload, 1)) (k : Wk E nL p l e Rm s m args below meth c cells slots Q (pc + 1) L (.int ((txB.getD i []).getD j.toNatClampNeg 0) :: st) S R I) : Wk E nL p l e Rm s m args below meth c cells slots Q (pc) L (.int j :: .ref (adV i) :: st) S R I := by
  intro H locs ls hR hl hL
  obtain ⟨-, -, -, cell, h1, h2, h3, h4, h5, h6, h7⟩ := (vk_S.moved C.2.2.2.2.1.alike hv).1 i hi
  have hlt : adV i < E.1 := Nat.lt_of_not_le h7
  have hjl : j.toNatClampNeg < txL.getD i 0 := Nat.not_le.mp fun q => hj (Or.inr q)
  refine W.bald (v := .int ((txB.getD i []).getD j.toNatClampNeg 0)) C.1 C.2.1 (by rw [hR.2.1 _ hlt]; exact h1) h2 h3 (fun q => ?_) (h6 _ hjl) rfl rfl d (k H locs ls hR hl hL)
  rcases q with q | q
  · exact hj (Or.inl q)
  · omega
theorem k_i2c (C : Cx E own cc nL p s m c) {x v : Int32} (d : decode cc pc = .ok (.i2c, 1)) (hv : (x.toUInt32 % 65536).toInt32 = v) (k : Wk E nL p l e Rm s m args below meth c cells slots Q (pc + 1) L (.int v :: st) S R I) : Wk E nL p l e Rm s m args below meth c cells slots Q (pc) L (.int x :: st) S R I := fun H locs ls hR hl hL => lv_i2c C.1 C.2.1 d hv (k H locs ls hR hl hL)
theorem k_nret {v : Int32} {ty : FieldType} (C : Cx E own cc nL p s m c) (hr : meth.sig.returnType = some ty) (hk : meth.locks = false) (hv : narrow ty (.int v) = .int v) (d : decode cc pc = .ok (.ireturn, 1)) : Wk E nL p l e Rm s m args below meth c cells slots (MQ below (Qw E S R I (some (.int v))) args s cells slots (fun q => E.1 ≤ q)) pc L [.int v] S R I :=
  fun H locs ls hR hl hL => W.zret C.1 C.2.1 hr hv (fun t ht _ => ⟨rfl, by rw [ht]; exact hR⟩) hl d hk
theorem k_Vs (C : Cx E own cc nL p s m c) {i : Nat} (hi : i < txN) (hM : Mt E l y bytes maxL ret fr lo (.ref (E.2.1 i) :: As) S R I S2 R2 I2 o mc ms) (lk : LkV own idx "java/lang/String" y bytes maxL ret n) (hn : As.length = n) (hst : stk = As.reverse ++ .ref (E.2.1 i) :: st) (hst8 : (st.map fun v => v.category).sum ≤ 8) (hfr : fr + 1 ≤ Rm.frames) (hlo : 8 + (maxL + 11) + lo ≤ Rm.locals) (hc : cells + mc ≤ Rm.cells) (hsl : slots + ms ≤ Rm.slots) (d : decode cc pc = .ok (.invokevirtual idx, 3)) (k : Wk E nL p l e Rm s m args below meth c (cells + mc) (slots + ms) Q (pc + 3) L (o.toList ++ st) S2 R2 I2) : Wk E nL p l e Rm s m args below meth c cells slots Q pc L stk S R I := by
  intro H locs ls hR hl hL
  subst hst
  obtain ⟨w1, w2, w3, w4, w5, w6, w7⟩ := lk
  obtain ⟨adV, hv⟩ := C.2.2.2.2.2.2.2.2.2.1
  obtain ⟨⟨cellV, g1, g2, g3, g4⟩, -⟩ := (vk_S.moved C.2.2.2.2.1.alike hv).1 i hi
  have hlt : E.2.1 i < E.1 := Nat.lt_of_not_le g4
  exact k_run H locs ls hl hL (va_runV (C := "java/lang/String") (As := As) (b := E.2.1 i) (cx_fix (args := args) C) (hM C.2.2.2.2.2) ⟨⟨rfl, rfl, hfr, hlo, ws_at C.2.2.2.2.2 C.2.2.2.2.1 w4, List.mem_singleton.mpr rfl, wd C w4, wd C w5, w6, par_n (d := "") _ w7, wd C w1⟩, wd C w2, wd C w3⟩ ⟨pw_blind, ⟨cellV, by rw [hR.2.1 _ hlt]; exact g1, g2, g3⟩, cx_pre C hR⟩ rfl hn hL.1 rfl (lv_room hst8) d ⟨hc, hsl⟩) k
end STRS
theorem lkV_RJ0_335 : LkV RJ0 335 "java/lang/String" yJ0_coder_7d493 cJ0_coder_7d493 1 (some .byte) 0 := ⟨(t2_in 174 (by decide +kernel) rfl), (t2_in 175 (by decide +kernel) rfl), (t2_in 176 (by decide +kernel) rfl), (t2_in 177 (by decide +kernel) rfl), (t1_in 9 (by decide +kernel) rfl), by decide, by decide +kernel⟩
theorem lkV_RJ0_492 : LkV RJ0 492 "java/lang/String" yJ0_isLatin1_aae02 cJ0_isLatin1_aae02 1 (some .boolean) 0 := ⟨(t2_in 184 (by decide +kernel) rfl), (t2_in 185 (by decide +kernel) rfl), (t2_in 186 (by decide +kernel) rfl), (t2_in 187 (by decide +kernel) rfl), (t1_in 9 (by decide +kernel) rfl), by decide, by decide +kernel⟩
theorem lkS_RJ0_495 : LkS RJ0 495 yJ1_charAt_3b067 cJ1_charAt_3b067 2 (some .char) 2 := ⟨(t2_in 188 (by decide +kernel) rfl), (t2_in 189 (by decide +kernel) rfl), (t2_in 190 (by decide +kernel) rfl), (t1_in 10 (by decide +kernel) rfl), by decide, by decide +kernel⟩
theorem lkS_RJ1_9 : LkS RJ1 9 yJ0_checkIndex_df160 cJ0_checkIndex_df160 2 none 2 := ⟨(t2_in 191 (by decide +kernel) rfl), (t2_in 192 (by decide +kernel) rfl), (t2_in 193 (by decide +kernel) rfl), (t1_in 9 (by decide +kernel) rfl), by decide, by decide +kernel⟩
theorem lkS_RJ0_1059 : LkS RJ0 1059 yJ3_checkIndex_8e157 cJ3_checkIndex_8e157 3 (some .int) 3 := ⟨(t2_in 196 (by decide +kernel) rfl), (t2_in 197 (by decide +kernel) rfl), (t2_in 198 (by decide +kernel) rfl), (t1_in 11 (by decide +kernel) rfl), by decide, by decide +kernel⟩
theorem c_J0_coder {E : Ev} {l : Launch} {S : Sh} {R : Rw} {I : Iw} {i : Nat} (hi : i < txN) : Mt E l yJ0_coder_7d493 cJ0_coder_7d493 1 (some .byte) 0 0 [.ref (E.2.1 i)] S R I S R I (some (.int 0)) 0 0 := mt_of (by decide) (Nat.le_of_ble_eq_true rfl) (fun p e s m args below meth c C hr hk hn => by
  obtain ⟨adV, hv⟩ := C.2.2.2.2.2.2.2.2.2.1
  have hq := (vk_S.moved C.2.2.2.2.1.alike hv).1 i hi
  refine k_cs (pc := 0) C (t2_in 178 (by decide +kernel) rfl) dJ0_coder_7d493_0 ?_
  refine k_if_eq (pc := 3) C dJ0_coder_7d493_3 (tgt := 13) (by decide) (fun h => absurd h (by decide)) (fun _ => ?_)
  refine k_aloadn (pc := 6) C dJ0_coder_7d493_6 (i := 0) rfl 0 rfl ?_
  refine k_of (pc := 7) C hq.2.1 (t7_in 160 (by decide +kernel) rfl) dJ0_coder_7d493_7 ?_
  refine k_goto (pc := 10) C dJ0_coder_7d493_10 (tgt := 14) (by decide) ?_
  exact k_nret (pc := 14) C hr hk (by decide) dJ0_coder_7d493_14)
theorem c_J0_isLatin1 {E : Ev} {l : Launch} {S : Sh} {R : Rw} {I : Iw} {i : Nat} (hi : i < txN) : Mt E l yJ0_isLatin1_aae02 cJ0_isLatin1_aae02 1 (some .boolean) 0 0 [.ref (E.2.1 i)] S R I S R I (some (.int 1)) 0 0 := mt_of (by decide) (Nat.le_of_ble_eq_true rfl) (fun p e s m args below meth c C hr hk hn => by
  obtain ⟨adV, hv⟩ := C.2.2.2.2.2.2.2.2.2.1
  have hq := (vk_S.moved C.2.2.2.2.1.alike hv).1 i hi
  refine k_cs (pc := 0) C (t2_in 178 (by decide +kernel) rfl) dJ0_isLatin1_aae02_0 ?_
  refine k_if_eq (pc := 3) C dJ0_isLatin1_aae02_3 (tgt := 17) (by decide) (fun h => absurd h (by decide)) (fun _ => ?_)
  refine k_aloadn (pc := 6) C dJ0_isLatin1_aae02_6 (i := 0) rfl 0 rfl ?_
  refine k_of (pc := 7) C hq.2.1 (t7_in 160 (by decide +kernel) rfl) dJ0_isLatin1_aae02_7 ?_
  refine k_if_ne (pc := 10) C dJ0_isLatin1_aae02_10 (tgt := 17) (by decide) (fun h => absurd rfl h) (fun _ => ?_)
  refine k_iconst (pc := 13) C (v := (1 : Int32)) dJ0_isLatin1_aae02_13 (by decide) ?_
  refine k_goto (pc := 14) C dJ0_isLatin1_aae02_14 (tgt := 18) (by decide) ?_
  exact k_zret (pc := 18) C hr hk (Or.inr rfl) dJ0_isLatin1_aae02_18)
theorem c_J0_length {E : Ev} {l : Launch} {S : Sh} {R : Rw} {I : Iw} {i : Nat} (hi : i < txN) : Mt E l yJ0_length_8abf5 cJ0_length_8abf5 1 (some .int) 1 20 [.ref (E.2.1 i)] S R I S R I (some (.int (nI (txL.getD i 0)))) 0 0 := mt_of (by decide) (Nat.le_of_ble_eq_true rfl) (fun p e s m args below meth c C hr hk hn => by
  obtain ⟨adV, hv⟩ := C.2.2.2.2.2.2.2.2.2.1
  have hq := (vk_S.moved C.2.2.2.2.1.alike hv).1 i hi
  refine k_aloadn (pc := 0) C dJ0_length_8abf5_0 (i := 0) rfl 0 rfl ?_
  refine k_of (pc := 1) C hq.2.2.1 (t7_in 159 (by decide +kernel) rfl) dJ0_length_8abf5_1 ?_
  refine k_sblen (pc := 4) C hv hi dJ0_length_8abf5_4 ?_
  refine k_aloadn (pc := 5) C dJ0_length_8abf5_5 (i := 0) rfl 0 rfl ?_
  refine k_Vs (pc := 6) (st := [.int (nI (txL.getD i 0))]) C hi (c_J0_coder hi) lkV_RJ0_335 rfl rfl (Nat.le_of_ble_eq_true rfl) (Nat.le_of_ble_eq_true rfl) (Nat.le_of_ble_eq_true rfl) (Nat.le_of_ble_eq_true rfl) (Nat.le_of_ble_eq_true rfl) dJ0_length_8abf5_6 ?_
  refine k_nf (cells2 := 0) (slots2 := 0) (st2 := [.int 0, .int (nI (txL.getD i 0))]) rfl rfl rfl ?_
  refine k_ishr (pc := 9) C dJ0_length_8abf5_9 ?_
  rw [sb_shr0]
  exact k_iret (pc := 10) C hr hk dJ0_length_8abf5_10)
theorem c_J3_check {E : Ev} {l : Launch} {S : Sh} {R : Rw} {I : Iw} {v : Value} {j n : Int32} (hv : v = .null ∨ ∃ a : Nat, v = .ref a) (h0 : ¬ j < 0) (h1 : j < n) : Mt E l yJ3_checkIndex_8e157 cJ3_checkIndex_8e157 3 (some .int) 0 0 [.int j, .int n, v] S R I S R I (some (.int j)) 0 0 := mt_of (by decide) (by rcases hv with rfl | ⟨a, rfl⟩ <;> exact (Nat.le_of_ble_eq_true rfl)) (fun p e s m args below meth c C hr hk hn => by
  have hL : lv_args 0 [.int j, .int n, v] = [(0, .int j), (1, .int n), (2, v)] := by rcases hv with rfl | ⟨a, rfl⟩ <;> rfl
  rw [hL]
  refine k_iloadn (pc := 0) C dJ3_checkIndex_8e157_0 (i := 0) rfl 0 rfl ?_
  refine k_if_lt (pc := 1) C dJ3_checkIndex_8e157_1 (tgt := 9) (by decide) (fun h => absurd h h0) (fun _ => ?_)
  refine k_iloadn (pc := 4) C dJ3_checkIndex_8e157_4 (i := 0) rfl 0 rfl ?_
  refine k_iloadn (pc := 5) C dJ3_checkIndex_8e157_5 (i := 1) rfl 1 rfl ?_
  refine k_icmp_lt (pc := 6) C dJ3_checkIndex_8e157_6 (tgt := 16) (by decide) (fun _ => ?_) (fun h => absurd h1 h)
  refine k_iloadn (pc := 16) C dJ3_checkIndex_8e157_16 (i := 0) rfl 0 rfl ?_
  exact k_iret (pc := 17) C hr hk dJ3_checkIndex_8e157_17)
theorem c_J0_check {E : Ev} {l : Launch} {S : Sh} {R : Rw} {I : Iw} {j n : Int32} (h0 : ¬ j < 0) (h1 : j < n) : Mt E l yJ0_checkIndex_df160 cJ0_checkIndex_df160 2 none 1 22 [.int j, .int n] S R I S R I none 0 0 := mt_of (by decide) (Nat.le_of_ble_eq_true rfl) (fun p e s m args below meth c C hr hk hn => by
  refine k_iloadn (pc := 0) C dJ0_checkIndex_df160_0 (i := 0) rfl 0 rfl ?_
  refine k_iloadn (pc := 1) C dJ0_checkIndex_df160_1 (i := 1) rfl 1 rfl ?_
  refine k_fmt (pc := 2) C (t2_in 194 (by decide +kernel) rfl) dJ0_checkIndex_df160_2 (fun v hv => ?_)
  refine k_S (pc := 5) (st := []) C (c_J3_check hv h0 h1) lkS_RJ0_1059 rfl rfl (Nat.le_of_ble_eq_true rfl) (Nat.le_of_ble_eq_true rfl) (Nat.le_of_ble_eq_true rfl) (Nat.le_of_ble_eq_true rfl) (Nat.le_of_ble_eq_true rfl) dJ0_checkIndex_df160_5 ?_
  refine k_nf (cells2 := 0) (slots2 := 0) (st2 := [.int j]) rfl rfl rfl ?_
  refine k_pop (pc := 8) C dJ0_checkIndex_df160_8 rfl ?_
  exact k_vret (pc := 9) C hr hk dJ0_checkIndex_df160_9)
theorem c_J1_charAt {E : Ev} {l : Launch} {S : Sh} {R : Rw} {I : Iw} {adV : Nat → Nat} (hv : SvA E adV) {i : Nat} {j : Int32} (hi : i < txN) (hj : ¬ (j < 0 ∨ txL.getD i 0 ≤ j.toNatClampNeg)) : Mt E l yJ1_charAt_3b067 cJ1_charAt_3b067 2 (some .char) 2 43 [.ref (adV i), .int j] S R I S R I (some (.int (chr i j.toNatClampNeg))) 0 0 := mt_of (by decide) (Nat.le_of_ble_eq_true rfl) (fun p e s m args below meth c C hr hk hn => by
  have hlt : j < nI (txL.getD i 0) := by
    have hl := tx_len i hi
    obtain ⟨q, hq, rfl⟩ := nI_of (fun h => hj (Or.inl h))
    rw [nI_clamp hq] at hj
    exact nI_lt (by omega) hl
  refine k_iloadn (pc := 0) C dJ1_charAt_3b067_0 (i := 1) rfl 1 rfl ?_
  refine k_aloadn (pc := 1) C dJ1_charAt_3b067_1 (i := 0) rfl 0 rfl ?_
  refine k_sblen (pc := 2) C hv hi dJ1_charAt_3b067_2 ?_
  refine k_S (pc := 3) (st := []) C (c_J0_check (fun h => hj (Or.inl h)) hlt) lkS_RJ1_9 rfl rfl (Nat.le_of_ble_eq_true rfl) (Nat.le_of_ble_eq_true rfl) (Nat.le_of_ble_eq_true rfl) (Nat.le_of_ble_eq_true rfl) (Nat.le_of_ble_eq_true rfl) dJ1_charAt_3b067_3 ?_
  refine k_nf (cells2 := 0) (slots2 := 0) (st2 := []) rfl rfl rfl ?_
  refine k_aloadn (pc := 6) C dJ1_charAt_3b067_6 (i := 0) rfl 0 rfl ?_
  refine k_iloadn (pc := 7) C dJ1_charAt_3b067_7 (i := 1) rfl 1 rfl ?_
  refine k_sbald (pc := 8) C hv hi hj dJ1_charAt_3b067_8 ?_
  refine k_sipush (pc := 9) C (v := (255 : Int32)) dJ1_charAt_3b067_9 (by decide) ?_
  refine k_iand (pc := 12) C dJ1_charAt_3b067_12 ?_
  refine k_i2c (pc := 13) C dJ1_charAt_3b067_13 (sc_c2 _) ?_
  exact k_nret (pc := 14) C hr hk (sc_nar _) dJ1_charAt_3b067_14)
theorem c_J0_charAt {E : Ev} {l : Launch} {S : Sh} {R : Rw} {I : Iw} {i : Nat} {j : Int32} (hi : i < txN) (hj : ¬ (j < 0 ∨ txL.getD i 0 ≤ j.toNatClampNeg)) : Mt E l yJ0_charAt_5068e cJ0_charAt_5068e 2 (some .char) 3 64 [.ref (E.2.1 i), .int j] S R I S R I (some (.int (chr i j.toNatClampNeg))) 0 0 := mt_of (by decide) (Nat.le_of_ble_eq_true rfl) (fun p e s m args below meth c C hr hk hn => by
  obtain ⟨adV, hv⟩ := C.2.2.2.2.2.2.2.2.2.1
  have hq := (vk_S.moved C.2.2.2.2.1.alike hv).1 i hi
  refine k_aloadn (pc := 0) C dJ0_charAt_5068e_0 (i := 0) rfl 0 rfl ?_
  refine k_Vs (pc := 1) (st := []) C hi (c_J0_isLatin1 hi) lkV_RJ0_492 rfl rfl (Nat.le_of_ble_eq_true rfl) (Nat.le_of_ble_eq_true rfl) (Nat.le_of_ble_eq_true rfl) (Nat.le_of_ble_eq_true rfl) (Nat.le_of_ble_eq_true rfl) dJ0_charAt_5068e_1 ?_
  refine k_nf (cells2 := 0) (slots2 := 0) (st2 := [.int 1]) rfl rfl rfl ?_
  refine k_if_eq (pc := 4) C dJ0_charAt_5068e_4 (tgt := 16) (by decide) (fun h => absurd h (by decide)) (fun _ => ?_)
  refine k_aloadn (pc := 7) C dJ0_charAt_5068e_7 (i := 0) rfl 0 rfl ?_
  refine k_of (pc := 8) C hq.2.2.1 (t7_in 159 (by decide +kernel) rfl) dJ0_charAt_5068e_8 ?_
  refine k_iloadn (pc := 11) C dJ0_charAt_5068e_11 (i := 1) rfl 1 rfl ?_
  refine k_S (pc := 12) (st := []) C (c_J1_charAt hv hi hj) lkS_RJ0_495 rfl rfl (Nat.le_of_ble_eq_true rfl) (Nat.le_of_ble_eq_true rfl) (Nat.le_of_ble_eq_true rfl) (Nat.le_of_ble_eq_true rfl) (Nat.le_of_ble_eq_true rfl) dJ0_charAt_5068e_12 ?_
  refine k_nf (cells2 := 0) (slots2 := 0) (st2 := [.int (chr i j.toNatClampNeg)]) rfl rfl rfl ?_
  exact k_nret (pc := 15) C hr hk (sc_nar _) dJ0_charAt_5068e_15)
theorem lkV_len {own : String} {idx : Nat} (h : Cond.methodLink own idx yJ0_length_8abf5 ∈ TB) : LkV own idx "java/lang/String" yJ0_length_8abf5 cJ0_length_8abf5 1 (some .int) 0 := ⟨h, (t2_in 171 (by decide +kernel) rfl), (t2_in 172 (by decide +kernel) rfl), (t2_in 173 (by decide +kernel) rfl), (t1_in 9 (by decide +kernel) rfl), by decide, by decide +kernel⟩
theorem lkV_cha {own : String} {idx : Nat} (h : Cond.methodLink own idx yJ0_charAt_5068e ∈ TB) : LkV own idx "java/lang/String" yJ0_charAt_5068e cJ0_charAt_5068e 2 (some .char) 1 := ⟨h, (t2_in 181 (by decide +kernel) rfl), (t2_in 182 (by decide +kernel) rfl), (t2_in 183 (by decide +kernel) rfl), (t1_in 9 (by decide +kernel) rfl), by decide, by decide +kernel⟩
theorem k_strlen {E : Ev} {own : String} {cc : ByteArray} {nL : Nat} {p : Program} {l : Launch} {e : Env} {Rm : Room} {s : State} {m : MethodId} {args : Array Value} {below : List Frame} {meth : Method} {c : Code} {cells slots : Nat} {Q : State → Prop} {pc : Nat} {L : List (Nat × Value)} {st : List Value} {S : Sh} {R : Rw} {I : Iw} {idx i : Nat} {stk : List Value} (C : Cx E own cc nL p s m c) (hw : Cond.methodLink own idx yJ0_length_8abf5 ∈ TB) (hi : i < txN) (hst : stk = .ref (E.2.1 i) :: st) (hst8 : (st.map fun v => v.category).sum ≤ 8) (hfr : 6 ≤ Rm.frames) (hlo : 200 ≤ Rm.locals) (hc : cells ≤ Rm.cells) (hsl : slots ≤ Rm.slots) (d : decode cc pc = .ok (.invokevirtual idx, 3)) (k : Wk E nL p l e Rm s m args below meth c (cells + 0) (slots + 0) Q (pc + 3) L (.int (nI (txL.getD i 0)) :: st) S R I) : Wk E nL p l e Rm s m args below meth c cells slots Q pc L stk S R I :=
  k_Vs C hi (c_J0_length hi) (lkV_len hw) rfl hst hst8 (by omega) (by omega) hc hsl d k
theorem k_charAt {E : Ev} {own : String} {cc : ByteArray} {nL : Nat} {p : Program} {l : Launch} {e : Env} {Rm : Room} {s : State} {m : MethodId} {args : Array Value} {below : List Frame} {meth : Method} {c : Code} {cells slots : Nat} {Q : State → Prop} {pc : Nat} {L : List (Nat × Value)} {st : List Value} {S : Sh} {R : Rw} {I : Iw} {idx i : Nat} {j : Int32} {stk : List Value} (C : Cx E own cc nL p s m c) (hw : Cond.methodLink own idx yJ0_charAt_5068e ∈ TB) (h : chok i j = true) (hst : stk = .int j :: .ref (E.2.1 i) :: st) (hst8 : (st.map fun v => v.category).sum ≤ 8) (hfr : 6 ≤ Rm.frames) (hlo : 200 ≤ Rm.locals) (hc : cells ≤ Rm.cells) (hsl : slots ≤ Rm.slots) (d : decode cc pc = .ok (.invokevirtual idx, 3)) (k : Wk E nL p l e Rm s m args below meth c (cells + 0) (slots + 0) Q (pc + 3) L (.int (chr i j.toNatClampNeg) :: st) S R I) : Wk E nL p l e Rm s m args below meth c cells slots Q pc L stk S R I :=
  k_Vs C (of_decide_eq_true h).1 (c_J0_charAt (of_decide_eq_true h).1 (of_decide_eq_true h).2) (lkV_cha hw) rfl hst hst8 (by omega) (by omega) hc hsl d k
