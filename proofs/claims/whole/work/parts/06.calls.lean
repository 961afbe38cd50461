/-! CONTRACTS over worlds, calls and returns -/
def Pw (E : Ev) (S : Sh) (R : Rw) (I : Iw) (As : List Value) : Array Value → State → Prop := fun v U => v = As.toArray ∧ E.2.2.2.2.1.WarmedH U.vm ∧ Rp E S R I U.heap
def Qw (E : Ev) (S : Sh) (R : Rw) (I : Iw) (o : Option Value) : Array Value → State → Outcome → State → Prop := fun _ _ oc t => oc = .returned o ∧ Rp E S R I t.heap
/-- a method's contract: from this world with these arguments it comes back with that world and that answer -/
def Mt (E : Ev) (l : Launch) (y : MethodName) (bytes : ByteArray) (maxL : Nat) (ret : Option FieldType) (fr lo : Nat) (As : List Value) (S : Sh) (R : Rw) (I : Iw) (S2 : Sh) (R2 : Rw) (I2 : Iw) (o : Option Value) (mc ms : Nat) : Prop :=
  KE E → Met l y [Cond.code y bytes maxL ret] ({ frames := fr, cells := mc, slots := ms, locals := lo }) (Pw E S R I As) (Qw E S2 R2 I2 o) mc ms (fun q => E.1 ≤ q)
theorem pw_blind {E : Ev} {S : Sh} {R : Rw} {I : Iw} {As : List Value} : FrameBlind (Pw E S R I As) := fun _ _ _ _ h => ⟨h.1, h.2.1, h.2.2⟩
theorem mt_of {E : Ev} {l : Launch} {y : MethodName} {bytes : ByteArray} {maxL : Nat} {ret : Option FieldType} {fr lo : Nat} {As : List Value} {S : Sh} {R : Rw} {I : Iw} {S2 : Sh} {R2 : Rw} {I2 : Iw} {o : Option Value} {mc ms : Nat} (hy : plainName y.cls = true) (hA : (lg_sl As).length ≤ maxL)
    (body : ∀ (p : Program) (e : Env) (s : State) (m : MethodId) (args : Array Value) (below : List Frame) (meth : Method) (c : Code), Cx E y.cls bytes maxL p s m c → meth.sig.returnType = ret → meth.locks = false → meth.name = y.name →
      Wk E maxL p l e ({ frames := fr, cells := mc, slots := ms, locals := lo }) s m args below meth c 0 0 (MQ below (Qw E S2 R2 I2 o) args s mc ms (fun q => E.1 ≤ q)) 0 (lv_args 0 As) [] S R I) : Mt E l y bytes maxL ret fr lo As S R I S2 R2 I2 o mc ms := by
  intro K
  refine Met.ofW (cc := bytes) (maxL := maxL) (ret := ret) hy rfl ?_
  intro p e s m args below meth c s₁ B hml hv
  obtain ⟨rfl, hW, hR⟩ := hv
  rw [lg_entry_eq]
  exact body p e s m _ below meth c ⟨B.exec, B.bytes, hml, findClass_of_methodNamed B.named, hW, K⟩ B.returns B.notSynchronized (name_of_methodNamed B.named B.method).1 s.heap [] _ hR (fun q hq => by cases hq) (lv_entry As hA)
def LkV (own : String) (idx : Nat) (Cn : String) (y : MethodName) (bytes : ByteArray) (maxL : Nat) (ret : Option FieldType) (n : Nat) : Prop := Cond.methodLink own idx y ∈ TB ∧ Cond.instanceMethod y ∈ TB ∧ Cond.selects Cn y y ∈ TB ∧ Cond.code y bytes maxL ret ∈ TB ∧ Cond.initialized y.cls ∈ TB ∧ (y.cls ≠ "java/lang/invoke/MethodHandle" ∧ y.cls ≠ "java/lang/invoke/VarHandle") ∧ (parseMethodDescriptor y.desc).map (fun d => d.parameters.length) = some n
def LkS (own : String) (idx : Nat) (y : MethodName) (bytes : ByteArray) (maxL : Nat) (ret : Option FieldType) (n : Nat) : Prop := Cond.methodLink own idx y ∈ TB ∧ Cond.static y ∈ TB ∧ Cond.code y bytes maxL ret ∈ TB ∧ Cond.initialized y.cls ∈ TB ∧ (y.cls ≠ "java/lang/invoke/MethodHandle" ∧ y.cls ≠ "java/lang/invoke/VarHandle") ∧ (parseMethodDescriptor y.desc).map (fun d => d.parameters.length) = some n
def LkSN (own : String) (idx : Nat) (y : MethodName) (host : String) (bytes : ByteArray) (maxL : Nat) (ret : Option FieldType) (n : Nat) : Prop := Cond.methodLinkNest own idx y host ∈ lw_tbl ∧ Cond.static y ∈ TB ∧ Cond.code y bytes maxL ret ∈ TB ∧ Cond.initialized y.cls ∈ TB ∧ (y.cls ≠ "java/lang/invoke/MethodHandle" ∧ y.cls ≠ "java/lang/invoke/VarHandle") ∧ (parseMethodDescriptor y.desc).map (fun d => d.parameters.length) = some n
def LkI (own : String) (idx : Nat) (y : MethodName) (bytes : ByteArray) (maxL : Nat) (n : Nat) : Prop := Cond.methodLink own idx y ∈ TB ∧ Cond.instanceMethod y ∈ TB ∧ Cond.code y bytes maxL none ∈ TB ∧ Cond.initialized y.cls ∈ TB ∧ y.name = "<init>" ∧ (y.cls ≠ "java/lang/invoke/MethodHandle" ∧ y.cls ≠ "java/lang/invoke/VarHandle") ∧ (parseMethodDescriptor y.desc).map (fun d => d.parameters.length) = some n
def LkIN (own : String) (idx : Nat) (y : MethodName) (host : String) (bytes : ByteArray) (maxL : Nat) (n : Nat) : Prop := Cond.methodLinkNest own idx y host ∈ lw_tbl ∧ Cond.instanceMethod y ∈ TB ∧ Cond.code y bytes maxL none ∈ TB ∧ Cond.initialized y.cls ∈ TB ∧ y.name = "<init>" ∧ (y.cls ≠ "java/lang/invoke/MethodHandle" ∧ y.cls ≠ "java/lang/invoke/VarHandle") ∧ (parseMethodDescriptor y.desc).map (fun d => d.parameters.length) = some n
theorem par_n {d : String} {n : Nat} {MD : Type} (f : MD → Nat) {o : Option MD} (h : o.map f = some n) : ∀ sig, o = some sig → n = f sig := by
  intro sig hs
  subst hs
  simp at h
  exact h.symm
section CALLS
variable {E : Ev} {own : String} {cc : ByteArray} {nL : Nat} {p : Program} {l : Launch} {e : Env} {Rm : Room} {s : State} {m : MethodId} {args : Array Value} {below : List Frame} {meth : Method} {c : Code} {cells slots : Nat} {Q : State → Prop} {pc : Nat} {L : List (Nat × Value)} {st : List Value} {S : Sh} {R : Rw} {I : Iw}
variable {y : MethodName} {bytes : ByteArray} {maxL fr lo n mc ms : Nat} {ret : Option FieldType} {As stk : List Value} {S2 : Sh} {R2 : Rw} {I2 : Iw} {o : Option Value} {idx b : Nat}
theorem k_widen {k0 n0 : Nat} (h1 : cells ≤ k0) (h2 : slots ≤ n0) (k : Wk E nL p l e Rm s m args below meth c k0 n0 Q pc L st S R I) : Wk E nL p l e Rm s m args below meth c cells slots Q pc L st S R I := fun H locs ls hR hl hL => W.widen h1 h2 (k H locs ls hR hl hL)
theorem k_iret {v : Int32} (C : Cx E own cc nL p s m c) (hr : meth.sig.returnType = some .int) (hk : meth.locks = false) (d : decode cc pc = .ok (.ireturn, 1)) : Wk E nL p l e Rm s m args below meth c cells slots (MQ below (Qw E S R I (some (.int v))) args s cells slots (fun q => E.1 ≤ q)) pc L [.int v] S R I :=
  fun H locs ls hR hl hL => W.iret C.1 C.2.1 hr (fun t ht _ => ⟨rfl, by rw [ht]; exact hR⟩) hl d hk
theorem k_zret {v : Int32} (C : Cx E own cc nL p s m c) (hr : meth.sig.returnType = some .boolean) (hk : meth.locks = false) (hv : v = 0 ∨ v = 1) (d : decode cc pc = .ok (.ireturn, 1)) : Wk E nL p l e Rm s m args below meth c cells slots (MQ below (Qw E S R I (some (.int v))) args s cells slots (fun q => E.1 ≤ q)) pc L [.int v] S R I :=
  fun H locs ls hR hl hL => W.zret C.1 C.2.1 hr (nar_b hv) (fun t ht _ => ⟨rfl, by rw [ht]; exact hR⟩) hl d hk
theorem k_vret (C : Cx E own cc nL p s m c) (hr : meth.sig.returnType = none) (hk : meth.locks = false) (d : decode cc pc = .ok (.return_, 1)) : Wk E nL p l e Rm s m args below meth c cells slots (MQ below (Qw E S R I none) args s cells slots (fun q => E.1 ≤ q)) pc L [] S R I :=
  fun H locs ls hR hl hL => W.vret C.1 C.2.1 hr (fun t ht _ => ⟨rfl, by rw [ht]; exact hR⟩) hl d hk
theorem k_aret {v : Rf} {rt : FieldType} (C : Cx E own cc nL p s m c) (hr : meth.sig.returnType = some rt) (hrt : (∃ n, rt = .object n) ∨ ∃ t, rt = .array t) (hk : meth.locks = false) (d : decode cc pc = .ok (.areturn, 1)) : Wk E nL p l e Rm s m args below meth c cells slots (MQ below (Qw E S R I (some (rv E v))) args s cells slots (fun q => E.1 ≤ q)) pc L [rv E v] S R I :=
  fun H locs ls hR hl hL => W.aret C.1 C.2.1 hr hrt (by match v with | none => exact Or.inl rfl | some (.inl b) => exact Or.inr ⟨_, rfl⟩ | some (.inr b) => exact Or.inr ⟨_, rfl⟩) (fun t ht _ => ⟨rfl, by rw [ht]; exact hR⟩) hl d hk
theorem k_objInit (C : Cx E own cc nL p s m c) {a : Nat} (h1 : Cond.methodLink own idx Lib.objectInit ∈ TB) (h2 : Cond.instanceMethod Lib.objectInit ∈ TB) (h3 : Cond.code Lib.objectInit ⟨#[0xb1]⟩ 1 none ∈ TB) (hf : 1 ≤ Rm.frames) (hst8 : (st.map fun v => v.category).sum ≤ 8) (hlo : 20 ≤ Rm.locals) (d : decode cc pc = .ok (.invokespecial idx, 3)) (k : Wk E nL p l e Rm s m args below meth c cells slots Q (pc + 3) L st S R I) : Wk E nL p l e Rm s m args below meth c cells slots Q pc L (.ref a :: st) S R I :=
  fun H locs ls hR hl hL => W.objInit C.1 C.2.1 C.2.2.2.1 (wd C h1) (wd C h2) (wd C h3) rfl (by rw [C.2.2.1]; exact hL.1) rfl d hf (by have := lv_room (m := m) (pc := pc) (ls := ls) (rest := .ref a :: st) hst8; omega) (k H locs ls hR hl hL)
theorem k_run (H : Heap) (locs : List Loc) (ls : Array Slot) (hl : ∀ q ∈ locs, E.1 ≤ q.base) (hL : lv_has ls nL L) {a : Array Value} (run : va_Run p l e Rm s m args below meth c H locs cells slots mc ms (F0 m pc ls stk) st (Qw E S2 R2 I2 o a) (fun q => E.1 ≤ q)) (k : Wk E nL p l e Rm s m args below meth c (cells + mc) (slots + ms) Q (pc + 3) L (o.toList ++ st) S2 R2 I2) : W p l e Rm s m args below meth c H locs cells slots Q (F0 m pc ls stk) := by
  intro T hT X
  obtain ⟨v, st₀, t, T', L2, h0, X', hL2, e1, e2, ⟨hv, hR1⟩, stp⟩ := run T hT X
  cases hv
  obtain ⟨t2, a1, b1⟩ := k T'.heap (locs ++ L2) ls (by rw [e1]; exact hR1) (fun q hq => by
    rcases List.mem_append.mp hq with h | h
    · exact hl q h
    · exact hL2 q h) hL T' rfl X'
  exact ⟨t2, stp t2 a1, b1⟩
theorem cx_recv (C : Cx E own cc nL p s m c) {H : Heap} (hR : Rp E S R I H) {ci N : Nat} (hs : S[b]? = some (ci, N)) {q : vw_C} (hq : classes[ci]? = some q) : ∃ cellB : Cell, H[E.1 + b]? = some cellB ∧ cellB.vm.isStatics = false ∧ s.vm.findClass q.1 = some cellB.cls := by
  have h20 : ci < 20 := by
    have h1 := (List.getElem?_eq_some_iff.mp hq).1
    have h2 : classes.length = 13 := rfl
    omega
  rcases hR.at hs with ⟨_, _, cell, q1, q2, q3, q4⟩ | ⟨h20', _⟩
  · exact ⟨cell, q1, by rw [q3]; rfl, by rw [q2]; exact ((cx_kn C).1 ci q hq).2.1⟩
  · exact absurd h20 (by show ¬ ci < 20; have : 20 ≤ ci := h20'; omega)
theorem cx_pre (C : Cx E own cc nL p s m c) {H : Heap} (hR : Rp E S R I H) : ∀ U : State, U.heap = H → s.WarmedH U.vm → Pw E S R I As As.toArray U := fun U hU hW => ⟨rfl, State.WarmedH.trans C.2.2.2.2.1 hW, by rw [hU]; exact hR⟩
theorem cx_fix (C : Cx E own cc nL p s m c) : CallFix p m c cc nL s args [] own := ⟨C.1, C.2.1, C.2.2.1, C.2.2.2.1, fun w hw => by cases hw⟩
theorem k_V (C : Cx E own cc nL p s m c) (hM : Mt E l y bytes maxL ret fr lo (.ref (E.1 + b) :: As) S R I S2 R2 I2 o mc ms) {Cn : String} {T : u_T} {N0 ci N : Nat} (lk : LkV own idx Cn y bytes maxL ret n) (hs : S[b]? = some (ci, N)) (hq : classes[ci]? = some (Cn, T, N0)) (hn : As.length = n) (hst : stk = As.reverse ++ .ref (E.1 + b) :: st) (hst8 : (st.map fun v => v.category).sum ≤ 8) (hfr : fr + 1 ≤ Rm.frames) (hlo : 8 + (maxL + 11) + lo ≤ Rm.locals) (hc : cells + mc ≤ Rm.cells) (hsl : slots + ms ≤ Rm.slots) (d : decode cc pc = .ok (.invokevirtual idx, 3)) (k : Wk E nL p l e Rm s m args below meth c (cells + mc) (slots + ms) Q (pc + 3) L (o.toList ++ st) S2 R2 I2) : Wk E nL p l e Rm s m args below meth c cells slots Q pc L stk S R I := by
  intro H locs ls hR hl hL
  subst hst
  obtain ⟨w1, w2, w3, w4, w5, w6, w7⟩ := lk
  exact k_run H locs ls hl hL (va_runV (C := Cn) (As := As) (b := E.1 + b) (cx_fix (args := args) C) (hM C.2.2.2.2.2) ⟨⟨rfl, rfl, hfr, hlo, ws_at C.2.2.2.2.2 C.2.2.2.2.1 w4, List.mem_singleton.mpr rfl, wd C w4, wd C w5, w6, par_n (d := "") _ w7, wd C w1⟩, wd C w2, wd C w3⟩ ⟨pw_blind, cx_recv C hR hs hq, cx_pre C hR⟩ rfl hn hL.1 rfl (lv_room hst8) d ⟨hc, hsl⟩) k
theorem k_S (C : Cx E own cc nL p s m c) (hM : Mt E l y bytes maxL ret fr lo As S R I S2 R2 I2 o mc ms) (lk : LkS own idx y bytes maxL ret n) (hn : As.length = n) (hst : stk = As.reverse ++ st) (hst8 : (st.map fun v => v.category).sum ≤ 8) (hfr : fr + 1 ≤ Rm.frames) (hlo : 8 + (maxL + 11) + lo ≤ Rm.locals) (hc : cells + mc ≤ Rm.cells) (hsl : slots + ms ≤ Rm.slots) (d : decode cc pc = .ok (.invokestatic idx, 3)) (k : Wk E nL p l e Rm s m args below meth c (cells + mc) (slots + ms) Q (pc + 3) L (o.toList ++ st) S2 R2 I2) : Wk E nL p l e Rm s m args below meth c cells slots Q pc L stk S R I := by
  intro H locs ls hR hl hL
  subst hst
  obtain ⟨w1, w2, w4, w5, w6, w7⟩ := lk
  exact k_run H locs ls hl hL (va_runS (As := As) (cx_fix (args := args) C) (hM C.2.2.2.2.2) ⟨⟨rfl, rfl, hfr, hlo, ws_at C.2.2.2.2.2 C.2.2.2.2.1 w4, List.mem_singleton.mpr rfl, wd C w4, wd C w5, w6, par_n (d := "") _ w7, wd C w1⟩, wd C w2⟩ ⟨pw_blind, cx_pre C hR⟩ rfl hn hL.1 rfl (lv_room hst8) d ⟨hc, hsl⟩) k
theorem cx_nest (C : Cx E own cc nL p s m c) {y : MethodName} {host : String} (h : Cond.methodLinkNest own idx y host ∈ lw_tbl) : (Cond.methodLinkNest own idx y host).before args s = true := by
  obtain ⟨⟨a0, h0⟩, -⟩ := C.2.2.2.2.2
  exact va_Nw.use rfl (va_Nw.warmM C.2.2.2.2.1 (va_Nw.of rfl (h0 _ h)))
theorem k_SN (C : Cx E own cc nL p s m c) {host : String} (hM : Mt E l y bytes maxL ret fr lo As S R I S2 R2 I2 o mc ms) (lk : LkSN own idx y host bytes maxL ret n) (hn : As.length = n) (hst : stk = As.reverse ++ st) (hst8 : (st.map fun v => v.category).sum ≤ 8) (hfr : fr + 1 ≤ Rm.frames) (hlo : 8 + (maxL + 11) + lo ≤ Rm.locals) (hc : cells + mc ≤ Rm.cells) (hsl : slots + ms ≤ Rm.slots) (d : decode cc pc = .ok (.invokestatic idx, 3)) (k : Wk E nL p l e Rm s m args below meth c (cells + mc) (slots + ms) Q (pc + 3) L (o.toList ++ st) S2 R2 I2) : Wk E nL p l e Rm s m args below meth c cells slots Q pc L stk S R I := by
  intro H locs ls hR hl hL
  subst hst
  obtain ⟨w1, w2, w4, w5, w6, w7⟩ := lk
  exact k_run H locs ls hl hL (va_runSN (As := As) (cx_fix (args := args) C) (hM C.2.2.2.2.2) ⟨⟨⟨rfl, rfl, hfr, hlo, ws_at C.2.2.2.2.2 C.2.2.2.2.1 w4, List.mem_singleton.mpr rfl⟩, wd C w4, wd C w5, w6, par_n (d := "") _ w7, cx_nest C w1⟩, wd C w2, trivial⟩ ⟨pw_blind, cx_pre C hR⟩ rfl hn hL.1 rfl (lv_room hst8) d ⟨hc, hsl⟩) k
theorem k_I (C : Cx E own cc nL p s m c) (hM : Mt E l y bytes maxL none fr lo (.ref (E.1 + b) :: As) S R I S2 R2 I2 o mc ms) (lk : LkI own idx y bytes maxL n) (hn : As.length = n) (hst : stk = As.reverse ++ .ref (E.1 + b) :: st) (hst8 : (st.map fun v => v.category).sum ≤ 8) (hfr : fr + 1 ≤ Rm.frames) (hlo : 8 + (maxL + 11) + lo ≤ Rm.locals) (hc : cells + mc ≤ Rm.cells) (hsl : slots + ms ≤ Rm.slots) (d : decode cc pc = .ok (.invokespecial idx, 3)) (k : Wk E nL p l e Rm s m args below meth c (cells + mc) (slots + ms) Q (pc + 3) L (o.toList ++ st) S2 R2 I2) : Wk E nL p l e Rm s m args below meth c cells slots Q pc L stk S R I := by
  intro H locs ls hR hl hL
  subst hst
  obtain ⟨w1, w2, w4, w5, w8, w6, w7⟩ := lk
  exact k_run H locs ls hl hL (va_runI (As := As) (b := E.1 + b) (cx_fix (args := args) C) (hM C.2.2.2.2.2) ⟨⟨rfl, rfl, hfr, hlo, ws_at C.2.2.2.2.2 C.2.2.2.2.1 w4, List.mem_singleton.mpr rfl, wd C w4, wd C w5, w6, par_n (d := "") _ w7, wd C w1⟩, w8, wd C w2⟩ ⟨pw_blind, cx_pre C hR⟩ rfl hn hL.1 rfl (lv_room hst8) d ⟨hc, hsl⟩) k
theorem k_IN (C : Cx E own cc nL p s m c) {host : String} (hM : Mt E l y bytes maxL none fr lo (.ref (E.1 + b) :: As) S R I S2 R2 I2 o mc ms) (lk : LkIN own idx y host bytes maxL n) (hn : As.length = n) (hst : stk = As.reverse ++ .ref (E.1 + b) :: st) (hst8 : (st.map fun v => v.category).sum ≤ 8) (hfr : fr + 1 ≤ Rm.frames) (hlo : 8 + (maxL + 11) + lo ≤ Rm.locals) (hc : cells + mc ≤ Rm.cells) (hsl : slots + ms ≤ Rm.slots) (d : decode cc pc = .ok (.invokespecial idx, 3)) (k : Wk E nL p l e Rm s m args below meth c (cells + mc) (slots + ms) Q (pc + 3) L (o.toList ++ st) S2 R2 I2) : Wk E nL p l e Rm s m args below meth c cells slots Q pc L stk S R I := by
  intro H locs ls hR hl hL
  subst hst
  obtain ⟨w1, w2, w4, w5, w8, w6, w7⟩ := lk
  exact k_run H locs ls hl hL (va_runIN (As := As) (b := E.1 + b) (cx_fix (args := args) C) (hM C.2.2.2.2.2) ⟨⟨⟨rfl, rfl, hfr, hlo, ws_at C.2.2.2.2.2 C.2.2.2.2.1 w4, List.mem_singleton.mpr rfl⟩, wd C w4, wd C w5, w6, par_n (d := "") _ w7, cx_nest C w1⟩, w8, wd C w2⟩ ⟨pw_blind, cx_pre C hR⟩ rfl hn hL.1 rfl (lv_room hst8) d ⟨hc, hsl⟩) k
end CALLS
