/-! CALLS of inherited, overridden and super methods -/
def lvc (ci : Nat) : Bool := ci == 0 || ci == 1
def slc (ci : Nat) : Bool := ci == 4 || ci == 6
theorem lv_all {P : Nat → Prop} (h0 : P 0) (h1 : P 1) : ∀ ci : Nat, lvc ci = true → P ci := by
  intro ci h
  simp only [lvc, Bool.or_eq_true, beq_iff_eq] at h
  rcases h with rfl | rfl
  · exact h0
  · exact h1
theorem sl_all {P : Nat → Prop} (h4 : P 4) (h6 : P 6) : ∀ ci : Nat, slc ci = true → P ci := by
  intro ci h
  simp only [slc, Bool.or_eq_true, beq_iff_eq] at h
  rcases h with rfl | rfl
  · exact h4
  · exact h6
theorem lv_th : ∀ ci : Nat, lvc ci = true → thc ci = true := lv_all rfl rfl
theorem sl_th : ∀ ci : Nat, slc ci = true → thc ci = true := sl_all rfl rfl
def cof (S : Sh) (a : Nat) : Nat := match S[a]? with
  | some (c, _) => c
  | none => 99
theorem cof_t {S : Sh} {a c n : Nat} (h : S[a]? = some (c, n)) : cof S a = c := by simp [cof, h]
def lvg (S : Sh) (a : Nat) : Bool := match S[a]? with
  | some (c, n) => lvc c && n == 5
  | none => false
theorem lvg_e {S : Sh} {a : Nat} (h : lvg S a = true) : ∃ ci, lvc ci = true ∧ S[a]? = some (ci, 5) := by
  unfold lvg at h
  split at h
  · rename_i c n hc
    simp only [Bool.and_eq_true, beq_iff_eq] at h
    exact ⟨c, h.1, by rw [hc, h.2]⟩
  · cases h
theorem lvg_t {S : Sh} {a ci : Nat} (h : S[a]? = some (ci, 5)) (hc : lvc ci = true) : lvg S a = true := by simp [lvg, h, hc]
def slg (S : Sh) (a : Nat) : Bool := match S[a]? with
  | some (c, n) => slc c && n == 5
  | none => false
theorem slg_e {S : Sh} {a : Nat} (h : slg S a = true) : ∃ ci, slc ci = true ∧ S[a]? = some (ci, 5) := by
  unfold slg at h
  split at h
  · rename_i c n hc
    simp only [Bool.and_eq_true, beq_iff_eq] at h
    exact ⟨c, h.1, by rw [hc, h.2]⟩
  · cases h
theorem slg_t {S : Sh} {a ci : Nat} (h : S[a]? = some (ci, 5)) (hc : slc ci = true) : slg S a = true := by simp [slg, h, hc]
def LkU (own : String) (idx : Nat) (owner : String) (x y : MethodName) (bytes : ByteArray) (maxL : Nat) (ret : Option FieldType) (n ci : Nat) : Prop :=
  Cond.methodLink own idx x ∈ TB ∧ (Cond.sameMethod x.cls owner x.name x.desc ∈ TB ∧ Cond.instanceMethod ⟨owner, x.name, x.desc⟩ ∈ TB ∧ ∃ b0 m0 r0, Cond.code ⟨owner, x.name, x.desc⟩ b0 m0 r0 ∈ TB) ∧ (∃ q : vw_C, classes[ci]? = some q ∧ Cond.selects q.1 x y ∈ TB) ∧ Cond.instanceMethod y ∈ TB ∧ Cond.code y bytes maxL ret ∈ TB ∧ Cond.initialized y.cls ∈ TB ∧ (owner ≠ "java/lang/invoke/MethodHandle" ∧ owner ≠ "java/lang/invoke/VarHandle") ∧ (parseMethodDescriptor x.desc).map (fun d => d.parameters.length) = some n
/-- super.m(..): x is named, of the class above; owner declares it, that class or the next one above -/
def LkW (own : String) (idx : Nat) (owner : String) (x y : MethodName) (bytes : ByteArray) (maxL : Nat) (ret : Option FieldType) (n : Nat) : Prop :=
  Cond.methodLink own idx x ∈ TB ∧ Cond.sameMethod x.cls owner x.name x.desc ∈ TB ∧ y = ⟨owner, x.name, x.desc⟩ ∧ Cond.superclass own x.cls ∈ TB ∧ (x.cls = owner ∨ Cond.superclass x.cls owner ∈ TB) ∧ Cond.instanceMethod y ∈ TB ∧ Cond.code y bytes maxL ret ∈ TB ∧ Cond.initialized y.cls ∈ TB ∧ x.name ≠ "<init>" ∧ (parseMethodDescriptor x.desc).map (fun d => d.parameters.length) = some n
section VIRT
variable {E : Ev} {own : String} {cc : ByteArray} {nL : Nat} {p : Program} {l : Launch} {e : Env} {Rm : Room} {s : State} {m : MethodId} {args : Array Value} {below : List Frame} {meth : Method} {c : Code} {cells slots : Nat} {Q : State → Prop} {pc : Nat} {L : List (Nat × Value)} {st : List Value} {S : Sh} {R : Rw} {I : Iw}
variable {x y : MethodName} {bytes : ByteArray} {maxL fr lo n mc ms : Nat} {ret : Option FieldType} {As stk : List Value} {S2 : Sh} {R2 : Rw} {I2 : Iw} {o : Option Value} {idx b : Nat} {owner : String}
theorem k_U (C : Cx E own cc nL p s m c) (hM : Mt E l y bytes maxL ret fr lo (.ref (E.1 + b) :: As) S R I S2 R2 I2 o mc ms) {ci N : Nat} (lk : LkU own idx owner x y bytes maxL ret n ci) (hs : S[b]? = some (ci, N)) (hn : As.length = n) (hst : stk = As.reverse ++ .ref (E.1 + b) :: st) (hst8 : (st.map fun v => v.category).sum ≤ 8) (hfr : fr + 1 ≤ Rm.frames) (hlo : 8 + (maxL + 11) + lo ≤ Rm.locals) (hc : cells + mc ≤ Rm.cells) (hsl : slots + ms ≤ Rm.slots) (d : decode cc pc = .ok (.invokevirtual idx, 3)) (k : Wk E nL p l e Rm s m args below meth c (cells + mc) (slots + ms) Q (pc + 3) L (o.toList ++ st) S2 R2 I2) : Wk E nL p l e Rm s m args below meth c cells slots Q pc L stk S R I := by
  intro H locs ls hR hl hL
  subst hst
  obtain ⟨w1, ⟨w2, w2i, b0, m0, r0, w2c⟩, ⟨q, hq, w3⟩, w4, w5, w6, w7, w8⟩ := lk
  exact k_run H locs ls hl hL (va_runU (C := q.1) (owner := owner) (As := As) (b := E.1 + b) (cx_fix (args := args) C) (hM C.2.2.2.2.2) ⟨⟨rfl, rfl, hfr, hlo, ws_at C.2.2.2.2.2 C.2.2.2.2.1 w5, List.mem_singleton.mpr rfl⟩, wd C w5, wd C w6, w7, par_n (d := "") _ w8, wd C w1, wd C w2, va_Decl.of (args := args) (wd C w2i) (wd C w2c), wd C w3, wd C w4⟩ ⟨pw_blind, cx_recv C hR hs hq, cx_pre C hR⟩ rfl hn hL.1 rfl (lv_room hst8) d ⟨hc, hsl⟩) k
theorem isSub1 {vm : Vm} {a b : ClassId} {k : Class} (hk : vm.classes[a]? = some k) (hs : k.super = some b) : vm.isSubclass a b = true := by
  have hlt : a < vm.classes.size := (Array.getElem?_eq_some_iff.mp hk).1
  obtain ⟨z, hz⟩ := Nat.exists_eq_succ_of_ne_zero (Nat.ne_of_gt (Nat.lt_of_le_of_lt (Nat.zero_le _) hlt))
  unfold Vm.isSubclass
  rw [hz]
  simp [Vm.isSubclassAux, hk, hs]
theorem k_W (C : Cx E own cc nL p s m c) (hM : Mt E l y bytes maxL ret fr lo (.ref (E.1 + b) :: As) S R I S2 R2 I2 o mc ms) {ci N : Nat} (lk : LkW own idx owner x y bytes maxL ret n) (hs : S[b]? = some (ci, N)) (hci : ∃ q : vw_C, classes[ci]? = some q) (hn : As.length = n) (hst : stk = As.reverse ++ .ref (E.1 + b) :: st) (hst8 : (st.map fun v => v.category).sum ≤ 8) (hfr : fr + 1 ≤ Rm.frames) (hlo : 8 + (maxL + 11) + lo ≤ Rm.locals) (hc : cells + mc ≤ Rm.cells) (hsl : slots + ms ≤ Rm.slots) (d : decode cc pc = .ok (.invokespecial idx, 3)) (k : Wk E nL p l e Rm s m args below meth c (cells + mc) (slots + ms) Q (pc + 3) L (o.toList ++ st) S2 R2 I2) : Wk E nL p l e Rm s m args below meth c cells slots Q pc L stk S R I := by
  intro H locs ls hR hl hL
  subst hst
  obtain ⟨w1, w2, hy, w3, w4, w5, w6, w7, w8, w9⟩ := lk
  obtain ⟨q, hq⟩ := hci
  obtain ⟨cellB, hcB, hoB, hclB⟩ := cx_recv C hR hs hq
  obtain ⟨hfc, kB, hkB, -⟩ := ((cx_kn C).1 ci q hq).2
  have hce := Option.some.inj (hfc.symm.trans hclB)
  rw [hce] at hkB
  have hown := C.2.2.2.1
  obtain ⟨mk, methM, hnamed, hmethM, hstM, habM⟩ := Cond.instanceMethod_spec (wd (args := args) C w5)
  obtain ⟨methM', cM, hmethM', -, -, -, -, -, -, hsigM⟩ := Cond.code_spec hnamed (wd (args := args) C w6)
  cases hmethM.symm.trans hmethM'
  obtain ⟨ps, dk, kp, hps, hdk, hkp, hsuper, -, -, hnid⟩ := Cond.superclass_spec hown (wd (args := args) C w3)
  have hn' : s.methodNamed? ⟨owner, x.name, x.desc⟩ = some mk := by rw [← hy]; exact hnamed
  have hmc : s.vm.findClass owner = some mk.cls := by
    have h1 := findClass_of_methodNamed hnamed
    rw [hy] at h1
    exact h1
  have hsub : s.vm.isSubclass ps mk.cls = true := by
    rcases w4 with h | h
    · rw [h] at hps
      have hpm : ps = mk.cls := Option.some.inj (hps.symm.trans hmc)
      rw [hpm]
      simp [Vm.isSubclass, Vm.isSubclassAux]
    · obtain ⟨ps2, dk2, kp2, hps2, hdk2, -, hsuper2, -⟩ := Cond.superclass_spec hps (wd (args := args) C h)
      have hpm : ps2 = mk.cls := Option.some.inj (hps2.symm.trans hmc)
      subst hpm
      exact isSub1 hdk2 hsuper2
  have hK : Back l Rm p e below s args y 3 8 (PreOf Rm mc ms (Pw E S R I (.ref (E.1 + b) :: As))) (PostOf (Qw E S2 R2 I2 o) mc ms (fun q => E.1 ≤ q)) := back_of (bytes := bytes) (maxL := maxL) (ret := ret) (hM C.2.2.2.2.2) pw_blind rfl rfl hfr hlo (ws_at C.2.2.2.2.2 C.2.2.2.2.1 w6) (List.mem_singleton.mpr rfl) (fun a' U hW => word_at hW (Or.inl (by first | rfl | simp [Cond.onTables, Cond.keeps, Cond.steady])) (wd (args := args) C w7))
  refine k_run (mc := mc) (ms := ms) (a := (Value.ref (E.1 + b) :: As).toArray) H locs ls hl hL ?_ k
  intro T hT X
  have hlen : As.length = methM.sig.parameters.length := hn.trans (by
    have h3 : parseMethodDescriptor x.desc = some methM.sig := by
      have h4 := hsigM
      rw [hy] at h4
      exact h4
    exact par_n (d := "") _ w9 _ h3)
  obtain ⟨vm₁, X₁, hstep₁⟩ := X.invokespecialUp C.1 hown (wd C w1) (wd C w2) hn' hmethM hstM habM w8 hdk hnid hps hsuper hsub (a := E.1 + b) (cell := cellB) (by rw [hT]; exact hcB)
    (fun z h => by rw [h] at hoB; cases hoB) hkB (g := F0 m pc ls (As.reverse ++ .ref (E.1 + b) :: st)) rfl (argsL := As) (rest := st) hlen rfl (by rw [C.2.1]; exact d)
  obtain ⟨v, ⟨U', l2, c2, s2⟩, X', ⟨g', mk', t, L3, e1, e2, hq2, h1, hL3, h2, h3⟩, hsteps⟩ := hK m meth c ⟨T.setVm vm₁, locs, cells, slots⟩ (F0 m pc ls st) (.invokespecial idx) mk (Value.ref (E.1 + b) :: As).toArray X₁ rfl (by rw [C.2.2.1]; exact hL.1) (by rw [C.2.1]; exact d) (lv_room hst8) (X₁.named hnamed) ⟨hc, hsl, cx_pre C hR (T.setVm vm₁) hT X₁.warmed⟩
  dsimp only [Pt.U, Pt.locs, Pt.cells, Pt.slots] at X' e1 e2 h1 h2 h3
  subst h1; subst h2; subst h3
  exact ⟨v, (T.setVm vm₁).calling g' mk' (Value.ref (E.1 + b) :: As).toArray, t, U', L3, hT, X', hL3, e1, e2, hq2, fun target h => hstep₁ _ (by rw [doInvoke_state]; exact hsteps.trans h)⟩
end VIRT
theorem ciT : ∀ ci : Nat, thc ci = true → ∃ q : vw_C, classes[ci]? = some q := th_all ⟨_, rfl⟩ ⟨_, rfl⟩ ⟨_, rfl⟩ ⟨_, rfl⟩ ⟨_, rfl⟩ ⟨_, rfl⟩
