/-! which slots hold references; helps of the printed walks -/
theorem ir_0_0 : isR 0 0 = false := by decide +kernel
theorem ir_0_1 : isR 0 1 = false := by decide +kernel
theorem ir_0_2 : isR 0 2 = true := by decide +kernel
theorem ir_0_3 : isR 0 3 = false := by decide +kernel
theorem ir_0_4 : isR 0 4 = false := by decide +kernel
theorem ir_1_0 : isR 1 0 = false := by decide +kernel
theorem ir_1_1 : isR 1 1 = false := by decide +kernel
theorem ir_1_2 : isR 1 2 = true := by decide +kernel
theorem ir_1_3 : isR 1 3 = false := by decide +kernel
theorem ir_1_4 : isR 1 4 = false := by decide +kernel
theorem ir_2_0 : isR 2 0 = true := by decide +kernel
theorem ir_2_1 : isR 2 1 = true := by decide +kernel
theorem ir_2_2 : isR 2 2 = false := by decide +kernel
theorem ir_2_3 : isR 2 3 = true := by decide +kernel
theorem ir_2_4 : isR 2 4 = true := by decide +kernel
theorem ir_2_5 : isR 2 5 = true := by decide +kernel
theorem ir_2_6 : isR 2 6 = true := by decide +kernel
theorem ir_2_7 : isR 2 7 = true := by decide +kernel
theorem ir_2_8 : isR 2 8 = false := by decide +kernel
theorem ir_2_9 : isR 2 9 = false := by decide +kernel
theorem ir_2_10 : isR 2 10 = true := by decide +kernel
theorem ir_3_0 : isR 3 0 = false := by decide +kernel
theorem ir_3_1 : isR 3 1 = true := by decide +kernel
theorem ir_3_2 : isR 3 2 = true := by decide +kernel
theorem ir_3_3 : isR 3 3 = true := by decide +kernel
theorem ir_3_4 : isR 3 4 = false := by decide +kernel
theorem ir_3_5 : isR 3 5 = false := by decide +kernel
theorem ir_3_6 : isR 3 6 = true := by decide +kernel
theorem ir_4_0 : isR 4 0 = false := by decide +kernel
theorem ir_4_1 : isR 4 1 = false := by decide +kernel
theorem ir_4_2 : isR 4 2 = true := by decide +kernel
theorem ir_4_3 : isR 4 3 = false := by decide +kernel
theorem ir_4_4 : isR 4 4 = false := by decide +kernel
theorem ir_5_0 : isR 5 0 = false := by decide +kernel
theorem ir_5_1 : isR 5 1 = true := by decide +kernel
theorem ir_5_2 : isR 5 2 = true := by decide +kernel
theorem ir_5_3 : isR 5 3 = true := by decide +kernel
theorem ir_5_4 : isR 5 4 = false := by decide +kernel
theorem ir_5_5 : isR 5 5 = true := by decide +kernel
theorem ir_5_6 : isR 5 6 = true := by decide +kernel
theorem ir_5_7 : isR 5 7 = true := by decide +kernel
theorem ir_6_0 : isR 6 0 = false := by decide +kernel
theorem ir_6_1 : isR 6 1 = false := by decide +kernel
theorem ir_6_2 : isR 6 2 = true := by decide +kernel
theorem ir_6_3 : isR 6 3 = false := by decide +kernel
theorem ir_6_4 : isR 6 4 = false := by decide +kernel
theorem ir_7_0 : isR 7 0 = true := by decide +kernel
theorem ir_7_1 : isR 7 1 = true := by decide +kernel
theorem ir_7_2 : isR 7 2 = true := by decide +kernel
theorem ir_7_3 : isR 7 3 = true := by decide +kernel
theorem ir_7_4 : isR 7 4 = true := by decide +kernel
theorem ir_7_5 : isR 7 5 = false := by decide +kernel
theorem ir_7_6 : isR 7 6 = false := by decide +kernel
theorem ir_7_7 : isR 7 7 = true := by decide +kernel
theorem ir_7_8 : isR 7 8 = false := by decide +kernel
theorem ir_7_9 : isR 7 9 = false := by decide +kernel
theorem ir_7_10 : isR 7 10 = false := by decide +kernel
theorem ir_7_11 : isR 7 11 = true := by decide +kernel
theorem ir_7_12 : isR 7 12 = true := by decide +kernel
theorem ir_7_13 : isR 7 13 = true := by decide +kernel
theorem ir_7_14 : isR 7 14 = false := by decide +kernel
theorem ir_7_15 : isR 7 15 = false := by decide +kernel
theorem ir_8_0 : isR 8 0 = false := by decide +kernel
theorem ir_8_1 : isR 8 1 = false := by decide +kernel
theorem ir_8_2 : isR 8 2 = true := by decide +kernel
theorem ir_9_0 : isR 9 0 = false := by decide +kernel
theorem ir_9_1 : isR 9 1 = false := by decide +kernel
theorem ir_9_2 : isR 9 2 = true := by decide +kernel
theorem ir_9_3 : isR 9 3 = false := by decide +kernel
theorem ir_9_4 : isR 9 4 = false := by decide +kernel
theorem ir_10_0 : isR 10 0 = false := by decide +kernel
theorem ir_10_1 : isR 10 1 = false := by decide +kernel
theorem ir_10_2 : isR 10 2 = true := by decide +kernel
theorem ir_10_3 : isR 10 3 = false := by decide +kernel
theorem ir_10_4 : isR 10 4 = false := by decide +kernel
theorem ir_11_0 : isR 11 0 = true := by decide +kernel
theorem ir_11_1 : isR 11 1 = true := by decide +kernel
theorem ir_11_2 : isR 11 2 = false := by decide +kernel
theorem ir_11_3 : isR 11 3 = true := by decide +kernel
theorem ir_11_4 : isR 11 4 = true := by decide +kernel
theorem ir_11_5 : isR 11 5 = true := by decide +kernel
theorem ir_11_6 : isR 11 6 = false := by decide +kernel
theorem ir_11_7 : isR 11 7 = true := by decide +kernel
theorem ir_11_8 : isR 11 8 = true := by decide +kernel
theorem ir_11_9 : isR 11 9 = true := by decide +kernel
theorem ir_11_10 : isR 11 10 = true := by decide +kernel
theorem ir_11_11 : isR 11 11 = true := by decide +kernel
theorem ir_12_0 : isR 12 0 = true := by decide +kernel
theorem ir_12_1 : isR 12 1 = true := by decide +kernel
theorem ir_12_2 : isR 12 2 = true := by decide +kernel
theorem ir_12_3 : isR 12 3 = false := by decide +kernel
theorem ir_12_4 : isR 12 4 = true := by decide +kernel
theorem ir_12_5 : isR 12 5 = false := by decide +kernel
theorem ir_12_6 : isR 12 6 = false := by decide +kernel
theorem ir_12_7 : isR 12 7 = false := by decide +kernel
theorem ir_12_8 : isR 12 8 = false := by decide +kernel
theorem ir_12_9 : isR 12 9 = false := by decide +kernel
theorem ir_12_10 : isR 12 10 = false := by decide +kernel
theorem ir_12_11 : isR 12 11 = true := by decide +kernel
theorem ir_12_12 : isR 12 12 = false := by decide +kernel
theorem ir_12_13 : isR 12 13 = true := by decide +kernel
theorem ir_12_14 : isR 12 14 = true := by decide +kernel
theorem ir_12_15 : isR 12 15 = true := by decide +kernel
theorem ir_12_16 : isR 12 16 = true := by decide +kernel
theorem ir_12_17 : isR 12 17 = true := by decide +kernel
theorem ir_12_18 : isR 12 18 = true := by decide +kernel
theorem ir_12_19 : isR 12 19 = true := by decide +kernel
theorem ir_12_20 : isR 12 20 = true := by decide +kernel
theorem ir_12_21 : isR 12 21 = false := by decide +kernel
theorem ir_12_22 : isR 12 22 = true := by decide +kernel
theorem ir_12_23 : isR 12 23 = false := by decide +kernel
theorem ir_12_24 : isR 12 24 = true := by decide +kernel
theorem ir_12_25 : isR 12 25 = true := by decide +kernel
theorem ir_12_26 : isR 12 26 = true := by decide +kernel
theorem ir_12_27 : isR 12 27 = true := by decide +kernel
theorem ir_12_28 : isR 12 28 = true := by decide +kernel
theorem ir_12_29 : isR 12 29 = true := by decide +kernel
theorem ir_12_30 : isR 12 30 = true := by decide +kernel
theorem ir_12_31 : isR 12 31 = false := by decide +kernel
theorem ir_12_32 : isR 12 32 = false := by decide +kernel
theorem ir_12_33 : isR 12 33 = false := by decide +kernel
def thc (ci : Nat) : Bool := ci == 0 || ci == 1 || ci == 4 || ci == 6 || ci == 9 || ci == 10
theorem thc_e {ci : Nat} (h : thc ci = true) : ci = 0 ∨ ci = 1 ∨ ci = 4 ∨ ci = 6 ∨ ci = 9 ∨ ci = 10 := by
  simp only [thc, Bool.or_eq_true, beq_iff_eq] at h
  omega
theorem th_all {P : Nat → Prop} (h0 : P 0) (h1 : P 1) (h4 : P 4) (h6 : P 6) (h9 : P 9) (h10 : P 10) : ∀ ci : Nat, thc ci = true → P ci := by
  intro ci h
  rcases thc_e h with rfl | rfl | rfl | rfl | rfl | rfl
  · exact h0
  · exact h1
  · exact h4
  · exact h6
  · exact h9
  · exact h10
def thg (S : Sh) (a : Nat) : Bool := match S[a]? with
  | some (c, n) => thc c && n == 5
  | none => false
theorem thg_e {S : Sh} {a : Nat} (h : thg S a = true) : ∃ ci, thc ci = true ∧ S[a]? = some (ci, 5) := by
  unfold thg at h
  split at h
  · rename_i c n hc
    simp only [Bool.and_eq_true, beq_iff_eq] at h
    exact ⟨c, h.1, by rw [hc, h.2]⟩
  · cases h
theorem thg_t {S : Sh} {a ci : Nat} (h : S[a]? = some (ci, 5)) (hc : thc ci = true) : thg S a = true := by simp [thg, h, hc]
theorem irT_0 : ∀ ci : Nat, thc ci = true → isR ci 0 = false := th_all ir_0_0 ir_1_0 ir_4_0 ir_6_0 ir_9_0 ir_10_0
theorem irT_1 : ∀ ci : Nat, thc ci = true → isR ci 1 = false := th_all ir_0_1 ir_1_1 ir_4_1 ir_6_1 ir_9_1 ir_10_1
theorem irT_2 : ∀ ci : Nat, thc ci = true → isR ci 2 = true := th_all ir_0_2 ir_1_2 ir_4_2 ir_6_2 ir_9_2 ir_10_2
theorem irT_3 : ∀ ci : Nat, thc ci = true → isR ci 3 = false := th_all ir_0_3 ir_1_3 ir_4_3 ir_6_3 ir_9_3 ir_10_3
theorem irT_4 : ∀ ci : Nat, thc ci = true → isR ci 4 = false := th_all ir_0_4 ir_1_4 ir_4_4 ir_6_4 ir_9_4 ir_10_4
def onl {α : Type} (v : Rf) (x y : Option α) : Option α := match v with
  | none => x
  | some _ => y
theorem onl_n {α : Type} {v : Rf} {x y : Option α} (h : v = none) : onl v x y = x := by subst h; rfl
theorem onl_s {α : Type} {v : Rf} {x y : Option α} {b : Nat ⊕ Nat} (h : v = some b) : onl v x y = y := by subst h; rfl
theorem k_nf {E : Ev} {nL : Nat} {p : Program} {l : Launch} {e : Env} {Rm : Room} {s : State} {m : MethodId} {args : Array Value} {below : List Frame} {meth : Method} {c : Code} {cells slots cells2 slots2 : Nat} {Q : State → Prop} {pc : Nat} {L : List (Nat × Value)} {st st2 : List Value} {S : Sh} {R : Rw} {I : Iw} (h1 : cells = cells2) (h2 : slots = slots2) (h3 : st = st2) (k : Wk E nL p l e Rm s m args below meth c cells2 slots2 Q pc L st2 S R I) : Wk E nL p l e Rm s m args below meth c cells slots Q pc L st S R I := by
  subst h1; subst h2; subst h3; exact k
theorem tab_out (x : Int32) (lo hi : Int) (h : ∀ z : Int, lo ≤ z → z ≤ hi → x.toInt = z → False) : x.toInt < lo ∨ hi < x.toInt := by
  rcases Int.lt_or_le x.toInt lo with q | q
  · exact Or.inl q
  · rcases Int.lt_or_le hi x.toInt with r | r
    · exact Or.inr r
    · exact (h _ q r rfl).elim
theorem ne_lit {x y : Int32} (h : ¬ x = y) : ¬ y.toInt = x.toInt := fun q => h (Int32.toInt_inj.mp q.symm)
theorem look_cons {a o : Int} {r : List (Int × Int)} {d k z : Int} (h : ¬ a = k) (h2 : Op.lookupswitch.offset r d k = z) : Op.lookupswitch.offset ((a, o) :: r) d k = z := by rw [Op.lookupswitch.offset_cons, if_neg h]; exact h2
theorem look_ne {x y : Int32} {a : Int} (h : ¬ x = y) (e : y.toInt = a) : ¬ a = x.toInt := by subst e; exact ne_lit h
def jmax (x y : Int32) : Int32 := if x < y then y else x
def jmin (x y : Int32) : Int32 := if y < x then y else x
def jabs (x : Int32) : Int32 := if 0 ≤ x then x else 0 - x
theorem k_mmax {E : Ev} {own : String} {cc : ByteArray} {nL : Nat} {p : Program} {l : Launch} {e : Env} {Rm : Room} {s : State} {m : MethodId} {args : Array Value} {below : List Frame} {meth : Method} {c : Code} {cells slots : Nat} {Q : State → Prop} {pc : Nat} {L : List (Nat × Value)} {st : List Value} {S : Sh} {R : Rw} {I : Iw} {x y : Int32} (C : Cx E own cc nL p s m c) {idx : Nat} (hw : Cond.methodLink own idx Lib.Math.max.name ∈ TB) (hst8 : (st.map fun v => v.category).sum ≤ 8) (hfr : 1 ≤ Rm.frames) (hlo : 21 ≤ Rm.locals) (hc : cells ≤ Rm.cells) (hsl : slots ≤ Rm.slots) (d : decode cc pc = .ok (.invokestatic idx, 3)) (k : Wk E nL p l e Rm s m args below meth c cells slots Q (pc + 3) L (.int (jmax x y) :: st) S R I) : Wk E nL p l e Rm s m args below meth c cells slots Q (pc) L (.int y :: .int x :: st) S R I := fun H locs ls hR hl hL => va_mmax C.1 C.2.1 (by rw [C.2.2.1]; exact hL.1.symm) C.2.2.2.1 (wd C hw) (wd C (t2_in 94 (by decide +kernel) rfl)) (wd C (t1_in 8 (by decide +kernel) rfl)) (wd C (t2_in 95 (by decide +kernel) rfl)) hfr (by omega) hc hsl d (k H locs ls hR hl hL)
theorem k_mmin {E : Ev} {own : String} {cc : ByteArray} {nL : Nat} {p : Program} {l : Launch} {e : Env} {Rm : Room} {s : State} {m : MethodId} {args : Array Value} {below : List Frame} {meth : Method} {c : Code} {cells slots : Nat} {Q : State → Prop} {pc : Nat} {L : List (Nat × Value)} {st : List Value} {S : Sh} {R : Rw} {I : Iw} {x y : Int32} (C : Cx E own cc nL p s m c) {idx : Nat} (hw : Cond.methodLink own idx Lib.Math.min.name ∈ TB) (hst8 : (st.map fun v => v.category).sum ≤ 8) (hfr : 1 ≤ Rm.frames) (hlo : 21 ≤ Rm.locals) (hc : cells ≤ Rm.cells) (hsl : slots ≤ Rm.slots) (d : decode cc pc = .ok (.invokestatic idx, 3)) (k : Wk E nL p l e Rm s m args below meth c cells slots Q (pc + 3) L (.int (jmin x y) :: st) S R I) : Wk E nL p l e Rm s m args below meth c cells slots Q (pc) L (.int y :: .int x :: st) S R I := fun H locs ls hR hl hL => va_mmin C.1 C.2.1 (by rw [C.2.2.1]; exact hL.1.symm) C.2.2.2.1 (wd C hw) (wd C (t3_in 120 (by decide +kernel) rfl)) (wd C (t1_in 8 (by decide +kernel) rfl)) (wd C (t3_in 121 (by decide +kernel) rfl)) hfr (by omega) hc hsl d (k H locs ls hR hl hL)
theorem k_mabs {E : Ev} {own : String} {cc : ByteArray} {nL : Nat} {p : Program} {l : Launch} {e : Env} {Rm : Room} {s : State} {m : MethodId} {args : Array Value} {below : List Frame} {meth : Method} {c : Code} {cells slots : Nat} {Q : State → Prop} {pc : Nat} {L : List (Nat × Value)} {st : List Value} {S : Sh} {R : Rw} {I : Iw} {x : Int32} (C : Cx E own cc nL p s m c) {idx : Nat} (hw : Cond.methodLink own idx Lib.Math.abs.name ∈ TB) (hst8 : (st.map fun v => v.category).sum ≤ 8) (hfr : 1 ≤ Rm.frames) (hlo : 21 ≤ Rm.locals) (hc : cells ≤ Rm.cells) (hsl : slots ≤ Rm.slots) (d : decode cc pc = .ok (.invokestatic idx, 3)) (k : Wk E nL p l e Rm s m args below meth c cells slots Q (pc + 3) L (.int (jabs x) :: st) S R I) : Wk E nL p l e Rm s m args below meth c cells slots Q (pc) L (.int x :: st) S R I := fun H locs ls hR hl hL => va_mabs C.1 C.2.1 (by rw [C.2.2.1]; exact hL.1.symm) C.2.2.2.1 (wd C hw) (wd C (t2_in 54 (by decide +kernel) rfl)) (wd C (t1_in 8 (by decide +kernel) rfl)) (wd C (t2_in 55 (by decide +kernel) rfl)) hfr (by omega) hc hsl d (k H locs ls hR hl hL)
