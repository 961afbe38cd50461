/-! ROWS OF THE PURE LAYER over cells -/
theorem Rp.at {E : Ev} {S : Sh} {R : Rw} {I : Iw} {H : Heap} (h : Rp E S R I H) {a : Nat} {c : Nat × Nat} (hs : S[a]? = some c) : CI E c a R I H := h.2.2 a c hs
theorem vl_congr (E : Ev) (cc : Nat) {R R2 : Rw} {I I2 : Iw} {k : Nat} (h1 : R2 k = R k) (h2 : I2 k = I k) : vl E cc R2 I2 k = vl E cc R I k := by
  funext j
  simp only [vl, h1, h2]
theorem CI.kept {E : Ev} {c : Nat × Nat} {k : Nat} {R R2 : Rw} {I I2 : Iw} {H H2 : Heap} (h : CI E c k R I H) (hq : H2[E.1 + k]? = H[E.1 + k]?) (h1 : R2 k = R k) (h2 : I2 k = I k) : CI E c k R2 I2 H2 := by
  rcases h with ⟨a1, a2, a3⟩ | ⟨a1, a2, a3, a4⟩
  · exact Or.inl ⟨a1, a2, by rw [vl_congr E c.1 h1 h2]; exact a3.kept hq⟩
  · exact Or.inr ⟨a1, a2, a3, by rw [vl_congr E c.1 h1 h2, hq]; exact a4⟩
theorem Rp.put {E : Ev} {S : Sh} {R R2 : Rw} {I I2 : Iw} {H H2 : Heap} (h : Rp E S R I H) {a : Nat} {c : Nat × Nat} (hs : S[a]? = some c) (hc : CI E c a R2 I2 H2) (hz : H2.size = H.size) (ho : ∀ q : Nat, q ≠ E.1 + a → H2[q]? = H[q]?) (h1 : ∀ k, k ≠ a → R2 k = R k) (h2 : ∀ k, k ≠ a → I2 k = I k) : Rp E S R2 I2 H2 := by
  refine ⟨hz.trans h.1, fun q hq => (ho q (by omega)).trans (h.2.1 q hq), fun k c2 hk => ?_⟩
  by_cases e : k = a
  · subst e
    rw [hs] at hk
    cases hk
    exact hc
  · exact (h.2.2 k c2 hk).kept (ho _ (by omega)) (h1 k e) (h2 k e)
theorem Rp.new {E : Ev} {S : Sh} {R R2 : Rw} {I I2 : Iw} {H H2 : Heap} (h : Rp E S R I H) {c : Nat × Nat} (hc : CI E c S.length R2 I2 H2) (hz : H2.size = H.size + 1) (ho : ∀ q : Nat, q < H.size → H2[q]? = H[q]?) (h1 : ∀ k, k ≠ S.length → R2 k = R k) (h2 : ∀ k, k ≠ S.length → I2 k = I k) : Rp E (S ++ [c]) R2 I2 H2 := by
  have e1 := h.1
  refine ⟨by rw [hz, e1, List.length_append, List.length_singleton]; omega, fun q hq => (ho q (by omega)).trans (h.2.1 q hq), fun k c2 hk => ?_⟩
  by_cases hl : k < S.length
  · rw [List.getElem?_append_left hl] at hk
    exact (h.2.2 k c2 hk).kept (ho _ (by omega)) (h1 k (by omega)) (h2 k (by omega))
  · rw [List.getElem?_append_right (by omega)] at hk
    have hz : k - S.length < 1 := (List.getElem?_eq_some_iff.mp hk).1
    have hk0 : k = S.length := by omega
    subst hk0
    rw [Nat.sub_self] at hk
    cases hk
    exact hc
def FcOK (ci : Nat) (Cn : String) (T : u_T) (N : Nat) : Prop := ci < 20 ∧ classes[ci]? = some (Cn, T, N) ∧ (∃ ty0 : Nat → FieldType, ∀ k, k < N → parseFieldDescriptor (T k).2.2.1 = some (ty0 k)) ∧ (∀ a, a < N → ∀ b, b < N → a ≠ b → (T a).2.1 ≠ (T b).2.1) ∧ ∀ w ∈ u_ws Cn T N, w ∈ TB
def LkF (own : String) (idx : Nat) (ci j : Nat) : Prop := ∃ (Cn : String) (T : u_T) (N : Nat) (ref : String), FcOK ci Cn T N ∧ j < N ∧ Cond.fieldLink own idx ref (T j).2.1 (T j).2.2.1 ∈ TB ∧ (ref = (T j).1 ∨ Cond.sameField ref (T j).1 (T j).2.1 (T j).2.2.1 ∈ TB)
def LkP (own : String) (idx : Nat) (ci j : Nat) (ty : FieldType) : Prop := ∃ (Cn : String) (T : u_T) (N : Nat) (ref : String), FcOK ci Cn T N ∧ j < N ∧ Cond.fieldLink own idx ref (T j).2.1 (T j).2.2.1 ∈ TB ∧ (ref = (T j).1 ∨ Cond.sameField ref (T j).1 (T j).2.1 (T j).2.2.1 ∈ TB) ∧ (T j).2.2.2 = false ∧ parseFieldDescriptor (T j).2.2.1 = some ty
def LkQ (own : String) (idx : Nat) (ci j : Nat) (ty : FieldType) : Prop := ∃ (Cn : String) (T : u_T) (N : Nat) (ref : String), FcOK ci Cn T N ∧ j < N ∧ Cond.fieldLink own idx ref (T j).2.1 (T j).2.2.1 ∈ TB ∧ (ref = (T j).1 ∨ Cond.sameField ref (T j).1 (T j).2.1 (T j).2.2.1 ∈ TB) ∧ (T j).2.2.2 = true ∧ (T j).1 = own ∧ parseFieldDescriptor (T j).2.2.1 = some ty
section HEAP
variable {E : Ev} {own : String} {cc : ByteArray} {nL : Nat} {p : Program} {l : Launch} {e : Env} {Rm : Room} {s : State} {m : MethodId} {args : Array Value} {below : List Frame} {meth : Method} {c : Code} {cells slots : Nat} {Q : State → Prop} {pc : Nat} {L : List (Nat × Value)} {st : List Value} {S : Sh} {R : Rw} {I : Iw}
theorem cx_kn (C : Cx E own cc nL p s m c) : va_K E.2.2.1 classes [] s := ⟨fun k q hq => u_Kn_moved C.2.2.2.2.1.alike (C.2.2.2.2.2.2.2.1 k q hq), fun k q h => by simp at h⟩
theorem cx_arr (C : Cx E own cc nL p s m c) {t : Nat} (h1 : 20 ≤ t) (h2 : t < 25) : ArrOfT s (E.2.2.2.1 t) (aty t) ∧ va_RA s (E.2.2.2.1 t) (aty t) := by
  obtain ⟨a1, a2⟩ := C.2.2.2.2.2.2.2.2.1 t h1 h2
  exact ⟨arrOfT_moved C.2.2.2.2.1.alike a1, a2.moved C.2.2.2.2.1.alike⟩
theorem lk_same (C : Cx E own cc nL p s m c) {ref C0 n d : String} (h : ref = C0 ∨ Cond.sameField ref C0 n d ∈ TB) : ∀ x, s.fieldFound? C0 n d = some x → s.fieldFound? ref n d = some x := by
  rcases h with rfl | h
  · exact fun _ h => h
  · exact fun x h9 => u_same (wd (args := #[]) C h) x h9
theorem k_getV (C : Cx E own cc nL p s m c) {idx ci j a N : Nat} (lk : LkF own idx ci j) (hs : S[a]? = some (ci, N)) (d : decode cc pc = .ok (.getfield idx, 3)) (k : Wk E nL p l e Rm s m args below meth c cells slots Q (pc + 3) L (vl E ci R I a j :: st) S R I) : Wk E nL p l e Rm s m args below meth c cells slots Q pc L (.ref (E.1 + a) :: st) S R I := by
  intro H locs ls hR hl hL
  obtain ⟨Cn, T, N2, ref, ⟨h20, hq, ⟨ty0, hty⟩, hnm, hin⟩, hj, hfl, hsame⟩ := lk
  rcases hR.at hs with ⟨_, ⟨q', hq', hN⟩, cell, q1, q2, q3, q4⟩ | ⟨h20', _⟩
  · have e1 : q' = (Cn, T, N2) := Option.some.inj (hq'.symm.trans hq)
    subst e1
    obtain ⟨hS, hfc, kC, hkC, hkind⟩ := (cx_kn C).1 ci _ hq
    obtain ⟨cf, kf, fi, f, hi, hsl⟩ := hS j hj
    refine W.getf C.1 C.2.1 C.2.2.2.1 (wd C hfl) (lk_same C hsame _ hi) (u_facts hfc hkC (u_lays (args := args) (fun w hw => wd C (hin w hw)) (fun _ h => h) hj) hi).1 q1 (by rw [q3]; exact fun h => by cases h) (v := vl E ci R I a j) ?_ rfl rfl d (k H locs ls hR hl hL)
    rw [hsl, q4 j (by rw [← hN]; exact hj)]
  · omega
theorem k_getI (C : Cx E own cc nL p s m c) {idx ci j a N : Nat} (lk : LkF own idx ci j) (hs : S[a]? = some (ci, N)) (hr : isR ci j = false) (d : decode cc pc = .ok (.getfield idx, 3)) (k : Wk E nL p l e Rm s m args below meth c cells slots Q (pc + 3) L (.int (I a j) :: st) S R I) : Wk E nL p l e Rm s m args below meth c cells slots Q pc L (.ref (E.1 + a) :: st) S R I := by
  refine k_getV C lk hs d ?_
  have e1 : vl E ci R I a j = .int (I a j) := by simp [vl, hr]
  rw [e1]
  exact k
theorem k_getO (C : Cx E own cc nL p s m c) {idx ci j a N : Nat} (lk : LkF own idx ci j) (hs : S[a]? = some (ci, N)) (hr : isR ci j = true) (d : decode cc pc = .ok (.getfield idx, 3)) (k : Wk E nL p l e Rm s m args below meth c cells slots Q (pc + 3) L (rv E (R a j) :: st) S R I) : Wk E nL p l e Rm s m args below meth c cells slots Q pc L (.ref (E.1 + a) :: st) S R I := by
  refine k_getV C lk hs d ?_
  have e1 : vl E ci R I a j = rv E (R a j) := by simp [vl, hr]
  rw [e1]
  exact k
theorem k_getR (C : Cx E own cc nL p s m c) {idx ci j a N b : Nat} (lk : LkF own idx ci j) (hs : S[a]? = some (ci, N)) (hr : isR ci j = true) (hb : R a j = some (.inl b)) (d : decode cc pc = .ok (.getfield idx, 3)) (k : Wk E nL p l e Rm s m args below meth c cells slots Q (pc + 3) L (.ref (E.1 + b) :: st) S R I) : Wk E nL p l e Rm s m args below meth c cells slots Q pc L (.ref (E.1 + a) :: st) S R I := by
  refine k_getO C lk hs hr d ?_
  rw [hb]
  exact k
theorem vl_putI {E : Ev} {ci : Nat} {R : Rw} {I : Iw} {a j : Nat} {x : Int32} (hr : isR ci j = false) (k : Nat) : updV (vl E ci R I a) j (.int x) k = vl E ci R (up2 I a j x) a k := by
  by_cases h : k = j
  · subst h
    simp [updV, vl, up2, up1, hr]
  · simp [updV, vl, up2, up1, h]
theorem vl_putR {E : Ev} {ci : Nat} {R : Rw} {I : Iw} {a j : Nat} {x : Rf} (hr : isR ci j = true) (k : Nat) : updV (vl E ci R I a) j (rv E x) k = vl E ci (up2 R a j x) I a k := by
  by_cases h : k = j
  · subst h
    simp [updV, vl, up2, up1, hr]
  · simp [updV, vl, up2, up1, h]
theorem k_putV (C : Cx E own cc nL p s m c) {idx ci j a N : Nat} {ty : FieldType} {v : Value} {R2 : Rw} {I2 : Iw} (lk : LkP own idx ci j ty) (hs : S[a]? = some (ci, N)) (hn : narrow ty v = v) (hfit : fits ty v = true) (hv : ∀ k, updV (vl E ci R I a) j v k = vl E ci R2 I2 a k) (h1 : ∀ k, k ≠ a → R2 k = R k) (h2 : ∀ k, k ≠ a → I2 k = I k) (d : decode cc pc = .ok (.putfield idx, 3)) (k : Wk E nL p l e Rm s m args below meth c cells slots Q (pc + 3) L st S R2 I2) : Wk E nL p l e Rm s m args below meth c cells slots Q pc L (v :: .ref (E.1 + a) :: st) S R I := by
  intro H locs ls hR hl hL
  obtain ⟨Cn, T, N2, ref, ⟨h20, hq, ⟨ty0, hty⟩, hnm, hin⟩, hj, hfl, hsame, hfin, hd⟩ := lk
  have hin' : ∀ w ∈ u_ws Cn T N2, w.before args s = true := fun w hw => wd C (hin w hw)
  rcases hR.at hs with ⟨hc20, ⟨q', hq', hN⟩, cell, q1, q2, q3, q4⟩ | ⟨h20', _⟩
  · have e1 : q' = (Cn, T, N2) := Option.some.inj (hq'.symm.trans hq)
    subst e1
    have hap := va_apart (own := own) hin' (fun _ h => h) ty0 hty hnm (cx_kn C) hq
    obtain ⟨hS, hfc, kC, hkC, hkind⟩ := (cx_kn C).1 ci _ hq
    obtain ⟨cf, kf, fi, f, hi, hsl⟩ := hS j hj
    have hlay := hin' _ (u_in_lay hj)
    unfold u_lay at hlay
    rw [if_neg (by rw [hfin]; decide)] at hlay
    have hst := (u_facts hfc hkC (u_lays hin' (fun _ h => h) hj) hi).1
    have h6 := u_store hfc hkC hkind hlay hi hd hn hfit
    have hN' : N2 = N := hN
    subst hN'
    refine W.putK C.1 C.2.1 (f := f) ⟨C.2.2.2.1, wd C hfl, ⟨_, _, _, lk_same C hsame _ hi⟩, hst⟩ (by rw [q2]; exact h6) q1 q3 (by rw [hsl]; exact k2_hasslot (q4 j hj)) rfl rfl d fun H' e1 e2 e3 => ?_
    rw [hsl] at e1
    refine k H' _ ls (hR.put hs (Or.inl ⟨hc20, ⟨_, hq, rfl⟩, t_OB.to (V := updV (vl E ci R I a) j v) ⟨_, e1, q2, q3, t_set q4 hap hj v⟩ (fun i _ => hv i)⟩) e2 e3 h1 h2) (fun q hq => ?_) hL
    rcases List.mem_append.mp hq with h | h
    · exact hl q h
    · rw [List.mem_singleton] at h
      subst h
      exact Nat.le_add_right _ _
  · omega
theorem k_putI (C : Cx E own cc nL p s m c) {idx ci j a N : Nat} {x : Int32} (lk : LkP own idx ci j .int) (hs : S[a]? = some (ci, N)) (hr : isR ci j = false) (d : decode cc pc = .ok (.putfield idx, 3)) (k : Wk E nL p l e Rm s m args below meth c cells slots Q (pc + 3) L st S R (up2 I a j x)) : Wk E nL p l e Rm s m args below meth c cells slots Q pc L (.int x :: .ref (E.1 + a) :: st) S R I :=
  k_putV C lk hs rfl rfl (fun i => vl_putI hr i) (fun _ _ => rfl) (fun i hi => up2_n I j x hi) d k
theorem nar_b {x : Int32} (h : x = 0 ∨ x = 1) : narrow .boolean (.int x) = .int x := by rcases h with rfl | rfl <;> decide
theorem k_putZ (C : Cx E own cc nL p s m c) {idx ci j a N : Nat} {x : Int32} (lk : LkP own idx ci j .boolean) (hs : S[a]? = some (ci, N)) (hr : isR ci j = false) (hx : x = 0 ∨ x = 1) (d : decode cc pc = .ok (.putfield idx, 3)) (k : Wk E nL p l e Rm s m args below meth c cells slots Q (pc + 3) L st S R (up2 I a j x)) : Wk E nL p l e Rm s m args below meth c cells slots Q pc L (.int x :: .ref (E.1 + a) :: st) S R I :=
  k_putV C lk hs (nar_b hx) (by rcases hx with rfl | rfl <;> decide) (fun i => vl_putI hr i) (fun _ _ => rfl) (fun i hi => up2_n I j x hi) d k
theorem k_putO (C : Cx E own cc nL p s m c) {idx ci j a N : Nat} {ty : FieldType} {x : Rf} (lk : LkP own idx ci j ty) (hs : S[a]? = some (ci, N)) (hr : isR ci j = true) (hn : ∀ y : Nat, narrow ty (.ref y) = .ref y ∧ fits ty (.ref y) = true) (hn0 : narrow ty .null = .null ∧ fits ty .null = true) (d : decode cc pc = .ok (.putfield idx, 3)) (k : Wk E nL p l e Rm s m args below meth c cells slots Q (pc + 3) L st S (up2 R a j x) I) : Wk E nL p l e Rm s m args below meth c cells slots Q pc L (rv E x :: .ref (E.1 + a) :: st) S R I := by
  refine k_putV C lk hs ?_ ?_ (fun i => vl_putR hr i) (fun i hi => up2_n R j x hi) (fun _ _ => rfl) d k
  · match x with
    | none => exact hn0.1
    | some (.inl b) => exact (hn _).1
    | some (.inr b) => exact (hn _).1
  · match x with
    | none => exact hn0.2
    | some (.inl b) => exact (hn _).2
    | some (.inr b) => exact (hn _).2
theorem k_putFV (C : Cx E own cc nL p s m c) {idx ci j a N : Nat} {ty : FieldType} {v : Value} {R2 : Rw} {I2 : Iw} (hin2 : meth.name = "<init>") (lk : LkQ own idx ci j ty) (hs : S[a]? = some (ci, N)) (hn : narrow ty v = v) (hfit : fits ty v = true) (hv : ∀ k, updV (vl E ci R I a) j v k = vl E ci R2 I2 a k) (h1 : ∀ k, k ≠ a → R2 k = R k) (h2 : ∀ k, k ≠ a → I2 k = I k) (d : decode cc pc = .ok (.putfield idx, 3)) (k : Wk E nL p l e Rm s m args below meth c cells slots Q (pc + 3) L st S R2 I2) : Wk E nL p l e Rm s m args below meth c cells slots Q pc L (v :: .ref (E.1 + a) :: st) S R I := by
  intro H locs ls hR hl hL
  obtain ⟨Cn, T, N2, ref, ⟨h20, hq, ⟨ty0, hty⟩, hnm, hin⟩, hj, hfl, hsame, hfin, hdecl, hd⟩ := lk
  have hin' : ∀ w ∈ u_ws Cn T N2, w.before args s = true := fun w hw => wd C (hin w hw)
  rcases hR.at hs with ⟨hc20, ⟨q', hq', hN⟩, cell, q1, q2, q3, q4⟩ | ⟨h20', _⟩
  · have e1 : q' = (Cn, T, N2) := Option.some.inj (hq'.symm.trans hq)
    subst e1
    have hap := va_apart (own := own) hin' (fun _ h => h) ty0 hty hnm (cx_kn C) hq
    obtain ⟨hS, hfc, kC, hkC, hkind⟩ := (cx_kn C).1 ci _ hq
    obtain ⟨cf, kf, fi, f, hi, hsl⟩ := hS j hj
    have hlay := hin' _ (u_in_lay hj)
    unfold u_lay at hlay
    rw [if_pos hfin] at hlay
    have hst := (u_facts hfc hkC (u_lays hin' (fun _ h => h) hj) hi).1
    have hcf : m.cls = cf := by
      obtain ⟨_, _, c', _, _, _, -, -, hf', -, -, -, hown2, -⟩ := Cond.laysFinal_spec hlay
      have e1 : c' = cf := by have := hi.symm.trans hf'; simp at this; exact this.1.symm
      rw [hdecl] at hown2
      rw [← e1]; exact Option.some.inj (C.2.2.2.1.symm.trans hown2)
    have h6 := u_fits hfc hkC hkind (Or.inr hlay) hi hd hn hfit
    have hN' : N2 = N := hN
    subst hN'
    refine W.putFinK C.1 C.2.1 C.2.2.2.1 (wd C hfl) (lk_same C hsame _ hi) hst hcf hin2 (by rw [q2]; exact h6) q1 q3 (by rw [hsl]; exact k2_hasslot (q4 j hj)) rfl rfl d fun H' e1 e2 e3 => ?_
    rw [hsl] at e1
    refine k H' _ ls (hR.put hs (Or.inl ⟨hc20, ⟨_, hq, rfl⟩, t_OB.to (V := updV (vl E ci R I a) j v) ⟨_, e1, q2, q3, t_set q4 hap hj v⟩ (fun i _ => hv i)⟩) e2 e3 h1 h2) (fun q hq => ?_) hL
    rcases List.mem_append.mp hq with h | h
    · exact hl q h
    · rw [List.mem_singleton] at h
      subst h
      exact Nat.le_add_right _ _
  · omega
theorem k_putFI (C : Cx E own cc nL p s m c) {idx ci j a N : Nat} {x : Int32} (hin2 : meth.name = "<init>") (lk : LkQ own idx ci j .int) (hs : S[a]? = some (ci, N)) (hr : isR ci j = false) (d : decode cc pc = .ok (.putfield idx, 3)) (k : Wk E nL p l e Rm s m args below meth c cells slots Q (pc + 3) L st S R (up2 I a j x)) : Wk E nL p l e Rm s m args below meth c cells slots Q pc L (.int x :: .ref (E.1 + a) :: st) S R I :=
  k_putFV C hin2 lk hs rfl rfl (fun i => vl_putI hr i) (fun _ _ => rfl) (fun i hi => up2_n I j x hi) d k
theorem k_putFR (C : Cx E own cc nL p s m c) {idx ci j a N b : Nat} {ty : FieldType} (hin2 : meth.name = "<init>") (lk : LkQ own idx ci j ty) (hs : S[a]? = some (ci, N)) (hr : isR ci j = true) (hn : ∀ y : Nat, narrow ty (.ref y) = .ref y ∧ fits ty (.ref y) = true) (d : decode cc pc = .ok (.putfield idx, 3)) (k : Wk E nL p l e Rm s m args below meth c cells slots Q (pc + 3) L st S (up2 R a j (some (.inl b))) I) : Wk E nL p l e Rm s m args below meth c cells slots Q pc L (.ref (E.1 + b) :: .ref (E.1 + a) :: st) S R I :=
  k_putFV C hin2 lk hs (hn _).1 (hn _).2 (fun i => vl_putR (x := some (.inl b)) hr i) (fun i hi => up2_n R j _ hi) (fun _ _ => rfl) d k
end HEAP
