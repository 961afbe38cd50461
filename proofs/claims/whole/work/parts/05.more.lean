/-! ROWS OF THE PURE LAYER over rows of numbers, new cells, statics, texts -/
/-- a place is within a row of a sort -/
def aok (S : Sh) (t a : Nat) (i : Int32) : Bool := match S[a]? with
  | some (c, n) => c == t && decide (¬ (i < 0 ∨ n ≤ i.toNatClampNeg))
  | none => false
theorem aok_of {S : Sh} {t a : Nat} {i : Int32} (h : aok S t a i = true) : ∃ n, S[a]? = some (t, n) ∧ vp_in i n := by
  unfold aok at h
  split at h
  · rename_i c n hc
    simp only [Bool.and_eq_true, beq_iff_eq, decide_eq_true_eq] at h
    exact ⟨n, by rw [hc, h.1], h.2⟩
  · cases h
def setA {α : Type} (f : Nat → α) (k : Nat) (x : α) : Nat → α := fun b => if b = k then x else f b
section MORE
variable {E : Ev} {own : String} {cc : ByteArray} {nL : Nat} {p : Program} {l : Launch} {e : Env} {Rm : Room} {s : State} {m : MethodId} {args : Array Value} {below : List Frame} {meth : Method} {c : Code} {cells slots : Nat} {Q : State → Prop} {pc : Nat} {L : List (Nat × Value)} {st : List Value} {S : Sh} {R : Rw} {I : Iw}
theorem Rp.arr {H : Heap} (h : Rp E S R I H) {a t n : Nat} (hs : S[a]? = some (t, n)) (ht : 20 ≤ t) : t < 25 ∧ n < 2 ^ 31 ∧ H[E.1 + a]? = some (arrV (E.2.2.2.1 t) n (vl E t R I a)) := by
  rcases h.at hs with ⟨h1, -⟩ | ⟨-, h2, h3, h4⟩
  · exact absurd h1 (by show ¬ t < 20; omega)
  · exact ⟨h2, h3, h4⟩
theorem vl_int {t : Nat} {a : Nat} {R : Rw} {I : Iw} (h : isR t 0 = false) (ht : 20 ≤ t) : vl E t R I a = fun j => .int (I a j) := by
  have h2 : ∀ j, isR t j = false := by
    intro j
    unfold isR at h ⊢
    rw [if_neg (by omega)] at h ⊢
    exact h
  funext j
  simp [vl, h2]
theorem k_iald (C : Cx E own cc nL p s m c) {a : Nat} {i : Int32} (h : aok S 20 a i = true) (d : decode cc pc = .ok (.iaload, 1)) (k : Wk E nL p l e Rm s m args below meth c cells slots Q (pc + 1) L (.int (I a i.toNatClampNeg) :: st) S R I) : Wk E nL p l e Rm s m args below meth c cells slots Q pc L (.int i :: .ref (E.1 + a) :: st) S R I := by
  intro H locs ls hR hl hL
  obtain ⟨n, hs, hin⟩ := aok_of h
  obtain ⟨h1, h2, h3⟩ := hR.arr hs (by omega)
  have hlt : i.toNatClampNeg < n := Nat.not_le.mp fun q => hin (Or.inr q)
  exact W.iald (v := .int (I a i.toNatClampNeg)) C.1 C.2.1 h3 ((cx_arr C (t := 20) (by omega) (by omega)).1 n _) (fun q => by cases q) (by rw [arrV_size]; exact hin) (by rw [arrV_read _ _ hlt]; simp [vl, isR]) rfl rfl d (k H locs ls hR hl hL)
theorem k_bald (C : Cx E own cc nL p s m c) {a : Nat} {i : Int32} (h : aok S 21 a i = true) (d : decode cc pc = .ok (.baload, 1)) (k : Wk E nL p l e Rm s m args below meth c cells slots Q (pc + 1) L (.int (I a i.toNatClampNeg) :: st) S R I) : Wk E nL p l e Rm s m args below meth c cells slots Q pc L (.int i :: .ref (E.1 + a) :: st) S R I := by
  intro H locs ls hR hl hL
  obtain ⟨n, hs, hin⟩ := aok_of h
  obtain ⟨h1, h2, h3⟩ := hR.arr hs (by omega)
  have hlt : i.toNatClampNeg < n := Nat.not_le.mp fun q => hin (Or.inr q)
  exact W.bald (v := .int (I a i.toNatClampNeg)) C.1 C.2.1 h3 ((cx_arr C (t := 21) (by omega) (by omega)).1 n _) (fun q => by cases q) (by rw [arrV_size]; exact hin) (by rw [arrV_read _ _ hlt]; simp [vl, isR]) rfl rfl d (k H locs ls hR hl hL)
theorem k_zald (C : Cx E own cc nL p s m c) {a : Nat} {i : Int32} (h : aok S 22 a i = true) (d : decode cc pc = .ok (.baload, 1)) (k : Wk E nL p l e Rm s m args below meth c cells slots Q (pc + 1) L (.int (I a i.toNatClampNeg) :: st) S R I) : Wk E nL p l e Rm s m args below meth c cells slots Q pc L (.int i :: .ref (E.1 + a) :: st) S R I := by
  intro H locs ls hR hl hL
  obtain ⟨n, hs, hin⟩ := aok_of h
  obtain ⟨h1, h2, h3⟩ := hR.arr hs (by omega)
  have hlt : i.toNatClampNeg < n := Nat.not_le.mp fun q => hin (Or.inr q)
  exact W.zald (v := .int (I a i.toNatClampNeg)) C.1 C.2.1 h3 ((cx_arr C (t := 22) (by omega) (by omega)).1 n _) (fun q => by cases q) (by rw [arrV_size]; exact hin) (by rw [arrV_read _ _ hlt]; simp [vl, isR]) rfl rfl d (k H locs ls hR hl hL)
theorem k_aald (C : Cx E own cc nL p s m c) {t a : Nat} {i : Int32} (ht : t = 23 ∨ t = 24) (h : aok S t a i = true) (d : decode cc pc = .ok (.aaload, 1)) (k : Wk E nL p l e Rm s m args below meth c cells slots Q (pc + 1) L (rv E (R a i.toNatClampNeg) :: st) S R I) : Wk E nL p l e Rm s m args below meth c cells slots Q pc L (.int i :: .ref (E.1 + a) :: st) S R I := by
  intro H locs ls hR hl hL
  obtain ⟨n, hs, hin⟩ := aok_of h
  obtain ⟨h1, h2, h3⟩ := hR.arr hs (by omega)
  have hlt : i.toNatClampNeg < n := Nat.not_le.mp fun q => hin (Or.inr q)
  refine W.aald (v := rv E (R a i.toNatClampNeg)) (ty := aty t) C.1 C.2.1 h3 ((cx_arr C (t := t) (by omega) (by omega)).1 n _) (by rcases ht with rfl | rfl <;> rfl) (fun q => by cases q) (by rw [arrV_size]; exact hin) (by rw [arrV_read _ _ hlt]; rcases ht with rfl | rfl <;> simp [vl, isR]) rfl rfl d (k H locs ls hR hl hL)
theorem locs_on {locs : List Loc} {a j : Nat} (hl : ∀ q ∈ locs, E.1 ≤ q.base) : ∀ q ∈ locs ++ [⟨E.1 + a, j⟩], E.1 ≤ q.base := fun q hq => by
  rcases List.mem_append.mp hq with h | h
  · exact hl q h
  · rw [List.mem_singleton] at h
    subst h
    exact Nat.le_add_right _ _
theorem CI.arr {a t n : Nat} {H1 : Heap} {i : Nat} {x : Int32} (h20 : 20 ≤ t) (h1 : t < 25) (h2 : n < 2 ^ 31) (hr : isR t 0 = false) (hx : H1[E.1 + a]? = some ((arrV (E.2.2.2.1 t) n (vl E t R I a)).setSlot i (.int x))) : CI E (t, n) a R (up2 I a i x) H1 := by
  refine Or.inr ⟨h20, h1, h2, ?_⟩
  rw [hx, arrV_store]
  congr 2
  rw [vl_int hr h20, vl_int hr h20, up2_s]
  funext q
  by_cases hq : q = i
  · subst hq
    simp [updV, up1]
  · simp [updV, up1, hq]
theorem k_iast (C : Cx E own cc nL p s m c) {a : Nat} {i x : Int32} (h : aok S 20 a i = true) (d : decode cc pc = .ok (.iastore, 1)) (k : Wk E nL p l e Rm s m args below meth c cells slots Q (pc + 1) L st S R (up2 I a i.toNatClampNeg x)) : Wk E nL p l e Rm s m args below meth c cells slots Q pc L (.int x :: .int i :: .ref (E.1 + a) :: st) S R I := by
  intro H locs ls hR hl hL
  obtain ⟨n, hs, hin⟩ := aok_of h
  obtain ⟨h1, h2, h3⟩ := hR.arr hs (by omega)
  refine W.iast C.1 C.2.1 h3 ((cx_arr C (t := 20) (by omega) (by omega)).1 n _) (fun q => by cases q) (by rw [arrV_size]; exact hin) rfl rfl d fun H1 e1 z oq => ?_
  exact k H1 _ ls (hR.put hs (CI.arr (by omega) h1 h2 rfl e1) z oq (fun _ _ => rfl) (fun b hb => up2_n I _ _ hb)) (locs_on hl) hL
theorem k_bast (C : Cx E own cc nL p s m c) {a : Nat} {i x : Int32} (h : aok S 21 a i = true) (d : decode cc pc = .ok (.bastore, 1)) (k : Wk E nL p l e Rm s m args below meth c cells slots Q (pc + 1) L st S R (up2 I a i.toNatClampNeg x.toInt8.toInt32)) : Wk E nL p l e Rm s m args below meth c cells slots Q pc L (.int x :: .int i :: .ref (E.1 + a) :: st) S R I := by
  intro H locs ls hR hl hL
  obtain ⟨n, hs, hin⟩ := aok_of h
  obtain ⟨h1, h2, h3⟩ := hR.arr hs (by omega)
  refine W.bast C.1 C.2.1 h3 ((cx_arr C (t := 21) (by omega) (by omega)).1 n _) (fun q => by cases q) (by rw [arrV_size]; exact hin) rfl rfl d fun H1 e1 z oq => ?_
  exact k H1 _ ls (hR.put hs (CI.arr (by omega) h1 h2 rfl e1) z oq (fun _ _ => rfl) (fun b hb => up2_n I _ _ hb)) (locs_on hl) hL
theorem k_zast (C : Cx E own cc nL p s m c) {a : Nat} {i x : Int32} (hx : x = 0 ∨ x = 1) (h : aok S 22 a i = true) (d : decode cc pc = .ok (.bastore, 1)) (k : Wk E nL p l e Rm s m args below meth c cells slots Q (pc + 1) L st S R (up2 I a i.toNatClampNeg x)) : Wk E nL p l e Rm s m args below meth c cells slots Q pc L (.int x :: .int i :: .ref (E.1 + a) :: st) S R I := by
  intro H locs ls hR hl hL
  obtain ⟨n, hs, hin⟩ := aok_of h
  obtain ⟨h1, h2, h3⟩ := hR.arr hs (by omega)
  refine W.zast C.1 C.2.1 h3 ((cx_arr C (t := 22) (by omega) (by omega)).1 n _) (fun q => by cases q) (by rw [arrV_size]; exact hin) rfl rfl d fun H1 e1 z oq => ?_
  rw [nar_b hx] at e1
  exact k H1 _ ls (hR.put hs (CI.arr (by omega) h1 h2 rfl e1) z oq (fun _ _ => rfl) (fun b hb => up2_n I _ _ hb)) (locs_on hl) hL
def aln (S : Sh) (t a : Nat) : Option Nat := match S[a]? with
  | some (c, n) => if c = t then some n else none
  | none => none
theorem aln_of {S : Sh} {t a n : Nat} (h : aln S t a = some n) : S[a]? = some (t, n) := by
  unfold aln at h
  split at h
  · rename_i c n2 hc
    split at h
    · rename_i h2
      cases h
      rw [hc, h2]
    · cases h
  · cases h
theorem k_alen (C : Cx E own cc nL p s m c) {t a n : Nat} (ht : 20 ≤ t) (h : aln S t a = some n) (d : decode cc pc = .ok (.arraylength, 1)) (k : Wk E nL p l e Rm s m args below meth c cells slots Q (pc + 1) L (.int (nI n) :: st) S R I) : Wk E nL p l e Rm s m args below meth c cells slots Q pc L (.ref (E.1 + a) :: st) S R I := by
  intro H locs ls hR hl hL
  have hs := aln_of h
  obtain ⟨h1, h2, h3⟩ := hR.arr hs ht
  exact W.alen (n := nI n) C.1 C.2.1 h3 ((cx_arr C (t := t) ht h1).1 n _) (by rw [arrV_size] <;> rfl) rfl rfl d (k H locs ls hR hl hL)
theorem k_newa (C : Cx E own cc nL p s m c) {atype : ArrayType} {t N : Nat} {n : Int32} (ht : newarray.typeOf atype = aty t) (h20 : t = 20 ∨ t = 21 ∨ t = 22) (hw : Cond.arrayClass (aty t) ∈ TB) (hn : ¬ n < 0) (hN : n.toNatClampNeg = N) (hNb : N ≤ 65536) (hc : cells + 1 ≤ Rm.cells) (hsl : slots + N ≤ Rm.slots) (d : decode cc pc = .ok (.newarray atype, 2)) (k : Wk E nL p l e Rm s m args below meth c (cells + 1) (slots + N) Q (pc + 2) L (.ref (E.1 + S.length) :: st) (S ++ [(t, N)]) (setA R S.length (fun _ => none)) (setA I S.length (fun _ => 0))) : Wk E nL p l e Rm s m args below meth c cells slots Q pc L (.int n :: st) S R I := by
  intro H locs ls hR hl hL
  have hsz := hR.1
  have hcw : (Cond.arrayClass (newarray.typeOf atype)).before args s = true := by rw [ht]; exact wd C hw
  have hcb : componentBytes (newarray.typeOf atype) ≤ 8 := by rw [ht]; rcases h20 with rfl | rfl | rfl <;> decide
  refine va_newaK C.1 C.2.1 hcw rfl d rfl hn hN (Nat.le_trans (Nat.mul_le_mul hNb hcb) (by decide)) hc hsl hsz fun H1 cA e1 z1 o1 hAr hNm => ?_
  obtain ⟨-, hra⟩ := cx_arr C (t := t) (by omega) (by omega)
  have hcA : cA = E.2.2.2.1 t := by
    rw [ht] at hNm
    rcases h20 with rfl | rfl | rfl
    · exact Option.some.inj (hNm.symm.trans hra)
    · exact Option.some.inj (hNm.symm.trans hra)
    · exact Option.some.inj (hNm.symm.trans hra)
  subst hcA
  refine k H1 locs ls (hR.new (Or.inr ⟨by omega, by omega, by omega, ?_⟩) (by rw [z1, hsz]) (fun q hq => o1 q (by omega)) (fun b hb => by simp [setA, hb]) (fun b hb => by simp [setA, hb])) hl hL
  rw [e1]
  congr 2
  rw [vl_int (by rcases h20 with rfl | rfl | rfl <;> rfl) (by omega)]
  funext j
  rw [ht]
  simp only [setA, if_true]
  rcases h20 with rfl | rfl | rfl <;> rfl
theorem k_newq (C : Cx E own cc nL p s m c) {Cn : String} {idx t N : Nat} {n : Int32} (ht : aty t = .object Cn) (h20 : t = 23 ∨ t = 24) (hw : Cond.classLink own idx Cn ∈ TB) (hn : ¬ n < 0) (hN : n.toNatClampNeg = N) (hNb : N ≤ 65536) (hc : cells + 1 ≤ Rm.cells) (hsl : slots + N ≤ Rm.slots) (d : decode cc pc = .ok (.anewarray idx, 3)) (k : Wk E nL p l e Rm s m args below meth c (cells + 1) (slots + N) Q (pc + 3) L (.ref (E.1 + S.length) :: st) (S ++ [(t, N)]) (setA R S.length (fun _ => none)) (setA I S.length (fun _ => 0))) : Wk E nL p l e Rm s m args below meth c cells slots Q pc L (.int n :: st) S R I := by
  intro H locs ls hR hl hL
  have hsz := hR.1
  have hover : va_AO Cn s := by
    rcases h20 with rfl | rfl
    · have e1 : Cn = "UnlikeNeighbours$Sheet" := by simp [aty] at ht; exact ht.symm
      subst e1
      exact va_AO.moved C.2.2.2.2.1.alike C.2.2.2.2.2.2.2.2.2.2.2.2.2.1
    · have e1 : Cn = "java/lang/String" := by simp [aty] at ht; exact ht.symm
      subst e1
      exact va_AO.moved C.2.2.2.2.1.alike C.2.2.2.2.2.2.2.2.2.2.2.2.2.2.1
  subst hN
  refine W.anew C.1 C.2.1 C.2.2.2.1 (wd C hw) (va_AO.use hover) rfl d rfl hn (by omega) hc hsl fun cA kA comp f1 f2 f3 f4 => ?_
  obtain ⟨-, hra⟩ := cx_arr C (t := t) (by omega) (by omega)
  rw [ht] at hra
  obtain ⟨_, _, -, -, -, hra⟩ := hra
  have hcA : cA = E.2.2.2.1 t := Option.some.inj (f1.symm.trans hra)
  subst hcA
  rw [arrV_new]
  have e2 : E.1 + S.length = H.size := hsz.symm
  rw [e2] at k
  refine k _ locs ls (hR.new (Or.inr ⟨by omega, by omega, by show n.toNatClampNeg < _; omega, ?_⟩) (by rw [Array.size_push]) (fun q hq => by rw [Array.getElem?_push, if_neg (Nat.ne_of_lt hq)]) (fun b hb => by simp [setA, hb]) (fun b hb => by simp [setA, hb])) hl hL
  rw [e2, Array.getElem?_push_size]
  congr 2
  funext j
  rcases h20 with rfl | rfl <;> simp [vl, isR, setA, rv]
def LkN (own : String) (idx ci N : Nat) : Prop := ∃ (Cn : String) (T : u_T), FcOK ci Cn T N ∧ (∃ ty : Nat → FieldType, (∀ k, k < N → parseFieldDescriptor (T k).2.2.1 = some (ty k)) ∧ ∀ j, j < N → defaultValue (ty j) = if isR ci j then .null else .int 0) ∧ Cond.classLink own idx Cn ∈ TB ∧ Cond.instantiable Cn N ∈ TB ∧ Cond.initialized Cn ∈ TB
theorem k_new (C : Cx E own cc nL p s m c) {idx ci N : Nat} (lk : LkN own idx ci N) (hc : cells + 1 ≤ Rm.cells) (hsl : slots + N ≤ Rm.slots) (d : decode cc pc = .ok (.new idx, 3)) (k : Wk E nL p l e Rm s m args below meth c (cells + 1) (slots + N) Q (pc + 3) L (.ref (E.1 + S.length) :: st) (S ++ [(ci, N)]) (setA R S.length (fun _ => none)) (setA I S.length (fun _ => 0))) : Wk E nL p l e Rm s m args below meth c cells slots Q pc L st S R I := by
  intro H locs ls hR hl hL
  have hsz := hR.1
  obtain ⟨Cn, T, ⟨h20, hq, _, hnm, hin⟩, ⟨ty, hty, hdf⟩, hw1, hw2, hw3⟩ := lk
  have hin' : ∀ w ∈ u_ws Cn T N, w.before args s = true := fun w hw => wd C (hin w hw)
  have hKn := (cx_kn C).1 ci _ hq
  refine W.newcK C.1 C.2.1 C.2.2.2.1 (wd C hw1) (wd C hw2) (wd C hw3) rfl d hc hsl hKn.2.1 hsz fun H1 kC hkC e1 z1 o1 => ?_
  refine k H1 locs ls (hR.new (Or.inl ⟨h20, ⟨_, hq, rfl⟩, (u_born ty hin' (fun _ h => h) hKn hkC e1 hty).to (fun j hj => ?_)⟩) (by rw [z1, hsz]) (fun q hq => o1 q (by omega)) (fun b hb => by simp [setA, hb]) (fun b hb => by simp [setA, hb])) hl hL
  rw [hdf j hj]
  simp [vl, setA, rv]
end MORE
