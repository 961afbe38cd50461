/-! THE PURE PROGRAMS' words: a guard, a reading of a reference, a name for a value; and the rest of the rows -/
def gp {α : Type} (c : Bool) (x : Option α) : Option α := match c with
  | true => x
  | false => none
theorem gp_e {α : Type} {c : Bool} {x : Option α} {r : α} (h : gp c x = some r) : c = true ∧ x = some r := by
  cases c with
  | true => exact ⟨rfl, h⟩
  | false => cases h
theorem gp_t {α : Type} {c : Bool} (x : Option α) (h : c = true) : gp c x = x := by subst h; rfl
def rl {α : Type} (v : Rf) (k : Nat → Option α) : Option α := match v with
  | some (.inl b) => k b
  | _ => none
theorem rl_e {α : Type} {v : Rf} {k : Nat → Option α} {r : α} (h : rl v k = some r) : ∃ b, v = some (.inl b) ∧ k b = some r := by
  match v, h with
  | some (.inl b), h => exact ⟨b, rfl, h⟩
theorem rl_t {α : Type} {v : Rf} {b : Nat} (k : Nat → Option α) (h : v = some (.inl b)) : rl v k = k b := by subst h; rfl
def rs {α : Type} (v : Rf) (k : Nat → Option α) : Option α := match v with
  | some (.inr b) => k b
  | _ => none
theorem rs_e {α : Type} {v : Rf} {k : Nat → Option α} {r : α} (h : rs v k = some r) : ∃ b, v = some (.inr b) ∧ k b = some r := by
  match v, h with
  | some (.inr b), h => exact ⟨b, rfl, h⟩
theorem rs_t {α : Type} {v : Rf} {b : Nat} (k : Nat → Option α) (h : v = some (.inr b)) : rs v k = k b := by subst h; rfl
def lt {α β : Type} (v : α) (k : α → Option β) : Option β := k v
theorem lt_e {α β : Type} {v : α} {k : α → Option β} {r : β} (h : lt v k = some r) : ∃ y, y = v ∧ k y = some r := ⟨v, rfl, h⟩
def bd {α β : Type} (o : Option α) (k : α → Option β) : Option β := match o with
  | some x => k x
  | none => none
theorem bd_e {α β : Type} {o : Option α} {k : α → Option β} {r : β} (h : bd o k = some r) : ∃ x, o = some x ∧ k x = some r := by
  match o, h with
  | some x, h => exact ⟨x, rfl, h⟩
theorem bd_t {α β : Type} {o : Option α} {x : α} (k : α → Option β) (h : o = some x) : bd o k = k x := by subst h; rfl
/-- whether a cell is an object of a class -/
def sok (S : Sh) (a ci N : Nat) : Bool := match S[a]? with
  | some (c, n) => c == ci && n == N
  | none => false
theorem sok_e {S : Sh} {a ci N : Nat} (h : sok S a ci N = true) : S[a]? = some (ci, N) := by
  unfold sok at h
  split at h
  · rename_i c n hc
    simp only [Bool.and_eq_true, beq_iff_eq] at h
    rw [hc, h.1, h.2]
  · cases h
theorem sok_t {S : Sh} {a ci N : Nat} (h : S[a]? = some (ci, N)) : sok S a ci N = true := by simp [sok, h]
theorem aok_t {S : Sh} {t a n : Nat} {i : Int32} (h : S[a]? = some (t, n)) (hi : vp_in i n) : aok S t a i = true := by
  unfold aok
  rw [h]
  simp only [beq_self_eq_true, Bool.true_and, decide_eq_true_eq]
  exact hi
theorem aln_t {S : Sh} {t a n : Nat} (h : S[a]? = some (t, n)) : aln S t a = some n := by simp [aln, h]
def kok (i : Int32) : Bool := decide (¬ (i < 0 ∨ 6 ≤ i.toNatClampNeg))
def zok (x : Int32) : Bool := decide (x = 0 ∨ x = 1)
def nz (x : Int32) : Bool := decide (¬ x = 0)
/-- a run of numbers is copied -/
def cpy (I : Iw) (a sp b dp n : Nat) : Iw := setA I b (fun k => if dp ≤ k ∧ k < dp + n then I a (sp + (k - dp)) else I b k)
def cok (S : Sh) (t a b : Nat) (sp dp n : Int32) : Bool := match S[a]?, S[b]? with
  | some (c, n0), some (c2, n1) => c == t && c2 == t && decide (¬ sp < 0 ∧ ¬ dp < 0 ∧ ¬ n < 0 ∧ sp.toNatClampNeg + n.toNatClampNeg ≤ n0 ∧ dp.toNatClampNeg + n.toNatClampNeg ≤ n1)
  | _, _ => false
theorem cok_e {S : Sh} {t a b : Nat} {sp dp n : Int32} (h : cok S t a b sp dp n = true) : ∃ n0 n1, S[a]? = some (t, n0) ∧ S[b]? = some (t, n1) ∧ ¬ sp < 0 ∧ ¬ dp < 0 ∧ ¬ n < 0 ∧ sp.toNatClampNeg + n.toNatClampNeg ≤ n0 ∧ dp.toNatClampNeg + n.toNatClampNeg ≤ n1 := by
  unfold cok at h
  split at h
  · rename_i c n0 c2 n1 h1 h2
    simp only [Bool.and_eq_true, beq_iff_eq, decide_eq_true_eq] at h
    obtain ⟨⟨rfl, rfl⟩, h3⟩ := h
    exact ⟨n0, n1, h1, h2, h3⟩
  · cases h
theorem ne_toInt {x y : Int32} (h : ¬ x = y) : x.toInt ≠ y.toInt := fun q => h (Int32.toInt_inj.mp q)
section REST
variable {E : Ev} {own : String} {cc : ByteArray} {nL : Nat} {p : Program} {l : Launch} {e : Env} {Rm : Room} {s : State} {m : MethodId} {args : Array Value} {below : List Frame} {meth : Method} {c : Code} {cells slots : Nat} {Q : State → Prop} {pc : Nat} {L : List (Nat × Value)} {st : List Value} {S : Sh} {R : Rw} {I : Iw}
theorem cx_S (C : Cx E own cc nL p s m c) {H : Heap} {locs : List Loc} (hR : Rp E S R I H) (hl : ∀ q ∈ locs, E.1 ≤ q.base) : va_S (fun q => E.1 ≤ q) E.2.2.2.2.1.heap H locs := by
  have h1 : E.1 = E.2.2.2.2.1.heap.size := C.2.2.2.2.2.2.1
  refine ⟨by rw [hR.1, ← h1]; omega, fun q hq _ => hR.2.1 q (by omega), hl⟩
theorem k_ldcS (C : Cx E own cc nL p s m c) {idx i : Nat} {tx : String} (hi : txK[i]? = some (own, idx, tx)) (d : decode cc pc = .ok (.ldc idx, 2)) (k : Wk E nL p l e Rm s m args below meth c cells slots Q (pc + 2) L (.ref (E.2.1 i) :: st) S R I) : Wk E nL p l e Rm s m args below meth c cells slots Q pc L st S R I :=
  fun H locs ls hR hl hL => va_ldcS C.1 C.2.1 C.2.2.2.1 ((C.2.2.2.2.2.2.2.2.2.2.1 i _ hi).warm C.2.2.2.2.1) d (k H locs ls hR hl hL)
theorem k_gets (C : Cx E own cc nL p s m c) {idx : Nat} (hw : Cond.fieldLink own idx "UnlikeNeighbours" "KIND_ABOVE" "[I" ∈ TB) (d : decode cc pc = .ok (.getstatic idx, 3)) (k : Wk E nL p l e Rm s m args below meth c cells slots Q (pc + 3) L (.ref E.2.2.2.2.2 :: st) S R I) : Wk E nL p l e Rm s m args below meth c cells slots Q pc L st S R I := by
  intro H locs ls hR hl hL
  obtain ⟨cf, kf, fi, f, a, cell, h1, h2, h3, h4, h5, h6, h7, h8⟩ := va_Z.moved C.2.2.2.2.1.alike C.2.2.2.2.2.2.2.2.2.2.2.1
  have hlt : a < E.1 := Nat.lt_of_not_le h8
  exact W.gets C.1 C.2.1 C.2.2.2.1 (wd C hw) h1 h2 h3 h4 (by rw [hR.2.1 a hlt]; exact h5) (fun e => by rw [e] at h6; cases h6) h7 rfl d (k H locs ls hR hl hL)
theorem k_kalen (C : Cx E own cc nL p s m c) (d : decode cc pc = .ok (.arraylength, 1)) (k : Wk E nL p l e Rm s m args below meth c cells slots Q (pc + 1) L (.int 6 :: st) S R I) : Wk E nL p l e Rm s m args below meth c cells slots Q pc L (.ref E.2.2.2.2.2 :: st) S R I := by
  intro H locs ls hR hl hL
  obtain ⟨cell, h1, h2, h3, h4, h5, h6, h7⟩ := va_T.moved C.2.2.2.2.1.alike C.2.2.2.2.2.2.2.2.2.2.2.2.1
  have hlt : E.2.2.2.2.2 < E.1 := Nat.lt_of_not_le h7
  exact W.alen (n := 6) C.1 C.2.1 (by rw [hR.2.1 _ hlt]; exact h1) h2 h5 rfl rfl d (k H locs ls hR hl hL)
theorem k_kald (C : Cx E own cc nL p s m c) {i : Int32} (h : kok i = true) (d : decode cc pc = .ok (.iaload, 1)) (k : Wk E nL p l e Rm s m args below meth c cells slots Q (pc + 1) L (.int (kaF i.toNatClampNeg) :: st) S R I) : Wk E nL p l e Rm s m args below meth c cells slots Q pc L (.int i :: .ref E.2.2.2.2.2 :: st) S R I := by
  intro H locs ls hR hl hL
  have hin : ¬ (i < 0 ∨ 6 ≤ i.toNatClampNeg) := of_decide_eq_true h
  obtain ⟨cell, h1, h2, h3, h4, h5, h6, h7⟩ := va_T.moved C.2.2.2.2.1.alike C.2.2.2.2.2.2.2.2.2.2.2.2.1
  have hlt : E.2.2.2.2.2 < E.1 := Nat.lt_of_not_le h7
  have hl6 : i.toNatClampNeg < 6 := Nat.not_le.mp fun q => hin (Or.inr q)
  refine W.iald (v := .int (kaF i.toNatClampNeg)) C.1 C.2.1 (by rw [hR.2.1 _ hlt]; exact h1) h2 h3 (fun q => ?_) (h6 _ hl6) rfl rfl d (k H locs ls hR hl hL)
  rcases q with q | q
  · exact hin (Or.inl q)
  · omega
theorem CI.rarr {a t n i : Nat} {H1 : Heap} {x : Rf} (ht : t = 23 ∨ t = 24) (h2 : n < 2 ^ 31) (hx : H1[E.1 + a]? = some ((arrV (E.2.2.2.1 t) n (vl E t R I a)).setSlot i (rv E x))) : CI E (t, n) a (up2 R a i x) I H1 := by
  refine Or.inr ⟨by show 20 ≤ t; omega, by show t < 25; omega, h2, ?_⟩
  rw [hx, arrV_store]
  congr 2
  funext q
  by_cases hq : q = i
  · subst hq
    rcases ht with rfl | rfl <;> simp [updV, vl, isR, up2, up1]
  · rcases ht with rfl | rfl <;> simp [updV, vl, isR, up2, up1, hq]
theorem k_aast (C : Cx E own cc nL p s m c) {a b : Nat} {i : Int32} (h : aok S 23 a i = true) (hb : S[b]? = some (8, 3)) (d : decode cc pc = .ok (.aastore, 1)) (k : Wk E nL p l e Rm s m args below meth c cells slots Q (pc + 1) L st S (up2 R a i.toNatClampNeg (some (.inl b))) I) : Wk E nL p l e Rm s m args below meth c cells slots Q pc L (.ref (E.1 + b) :: .int i :: .ref (E.1 + a) :: st) S R I := by
  intro H locs ls hR hl hL
  obtain ⟨n, hs, hin⟩ := aok_of h
  obtain ⟨h1, h2, h3⟩ := hR.arr hs (by omega)
  have hlt : i.toNatClampNeg < n := Nat.not_le.mp fun q => hin (Or.inr q)
  have h0 : ¬ i < 0 := fun q => hin (Or.inl q)
  have hcls := ((cx_kn C).1 8 _ rfl).2
  rcases hR.at hb with ⟨_, _, cellV, g1, g2, g3, -⟩ | ⟨h20, -⟩
  · obtain ⟨kA, comp, k1, k2, k3, -⟩ := (cx_arr C (t := 23) (by omega) (by omega)).2
    have hcomp : comp = E.2.2.1.1 8 := Option.some.inj (k3.symm.trans hcls.1)
    subst hcomp
    obtain ⟨kC, hkC, -⟩ := hcls.2
    refine W.aast C.1 C.2.1 h3 (fun q h => by cases h) (fun h => by cases h) k1 k2 rfl hkC ⟨h0, by rw [arrV_size]; exact hlt⟩ g1 (fun q h => by rw [g3] at h; cases h) (by rw [g2]; exact hkC) (by rw [g2]; exact va_assign hcls) rfl rfl d fun H1 e1 z oq => ?_
    exact k H1 _ ls (hR.put hs (CI.rarr (x := some (.inl b)) (Or.inl rfl) h2 e1) z oq (fun b hb => up2_n R _ _ hb) (fun _ _ => rfl)) (locs_on hl) hL
  · exact absurd h20 (by decide)
theorem k_aastS (C : Cx E own cc nL p s m c) {a b : Nat} {i : Int32} (h : aok S 24 a i = true) (hb : b < txN) (d : decode cc pc = .ok (.aastore, 1)) (k : Wk E nL p l e Rm s m args below meth c cells slots Q (pc + 1) L st S (up2 R a i.toNatClampNeg (some (.inr b))) I) : Wk E nL p l e Rm s m args below meth c cells slots Q pc L (.ref (E.2.1 b) :: .int i :: .ref (E.1 + a) :: st) S R I := by
  intro H locs ls hR hl hL
  obtain ⟨n, hs, hin⟩ := aok_of h
  obtain ⟨h1, h2, h3⟩ := hR.arr hs (by omega)
  have hlt : i.toNatClampNeg < n := Nat.not_le.mp fun q => hin (Or.inr q)
  have h0 : ¬ i < 0 := fun q => hin (Or.inl q)
  obtain ⟨adV, hv⟩ := C.2.2.2.2.2.2.2.2.2.1
  obtain ⟨⟨cellV, g1, g2, g3, g4⟩, -⟩ := (vk_S.moved C.2.2.2.2.1.alike hv).1 b hb
  obtain ⟨kA, comp, k1, k2, k3, -⟩ := (cx_arr C (t := 24) (by omega) (by omega)).2
  have hcomp : comp = cellV.cls := Option.some.inj (k3.symm.trans g3)
  subst hcomp
  have hltb : E.2.1 b < E.1 := Nat.lt_of_not_le g4
  obtain ⟨kE, hkE, -⟩ := Vm.findClass_spec k3
  refine W.aast C.1 C.2.1 h3 (fun q h => by cases h) (fun h => by cases h) k1 k2 rfl hkE ⟨h0, by rw [arrV_size]; exact hlt⟩ (by rw [hR.2.1 _ hltb]; exact g1) (fun q h => by rw [h] at g2; cases g2) hkE (Vm.assignable_self _ _) rfl rfl d fun H1 e1 z oq => ?_
  exact k H1 _ ls (hR.put hs (CI.rarr (x := some (.inr b)) (Or.inr rfl) h2 e1) z oq (fun b hb => up2_n R _ _ hb) (fun _ _ => rfl)) (locs_on hl) hL
theorem k_copy (C : Cx E own cc nL p s m c) {a b t idx : Nat} {sp dp n : Int32} (hlink : Cond.methodLink own idx arraycopyName ∈ TB) (hnat : Cond.native arraycopyName ∈ TB) (hstat : Cond.static arraycopyName ∈ TB) (hini : Cond.initialized "java/lang/System" ∈ TB) (ht : t = 20) (h : cok S t a b sp dp n = true) (hframes : 1 ≤ Rm.frames) (hst8 : (st.map fun v => v.category).sum ≤ 8) (hlo : 60 ≤ Rm.locals) (d : decode cc pc = .ok (.invokestatic idx, 3)) (k : Wk E nL p l e Rm s m args below meth c cells slots Q (pc + 3) L st S R (cpy I a sp.toNatClampNeg b dp.toNatClampNeg n.toNatClampNeg)) : Wk E nL p l e Rm s m args below meth c cells slots Q pc L (.int n :: .int dp :: .ref (E.1 + b) :: .int sp :: .ref (E.1 + a) :: st) S R I := by
  intro H locs ls hR hl hL
  subst ht
  obtain ⟨n0, n1, hs0, hs1, h1, h2, h3, h4, h5⟩ := cok_e h
  obtain ⟨-, z0, hc0⟩ := hR.arr hs0 (by omega)
  obtain ⟨-, z1, hc1⟩ := hR.arr hs1 (by omega)
  rw [vl_int rfl (by omega)] at hc0 hc1
  have hA := (cx_arr C (t := 20) (by omega) (by omega)).1
  have hP : va_P E.2.2.1 classes [(E.1 + a, .inl (E.2.2.2.1 20, n0, .inl (I a)))] H := by
    intro q x hx
    match q, hx with
    | 0, hx => cases hx; exact hc0
  have nn : ∀ z : Int32, ¬ z < 0 → z.toInt = (z.toNatClampNeg : Int) := by
    intro z hz
    have hz0 : (0 : Int) ≤ z.toInt := by
      have := Int32.not_lt.mp hz
      simpa using Int32.le_iff_toInt_le.mp this
    show z.toInt = ((z.toInt.toNat : Nat) : Int)
    omega
  intro T hT X
  obtain ⟨-, k0, hk0, cm0, hkk0⟩ := hA n0 (fun j => .int (I a j))
  obtain ⟨-, k1, hk1, cm1, hkk1⟩ := hA n1 (fun j => .int (I b j))
  obtain ⟨vm', X', step⟩ := X.arraycopy C.1 C.2.2.2.1 (wd C hlink) (wd C hnat) (wd C hstat) (wd C hini) (src := E.1 + a) (dst := E.1 + b) (cs := vp_cell (E.2.2.2.1 20) (n0, .inl (I a))) (cd := vp_cell (E.2.2.2.1 20) (n1, .inl (I b))) (srcPos := sp) (destPos := dp) (n := n) (by rw [hT]; exact hc0) (by rw [hT]; exact hc1)
    (fun _ h => by cases h) (fun _ h => by cases h) (fun h => by cases h) (fun h => by cases h) hk0 hk1 hkk0 hkk1 (by simp [aty, refKind]) h1 h2 h3
    (by rw [nn sp h1, nn n h3]; show ¬ _ > ((arrV _ n0 (fun j => .int (I a j))).slots.size : Int); rw [arrV_size]; omega)
    (by rw [nn dp h2, nn n h3]; show ¬ _ > ((arrV _ n1 (fun j => .int (I b j))).slots.size : Int); rw [arrV_size]; omega)
    (fun vm₁ _ i hi => by
      have e : (vp_cell (E.2.2.2.1 20) (n0, .inl (I a))).slots.getD (sp.toNatClampNeg + i) .null = .int (I a (sp.toNatClampNeg + i)) := by
        show (arrV _ n0 (fun j => .int (I a j))).slots.getD _ _ = _
        rw [Array.getD_eq_getD_getElem?, arrV_read _ _ (by omega)]
        rfl
      refine ⟨?_, ?_⟩
      · rw [e]
        rfl
      · rw [e]
        exact trivial)
    (g := F0 m pc ls (.int n :: .int dp :: .ref (E.1 + b) :: .int sp :: .ref (E.1 + a) :: st)) rfl (by rw [C.2.2.1]; exact hL.1) (rest := st) rfl (by rw [C.2.1]; exact d) hframes (by
      have hw : nativeFrameWords "java/lang/System" "arraycopy" 5 + 11 ≤ 40 := by decide
      show 2 * 0 + _ + _ ≤ _
      omega)
  have e1 : copied (vp_cell (E.2.2.2.1 20) (n0, .inl (I a))) (vp_cell (E.2.2.2.1 20) (n1, .inl (I b))) sp dp n = vp_cell (E.2.2.2.1 20) (n1, .inl (va_cpy (I a) (I b) sp.toNatClampNeg dp.toNatClampNeg n.toNatClampNeg)) := va_copied (fun z => .int z) _ _ (I a) (I b) h4
  rw [e1] at X' step
  have hlb : E.1 + b < H.size := (Array.getElem?_eq_some_iff.mp hc1).1
  have hheap : ((T.setVm vm').setCell (E.1 + b) (vp_cell (E.2.2.2.1 20) (n1, .inl (va_cpy (I a) (I b) sp.toNatClampNeg dp.toNatClampNeg n.toNatClampNeg)))).heap = H.setIfInBounds (E.1 + b) (vp_cell (E.2.2.2.1 20) (n1, .inl (va_cpy (I a) (I b) sp.toNatClampNeg dp.toNatClampNeg n.toNatClampNeg))) := by rw [← hT]; rfl
  obtain ⟨t2, a1, b1⟩ := k _ _ ls (hR.put (R2 := R) (I2 := cpy I a sp.toNatClampNeg b dp.toNatClampNeg n.toNatClampNeg) hs1 (H2 := H.setIfInBounds (E.1 + b) (vp_cell (E.2.2.2.1 20) (n1, .inl (va_cpy (I a) (I b) sp.toNatClampNeg dp.toNatClampNeg n.toNatClampNeg)))) (Or.inr ⟨by omega, by omega, z1, by
      rw [vl_int rfl (by omega)]
      rw [Array.getElem?_setIfInBounds, if_pos rfl, if_pos hlb, vp_cell_i]
      congr 2
      funext j
      simp only [cpy, setA, if_true, va_cpy]⟩) (by simp) (fun q hq => by simp [Array.getElem?_setIfInBounds, Ne.symm hq]) (fun _ _ => rfl) (fun q hq => by simp [cpy, setA, hq])) (fun q hq => by
      rcases List.mem_append.mp hq with h | h
      · exact hl q h
      · obtain ⟨z, -, hz⟩ := List.mem_map.mp h
        rw [← hz]
        exact Nat.le_add_right _ _) hL _ hheap X'
  exact ⟨t2, step t2 a1, b1⟩
end REST
