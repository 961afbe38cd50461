/-! THE WORLDS: all cells that were made since the law began, in their order: cell k lies at address B + k. A cell is a class (by its place in classes; 20 and on: rows) and a size; what it holds is one function for numbers and one for references. -/
abbrev classes : List vw_C := [(RX0, TX0, 5), (RX1, TX1, 5), (RX2, TX2, 11), (RX3, TX3, 7), (RX4, TX4, 5), (RX5, TX5, 8), (RX6, TX6, 5), (RX7, TX7, 16), (RX8, TX8, 3), (RX9, TX9, 5), (RX10, TX10, 5), (RX11, TX11, 12), (RX12, TX12, 34)]
/-- a reference: nothing, a cell, or a text constant -/
abbrev Rf : Type := Option (Nat ⊕ Nat)
abbrev Sh : Type := List (Nat × Nat)
abbrev Iw : Type := Nat → Nat → Int32
abbrev Rw : Type := Nat → Nat → Rf
/-- B, text constants, classes' numbers, rows' classes, the state at the law's start, KIND_ABOVE -/
abbrev Ev : Type := Nat × (Nat → Nat) × va_G × (Nat → ClassId) × State × Nat
def up1 {α : Type} (f : Nat → α) (k : Nat) (x : α) : Nat → α := fun j => if j = k then x else f j
def up2 {α : Type} (I : Nat → Nat → α) (a j : Nat) (x : α) : Nat → Nat → α := fun b => if b = a then up1 (I a) j x else I b
theorem up1_s {α : Type} (f : Nat → α) (k : Nat) (x : α) : up1 f k x k = x := by simp [up1]
theorem up1_n {α : Type} (f : Nat → α) {k j : Nat} (x : α) (h : j ≠ k) : up1 f k x j = f j := by simp [up1, h]
theorem up2_s {α : Type} (I : Nat → Nat → α) (a j : Nat) (x : α) : up2 I a j x a = up1 (I a) j x := by simp [up2]
theorem up2_n {α : Type} (I : Nat → Nat → α) {a b : Nat} (j : Nat) (x : α) (h : b ≠ a) : up2 I a j x b = I b := by simp [up2, h]
def rv (E : Ev) : Rf → Value
  | none => .null
  | some (.inl k) => .ref (E.1 + k)
  | some (.inr i) => .ref (E.2.1 i)
/-- whether a slot holds a reference -/
def isR (cc j : Nat) : Bool :=
  if cc < 20 then match (classes[cc]?) with
    | some q => match parseFieldDescriptor (q.2.1 j).2.2.1 with
      | some (.object _) => true
      | some (.array _) => true
      | _ => false
    | none => false
  else decide (23 ≤ cc)
def vl (E : Ev) (cc : Nat) (R : Rw) (I : Iw) (k : Nat) : Nat → Value := fun j => if isR cc j then rv E (R k j) else .int (I k j)
def aty (t : Nat) : FieldType := if t = 20 then .int else if t = 21 then .byte else if t = 22 then .boolean else if t = 23 then .object "UnlikeNeighbours$Sheet" else .object "java/lang/String"
def CI (E : Ev) (c : Nat × Nat) (k : Nat) (R : Rw) (I : Iw) (H : Heap) : Prop :=
  (c.1 < 20 ∧ (∃ q : vw_C, classes[c.1]? = some q ∧ q.2.2 = c.2) ∧ t_OB (E.1 + k) (E.2.2.1.1 c.1) c.2 (E.2.2.1.2 c.1) H (vl E c.1 R I k)) ∨ (20 ≤ c.1 ∧ c.1 < 25 ∧ c.2 < 2 ^ 31 ∧ H[E.1 + k]? = some (arrV (E.2.2.2.1 c.1) c.2 (vl E c.1 R I k)))
def Rp (E : Ev) (S : Sh) (R : Rw) (I : Iw) (H : Heap) : Prop := H.size = E.1 + S.length ∧ (∀ q : Nat, q < E.1 → H[q]? = E.2.2.2.2.1.heap[q]?) ∧ ∀ (k : Nat) (c : Nat × Nat), S[k]? = some c → CI E c k R I H
/-- the text constants, their bytes -/
def txN : Nat := 19
def txK : List (String × Nat × String) := [("UnlikeNeighbours$Reader", 79, "good twin living goat sealed royal if or and not more less free gap day cloth worth number "), ("UnlikeNeighboursModel", 27, "gap"), ("UnlikeNeighboursModel", 29, "day"), ("UnlikeNeighboursModel", 31, "cloth"), ("UnlikeNeighboursModel", 33, "worth"), ("UnlikeNeighboursModel", 35, "number"), ("UnlikeNeighboursModel", 41, "good"), ("UnlikeNeighboursModel", 43, "twin"), ("UnlikeNeighboursModel", 45, "living"), ("UnlikeNeighboursModel", 47, "goat"), ("UnlikeNeighboursModel", 49, "sealed"), ("UnlikeNeighboursModel", 51, "royal"), ("UnlikeNeighboursModel", 195, "if"), ("UnlikeNeighboursModel", 172, "not"), ("UnlikeNeighboursModel", 170, "and"), ("UnlikeNeighboursModel", 153, "or"), ("UnlikeNeighboursModel", 197, "free"), ("UnlikeNeighboursModel", 199, "more"), ("UnlikeNeighboursModel", 201, "less")]
def txB : List (List Int32) := txK.map (fun q => q.2.2.toList.map (fun ch => Int32.ofNat ch.toNat))
def txL : List Nat := txB.map List.length
def kaF : Nat → Int32 := fun j => ([-1, 0, 0, 2, 0, 4] : List Int32).getD j 0
/-- what is known of the tables and of what lies below B, once for all, at the law's start -/
def KE (E : Ev) : Prop :=
  (∃ a0 : Array Value, ∀ w ∈ lw_tbl, w.before a0 E.2.2.2.2.1 = true) ∧
  E.1 = E.2.2.2.2.1.heap.size ∧
  (∀ (c : Nat) (q : vw_C), classes[c]? = some q → u_Kn E.2.2.2.2.1 q.1 q.2.1 q.2.2 (E.2.2.1.1 c) (E.2.2.1.2 c)) ∧
  (∀ t, 20 ≤ t → t < 25 → ArrOfT E.2.2.2.2.1 (E.2.2.2.1 t) (aty t) ∧ va_RA E.2.2.2.2.1 (E.2.2.2.1 t) (aty t)) ∧
  (∃ adV : Nat → Nat, vk_S txN txL txB E.2.1 adV (fun q => E.1 ≤ q) E.2.2.2.2.1 E.2.2.2.2.1.heap) ∧
  (∀ (i : Nat) (q : String × Nat × String), txK[i]? = some q → vk_R q.1 q.2.1 q.2.2 (E.2.1 i) E.2.2.2.2.1) ∧
  va_Z "UnlikeNeighbours" "KIND_ABOVE" "[I" (.ref E.2.2.2.2.2) (fun q => E.1 ≤ q) E.2.2.2.2.1 E.2.2.2.2.1.heap ∧
  va_T .int E.2.2.2.2.2 6 (fun j => .int (kaF j)) (fun q => E.1 ≤ q) E.2.2.2.2.1 E.2.2.2.2.1.heap ∧
  va_AO "UnlikeNeighbours$Sheet" E.2.2.2.2.1 ∧ va_AO "java/lang/String" E.2.2.2.2.1 ∧
  va_Z "java/lang/String" "COMPACT_STRINGS" "Z" (.int 1) (fun q => E.1 ≤ q) E.2.2.2.2.1 E.2.2.2.2.1.heap ∧
  va_Zq "jdk/internal/util/Preconditions" "SIOOBE_FORMATTER" "Ljava/util/function/BiFunction;" (fun q => E.1 ≤ q) E.2.2.2.2.1 E.2.2.2.2.1.heap
/-- a method's surroundings -/
def Cx (E : Ev) (own : String) (cc : ByteArray) (nL : Nat) (p : Program) (s : State) (m : MethodId) (c : Code) : Prop :=
  p.tables.exec = Jvm.exec ∧ c.code = cc ∧ c.maxLocals = nL ∧ s.vm.findClass own = some m.cls ∧ E.2.2.2.2.1.WarmedH s.vm ∧ KE E
theorem wd_b {E : Ev} {s : State} {args : Array Value} (K : KE E) (hW : E.2.2.2.2.1.WarmedH s.vm) {w : Cond} (h : w ∈ TB) : w.before args s = true := by
  obtain ⟨⟨a0, h0⟩, -⟩ := K
  have h1 := List.mem_filter.mp h
  exact word_at hW (good_of_word h1.2) (h0 w h1.1)
theorem tb_in {w : Cond} (i : Nat) (h : lw_tbl[i]? = some w) (hg : goodWord w = true) : w ∈ TB := List.mem_filter.mpr ⟨List.mem_of_getElem? h, hg⟩
theorem wd {E : Ev} {own : String} {cc : ByteArray} {nL : Nat} {p : Program} {s : State} {m : MethodId} {c : Code} {args : Array Value} (C : Cx E own cc nL p s m c) {w : Cond} (h : w ∈ TB) : w.before args s = true := wd_b C.2.2.2.2.2 C.2.2.2.2.1 h
theorem ws_at {E : Ev} {s : State} (K : KE E) (hW : E.2.2.2.2.1.WarmedH s.vm) {y : MethodName} {cc : ByteArray} {nL : Nat} {ret : Option FieldType} (h : Cond.code y cc nL ret ∈ TB) : ∀ w ∈ [Cond.code y cc nL ret], ∀ (a' : Array Value) (U : State), s.WarmedH U.vm → w.before a' U = true := by
  intro w hw a' U hU
  rw [List.mem_singleton] at hw
  subst hw
  exact wd_b K (State.WarmedH.trans hW hU) h
