/-! NUMBERS BY SIMP: comparisons and sums of small numbers, side goals for omega -/
theorem n_lt {a b : Nat} (ha : a < 2 ^ 31) (hb : b < 2 ^ 31) : (nI a < nI b) = (a < b) := by
  refine propext ⟨fun h => ?_, fun h => nI_lt h hb⟩
  exact Decidable.byContradiction fun q => nI_nlt (by omega) ha h
theorem n_le {a b : Nat} (ha : a < 2 ^ 31) (hb : b < 2 ^ 31) : (nI a ≤ nI b) = (a ≤ b) := by
  refine propext ⟨fun h => ?_, fun h => nI_le h hb⟩
  exact Decidable.byContradiction fun q => nI_ge (by omega) ha h
theorem n_eq {a b : Nat} (ha : a < 2 ^ 31) (hb : b < 2 ^ 31) : (nI a = nI b) = (a = b) := propext (nI_eq ha hb)
theorem n_beq {a b : Nat} (ha : a < 2 ^ 31) (hb : b < 2 ^ 31) : (nI a == nI b) = (a == b) := by
  rw [Bool.eq_iff_iff, beq_iff_eq, beq_iff_eq, nI_eq ha hb]
theorem n_add (a b : Nat) : nI a + nI b = nI (a + b) := nI_add a b
theorem n_sub {a b : Nat} (h : b ≤ a) : nI a - nI b = nI (a - b) := pk_sub h
theorem n_mul (a b : Nat) : nI a * nI b = nI (a * b) := pk_mul a b
theorem n_dec {a b : Nat} (h : b ≤ a) : nI a + -nI b = nI (a - b) := by
  rw [← pk_sub h, Int32.sub_eq_add_neg]
theorem n_in {N k : Nat} (hk : k < N) (hN : N < 2 ^ 31) : inb N (nI k) = true := inb_t hk hN
theorem n_neg {a b : Nat} (ha : a < 2 ^ 30) (hb : b < 2 ^ 31) (h0 : 0 < a) : (-nI a < nI b) = True := by
  refine eq_true ?_
  have h1 : -nI a < 0 := by
    have := pk_sneg (a := 0) ha h0
    rwa [show nI 0 - nI a = -nI a from Int32.zero_sub _] at this
  exact Int32.lt_of_lt_of_le h1 (nI_le (a := 0) (Nat.zero_le _) hb)
theorem m_31 {g : Nat} : nI (g &&& 31) = nI g &&& 31 := (m_and g 31).symm
theorem m_pow {g : Nat} (hg : g < 32) : nI 1 <<< nI (g &&& 31) = nI (2 ^ g) := by rw [m_31]; exact m_one hg
theorem m_bit {m g : Nat} (hg : g < 31) (hm : m < 1024) : ((nI m >>> nI (g &&& 31)) &&& nI 1) = nI (if m.testBit g = true then 1 else 0) := by
  rw [m_31, show nI 1 = 1 from rfl, m_in hg hm]
  split <;> rfl
theorem m_dif {a b : Nat} (ha : a < 1024) (hb : b < 1024) : nI a &&& (nI b ^^^ -nI 1) = nI (mdiff a b) := m_diff ha hb
/-- an answer yes or no -/
def yn (b : Bool) : Int32 := nI (if b then 1 else 0)
theorem yn_0 (b : Bool) : (yn b = nI 0) = (b = false) := by cases b <;> simp [yn, n_eq]
theorem yn_1 (b : Bool) : (yn b = nI 1) = (b = true) := by cases b <;> simp [yn, n_eq]
theorem yn_d (b : Bool) : nI (if b = true then 1 else 0) = yn b := rfl
theorem yn_f : nI 0 = yn false := rfl
theorem yn_t : nI 1 = yn true := rfl
theorem yn_z (b : Bool) : zok (yn b) = true := by cases b <;> decide
theorem yn_i (b : Bool) : (if b = true then (1 : Int32) else 0) = yn b := by cases b <;> rfl
theorem yn_p (p : Prop) [Decidable p] : (if p then nI 1 else nI 0) = yn (decide p) := by by_cases h : p <;> simp [h, yn]
theorem lit (n : Nat) : (OfNat.ofNat n : Int32) = nI (OfNat.ofNat n) := rfl
theorem iteS {α : Type} {p : Prop} [Decidable p] (x y : α) : (if p then some x else some y) = some (if p then x else y) := by by_cases h : p <;> simp [h]
theorem gp1 {α : Type} (x : Option α) : gp true x = x := rfl
theorem rl1 {α : Type} (b : Nat) (k : Nat → Option α) : rl (some (.inl b)) k = k b := rfl
theorem rs1 {α : Type} (b : Nat) (k : Nat → Option α) : rs (some (.inr b)) k = k b := rfl
theorem bd1 {α β : Type} (x : α) (k : α → Option β) : bd (some x) k = k x := rfl
theorem lt1 {α β : Type} (v : α) (k : α → Option β) : lt v k = k v := rfl
