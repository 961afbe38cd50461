/-! NUMBERS BY SIMP: comparisons and sums of small numbers, side goals for omega -/
theorem n_lt {a b : Nat} (ha : a < 2 ^ 31) (hb : b < 2 ^ 31) : (nI a < nI b) = (a < b) := by
  refine propext ⟨fun h => ?_, fun h => nI_lt h hb⟩
  exact Decidable.byContradiction fun q => nI_nlt (by omega) ha h
theorem n_le {a b : Nat} (ha : a < 2 ^ 31) (hb : b < 2 ^ 31) : (nI a ≤ nI b) = (a ≤ b) := by
  refine propext ⟨fun h => ?_, fun h => nI_le h hb⟩
  exact Decidable.byContradiction fun q => nI_ge (by omega) ha h
theorem n_eq {a b : Nat} (ha : a < 2 ^ 31) (hb : b < 2 ^ 31) : (nI a = nI b) = (a = b) := propext (nI_eq ha hb)
theorem n_beq {a b : Nat} (ha : a < 2 ^ 31) (hb : b < 2 ^ 31) : (nI a == nI b) = (a == b) := by
  rw [Bool.eq_iff_iff, beq_iff_eq, beq_iff_eq, nI_eq ha hb]
theorem n_add (a b : Nat) : nI a + nI b = nI (a + b) := nI_add a b
theorem n_sub {a b : Nat} (h : b ≤ a) : nI a - nI b = nI (a - b) := pk_sub h
theorem n_mul (a b : Nat) : nI a * nI b = nI (a * b) := pk_mul a b
theorem n_dec {a b : Nat} (h : b ≤ a) : nI a + -nI b = nI (a - b) := by
  rw [← pk_sub h, Int32.sub_eq_add_neg]
theorem n_in {N k : Nat} (hk : k < N) (hN : N < 2 ^ 31) : inb N (nI k) = true := inb_t hk hN
theorem n_neg {a b : Nat} (ha : a < 2 ^ 30) (hb : b < 2 ^ 31) (h0 : 0 < a) : (-nI a < nI b) = True := by
  refine eq_true ?_
  have h1 : -nI a < 0 := by
    have := pk_sneg (a := 0) ha h0
    rwa [show nI 0 - nI a = -nI a from Int32.zero_sub _] at this
  exact Int32.lt_of_lt_of_le h1 (nI_le (a := 0) (Nat.zero_le _) hb)
theorem one31 : nI (1 &&& 31) = nI 1 := rfl
theorem m_31 {g : Nat} : nI (g &&& 31) = nI g &&& 31 := (m_and g 31).symm
theorem m_pow {g : Nat} (hg : g < 32) : nI 1 <<< nI (g &&& 31) = nI (2 ^ g) := by rw [m_31]; exact m_one hg
theorem m_bit {m g : Nat} (hg : g < 31) (hm : m < 1024) : ((nI m >>> nI (g &&& 31)) &&& nI 1) = nI (if m.testBit g = true then 1 else 0) := by
  rw [m_31, show nI 1 = 1 from rfl, m_in hg hm]
  split <;> rfl
theorem m_dif {a b : Nat} (ha : a < 1024) (hb : b < 1024) : nI a &&& (nI b ^^^ -nI 1) = nI (mdiff a b) := m_diff ha hb
/-- an answer yes or no -/
def yn (b : Bool) : Int32 := nI (if b then 1 else 0)
theorem yn_0 (b : Bool) : (yn b = nI 0) = (b = false) := by cases b <;> simp [yn, n_eq]
theorem yn_1 (b : Bool) : (yn b = nI 1) = (b = true) := by cases b <;> simp [yn, n_eq]
theorem yn_d (b : Bool) : nI (if b = true then 1 else 0) = yn b := rfl
theorem yn_f : nI 0 = yn false := rfl
theorem yn_t : nI 1 = yn true := rfl
theorem yn_z (b : Bool) : zok (yn b) = true := by cases b <;> decide
theorem yn_i (b : Bool) : (if b = true then (1 : Int32) else 0) = yn b := by cases b <;> rfl
theorem yn_p (p : Prop) [Decidable p] : (if p then nI 1 else nI 0) = yn (decide p) := by by_cases h : p <;> simp [h, yn]
theorem lit (n : Nat) : (OfNat.ofNat n : Int32) = nI (OfNat.ofNat n) := rfl
theorem iteS {α : Type} {p : Prop} [Decidable p] (x y : α) : (if p then some x else some y) = some (if p then x else y) := by by_cases h : p <;> simp [h]
theorem gp1 {α : Type} (x : Option α) : gp true x = x := rfl
theorem rl1 {α : Type} (b : Nat) (k : Nat → Option α) : rl (some (.inl b)) k = k b := rfl
theorem rs1 {α : Type} (b : Nat) (k : Nat → Option α) : rs (some (.inr b)) k = k b := rfl
theorem bd1 {α β : Type} (x : α) (k : α → Option β) : bd (some x) k = k x := rfl
theorem lt1 {α β : Type} (v : α) (k : α → Option β) : lt v k = k v := rfl
theorem j_add {a b : Nat} (h : a + b < 2 ^ 31) : jmax (nI 0) (nI a + nI b) = nI (a + b) := by
  rw [n_add, jmax]
  by_cases e : nI 0 < nI (a + b)
  · rw [if_pos e]
  · rw [n_lt (by omega) h] at e
    rw [if_neg (by rw [n_lt (by omega) h]; exact e), show a + b = 0 by omega]
theorem j_sub {a b : Nat} (ha : a < 2 ^ 30) (hb : b < 2 ^ 30) : jmax (nI 0) (nI a - nI b) = nI (a - b) := by
  unfold jmax
  rcases Nat.lt_or_ge a b with h | h
  · rw [if_neg, Nat.sub_eq_zero_of_le (by omega)]
    exact fun q => Int32.lt_irrefl (Int32.lt_trans q (pk_sneg hb h))
  · rw [pk_sub h]
    by_cases e : 0 < a - b
    · rw [if_pos (by rw [n_lt (by omega) (by omega)]; exact e)]
    · rw [if_neg (by rw [n_lt (by omega) (by omega)]; exact e), show a - b = 0 by omega]
theorem j_neg {a b : Nat} (ha : a < 2 ^ 30) (hb : b < 2 ^ 30) : jmax (nI 0) (nI a + -nI b) = nI (a - b) := by
  rw [← Int32.sub_eq_add_neg]; exact j_sub ha hb
theorem j_00 {a : Nat} (h : a < 2 ^ 31) : jmax (nI 0) (nI a) = nI a := by
  have := j_add (a := 0) (b := a) (by omega)
  rwa [n_add, Nat.zero_add] at this
theorem n_div {a : Nat} (ha : a < 2 ^ 31) : nI a / nI 2 = nI (a / 2) := by
  apply Int32.toInt_inj.mp
  rw [Int32.toInt_div, nI, nI, nI, Int32.toInt_ofNat_of_lt ha, Int32.toInt_ofNat_of_lt (by decide), Int32.toInt_ofNat_of_lt (by omega)]
  have : ((a : Int).tdiv (2 : Nat)) = ((a / 2 : Nat) : Int) := by
    rw [Int.ofNat_tdiv]
  rw [this]
  exact Int.bmod_eq_of_le (by omega) (by omega)
/-- piles of bits -/
def enc : List Bool → Nat
  | [] => 1
  | b :: t => 2 * enc t + (if b then 1 else 0)
theorem enc_lt : ∀ st : List Bool, enc st < 2 ^ (st.length + 1)
  | [] => by decide
  | b :: t => by
    have := enc_lt t
    rw [enc, List.length_cons, Nat.pow_succ]
    split <;> omega
theorem tb2 (m : Nat) (b : Bool) (i : Nat) : (2 * m + (if b then 1 else 0)).testBit i = if i = 0 then b else m.testBit (i - 1) := by
  cases i with
  | zero => cases b <;> simp [Nat.testBit_zero]
  | succ i =>
    rw [Nat.testBit_succ, show (2 * m + (if b then 1 else 0)) / 2 = m by cases b <;> simp <;> omega]
    simp
theorem b_sr1 {m : Nat} (hm : m < 2 ^ 30) {i : Nat} (hi : i < 32) : bt (nI m >>> nI 1) i = m.testBit (i + 1) := by
  rw [show nI 1 = nI 1 &&& 31 from by decide, b_sshr 1 (by decide) _ hi]
  have big : ∀ j, 31 ≤ j → m.testBit j = false := fun j hj => Nat.testBit_lt_two_pow (Nat.lt_of_lt_of_le hm (Nat.pow_le_pow_right (by decide) (by omega)))
  by_cases h : 1 + i < 32
  · rw [if_pos h, bt_nI _ h, Nat.add_comm]
  · rw [if_neg h, bt_nI _ (by decide), big 31 (by decide), big (i + 1) (by omega)]
theorem enc_or {y x : Bool} {t : List Bool} (h : t.length ≤ 20) : nI (enc (y :: x :: t)) >>> nI 1 ||| nI (enc (y :: x :: t) &&& 1) = nI (enc ((x || y) :: t)) := by
  have hb : enc (y :: x :: t) < 2 ^ 30 := Nat.lt_of_lt_of_le (enc_lt _) (Nat.pow_le_pow_right (by decide) (by simp; omega))
  refine b_ext fun i hi => ?_
  rw [b_or, b_sr1 hb hi, bt_nI _ hi, bt_nI _ hi, Nat.testBit_and, enc, enc, enc]
  simp only [tb2, Nat.add_sub_cancel, Nat.succ_ne_zero, if_false]
  by_cases h0 : i = 0
  · subst h0; simp
  · have h1 : Nat.testBit 1 i = false := by
      rw [show (1 : Nat) = 2 ^ 0 from rfl, Nat.testBit_two_pow]; simp; omega
    simp [h0, h1]
theorem enc_and {y x : Bool} {t : List Bool} (h : t.length ≤ 20) : nI (enc (y :: x :: t)) >>> nI 1 &&& (nI (enc (y :: x :: t)) ||| -nI 2) = nI (enc ((x && y) :: t)) := by
  have hb : enc (y :: x :: t) < 2 ^ 30 := Nat.lt_of_lt_of_le (enc_lt _) (Nat.pow_le_pow_right (by decide) (by simp; omega))
  refine b_ext fun i hi => ?_
  have hm : bt (-nI 2) i = decide (i ≠ 0) := (by decide +kernel : ∀ i, i < 32 → bt (-nI 2) i = decide (i ≠ 0)) i hi
  rw [b_and, b_or, b_sr1 hb hi, bt_nI _ hi, bt_nI _ hi, hm, enc, enc, enc]
  simp only [tb2, Nat.add_sub_cancel, Nat.succ_ne_zero, if_false]
  by_cases h0 : i = 0
  · subst h0; simp
  · simp [h0]
theorem enc_not {x : Bool} {t : List Bool} : nI (enc (x :: t)) ^^^ nI 1 = nI (enc ((!x) :: t)) := by
  refine b_ext fun i hi => ?_
  rw [b_xor, bt_nI _ hi, bt_nI _ hi, bt_nI _ hi, enc, enc, tb2, tb2]
  by_cases h0 : i = 0
  · subst h0; simp
  · have h1 : Nat.testBit 1 i = false := by
      rw [show (1 : Nat) = 2 ^ 0 from rfl, Nat.testBit_two_pow]; simp; omega
    simp [h0, h1]
theorem enc_cmp {b : Bool} {t : List Bool} : nI (enc t) <<< nI 1 ||| yn b = nI (enc (b :: t)) := by
  refine b_ext fun i hi => ?_
  rw [b_or, show nI (enc t) <<< nI 1 = nI (enc t) <<< (nI 1 &&& 31) from by rw [show (nI 1 &&& 31) = nI 1 from by decide], b_shl 1 (by decide) _ hi, bt_nI _ hi, enc, tb2, yn, bt_nI _ hi]
  by_cases h0 : i = 0
  · subst h0; cases b <;> simp
  · have h1 : Nat.testBit (if b = true then 1 else 0) i = false := by
      cases b
      · simp
      · simp only [if_true]
        rw [show (1 : Nat) = 2 ^ 0 from rfl, Nat.testBit_two_pow]; simp; omega
    rw [h1, bt_nI _ (by omega)]
    simp [h0]; omega
theorem enc_1 (st : List Bool) : nI (enc st &&& 1) = yn (st.headD true) := by
  cases st with
  | nil => rfl
  | cons b t =>
    rw [enc, Nat.and_one_is_mod]
    cases b <;> simp [yn]
